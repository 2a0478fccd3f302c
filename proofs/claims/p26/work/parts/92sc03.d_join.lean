/-! two groups joined: both sides -/
/-- joined, by the reference's memory: line l has c, its group p goes into spot k2, which then has s -/
def JOI (l p c k2 : Nat) (s : Int) (J J' : IMem) : Prop := ∀ q j, J' q j = if q = 1 ∧ j = 130 + l then (c : Int) - 1 else if q = 1 ∧ 140 + 6 * (40 * l + p) ≤ j ∧ j < 140 + 6 * (40 * l + c - 1) then (if j + 6 = 140 + 6 * k2 + 1 ∨ j + 6 = 140 + 6 * k2 + 2 then s else J 1 (j + 6)) else if q = 1 ∧ (j = 140 + 6 * k2 + 1 ∨ j = 140 + 6 * k2 + 2) then s else J q j
/-- joined, by the dream's -/
def JOC (l p c k2 : Nat) (s : Int) (I I' : IMem) : Prop := ∀ q j, I' q j = if q = 90 ∧ j = l then (c : Int) - 1 else if q = 89 ∧ 6 * (40 * l + p) ≤ j ∧ j < 6 * (40 * l + c - 1) then (if j + 6 = 6 * k2 + 1 ∨ j + 6 = 6 * k2 + 2 then s else I 89 (j + 6)) else if q = 89 ∧ (j = 6 * k2 + 1 ∨ j = 6 * k2 + 2) then s else I q j
section
variable {fu : Nat} {I J I' J' : IMem} {l p c k2 : Nat} {s : Int}
theorem joi_o (h : JOI l p c k2 s J J') (hl : l < 6) (hk : k2 < 240) (hc : c ≤ 40) (q j : Nat) (hq : ¬ (q = 1 ∧ 130 ≤ j ∧ j < 1580)) : J' q j = J q j := by
  unfold JOI at h
  rw [h, if_neg (by omega), if_neg (by omega), if_neg (by omega)]
theorem joc_o (h : JOC l p c k2 s I I') (q j : Nat) (hq : q ≠ 89 ∧ q ≠ 90) : I' q j = I q j := by
  unfold JOC at h
  rw [h, if_neg (by omega), if_neg (by omega), if_neg (by omega)]
theorem joi_c (h : JOI l p c k2 s J J') (hl : l < 6) (hcJ : J 1 (130 + l) = (c : Int)) {l' : Nat} (hl' : l' < 6) : J' 1 (130 + l') = if l' = l then (c : Int) - 1 else J 1 (130 + l') := by
  unfold JOI at h
  rw [h]
  by_cases y : l' = l
  · rw [if_pos (by omega), if_pos y]
  · rw [if_neg (by omega), if_neg (by omega), if_neg (by omega), if_neg y]
theorem hl_join (hL : HL 82 1 I J) (hl : l < 6) (hp : p < c) (hc : c ≤ 40) (hcJ : J 1 (130 + l) = (c : Int)) (hi : JOC l p c k2 s I I') (hj : JOI l p c k2 s J J') : HL 82 1 I' J' := by
  intro l' hl'
  obtain ⟨b1, b2, b3⟩ := hL l' hl'
  have e := joi_c hj hl hcJ hl'
  unfold JOC at hi
  unfold JOI at hj
  have ei : I' (82 + 8) l' = if l' = l then (c : Int) - 1 else J 1 (130 + l') := by
    rw [hi]
    by_cases y : l' = l
    · rw [if_pos ⟨rfl, y⟩, if_pos y]
    · rw [if_neg (by omega), if_neg (by omega), if_neg (by omega), if_neg y]; exact b1
  refine ⟨ei.trans e.symm, ?_, fun p' f hp' hf => ?_⟩
  · rw [e]
    by_cases y : l' = l
    · rw [if_pos y]; omega
    · rw [if_neg y]; exact b2
  · have lt : (p' : Int) < J 1 (130 + l') := by
      rw [e] at hp'
      by_cases y : l' = l
      · rw [if_pos y] at hp'; rw [y, hcJ]; omega
      · rw [if_neg y] at hp'; exact hp'
    have p40 : p' < 40 := by omega
    rw [hi, hj, if_neg (show ¬ (82 + 7 = 90 ∧ 6 * (40 * l' + p') + f = l) by omega), if_neg (show ¬ (1 = 1 ∧ 140 + 6 * (40 * l' + p') + f = 130 + l) by omega)]
    by_cases y : 6 * (40 * l + p) ≤ 6 * (40 * l' + p') + f ∧ 6 * (40 * l' + p') + f < 6 * (40 * l + c - 1)
    · rw [if_pos (show 82 + 7 = 89 ∧ 6 * (40 * l + p) ≤ 6 * (40 * l' + p') + f ∧ 6 * (40 * l' + p') + f < 6 * (40 * l + c - 1) from ⟨rfl, y⟩), if_pos (show 1 = 1 ∧ 140 + 6 * (40 * l + p) ≤ 140 + 6 * (40 * l' + p') + f ∧ 140 + 6 * (40 * l' + p') + f < 140 + 6 * (40 * l + c - 1) by omega)]
      have ll : l' = l := by omega
      have g := hl_r (l := l) (p := p' + 1) (f := f) hL hl (by rw [hcJ]; omega) hf
      by_cases z : 6 * (40 * l' + p') + f + 6 = 6 * k2 + 1 ∨ 6 * (40 * l' + p') + f + 6 = 6 * k2 + 2
      · rw [if_pos z, if_pos (by omega)]
      · rw [if_neg z, if_neg (by omega)]
        rw [ll]
        rw [show 6 * (40 * l + p') + f + 6 = 6 * (40 * l + (p' + 1)) + f by omega, show 140 + 6 * (40 * l + p') + f + 6 = 140 + 6 * (40 * l + (p' + 1)) + f by omega]
        exact g
    · rw [if_neg (fun x => y x.2), if_neg (show ¬ (1 = 1 ∧ 140 + 6 * (40 * l + p) ≤ 140 + 6 * (40 * l' + p') + f ∧ 140 + 6 * (40 * l' + p') + f < 140 + 6 * (40 * l + c - 1)) by omega)]
      by_cases z : 6 * (40 * l' + p') + f = 6 * k2 + 1 ∨ 6 * (40 * l' + p') + f = 6 * k2 + 2
      · rw [if_pos (show 82 + 7 = 89 ∧ (6 * (40 * l' + p') + f = 6 * k2 + 1 ∨ 6 * (40 * l' + p') + f = 6 * k2 + 2) from ⟨rfl, z⟩), if_pos (show 1 = 1 ∧ (140 + 6 * (40 * l' + p') + f = 140 + 6 * k2 + 1 ∨ 140 + 6 * (40 * l' + p') + f = 140 + 6 * k2 + 2) by omega)]
      · rw [if_neg (fun x => z x.2), if_neg (show ¬ (1 = 1 ∧ (140 + 6 * (40 * l' + p') + f = 140 + 6 * k2 + 1 ∨ 140 + 6 * (40 * l' + p') + f = 140 + 6 * k2 + 2)) by omega)]
        exact b3 p' f lt hf
theorem hx_join (h : HX 82 I J) (hl : l < 6) (hk : k2 < 240) (hp : p < c) (hc : c ≤ 40) (hcJ : J 1 (130 + l) = (c : Int)) (hi : JOC l p c k2 s I I') (hj : JOI l p c k2 s J J') : HX 82 I' J' := by
  obtain ⟨⟨hS, hY, hP, hL, hW⟩, h11, hA⟩ := h
  have io := joc_o hi
  have jo := joi_o hj hl hk hc
  refine ⟨⟨hs_mv hS (fun d j q => io _ _ (by omega)) (fun j q => jo _ _ (by omega)), hy_mv hY (fun j => io _ _ (by omega)) (fun j a b => jo _ _ (by omega)), hp_mv hP (fun j => ⟨io _ _ (by omega), io _ _ (by omega)⟩) (fun j q => jo _ _ (by omega)), hl_join hL hl hp hc hcJ hi hj, hw_mv hW (fun d j a b q => io _ _ (by omega)) (fun j a b => jo _ _ (by omega))⟩, ?_, ?_, ?_⟩
  · rw [io _ _ (by omega), jo _ _ (by omega)]; exact h11
  · rw [io _ _ (by omega)]; exact hA.1
  · rw [io _ _ (by omega)]; exact hA.2
/-- where a group stood before two joined -/
def srcJ (l p k : Nat) : Nat := if k / 40 = l ∧ p ≤ k % 40 then k + 1 else k
theorem joi_src (hl : l < 6) (hp : p < c) (hc : c ≤ 40) (hcJ : J 1 (130 + l) = (c : Int)) (hj : JOI l p c k2 s J J') {k : Nat} (hk : INL J' k) : INL J (srcJ l p k) ∧ srcJ l p k ≠ 40 * l + p ∧ J' 1 (140 + 6 * k) = J 1 (140 + 6 * srcJ l p k) ∧ (k / 40 = l → k % 40 < 39) := by
  obtain ⟨k1, k3⟩ := hk
  have e := joi_c hj hl hcJ (show k / 40 < 6 by omega)
  rw [e] at k3
  unfold JOI at hj
  unfold srcJ
  by_cases y : k / 40 = l
  · rw [if_pos y] at k3
    by_cases z : p ≤ k % 40
    · rw [if_pos ⟨y, z⟩]
      refine ⟨⟨by omega, ?_⟩, by omega, ?_, fun _ => by omega⟩
      · rw [show (k + 1) / 40 = l by omega, hcJ]; omega
      · rw [hj, if_neg (by omega), if_pos (by omega), if_neg (by omega)]
        exact congrArg (J 1) (by omega)
    · rw [if_neg (fun x => z x.2)]
      refine ⟨⟨k1, by rw [y, hcJ]; omega⟩, by omega, ?_, fun _ => by omega⟩
      rw [hj, if_neg (by omega), if_neg (by omega), if_neg (by omega)]
  · rw [if_neg y] at k3
    rw [if_neg (fun x => y x.1)]
    refine ⟨⟨k1, k3⟩, by omega, ?_, fun z => absurd z y⟩
    rw [hj, if_neg (by omega), if_neg (by omega), if_neg (by omega)]
theorem src_inj {l p a b : Nat} (h : srcJ l p a = srcJ l p b) (ha : a < 240) (hb : b < 240) (ha2 : srcJ l p a < 240) (hb2 : srcJ l p b < 240) (hna : srcJ l p a ≠ 40 * l + p) (hnb : srcJ l p b ≠ 40 * l + p) (hla : a / 40 = l → a % 40 < 39) (hlb : b / 40 = l → b % 40 < 39) (hp : p < 40) : a = b := by
  unfold srcJ at *
  by_cases x : a / 40 = l ∧ p ≤ a % 40
  · rw [if_pos x] at h ha2 hna
    have xa := hla x.1
    by_cases y : b / 40 = l ∧ p ≤ b % 40
    · rw [if_pos y] at h hb2 hnb; omega
    · rw [if_neg y] at h hb2 hnb; omega
  · rw [if_neg x] at h ha2 hna
    by_cases y : b / 40 = l ∧ p ≤ b % 40
    · have yb := hlb y.1
      rw [if_pos y] at h hb2 hnb; omega
    · rw [if_neg y] at h hb2 hnb; exact h
theorem nuq_join (hU : NUQ J) (hl : l < 6) (hp : p < c) (hc : c ≤ 40) (hcJ : J 1 (130 + l) = (c : Int)) (hj : JOI l p c k2 s J J') : NUQ J' := by
  intro a b ha hb e
  obtain ⟨a1, a2, a3, a4⟩ := joi_src hl hp hc hcJ hj ha
  obtain ⟨b1, b2, b3, b4⟩ := joi_src hl hp hc hcJ hj hb
  exact src_inj (hU _ _ a1 b1 (a3.symm.trans (e.trans b3))) ha.1 hb.1 a1.1 b1.1 a2 b2 a4 b4 (by omega)
theorem std_join {N : Int} (hl : l < 6) (hp : p < c) (hc : c ≤ 40) (hcJ : J 1 (130 + l) = (c : Int)) (hj : JOI l p c k2 s J J') (hin : INL J k2) (hne : k2 ≠ 40 * l + p) (e : J 1 (140 + 6 * k2) = N) : STD N J' := by
  have jc := fun (l' : Nat) (hl' : l' < 6) => joi_c hj hl hcJ hl'
  unfold JOI at hj
  obtain ⟨k1, k3⟩ := hin
  by_cases y : k2 / 40 = l
  · rw [y, hcJ] at k3
    by_cases z : p < k2 % 40
    · refine ⟨k2 - 1, ⟨by omega, ?_⟩, ?_⟩
      · rw [show (k2 - 1) / 40 = l by omega, jc l hl, if_pos rfl]; omega
      · rw [hj, if_neg (by omega), if_pos (by omega), if_neg (by omega), ← e]
        exact congrArg (J 1) (by omega)
    · refine ⟨k2, ⟨k1, ?_⟩, ?_⟩
      · rw [y, jc l hl, if_pos rfl]; omega
      · rw [hj, if_neg (by omega), if_neg (by omega), if_neg (by omega)]; exact e
  · refine ⟨k2, ⟨k1, ?_⟩, ?_⟩
    · rw [jc (k2 / 40) (by omega), if_neg y]; exact k3
    · rw [hj, if_neg (by omega), if_neg (by omega), if_neg (by omega)]; exact e
end
section
variable {fu : Nat} {Q : Int → IMem → Prop}
theorem par_zwu {I : IMem} {o j : Nat} {v : Int} {k : IMem → Res} (h : par (k (up I o j v)) Q) : par (zw I o j v k) Q := h
theorem xv_j85 (kk : IMem → Res) {l p : Nat} (hl : l < 6) (hp : p + 1 < 40) (p5 : Int) {J0 : IMem} (hz : 1 ≤ J0 1 (141 + 6 * (40 * l + p + 1)) ∧ J0 1 (141 + 6 * (40 * l + p + 1)) ≤ 8) (hk : ∀ J, GX 0 J → (∀ q j, J q j = if q = 1 ∧ 140 + 6 * (40 * l + p) ≤ j ∧ j < 140 + 6 * (40 * l + p) + 6 then J0 1 (j + 6) else J0 q j) → par (kk J) Q) : ∀ (m f : Nat) (J : IMem), f ≤ 6 → GX 0 J → (∀ q j, J q j = if q = 1 ∧ 140 + 6 * (40 * l + p) ≤ j ∧ j < 140 + 6 * (40 * l + p) + f then J0 1 (j + 6) else J0 q j) → par (f_X_joined_85 fu kk 0 (l : Int) p5 (p : Int) m (f : Int) J) Q := by
  intro m
  induction m with
  | zero => intro _ _ _ _ _; exact par_none
  | succ m ih =>
    intro f J hf hG hJ
    show par (fb_X_joined_85 fu kk 0 (l : Int) p5 (p : Int) (f_X_joined_85 fu kk 0 (l : Int) p5 (p : Int) m) (f : Int) J) Q
    unfold fb_X_joined_85
    by_cases h : f < 6
    · have w1 : Wq (wr32 ((p : Int) + 1)) (((p + 1 : Nat) : Int)) := by show wr32 ((p : Int) + 1) = ((p + 1 : Nat) : Int); rw [wr32_i2 (by omega) (by omega)]; rfl
      have w2 : Wq (wr32 (((140 + 6 * (40 * l + p) : Nat) : Int) + (f : Int))) (((140 + 6 * (40 * l + p) + f : Nat) : Int)) := by show wr32 (((140 + 6 * (40 * l + p) : Nat) : Int) + (f : Int)) = ((140 + 6 * (40 * l + p) + f : Nat) : Int); rw [wr32_i2 (by omega) (by omega)]; omega
      have w3 : Wq (wr32 ((f : Int) + 1)) (((f + 1 : Nat) : Int)) := by show wr32 ((f : Int) + 1) = ((f + 1 : Nat) : Int); rw [wr32_i2 (by omega) (by omega)]; rfl
      rw [if_pos (show (f : Int) < 6 by omega), ev_cell fu l p J hl (by omega), zb_zr, w1.e, ev_of fu 0 l (p + 1) f J hl hp h, zb_zr]
      simp only [zl_e]
      rw [w2.e, w3.e]
      refine par_zg (fun _ => ?_)
      have v : J (0 + 1) (140 + 6 * (40 * l + (p + 1)) + f) = J0 1 (140 + 6 * (40 * l + p) + f + 6) := by
        rw [hJ, if_neg (by omega)]
        exact congrArg (J0 1) (by omega)
      have iv1 : inr (J0 1 (140 + 6 * (40 * l + p) + f + 6)) := by rw [← v]; exact hG.1 _ _
      rw [v]
      have cw : CW J (0 + 1) ((140 + 6 * (40 * l + p) + f : Nat) : Int).toNat (J0 1 (140 + 6 * (40 * l + p) + f + 6)) := by
        rw [show ((140 + 6 * (40 * l + p) + f : Nat) : Int).toNat = 140 + 6 * (40 * l + p) + f from rfl]
        by_cases y : f = 1
        · rw [y, show 140 + 6 * (40 * l + p) + 1 + 6 = 141 + 6 * (40 * l + p + 1) by omega]
          exact cw_sz (by omega)
        · exact cw_grp (by omega)
      refine par_zwu (ih (f + 1) _ h (GX_up1 hG iv1 cw) (fun q j => ?_))
      show (if q = 0 + 1 ∧ j = 140 + 6 * (40 * l + p) + f then J0 1 (140 + 6 * (40 * l + p) + f + 6) else J q j) = _
      by_cases y : q = 0 + 1 ∧ j = 140 + 6 * (40 * l + p) + f
      · rw [if_pos y, if_pos (by omega), y.2]
      · rw [if_neg y, hJ]
        by_cases z : q = 1 ∧ 140 + 6 * (40 * l + p) ≤ j ∧ j < 140 + 6 * (40 * l + p) + f
        · rw [if_pos z, if_pos (by omega)]
        · rw [if_neg z, if_neg (by omega)]
    · rw [if_neg (show ¬ (f : Int) < 6 by omega)]
      have : f = 6 := by omega
      subst this
      exact hk J hG hJ
theorem xv_j65 (kk : IMem → Res) {l p c : Nat} (hl : l < 6) (hc : c ≤ 40) (p5 : Int) {J0 : IMem} (hcJ : J0 1 (130 + l) = (c : Int)) (hz : ∀ p' : Nat, p' < c → 1 ≤ J0 1 (141 + 6 * (40 * l + p')) ∧ J0 1 (141 + 6 * (40 * l + p')) ≤ 8) (hk : ∀ J, GX 0 J → (∀ q j, J q j = if q = 1 ∧ 140 + 6 * (40 * l + p) ≤ j ∧ j < 140 + 6 * (40 * l + c - 1) then J0 1 (j + 6) else J0 q j) → par (kk J) Q) : ∀ (m i : Nat) (J : IMem), p ≤ i → i + 1 ≤ c → GX 0 J → (∀ q j, J q j = if q = 1 ∧ 140 + 6 * (40 * l + p) ≤ j ∧ j < 140 + 6 * (40 * l + i) then J0 1 (j + 6) else J0 q j) → par (f_X_joined_65 fu kk 0 (l : Int) p5 m (i : Int) J) Q := by
  intro m
  induction m with
  | zero => intro _ _ _ _ _ _; exact par_none
  | succ m ih =>
    intro i J hi hic hG hJ
    show par (fb_X_joined_65 fu kk 0 (l : Int) p5 (f_X_joined_65 fu kk 0 (l : Int) p5 m) (i : Int) J) Q
    unfold fb_X_joined_65
    have w1 : Wq (wr32 ((i : Int) + 1)) (((i + 1 : Nat) : Int)) := by show wr32 ((i : Int) + 1) = ((i + 1 : Nat) : Int); rw [wr32_i2 (by omega) (by omega)]; rfl
    simp only [zl_e]
    rw [w1.e, w_130 l hl]
    have a1 : J (0 + 1) ((130 + l : Nat) : Int).toNat = (c : Int) := by
      show J 1 (130 + l) = _
      rw [hJ, if_neg (by omega)]; exact hcJ
    rw [a1]
    refine par_zg (fun _ => ?_)
    by_cases h : i + 1 < c
    · rw [if_pos (show ((i + 1 : Nat) : Int) < (c : Int) by omega)]
      have sz : J 1 (141 + 6 * (40 * l + i + 1)) = J0 1 (141 + 6 * (40 * l + (i + 1))) := by
        rw [hJ, if_neg (by omega)]
        exact congrArg (J0 1) (by omega)
      refine xv_j85 _ hl (by omega) p5 (J0 := J) (by rw [sz]; exact hz (i + 1) h) (fun J1 hG1 e1 => ?_) fu 0 J (by decide) hG (fun q j => by rw [if_neg (by omega)])
      refine ih (i + 1) J1 (by omega) (by omega) hG1 (fun q j => ?_)
      rw [e1]
      by_cases y : q = 1 ∧ 140 + 6 * (40 * l + i) ≤ j ∧ j < 140 + 6 * (40 * l + i) + 6
      · rw [if_pos y, if_pos (by omega), hJ, if_neg (by omega)]
      · rw [if_neg y, hJ]
        by_cases z : q = 1 ∧ 140 + 6 * (40 * l + p) ≤ j ∧ j < 140 + 6 * (40 * l + i)
        · rw [if_pos z, if_pos (by omega)]
        · rw [if_neg z, if_neg (by omega)]
    · rw [if_neg (show ¬ ((i + 1 : Nat) : Int) < (c : Int) by omega)]
      have e : 40 * l + c - 1 = 40 * l + i := by omega
      rw [e] at hk
      exact hk J hG hJ
/-- the class's two joined in the dream -/
theorem cv_put (o k f : Nat) (v : Int) (I : IMem) (hk : k < 240) (hf : f < 6) (fi : Int) (hfi : fi = (f : Int)) : par (f_L_put fu o (k : Int) fi v I) (fun _ I' => ∀ q j, I' q j = if q = o + 1 ∧ j = 6 * k + f then v else I q j) := by
  unfold f_L_put
  have w1 : Wq (wr32 (wr32 ((k : Int) * 6) + fi)) (((6 * k + f : Nat) : Int)) := by show wr32 (wr32 ((k : Int) * 6) + fi) = ((6 * k + f : Nat) : Int); rw [wr32_i2 (x := (k : Int) * 6) (by omega) (by omega), wr32_i2 (by omega) (by omega)]; omega
  rw [zl_e, w1.e, if_neg (show ¬ ((6 * k + f : Nat) : Int) < 0 by omega), if_pos (show ((6 * k + f : Nat) : Int) < 1440 by omega)]
  exact par_zg (fun _ => par_zw' (fun I1 e1 => par_zr e1))
theorem cv_join {l p c k2 : Nat} {s : Int} (I : IMem) (hl : l < 6) (hp : p < c) (hc : c ≤ 40) (hcI : I 90 l = (c : Int)) (hk2 : k2 < 240) (hs : Wq (wr32 (I 89 (6 * (40 * l + p) + 1) + I 89 (6 * k2 + 1))) s) : par (f_L_join fu 88 ((40 * l + p : Nat) : Int) (k2 : Int) I) (fun _ I' => JOC l p c k2 s I I') := by
  unfold f_L_join
  rw [ev_get1 fu 88 (40 * l + p) I (by omega), zb_zr, ev_get1 fu 88 k2 I hk2, zb_zr, zl_e]
  have hs' : Wq (wr32 (I (88 + 1) (6 * (40 * l + p) + 1) + I (88 + 1) (6 * k2 + 1))) s := hs
  rw [hs'.e]
  refine par_zb (cv_put (fu := fu) 88 k2 1 s I hk2 (by decide) 1 rfl) (fun _ I1 e1 => par_zb (cv_put (fu := fu) 88 k2 2 s I1 hk2 (by decide) 2 rfl) (fun _ I2 e2 => ?_))
  have f2 : ∀ q j, I2 q j = if q = 89 ∧ (j = 6 * k2 + 1 ∨ j = 6 * k2 + 2) then s else I q j := fun q j => by
    rw [e2]
    by_cases y : q = 88 + 1 ∧ j = 6 * k2 + 2
    · rw [if_pos y, if_pos (by omega)]
    · rw [if_neg y, e1]
      by_cases z : q = 88 + 1 ∧ j = 6 * k2 + 1
      · rw [if_pos z, if_pos (by omega)]
      · rw [if_neg z, if_neg (by omega)]
  clear e1 e2
  have c90 : I2 (88 + 2) l = (c : Int) := by rw [f2, if_neg (by omega)]; exact hcI
  refine par_zb (Q1 := fun _ I' => JOC l p c k2 s I I') ?_ (fun _ _ g => par_zr g)
  unfold f_L_remove
  simp only [zl_e]
  rw [wd40 (40 * l + p) (by omega), wr40 (40 * l + p) (by omega), show (40 * l + p) / 40 = l by omega, show (40 * l + p) % 40 = p by omega, ev_has fu 88 l (p : Int) I2 hl, zb_zr, if_pos (show 0 ≤ (p : Int) ∧ (p : Int) < I2 (88 + 2) l by rw [c90]; omega), if_neg ne10, show ((l : Nat) : Int).toNat = l from rfl, c90]
  have w1 : Wq (wr32 (wr32 ((c : Int) - (p : Int)) - 1)) (((c - p - 1 : Nat) : Int)) := by show wr32 (wr32 ((c : Int) - (p : Int)) - 1) = ((c - p - 1 : Nat) : Int); rw [wr32_i2 (x := (c : Int) - (p : Int)) (by omega) (by omega), wr32_i2 (by omega) (by omega)]; omega
  rw [w1.e]
  have w2 : Wq (wr32 (wr32 (((40 * l + p : Nat) : Int) + 1) * 6)) (((6 * (40 * l + p) + 6 : Nat) : Int)) := by show wr32 (wr32 (((40 * l + p : Nat) : Int) + 1) * 6) = ((6 * (40 * l + p) + 6 : Nat) : Int); rw [wr32_i2 (x := ((40 * l + p : Nat) : Int) + 1) (by omega) (by omega), wr32_i2 (by omega) (by omega)]; omega
  have w3 : Wq (wr32 (((40 * l + p : Nat) : Int) * 6)) (((6 * (40 * l + p) : Nat) : Int)) := by show wr32 (((40 * l + p : Nat) : Int) * 6) = ((6 * (40 * l + p) : Nat) : Int); rw [wr32_i2 (by omega) (by omega)]; omega
  have w4 : Wq (wr32 (((c - p - 1 : Nat) : Int) * 6)) (((6 * (c - p - 1) : Nat) : Int)) := by show wr32 (((c - p - 1 : Nat) : Int) * 6) = ((6 * (c - p - 1) : Nat) : Int); rw [wr32_i2 (by omega) (by omega)]; omega
  rw [w2.e, w3.e, w4.e]
  refine par_zg (fun _ => par_zg (fun _ => par_zc' (fun I3 e3 => par_zg (fun _ => par_zg (fun _ => ?_)))))
  rw [show ((6 * (40 * l + p) + 6 : Nat) : Int).toNat = 6 * (40 * l + p) + 6 from rfl, show ((6 * (40 * l + p) : Nat) : Int).toNat = 6 * (40 * l + p) from rfl, show ((6 * (c - p - 1) : Nat) : Int).toNat = 6 * (c - p - 1) from rfl] at e3
  have c3 : I3 (88 + 2) l = (c : Int) := by rw [e3, if_neg (by omega)]; exact c90
  have w5 : Wq (wr32 ((c : Int) - 1)) ((c : Int) - 1) := wr32_i2 (by omega) (by omega)
  rw [c3, w5.e]
  refine par_zw' (fun I4 e4 => par_zr (fun q j => ?_))
  rw [e4]
  by_cases x : q = 88 + 2 ∧ j = l
  · rw [if_pos x, if_pos (show q = 90 ∧ j = l from x)]
  · rw [if_neg x, if_neg (show ¬ (q = 90 ∧ j = l) from x), e3]
    by_cases y : q = 89 ∧ 6 * (40 * l + p) ≤ j ∧ j < 6 * (40 * l + c - 1)
    · rw [if_pos y, if_pos (show q = 88 + 1 ∧ 6 * (40 * l + p) ≤ j ∧ j < 6 * (40 * l + p) + 6 * (c - p - 1) by omega), f2, show 6 * (40 * l + p) + 6 + (j - 6 * (40 * l + p)) = j + 6 by omega]
      by_cases z : j + 6 = 6 * k2 + 1 ∨ j + 6 = 6 * k2 + 2
      · rw [if_pos z, if_pos ⟨rfl, z⟩]
      · rw [if_neg z, if_neg (fun t => z t.2)] <;> rfl
    · rw [if_neg y, if_neg (show ¬ (q = 88 + 1 ∧ 6 * (40 * l + p) ≤ j ∧ j < 6 * (40 * l + p) + 6 * (c - p - 1)) by omega), f2]
end
