/-! one is parted: the class; a chair's filling, whole -/
theorem ev_plain (fu o k : Nat) (I : IMem) (hk : k < 240) : f_L_isPlainAndTrue fu o (k : Int) I = zr (if I (o + 1) (6 * k + 3) = 0 ∧ I (o + 1) (6 * k + 2) = I (o + 1) (6 * k + 1) then 1 else 0) I := by
  unfold f_L_isPlainAndTrue
  rw [ev_get3 fu o k I hk, zb_zr]
  by_cases h : I (o + 1) (6 * k + 3) = 0
  · rw [if_pos h, ev_get2 fu o k I hk, zb_zr, ev_get1 fu o k I hk, zb_zr]
    by_cases h2 : I (o + 1) (6 * k + 2) = I (o + 1) (6 * k + 1)
    · rw [if_pos h2, if_pos ⟨h, h2⟩]
    · rw [if_neg h2, if_neg (fun q => h2 q.2)]
  · rw [if_neg h, if_neg (fun q => h q.1)]
/-- the greater part that fits, in the class -/
theorem ev_cpart (fu oc hb k : Nat) (I : IMem) (hk : k < 240) (hz : 1 ≤ I (hb + 7) (6 * k + 1) ∧ I (hb + 7) (6 * k + 1) ≤ 8) (ha : 0 ≤ I (hb + 3) (I (hb + 7) (6 * k + 1)).toNat ∧ I (hb + 3) (I (hb + 7) (6 * k + 1)).toNat < I (hb + 7) (6 * k + 1)) : f_C_partThatFits fu oc hb (k : Int) I = zr (if I oc 7 < I (hb + 7) (6 * k + 1) ∧ I (oc + 1) k = 0 ∧ I (hb + 7) (6 * k + 3) = 0 ∧ I (hb + 7) (6 * k + 2) = I (hb + 7) (6 * k + 1) then pz (I (hb + 3) (I (hb + 7) (6 * k + 1)).toNat) (I (hb + 7) (6 * k + 1)) (I oc 7) else 0) I := by
  unfold f_C_partThatFits
  rw [ev_get1 fu (hb + 6) k I hk, zb_zr]
  show (if I oc 7 < I (hb + 7) (6 * k + 1) then _ else _) = _
  by_cases h1 : I oc 7 < I (hb + 7) (6 * k + 1)
  · rw [if_pos h1, ev_cstands fu oc k I hk, zb_zr]
    by_cases h2 : I (oc + 1) k = 0
    · rw [if_pos h2, if_neg (by decide), ev_plain fu (hb + 6) k I hk, zb_zr]
      by_cases h3 : I (hb + 7) (6 * k + 3) = 0 ∧ I (hb + 7) (6 * k + 2) = I (hb + 7) (6 * k + 1)
      · rw [if_pos h3, if_neg (by decide), if_pos ⟨h1, h2, h3⟩]
        simp only [zj_e]
        have e1 : I (hb + 6 + 1) (6 * k + 1) = I (hb + 7) (6 * k + 1) := rfl
        rw [e1, if_neg (by omega), if_neg (by omega), zg_t (by omega)]
        generalize I (hb + 7) (6 * k + 1) = z at hz ha h1
        generalize I (hb + 3) z.toNat = a at ha
        unfold pz
        by_cases h0 : a = 0
        · rw [if_pos h0, if_pos h0]
        · rw [if_neg h0, if_neg h0, wr32_i2 (x := z - a) (by omega) (by omega), ev_max, zb_zr]
          by_cases g : a < z - a
          · rw [if_pos g]
            by_cases g1 : I oc 7 < z - a
            · rw [if_pos g1, if_neg (by omega : ¬ z - a ≤ I oc 7), wr32_i2 (x := z - (z - a)) (by omega) (by omega)]
              by_cases g2 : I oc 7 < a
              · rw [if_pos (by omega : I oc 7 < z - (z - a)), if_neg (by omega : ¬ a ≤ I oc 7)]
              · rw [if_neg (by omega : ¬ I oc 7 < z - (z - a)), if_pos (by omega : a ≤ I oc 7)]
                congr 1
                omega
            · rw [if_neg g1, if_pos (by omega : z - a ≤ I oc 7), if_pos (by omega : a ≤ I oc 7), if_pos g]
          · rw [if_neg g]
            by_cases g1 : I oc 7 < a
            · rw [if_pos g1, wr32_i2 (x := z - a) (by omega) (by omega), if_neg (by omega : ¬ a ≤ I oc 7)]
              by_cases g2 : I oc 7 < z - a
              · rw [if_pos g2, if_neg (by omega : ¬ z - a ≤ I oc 7)]
              · rw [if_neg g2, if_pos (by omega : z - a ≤ I oc 7), if_pos (by omega)]
            · rw [if_neg g1, if_pos (by omega : a ≤ I oc 7)]
              by_cases g2 : z - a ≤ I oc 7
              · rw [if_pos g2, if_neg g]
              · rw [if_neg g2]
      · rw [if_neg h3, if_pos rfl, if_neg (fun q => h3 q.2.2)]
    · rw [if_neg h2, if_pos rfl, if_neg (fun q => h2 q.2.1)]
  · rw [if_neg h1, if_neg (fun q => h1 q.1)]
theorem pz_nn {a z l : Int} (ha : 0 ≤ a ∧ a < z) : 0 ≤ pz a z l := by
  unfold pz
  split
  · omega
  · split
    · split
      · split <;> omega
      · split <;> omega
    · split <;> omega
theorem pz_le {a z l : Int} (ha : 0 ≤ a ∧ a < z) : pz a z l ≤ z := by
  unfold pz
  split
  · omega
  · split
    · split
      · split <;> omega
      · split <;> omega
    · split <;> omega
theorem pz_left {a z l : Int} (h : 0 < pz a z l) : pz a z l ≤ l := by
  unfold pz at h ⊢
  by_cases h0 : a = 0
  · rw [if_pos h0] at h; omega
  · rw [if_neg h0] at h ⊢
    by_cases h1 : z - a ≤ l
    · rw [if_pos h1] at h ⊢
      by_cases h2 : a ≤ l
      · rw [if_pos h2] at h ⊢
        by_cases h3 : a < z - a
        · rw [if_pos h3]; exact h1
        · rw [if_neg h3]; exact h2
      · rw [if_neg h2] at h ⊢
        by_cases h3 : 0 < z - a
        · rw [if_pos h3]; exact h1
        · rw [if_neg h3] at h; omega
    · rw [if_neg h1] at h ⊢
      by_cases h2 : a ≤ l
      · rw [if_pos h2]; exact h2
      · rw [if_neg h2] at h; omega
section
variable {fu oc hb kl n : Nat} {law : List LRec} {Q : Int → IMem → Prop}
theorem pF_iff {I J : IMem} (h : FIV oc hb kl law n I J) (hpt : PTS J) {k : Nat} (hk : k < 240) (hs : SN (I (hb + 8)) (I (hb + 9)) (-1) k) : (pF J kl law k ↔ (I oc 10 = 0 ∧ (I oc 7 < I (hb + 7) (6 * k + 1) ∧ I (oc + 1) k = 0 ∧ I (hb + 7) (6 * k + 3) = 0 ∧ I (hb + 7) (6 * k + 2) = I (hb + 7) (6 * k + 1)) ∧ 0 < pz (I (hb + 3) (I (hb + 7) (6 * k + 1)).toNat) (I (hb + 7) (6 * k + 1)) (I oc 7) ∧ 0 < lval kl (WF J (k / 40) (k % 40) (J 0 30) (J 0 31)) law)) ∧ pzF J k = pz (I (hb + 3) (I (hb + 7) (6 * k + 1)).toNat) (I (hb + 7) (6 * k + 1)) (I oc 7) := by
  have s := (sn_iff h hk).mp hs
  have hin : INL J k := ⟨hk, s.1⟩
  have r1 := row_eq h hin (f := 1) (by decide)
  have r2 := row_eq h hin (f := 2) (by decide)
  have r3 := row_eq h hin (f := 3) (by decide)
  have z1 := h.2.2.2.2.2.1 k hin
  rw [show 141 + 6 * k = 140 + 6 * k + 1 by omega] at z1
  have hF := h.2.1
  have mk := hF.2.2.2.2.1 k hk
  have h33 := hF.2.2.1
  have pt := hpt _ z1.1 z1.2
  have p3 : I (hb + 3) (J 1 (140 + 6 * k + 1)).toNat = J 1 (16 + J 1 (140 + 6 * k + 1)).toNat := by
    rw [h.1.1.2.2.2.2.1 _ (by omega) (by omega)]
    congr 1
    omega
  have nn := pz_nn (l := J 0 30) pt
  rw [r1, r2, r3, p3, hF.1.1]
  unfold pzF pF
  unfold MKR at mk
  refine ⟨⟨fun ⟨x1, x2, x3, x4, x5, x6, x7, x8⟩ => ⟨by omega, ⟨x6, by omega, x4, x5⟩, by omega, by omega⟩, fun ⟨y1, ⟨y2, y3, y4, y5⟩, y6, y7⟩ => ⟨s.1, by omega, ⟨s.2, by omega, by omega⟩, y4, y5, y2, by omega, by omega⟩⟩, rfl⟩
/-- what the class writes when one is parted -/
def cPT (oc hb kl k : Nat) (part : Int) (I I' : IMem) : Prop := ∀ q j, q ≠ hb + 13 → q ≠ hb + 15 + 5 * kl + 4 → I' q j = if q = hb + 7 ∧ (j = 6 * k + 1 ∨ j = 6 * k + 2) then I (hb + 7) (6 * k + 1) - part else if q = oc ∧ j = 11 then (if I oc 11 = 0 then (if (0 : Int) = 1 then 0 else 1) else 1) else if q = oc ∧ j = 10 then (if I oc 10 = 0 then (if (0 : Int) = 2 then 1 else 0) else 1) else if q = oc ∧ j = 7 then wr32 (I oc 7 - part) else if q = oc ∧ j = 8 then I oc 8 + 1 else if q = oc + 3 ∧ j = (I oc 8).toNat then part else if q = oc + 2 ∧ j = (I oc 8).toNat then (k : Int) else if q = oc + 1 ∧ j = k then 3 else I q j
theorem ev_put (fu o k f : Nat) (v : Int) (I : IMem) (hk : k < 240) (hf : f < 6) : f_L_put fu o (k : Int) (f : Int) v I = zw I (o + 1) (6 * k + f) v fun I2 => zr 0 I2 := by
  unfold f_L_put
  have e : Wq (wr32 (wr32 ((k : Int) * 6) + (f : Int))) (((6 * k + f : Nat) : Int)) := by
    show (wr32 (wr32 ((k : Int) * 6) + (f : Int))) = (((6 * k + f : Nat) : Int))
    rw [wr32_i2 (x := (k : Int) * 6) (by omega) (by omega), wr32_i2 (by omega) (by omega)]; omega
  simp only [zl_e]
  rw [e.e, if_neg (by omega), if_pos (by omega), zg_t (by omega)]
  rfl
theorem ev_put1 (fu o k : Nat) (v : Int) (I : IMem) (hk : k < 240) : f_L_put fu o (k : Int) 1 v I = zw I (o + 1) (6 * k + 1) v fun I2 => zr 0 I2 := ev_put fu o k 1 v I hk (by decide)
theorem ev_put2 (fu o k : Nat) (v : Int) (I : IMem) (hk : k < 240) : f_L_put fu o (k : Int) 2 v I = zw I (o + 1) (6 * k + 2) v fun I2 => zr 0 I2 := ev_put fu o k 2 v I hk (by decide)
theorem ev_put4 (fu o k : Nat) (v : Int) (I : IMem) (hk : k < 240) : f_L_put fu o (k : Int) 4 v I = zw I (o + 1) (6 * k + 4) v fun I2 => zr 0 I2 := ev_put fu o k 4 v I hk (by decide)
theorem ev_put5 (fu o k : Nat) (v : Int) (I : IMem) (hk : k < 240) : f_L_put fu o (k : Int) 5 v I = zw I (o + 1) (6 * k + 5) v fun I2 => zr 0 I2 := ev_put fu o k 5 v I hk (by decide)
theorem zb_zw (I : IMem) (o j : Nat) (v : Int) (k1 : IMem → Res) (k : Int → IMem → Res) : zb (zw I o j v k1) k = zw I o j v fun I2 => zb (k1 I2) k := rfl
theorem cv_part2 (hd : hb + 40 ≤ oc) {I0 J : IMem} (h : FIV oc hb kl law n I0 J) (hpt : PTS J) : ∀ (m i : Nat) (I : IMem), i ≤ n → (∀ q j, q ≠ hb + 13 → q ≠ hb + 15 + 5 * kl + 4 → I q j = I0 q j) → (∀ i' k, i' < i → I0 (oc + 5) i' = ((k : Nat) : Int) → ¬ pF J kl law k) → par (f_C_partOne_2 fu (fun (x18 : Int) (x19 : Int) (I17 : IMem) => zb (f_L_get fu (hb + 6) x18 1 I17) fun y20 I21 => zl (wr32 (y20 - x19)) fun x23 => zb (f_C_sit fu oc x18 x19 0 3 I21) fun _ I25 => zb (f_L_put fu (hb + 6) x18 1 x23 I25) fun _ I28 => zb (f_L_put fu (hb + 6) x18 2 x23 I28) fun _ I31 => zr 0 I31) oc hb m (i : Int) I) (fun _ I' => ((∀ k, k < 240 → ¬ pF J kl law k) ∧ ∀ q j, q ≠ hb + 13 → q ≠ hb + 15 + 5 * kl + 4 → I' q j = I0 q j) ∨ ∃ k, k < 240 ∧ pF J kl law k ∧ (∀ k', k' < k → ¬ pF J kl law k') ∧ cPT oc hb kl k (pzF J k) I0 I') := by
  have hkl := h.2.2.1.1
  have hX := h.2.2.1
  have hS := h.2.2.2.2.1
  have hF := h.2.1
  have b5 : I0 (hb + 1) 5 = (kl : Int) := (h.1.1.1 5 (by decide)).trans hX.2.1
  have psn : ∀ k, k < 240 → pF J kl law k → SN (I0 (hb + 8)) (I0 (hb + 9)) (-1) k := fun k hk z => (sn_iff h hk).mpr ⟨z.1, z.2.2.1.1⟩
  intro m
  induction m with
  | zero => intro _ _ _ _ _; exact par_none
  | succ m ih =>
    intro i I hi hI hno
    show par (fb_C_partOne_2 fu _ oc hb (f_C_partOne_2 fu _ oc hb m) (i : Int) I) _
    unfold fb_C_partOne_2
    have i5 : I oc 5 = (n : Int) := (hI _ _ (by omega) (by omega)).trans hS.2.1
    have i10 : I oc 10 = I0 oc 10 := hI _ _ (by omega) (by omega)
    rw [i5, i10]
    by_cases hin : i < n
    · rw [if_pos (by omega), if_pos (by omega)]
      by_cases hdear : I0 oc 10 = 0
      · rw [if_pos hdear]
        obtain ⟨k, k1, k2, k3⟩ := hS.2.2.1 i hin
        have ik : I (oc + 5) i = (k : Int) := (hI _ _ (by omega) (by omega)).trans k2
        have hpf := pF_iff h hpt k1 k3
        have s := (sn_iff h k1).mp k3
        have hink : INL J k := ⟨k1, s.1⟩
        have r1 := row_eq h hink (f := 1) (by decide)
        have z1 := h.2.2.2.2.2.1 k hink
        rw [show 141 + 6 * k = 140 + 6 * k + 1 by omega] at z1
        have pt := hpt _ z1.1 z1.2
        have p3 : I0 (hb + 3) (I0 (hb + 7) (6 * k + 1)).toNat = J 1 (16 + J 1 (140 + 6 * k + 1)).toNat := by
          rw [r1, h.1.1.2.2.2.2.1 _ (by omega) (by omega)]
          congr 1
          omega
        refine par_zg (fun _ => ?_)
        simp only [zl_e, zj_e]
        have wn : Wq (wr32 ((i : Int) + 1)) (((i + 1 : Nat) : Int)) := by show wr32 ((i : Int) + 1) = ((i + 1 : Nat) : Int); rw [wr32_i2 (by omega) (by omega)]; rfl
        have t7 : ∀ j, I (hb + 7) j = I0 (hb + 7) j := fun j => hI _ _ (by omega) (by omega)
        have t3 : ∀ j, I (hb + 3) j = I0 (hb + 3) j := fun j => hI _ _ (by omega) (by omega)
        have ec := ev_cpart fu oc hb k I k1 (by rw [t7, r1]; exact z1) (by rw [t7, t3, p3, r1]; exact pt)
        rw [t7, t7, t7, t3, hI oc 7 (by omega) (by omega), hI (oc + 1) k (by omega) (by omega)] at ec
        rw [show ((i : Nat) : Int).toNat = i from rfl, ik, ec, zb_zr, wn.e]
        have skip : ∀ I' : IMem, (∀ q j, q ≠ hb + 13 → q ≠ hb + 15 + 5 * kl + 4 → I' q j = I0 q j) → ¬ pF J kl law k → par (f_C_partOne_2 fu (fun (x18 : Int) (x19 : Int) (I17 : IMem) => zb (f_L_get fu (hb + 6) x18 1 I17) fun y20 I21 => zb (f_C_sit fu oc x18 x19 0 3 I21) fun _ I25 => zb (f_L_put fu (hb + 6) x18 1 (wr32 (y20 - x19)) I25) fun _ I28 => zb (f_L_put fu (hb + 6) x18 2 (wr32 (y20 - x19)) I28) fun _ I31 => zr 0 I31) oc hb m ((i + 1 : Nat) : Int) I') (fun _ I' => ((∀ k, k < 240 → ¬ pF J kl law k) ∧ ∀ q j, q ≠ hb + 13 → q ≠ hb + 15 + 5 * kl + 4 → I' q j = I0 q j) ∨ ∃ k, k < 240 ∧ pF J kl law k ∧ (∀ k', k' < k → ¬ pF J kl law k') ∧ cPT oc hb kl k (pzF J k) I0 I') := fun I' h1 h2 => ih (i + 1) I' hin h1 (fun i' k' hi' hk' => by
          by_cases q : i' = i
          · subst q
            have : k' = k := by omega
            rw [this]; exact h2
          · exact hno i' k' (by omega) hk')
        generalize hv : (if I0 oc 7 < I0 (hb + 7) (6 * k + 1) ∧ I0 (oc + 1) k = 0 ∧ I0 (hb + 7) (6 * k + 3) = 0 ∧ I0 (hb + 7) (6 * k + 2) = I0 (hb + 7) (6 * k + 1) then pz (I0 (hb + 3) (I0 (hb + 7) (6 * k + 1)).toNat) (I0 (hb + 7) (6 * k + 1)) (I0 oc 7) else 0) = part
        by_cases hpos : 0 < part
        · rw [if_pos hpos]
          have hcond : I0 oc 7 < I0 (hb + 7) (6 * k + 1) ∧ I0 (oc + 1) k = 0 ∧ I0 (hb + 7) (6 * k + 3) = 0 ∧ I0 (hb + 7) (6 * k + 2) = I0 (hb + 7) (6 * k + 1) := by
            rcases Classical.em (I0 oc 7 < I0 (hb + 7) (6 * k + 1) ∧ I0 (oc + 1) k = 0 ∧ I0 (hb + 7) (6 * k + 3) = 0 ∧ I0 (hb + 7) (6 * k + 2) = I0 (hb + 7) (6 * k + 1)) with q | q
            · exact q
            · rw [if_neg q] at hv; omega
          rw [if_pos hcond] at hv
          have hL1 : HL hb 1 I J := hl_mv h.1.2.2.2.1 (fun j => ⟨t7 j, hI _ _ (by omega) (by omega)⟩) (fun _ _ _ => rfl)
          have ek : (k : Nat) = 40 * (k / 40) + k % 40 := by omega
          have gw := cv_facts (fu := fu) (hb := hb) (l := k / 40) (p := k % 40) (left := I0 oc 7) (taken := I0 oc 8) (s := (kl : Int)) (I := I) (J := J) (by omega) hL1 (by omega) s.1
          rw [← ek] at gw
          rw [hI oc 7 (by omega) (by omega), hI oc 8 (by omega) (by omega)]
          refine par_zb gw (fun _ I1 ⟨g1, g2⟩ => ?_)
          have hI1 : ∀ q j, q ≠ hb + 13 → q ≠ hb + 15 + 5 * kl + 4 → I1 q j = I0 q j := fun q j a b => (g1 q j a).trans (hI q j a b)
          have b51 : I1 (hb + 1) 5 = (kl : Int) := (hI1 _ _ (by omega) (by omega)).trans b5
          rw [ev_law fu hb I1 (by rw [b51]; omega), zb_zr, b51, show ((kl : Nat) : Int).toNat = kl from rfl, show ((hb + 15 + 5 * kl : Nat) : Int).toNat = hb + 15 + 5 * kl from rfl]
          have hlc1 : LC (hb + 15 + 5 * kl) kl law I1 := lc_mv h.2.2.2.1 (fun d j hd => hI1 _ _ (by omega) (by omega))
          refine par_zb (cv_value (F := WF J (k / 40) (k % 40) (I0 oc 7) (I0 oc 8)) (fun d hd => by omega) hX.2.2.1 I1 hlc1 g2) (fun y I2 ⟨g3, g4⟩ => ?_)
          have hI2 : ∀ q j, q ≠ hb + 13 → q ≠ hb + 15 + 5 * kl + 4 → I2 q j = I0 q j := fun q j a b => (g4 q j b).trans (hI1 q j a b)
          rw [hF.1.1, hF.1.2.1] at g3
          refine par_ite (fun q => ?_) (fun q => skip I2 hI2 (fun z => by have := (hpf.1.mp z).2.2.2; omega))
          have hpk : pF J kl law k := hpf.1.mpr ⟨hdear, hcond, by rw [hv]; exact hpos, by omega⟩
          have hpe : pzF J k = part := by rw [hpf.2]; exact hv
          have e21 : I2 (hb + 6 + 1) (6 * k + 1) = I0 (hb + 7) (6 * k + 1) := hI2 _ _ (by omega) (by omega)
          rw [ev_get1 fu (hb + 6) k I2 k1, zb_zr, e21]
          have za : 1 ≤ I0 (hb + 7) (6 * k + 1) ∧ I0 (hb + 7) (6 * k + 1) ≤ 8 := by rw [r1]; exact z1
          have aa : 0 ≤ I0 (hb + 3) (I0 (hb + 7) (6 * k + 1)).toNat ∧ I0 (hb + 3) (I0 (hb + 7) (6 * k + 1)).toNat < I0 (hb + 7) (6 * k + 1) := by rw [p3, r1]; exact pt
          have pub : part ≤ I0 (hb + 7) (6 * k + 1) := by rw [← hv]; exact pz_le aa
          have plf : part ≤ I0 oc 7 := by rw [← hv]; exact pz_left (by rw [hv]; exact hpos)
          have w5 : Wq (wr32 (I0 (hb + 7) (6 * k + 1) - part)) (I0 (hb + 7) (6 * k + 1) - part) := wr32_i2 (by omega) (by omega)
          rw [w5.e]
          have ht : 0 ≤ I2 oc 8 ∧ I2 oc 8 < 8 := by
            rw [hI2 oc 8 (by omega) (by omega), hF.1.2.1]
            have := hF.2.1
            have h7 := hF.1.1
            omega
          refine par_zb (cv_sit (fu := fu) oc k part 0 3 I2 k1 ht) (fun _ I3 g5 => ?_)
          rw [ev_put1 fu (hb + 6) k _ I3 k1, zb_zw]
          refine par_zw' (fun I4 e4 => ?_)
          rw [zb_zr, ev_put2 fu (hb + 6) k _ I4 k1, zb_zw]
          refine par_zw' (fun I5 e5 => par_zr (Or.inr ⟨k, k1, hpk, fun k' hk' z => ?_, fun q j a b => ?_⟩))
          · obtain ⟨i', j1, j2⟩ := hS.2.2.2.2 k' (by omega) (psn k' (by omega) z)
            have : i' < i := by
              rcases Nat.lt_trichotomy i' i with w | w | w
              · exact w
              · subst w; omega
              · have := hS.2.2.2.1 i i' w j1; omega
            exact hno i' k' this j2 z
          · rw [e5, e4, g5, hpe]
            rw [hI2 q j a b, hI2 oc 11 (by omega) (by omega), hI2 oc 10 (by omega) (by omega), hI2 oc 7 (by omega) (by omega), hI2 oc 8 (by omega) (by omega)]
            by_cases c2 : q = hb + 7 ∧ (j = 6 * k + 1 ∨ j = 6 * k + 2)
            · rw [if_pos c2]
              by_cases c3 : j = 6 * k + 2
              · rw [if_pos (by omega)]
              · rw [if_neg (by omega), if_pos (by omega)]
            · rw [if_neg c2, if_neg (by omega), if_neg (by omega)]
        · rw [if_neg hpos]
          refine skip I hI (fun z => ?_)
          have zz := hpf.1.mp z
          rw [if_pos zz.2.1] at hv
          have := zz.2.2.1
          omega
      · rw [if_neg hdear]
        refine par_zr (Or.inl ⟨fun k hk z => ?_, hI⟩)
        have := hF.2.2.1.1
        have := z.2.1
        omega
    · rw [if_neg (by omega)]
      refine par_zr (Or.inl ⟨fun k hk z => ?_, hI⟩)
      obtain ⟨i', j1, j2⟩ := hS.2.2.2.2 k hk (psn k hk z)
      exact hno i' k (by omega) j2 z
/-- partOne: nobody, or the first who may be parted -/
theorem cv_partOne (hd : hb + 40 ≤ oc) {I J : IMem} (h : FIV oc hb kl law n I J) (hpt : PTS J) : par (f_C_partOne fu oc hb I) (fun _ I' => ((∀ k, k < 240 → ¬ pF J kl law k) ∧ ∀ q j, q ≠ hb + 13 → q ≠ hb + 15 + 5 * kl + 4 → I' q j = I q j) ∨ ∃ k, k < 240 ∧ pF J kl law k ∧ (∀ k', k' < k → ¬ pF J kl law k') ∧ cPT oc hb kl k (pzF J k) I I') :=
  cv_part2 hd h hpt fu 0 I (Nat.zero_le _) (fun _ _ _ _ => rfl) (fun _ _ hi => absurd hi (Nat.not_lt_zero _))
end
