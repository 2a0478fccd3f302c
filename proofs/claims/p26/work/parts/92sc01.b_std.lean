/-! who stands, who sat last: both sides -/
section
variable {fu : Nat} {Q : Int → IMem → Prop}
theorem std_at {N : Int} {J : IMem} {l p : Nat} (hl : l < 6) (hp : p < 40) (h : (p : Int) < J 1 (130 + l)) (e : J 1 (140 + 6 * (40 * l + p)) = N) : STD N J := ⟨40 * l + p, ⟨by omega, by rw [show (40 * l + p) % 40 = p by omega, show (40 * l + p) / 40 = l by omega]; exact h⟩, e⟩
/-- N does not stand before line l -/
def NSB (N : Int) (J : IMem) (l : Nat) : Prop := ∀ k, k < 40 * l → INL J k → J 1 (140 + 6 * k) ≠ N
theorem nsb_s {N : Int} {J : IMem} {l : Nat} (h : NSB N J l) (h2 : ∀ p : Nat, (p : Int) < J 1 (130 + l) → p < 40 → J 1 (140 + 6 * (40 * l + p)) ≠ N) : NSB N J (l + 1) := fun k hk hi => by
  by_cases y : k < 40 * l
  · exact h k y hi
  · have d : k / 40 = l := by omega
    have h3 := hi.2
    rw [d] at h3
    have g := h2 (k % 40) h3 (by omega)
    rw [show 40 * l + k % 40 = k by omega] at g
    exact g
theorem nsb_6 {N : Int} {J : IMem} (h : NSB N J 6) : ¬ STD N J := fun ⟨k, a, b⟩ => h k a.1 a b
theorem xv_still10 (kk : IMem → Res) (N : Int) {l c : Nat} (hl : l < 6) (hc : c ≤ 40) {J : IMem} (hcJ : J 1 (130 + l) = (c : Int)) (hy : STD N J → Q 1 J) (hend : (∀ p : Nat, p < c → J 1 (140 + 6 * (40 * l + p)) ≠ N) → par (kk J) Q) : ∀ (m p : Nat), p ≤ c → (∀ p' : Nat, p' < p → J 1 (140 + 6 * (40 * l + p')) ≠ N) → par (f_X_stillStands_10 fu kk 0 N (l : Int) m (p : Int) J) Q := by
  intro m
  induction m with
  | zero => intro _ _ _; exact par_none
  | succ m ih =>
    intro p hp hn
    show par (fb_X_stillStands_10 fu kk 0 N (l : Int) (f_X_stillStands_10 fu kk 0 N (l : Int) m) (p : Int) J) Q
    unfold fb_X_stillStands_10
    have w1 : Wq (wr32 (130 + (l : Int))) (((130 + l : Nat) : Int)) := by show wr32 (130 + (l : Int)) = ((130 + l : Nat) : Int); rw [wr32_i2 (by omega) (by omega)]; omega
    have w2 : Wq (wr32 ((p : Int) + 1)) (((p + 1 : Nat) : Int)) := by show wr32 ((p : Int) + 1) = ((p + 1 : Nat) : Int); rw [wr32_i2 (by omega) (by omega)]; rfl
    simp only [zl_e]
    rw [w1.e, w2.e]
    have a1 : J (0 + 1) ((130 + l : Nat) : Int).toNat = (c : Int) := hcJ
    rw [a1]
    refine par_zg (fun _ => ?_)
    by_cases h : p < c
    · rw [if_pos (show (p : Int) < (c : Int) by omega), ev_of0 fu 0 l p J hl (by omega), zb_zr]
      have a2 : J (0 + 1) (140 + 6 * (40 * l + p) + 0) = J 1 (140 + 6 * (40 * l + p)) := rfl
      rw [a2]
      refine par_ite (fun q => par_zr (hy (std_at hl (by omega) (by rw [hcJ]; omega) q))) (fun q => ih (p + 1) h (fun p' hp' => ?_))
      by_cases y : p' = p
      · rw [y]; exact q
      · exact hn p' (by omega)
    · rw [if_neg (show ¬ (p : Int) < (c : Int) by omega)]
      have : p = c := by omega
      subst this
      exact hend hn
theorem xv_still2 (N : Int) {J : IMem} (hc : ∀ l, l < 6 → 0 ≤ J 1 (130 + l) ∧ J 1 (130 + l) ≤ 40) (hy : STD N J → Q 1 J) (hn : ¬ STD N J → Q 0 J) : ∀ (m l : Nat), l ≤ 6 → NSB N J l → par (f_X_stillStands_2 fu 0 N m (l : Int) J) Q := by
  intro m
  induction m with
  | zero => intro _ _ _; exact par_none
  | succ m ih =>
    intro l hl hb
    show par (fb_X_stillStands_2 fu 0 N (f_X_stillStands_2 fu 0 N m) (l : Int) J) Q
    unfold fb_X_stillStands_2
    by_cases h : l < 6
    · rw [if_pos (show (l : Int) < 6 by omega)]
      obtain ⟨c, hcc⟩ : ∃ c : Nat, J 1 (130 + l) = (c : Int) := ⟨(J 1 (130 + l)).toNat, by have := hc l h; omega⟩
      have hc40 : c ≤ 40 := by have := hc l h; omega
      refine xv_still10 _ N h hc40 hcc hy (fun g => ?_) fu 0 (Nat.zero_le _) (fun p' hp' => absurd hp' (Nat.not_lt_zero _))
      have w1 : Wq (wr32 ((l : Int) + 1)) ((l + 1 : Nat) : Int) := by show wr32 ((l : Int) + 1) = ((l + 1 : Nat) : Int); rw [wr32_i2 (by omega) (by omega)]; rfl
      simp only [zl_e]
      rw [w1.e]
      exact ih (l + 1) h (nsb_s hb (fun p hp _ => g p (by omega)))
    · rw [if_neg (show ¬ (l : Int) < 6 by omega)]
      have : l = 6 := by omega
      subst this
      exact par_zr (hn (nsb_6 hb))
theorem xv_still (N : Int) (J : IMem) (hc : ∀ l, l < 6 → 0 ≤ J 1 (130 + l) ∧ J 1 (130 + l) ≤ 40) : par (f_X_stillStands fu 0 N J) (fun y J' => J' = J ∧ ((y = 1 ∧ STD N J) ∨ (y = 0 ∧ ¬ STD N J))) := by
  unfold f_X_stillStands
  exact xv_still2 N hc (fun h => ⟨rfl, Or.inl ⟨rfl, h⟩⟩) (fun h => ⟨rfl, Or.inr ⟨rfl, h⟩⟩) fu 0 (by decide) (fun k hk => absurd hk (by omega))
theorem cv_has10 (kk : IMem → Res) (N : Int) {hb l c : Nat} (hl : l < 6) (hc : c ≤ 40) {I J : IMem} (hL : HL hb 1 I J) (hcJ : J 1 (130 + l) = (c : Int)) (hy : STD N J → Q 1 I) (hend : (∀ p : Nat, p < c → J 1 (140 + 6 * (40 * l + p)) ≠ N) → par (kk I) Q) : ∀ (m p : Nat), p ≤ c → (∀ p' : Nat, p' < p → J 1 (140 + 6 * (40 * l + p')) ≠ N) → par (f_L_hasNumber_10 fu kk (hb + 6) N (l : Int) m (p : Int) I) Q := by
  intro m
  induction m with
  | zero => intro _ _ _; exact par_none
  | succ m ih =>
    intro p hp hn
    show par (fb_L_hasNumber_10 fu kk (hb + 6) N (l : Int) (f_L_hasNumber_10 fu kk (hb + 6) N (l : Int) m) (p : Int) I) Q
    unfold fb_L_hasNumber_10
    have w1 : Wq (wr32 (wr32 ((l : Int) * 40) + (p : Int))) (((40 * l + p : Nat) : Int)) := by show wr32 (wr32 ((l : Int) * 40) + (p : Int)) = ((40 * l + p : Nat) : Int); rw [wr32_i2 (x := (l : Int) * 40) (by omega) (by omega), wr32_i2 (by omega) (by omega)]; omega
    have w2 : Wq (wr32 ((p : Int) + 1)) (((p + 1 : Nat) : Int)) := by show wr32 ((p : Int) + 1) = ((p + 1 : Nat) : Int); rw [wr32_i2 (by omega) (by omega)]; rfl
    simp only [zl_e]
    rw [w1.e, w2.e]
    have a1 : I (hb + 6 + 2) ((l : Nat) : Int).toNat = (c : Int) := (hl_c hL hl).1.trans hcJ
    rw [a1]
    refine par_zg (fun _ => ?_)
    by_cases h : p < c
    · rw [if_pos (show (p : Int) < (c : Int) by omega), ev_get0 fu (hb + 6) (40 * l + p) I (by omega), zb_zr]
      have a2 : I (hb + 6 + 1) (6 * (40 * l + p) + 0) = J 1 (140 + 6 * (40 * l + p)) := hl_r (l := l) (p := p) (f := 0) hL hl (by rw [hcJ]; omega) (by decide)
      rw [a2]
      refine par_ite (fun q => par_zr (hy (std_at hl (by omega) (by rw [hcJ]; omega) q))) (fun q => ih (p + 1) h (fun p' hp' => ?_))
      by_cases y : p' = p
      · rw [y]; exact q
      · exact hn p' (by omega)
    · rw [if_neg (show ¬ (p : Int) < (c : Int) by omega)]
      have : p = c := by omega
      subst this
      exact hend hn
theorem cv_has2 (N : Int) {hb : Nat} {I J : IMem} (hL : HL hb 1 I J) (hy : STD N J → Q 1 I) (hn : ¬ STD N J → Q 0 I) : ∀ (m l : Nat), l ≤ 6 → NSB N J l → par (f_L_hasNumber_2 fu (hb + 6) N m (l : Int) I) Q := by
  intro m
  induction m with
  | zero => intro _ _ _; exact par_none
  | succ m ih =>
    intro l hl hs
    show par (fb_L_hasNumber_2 fu (hb + 6) N (f_L_hasNumber_2 fu (hb + 6) N m) (l : Int) I) Q
    unfold fb_L_hasNumber_2
    by_cases h : l < 6
    · rw [if_pos (show (l : Int) < 6 by omega)]
      have hc := (hl_c hL h).2
      obtain ⟨c, hcc⟩ : ∃ c : Nat, J 1 (130 + l) = (c : Int) := ⟨(J 1 (130 + l)).toNat, by omega⟩
      have hc40 : c ≤ 40 := by omega
      refine cv_has10 _ N h hc40 hL hcc hy (fun g => ?_) fu 0 (Nat.zero_le _) (fun p' hp' => absurd hp' (Nat.not_lt_zero _))
      have w1 : Wq (wr32 ((l : Int) + 1)) ((l + 1 : Nat) : Int) := by show wr32 ((l : Int) + 1) = ((l + 1 : Nat) : Int); rw [wr32_i2 (by omega) (by omega)]; rfl
      simp only [zl_e]
      rw [w1.e]
      exact ih (l + 1) h (nsb_s hs (fun p hp _ => g p (by omega)))
    · rw [if_neg (show ¬ (l : Int) < 6 by omega)]
      have : l = 6 := by omega
      subst this
      exact par_zr (hn (nsb_6 hs))
theorem cv_has (N : Int) {hb : Nat} {I J : IMem} (hL : HL hb 1 I J) : par (f_L_hasNumber fu (hb + 6) N I) (fun y I' => I' = I ∧ ((y = 1 ∧ STD N J) ∨ (y = 0 ∧ ¬ STD N J))) := by
  unfold f_L_hasNumber
  exact cv_has2 N hL (fun h => ⟨rfl, Or.inl ⟨rfl, h⟩⟩) (fun h => ⟨rfl, Or.inr ⟨rfl, h⟩⟩) fu 0 (by decide) (fun k hk => absurd hk (by omega))
/-- N sat last, by the class's memory -/
def SLN (N : Int) (hb : Nat) (I : IMem) : Prop := ∃ i : Nat, (i : Int) < I (hb + 11) 0 ∧ i < 8 ∧ I (hb + 11) (10 + i) = N
theorem cv_last2 (N : Int) {hb : Nat} {I : IMem} (hy : SLN N hb I → Q 1 I) (hn : ¬ SLN N hb I → Q 0 I) : ∀ (m i : Nat), i ≤ 8 → (∀ i' : Nat, i' < i → (i' : Int) < I (hb + 11) 0 → I (hb + 11) (10 + i') ≠ N) → par (f_H_satLast_2 fu hb N m (i : Int) I) Q := by
  intro m
  induction m with
  | zero => intro _ _ _; exact par_none
  | succ m ih =>
    intro i hi hs
    show par (fb_H_satLast_2 fu hb N (f_H_satLast_2 fu hb N m) (i : Int) I) Q
    unfold fb_H_satLast_2
    have w1 : Wq (wr32 (10 + (i : Int))) (((10 + i : Nat) : Int)) := by show wr32 (10 + (i : Int)) = ((10 + i : Nat) : Int); rw [wr32_i2 (by omega) (by omega)]; omega
    have w2 : Wq (wr32 ((i : Int) + 1)) (((i + 1 : Nat) : Int)) := by show wr32 ((i : Int) + 1) = ((i + 1 : Nat) : Int); rw [wr32_i2 (by omega) (by omega)]; rfl
    simp only [zl_e]
    rw [w1.e, w2.e, show ((10 + i : Nat) : Int).toNat = 10 + i from rfl]
    refine par_ite (fun a => par_ite (fun b => par_zg (fun _ => par_ite (fun q => ?_) (fun q => ?_))) (fun b => ?_)) (fun a => ?_)
    · exact par_zr (hy ⟨i, a, by omega, q⟩)
    · refine ih (i + 1) (by omega) (fun i' hi' hl => ?_)
      by_cases y : i' = i
      · rw [y]; exact q
      · exact hs i' (by omega) hl
    · refine par_zr (hn (fun ⟨i', x1, x2, x3⟩ => hs i' (by omega) x1 x3))
    · refine par_zr (hn (fun ⟨i', x1, x2, x3⟩ => hs i' (by omega) x1 x3))
theorem cv_last (N : Int) {hb : Nat} {I : IMem} : par (f_H_satLast fu hb N I) (fun y I' => I' = I ∧ ((y = 1 ∧ SLN N hb I) ∨ (y = 0 ∧ ¬ SLN N hb I))) := by
  unfold f_H_satLast
  exact cv_last2 N (fun h => ⟨rfl, Or.inl ⟨rfl, h⟩⟩) (fun h => ⟨rfl, Or.inr ⟨rfl, h⟩⟩) fu 0 (by decide) (fun i' hi' => absurd hi' (Nat.not_lt_zero _))
end
