/-! product, by hand -/
def UX (o : Nat) (a b : Int) (I0 : IMem) (v : Int) (I : IMem) : Prop := inr v ∧ GX o I ∧ (v = 0 ∨ v = 1) ∧ (v = 1 → TK o I ∧ RL o 0 a b I0 I ∧ I o 20 = I0 o 20)
theorem tk_fr {o : Nat} {I0 I : IMem} (h : TK o I0) (g : ∀ j, j ≠ 11 → I o j = I0 o j) : TK o I := by
  obtain ⟨t1, t2, t3, t4⟩ := h
  exact ⟨by rw [g 15 (by decide)]; exact t1, by rw [g 15 (by decide), g 13 (by decide)]; exact t2, by rw [g 13 (by decide), g 12 (by decide)]; exact t3, by rw [g 14 (by decide), g 15 (by decide), g 13 (by decide)]; exact t4⟩
theorem ok_opl (fu : Nat) (o0 : Nat) (s v a b : Int) (I0 : IMem) (hRI0 : GX o0 I0) (h : TK o0 I0) (hb : 0 ≤ I0 o0 11 ∧ I0 o0 11 + 1 ≤ I0 o0 15) (qs : inr s) (qv : inr v) (hs : ∀ h, 0 ≤ h → st1 s v (h + a) = some (h + b)) : sat (f_X_lay fu o0 s v I0) (fun u I => inr u ∧ GX o0 I ∧ TK o0 I ∧ RL o0 (-1) a b I0 I ∧ ∀ j, j ≠ 11 → I o0 j = I0 o0 j) := by
  have hgt := gx_t hRI0
  have h13 := h.2.1
  have h12 := h.2.2.1
  obtain ⟨u, I, e, qu, hI, p, l, f⟩ := ok_X_lay fu o0 s v I0 hRI0 qs qv (by omega)
  have g : ∀ j, j ≠ 11 → I o0 j = I0 o0 j := fun j hj => f _ _ (by omega) (by omega)
  refine ⟨u, I, e, qu, hI, tk_fr h g, rl_lay (s := s) (v := v) p (by omega) (by rw [g 15 (by decide)]; omega) l hs, g⟩
theorem ok_X_number (fu : Nat) (o0 : Nat) (a1 a2 : Int) (I0 : IMem) (hfu : 5000000000 < fu) (hRI0 : GX o0 I0) (qa1 : inr a1) (qa2 : inr a2) (h : TK o0 I0) : sat (f_X_number fu o0 a1 a2 I0) (fun v I => inr v ∧ GX o0 I ∧ (v = 0 ∨ v = 1) ∧ (v = 1 → TK o0 I ∧ I0 o0 13 ≤ I o0 15 ∧ I0 o0 15 + 1 ≤ I0 o0 13 ∧ (a1 ≤ I0 o0 16 ∧ I0 o0 16 ≤ a2) ∧ ∀ q j, ¬ (q = o0 ∧ (j = 13 ∨ j = 14 ∨ j = 15 ∨ j = 16)) → I q j = I0 q j)) := by
  unfold f_X_number
  refine sat_ite (fun q => ?_) (fun q => ?_)
  · refine sat_zb (ok_X_isIn fu (I0 o0 16) a1 a2 I0 hfu hRI0.1 (hRI0.1 _ _) qa1 qa2) (fun y1 I2 c1 ⟨⟨ay1, by1⟩, _, pI2⟩ => ?_)
    have eI2 := pI2.1.symm; replace pI2 := pI2.2; subst eI2
    refine sat_ite (fun q2 => ?_) (fun q2 => ?_)
    · refine sat_zb (ok_X_bad fu o0 2 I0 hfu hRI0 (lit_in rfl)) (fun y7 I8 c4 ⟨q7, hRI8, p8⟩ => ?_)
      exact sat_zg (Or.inl p8) (fun _ => sat_zr ⟨q7, hRI8, Or.inl p8, fun z => by omega⟩)
    · refine sat_zb (ok_nx fu o0 I0 hfu hRI0 h) (fun u I5 c3 ⟨_, hRI5, tk5, m5, f5⟩ => ?_)
      have hv := pI2.2.1 (by have := pI2.1; omega)
      exact sat_zr ⟨lit_in rfl, hRI5, Or.inr rfl, fun _ => ⟨tk5, m5, h.2.2.2 (by omega), by omega, f5⟩⟩
  · refine sat_zb (ok_X_bad fu o0 1 I0 hfu hRI0 (lit_in rfl)) (fun y10 I11 c4 ⟨q10, hRI11, p11⟩ => ?_)
    exact sat_zg (Or.inl p11) (fun _ => sat_zr ⟨q10, hRI11, Or.inl p11, fun z => by omega⟩)
theorem ok_prod9 (fu : Nat) (o0 : Nat) (hfu : 5000000000 < fu) : ∀ (m : Nat) (I0 : IMem), GX o0 I0 → PI o0 I0 → (400 - I0 o0 15).toNat < m → sat (f_X_product_9 fu o0 m I0) (UX o0 1 1 I0) := by
  intro m
  induction m with
  | zero => intro I0 _ _ h0; exact absurd h0 (Nat.not_lt_zero _)
  | succ m ih =>
    intro I0 hRI0 hpi hm
    show sat (fb_X_product_9 fu o0 (f_X_product_9 fu o0 m) I0) _
    unfold fb_X_product_9
    have hgt := gx_t hRI0
    obtain ⟨⟨t1, t2, t3, t4⟩, h1, h2⟩ := hpi
    refine sat_zj (fun k4 ek4 => ?_)
    have hk4 : I0 o0 14 ≠ 0 → sat (k4 I0) (UX o0 1 1 I0) := by
      intro hne
      have ht4 := t4 hne
      subst ek4
      refine sat_zj (fun k6 ek6 => ?_)
      have hk6 : ∀ x8, sat (k6 x8 I0) (UX o0 1 1 I0) := by
        intro x8
        subst ek6
        refine sat_zb (ok_nx fu o0 I0 hfu hRI0 ⟨t1, t2, t3, t4⟩) (fun u I10 c1 ⟨_, hRI10, tk10, m10, f10⟩ => ?_)
        have e11 : I10 o0 11 = I0 o0 11 := f10 _ _ (by omega)
        have r10 : RL o0 1 1 1 I0 I10 := rl_same e11 (by omega) (by omega) (fun j => f10 _ _ (by omega))
        have d10 : I10 o0 20 = I0 o0 20 := f10 _ _ (by omega)
        refine sat_ite (fun q => ?_) (fun q => ?_)
        · refine sat_zb (ok_X_unit fu o0 I10 hfu hRI10 ⟨tk10, by omega, by omega⟩) (fun y12 I13 c2 ⟨q12, hRI13, b12, p13⟩ => ?_)
          refine sat_ite (fun z => ?_) (fun z => ?_)
          · exact sat_zr ⟨lit_in rfl, hRI13, Or.inl rfl, fun w => absurd w (by decide)⟩
          obtain ⟨tk13, r13, d13⟩ := p13 (b12.resolve_left z)
          have hd := r13.2.2.2.1
          have hd0 := r13.2.1
          refine sat_zb (ok_opl fu o0 14 0 2 1 I13 hRI13 tk13 (by omega) (lit_in rfl) (lit_in rfl) (st_op (by decide))) (fun u2 I16 c3 ⟨_, hRI16, tk16, r16, g16⟩ => ?_)
          have rr : RL o0 0 1 1 I0 I16 := rl_t (e := 1) (f := -1) r10 (rl_t (e := 0) (f := -1) (b := 2) (rl_up r13 1 (by decide)) r16)
          have e16 := g16 15 (by decide)
          obtain ⟨v, I, es, qv, hI, bv, pv⟩ := ih I16 hRI16 (pi_rl (e := 0) ⟨⟨t1, t2, t3, t4⟩, h1, h2⟩ (by decide) tk16 rr) (by omega)
          exact ⟨v, I, es, qv, hI, bv, fun w => ⟨(pv w).1, rl_t (e := 0) (f := 0) rr (pv w).2.1, (pv w).2.2.trans ((g16 20 (by decide)).trans (d13.trans d10))⟩⟩
        · refine sat_zl (hRI10.1 _ _) (fun x18 hx18 ax18 bx18 => ?_)
          refine sat_zb (ok_X_number fu o0 1 9999 I10 hfu hRI10 (lit_in rfl) (lit_in rfl) tk10) (fun y19 I20 c2 ⟨q19, hRI20, b19, p20⟩ => ?_)
          refine sat_ite (fun z => ?_) (fun z => ?_)
          · exact sat_zr ⟨lit_in rfl, hRI20, Or.inl rfl, fun w => absurd w (by decide)⟩
          obtain ⟨tk20, m20, n20, v20, f20⟩ := p20 (b19.resolve_left z)
          have e20 : I20 o0 11 = I10 o0 11 := f20 _ _ (by omega)
          have r20 : RL o0 0 1 1 I10 I20 := rl_same e20 (by omega) (by omega) (fun j => f20 _ _ (by omega))
          refine sat_zb (ok_opl fu o0 15 x18 1 1 I20 hRI20 tk20 (by omega) (lit_in rfl) ⟨ax18, bx18⟩ (st_div (by omega))) (fun u2 I23 c3 ⟨_, hRI23, tk23, r23, g23⟩ => ?_)
          have rr : RL o0 0 1 1 I0 I23 := rl_t (e := 1) (f := -1) r10 (rl_t (e := 0) (f := -1) r20 r23)
          have e23 := g23 15 (by decide)
          obtain ⟨v, I, es, qv, hI, bv, pv⟩ := ih I23 hRI23 (pi_rl (e := 0) ⟨⟨t1, t2, t3, t4⟩, h1, h2⟩ (by decide) tk23 rr) (by omega)
          exact ⟨v, I, es, qv, hI, bv, fun w => ⟨(pv w).1, rl_t (e := 0) (f := 0) rr (pv w).2.1, (pv w).2.2.trans ((g23 20 (by decide)).trans ((f20 _ _ (by omega)).trans d10))⟩⟩
      clear ek6
      exact sat_ite (fun _ => hk6 1) (fun _ => hk6 0)
    clear ek4
    refine sat_ite (fun q => hk4 (by omega)) (fun q => sat_ite (fun q2 => hk4 (by omega)) (fun q2 => ?_))
    exact sat_zr ⟨lit_in rfl, hRI0, Or.inr rfl, fun _ => ⟨⟨t1, t2, t3, t4⟩, rl_same rfl (by omega) (by omega) (fun _ => rfl), rfl⟩⟩
