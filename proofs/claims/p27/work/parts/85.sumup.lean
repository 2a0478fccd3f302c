/-! product and sumUp, by hand -/
theorem ok_X_product (fu : Nat) (o0 : Nat) (I0 : IMem) (hfu : 5000000000 < fu) (hRI0 : GX o0 I0) (h : PI o0 I0) : sat (f_X_product fu o0 I0) (UX o0 0 1 I0) := by
  unfold f_X_product
  refine sat_zb (ok_X_unit fu o0 I0 hfu hRI0 h) (fun y1 I2 c1 ⟨q1, hRI2, b1, p2⟩ => ?_)
  refine sat_ite (fun z => ?_) (fun z => ?_)
  · exact sat_zr ⟨lit_in rfl, hRI2, Or.inl rfl, fun w => absurd w (by decide)⟩
  obtain ⟨tk2, r2, d2⟩ := p2 (b1.resolve_left z)
  obtain ⟨v, I, es, qv, hI, bv, pv⟩ := ok_prod9 fu o0 hfu fu I2 hRI2 (pi_rl (e := 0) h (by decide) tk2 r2) (by have := tk2.1; omega)
  exact ⟨v, I, es, qv, hI, bv, fun w => ⟨(pv w).1, rl_t (e := 0) (f := 0) r2 (pv w).2.1, (pv w).2.2.trans d2⟩⟩
theorem ok_sum9 (fu : Nat) (o0 : Nat) (hfu : 5000000000 < fu) : ∀ (m : Nat) (I0 : IMem), GX o0 I0 → PI o0 I0 → (400 - I0 o0 15).toNat < m → sat (f_X_sumUp_9 fu o0 m I0) (UX o0 1 1 I0) := by
  intro m
  induction m with
  | zero => intro I0 _ _ h0; exact absurd h0 (Nat.not_lt_zero _)
  | succ m ih =>
    intro I0 hRI0 hpi hm
    show sat (fb_X_sumUp_9 fu o0 (f_X_sumUp_9 fu o0 m) I0) _
    unfold fb_X_sumUp_9
    have hgt := gx_t hRI0
    obtain ⟨⟨t1, t2, t3, t4⟩, h1, h2⟩ := hpi
    refine sat_zj (fun k4 ek4 => ?_)
    have hk4 : I0 o0 14 ≠ 0 → sat (k4 I0) (UX o0 1 1 I0) := by
      intro hne
      have ht4 := t4 hne
      subst ek4
      refine sat_zj (fun k6 ek6 => ?_)
      have hk6 : ∀ x8, inr x8 → (x8 = 12 ∨ x8 = 13) → sat (k6 x8 I0) (UX o0 1 1 I0) := by
        intro x8 qx hx
        subst ek6
        refine sat_zb (ok_nx fu o0 I0 hfu hRI0 ⟨t1, t2, t3, t4⟩) (fun u I10 c1 ⟨_, hRI10, tk10, m10, f10⟩ => ?_)
        have e11 : I10 o0 11 = I0 o0 11 := f10 _ _ (by omega)
        have r10 : RL o0 1 1 1 I0 I10 := rl_same e11 (by omega) (by omega) (fun j => f10 _ _ (by omega))
        have d10 : I10 o0 20 = I0 o0 20 := f10 _ _ (by omega)
        refine sat_zb (ok_X_product fu o0 I10 hfu hRI10 ⟨tk10, by omega, by omega⟩) (fun y12 I13 c2 ⟨q12, hRI13, b12, p13⟩ => ?_)
        refine sat_ite (fun z => ?_) (fun z => ?_)
        · exact sat_zr ⟨lit_in rfl, hRI13, Or.inl rfl, fun w => absurd w (by decide)⟩
        obtain ⟨tk13, r13, d13⟩ := p13 (b12.resolve_left z)
        have hd := r13.2.2.2.1
        have hd0 := r13.2.1
        refine sat_zb (ok_opl fu o0 x8 0 2 1 I13 hRI13 tk13 (by omega) qx (lit_in rfl) (st_op (by omega))) (fun u2 I16 c3 ⟨_, hRI16, tk16, r16, g16⟩ => ?_)
        have rr : RL o0 0 1 1 I0 I16 := rl_t (e := 1) (f := -1) r10 (rl_t (e := 0) (f := -1) (b := 2) (rl_up r13 1 (by decide)) r16)
        have e16 := g16 15 (by decide)
        obtain ⟨v, I, es, qv, hI, bv, pv⟩ := ih I16 hRI16 (pi_rl (e := 0) ⟨⟨t1, t2, t3, t4⟩, h1, h2⟩ (by decide) tk16 rr) (by omega)
        exact ⟨v, I, es, qv, hI, bv, fun w => ⟨(pv w).1, rl_t (e := 0) (f := 0) rr (pv w).2.1, (pv w).2.2.trans ((g16 20 (by decide)).trans (d13.trans d10))⟩⟩
      clear ek6
      exact sat_ite (fun _ => hk6 12 (lit_in rfl) (Or.inl rfl)) (fun _ => hk6 13 (lit_in rfl) (Or.inr rfl))
    clear ek4
    refine sat_ite (fun q => hk4 (by omega)) (fun q => sat_ite (fun q2 => hk4 (by omega)) (fun q2 => ?_))
    exact sat_zr ⟨lit_in rfl, hRI0, Or.inr rfl, fun _ => ⟨⟨t1, t2, t3, t4⟩, rl_same rfl (by omega) (by omega) (fun _ => rfl), rfl⟩⟩
theorem ok_X_sumUp (fu : Nat) (o0 : Nat) (I0 : IMem) (hfu : 5000000000 < fu) (hRI0 : GX o0 I0) (h : PI o0 I0) : sat (f_X_sumUp fu o0 I0) (UX o0 0 1 I0) := by
  unfold f_X_sumUp
  refine sat_zb (ok_X_product fu o0 I0 hfu hRI0 h) (fun y1 I2 c1 ⟨q1, hRI2, b1, p2⟩ => ?_)
  refine sat_ite (fun z => ?_) (fun z => ?_)
  · exact sat_zr ⟨lit_in rfl, hRI2, Or.inl rfl, fun w => absurd w (by decide)⟩
  obtain ⟨tk2, r2, d2⟩ := p2 (b1.resolve_left z)
  obtain ⟨v, I, es, qv, hI, bv, pv⟩ := ok_sum9 fu o0 hfu fu I2 hRI2 (pi_rl (e := 0) h (by decide) tk2 r2) (by have := tk2.1; omega)
  exact ⟨v, I, es, qv, hI, bv, fun w => ⟨(pv w).1, rl_t (e := 0) (f := 0) r2 (pv w).2.1, (pv w).2.2.trans d2⟩⟩
