/-! the group, by hand -/
theorem ux_0 {o : Nat} {a b : Int} {I0 I : IMem} (hg : GX o I) : sat (zr 0 I) (UX o a b I0) := sat_zr ⟨lit_in rfl, hg, Or.inl rfl, fun w => absurd w (by decide)⟩
theorem ok_X_need (fu : Nat) (o0 : Nat) (a1 : Int) (I0 : IMem) (hfu : 5000000000 < fu) (hRI0 : GX o0 I0) (h : TK o0 I0) : sat (f_X_need fu o0 a1 I0) (fun v I => inr v ∧ GX o0 I ∧ (v = 0 ∨ v = 1) ∧ (v = 1 → TK o0 I ∧ I0 o0 13 ≤ I o0 15 ∧ ∀ q j, ¬ (q = o0 ∧ (j = 13 ∨ j = 14 ∨ j = 15 ∨ j = 16)) → I q j = I0 q j)) := by
  unfold f_X_need
  refine sat_ite (fun q => ?_) (fun q => ?_)
  · refine sat_zb (ok_nx fu o0 I0 hfu hRI0 h) (fun u I5 c3 ⟨_, hRI5, tk5, m5, f5⟩ => ?_)
    exact sat_zr ⟨lit_in rfl, hRI5, Or.inr rfl, fun _ => ⟨tk5, m5, f5⟩⟩
  · refine sat_zb (ok_X_bad fu o0 1 I0 hfu hRI0 (lit_in rfl)) (fun y10 I11 c4 ⟨q10, hRI11, p11⟩ => ?_)
    exact sat_zg (Or.inl p11) (fun _ => sat_zr ⟨q10, hRI11, Or.inl p11, fun z => by omega⟩)
theorem ok_gXA (fu : Nat) (hfu : 5000000000 < fu) (o0 : Nat) : ∀ n : Nat, (∀ I0, GX o0 I0 → PI o0 I0 → (0 ≤ I0 o0 20 ∧ I0 o0 20 ≤ 8) → 3 * (8 - I0 o0 20) + 3 ≤ n → sat ((gXA fu n).1 o0 I0) (UX o0 0 1 I0)) ∧ (∀ I0, GX o0 I0 → PI o0 I0 → (0 ≤ I0 o0 20 ∧ I0 o0 20 ≤ 8) → 3 * (8 - I0 o0 20) + 2 ≤ n → sat ((gXA fu n).2.1 o0 I0) (UX o0 0 1 I0)) ∧ (∀ I0, GX o0 I0 → PI o0 I0 → (0 ≤ I0 o0 20 ∧ I0 o0 20 ≤ 8) → 3 * (8 - I0 o0 20) + 1 ≤ n → sat ((gXA fu n).2.2 o0 I0) (UX o0 0 1 I0)) := by
  intro n
  induction n with
  | zero => exact ⟨fun I0 _ _ hd hn => absurd hn (by omega), fun I0 _ _ hd hn => absurd hn (by omega), fun I0 _ _ hd hn => absurd hn (by omega)⟩
  | succ n hR =>
    refine ⟨fun I0 hRI0 hpi hd hn => ?_, fun I0 hRI0 hpi hd hn => ?_, fun I0 hRI0 hpi hd hn => ?_⟩
    · show sat (fb_X_any fu (gXA fu n) o0 I0) _
      unfold fb_X_any
      refine sat_zb (hR.2.1 I0 hRI0 hpi hd (by omega)) (fun y1 I2 c1 ⟨q1, hRI2, b1, p2⟩ => ?_)
      refine sat_ite (fun z => ux_0 hRI2) (fun z => ?_)
      obtain ⟨tk2, r2, d2⟩ := p2 (b1.resolve_left z)
      exact ux_t r2 d2 (ok_any9 fu (gXA fu n) o0 (I0 o0 20) hfu (fun I a b c => hR.2.1 I a b (by rw [c]; exact hd) (by rw [c]; omega)) fu I2 hRI2 (pi_rl (e := 0) hpi (by decide) tk2 r2) d2 (by have := tk2.1; omega))
    · show sat (fb_X_every fu (gXA fu n) o0 I0) _
      unfold fb_X_every
      refine sat_zb (hR.2.2 I0 hRI0 hpi hd (by omega)) (fun y1 I2 c1 ⟨q1, hRI2, b1, p2⟩ => ?_)
      refine sat_ite (fun z => ux_0 hRI2) (fun z => ?_)
      obtain ⟨tk2, r2, d2⟩ := p2 (b1.resolve_left z)
      exact ux_t r2 d2 (ok_every9 fu (gXA fu n) o0 (I0 o0 20) hfu (fun I a b c => hR.2.2 I a b (by rw [c]; exact hd) (by rw [c]; omega)) fu I2 hRI2 (pi_rl (e := 0) hpi (by decide) tk2 r2) d2 (by have := tk2.1; omega))
    · show sat (fb_X_one fu (gXA fu n) o0 I0) _
      unfold fb_X_one
      have hgt := gx_t hRI0
      have ht := hpi.1
      have h11 := hpi.2.1
      have h15 := hpi.2.2
      have h13 := ht.2.1
      have h12 := ht.2.2.1
      refine sat_ite (fun q => ?_) (fun q => sat_ite (fun q2 => ?_) (fun q2 => ?_))
      · have hx := ht.2.2.2 (by omega)
        refine sat_zb (ok_X_opens fu o0 I0 hfu hRI0 ht hd) (fun y29 I30 c1 ⟨_, hRI30, b29, p30⟩ => ?_)
        refine sat_ite (fun z => ux_0 hRI30) (fun z => ?_)
        obtain ⟨tk30, m30, d30, l30, f30⟩ := p30 (b29.resolve_left z)
        have e30 : I30 o0 11 = I0 o0 11 := f30 _ _ (by omega)
        have r30 : RL o0 1 0 0 I0 I30 := rl_same e30 (by omega) (by omega) (fun j => f30 _ _ (by omega))
        refine sat_zb (hR.2.2 I30 hRI30 ⟨tk30, by omega, by omega⟩ (by omega) (by omega)) (fun y32 I33 c2 ⟨_, hRI33, b32, p33⟩ => ?_)
        refine sat_ite (fun z2 => ux_0 hRI33) (fun z2 => ?_)
        obtain ⟨tk33, r33, d33⟩ := p33 (b32.resolve_left z2)
        refine sat_zwX0 hRI33 (wr32_in _) (by omega) (fun I35 e35 hRI35 => ?_)
        have g35 : ∀ j, j ≠ 20 → I35 o0 j = I33 o0 j := fun j hj => by rw [e35, if_neg (by omega)]
        have d35 : I35 o0 20 = I0 o0 20 := by
          rw [e35, if_pos ⟨rfl, rfl⟩, d33, d30, wr32_i2 (by omega) (by omega)]
          omega
        obtain ⟨t1, t2, t3, t4⟩ := tk33
        have tk35 : TK o0 I35 := ⟨by rw [g35 15 (by decide)]; exact t1, by rw [g35 15 (by decide), g35 13 (by decide)]; exact t2, by rw [g35 13 (by decide), g35 12 (by decide)]; exact t3, by rw [g35 14 (by decide), g35 15 (by decide), g35 13 (by decide)]; exact t4⟩
        have r35 : RL o0 0 1 1 I33 I35 := rl_same (g35 11 (by decide)) ⟨by have := r33.1; have := r33.2.1; omega, r33.2.2.1⟩ (by rw [g35 15 (by decide)]; omega) (fun j => by rw [e35, if_neg (by omega)])
        have s1 := rl_t (e := 1) (f := 0) r30 (rl_t (e := 0) (f := 0) r33 r35)
        have hs := s1.2.2.2.1
        have hs1 := s1.2.1
        refine sat_zb (ok_opl fu o0 19 0 1 1 I35 hRI35 tk35 (by omega) (lit_in rfl) (lit_in rfl) st_not) (fun u2 I37 c3 ⟨_, hRI37, tk37, r37, g37⟩ => ?_)
        exact sat_zr ⟨lit_in rfl, hRI37, Or.inr rfl, fun _ => ⟨tk37, rl_t (e := 1) (f := -1) s1 r37, (g37 20 (by decide)).trans d35⟩⟩
      · have hx := ht.2.2.2 (by omega)
        refine sat_zb (ok_X_opens fu o0 I0 hfu hRI0 ht hd) (fun y19 I20 c1 ⟨_, hRI20, b19, p20⟩ => ?_)
        refine sat_ite (fun z => ux_0 hRI20) (fun z => ?_)
        obtain ⟨tk20, m20, d20, l20, f20⟩ := p20 (b19.resolve_left z)
        have e20 : I20 o0 11 = I0 o0 11 := f20 _ _ (by omega)
        have r20 : RL o0 0 0 0 I0 I20 := rl_same e20 (by omega) (by omega) (fun j => f20 _ _ (by omega))
        refine sat_zb (hR.1 I20 hRI20 ⟨tk20, by omega, by omega⟩ (by omega) (by omega)) (fun y22 I23 c2 ⟨_, hRI23, b22, p23⟩ => ?_)
        refine sat_ite (fun z2 => ux_0 hRI23) (fun z2 => ?_)
        obtain ⟨tk23, r23, d23⟩ := p23 (b22.resolve_left z2)
        have hh1 := r23.2.2.2.1
        have hh2 := r23.2.1
        refine sat_zb (ok_X_need fu o0 141 I23 hfu hRI23 tk23) (fun y25 I26 c3 ⟨_, hRI26, b25, p26⟩ => ?_)
        refine sat_ite (fun z3 => ux_0 hRI26) (fun z3 => ?_)
        obtain ⟨tk26, m26, f26⟩ := p26 (b25.resolve_left z3)
        have t23 := tk23.2.1
        have r26 : RL o0 0 1 1 I23 I26 := rl_same (f26 _ _ (by omega)) ⟨by have := r23.1; omega, r23.2.2.1⟩ (by omega) (fun j => f26 _ _ (by omega))
        refine sat_zwX0 hRI26 (wr32_in _) (by omega) (fun I28 e28 hRI28 => ?_)
        have g28 : ∀ j, j ≠ 20 → I28 o0 j = I26 o0 j := fun j hj => by rw [e28, if_neg (by omega)]
        obtain ⟨t1, t2, t3, t4⟩ := tk26
        have tk28 : TK o0 I28 := ⟨by rw [g28 15 (by decide)]; exact t1, by rw [g28 15 (by decide), g28 13 (by decide)]; exact t2, by rw [g28 13 (by decide), g28 12 (by decide)]; exact t3, by rw [g28 14 (by decide), g28 15 (by decide), g28 13 (by decide)]; exact t4⟩
        have r28 : RL o0 0 1 1 I26 I28 := rl_same (g28 11 (by decide)) ⟨by have := r26.1; have := r26.2.1; omega, r26.2.2.1⟩ (by rw [g28 15 (by decide)]; omega) (fun j => by rw [e28, if_neg (by omega)])
        have d28 : I28 o0 20 = I0 o0 20 := by
          rw [e28, if_pos ⟨rfl, rfl⟩, f26 _ _ (by omega), d23, d20, wr32_i2 (by omega) (by omega)]
          omega
        exact sat_zr ⟨lit_in rfl, hRI28, Or.inr rfl, fun _ => ⟨tk28, rl_t (e := 0) (f := 0) r20 (rl_t (e := 0) (f := 0) r23 (rl_t (e := 0) (f := 0) r26 r28)), d28⟩⟩
      · refine sat_zb (ok_X_sumUp fu o0 I0 hfu hRI0 hpi) (fun y1 I2 c1 ⟨_, hRI2, b1, p2⟩ => ?_)
        refine sat_ite (fun z => ux_0 hRI2) (fun z => ?_)
        obtain ⟨tk2, r2, d2⟩ := p2 (b1.resolve_left z)
        have hpi2 := pi_rl (e := 0) hpi (by decide) tk2 r2
        refine sat_zj (fun k4 ek4 => ?_)
        have hk4 : ∀ x6, inr x6 → (x6 = -1 ∨ (I2 o0 14 ≠ 0 ∧ (x6 = 16 ∨ x6 = 17 ∨ x6 = 18))) → sat (k4 x6 I2) (UX o0 0 1 I0) := by
          intro x6 qx hx
          subst ek4
          refine sat_ite (fun w => ?_) (fun w => ?_)
          · refine sat_zb (ok_X_bad fu o0 1 I2 hfu hRI2 (lit_in rfl)) (fun y10 I11 c4 ⟨q10, hRI11, p11⟩ => ?_)
            exact sat_zg (Or.inl p11) (fun _ => sat_zr ⟨q10, hRI11, Or.inl p11, fun z => by omega⟩)
          · have hx2 := hx.resolve_left w
            exact ux_t r2 d2 (ok_opr fu o0 x6 hfu I2 hRI2 hpi2 hx2.1 qx (by omega) (fun I => f_X_sumUp fu o0 I) (fun I => zr 1 I) (fun I a b _ => ok_X_sumUp fu o0 I hfu a b) (fun I a b _ _ => ux_done a b))
        clear ek4
        refine sat_ite (fun w => hk4 16 (lit_in rfl) (Or.inr ⟨by omega, by decide⟩)) (fun w => sat_ite (fun w => hk4 17 (lit_in rfl) (Or.inr ⟨by omega, by decide⟩)) (fun w => sat_ite (fun w => hk4 18 (lit_in rfl) (Or.inr ⟨by omega, by decide⟩)) (fun w => hk4 (-1) (lit_in rfl) (Or.inl rfl))))
theorem ok_X_any (fu : Nat) (o0 : Nat) (I0 : IMem) (hfu : 5000000000 < fu) (hRI0 : GX o0 I0) (hpi : PI o0 I0) (hd : I0 o0 20 = 0) : sat (f_X_any fu o0 I0) (UX o0 0 1 I0) := (ok_gXA fu hfu o0 60).1 I0 hRI0 hpi (by omega) (by omega)
