/-! a line, by hand -/
def LR (o : Nat) (I : IMem) (i : Nat) : Prop := 0 ≤ I (o + 4) (4 * i + 1) ∧ I (o + 4) (4 * i + 1) ≤ I (o + 4) (4 * i + 2) ∧ I (o + 4) (4 * i + 2) ≤ I (o + 4) (4 * i + 3) ∧ I (o + 4) (4 * i + 3) ≤ I o 11 ∧ (I o 9 ≠ 4 → rn (I (o + 5)) ((I (o + 4) (4 * i + 2)).toNat - (I (o + 4) (4 * i + 1)).toNat) (I (o + 4) (4 * i + 1)).toNat 0 = some 1) ∧ (I (o + 4) (4 * i + 2) = I (o + 4) (4 * i + 3) ∨ rn (I (o + 5)) ((I (o + 4) (4 * i + 3)).toNat - (I (o + 4) (4 * i + 2)).toNat) (I (o + 4) (4 * i + 2)).toNat 0 = some 1) ∧ (I o 9 = 4 → 0 ≤ I (o + 4) (4 * i) ∧ I (o + 4) (4 * i) ≤ 5)
theorem LR_eq {o : Nat} {I I1 : IMem} {i : Nat} (h4 : ∀ j, 4 * i ≤ j → j < 4 * i + 4 → I1 (o + 4) j = I (o + 4) j) (h9 : I1 o 9 = I o 9) (h11 : I o 11 ≤ I1 o 11) (h5 : ∀ j : Nat, (j : Int) < 2 * I o 11 → I1 (o + 5) j = I (o + 5) j) (h : LR o I i) : LR o I1 i := by
  have e0 := h4 (4 * i) (by omega) (by omega)
  have e1 := h4 (4 * i + 1) (by omega) (by omega)
  have e2 := h4 (4 * i + 2) (by omega) (by omega)
  have e3 := h4 (4 * i + 3) (by omega) (by omega)
  unfold LR at h ⊢
  rw [e0, e1, e2, e3, h9]
  obtain ⟨a, b, c, d, e, f, g⟩ := h
  refine ⟨a, b, c, by omega, fun q => ?_, ?_, g⟩
  · rw [rn_eq (c := I (o + 5)) _ _ _ (fun j q1 q2 => h5 j (by omega))]; exact e q
  · rcases f with f | f
    · exact Or.inl f
    · refine Or.inr ?_
      rw [rn_eq (c := I (o + 5)) _ _ _ (fun j q1 q2 => h5 j (by omega))]; exact f
def LU (o : Nat) (I0 : IMem) (v : Int) (I : IMem) : Prop := inr v ∧ GX o I ∧ (v = 0 ∨ v = 1) ∧ (v = 1 → PI o I ∧ I0 o 15 < I o 15 ∧ I0 o 10 < 16 ∧ ∀ i : Nat, (i : Int) < I0 o 10 + 1 → LR o I i)
theorem lu_0 {o : Nat} {I0 I : IMem} (hg : GX o I) : sat (zr 0 I) (LU o I0) := sat_zr ⟨lit_in rfl, hg, Or.inl rfl, fun w => absurd w (by decide)⟩
theorem rl_rn {o : Nat} {e : Int} {I0 I : IMem} (h : RL o e 0 1 I0 I) : rn (I (o + 5)) ((I o 11).toNat - (I0 o 11).toNat) (I0 o 11).toNat 0 = some 1 := by
  obtain ⟨p1, p2, p3, p4, p5, p6⟩ := h
  have := p6 0 (Int.le_refl _)
  rw [show (I o 11).toNat - (I0 o 11).toNat = (I o 11 - I0 o 11).toNat by omega]
  exact this
theorem ok_X_aLine (fu : Nat) (o0 : Nat) (I0 : IMem) (hfu : 5000000000 < fu) (hRI0 : GX o0 I0) (hpi : PI o0 I0) (h10 : 0 ≤ I0 o0 10 ∧ I0 o0 10 ≤ 16) (hl : ∀ i : Nat, (i : Int) < I0 o0 10 → LR o0 I0 i) : sat (f_X_aLine fu o0 I0) (LU o0 I0) := by
  unfold f_X_aLine
  have hgt := gx_t hRI0
  obtain ⟨⟨t1, t2, t3, t4⟩, h1, h2⟩ := hpi
  refine sat_ite (fun q => ?_) (fun q => ?_)
  rotate_left
  · refine sat_zb (ok_X_bad fu o0 1 I0 hfu hRI0 (lit_in rfl)) (fun y I c4 ⟨q5, hRI, p⟩ => ?_)
    exact sat_zg (Or.inl p) (fun _ => sat_zr ⟨q5, hRI, Or.inl p, fun z => by omega⟩)
  refine sat_ite (fun q2 => ?_) (fun q2 => ?_)
  · refine sat_zb (ok_X_bad fu o0 3 I0 hfu hRI0 (lit_in rfl)) (fun y I c4 ⟨q5, hRI, p⟩ => ?_)
    exact sat_zg (Or.inl p) (fun _ => sat_zr ⟨q5, hRI, Or.inl p, fun z => by omega⟩)
  have ht4 := t4 (by omega)
  obtain ⟨N, hN⟩ : ∃ N : Nat, I0 o0 10 = N := ⟨(I0 o0 10).toNat, by omega⟩
  refine sat_zj (fun k1 ek1 => ?_)
  have hk1 : ∀ x3, (x3 = 0 ↔ I0 o0 9 ≠ 4) → sat (k1 x3 I0) (LU o0 I0) := by
    intro x3 hx3
    subst ek1
    refine sat_zwX0 hRI0 (lit_in rfl) (by omega) (fun I4 e4 hRI4 => ?_)
    have g4 : ∀ j, j ≠ 20 → I4 o0 j = I0 o0 j := fun j hj => by rw [e4, if_neg (by omega)]
    have tk4 : TK o0 I4 := ⟨by rw [g4 15 (by decide)]; exact t1, by rw [g4 15 (by decide), g4 13 (by decide)]; exact t2, by rw [g4 13 (by decide), g4 12 (by decide)]; exact t3, by rw [g4 14 (by decide), g4 15 (by decide), g4 13 (by decide)]; exact t4⟩
    refine sat_zb (ok_nx fu o0 I4 hfu hRI4 tk4) (fun u I6 c1 ⟨_, hRI6, tk6, m6, f6⟩ => ?_)
    rw [g4 13 (by decide)] at m6
    have e610 : I6 o0 10 = N := by rw [f6 _ _ (by omega), g4 10 (by decide), hN]
    have e611 : I6 o0 11 = I0 o0 11 := by rw [f6 _ _ (by omega), g4 11 (by decide)]
    have e69 : I6 o0 9 = I0 o0 9 := by rw [f6 _ _ (by omega), g4 9 (by decide)]
    have e620 : I6 o0 20 = 0 := by rw [f6 _ _ (by omega), e4, if_pos ⟨rfl, rfl⟩]
    have e64 : ∀ j, I6 (o0 + 4) j = I0 (o0 + 4) j := fun j => by rw [f6 _ _ (by omega), e4, if_neg (by omega)]
    have e65 : ∀ j, I6 (o0 + 5) j = I0 (o0 + 5) j := fun j => by rw [f6 _ _ (by omega), e4, if_neg (by omega)]
    refine sat_zl (wr32_in _) (fun x9 hx9 ax9 bx9 => ?_)
    rw [e610, wr32_i2 (by omega) (by omega)] at hx9
    refine sat_zg (by omega) (fun _ => ?_)
    refine sat_zwXn (c := 4) hRI6 (hRI6.1 _ _) (by decide) (Or.inl (by decide)) (fun I8 e8 hRI8 => ?_)
    have g8 : ∀ q j, q ≠ o0 + 4 → I8 q j = I6 q j := fun q j hq => by rw [e8, if_neg (fun z => hq z.1)]
    refine sat_zl (wr32_in _) (fun x11 hx11 ax11 bx11 => ?_)
    rw [g8 o0 10 (by omega), e610, wr32_i2 (x := 4 * (N : Int)) (by omega) (by omega), wr32_i2 (by omega) (by omega)] at hx11
    refine sat_zg (by omega) (fun _ => ?_)
    refine sat_zwXn (c := 4) hRI8 (hRI8.1 _ _) (by decide) (Or.inl (by decide)) (fun I10 e10 hRI10 => ?_)
    have g10 : ∀ q j, q ≠ o0 + 4 → I10 q j = I6 q j := fun q j hq => by rw [e10, if_neg (fun z => hq z.1), g8 _ _ hq]
    have r0 : I10 (o0 + 4) (4 * N) = I6 o0 16 := by rw [e10, if_neg (by omega), e8, if_pos ⟨rfl, by omega⟩]
    have r1 : I10 (o0 + 4) (4 * N + 1) = I0 o0 11 := by rw [e10, if_pos ⟨rfl, by omega⟩, g8 _ _ (by omega), e611]
    have rf : ∀ j, j < 4 * N → I10 (o0 + 4) j = I0 (o0 + 4) j := fun j hj => by rw [e10, if_neg (by omega), e8, if_neg (by omega), e64]
    have tk10 : TK o0 I10 := tk_fr tk6 (fun j _ => g10 _ _ (by omega))
    have e1011 : I10 o0 11 = I0 o0 11 := by rw [g10 _ _ (by omega), e611]
    have e1015 : I10 o0 15 = I6 o0 15 := g10 _ _ (by omega)
    have e1020 : I10 o0 20 = 0 := by rw [g10 _ _ (by omega), e620]
    have pi10 : PI o0 I10 := ⟨tk10, by omega, by omega⟩
    refine sat_zj (fun k12 ek12 => ?_)
    have hk12 : ∀ (I13 : IMem) (b : Int), GX o0 I13 → TK o0 I13 → RL o0 0 0 b I10 I13 → (b = 1 ∨ I0 o0 9 = 4) → (I0 o0 9 = 4 → 0 ≤ I6 o0 16 ∧ I6 o0 16 ≤ 5) → I13 o0 9 = I0 o0 9 → I13 o0 10 = N → I13 o0 20 = 0 → (∀ j, I13 (o0 + 4) j = I10 (o0 + 4) j) → sat (k12 I13) (LU o0 I0) := by
      intro I13 b hRI13 tk13 rl13 hb hv e139 e1310 e1320 e134
      subst ek12
      have d1 := rl13.2.1
      have d2 := rl13.2.2.1
      have d3 := rl13.2.2.2.1
      have d4 := rl13.2.2.2.2.1
      refine sat_zl (wr32_in _) (fun x15 hx15 ax15 bx15 => ?_)
      rw [e1310, wr32_i2 (x := 4 * (N : Int)) (by omega) (by omega), wr32_i2 (by omega) (by omega)] at hx15
      refine sat_zg (by omega) (fun _ => ?_)
      refine sat_zwXn (c := 4) hRI13 (hRI13.1 _ _) (by decide) (Or.inl (by decide)) (fun I14 e14 hRI14 => ?_)
      have g14 : ∀ q j, q ≠ o0 + 4 → I14 q j = I13 q j := fun q j hq => by rw [e14, if_neg (fun z => hq z.1)]
      have e1411 := g14 o0 11 (by omega)
      have e1415 := g14 o0 15 (by omega)
      have tk14 : TK o0 I14 := tk_fr tk13 (fun j _ => g14 _ _ (by omega))
      refine sat_zj (fun k16 ek16 => ?_)
      have hk16 : ∀ (I17 : IMem) (c : Int), GX o0 I17 → TK o0 I17 → RL o0 0 0 c I14 I17 → (c = 1 ∨ I17 o0 11 = I14 o0 11) → I17 o0 9 = I0 o0 9 → I17 o0 10 = N → (∀ j, I17 (o0 + 4) j = I14 (o0 + 4) j) → sat (k16 I17) (LU o0 I0) := by
        intro I17 c hRI17 tk17 rl17 hc e179 e1710 e174
        subst ek16
        have s1 := rl17.2.1
        have s2 := rl17.2.2.1
        have s3 := rl17.2.2.2.1
        have s4 := rl17.2.2.2.2.1
        refine sat_zl (wr32_in _) (fun x19 hx19 ax19 bx19 => ?_)
        rw [e1710, wr32_i2 (x := 4 * (N : Int)) (by omega) (by omega), wr32_i2 (by omega) (by omega)] at hx19
        refine sat_zg (by omega) (fun _ => ?_)
        refine sat_zwXn (c := 4) hRI17 (hRI17.1 _ _) (by decide) (Or.inl (by decide)) (fun I18 e18 hRI18 => ?_)
        have g18 : ∀ q j, q ≠ o0 + 4 → I18 q j = I17 q j := fun q j hq => by rw [e18, if_neg (fun z => hq z.1)]
        have tk18 : TK o0 I18 := tk_fr tk17 (fun j _ => g18 _ _ (by omega))
        refine sat_zb (ok_X_need fu o0 159 I18 hfu hRI18 tk18) (fun y20 I21 c3 ⟨qy, hRI21, b20, p21⟩ => ?_)
        refine sat_zg b20 (fun _ => sat_zr ⟨qy, hRI21, b20, fun w => ?_⟩)
        obtain ⟨tk21, m21, f21⟩ := p21 w
        have e1813 := g18 o0 13 (by omega)
        have t17 := tk17.2.1
        have e2111 : I21 o0 11 = I17 o0 11 := by rw [f21 _ _ (by omega), g18 _ _ (by omega)]
        have e219 : I21 o0 9 = I0 o0 9 := by rw [f21 _ _ (by omega), g18 _ _ (by omega), e179]
        have c5 : ∀ j, I21 (o0 + 5) j = I17 (o0 + 5) j := fun j => by rw [f21 _ _ (by omega), g18 _ _ (by omega)]
        have c13 : ∀ j : Nat, (j : Int) < 2 * I13 o0 11 → I21 (o0 + 5) j = I13 (o0 + 5) j := fun j hj => by rw [c5, s4 j (by omega), g14 _ _ (by omega)]
        have c0 : ∀ j : Nat, (j : Int) < 2 * I0 o0 11 → I21 (o0 + 5) j = I0 (o0 + 5) j := fun j hj => by rw [c13 j (by omega), d4 j (by omega), g10 _ _ (by omega), e65]
        have k4 : ∀ j, j ≠ 4 * N + 3 → j ≠ 4 * N + 2 → I21 (o0 + 4) j = I10 (o0 + 4) j := fun j a1 a2 => by rw [f21 _ _ (by omega), e18, if_neg (by omega), e174, e14, if_neg (by omega), e134]
        have k3 : I21 (o0 + 4) (4 * N + 3) = I17 o0 11 := by rw [f21 _ _ (by omega), e18, if_pos ⟨rfl, by omega⟩]
        have k2 : I21 (o0 + 4) (4 * N + 2) = I13 o0 11 := by rw [f21 _ _ (by omega), e18, if_neg (by omega), e174, e14, if_pos ⟨rfl, by omega⟩]
        refine ⟨⟨tk21, by omega, by omega⟩, by omega, by omega, fun i hi => ?_⟩
        by_cases z : i < N
        · exact LR_eq (I := I0) (fun j q1 q2 => by rw [k4 j (by omega) (by omega), rf j (by omega)]) e219 (by omega) c0 (hl i (by omega))
        · have e : i = N := by omega
          subst e
          unfold LR
          rw [k3, k2, k4 (4 * i) (by omega) (by omega), k4 (4 * i + 1) (by omega) (by omega), r0, r1, e2111, e219]
          refine ⟨by omega, by omega, by omega, by omega, fun w9 => ?_, ?_, hv⟩
          · have hb1 := hb.resolve_right w9
            subst hb1
            rw [rn_eq (c := I13 (o0 + 5)) _ _ _ (fun j q1 q2 => c13 j (by omega))]
            have := rl_rn rl13
            rw [e1011] at this
            exact this
          · rcases hc with hc | hc
            · subst hc
              refine Or.inr ?_
              rw [rn_eq (c := I17 (o0 + 5)) _ _ _ (fun j _ _ => c5 j)]
              have := rl_rn rl17
              rw [e1411] at this
              exact this
            · exact Or.inl (by omega)
      clear ek16
      refine sat_zj (fun k23 ek23 => ?_)
      have hk23 : sat (k23 I14) (LU o0 I0) := by
        subst ek23
        refine sat_zb (ok_X_need fu o0 3 I14 hfu hRI14 tk14) (fun y25 I26 c3 ⟨_, hRI26, b25, p26⟩ => ?_)
        refine sat_ite (fun z => lu_0 hRI26) (fun z => ?_)
        obtain ⟨tk26, m26, f26⟩ := p26 (b25.resolve_left z)
        have t14 := tk14.2.1
        have e2611 : I26 o0 11 = I14 o0 11 := f26 _ _ (by omega)
        have r26 : RL o0 0 0 0 I14 I26 := rl_same e2611 (by omega) (by omega) (fun j => f26 _ _ (by omega))
        refine sat_zb (ok_X_any fu o0 I26 hfu hRI26 ⟨tk26, by omega, by omega⟩ (by rw [f26 _ _ (by omega), g14 _ _ (by omega), e1320])) (fun y28 I29 c4 ⟨_, hRI29, b28, p29⟩ => ?_)
        refine sat_ite (fun z2 => lu_0 hRI29) (fun z2 => ?_)
        obtain ⟨tk29, r29, d29⟩ := p29 (b28.resolve_left z2)
        have f29 : ∀ q j, ¬ (q = o0 + 5 ∨ (q = o0 ∧ (j = 11 ∨ j = 13 ∨ j = 14 ∨ j = 15 ∨ j = 16 ∨ j = 17 ∨ j = 18 ∨ j = 20))) → I29 q j = I26 q j := fc_X_any (fun q j => q = o0 + 5 ∨ (q = o0 ∧ (j = 11 ∨ j = 13 ∨ j = 14 ∨ j = 15 ∨ j = 16 ∨ j = 17 ∨ j = 18 ∨ j = 20))) fu o0 I26 (fun j => Or.inl rfl) (by simp) (by simp) (by simp) (by simp) (by simp) (by simp) (by simp) (by simp) c4
        exact hk16 I29 1 hRI29 tk29 (rl_t (e := 0) (f := 0) r26 r29) (Or.inl rfl) (by rw [f29 _ _ (by omega), f26 _ _ (by omega), g14 _ _ (by omega), e139]) (by rw [f29 _ _ (by omega), f26 _ _ (by omega), g14 _ _ (by omega), e1310]) (fun j => by rw [f29 _ _ (by omega), f26 _ _ (by omega)])
      clear ek23
      have hd : sat (k16 I14) (LU o0 I0) := hk16 I14 0 hRI14 tk14 (rl_same rfl (by omega) (by omega) (fun _ => rfl)) (Or.inr rfl) (by rw [g14 _ _ (by omega), e139]) (by rw [g14 _ _ (by omega), e1310]) (fun _ => rfl)
      exact sat_ite (fun _ => sat_ite (fun _ => hk23) (fun _ => hd)) (fun _ => hk23)
    clear ek12
    refine sat_ite (fun z => ?_) (fun z => ?_)
    · refine sat_zb (ok_X_sumUp fu o0 I10 hfu hRI10 pi10) (fun y31 I32 c4 ⟨_, hRI32, b31, p32⟩ => ?_)
      refine sat_ite (fun z2 => lu_0 hRI32) (fun z2 => ?_)
      obtain ⟨tk32, r32, d32⟩ := p32 (b31.resolve_left z2)
      have f32 : ∀ q j, ¬ (q = o0 + 5 ∨ (q = o0 ∧ (j = 11 ∨ j = 13 ∨ j = 14 ∨ j = 15 ∨ j = 16 ∨ j = 17 ∨ j = 18))) → I32 q j = I10 q j := fc_X_sumUp (fun q j => q = o0 + 5 ∨ (q = o0 ∧ (j = 11 ∨ j = 13 ∨ j = 14 ∨ j = 15 ∨ j = 16 ∨ j = 17 ∨ j = 18))) fu o0 I10 (fun j => Or.inl rfl) (by simp) (by simp) (by simp) (by simp) (by simp) (by simp) (by simp) c4
      exact hk12 I32 1 hRI32 tk32 r32 (Or.inl rfl) (fun w => absurd w (hx3.1 z)) (by rw [f32 _ _ (by omega), g10 _ _ (by omega), e69]) (by rw [f32 _ _ (by omega), g10 _ _ (by omega), e610]) (by rw [d32, e1020]) (fun j => f32 _ _ (by omega))
    · refine sat_zb (ok_X_number fu o0 0 5 I10 hfu hRI10 (lit_in rfl) (lit_in rfl) tk10) (fun y34 I35 c4 ⟨_, hRI35, b34, p35⟩ => ?_)
      refine sat_ite (fun z2 => lu_0 hRI35) (fun z2 => ?_)
      obtain ⟨tk35, m35, n35, v35, f35⟩ := p35 (b34.resolve_left z2)
      have t10 := tk10.2.1
      rw [g10 o0 16 (by omega)] at v35
      exact hk12 I35 0 hRI35 tk35 (rl_same (f35 _ _ (by omega)) (by omega) (by omega) (fun j => f35 _ _ (by omega))) (Or.inr (by by_cases w : I0 o0 9 = 4; exact w; exact absurd (hx3.2 w) z)) (fun _ => v35) (by rw [f35 _ _ (by omega), g10 _ _ (by omega), e69]) (by rw [f35 _ _ (by omega), g10 _ _ (by omega), e610]) (by rw [f35 _ _ (by omega), e1020]) (fun j => f35 _ _ (by omega))
  clear ek1
  exact sat_ite (fun z => hk1 1 ⟨fun w => absurd w (by decide), fun w => absurd z w⟩) (fun z => hk1 0 ⟨fun _ => z, fun _ => rfl⟩)
