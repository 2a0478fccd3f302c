/-! any, every, one, by hand -/
theorem ok_X_opens (fu : Nat) (o0 : Nat) (I0 : IMem) (hfu : 5000000000 < fu) (hRI0 : GX o0 I0) (h : TK o0 I0) (hd : 0 ≤ I0 o0 20 ∧ I0 o0 20 ≤ 8) : sat (f_X_opens fu o0 I0) (fun v I => inr v ∧ GX o0 I ∧ (v = 0 ∨ v = 1) ∧ (v = 1 → TK o0 I ∧ I0 o0 13 ≤ I o0 15 ∧ I o0 20 = I0 o0 20 + 1 ∧ I0 o0 20 < 8 ∧ ∀ q j, ¬ (q = o0 ∧ (j = 13 ∨ j = 14 ∨ j = 15 ∨ j = 16 ∨ j = 20)) → I q j = I0 q j)) := by
  unfold f_X_opens
  refine sat_ite (fun q => ?_) (fun q => ?_)
  · refine sat_zb (ok_X_bad fu o0 3 I0 hfu hRI0 (lit_in rfl)) (fun y5 I6 c4 ⟨q5, hRI6, p6⟩ => ?_)
    exact sat_zg (Or.inl p6) (fun _ => sat_zr ⟨q5, hRI6, Or.inl p6, fun z => by omega⟩)
  · refine sat_zwX0 hRI0 (wr32_in _) (by omega) (fun I1 e1 hRI1 => ?_)
    have g : ∀ j, j ≠ 20 → I1 o0 j = I0 o0 j := fun j hj => by rw [e1, if_neg (by omega)]
    obtain ⟨t1, t2, t3, t4⟩ := h
    refine sat_zb (ok_nx fu o0 I1 hfu hRI1 ⟨by rw [g 15 (by decide)]; exact t1, by rw [g 15 (by decide), g 13 (by decide)]; exact t2, by rw [g 13 (by decide), g 12 (by decide)]; exact t3, by rw [g 14 (by decide), g 15 (by decide), g 13 (by decide)]; exact t4⟩) (fun u I3 c3 ⟨_, hRI3, tk3, m3, f3⟩ => ?_)
    refine sat_zr ⟨lit_in rfl, hRI3, Or.inr rfl, fun _ => ⟨tk3, by rw [← g 13 (by decide)]; exact m3, ?_, by omega, fun q j hq => by rw [f3 _ _ (by omega), e1, if_neg (by omega)]⟩⟩
    rw [f3 _ _ (by omega), e1, if_pos ⟨rfl, rfl⟩]
    exact wr32_i2 (by omega) (by omega)
theorem ux_t {o : Nat} {a b c : Int} {I0 I1 : IMem} (r : RL o 0 a b I0 I1) (d : I1 o 20 = I0 o 20) {x : Res} (h : sat x (UX o b c I1)) : sat x (UX o a c I0) := by
  obtain ⟨v, I, es, qv, hI, bv, pv⟩ := h
  exact ⟨v, I, es, qv, hI, bv, fun w => ⟨(pv w).1, rl_t (e := 0) (f := 0) r (pv w).2.1, (pv w).2.2.trans d⟩⟩
/-- an operator's token, then what R parses, then the operator -/
theorem ok_opr (fu : Nat) (o0 : Nat) (s : Int) (hfu : 5000000000 < fu) (I0 : IMem) (hRI0 : GX o0 I0) (hpi : PI o0 I0) (hne : I0 o0 14 ≠ 0) (qs : inr s) (hs : 12 ≤ s ∧ s ≠ 15 ∧ s ≠ 19) (X K : IMem → Res) (hX : ∀ I, GX o0 I → PI o0 I → I o0 20 = I0 o0 20 → sat (X I) (UX o0 0 1 I)) (hK : ∀ I, GX o0 I → PI o0 I → I o0 20 = I0 o0 20 → I0 o0 15 < I o0 15 → sat (K I) (UX o0 1 1 I)) : sat (zb (f_X_next0 fu o0 I0) fun _ I5 => zb (X I5) fun y7 I8 => if y7 = 0 then zr 0 I8 else zb (f_X_lay fu o0 s 0 I8) fun _ I11 => K I11) (UX o0 1 1 I0) := by
  have hgt := gx_t hRI0
  obtain ⟨⟨t1, t2, t3, t4⟩, h1, h2⟩ := hpi
  have ht4 := t4 hne
  refine sat_zb (ok_nx fu o0 I0 hfu hRI0 ⟨t1, t2, t3, t4⟩) (fun u I10 c1 ⟨_, hRI10, tk10, m10, f10⟩ => ?_)
  have e11 : I10 o0 11 = I0 o0 11 := f10 _ _ (by omega)
  have r10 : RL o0 1 1 1 I0 I10 := rl_same e11 (by omega) (by omega) (fun j => f10 _ _ (by omega))
  have d10 : I10 o0 20 = I0 o0 20 := f10 _ _ (by omega)
  refine sat_zb (hX I10 hRI10 ⟨tk10, by omega, by omega⟩ d10) (fun y12 I13 c2 ⟨q12, hRI13, b12, p13⟩ => ?_)
  refine sat_ite (fun z => ?_) (fun z => ?_)
  · exact sat_zr ⟨lit_in rfl, hRI13, Or.inl rfl, fun w => absurd w (by decide)⟩
  obtain ⟨tk13, r13, d13⟩ := p13 (b12.resolve_left z)
  have hd := r13.2.2.2.1
  have hd0 := r13.2.1
  refine sat_zb (ok_opl fu o0 s 0 2 1 I13 hRI13 tk13 (by omega) qs (lit_in rfl) (st_op hs)) (fun u2 I16 c3 ⟨_, hRI16, tk16, r16, g16⟩ => ?_)
  have rr : RL o0 0 1 1 I0 I16 := rl_t (e := 1) (f := -1) r10 (rl_t (e := 0) (f := -1) (b := 2) (rl_up r13 1 (by decide)) r16)
  have e16 := g16 15 (by decide)
  have d16 : I16 o0 20 = I0 o0 20 := (g16 20 (by decide)).trans (d13.trans d10)
  exact ux_t rr d16 (hK I16 hRI16 (pi_rl (e := 0) ⟨⟨t1, t2, t3, t4⟩, h1, h2⟩ (by decide) tk16 rr) d16 (by omega))
