/-! the group any, every, one, by hand -/
theorem ux_done {o : Nat} {I0 : IMem} (hg : GX o I0) (h : PI o I0) : sat (zr 1 I0) (UX o 1 1 I0) := by
  have hgt := gx_t hg
  obtain ⟨⟨t1, t2, t3, t4⟩, h1, h2⟩ := h
  exact sat_zr ⟨lit_in rfl, hg, Or.inr rfl, fun _ => ⟨⟨t1, t2, t3, t4⟩, rl_same rfl (by omega) (by omega) (fun _ => rfl), rfl⟩⟩
theorem ok_every9 (fu : Nat) (R : (Nat → IMem → Res) × (Nat → IMem → Res) × (Nat → IMem → Res)) (o0 : Nat) (d : Int) (hfu : 5000000000 < fu) (hR : ∀ I, GX o0 I → PI o0 I → I o0 20 = d → sat (R.2.2 o0 I) (UX o0 0 1 I)) : ∀ (m : Nat) (I0 : IMem), GX o0 I0 → PI o0 I0 → I0 o0 20 = d → (400 - I0 o0 15).toNat < m → sat (f_X_every_9 fu R o0 m I0) (UX o0 1 1 I0) := by
  intro m
  induction m with
  | zero => intro I0 _ _ _ h0; exact absurd h0 (Nat.not_lt_zero _)
  | succ m ih =>
    intro I0 hRI0 hpi hd hm
    show sat (fb_X_every_9 fu R o0 (f_X_every_9 fu R o0 m) I0) _
    unfold fb_X_every_9
    have hgt := gx_t hRI0
    have ht := hpi.1
    refine sat_ite (fun q => ?_) (fun q => ux_done hRI0 hpi)
    have hx := ht.2.2.2 (by omega)
    have hx2 := ht.2.2.1
    exact ok_opr fu o0 20 hfu I0 hRI0 hpi (by omega) (lit_in rfl) (by decide) (fun I => R.2.2 o0 I) (fun I => f_X_every_9 fu R o0 m I) (fun I a b c => hR I a b (c.trans hd)) (fun I a b c e => ih I a b (c.trans hd) (by omega))
theorem ok_any9 (fu : Nat) (R : (Nat → IMem → Res) × (Nat → IMem → Res) × (Nat → IMem → Res)) (o0 : Nat) (d : Int) (hfu : 5000000000 < fu) (hR : ∀ I, GX o0 I → PI o0 I → I o0 20 = d → sat (R.2.1 o0 I) (UX o0 0 1 I)) : ∀ (m : Nat) (I0 : IMem), GX o0 I0 → PI o0 I0 → I0 o0 20 = d → (400 - I0 o0 15).toNat < m → sat (f_X_any_9 fu R o0 m I0) (UX o0 1 1 I0) := by
  intro m
  induction m with
  | zero => intro I0 _ _ _ h0; exact absurd h0 (Nat.not_lt_zero _)
  | succ m ih =>
    intro I0 hRI0 hpi hd hm
    show sat (fb_X_any_9 fu R o0 (f_X_any_9 fu R o0 m) I0) _
    unfold fb_X_any_9
    have hgt := gx_t hRI0
    have ht := hpi.1
    refine sat_ite (fun q => ?_) (fun q => ux_done hRI0 hpi)
    have hx := ht.2.2.2 (by omega)
    have hx2 := ht.2.2.1
    exact ok_opr fu o0 21 hfu I0 hRI0 hpi (by omega) (lit_in rfl) (by decide) (fun I => R.2.1 o0 I) (fun I => f_X_any_9 fu R o0 m I) (fun I a b c => hR I a b (c.trans hd)) (fun I a b c e => ih I a b (c.trans hd) (by omega))
