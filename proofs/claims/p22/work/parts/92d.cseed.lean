/-! the seed of the class's hill -/
def SE (o : Nat) (I0 I : IMem) : Prop := I o 6 = I0 o 6 ∧ ∀ q, (q = o + 1 ∨ q = o + 4 ∨ q = o + 5) → I q = I0 q
def SQ (o : Nat) (s : Int) (I0 I : IMem) : Prop := I o 6 = s ∧ ∀ q, (q = o + 1 ∨ q = o + 4 ∨ q = o + 5) → I q = I0 q
def NS (o q : Nat) : Prop := q ≠ o ∧ q ≠ o + 1 ∧ q ≠ o + 4 ∧ q ≠ o + 5
theorem se_rfl {o : Nat} {I : IMem} : SE o I I := ⟨rfl, fun _ _ => rfl⟩
theorem se_t {o : Nat} {I0 I1 I2 : IMem} (a : SE o I0 I1) (b : SE o I1 I2) : SE o I0 I2 := ⟨b.1.trans a.1, fun q hq => (b.2 q hq).trans (a.2 q hq)⟩
theorem sq_t {o : Nat} {s : Int} {I0 I1 I2 : IMem} (a : SQ o s I0 I1) (b : SE o I1 I2) : SQ o s I0 I2 := ⟨b.1.trans a.1, fun q hq => (b.2 q hq).trans (a.2 q hq)⟩
theorem sq_s {o : Nat} {s : Int} {I0 I1 I2 : IMem} (a : SE o I0 I1) (b : SQ o s I1 I2) : SQ o s I0 I2 := ⟨b.1, fun q hq => (b.2 q hq).trans (a.2 q hq)⟩
theorem se_f {o : Nat} {I0 I : IMem} (h : ∀ q, ¬ NS o q → I q = I0 q) : SE o I0 I := ⟨congrFun (h o (by unfold NS; omega)) 6, fun q hq => h q (by unfold NS; omega)⟩
theorem se_u {o p j : Nat} {v : Int} {I0 I : IMem} (h : SE o I0 I) (hp : NS o p ∨ (p = o ∧ j ≠ 6)) : SE o I0 (up I p j v) := by
  unfold NS at hp
  exact ⟨(if_neg (fun z => by omega)).trans h.1, fun q hq => (funext fun i => if_neg (fun z => by omega)).trans (h.2 q hq)⟩
theorem cs_draw {fu o : Nat} {a : Int} {I : IMem} {r : Int × IMem} (e : f_H_draw fu o a I = some r) : SQ o (lcg (I o 6)) I r.2 := by
  unfold f_H_draw at e
  have e2 : (fun I1 : IMem => if 0 < a then zg (a ≠ 0) (zr (wrem (wushr (I1 o 6) 8) a) I1) else zr 0 I1) (up I o 6 (wr32 (wr32 (I o 6 * 1664525) + 1013904223))) = some r := e
  have key : SQ o (lcg (I o 6)) I (up I o 6 (wr32 (wr32 (I o 6 * 1664525) + 1013904223))) := by
    refine ⟨(if_pos ⟨rfl, rfl⟩).trans ?_, fun q hq => funext fun i => if_neg (fun z => by omega)⟩
    unfold lcg
    rw [Int.mul_comm]
  rcases of_ite e2 with ⟨_, e3⟩ | ⟨_, e3⟩
  · obtain ⟨g, e3⟩ := of_zg e3
    cases e3; exact key
  · cases e3; exact key
theorem cs_close {fu o : Nat} {a1 a2 : Int} {I : IMem} {r : Int × IMem} (e : f_H_close fu o a1 a2 I = some r) : SQ o (sdG (I (o + 1) 3) (I o 6)) I r.2 := by
  unfold f_H_close at e
  simp only [zw] at e
  obtain ⟨k3, ek3, e⟩ := of_zj e
  have hk3 : ∀ I4, k3 I4 = some r → SE o I4 r.2 := by
    intro I4 h
    subst ek3
    obtain ⟨y7, I8, c8, h⟩ := of_zb h
    have f8 : SE o _ I8 := se_f (fr_H_pastAt (NS o) fu _ _ c8)
    obtain ⟨g1, h⟩ := of_zg h
    obtain ⟨x12, -, h⟩ := of_zl h
    obtain ⟨g2, h⟩ := of_zg h
    obtain ⟨x14, -, h⟩ := of_zl h
    obtain ⟨g3, h⟩ := of_zg h
    cases h
    refine se_u (se_u (se_u (se_u (se_t ?_ f8) ?_) ?_) ?_) ?_
    · exact se_u (se_u se_rfl (Or.inl (by unfold NS; omega))) (Or.inl (by unfold NS; omega))
    all_goals exact Or.inl (by unfold NS; omega)
  have hI2 : ∀ v w, SE o I (up (up I (o + 10) 1 v) (o + 10) 3 w) := fun v w => se_u (se_u se_rfl (Or.inl (by unfold NS; omega))) (Or.inl (by unfold NS; omega))
  have h13 : ∀ v w, up (up I (o + 10) 1 v) (o + 10) 3 w (o + 1) 3 = I (o + 1) 3 := fun v w => congrFun ((hI2 v w).2 (o + 1) (Or.inl rfl)) 3
  rcases of_ite e with ⟨q, e⟩ | ⟨q, e⟩
  · rw [h13] at q
    obtain ⟨y16, I17, c17, e⟩ := of_zb e
    have d := cs_draw c17
    have hs : SQ o (sdG (I (o + 1) 3) (I o 6)) I I17 := by
      unfold sdG
      rw [if_pos q]
      have d2 := d
      rw [(hI2 _ _).1] at d2
      exact sq_s (hI2 _ _) d2
    rcases of_ite e with ⟨q2, e⟩ | ⟨q2, e⟩
    · have h9 := hk3 _ e
      refine sq_t (sq_t hs ?_) h9
      exact se_u (se_u se_rfl (Or.inl (by unfold NS; omega))) (Or.inl (by unfold NS; omega))
    · exact sq_t hs (hk3 _ e)
  · rw [h13] at q
    have hs : SQ o (sdG (I (o + 1) 3) (I o 6)) I I := by
      unfold sdG
      rw [if_neg q]
      exact ⟨rfl, fun _ _ => rfl⟩
    have h9 := hk3 _ e
    refine sq_t ?_ h9
    exact sq_t hs (hI2 _ _)
theorem lv_9 (fu c o : Nat) (p2 : Int) {I0 : IMem} {Q : Int × IMem → Prop} (K : IMem → Res) (hK : ∀ I r, SE o I0 I → K I = some r → Q r) : ∀ (m : Nat) (w : Int) (I : IMem) (r : Int × IMem), SE o I0 I → f_C_leave_9 fu K c o p2 m w I = some r → Q r := by
  intro m
  induction m with
  | zero => intro w I r _ hf; cases hf
  | succ m ih =>
    intro w I r hI hf
    replace hf : fb_C_leave_9 fu K c o p2 (f_C_leave_9 fu K c o p2 m) w I = some r := hf
    unfold fb_C_leave_9 at hf
    rcases of_ite hf with ⟨q, hf⟩ | ⟨q, hf⟩
    · rcases of_ite hf with ⟨q2, hf⟩ | ⟨q2, hf⟩
      · obtain ⟨g1, hf⟩ := of_zg hf
        obtain ⟨g2, hf⟩ := of_zg hf
        obtain ⟨u, I3, c3, hf⟩ := of_zb hf
        obtain ⟨x5, -, hf⟩ := of_zl hf
        exact ih _ _ _ (se_t hI (se_f (fr_H_note (NS o) fu o _ _ _ I (by unfold NS; omega) (by unfold NS; omega) c3))) hf
      · exact hK _ _ hI hf
    · exact hK _ _ hI hf
theorem lv_59 (fu c o : Nat) (p2 : Int) {I0 : IMem} {Q : Int × IMem → Prop} (K : IMem → Res) (hK : ∀ I r, SE o I0 I → K I = some r → Q r) : ∀ (m : Nat) (w : Int) (I : IMem) (r : Int × IMem), SE o I0 I → f_C_leave_59 fu K c o p2 m w I = some r → Q r := by
  intro m
  induction m with
  | zero => intro w I r _ hf; cases hf
  | succ m ih =>
    intro w I r hI hf
    replace hf : fb_C_leave_59 fu K c o p2 (f_C_leave_59 fu K c o p2 m) w I = some r := hf
    unfold fb_C_leave_59 at hf
    rcases of_ite hf with ⟨q, hf⟩ | ⟨q, hf⟩
    · obtain ⟨y10, I11, c11, hf⟩ := of_zb hf
      have h11 : SE o I0 I11 := se_t hI (se_f (fr_L_append (NS o) fu (o + 6) 0 (c + 4) 864 _ I (by unfold NS; omega) (by unfold NS; omega) c11))
      obtain ⟨k13, ek13, hf⟩ := of_zj hf
      have hk13 : ∀ I2, SE o I0 I2 → k13 I2 = some r → Q r := by
        intro I2 h2 h
        subst ek13
        obtain ⟨x15, -, h⟩ := of_zl h
        exact ih _ _ _ h2 h
      rcases of_ite hf with ⟨q2, hf⟩ | ⟨q2, hf⟩
      · exact hk13 _ (se_u h11 (Or.inl (by unfold NS; omega))) hf
      · exact hk13 _ h11 hf
    · exact hK _ _ hI hf
theorem cs_leave {fu c o : Nat} {I : IMem} {r : Int × IMem} (e : f_C_leave fu c o I = some r) : SQ o (sdG (I (o + 1) 3) (I o 6)) I r.2 := by
  unfold f_C_leave at e
  obtain ⟨x1, -, e⟩ := of_zl e
  refine lv_9 fu c o x1 (I0 := I) (Q := fun r => SQ o (sdG (I (o + 1) 3) (I o 6)) I r.2) _ (fun I6 r2 h6 e6 => ?_) fu 0 I r se_rfl e
  obtain ⟨u, I8, c8, e6⟩ := of_zb e6
  have h8 : SE o I I8 := se_t h6 (se_f (fr_L_depart (NS o) fu (o + 6) (c + 1) 240 I6 (by unfold NS; omega) (by unfold NS; omega) c8))
  refine lv_59 fu c o x1 (I0 := I) (Q := fun r => SQ o (sdG (I (o + 1) 3) (I o 6)) I r.2) _ (fun I17 r3 h17 e17 => ?_) fu 0 I8 r2 h8 e6
  obtain ⟨u2, I19, c19, e17⟩ := of_zb e17
  cases e17
  have d := cs_close c19
  rw [h17.1, congrFun (h17.2 (o + 1) (Or.inl rfl)) 3] at d
  exact sq_s h17 d
theorem cs_enter {fu o : Nat} {a1 a2 a3 : Int} {I : IMem} {r : Int × IMem} (e : f_H_enter fu o a1 a2 a3 I = some r) : SE o I r.2 := by
  unfold f_H_enter at e
  simp only [zw] at e
  obtain ⟨y6, I7, c7, e⟩ := of_zb e
  have h7 : SE o I I7 := se_t (se_u (se_u (se_u (se_u (se_u se_rfl (Or.inl (by unfold NS; omega))) (Or.inl (by unfold NS; omega))) (Or.inl (by unfold NS; omega))) (Or.inl (by unfold NS; omega))) (Or.inr ⟨rfl, by decide⟩)) (se_f (fr_H_lineFor (NS o) fu o a2 a3 _ (by unfold NS; omega) (by unfold NS; omega) c7))
  obtain ⟨y9, I10, c10, e⟩ := of_zb e
  have h10 : SE o I I10 := se_t h7 (se_f (fr_L_append (NS o) fu (o + 6) y6 (o + 14) 6 0 I7 (by unfold NS; omega) (by unfold NS; omega) c10))
  rcases of_ite e with ⟨q, e⟩ | ⟨q, e⟩
  · cases e
    exact se_u h10 (Or.inl (by unfold NS; omega))
  · cases e; exact h10
theorem cs_let {fu o : Nat} {I0 : IMem} : ∀ (m k : Nat) (I : IMem) (r : Int × IMem), k ≤ 8 → SQ o (sdT (fun k => I0 (o + 4) (4 * k + 3)) k (I0 o 6)) I0 I → f_H_letComersEnter_2 fu o m (4 * (k : Int)) I = some r → SQ o (sdT (fun k => I0 (o + 4) (4 * k + 3)) 8 (I0 o 6)) I0 r.2 := by
  intro m
  induction m with
  | zero => intro k I r _ _ hf; cases hf
  | succ m ih =>
    intro k I r hk hI hf
    replace hf : fb_H_letComersEnter_2 fu o (f_H_letComersEnter_2 fu o m) (4 * (k : Int)) I = some r := hf
    unfold fb_H_letComersEnter_2 at hf
    rw [wr32_i2 (x := 4 * (k : Int) + 3) (by omega) (by omega)] at hf
    rcases of_ite hf with ⟨q, hf⟩ | ⟨q, hf⟩
    · obtain ⟨x1, e1, hf⟩ := of_zl hf
      obtain ⟨g1, hf⟩ := of_zg hf
      obtain ⟨x2, e2, hf⟩ := of_zl hf
      obtain ⟨k3, ek3, hf⟩ := of_zj hf
      have ev : x2 = I0 (o + 4) (4 * k + 3) := by
        rw [e2, hI.2 (o + 4) (Or.inr (Or.inl rfl)), show x1.toNat = 4 * k + 3 by omega]
      have hk3 : ∀ I4, SQ o (sdT (fun k => I0 (o + 4) (4 * k + 3)) (k + 1) (I0 o 6)) I0 I4 → k3 I4 = some r → SQ o (sdT (fun k => I0 (o + 4) (4 * k + 3)) 8 (I0 o 6)) I0 r.2 := by
        intro I4 h4 h
        subst ek3
        obtain ⟨x5, e5, h⟩ := of_zl h
        rw [wr32_i2 (x := 4 * (k : Int) + 4) (by omega) (by omega)] at e5
        rw [e5, show 4 * (k : Int) + 4 = 4 * ((k + 1 : Nat) : Int) by omega] at h
        exact ih (k + 1) I4 r (by omega) h4 h
      rcases of_ite hf with ⟨q2, hf⟩ | ⟨q2, hf⟩
      · obtain ⟨y6, I7, c7, hf⟩ := of_zb hf
        have d := cs_draw c7
        have h7 : SQ o (sdT (fun k => I0 (o + 4) (4 * k + 3)) (k + 1) (I0 o 6)) I0 I7 := by
          refine ⟨d.1.trans ?_, fun p hp => (d.2 p hp).trans (hI.2 p hp)⟩
          show _ = if 0 < I0 (o + 4) (4 * k + 3) then _ else _
          rw [← ev, if_pos q2, hI.1]
        rcases of_ite hf with ⟨q3, hf⟩ | ⟨q3, hf⟩
        · obtain ⟨g2, hf⟩ := of_zg hf
          obtain ⟨x9, -, hf⟩ := of_zl hf
          obtain ⟨g3, hf⟩ := of_zg hf
          obtain ⟨x10, -, hf⟩ := of_zl hf
          obtain ⟨g4, hf⟩ := of_zg hf
          obtain ⟨y11, I12, c12, hf⟩ := of_zb hf
          exact hk3 _ (sq_t h7 (cs_enter c12)) hf
        · exact hk3 _ h7 hf
      · refine hk3 _ ⟨hI.1.trans ?_, hI.2⟩ hf
        show _ = if 0 < I0 (o + 4) (4 * k + 3) then _ else _
        rw [← ev, if_neg q2]
    · have : k = 8 := by omega
      subst this
      cases hf
      exact hI
theorem cs_turns {fu : Nat} {p2 : Int} {I0 : IMem} : ∀ (m : Nat) (w3 : Int) (k : Nat) (I : IMem) (r : Int × IMem), (k : Int) ≤ p2 → p2 ≤ 60 → SQ 1 (sdR (fun k => I0 (1 + 4) (4 * k + 3)) (I0 (1 + 1) 3) k (I0 1 6)) I0 I → f_C_turns_5 fu 130 1 p2 m w3 (k : Int) I = some r → SQ 1 (sdR (fun k => I0 (1 + 4) (4 * k + 3)) (I0 (1 + 1) 3) p2.toNat (I0 1 6)) I0 r.2 := by
  intro m
  induction m with
  | zero => intro w3 k I r _ _ _ hf; cases hf
  | succ m ih =>
    intro w3 k I r hk hp hI hf
    replace hf : fb_C_turns_5 fu 130 1 p2 (f_C_turns_5 fu 130 1 p2 m) w3 (k : Int) I = some r := hf
    unfold fb_C_turns_5 at hf
    rcases of_ite hf with ⟨q, hf⟩ | ⟨q, hf⟩
    · obtain ⟨u, I2, c2, hf⟩ := of_zb hf
      have h2 : SQ 1 (sdT (fun k => I (1 + 4) (4 * k + 3)) 8 (I 1 6)) I I2 := cs_let (o := 1) fu 0 I (u, I2) (by omega) ⟨rfl, fun _ _ => rfl⟩ c2
      obtain ⟨u5, I5, c5, hf⟩ := of_zb hf
      have h5 : SE 1 I2 I5 := se_f (fr_C_fill (NS 1) fu 130 1 I2 (fun q _ _ => by unfold NS; omega) (by unfold NS; omega) (by unfold NS; omega) (by unfold NS; omega) (by unfold NS; omega) (by unfold NS; omega) (by unfold NS; omega) (by unfold NS; omega) (by unfold NS; omega) (by unfold NS; omega) (by unfold NS; omega) c5)
      obtain ⟨y7, I8, c8, hf⟩ := of_zb hf
      have h8 := cs_leave c8
      obtain ⟨x10, -, hf⟩ := of_zl hf
      obtain ⟨x11, e11, hf⟩ := of_zl hf
      rw [wr32_i2 (x := (k : Int) + 1) (by omega) (by omega)] at e11
      rw [e11, show (k : Int) + 1 = ((k + 1 : Nat) : Int) by omega] at hf
      refine ih x10 (k + 1) I8 r (by omega) hp ?_ hf
      have h25 := sq_t h2 h5
      rw [h25.1, congrFun (h25.2 (1 + 1) (Or.inl rfl)) 3, congrFun (hI.2 (1 + 1) (Or.inl rfl)) 3, hI.2 (1 + 4) (Or.inr (Or.inl rfl)), hI.1] at h8
      exact ⟨h8.1, fun p hp => (h8.2 p hp).trans ((h25.2 p hp).trans (hI.2 p hp))⟩
    · have : p2.toNat = k := by omega
      rw [this]
      cases hf
      exact hI
theorem cs_S_send {fu : Nat} {I : IMem} {r : Int × IMem} (e : f_S_send fu 0 I = some r) : SQ 1 (sdG (I 2 3) (I 1 6)) I r.2 := by
  unfold f_S_send at e
  obtain ⟨y1, I2, c2, e⟩ := of_zb e
  obtain ⟨u, I5, c5, e⟩ := of_zb e
  cases e
  have h5 : SE (0 + 1) I2 I5 := se_f (fr_S_dropPicked (NS (0 + 1)) fu 0 I2 (by unfold NS; omega) (by unfold NS; omega) c5)
  exact sq_t (cs_leave (o := 0 + 1) c2) h5
theorem cs_S_chair {fu : Nat} {I : IMem} {r : Int × IMem} (e : f_S_chair fu 0 I = some r) : SQ 1 (sdG (I 2 3) (I 1 6)) I r.2 := by
  unfold f_S_chair at e
  obtain ⟨u, I2, c2, e⟩ := of_zb e
  have h2 : SE 1 I I2 := se_f (o := 0 + 1) (fr_S_dropPicked (NS (0 + 1)) fu 0 I (by unfold NS; omega) (by unfold NS; omega) c2)
  obtain ⟨y4, I5, c5, e⟩ := of_zb e
  cases e
  unfold f_C_ride at c5
  obtain ⟨u3, I3, c3, c5⟩ := of_zb c5
  have h3 : SE 1 I2 I3 := se_f (fr_C_fill (NS 1) fu 130 1 I2 (fun q _ _ => by unfold NS; omega) (by unfold NS; omega) (by unfold NS; omega) (by unfold NS; omega) (by unfold NS; omega) (by unfold NS; omega) (by unfold NS; omega) (by unfold NS; omega) (by unfold NS; omega) (by unfold NS; omega) (by unfold NS; omega) c3)
  obtain ⟨u4, I4, c4, c5⟩ := of_zb c5
  cases c5
  have h4 := cs_leave c4
  have h23 := se_t h2 h3
  have d : SQ 1 (sdG (I3 (1 + 1) 3) (I3 1 6)) I3 I5 := h4
  rw [h23.1, congrFun (h23.2 (1 + 1) (Or.inl rfl)) 3] at d
  exact sq_s h23 d
theorem cs_S_run {fu : Nat} {a1 : Int} {I : IMem} {r : Int × IMem} (e : f_S_run fu 0 a1 I = some r) : SQ 1 (if 1 ≤ a1 ∧ a1 ≤ 60 then sdR (fun k => I 5 (4 * k + 3)) (I 2 3) a1.toNat (I 1 6) else I 1 6) I r.2 := by
  unfold f_S_run at e
  rcases of_ite e with ⟨q, e⟩ | ⟨q, e⟩
  · cases e
    rw [if_neg (by omega)]
    exact ⟨rfl, fun _ _ => rfl⟩
  · rcases of_ite e with ⟨q2, e⟩ | ⟨q2, e⟩
    · cases e
      rw [if_neg (by omega)]
      exact ⟨rfl, fun _ _ => rfl⟩
    · obtain ⟨u, I2, c2, e⟩ := of_zb e
      have h2 : SE 1 I I2 := se_f (o := 0 + 1) (fr_S_dropPicked (NS (0 + 1)) fu 0 I (by unfold NS; omega) (by unfold NS; omega) c2)
      obtain ⟨y4, I5, c5, e⟩ := of_zb e
      cases e
      rw [if_pos (by omega)]
      unfold f_C_turns at c5
      have d : SQ 1 (sdR (fun k => I2 (1 + 4) (4 * k + 3)) (I2 (1 + 1) 3) a1.toNat (I2 1 6)) I2 I5 := cs_turns fu 0 0 I2 (y4, I5) (by omega) (by omega) ⟨rfl, fun _ _ => rfl⟩ c5
      rw [h2.1, congrFun (h2.2 (1 + 1) (Or.inl rfl)) 3, h2.2 (1 + 4) (Or.inr (Or.inl rfl))] at d
      exact sq_s h2 d
theorem cs_S_come {fu : Nat} {a1 a2 a3 : Int} {I : IMem} {r : Int × IMem} (e : f_S_come fu 0 a1 a2 a3 I = some r) : SE 1 I r.2 := by
  unfold f_S_come at e
  obtain ⟨y1, I2, c2, e⟩ := of_zb e
  have h2 : SE 1 I I2 := se_f (o := 1) (fr_S_canBe (NS 1) fu a1 a2 a3 I c2)
  rcases of_ite e with ⟨q, e⟩ | ⟨q, e⟩
  · cases e; exact h2
  · obtain ⟨y4, I5, c5, e⟩ := of_zb e
    cases e
    exact se_t h2 (cs_enter (o := 0 + 1) c5)
