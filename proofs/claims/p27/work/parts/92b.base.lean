/-! both memories: the tape's length, the image's flag -/
def RJ7 (I J : IMem) : Prop := I 144 1 = J 0 12 ∧ I 0 8 = J 0 3
def NZ2 (q : Nat) : Prop := q ≠ 0 ∧ q ≠ 144
def KR (q j : Nat) : Prop := ¬ (q = 144 ∧ j = 1)
def KM5 (q j : Nat) : Prop := ¬ (q = 0 ∧ (j = 12 ∨ j = 3))
theorem rj7_k {I J I2 J2 : IMem} (h : RJ7 I J) (h1 : ∀ q, ¬ NZ2 q → I2 q = I q) (h2 : ∀ q j, ¬ KM5 q j → J2 q j = J q j) : RJ7 I2 J2 := by
  unfold RJ7
  rw [h1 144 (by unfold NZ2; omega), h1 0 (by unfold NZ2; omega), h2 0 12 (by unfold KM5; omega), h2 0 3 (by unfold KM5; omega)]
  exact h
theorem sat_l {Q : Int → IMem → Prop} {v : Int} {k : Int → Res} (h : sat (k v) Q) : sat (zl v k) Q := h
theorem sat_w {Q : Int → IMem → Prop} {I : IMem} {o j : Nat} {v : Int} {k : IMem → Res} (h : sat (k (up I o j v)) Q) : sat (zw I o j v k) Q := h
theorem sat_of {x : Res} {r : Int × IMem} {Q : Int → IMem → Prop} (h : sat x Q) (e : x = some r) : Q r.1 r.2 := by
  obtain ⟨v, I, e2, q⟩ := h
  rw [e] at e2
  cases e2
  exact q
theorem tk_3 (fu : Nat) (o : Nat) (a : Int) : ∀ (k m : Nat) (I : IMem), k < m → k ≤ 4 → 0 ≤ I o 1 → I o 1 + k ≤ 400 → sat (f_R_take_3 fu o a m (8 * (k : Int) - 8) I) (fun _ I' => I' o 1 = I o 1 + k) := by
  intro k
  induction k with
  | zero =>
    intro m I hm _ _ _
    obtain ⟨m, rfl⟩ : ∃ m2, m = m2 + 1 := ⟨m - 1, by omega⟩
    show sat (fb_R_take_3 fu o a (f_R_take_3 fu o a m) _ I) _
    unfold fb_R_take_3
    exact sat_ite (fun _ => sat_zr (by show I o 1 = I o 1 + ((0 : Nat) : Int); omega)) (fun q => absurd (by decide) q)
  | succ k ih =>
    intro m I hm h4 h0 h1
    obtain ⟨m, rfl⟩ : ∃ m2, m = m2 + 1 := ⟨m - 1, by omega⟩
    show sat (fb_R_take_3 fu o a (f_R_take_3 fu o a m) _ I) _
    unfold fb_R_take_3
    refine sat_ite (fun q => absurd q (by omega)) (fun q => ?_)
    refine sat_zj (fun k1 ek1 => ?_)
    refine sat_ite (fun z => absurd z (by omega)) (fun z => sat_ite (fun z2 => ?_) (fun z2 => absurd z2 (by omega)))
    refine sat_l (sat_zg (by omega) (fun _ => sat_w (sat_w ?_)))
    subst ek1
    refine sat_l ?_
    rw [wr32_i2 (x := 8 * ((k + 1 : Nat) : Int) - 8 + -8) (by omega) (by omega), show 8 * ((k + 1 : Nat) : Int) - 8 + -8 = 8 * (k : Int) - 8 by omega]
    have e1 : ∀ (v : Int) (j : Nat), up I (o + 1) j v o 1 = I o 1 := fun v j => if_neg (fun z => by omega)
    have e2 : ∀ (I1 : IMem) (v : Int), up I1 o 1 v o 1 = v := fun I1 v => if_pos ⟨rfl, rfl⟩
    refine sat_mono (ih m _ (by omega) (by omega) ?_ ?_) (fun v I' h => ?_)
    · rw [e2, e1, wr32_i2 (by omega) (by omega)]; omega
    · rw [e2, e1, wr32_i2 (by omega) (by omega)]; omega
    · rw [h, e2, e1, wr32_i2 (by omega) (by omega)]; omega
theorem tk_1 (fu : Nat) (o : Nat) (a : Int) (I : IMem) (hfu : 5000000000 < fu) (h0 : 0 ≤ I o 1) (h1 : I o 1 + 4 ≤ 400) : sat (f_R_take fu o a I) (fun _ I' => I' o 1 = I o 1 + 4) := tk_3 fu o a 4 fu I (by omega) (Nat.le_refl _) h0 h1
/-- feed's answer -/
def fdA (t : Int) : Int := if 380 < t then -1 else t + 20
def fdT (t : Int) : Int := if 380 < t then t else t + 20
theorem ja_S_feed (fu : Nat) (a1 a2 a3 a4 a5 : Int) (I : IMem) (hfu : 5000000000 < fu) (h0 : 0 ≤ I 144 1) : sat (f_S_feed fu 0 a1 a2 a3 a4 a5 I) (fun v I' => v = fdA (I 144 1) ∧ I' 144 1 = fdT (I 144 1)) := by
  unfold f_S_feed
  have hr : sat (f_R_hasRoomForFive fu (0 + 144) I) (fun v I' => I' = I ∧ (v = 0 ↔ 380 < I 144 1)) := by
    unfold f_R_hasRoomForFive
    exact sat_ite (fun q => sat_zr ⟨rfl, ⟨fun _ => q, fun _ => rfl⟩⟩) (fun q => sat_zr ⟨rfl, ⟨fun z => absurd z (by decide), fun z => absurd z q⟩⟩)
  refine sat_zb hr (fun y I1 _ ⟨e, hy⟩ => ?_)
  subst e
  refine sat_ite (fun z => sat_zr ?_) (fun z => ?_)
  · have := hy.1 z
    unfold fdA fdT
    rw [if_pos this, if_pos this]
    exact ⟨rfl, rfl⟩
  have hn : ¬ 380 < I1 144 1 := fun q => z (hy.2 q)
  refine sat_zb (tk_1 fu 144 a1 I1 hfu h0 (by omega)) (fun _ I2 _ e2 => ?_)
  refine sat_zb (tk_1 fu 144 a2 I2 hfu (by omega) (by omega)) (fun _ I3 _ e3 => ?_)
  refine sat_zb (tk_1 fu 144 a3 I3 hfu (by omega) (by omega)) (fun _ I4 _ e4 => ?_)
  refine sat_zb (tk_1 fu 144 a4 I4 hfu (by omega) (by omega)) (fun _ I5 _ e5 => ?_)
  refine sat_zb (tk_1 fu 144 a5 I5 hfu (by omega) (by omega)) (fun _ I6 _ e6 => ?_)
  refine sat_zr ?_
  unfold fdA fdT
  rw [if_neg hn, if_neg hn]
  have e : I6 144 1 = I1 144 1 + 20 := by omega
  exact ⟨e, e⟩
theorem fd_18 (fu : Nat) (o : Nat) (a1 a2 a3 a4 a5 : Int) : ∀ (k m : Nat) (I : IMem), k < m → k ≤ 20 → 0 ≤ I o 12 → I o 12 + k ≤ 400 → sat (f_X_feed_18 fu o a1 a2 a3 a4 a5 m (20 - (k : Int)) I) (fun v I' => v = I o 12 + k ∧ I' o 12 = I o 12 + k) := by
  intro k
  induction k with
  | zero =>
    intro m I hm _ _ _
    obtain ⟨m, rfl⟩ : ∃ m2, m = m2 + 1 := ⟨m - 1, by omega⟩
    show sat (fb_X_feed_18 fu o a1 a2 a3 a4 a5 (f_X_feed_18 fu o a1 a2 a3 a4 a5 m) _ I) _
    unfold fb_X_feed_18
    exact sat_ite (fun q => absurd q (by decide)) (fun _ => sat_zr ⟨by omega, by omega⟩)
  | succ k ih =>
    intro m I hm h4 h0 h1
    obtain ⟨m, rfl⟩ : ∃ m2, m = m2 + 1 := ⟨m - 1, by omega⟩
    show sat (fb_X_feed_18 fu o a1 a2 a3 a4 a5 (f_X_feed_18 fu o a1 a2 a3 a4 a5 m) _ I) _
    unfold fb_X_feed_18
    refine sat_ite (fun q => ?_) (fun q => absurd q (by omega))
    refine sat_zj (fun k1 ek1 => ?_)
    have hk1 : ∀ x, sat (k1 x I) (fun v I' => v = I o 12 + ((k + 1 : Nat) : Int) ∧ I' o 12 = I o 12 + ((k + 1 : Nat) : Int)) := by
      intro x
      subst ek1
      refine sat_l (sat_zg (by omega) (fun _ => sat_w (sat_w (sat_l ?_))))
      rw [wr32_i2 (x := 20 - ((k + 1 : Nat) : Int) + 1) (by omega) (by omega), show 20 - ((k + 1 : Nat) : Int) + 1 = 20 - (k : Int) by omega]
      have e1 : ∀ (v : Int) (j : Nat), up I (o + 6) j v o 12 = I o 12 := fun v j => if_neg (fun z => by omega)
      have e2 : ∀ (I1 : IMem) (v : Int), up I1 o 12 v o 12 = v := fun I1 v => if_pos ⟨rfl, rfl⟩
      refine sat_mono (ih m _ (by omega) (by omega) ?_ ?_) (fun v I' h => ?_)
      · rw [e2, e1, wr32_i2 (by omega) (by omega)]; omega
      · rw [e2, e1, wr32_i2 (by omega) (by omega)]; omega
      · rw [e2, e1, wr32_i2 (by omega) (by omega)] at h; exact ⟨by rw [h.1]; omega, by rw [h.2]; omega⟩
    clear ek1
    exact sat_ite (fun _ => hk1 _) (fun _ => sat_ite (fun _ => hk1 _) (fun _ => sat_ite (fun _ => hk1 _) (fun _ => sat_ite (fun _ => hk1 _) (fun _ => hk1 _))))
theorem ja_X_feed (fu : Nat) (o : Nat) (a1 a2 a3 a4 a5 : Int) (I : IMem) (hfu : 5000000000 < fu) (h0 : 0 ≤ I o 12) (h1 : I o 12 ≤ 400) : sat (f_X_feed fu o a1 a2 a3 a4 a5 I) (fun v I' => v = fdA (I o 12) ∧ I' o 12 = fdT (I o 12)) := by
  unfold f_X_feed
  rw [wr32_i2 (by omega) (by omega)]
  unfold fdA fdT
  refine sat_ite (fun q => sat_zr ?_) (fun q => ?_)
  · rw [if_pos (by omega), if_pos (by omega)]; exact ⟨rfl, rfl⟩
  · rw [if_neg (by omega), if_neg (by omega)]
    exact fd_18 fu o a1 a2 a3 a4 a5 20 fu I (by omega) (Nat.le_refl _) h0 (by omega)
/-- end's answer -/
def enC (a t : Int) : Prop := 0 ≤ a ∧ a ≤ t
theorem ja_S_end (fu : Nat) (a1 : Int) (I : IMem) : sat (f_S_end fu 0 a1 I) (fun v I' => AN (enC a1 (I 144 1)) v ∧ I' 144 1 = if v = 1 then a1 else I 144 1) := by
  unfold f_S_end
  have hr : sat (f_R_cut fu (0 + 144) a1 I) (fun v I' => AN (enC a1 (I 144 1)) v ∧ I' 144 1 = if v = 1 then a1 else I 144 1) := by
    unfold f_R_cut
    refine sat_ite (fun q => sat_zr ⟨an_0 (by unfold enC; omega), rfl⟩) (fun q => sat_ite (fun (q2 : I 144 1 < a1) => sat_zr ⟨an_0 (by unfold enC; omega), rfl⟩) (fun (q2 : ¬ I 144 1 < a1) => sat_w (sat_zr ⟨an_1 (by unfold enC; omega), ?_⟩)))
    rw [if_pos rfl]
    exact if_pos ⟨rfl, rfl⟩
  refine sat_zb hr (fun y I1 _ h => ?_)
  exact sat_zg h.1.1 (fun _ => sat_zr h)
theorem ja_X_end (fu : Nat) (o : Nat) (a1 : Int) (I : IMem) (hfu : 5000000000 < fu) (hI : GX o I) (qa1 : inr a1) : sat (f_X_end fu o a1 I) (fun v I' => AN (enC a1 (I o 12)) v ∧ I' o 12 = if v = 1 then a1 else I o 12) := by
  unfold f_X_end
  refine sat_zb (ok_X_isIn fu a1 0 (I o 12) I hfu hI.1 qa1 (lit_in rfl) (hI.1 _ _)) (fun y I1 _ ⟨_, _, e, p, p2⟩ => ?_)
  subst e
  refine sat_ite (fun z => sat_zr ⟨an_0 (fun q => ?_), rfl⟩) (fun z => sat_w (sat_zr ⟨an_1 (p2.1 (p.resolve_left z)), ?_⟩))
  · have := p2.2 q
    omega
  · rw [if_pos rfl]
    exact if_pos ⟨rfl, rfl⟩
/-- image's answer -/
def imV (a f : Int) : Int := if a = 0 ∧ f = 0 then 0 else 1
theorem ja_S_image (fu : Nat) (a1 : Int) (I : IMem) {r : Int × IMem} (h8 : I 0 8 = 0 ∨ I 0 8 = 1) (hf : f_S_image fu 0 a1 I = some r) : r.1 = imV a1 (I 0 8) ∧ r.2 0 8 = imV a1 (I 0 8) := by
  unfold f_S_image at hf
  unfold imV
  rcases of_ite hf with ⟨q, hf⟩ | ⟨q, hf⟩
  · rcases of_ite hf with ⟨q2, hf⟩ | ⟨q2, hf⟩
    · obtain ⟨g, hf⟩ := of_zg hf
      cases hf
      have q2 : I 0 8 = 0 := q2
      rw [if_pos ⟨q, q2⟩]
      exact ⟨q2, q2⟩
    · obtain ⟨u, I2, c2, hf⟩ := of_zb hf
      obtain ⟨u5, I5, c4, hf⟩ := of_zb hf
      obtain ⟨g, hf⟩ := of_zg hf
      have f1 : ∀ q, ¬ NZ2 q → I2 q = I q := fr_H_copyFrom NZ2 fu (0 + 1) (0 + 41) I (fun q _ _ => by unfold NZ2; omega) (by unfold NZ2; omega) (by unfold NZ2; omega) (by unfold NZ2; omega) (by unfold NZ2; omega) (by unfold NZ2; omega) (by unfold NZ2; omega) (by unfold NZ2; omega) (by unfold NZ2; omega) (by unfold NZ2; omega) (by unfold NZ2; omega) (by unfold NZ2; omega) c2
      have f2 : ∀ q, ¬ NZ2 q → I5 q = I2 q := fr_S_dropPicked NZ2 fu 0 I2 (by unfold NZ2; omega) (by unfold NZ2; omega) c4
      have e8 : I5 0 8 = I 0 8 := by rw [f2 0 (by unfold NZ2; omega), f1 0 (by unfold NZ2; omega)]
      cases hf
      have q2 : ¬ I 0 8 = 0 := q2
      rw [if_neg (fun z => q2 z.2)]
      have e9 : I5 0 8 = 1 := by rw [e8]; omega
      exact ⟨e9, e9⟩
  · obtain ⟨u8, I8, c7, hf⟩ := of_zb hf
    have hf2 : (fun I10 : IMem => zg (I10 0 8 = 0 ∨ I10 0 8 = 1) (zr (I10 0 8) I10)) (up I8 0 8 1) = some r := hf
    obtain ⟨g, hf2⟩ := of_zg hf2
    cases hf2
    rw [if_neg (fun z => q z.1)]
    have e9 : up I8 0 8 1 0 8 = 1 := if_pos ⟨rfl, rfl⟩
    exact ⟨e9, e9⟩
theorem img_15 (fu : Nat) (o : Nat) (a1 : Int) {Q : Int × IMem → Prop} (K : IMem → Res) (hK : ∀ I r, K I = some r → Q r) : ∀ (m : Nat) (w : Int) (I : IMem) (r : Int × IMem), f_X_image_15 fu K o a1 m w I = some r → Q r := by
  intro m
  induction m with
  | zero => intro w I r hf; cases hf
  | succ m ih =>
    intro w I r hf
    replace hf : fb_X_image_15 fu K o a1 (f_X_image_15 fu K o a1 m) w I = some r := hf
    unfold fb_X_image_15 at hf
    rcases of_ite hf with ⟨q, hf⟩ | ⟨q, hf⟩
    · obtain ⟨k3, ek3, hf⟩ := of_zj hf
      have hk3 : ∀ I4, k3 I4 = some r → Q r := by
        intro I4 h4
        subst ek3
        exact ih _ I4 r h4
      rcases of_ite hf with ⟨q2, hf⟩ | ⟨q2, hf⟩
      · obtain ⟨g, hf⟩ := of_zg hf
        obtain ⟨g2, hf⟩ := of_zg hf
        exact hk3 _ hf
      · obtain ⟨g, hf⟩ := of_zg hf
        obtain ⟨g2, hf⟩ := of_zg hf
        exact hk3 _ hf
    · exact hK I r hf
theorem ja_X_image (fu : Nat) (o : Nat) (a1 : Int) (I : IMem) {r : Int × IMem} (hf : f_X_image fu o a1 I = some r) : r.1 = imV a1 (I o 3) ∧ r.2 o 3 = imV a1 (I o 3) := by
  unfold f_X_image at hf
  obtain ⟨k1, ek1, hf⟩ := of_zj hf
  have hk1 : ∀ I2, k1 I2 = some r → r.1 = 1 ∧ r.2 o 3 = 1 := by
    intro I2 h2
    subst ek1
    refine img_15 fu o a1 (Q := fun r => r.1 = 1 ∧ r.2 o 3 = 1) _ (fun I8 r2 h8 => ?_) fu 0 I2 r h2
    obtain ⟨k9, ek9, h8⟩ := of_zj h8
    have hk9 : ∀ I10, k9 I10 = some r2 → r2.1 = 1 ∧ r2.2 o 3 = 1 := by
      intro I10 h10
      subst ek9
      have h11 : zr 1 (up I10 o 3 1) = some r2 := h10
      cases h11
      exact ⟨rfl, if_pos ⟨rfl, rfl⟩⟩
    rcases of_ite h8 with ⟨q, h8⟩ | ⟨q, h8⟩
    · obtain ⟨u, I13, c, h8⟩ := of_zb h8
      exact hk9 _ h8
    · exact hk9 _ h8
  unfold imV
  rcases of_ite hf with ⟨q, hf⟩ | ⟨q, hf⟩
  · rcases of_ite hf with ⟨q2, hf⟩ | ⟨q2, hf⟩
    · cases hf
      rw [if_pos ⟨q, q2⟩]
      exact ⟨rfl, q2⟩
    · rw [if_neg (fun z => q2 z.2)]; exact hk1 _ hf
  · rw [if_neg (fun z => q z.1)]; exact hk1 _ hf
/-- text: the tape is cut off -/
theorem ja_S_text (fu : Nat) (a1 : Int) (I : IMem) {r : Int × IMem} (hf : f_S_text fu 0 a1 I = some r) : r.2 144 1 = 0 := by
  unfold f_S_text at hf
  have hfg : ∀ (I2 : IMem) (u : Int) (I4 : IMem), f_R_forget fu (0 + 144) I2 = some (u, I4) → I4 144 1 = 0 := by
    intro I2 u I4 h
    unfold f_R_forget at h
    have h2 : zr 0 (up (up (up I2 144 1 0) 144 10 0) 144 11 (-1)) = some (u, I4) := h
    cases h2
    rfl
  obtain ⟨k1, ek1, hf⟩ := of_zj hf
  have hk1 : ∀ I2, k1 I2 = some r → r.2 144 1 = 0 := by
    intro I2 h2
    subst ek1
    obtain ⟨u, I4, c, h2⟩ := of_zb h2
    cases h2
    exact hfg _ _ _ c
  rcases of_ite hf with ⟨q, hf⟩ | ⟨q, hf⟩
  · exact hk1 _ hf
  · rcases of_ite hf with ⟨q2, hf⟩ | ⟨q2, hf⟩
    · exact hk1 _ hf
    · obtain ⟨k6, ek6, hf⟩ := of_zj hf
      have hk6 : ∀ x I7, k6 x I7 = some r → r.2 144 1 = 0 := by
        intro x I7 h7
        subst ek6
        obtain ⟨y9, I10, c9, h7⟩ := of_zb h7
        have e10 : I10 144 1 = 0 := by
          unfold f_R_understand at c9
          obtain ⟨u2, I2, c2, c9⟩ := of_zb c9
          obtain ⟨u5, I5, c5, c9⟩ := of_zb c9
          obtain ⟨g, c9⟩ := of_zg c9
          have c9 : zb (f_W_clear fu (0 + 144 + 5) (up I5 144 9 x)) (fun _ I10 => zw I10 (0 + 144) 6 (-1) fun I12 => zb (f_R_advance fu (0 + 144) I12) fun _ I14 => f_R_understand_31 fu (fun (I20 : IMem) => if I20 (0 + 144) 10 = 0 then zr 1 I20 else zr 0 I20) (0 + 144) fu 0 I14) = some (y9, I10) := c9
          have e5 : I5 144 1 = 0 := hfg _ _ _ c5
          have e7 : up I5 144 9 x 144 1 = 0 := (if_neg (fun z => by omega)).trans e5
          obtain ⟨u10, I11, c11, c9⟩ := of_zb c9
          have f11 : ∀ q j, ¬ KR q j → I11 q j = up I5 144 9 x q j := fc_W_clear KR fu (0 + 144 + 5) (up I5 144 9 x) (by unfold KR; omega) (by unfold KR; omega) c11
          have c9 : zb (f_R_advance fu (0 + 144) (up I11 144 6 (-1))) (fun _ I14 => f_R_understand_31 fu (fun (I20 : IMem) => if I20 (0 + 144) 10 = 0 then zr 1 I20 else zr 0 I20) (0 + 144) fu 0 I14) = some (y9, I10) := c9
          obtain ⟨u14, I14, c14, c9⟩ := of_zb c9
          have f14 : ∀ q j, ¬ KR q j → I14 q j = up I11 144 6 (-1) q j := fc_R_advance KR fu (0 + 144) (up I11 144 6 (-1)) (by unfold KR; omega) (by unfold KR; omega) (by unfold KR; omega) c14
          have f20 : ∀ q j, ¬ KR q j → I10 q j = I14 q j := fc_R_understand_31 KR fu (r := (y9, I10)) (Ib := I14) _ (0 + 144) (fun _ => by unfold KR; omega) (fun _ => by unfold KR; omega) (fun _ => by unfold KR; omega) (by unfold KR; omega) (by unfold KR; omega) (by unfold KR; omega) (by unfold KR; omega) (by unfold KR; omega) (by unfold KR; omega) (by unfold KR; omega) (fun I9 f9 h9 => by
            rcases of_ite h9 with ⟨_, h9⟩ | ⟨_, h9⟩
            · cases h9; exact f9
            · cases h9; exact f9) fu 0 I14 (fun _ _ _ => rfl) c9
          rw [f20 144 1 (by unfold KR; omega), f14 144 1 (by unfold KR; omega)]
          have e12 : up I11 144 6 (-1) 144 1 = I11 144 1 := if_neg (fun z => by omega)
          rw [e12, f11 144 1 (by unfold KR; omega), e7]
        rcases of_ite h7 with ⟨z, h7⟩ | ⟨z, h7⟩
        · cases h7; exact e10
        · obtain ⟨g, h7⟩ := of_zg h7
          obtain ⟨u14, I14, c14, h7⟩ := of_zb h7
          have f14 : ∀ q, ¬ NZ2 q → I14 q = I10 q := fr_W_copyFrom NZ2 fu (0 + 16 + 5 * a1.toNat) (0 + 149) I10 (by unfold NZ2; omega) (by unfold NZ2; omega) (by unfold NZ2; omega) (by unfold NZ2; omega) c14
          cases h7
          show I14 144 1 = 0
          rw [f14 144 (by unfold NZ2; omega)]
          exact e10
      rcases of_ite hf with ⟨q3, hf⟩ | ⟨q3, hf⟩
      · exact hk6 _ _ hf
      · exact hk6 _ _ hf
theorem tx_57 (fu : Nat) (o : Nat) (a1 : Int) {Q : Int × IMem → Prop} (K : Int → IMem → Res) (hK : ∀ w I r, K w I = some r → Q r) : ∀ (m : Nat) (w : Int) (I : IMem) (r : Int × IMem), f_X_text_57 fu K o a1 m w I = some r → Q r := by
  intro m
  induction m with
  | zero => intro w I r hf; cases hf
  | succ m ih =>
    intro w I r hf
    replace hf : fb_X_text_57 fu K o a1 (f_X_text_57 fu K o a1 m) w I = some r := hf
    unfold fb_X_text_57 at hf
    rcases of_ite hf with ⟨q, hf⟩ | ⟨q, hf⟩
    · exact hK _ _ _ hf
    · rcases of_ite hf with ⟨q2, hf⟩ | ⟨q2, hf⟩
      · exact hK _ _ _ hf
      · obtain ⟨y, I13, c, hf⟩ := of_zb hf
        obtain ⟨k15, ek15, hf⟩ := of_zj hf
        have hk15 : ∀ x I2, k15 x I2 = some r → Q r := by
          intro x I2 h2
          subst ek15
          exact ih _ _ r h2
        rcases of_ite hf with ⟨z, hf⟩ | ⟨z, hf⟩
        · exact hk15 _ _ hf
        · exact hk15 _ _ hf
theorem ja_X_text (fu : Nat) (a1 : Int) (I : IMem) {r : Int × IMem} (hf : f_X_text fu 0 a1 I = some r) : r.2 0 12 = 0 := by
  unfold f_X_text at hf
  have hf : zb (f_X_isIn fu a1 0 4 (up I 0 17 0)) _ = some r := hf
  obtain ⟨y2, I3, c2, hf⟩ := of_zb hf
  rcases of_ite hf with ⟨q, hf⟩ | ⟨q, hf⟩
  · have hf : zr (-1) (up (up (up I3 0 12 0) 0 19 0) 0 21 (-1)) = some r := hf
    cases hf
    rfl
  · have hf : zb (f_X_next0 fu 0 (up (up (up (up I3 0 9 a1) 0 13 0) 0 10 0) 0 11 0)) _ = some r := hf
    obtain ⟨u, I10, c10, hf⟩ := of_zb hf
    refine tx_57 fu 0 a1 (Q := fun r => r.2 0 12 = 0) _ (fun x20 I19 r2 h => ?_) fu 1 I10 r hf
    simp only [zw] at h
    obtain ⟨k23, ek23, h⟩ := of_zj h
    have hk23 : ∀ x25 (I24 : IMem), I24 0 12 = 0 → k23 x25 I24 = some r2 → r2.2 0 12 = 0 := by
      intro x25 I24 h12 h2
      subst ek23
      have e0 : up I24 0 21 x25 0 12 = 0 := (if_neg (fun z => by omega)).trans h12
      rcases of_ite h2 with ⟨z, h2⟩ | ⟨z, h2⟩
      · cases h2; exact e0
      · obtain ⟨x28, e28, h2⟩ := of_zl h2
        obtain ⟨g, h2⟩ := of_zg h2
        have f := fr_X_text_145 (fun q => q = 0 + 1) fu (r := r2) (Ib := up I24 0 21 x25) _ 0 a1 rfl (fun I9 f9 h9 => fr_X_text_259 (fun q => q = 0 + 1) fu 0 a1 rfl fu 0 I9 f9 h9) fu 0 _ (fun q hq => ?_) h2
        · rw [f 0 (by decide)]; exact e0
        · funext i
          exact if_neg (fun e => hq e.1)
    rcases of_ite h with ⟨z, h⟩ | ⟨z, h⟩
    · exact hk23 _ _ rfl h
    · exact hk23 _ _ rfl h
