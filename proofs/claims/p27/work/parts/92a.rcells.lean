/-! cells of the class's reader -/
theorem fc_R_hasRoomForFive (M : Nat → Nat → Prop) (fu : Nat) (o0 : Nat) (I0 : IMem) {r : Int × IMem} (hf : f_R_hasRoomForFive fu o0 I0 = some r) : ∀ q j, ¬ M q j → r.2 q j = I0 q j := by
  unfold f_R_hasRoomForFive at hf
  obtain ⟨Ib, hIb⟩ : ∃ Ib : IMem, Ib = I0 := ⟨I0, rfl⟩
  rw [← hIb]
  have f0 : ∀ q j, ¬ M q j → I0 q j = Ib q j := fun q j _ => by rw [hIb]
  clear hIb
  rcases of_ite hf with ⟨_, hf⟩ | ⟨_, hf⟩
  · cases hf; exact f0
  · cases hf; exact f0
theorem fc_R_take_3 (M : Nat → Nat → Prop) (fu : Nat) {r : Int × IMem} {Ib : IMem} (o0 : Nat) (p1 : Int) (m_o0_1 : ∀ j, M (o0 + 1) j) (m_o0_0c1 : M o0 1) : ∀ (m : Nat) (w2 : Int) (I0 : IMem), (∀ q j, ¬ M q j → I0 q j = Ib q j) → f_R_take_3 fu o0 p1 m w2 I0 = some r → ∀ q j, ¬ M q j → r.2 q j = Ib q j := by
  intro m
  induction m with
  | zero => intro w2 I0 _ hf; cases hf
  | succ m hR_ =>
    intro w2 I0 fI0 hf
    replace hf : fb_R_take_3 fu o0 p1 (f_R_take_3 fu o0 p1 m) w2 I0 = some r := hf
    unfold fb_R_take_3 at hf
    rcases of_ite hf with ⟨_, hf⟩ | ⟨_, hf⟩
    · cases hf; exact fI0
    · obtain ⟨k1, ek1, hf⟩ := of_zj hf
      have hk1 : ∀  (I2 : IMem), (∀ q j, ¬ M q j → I2 q j = Ib q j) → k1 I2 = some r → ∀ q j, ¬ M q j → r.2 q j = Ib q j := by
        intro I2 fI2 hf
        subst ek1
        obtain ⟨x3, -, hf⟩ := of_zl hf
        exact hR_ x3 I2 fI2 hf
      rcases of_ite hf with ⟨_, hf⟩ | ⟨_, hf⟩
      · exact hk1 I0 fI0 hf
      · rcases of_ite hf with ⟨_, hf⟩ | ⟨_, hf⟩
        · obtain ⟨x5, -, hf⟩ := of_zl hf
          obtain ⟨g_1, hf⟩ := of_zg hf
          obtain ⟨I4, fI4, hf⟩ := fcz_w (m_o0_1 _) fI0 hf
          obtain ⟨I6, fI6, hf⟩ := fcz_w m_o0_0c1 fI4 hf
          exact hk1 I6 fI6 hf
        · exact hk1 I0 fI0 hf
theorem fc_R_take (M : Nat → Nat → Prop) (fu : Nat) (o0 : Nat) (a1 : Int) (I0 : IMem) {r : Int × IMem} (m_o0_1 : ∀ j, M (o0 + 1) j) (m_o0_0c1 : M o0 1) (hf : f_R_take fu o0 a1 I0 = some r) : ∀ q j, ¬ M q j → r.2 q j = I0 q j := by
  unfold f_R_take at hf
  obtain ⟨Ib, hIb⟩ : ∃ Ib : IMem, Ib = I0 := ⟨I0, rfl⟩
  rw [← hIb]
  have f0 : ∀ q j, ¬ M q j → I0 q j = Ib q j := fun q j _ => by rw [hIb]
  clear hIb
  refine fc_R_take_3 M fu o0 a1 m_o0_1 m_o0_0c1 fu 24 I0 f0 hf
theorem fc_R_cut (M : Nat → Nat → Prop) (fu : Nat) (o0 : Nat) (a1 : Int) (I0 : IMem) {r : Int × IMem} (m_o0_0c1 : M o0 1) (hf : f_R_cut fu o0 a1 I0 = some r) : ∀ q j, ¬ M q j → r.2 q j = I0 q j := by
  unfold f_R_cut at hf
  obtain ⟨Ib, hIb⟩ : ∃ Ib : IMem, Ib = I0 := ⟨I0, rfl⟩
  rw [← hIb]
  have f0 : ∀ q j, ¬ M q j → I0 q j = Ib q j := fun q j _ => by rw [hIb]
  clear hIb
  rcases of_ite hf with ⟨_, hf⟩ | ⟨_, hf⟩
  · cases hf; exact f0
  · rcases of_ite hf with ⟨_, hf⟩ | ⟨_, hf⟩
    · cases hf; exact f0
    · obtain ⟨I1, fI1, hf⟩ := fcz_w m_o0_0c1 f0 hf
      cases hf; exact fI1
theorem fc_R_forget (M : Nat → Nat → Prop) (fu : Nat) (o0 : Nat) (I0 : IMem) {r : Int × IMem} (m_o0_0c1 : M o0 1) (m_o0_0c10 : M o0 10) (m_o0_0c11 : M o0 11) (hf : f_R_forget fu o0 I0 = some r) : ∀ q j, ¬ M q j → r.2 q j = I0 q j := by
  unfold f_R_forget at hf
  obtain ⟨Ib, hIb⟩ : ∃ Ib : IMem, Ib = I0 := ⟨I0, rfl⟩
  rw [← hIb]
  have f0 : ∀ q j, ¬ M q j → I0 q j = Ib q j := fun q j _ => by rw [hIb]
  clear hIb
  obtain ⟨I1, fI1, hf⟩ := fcz_w m_o0_0c1 f0 hf
  obtain ⟨I2, fI2, hf⟩ := fcz_w m_o0_0c10 fI1 hf
  obtain ⟨I3, fI3, hf⟩ := fcz_w m_o0_0c11 fI2 hf
  cases hf; exact fI3
theorem fc_R_advance (M : Nat → Nat → Prop) (fu : Nat) (o0 : Nat) (I0 : IMem) {r : Int × IMem} (m_o0_0c6 : M o0 6) (m_o0_0c7 : M o0 7) (m_o0_0c8 : M o0 8) (hf : f_R_advance fu o0 I0 = some r) : ∀ q j, ¬ M q j → r.2 q j = I0 q j := by
  unfold f_R_advance at hf
  obtain ⟨Ib, hIb⟩ : ∃ Ib : IMem, Ib = I0 := ⟨I0, rfl⟩
  rw [← hIb]
  have f0 : ∀ q j, ¬ M q j → I0 q j = Ib q j := fun q j _ => by rw [hIb]
  clear hIb
  obtain ⟨x1, -, hf⟩ := of_zl hf
  rcases of_ite hf with ⟨_, hf⟩ | ⟨_, hf⟩
  · rcases of_ite hf with ⟨_, hf⟩ | ⟨_, hf⟩
    · cases hf; exact f0
    · rcases of_ite hf with ⟨_, hf⟩ | ⟨_, hf⟩
      · cases hf; exact f0
      · rcases of_ite hf with ⟨_, hf⟩ | ⟨_, hf⟩
        · obtain ⟨I2, fI2, hf⟩ := fcz_w m_o0_0c6 f0 hf
          obtain ⟨g_1, hf⟩ := of_zg hf
          obtain ⟨I3, fI3, hf⟩ := fcz_w m_o0_0c7 fI2 hf
          obtain ⟨g_2, hf⟩ := of_zg hf
          obtain ⟨I4, fI4, hf⟩ := fcz_w m_o0_0c8 fI3 hf
          cases hf; exact fI4
        · cases hf; exact f0
  · cases hf; exact f0
theorem fc_R_fail (M : Nat → Nat → Prop) (fu : Nat) (o0 : Nat) (a1 : Int) (I0 : IMem) {r : Int × IMem} (m_o0_0c10 : M o0 10) (m_o0_0c11 : M o0 11) (hf : f_R_fail fu o0 a1 I0 = some r) : ∀ q j, ¬ M q j → r.2 q j = I0 q j := by
  unfold f_R_fail at hf
  obtain ⟨Ib, hIb⟩ : ∃ Ib : IMem, Ib = I0 := ⟨I0, rfl⟩
  rw [← hIb]
  have f0 : ∀ q j, ¬ M q j → I0 q j = Ib q j := fun q j _ => by rw [hIb]
  clear hIb
  rcases of_ite hf with ⟨_, hf⟩ | ⟨_, hf⟩
  · rcases of_ite hf with ⟨_, hf⟩ | ⟨_, hf⟩
    · cases hf; exact f0
    · rcases of_ite hf with ⟨_, hf⟩ | ⟨_, hf⟩
      · cases hf; exact f0
      · obtain ⟨I1, fI1, hf⟩ := fcz_w m_o0_0c10 f0 hf
        obtain ⟨x2, -, hf⟩ := of_zl hf
        obtain ⟨g_1, hf⟩ := of_zg hf
        obtain ⟨I3, fI3, hf⟩ := fcz_w m_o0_0c11 fI1 hf
        cases hf; exact fI3
  · cases hf; exact f0
theorem fc_R_expect (M : Nat → Nat → Prop) (fu : Nat) (o0 : Nat) (a1 : Int) (I0 : IMem) {r : Int × IMem} (m_o0_0c6 : M o0 6) (m_o0_0c7 : M o0 7) (m_o0_0c8 : M o0 8) (m_o0_0c10 : M o0 10) (m_o0_0c11 : M o0 11) (hf : f_R_expect fu o0 a1 I0 = some r) : ∀ q j, ¬ M q j → r.2 q j = I0 q j := by
  unfold f_R_expect at hf
  obtain ⟨Ib, hIb⟩ : ∃ Ib : IMem, Ib = I0 := ⟨I0, rfl⟩
  rw [← hIb]
  have f0 : ∀ q j, ¬ M q j → I0 q j = Ib q j := fun q j _ => by rw [hIb]
  clear hIb
  rcases of_ite hf with ⟨_, hf⟩ | ⟨_, hf⟩
  · obtain ⟨u_2, I5, c_1, hf⟩ := of_zb hf
    have fI5 := fcz_t (fc_R_advance M fu o0 I0 m_o0_0c6 m_o0_0c7 m_o0_0c8 c_1) f0
    cases hf; exact fI5
  · obtain ⟨u_4, I2, c_3, hf⟩ := of_zb hf
    have fI2 := fcz_t (fc_R_fail M fu o0 1 I0 m_o0_0c10 m_o0_0c11 c_3) f0
    cases hf; exact fI2
theorem fc_W_addStep (M : Nat → Nat → Prop) (fu : Nat) (o0 : Nat) (a1 : Int) (I0 : IMem) {r : Int × IMem} (m_o0_1 : ∀ j, M (o0 + 1) j) (m_o0_0c1 : M o0 1) (hf : f_W_addStep fu o0 a1 I0 = some r) : ∀ q j, ¬ M q j → r.2 q j = I0 q j := by
  unfold f_W_addStep at hf
  obtain ⟨Ib, hIb⟩ : ∃ Ib : IMem, Ib = I0 := ⟨I0, rfl⟩
  rw [← hIb]
  have f0 : ∀ q j, ¬ M q j → I0 q j = Ib q j := fun q j _ => by rw [hIb]
  clear hIb
  rcases of_ite hf with ⟨_, hf⟩ | ⟨_, hf⟩
  · cases hf; exact f0
  · rcases of_ite hf with ⟨_, hf⟩ | ⟨_, hf⟩
    · obtain ⟨x2, -, hf⟩ := of_zl hf
      obtain ⟨g_1, hf⟩ := of_zg hf
      obtain ⟨I1, fI1, hf⟩ := fcz_w (m_o0_1 _) f0 hf
      obtain ⟨I3, fI3, hf⟩ := fcz_w m_o0_0c1 fI1 hf
      cases hf; exact fI3
    · cases hf; exact f0
theorem fc_R_readDivisor (M : Nat → Nat → Prop) (fu : Nat) (o0 : Nat) (I0 : IMem) {r : Int × IMem} (m_o0_6 : ∀ j, M (o0 + 6) j) (m_o0_0c6 : M o0 6) (m_o0_0c7 : M o0 7) (m_o0_0c8 : M o0 8) (m_o0_0c10 : M o0 10) (m_o0_0c11 : M o0 11) (m_o0_5c1 : M (o0 + 5) 1) (hf : f_R_readDivisor fu o0 I0 = some r) : ∀ q j, ¬ M q j → r.2 q j = I0 q j := by
  unfold f_R_readDivisor at hf
  obtain ⟨Ib, hIb⟩ : ∃ Ib : IMem, Ib = I0 := ⟨I0, rfl⟩
  rw [← hIb]
  have f0 : ∀ q j, ¬ M q j → I0 q j = Ib q j := fun q j _ => by rw [hIb]
  clear hIb
  rcases of_ite hf with ⟨_, hf⟩ | ⟨_, hf⟩
  · rcases of_ite hf with ⟨_, hf⟩ | ⟨_, hf⟩
    · obtain ⟨u_2, I11, c_1, hf⟩ := of_zb hf
      have fI11 := fcz_t (fc_R_fail M fu o0 2 I0 m_o0_0c10 m_o0_0c11 c_1) f0
      cases hf; exact fI11
    · obtain ⟨u_4, I2, c_3, hf⟩ := of_zb hf
      have fI2 := fcz_t (fc_W_addStep M fu (o0 + 5) (I0 o0 8) I0 m_o0_6 m_o0_5c1 c_3) f0
      obtain ⟨u_6, I5, c_5, hf⟩ := of_zb hf
      have fI5 := fcz_t (fc_W_addStep M fu (o0 + 5) ((-4)) I2 m_o0_6 m_o0_5c1 c_5) fI2
      obtain ⟨u_8, I8, c_7, hf⟩ := of_zb hf
      have fI8 := fcz_t (fc_R_advance M fu o0 I5 m_o0_0c6 m_o0_0c7 m_o0_0c8 c_7) fI5
      cases hf; exact fI8
  · obtain ⟨u_10, I14, c_9, hf⟩ := of_zb hf
    have fI14 := fcz_t (fc_R_fail M fu o0 1 I0 m_o0_0c10 m_o0_0c11 c_9) f0
    cases hf; exact fI14
theorem fc_R_readUnit (M : Nat → Nat → Prop) (fu : Nat) (o0 : Nat) (I0 : IMem) {r : Int × IMem} (m_o0_6 : ∀ j, M (o0 + 6) j) (m_o0_0c6 : M o0 6) (m_o0_0c7 : M o0 7) (m_o0_0c8 : M o0 8) (m_o0_0c10 : M o0 10) (m_o0_0c11 : M o0 11) (m_o0_5c1 : M (o0 + 5) 1) (hf : f_R_readUnit fu o0 I0 = some r) : ∀ q j, ¬ M q j → r.2 q j = I0 q j := by
  unfold f_R_readUnit at hf
  obtain ⟨Ib, hIb⟩ : ∃ Ib : IMem, Ib = I0 := ⟨I0, rfl⟩
  rw [← hIb]
  have f0 : ∀ q j, ¬ M q j → I0 q j = Ib q j := fun q j _ => by rw [hIb]
  clear hIb
  obtain ⟨k1, ek1, hf⟩ := of_zj hf
  have hk1 : ∀ (x3 : Int) (I2 : IMem), (∀ q j, ¬ M q j → I2 q j = Ib q j) → k1 x3 I2 = some r → ∀ q j, ¬ M q j → r.2 q j = Ib q j := by
    intro x3 I2 fI2 hf
    subst ek1
    obtain ⟨k4, ek4, hf⟩ := of_zj hf
    have hk4 : ∀ (x6 : Int) (I5 : IMem), (∀ q j, ¬ M q j → I5 q j = Ib q j) → k4 x6 I5 = some r → ∀ q j, ¬ M q j → r.2 q j = Ib q j := by
      intro x6 I5 fI5 hf
      subst ek4
      rcases of_ite hf with ⟨_, hf⟩ | ⟨_, hf⟩
      · obtain ⟨u_2, I19, c_1, hf⟩ := of_zb hf
        have fI19 := fcz_t (fc_W_addStep M fu (o0 + 5) (I5 o0 8) I5 m_o0_6 m_o0_5c1 c_1) fI5
        obtain ⟨u_4, I22, c_3, hf⟩ := of_zb hf
        have fI22 := fcz_t (fc_R_advance M fu o0 I19 m_o0_0c6 m_o0_0c7 m_o0_0c8 c_3) fI19
        cases hf; exact fI22
      · obtain ⟨k7, ek7, hf⟩ := of_zj hf
        have hk7 : ∀  (I8 : IMem), (∀ q j, ¬ M q j → I8 q j = Ib q j) → k7 I8 = some r → ∀ q j, ¬ M q j → r.2 q j = Ib q j := by
          intro I8 fI8 hf
          subst ek7
          obtain ⟨u_6, I10, c_5, hf⟩ := of_zb hf
          have fI10 := fcz_t (fc_R_fail M fu o0 1 I8 m_o0_0c10 m_o0_0c11 c_5) fI8
          cases hf; exact fI10
        rcases of_ite hf with ⟨_, hf⟩ | ⟨_, hf⟩
        · exact hk7 I5 fI5 hf
        · rcases of_ite hf with ⟨_, hf⟩ | ⟨_, hf⟩
          · exact hk7 I5 fI5 hf
          · obtain ⟨u_8, I13, c_7, hf⟩ := of_zb hf
            have fI13 := fcz_t (fc_W_addStep M fu (o0 + 5) (wr32 (10000 + (I5 o0 7))) I5 m_o0_6 m_o0_5c1 c_7) fI5
            obtain ⟨u_10, I16, c_9, hf⟩ := of_zb hf
            have fI16 := fcz_t (fc_R_advance M fu o0 I13 m_o0_0c6 m_o0_0c7 m_o0_0c8 c_9) fI13
            cases hf; exact fI16
    rcases of_ite hf with ⟨_, hf⟩ | ⟨_, hf⟩
    · exact hk4 15 I2 fI2 hf
    · exact hk4 8 I2 fI2 hf
  rcases of_ite hf with ⟨_, hf⟩ | ⟨_, hf⟩
  · exact hk1 7 I0 f0 hf
  · exact hk1 5 I0 f0 hf
theorem fc_R_readSum_8 (M : Nat → Nat → Prop) (fu : Nat) {r : Int × IMem} {Ib : IMem} (k_121 : Int → IMem → Res) (o0 : Nat) (m_o0_6 : ∀ j, M (o0 + 6) j) (m_o0_0c6 : M o0 6) (m_o0_0c7 : M o0 7) (m_o0_0c8 : M o0 8) (m_o0_0c10 : M o0 10) (m_o0_0c11 : M o0 11) (m_o0_5c1 : M (o0 + 5) 1) (hk_121 : ∀ (z0 : Int) (I9 : IMem), (∀ q j, ¬ M q j → I9 q j = Ib q j) → k_121 z0 I9 = some r → ∀ q j, ¬ M q j → r.2 q j = Ib q j) : ∀ (m : Nat) (w1 : Int) (w2 : Int) (I0 : IMem), (∀ q j, ¬ M q j → I0 q j = Ib q j) → f_R_readSum_8 fu k_121 o0 m w1 w2 I0 = some r → ∀ q j, ¬ M q j → r.2 q j = Ib q j := by
  intro m
  induction m with
  | zero => intro w1 w2 I0 _ hf; cases hf
  | succ m hR_ =>
    intro w1 w2 I0 fI0 hf
    replace hf : fb_R_readSum_8 fu k_121 o0 (f_R_readSum_8 fu k_121 o0 m) w1 w2 I0 = some r := hf
    unfold fb_R_readSum_8 at hf
    rcases of_ite hf with ⟨_, hf⟩ | ⟨_, hf⟩
    · rcases of_ite hf with ⟨_, hf⟩ | ⟨_, hf⟩
      · obtain ⟨x4, -, hf⟩ := of_zl hf
        obtain ⟨k5, ek5, hf⟩ := of_zj hf
        have hk5 : ∀ (x7 : Int) (I6 : IMem), (∀ q j, ¬ M q j → I6 q j = Ib q j) → k5 x7 I6 = some r → ∀ q j, ¬ M q j → r.2 q j = Ib q j := by
          intro x7 I6 fI6 hf
          subst ek5
          obtain ⟨x8, -, hf⟩ := of_zl hf
          exact hR_ x7 x8 I6 fI6 hf
        rcases of_ite hf with ⟨_, hf⟩ | ⟨_, hf⟩
        · obtain ⟨u_2, I32, c_1, hf⟩ := of_zb hf
          have fI32 := fcz_t (fc_R_advance M fu o0 I0 m_o0_0c6 m_o0_0c7 m_o0_0c8 c_1) fI0
          obtain ⟨u_4, I35, c_3, hf⟩ := of_zb hf
          have fI35 := fcz_t (fc_R_readUnit M fu o0 I32 m_o0_6 m_o0_0c6 m_o0_0c7 m_o0_0c8 m_o0_0c10 m_o0_0c11 m_o0_5c1 c_3) fI32
          obtain ⟨u_6, I38, c_5, hf⟩ := of_zb hf
          have fI38 := fcz_t (fc_W_addStep M fu (o0 + 5) ((-3)) I35 m_o0_6 m_o0_5c1 c_5) fI35
          exact hk5 w1 I38 fI38 hf
        · rcases of_ite hf with ⟨_, hf⟩ | ⟨_, hf⟩
          · obtain ⟨u_8, I26, c_7, hf⟩ := of_zb hf
            have fI26 := fcz_t (fc_R_advance M fu o0 I0 m_o0_0c6 m_o0_0c7 m_o0_0c8 c_7) fI0
            obtain ⟨u_10, I29, c_9, hf⟩ := of_zb hf
            have fI29 := fcz_t (fc_R_readDivisor M fu o0 I26 m_o0_6 m_o0_0c6 m_o0_0c7 m_o0_0c8 m_o0_0c10 m_o0_0c11 m_o0_5c1 c_9) fI26
            exact hk5 w1 I29 fI29 hf
          · obtain ⟨k9, ek9, hf⟩ := of_zj hf
            have hk9 : ∀  (I10 : IMem), (∀ q j, ¬ M q j → I10 q j = Ib q j) → k9 I10 = some r → ∀ q j, ¬ M q j → r.2 q j = Ib q j := by
              intro I10 fI10 hf
              subst ek9
              obtain ⟨u_12, I12, c_11, hf⟩ := of_zb hf
              have fI12 := fcz_t (fc_R_advance M fu o0 I10 m_o0_0c6 m_o0_0c7 m_o0_0c8 c_11) fI10
              obtain ⟨k14, ek14, hf⟩ := of_zj hf
              have hk14 : ∀  (I15 : IMem), (∀ q j, ¬ M q j → I15 q j = Ib q j) → k14 I15 = some r → ∀ q j, ¬ M q j → r.2 q j = Ib q j := by
                intro I15 fI15 hf
                subst ek14
                obtain ⟨k16, ek16, hf⟩ := of_zj hf
                have hk16 : ∀ (x18 : Int) (I17 : IMem), (∀ q j, ¬ M q j → I17 q j = Ib q j) → k16 x18 I17 = some r → ∀ q j, ¬ M q j → r.2 q j = Ib q j := by
                  intro x18 I17 fI17 hf
                  subst ek16
                  obtain ⟨u_14, I20, c_13, hf⟩ := of_zb hf
                  have fI20 := fcz_t (fc_R_readUnit M fu o0 I17 m_o0_6 m_o0_0c6 m_o0_0c7 m_o0_0c8 m_o0_0c10 m_o0_0c11 m_o0_5c1 c_13) fI17
                  exact hk5 x18 I20 fI20 hf
                rcases of_ite hf with ⟨_, hf⟩ | ⟨_, hf⟩
                · exact hk16 ((-1)) I15 fI15 hf
                · exact hk16 ((-2)) I15 fI15 hf
              rcases of_ite hf with ⟨_, hf⟩ | ⟨_, hf⟩
              · exact hk14 I12 fI12 hf
              · obtain ⟨u_16, I23, c_15, hf⟩ := of_zb hf
                have fI23 := fcz_t (fc_W_addStep M fu (o0 + 5) w1 I12 m_o0_6 m_o0_5c1 c_15) fI12
                exact hk14 I23 fI23 hf
            rcases of_ite hf with ⟨_, hf⟩ | ⟨_, hf⟩
            · exact hk9 I0 fI0 hf
            · rcases of_ite hf with ⟨_, hf⟩ | ⟨_, hf⟩
              · exact hk9 I0 fI0 hf
              · exact hk_121 w1 I0 fI0 hf
      · exact hk_121 w1 I0 fI0 hf
    · exact hk_121 w1 I0 fI0 hf
theorem fc_R_readSum (M : Nat → Nat → Prop) (fu : Nat) (o0 : Nat) (I0 : IMem) {r : Int × IMem} (m_o0_6 : ∀ j, M (o0 + 6) j) (m_o0_0c6 : M o0 6) (m_o0_0c7 : M o0 7) (m_o0_0c8 : M o0 8) (m_o0_0c10 : M o0 10) (m_o0_0c11 : M o0 11) (m_o0_5c1 : M (o0 + 5) 1) (hf : f_R_readSum fu o0 I0 = some r) : ∀ q j, ¬ M q j → r.2 q j = I0 q j := by
  unfold f_R_readSum at hf
  obtain ⟨Ib, hIb⟩ : ∃ Ib : IMem, Ib = I0 := ⟨I0, rfl⟩
  rw [← hIb]
  have f0 : ∀ q j, ¬ M q j → I0 q j = Ib q j := fun q j _ => by rw [hIb]
  clear hIb
  obtain ⟨u_2, I2, c_1, hf⟩ := of_zb hf
  have fI2 := fcz_t (fc_R_readUnit M fu o0 I0 m_o0_6 m_o0_0c6 m_o0_0c7 m_o0_0c8 m_o0_0c10 m_o0_0c11 m_o0_5c1 c_1) f0
  refine fc_R_readSum_8 M fu _ o0 m_o0_6 m_o0_0c6 m_o0_0c7 m_o0_0c8 m_o0_0c10 m_o0_0c11 m_o0_5c1 ?_ fu 0 0 I2 fI2 hf
  · intro x41 I40 fI40 hf
    rcases of_ite hf with ⟨_, hf⟩ | ⟨_, hf⟩
    · cases hf; exact fI40
    · obtain ⟨u_4, I43, c_3, hf⟩ := of_zb hf
      have fI43 := fcz_t (fc_W_addStep M fu (o0 + 5) x41 I40 m_o0_6 m_o0_5c1 c_3) fI40
      cases hf; exact fI43
theorem fc_R_readEither_9 (M : Nat → Nat → Prop) (fu : Nat) (R : (Nat → Int → IMem → Res) × (Nat → Int → IMem → Res)) (hR : (∀ (o0 : Nat) (a1 : Int) (I0 : IMem) (r : Int × IMem), (∀ j, M (o0 + 6) j) → (M o0 6) → (M o0 7) → (M o0 8) → (M o0 10) → (M o0 11) → (M (o0 + 5) 1) → R.1 o0 a1 I0 = some r → ∀ q j, ¬ M q j → r.2 q j = I0 q j) ∧ (∀ (o0 : Nat) (a1 : Int) (I0 : IMem) (r : Int × IMem), (∀ j, M (o0 + 6) j) → (M o0 6) → (M o0 7) → (M o0 8) → (M o0 10) → (M o0 11) → (M (o0 + 5) 1) → R.2 o0 a1 I0 = some r → ∀ q j, ¬ M q j → r.2 q j = I0 q j)) {r : Int × IMem} {Ib : IMem} (k_106 : Int → IMem → Res) (o0 : Nat) (p1 : Int) (m_o0_6 : ∀ j, M (o0 + 6) j) (m_o0_0c6 : M o0 6) (m_o0_0c7 : M o0 7) (m_o0_0c8 : M o0 8) (m_o0_0c10 : M o0 10) (m_o0_0c11 : M o0 11) (m_o0_5c1 : M (o0 + 5) 1) (hk_106 : ∀ (z0 : Int) (I9 : IMem), (∀ q j, ¬ M q j → I9 q j = Ib q j) → k_106 z0 I9 = some r → ∀ q j, ¬ M q j → r.2 q j = Ib q j) : ∀ (m : Nat) (w2 : Int) (w3 : Int) (I0 : IMem), (∀ q j, ¬ M q j → I0 q j = Ib q j) → f_R_readEither_9 fu R k_106 o0 p1 m w2 w3 I0 = some r → ∀ q j, ¬ M q j → r.2 q j = Ib q j := by
  intro m
  induction m with
  | zero => intro w2 w3 I0 _ hf; cases hf
  | succ m hR_ =>
    intro w2 w3 I0 fI0 hf
    replace hf : fb_R_readEither_9 fu R k_106 o0 p1 (f_R_readEither_9 fu R k_106 o0 p1 m) w2 w3 I0 = some r := hf
    unfold fb_R_readEither_9 at hf
    rcases of_ite hf with ⟨_, hf⟩ | ⟨_, hf⟩
    · rcases of_ite hf with ⟨_, hf⟩ | ⟨_, hf⟩
      · obtain ⟨k4, ek4, hf⟩ := of_zj hf
        have hk4 : ∀  (I5 : IMem), (∀ q j, ¬ M q j → I5 q j = Ib q j) → k4 I5 = some r → ∀ q j, ¬ M q j → r.2 q j = Ib q j := by
          intro I5 fI5 hf
          subst ek4
          obtain ⟨k6, ek6, hf⟩ := of_zj hf
          have hk6 : ∀ (x8 : Int) (I7 : IMem), (∀ q j, ¬ M q j → I7 q j = Ib q j) → k6 x8 I7 = some r → ∀ q j, ¬ M q j → r.2 q j = Ib q j := by
            intro x8 I7 fI7 hf
            subst ek6
            obtain ⟨u_2, I10, c_1, hf⟩ := of_zb hf
            have fI10 := fcz_t (fc_R_advance M fu o0 I7 m_o0_0c6 m_o0_0c7 m_o0_0c8 c_1) fI7
            obtain ⟨k12, ek12, hf⟩ := of_zj hf
            have hk12 : ∀  (I13 : IMem), (∀ q j, ¬ M q j → I13 q j = Ib q j) → k12 I13 = some r → ∀ q j, ¬ M q j → r.2 q j = Ib q j := by
              intro I13 fI13 hf
              subst ek12
              obtain ⟨u_4, I15, c_3, hf⟩ := of_zb hf
              have fI15 := fcz_t (hR.2 o0 p1 I13 _ m_o0_6 m_o0_0c6 m_o0_0c7 m_o0_0c8 m_o0_0c10 m_o0_0c11 m_o0_5c1 c_3) fI13
              obtain ⟨k17, ek17, hf⟩ := of_zj hf
              have hk17 : ∀ (x19 : Int) (I18 : IMem), (∀ q j, ¬ M q j → I18 q j = Ib q j) → k17 x19 I18 = some r → ∀ q j, ¬ M q j → r.2 q j = Ib q j := by
                intro x19 I18 fI18 hf
                subst ek17
                obtain ⟨x20, -, hf⟩ := of_zl hf
                exact hR_ x19 x20 I18 fI18 hf
              rcases of_ite hf with ⟨_, hf⟩ | ⟨_, hf⟩
              · exact hk17 1 I15 fI15 hf
              · obtain ⟨u_6, I22, c_5, hf⟩ := of_zb hf
                have fI22 := fcz_t (fc_W_addStep M fu (o0 + 5) ((-8)) I15 m_o0_6 m_o0_5c1 c_5) fI15
                exact hk17 w2 I22 fI22 hf
            rcases of_ite hf with ⟨_, hf⟩ | ⟨_, hf⟩
            · exact hk12 I10 fI10 hf
            · rcases of_ite hf with ⟨_, hf⟩ | ⟨_, hf⟩
              · obtain ⟨u_8, I25, c_7, hf⟩ := of_zb hf
                have fI25 := fcz_t (fc_W_addStep M fu (o0 + 5) ((-9)) I10 m_o0_6 m_o0_5c1 c_7) fI10
                exact hk12 I25 fI25 hf
              · exact hk12 I10 fI10 hf
          rcases of_ite hf with ⟨_, hf⟩ | ⟨_, hf⟩
          · exact hk6 1 I5 fI5 hf
          · exact hk6 0 I5 fI5 hf
        rcases of_ite hf with ⟨_, hf⟩ | ⟨_, hf⟩
        · exact hk4 I0 fI0 hf
        · rcases of_ite hf with ⟨_, hf⟩ | ⟨_, hf⟩
          · exact hk4 I0 fI0 hf
          · exact hk_106 w2 I0 fI0 hf
      · exact hk_106 w2 I0 fI0 hf
    · exact hk_106 w2 I0 fI0 hf
theorem fc_gRD (M : Nat → Nat → Prop) (fu : Nat) : ∀ n : Nat, (∀ (o0 : Nat) (a1 : Int) (I0 : IMem) (r : Int × IMem), (∀ j, M (o0 + 6) j) → (M o0 6) → (M o0 7) → (M o0 8) → (M o0 10) → (M o0 11) → (M (o0 + 5) 1) → (gRD fu n).1 o0 a1 I0 = some r → ∀ q j, ¬ M q j → r.2 q j = I0 q j) ∧ (∀ (o0 : Nat) (a1 : Int) (I0 : IMem) (r : Int × IMem), (∀ j, M (o0 + 6) j) → (M o0 6) → (M o0 7) → (M o0 8) → (M o0 10) → (M o0 11) → (M (o0 + 5) 1) → (gRD fu n).2 o0 a1 I0 = some r → ∀ q j, ¬ M q j → r.2 q j = I0 q j) := by
  intro n
  induction n with
  | zero => exact ⟨(fun _ _ _ r _ _ _ _ _ _ _ hf => by cases hf), (fun _ _ _ r _ _ _ _ _ _ _ hf => by cases hf)⟩
  | succ n hR =>
    refine ⟨?_, ?_⟩
    · intro o0 a1 I0 r m_o0_6 m_o0_0c6 m_o0_0c7 m_o0_0c8 m_o0_0c10 m_o0_0c11 m_o0_5c1 hf
      replace hf : fb_R_readEither fu (gRD fu n) o0 a1 I0 = some r := hf
      unfold fb_R_readEither at hf
      obtain ⟨Ib, hIb⟩ : ∃ Ib : IMem, Ib = I0 := ⟨I0, rfl⟩
      rw [← hIb]
      have f0 : ∀ q j, ¬ M q j → I0 q j = Ib q j := fun q j _ => by rw [hIb]
      clear hIb
      obtain ⟨u_2, I2, c_1, hf⟩ := of_zb hf
      have fI2 := fcz_t (hR.2 o0 a1 I0 _ m_o0_6 m_o0_0c6 m_o0_0c7 m_o0_0c8 m_o0_0c10 m_o0_0c11 m_o0_5c1 c_1) f0
      refine fc_R_readEither_9 M fu _ hR _ o0 a1 m_o0_6 m_o0_0c6 m_o0_0c7 m_o0_0c8 m_o0_0c10 m_o0_0c11 m_o0_5c1 ?_ fu 0 0 I2 fI2 hf
      · intro x28 I27 fI27 hf
        rcases of_ite hf with ⟨_, hf⟩ | ⟨_, hf⟩
        · cases hf; exact fI27
        · obtain ⟨u_4, I30, c_3, hf⟩ := of_zb hf
          have fI30 := fcz_t (fc_W_addStep M fu (o0 + 5) ((-9)) I27 m_o0_6 m_o0_5c1 c_3) fI27
          cases hf; exact fI30
    · intro o0 a1 I0 r m_o0_6 m_o0_0c6 m_o0_0c7 m_o0_0c8 m_o0_0c10 m_o0_0c11 m_o0_5c1 hf
      replace hf : fb_R_readTest fu (gRD fu n) o0 a1 I0 = some r := hf
      unfold fb_R_readTest at hf
      obtain ⟨Ib, hIb⟩ : ∃ Ib : IMem, Ib = I0 := ⟨I0, rfl⟩
      rw [← hIb]
      have f0 : ∀ q j, ¬ M q j → I0 q j = Ib q j := fun q j _ => by rw [hIb]
      clear hIb
      rcases of_ite hf with ⟨_, hf⟩ | ⟨_, hf⟩
      · obtain ⟨k1, ek1, hf⟩ := of_zj hf
        have hk1 : ∀ (x3 : Int) (I2 : IMem), (∀ q j, ¬ M q j → I2 q j = Ib q j) → k1 x3 I2 = some r → ∀ q j, ¬ M q j → r.2 q j = Ib q j := by
          intro x3 I2 fI2 hf
          subst ek1
          obtain ⟨k4, ek4, hf⟩ := of_zj hf
          have hk4 : ∀  (I5 : IMem), (∀ q j, ¬ M q j → I5 q j = Ib q j) → k4 I5 = some r → ∀ q j, ¬ M q j → r.2 q j = Ib q j := by
            intro I5 fI5 hf
            subst ek4
            rcases of_ite hf with ⟨_, hf⟩ | ⟨_, hf⟩
            · obtain ⟨u_2, I35, c_1, hf⟩ := of_zb hf
              have fI35 := fcz_t (fc_R_advance M fu o0 I5 m_o0_0c6 m_o0_0c7 m_o0_0c8 c_1) fI5
              obtain ⟨u_4, I38, c_3, hf⟩ := of_zb hf
              have fI38 := fcz_t (hR.2 o0 (wr32 (a1 + 1)) I35 _ m_o0_6 m_o0_0c6 m_o0_0c7 m_o0_0c8 m_o0_0c10 m_o0_0c11 m_o0_5c1 c_3) fI35
              obtain ⟨u_6, I41, c_5, hf⟩ := of_zb hf
              have fI41 := fcz_t (fc_W_addStep M fu (o0 + 5) ((-10)) I38 m_o0_6 m_o0_5c1 c_5) fI38
              cases hf; exact fI41
            · rcases of_ite hf with ⟨_, hf⟩ | ⟨_, hf⟩
              · obtain ⟨u_8, I7, c_7, hf⟩ := of_zb hf
                have fI7 := fcz_t (fc_R_readSum M fu o0 I5 m_o0_6 m_o0_0c6 m_o0_0c7 m_o0_0c8 m_o0_0c10 m_o0_0c11 m_o0_5c1 c_7) fI5
                obtain ⟨x9, -, hf⟩ := of_zl hf
                obtain ⟨k10, ek10, hf⟩ := of_zj hf
                have hk10 : ∀ (x12 : Int) (I11 : IMem), (∀ q j, ¬ M q j → I11 q j = Ib q j) → k10 x12 I11 = some r → ∀ q j, ¬ M q j → r.2 q j = Ib q j := by
                  intro x12 I11 fI11 hf
                  subst ek10
                  obtain ⟨u_10, I14, c_9, hf⟩ := of_zb hf
                  have fI14 := fcz_t (fc_R_expect M fu o0 x12 I11 m_o0_0c6 m_o0_0c7 m_o0_0c8 m_o0_0c10 m_o0_0c11 c_9) fI11
                  obtain ⟨u_12, I17, c_11, hf⟩ := of_zb hf
                  have fI17 := fcz_t (fc_R_readSum M fu o0 I14 m_o0_6 m_o0_0c6 m_o0_0c7 m_o0_0c8 m_o0_0c10 m_o0_0c11 m_o0_5c1 c_11) fI14
                  obtain ⟨k19, ek19, hf⟩ := of_zj hf
                  have hk19 : ∀ (x21 : Int) (I20 : IMem), (∀ q j, ¬ M q j → I20 q j = Ib q j) → k19 x21 I20 = some r → ∀ q j, ¬ M q j → r.2 q j = Ib q j := by
                    intro x21 I20 fI20 hf
                    subst ek19
                    obtain ⟨u_14, I23, c_13, hf⟩ := of_zb hf
                    have fI23 := fcz_t (fc_W_addStep M fu (o0 + 5) x21 I20 m_o0_6 m_o0_5c1 c_13) fI20
                    cases hf; exact fI23
                  rcases of_ite hf with ⟨_, hf⟩ | ⟨_, hf⟩
                  · exact hk19 ((-5)) I17 fI17 hf
                  · rcases of_ite hf with ⟨_, hf⟩ | ⟨_, hf⟩
                    · exact hk19 ((-7)) I17 fI17 hf
                    · exact hk19 ((-6)) I17 fI17 hf
                rcases of_ite hf with ⟨_, hf⟩ | ⟨_, hf⟩
                · exact hk10 x9 I7 fI7 hf
                · rcases of_ite hf with ⟨_, hf⟩ | ⟨_, hf⟩
                  · exact hk10 x9 I7 fI7 hf
                  · exact hk10 61 I7 fI7 hf
              · obtain ⟨u_16, I26, c_15, hf⟩ := of_zb hf
                have fI26 := fcz_t (fc_R_advance M fu o0 I5 m_o0_0c6 m_o0_0c7 m_o0_0c8 c_15) fI5
                obtain ⟨u_18, I29, c_17, hf⟩ := of_zb hf
                have fI29 := fcz_t (hR.1 o0 (wr32 (a1 + 1)) I26 _ m_o0_6 m_o0_0c6 m_o0_0c7 m_o0_0c8 m_o0_0c10 m_o0_0c11 m_o0_5c1 c_17) fI26
                obtain ⟨u_20, I32, c_19, hf⟩ := of_zb hf
                have fI32 := fcz_t (fc_R_expect M fu o0 41 I29 m_o0_0c6 m_o0_0c7 m_o0_0c8 m_o0_0c10 m_o0_0c11 c_19) fI29
                cases hf; exact fI32
          rcases of_ite hf with ⟨_, hf⟩ | ⟨_, hf⟩
          · exact hk4 I2 fI2 hf
          · rcases of_ite hf with ⟨_, hf⟩ | ⟨_, hf⟩
            · exact hk4 I2 fI2 hf
            · obtain ⟨u_22, I44, c_21, hf⟩ := of_zb hf
              have fI44 := fcz_t (fc_R_fail M fu o0 3 I2 m_o0_0c10 m_o0_0c11 c_21) fI2
              cases hf; exact fI44
        rcases of_ite hf with ⟨_, hf⟩ | ⟨_, hf⟩
        · exact hk1 1 I0 f0 hf
        · rcases of_ite hf with ⟨_, hf⟩ | ⟨_, hf⟩
          · exact hk1 1 I0 f0 hf
          · exact hk1 0 I0 f0 hf
      · cases hf; exact f0
theorem fc_R_readEither (M : Nat → Nat → Prop) (fu : Nat) (o0 : Nat) (a1 : Int) (I0 : IMem) {r : Int × IMem} (m_o0_6 : ∀ j, M (o0 + 6) j) (m_o0_0c6 : M o0 6) (m_o0_0c7 : M o0 7) (m_o0_0c8 : M o0 8) (m_o0_0c10 : M o0 10) (m_o0_0c11 : M o0 11) (m_o0_5c1 : M (o0 + 5) 1) (hf : f_R_readEither fu o0 a1 I0 = some r) : ∀ q j, ¬ M q j → r.2 q j = I0 q j := (fc_gRD M fu _).1 o0 a1 I0 r m_o0_6 m_o0_0c6 m_o0_0c7 m_o0_0c8 m_o0_0c10 m_o0_0c11 m_o0_5c1 hf
theorem fc_R_readTest (M : Nat → Nat → Prop) (fu : Nat) (o0 : Nat) (a1 : Int) (I0 : IMem) {r : Int × IMem} (m_o0_6 : ∀ j, M (o0 + 6) j) (m_o0_0c6 : M o0 6) (m_o0_0c7 : M o0 7) (m_o0_0c8 : M o0 8) (m_o0_0c10 : M o0 10) (m_o0_0c11 : M o0 11) (m_o0_5c1 : M (o0 + 5) 1) (hf : f_R_readTest fu o0 a1 I0 = some r) : ∀ q j, ¬ M q j → r.2 q j = I0 q j := (fc_gRD M fu _).2 o0 a1 I0 r m_o0_6 m_o0_0c6 m_o0_0c7 m_o0_0c8 m_o0_0c10 m_o0_0c11 m_o0_5c1 hf
theorem fc_R_readTarget (M : Nat → Nat → Prop) (fu : Nat) (o0 : Nat) (I0 : IMem) {r : Int × IMem} (m_o0_6 : ∀ j, M (o0 + 6) j) (m_o0_0c6 : M o0 6) (m_o0_0c7 : M o0 7) (m_o0_0c8 : M o0 8) (m_o0_0c10 : M o0 10) (m_o0_0c11 : M o0 11) (m_o0_5c1 : M (o0 + 5) 1) (hf : f_R_readTarget fu o0 I0 = some r) : ∀ q j, ¬ M q j → r.2 q j = I0 q j := by
  unfold f_R_readTarget at hf
  obtain ⟨Ib, hIb⟩ : ∃ Ib : IMem, Ib = I0 := ⟨I0, rfl⟩
  rw [← hIb]
  have f0 : ∀ q j, ¬ M q j → I0 q j = Ib q j := fun q j _ => by rw [hIb]
  clear hIb
  obtain ⟨k1, ek1, hf⟩ := of_zj hf
  have hk1 : ∀  (I2 : IMem), (∀ q j, ¬ M q j → I2 q j = Ib q j) → k1 I2 = some r → ∀ q j, ¬ M q j → r.2 q j = Ib q j := by
    intro I2 fI2 hf
    subst ek1
    obtain ⟨u_2, I4, c_1, hf⟩ := of_zb hf
    have fI4 := fcz_t (fc_W_addStep M fu (o0 + 5) (I2 o0 8) I2 m_o0_6 m_o0_5c1 c_1) fI2
    obtain ⟨u_4, I7, c_3, hf⟩ := of_zb hf
    have fI7 := fcz_t (fc_R_expect M fu o0 16 I4 m_o0_0c6 m_o0_0c7 m_o0_0c8 m_o0_0c10 m_o0_0c11 c_3) fI4
    cases hf; exact fI7
  rcases of_ite hf with ⟨_, hf⟩ | ⟨_, hf⟩
  · rcases of_ite hf with ⟨_, hf⟩ | ⟨_, hf⟩
    · exact hk1 I0 f0 hf
    · obtain ⟨u_6, I10, c_5, hf⟩ := of_zb hf
      have fI10 := fcz_t (fc_R_fail M fu o0 2 I0 m_o0_0c10 m_o0_0c11 c_5) f0
      exact hk1 I10 fI10 hf
  · exact hk1 I0 f0 hf
theorem fc_W_closeLine (M : Nat → Nat → Prop) (fu : Nat) (o0 : Nat) (I0 : IMem) {r : Int × IMem} (m_o0_2 : ∀ j, M (o0 + 2) j) (m_o0_0c4 : M o0 4) (hf : f_W_closeLine fu o0 I0 = some r) : ∀ q j, ¬ M q j → r.2 q j = I0 q j := by
  unfold f_W_closeLine at hf
  obtain ⟨Ib, hIb⟩ : ∃ Ib : IMem, Ib = I0 := ⟨I0, rfl⟩
  rw [← hIb]
  have f0 : ∀ q j, ¬ M q j → I0 q j = Ib q j := fun q j _ => by rw [hIb]
  clear hIb
  rcases of_ite hf with ⟨_, hf⟩ | ⟨_, hf⟩
  · cases hf; exact f0
  · rcases of_ite hf with ⟨_, hf⟩ | ⟨_, hf⟩
    · obtain ⟨I1, fI1, hf⟩ := fcz_w m_o0_0c4 f0 hf
      obtain ⟨x3, -, hf⟩ := of_zl hf
      obtain ⟨g_1, hf⟩ := of_zg hf
      obtain ⟨I2, fI2, hf⟩ := fcz_w (m_o0_2 _) fI1 hf
      cases hf; exact fI2
    · cases hf; exact f0
theorem fc_W_isFull (M : Nat → Nat → Prop) (fu : Nat) (o0 : Nat) (I0 : IMem) {r : Int × IMem} (hf : f_W_isFull fu o0 I0 = some r) : ∀ q j, ¬ M q j → r.2 q j = I0 q j := by
  unfold f_W_isFull at hf
  obtain ⟨Ib, hIb⟩ : ∃ Ib : IMem, Ib = I0 := ⟨I0, rfl⟩
  rw [← hIb]
  have f0 : ∀ q j, ¬ M q j → I0 q j = Ib q j := fun q j _ => by rw [hIb]
  clear hIb
  rcases of_ite hf with ⟨_, hf⟩ | ⟨_, hf⟩
  · cases hf; exact f0
  · cases hf; exact f0
theorem fc_W_startWhen (M : Nat → Nat → Prop) (fu : Nat) (o0 : Nat) (I0 : IMem) {r : Int × IMem} (m_o0_3 : ∀ j, M (o0 + 3) j) (hf : f_W_startWhen fu o0 I0 = some r) : ∀ q j, ¬ M q j → r.2 q j = I0 q j := by
  unfold f_W_startWhen at hf
  obtain ⟨Ib, hIb⟩ : ∃ Ib : IMem, Ib = I0 := ⟨I0, rfl⟩
  rw [← hIb]
  have f0 : ∀ q j, ¬ M q j → I0 q j = Ib q j := fun q j _ => by rw [hIb]
  clear hIb
  rcases of_ite hf with ⟨_, hf⟩ | ⟨_, hf⟩
  · cases hf; exact f0
  · rcases of_ite hf with ⟨_, hf⟩ | ⟨_, hf⟩
    · obtain ⟨x2, -, hf⟩ := of_zl hf
      obtain ⟨g_1, hf⟩ := of_zg hf
      obtain ⟨I1, fI1, hf⟩ := fcz_w (m_o0_3 _) f0 hf
      cases hf; exact fI1
    · cases hf; exact f0
theorem fc_R_readLine (M : Nat → Nat → Prop) (fu : Nat) (o0 : Nat) (I0 : IMem) {r : Int × IMem} (m_o0_6 : ∀ j, M (o0 + 6) j) (m_o0_7 : ∀ j, M (o0 + 7) j) (m_o0_8 : ∀ j, M (o0 + 8) j) (m_o0_0c6 : M o0 6) (m_o0_0c7 : M o0 7) (m_o0_0c8 : M o0 8) (m_o0_0c10 : M o0 10) (m_o0_0c11 : M o0 11) (m_o0_5c1 : M (o0 + 5) 1) (m_o0_5c4 : M (o0 + 5) 4) (hf : f_R_readLine fu o0 I0 = some r) : ∀ q j, ¬ M q j → r.2 q j = I0 q j := by
  unfold f_R_readLine at hf
  obtain ⟨Ib, hIb⟩ : ∃ Ib : IMem, Ib = I0 := ⟨I0, rfl⟩
  rw [← hIb]
  have f0 : ∀ q j, ¬ M q j → I0 q j = Ib q j := fun q j _ => by rw [hIb]
  clear hIb
  obtain ⟨k1, ek1, hf⟩ := of_zj hf
  have hk1 : ∀ (x3 : Int) (I2 : IMem), (∀ q j, ¬ M q j → I2 q j = Ib q j) → k1 x3 I2 = some r → ∀ q j, ¬ M q j → r.2 q j = Ib q j := by
    intro x3 I2 fI2 hf
    subst ek1
    obtain ⟨k4, ek4, hf⟩ := of_zj hf
    have hk4 : ∀  (I5 : IMem), (∀ q j, ¬ M q j → I5 q j = Ib q j) → k4 I5 = some r → ∀ q j, ¬ M q j → r.2 q j = Ib q j := by
      intro I5 fI5 hf
      subst ek4
      obtain ⟨u_2, I7, c_1, hf⟩ := of_zb hf
      have fI7 := fcz_t (fc_R_expect M fu o0 x3 I5 m_o0_0c6 m_o0_0c7 m_o0_0c8 m_o0_0c10 m_o0_0c11 c_1) fI5
      obtain ⟨k9, ek9, hf⟩ := of_zj hf
      have hk9 : ∀  (I10 : IMem), (∀ q j, ¬ M q j → I10 q j = Ib q j) → k9 I10 = some r → ∀ q j, ¬ M q j → r.2 q j = Ib q j := by
        intro I10 fI10 hf
        subst ek9
        obtain ⟨u_4, I12, c_3, hf⟩ := of_zb hf
        have fI12 := fcz_t (fc_W_startWhen M fu (o0 + 5) I10 m_o0_8 c_3) fI10
        obtain ⟨k14, ek14, hf⟩ := of_zj hf
        have hk14 : ∀  (I15 : IMem), (∀ q j, ¬ M q j → I15 q j = Ib q j) → k14 I15 = some r → ∀ q j, ¬ M q j → r.2 q j = Ib q j := by
          intro I15 fI15 hf
          subst ek14
          obtain ⟨u_6, I17, c_5, hf⟩ := of_zb hf
          have fI17 := fcz_t (fc_R_expect M fu o0 59 I15 m_o0_0c6 m_o0_0c7 m_o0_0c8 m_o0_0c10 m_o0_0c11 c_5) fI15
          obtain ⟨u_8, I20, c_7, hf⟩ := of_zb hf
          have fI20 := fcz_t (fc_W_closeLine M fu (o0 + 5) I17 m_o0_7 m_o0_5c4 c_7) fI17
          cases hf; exact fI20
        obtain ⟨k22, ek22, hf⟩ := of_zj hf
        have hk22 : ∀  (I23 : IMem), (∀ q j, ¬ M q j → I23 q j = Ib q j) → k22 I23 = some r → ∀ q j, ¬ M q j → r.2 q j = Ib q j := by
          intro I23 fI23 hf
          subst ek22
          obtain ⟨u_10, I25, c_9, hf⟩ := of_zb hf
          have fI25 := fcz_t (fc_R_expect M fu o0 1 I23 m_o0_0c6 m_o0_0c7 m_o0_0c8 m_o0_0c10 m_o0_0c11 c_9) fI23
          obtain ⟨u_12, I28, c_11, hf⟩ := of_zb hf
          have fI28 := fcz_t (fc_R_readEither M fu o0 0 I25 m_o0_6 m_o0_0c6 m_o0_0c7 m_o0_0c8 m_o0_0c10 m_o0_0c11 m_o0_5c1 c_11) fI25
          exact hk14 I28 fI28 hf
        rcases of_ite hf with ⟨_, hf⟩ | ⟨_, hf⟩
        · rcases of_ite hf with ⟨_, hf⟩ | ⟨_, hf⟩
          · exact hk22 I12 fI12 hf
          · exact hk14 I12 fI12 hf
        · exact hk22 I12 fI12 hf
      rcases of_ite hf with ⟨_, hf⟩ | ⟨_, hf⟩
      · obtain ⟨u_14, I31, c_13, hf⟩ := of_zb hf
        have fI31 := fcz_t (fc_R_readSum M fu o0 I7 m_o0_6 m_o0_0c6 m_o0_0c7 m_o0_0c8 m_o0_0c10 m_o0_0c11 m_o0_5c1 c_13) fI7
        exact hk9 I31 fI31 hf
      · obtain ⟨u_16, I34, c_15, hf⟩ := of_zb hf
        have fI34 := fcz_t (fc_R_readTarget M fu o0 I7 m_o0_6 m_o0_0c6 m_o0_0c7 m_o0_0c8 m_o0_0c10 m_o0_0c11 m_o0_5c1 c_15) fI7
        exact hk9 I34 fI34 hf
    rcases of_ite hf with ⟨_, hf⟩ | ⟨_, hf⟩
    · obtain ⟨y36, I37, c_17, hf⟩ := of_zb hf
      have fI37 := fcz_t (fc_W_isFull M fu (o0 + 5) I2 c_17) fI2
      rcases of_ite hf with ⟨_, hf⟩ | ⟨_, hf⟩
      · exact hk4 I37 fI37 hf
      · obtain ⟨u_19, I40, c_18, hf⟩ := of_zb hf
        have fI40 := fcz_t (fc_R_fail M fu o0 3 I37 m_o0_0c10 m_o0_0c11 c_18) fI37
        exact hk4 I40 fI40 hf
    · exact hk4 I2 fI2 hf
  rcases of_ite hf with ⟨_, hf⟩ | ⟨_, hf⟩
  · exact hk1 0 I0 f0 hf
  · exact hk1 11 I0 f0 hf
theorem fc_R_addToken (M : Nat → Nat → Prop) (fu : Nat) (o0 : Nat) (a1 : Int) (a2 : Int) (a3 : Int) (I0 : IMem) {r : Int × IMem} (m_o0_2 : ∀ j, M (o0 + 2) j) (m_o0_3 : ∀ j, M (o0 + 3) j) (m_o0_4 : ∀ j, M (o0 + 4) j) (m_o0_0c5 : M o0 5) (hf : f_R_addToken fu o0 a1 a2 a3 I0 = some r) : ∀ q j, ¬ M q j → r.2 q j = I0 q j := by
  unfold f_R_addToken at hf
  obtain ⟨Ib, hIb⟩ : ∃ Ib : IMem, Ib = I0 := ⟨I0, rfl⟩
  rw [← hIb]
  have f0 : ∀ q j, ¬ M q j → I0 q j = Ib q j := fun q j _ => by rw [hIb]
  clear hIb
  rcases of_ite hf with ⟨_, hf⟩ | ⟨_, hf⟩
  · cases hf; exact f0
  · rcases of_ite hf with ⟨_, hf⟩ | ⟨_, hf⟩
    · cases hf; exact f0
    · obtain ⟨x2, -, hf⟩ := of_zl hf
      obtain ⟨g_1, hf⟩ := of_zg hf
      obtain ⟨I1, fI1, hf⟩ := fcz_w (m_o0_2 _) f0 hf
      obtain ⟨x4, -, hf⟩ := of_zl hf
      obtain ⟨g_2, hf⟩ := of_zg hf
      obtain ⟨I3, fI3, hf⟩ := fcz_w (m_o0_3 _) fI1 hf
      obtain ⟨x6, -, hf⟩ := of_zl hf
      obtain ⟨g_3, hf⟩ := of_zg hf
      obtain ⟨I5, fI5, hf⟩ := fcz_w (m_o0_4 _) fI3 hf
      obtain ⟨I7, fI7, hf⟩ := fcz_w m_o0_0c5 fI5 hf
      cases hf; exact fI7
theorem fc_R_isDigit (M : Nat → Nat → Prop) (fu : Nat) (a0 : Int) (I0 : IMem) {r : Int × IMem} (hf : f_R_isDigit fu a0 I0 = some r) : ∀ q j, ¬ M q j → r.2 q j = I0 q j := by
  unfold f_R_isDigit at hf
  obtain ⟨Ib, hIb⟩ : ∃ Ib : IMem, Ib = I0 := ⟨I0, rfl⟩
  rw [← hIb]
  have f0 : ∀ q j, ¬ M q j → I0 q j = Ib q j := fun q j _ => by rw [hIb]
  clear hIb
  rcases of_ite hf with ⟨_, hf⟩ | ⟨_, hf⟩
  · cases hf; exact f0
  · rcases of_ite hf with ⟨_, hf⟩ | ⟨_, hf⟩
    · cases hf; exact f0
    · cases hf; exact f0
theorem fc_R_isLetter (M : Nat → Nat → Prop) (fu : Nat) (a0 : Int) (I0 : IMem) {r : Int × IMem} (hf : f_R_isLetter fu a0 I0 = some r) : ∀ q j, ¬ M q j → r.2 q j = I0 q j := by
  unfold f_R_isLetter at hf
  obtain ⟨Ib, hIb⟩ : ∃ Ib : IMem, Ib = I0 := ⟨I0, rfl⟩
  rw [← hIb]
  have f0 : ∀ q j, ¬ M q j → I0 q j = Ib q j := fun q j _ => by rw [hIb]
  clear hIb
  obtain ⟨k1, ek1, hf⟩ := of_zj hf
  have hk1 : ∀  (I2 : IMem), (∀ q j, ¬ M q j → I2 q j = Ib q j) → k1 I2 = some r → ∀ q j, ¬ M q j → r.2 q j = Ib q j := by
    intro I2 fI2 hf
    subst ek1
    rcases of_ite hf with ⟨_, hf⟩ | ⟨_, hf⟩
    · cases hf; exact fI2
    · rcases of_ite hf with ⟨_, hf⟩ | ⟨_, hf⟩
      · cases hf; exact fI2
      · cases hf; exact fI2
  rcases of_ite hf with ⟨_, hf⟩ | ⟨_, hf⟩
  · exact hk1 I0 f0 hf
  · rcases of_ite hf with ⟨_, hf⟩ | ⟨_, hf⟩
    · exact hk1 I0 f0 hf
    · cases hf; exact f0
theorem fc_R_numberAt_9 (M : Nat → Nat → Prop) (fu : Nat) {r : Int × IMem} {Ib : IMem} (o0 : Nat) (p2 : Int) : ∀ (m : Nat) (w3 : Int) (w4 : Int) (I0 : IMem), (∀ q j, ¬ M q j → I0 q j = Ib q j) → f_R_numberAt_9 fu o0 p2 m w3 w4 I0 = some r → ∀ q j, ¬ M q j → r.2 q j = Ib q j := by
  intro m
  induction m with
  | zero => intro w3 w4 I0 _ hf; cases hf
  | succ m hR_ =>
    intro w3 w4 I0 fI0 hf
    replace hf : fb_R_numberAt_9 fu o0 p2 (f_R_numberAt_9 fu o0 p2 m) w3 w4 I0 = some r := hf
    unfold fb_R_numberAt_9 at hf
    rcases of_ite hf with ⟨_, hf⟩ | ⟨_, hf⟩
    · rcases of_ite hf with ⟨_, hf⟩ | ⟨_, hf⟩
      · obtain ⟨g_1, hf⟩ := of_zg hf
        obtain ⟨x4, -, hf⟩ := of_zl hf
        obtain ⟨x5, -, hf⟩ := of_zl hf
        exact hR_ x4 x5 I0 fI0 hf
      · cases hf; exact fI0
    · cases hf; exact fI0
theorem fc_R_numberAt (M : Nat → Nat → Prop) (fu : Nat) (o0 : Nat) (a1 : Int) (a2 : Int) (I0 : IMem) {r : Int × IMem} (hf : f_R_numberAt fu o0 a1 a2 I0 = some r) : ∀ q j, ¬ M q j → r.2 q j = I0 q j := by
  unfold f_R_numberAt at hf
  obtain ⟨Ib, hIb⟩ : ∃ Ib : IMem, Ib = I0 := ⟨I0, rfl⟩
  rw [← hIb]
  have f0 : ∀ q j, ¬ M q j → I0 q j = Ib q j := fun q j _ => by rw [hIb]
  clear hIb
  obtain ⟨y1, I2, c_1, hf⟩ := of_zb hf
  have fI2 := fcz_t (fc_JM_max M fu a1 0 I0 c_1) f0
  refine fc_R_numberAt_9 M fu o0 a2 fu 0 y1 I2 fI2 hf
theorem fc_R_wordAt_11 (M : Nat → Nat → Prop) (fu : Nat) {r : Int × IMem} {Ib : IMem} (o0 : Nat) (p1 : Int) (p2 : Int) : ∀ (m : Nat) (w3 : Int) (w4 : Int) (w5 : Int) (w6 : Int) (I0 : IMem), (∀ q j, ¬ M q j → I0 q j = Ib q j) → f_R_wordAt_11 fu o0 p1 p2 m w3 w4 w5 w6 I0 = some r → ∀ q j, ¬ M q j → r.2 q j = Ib q j := by
  intro m
  induction m with
  | zero => intro w3 w4 w5 w6 I0 _ hf; cases hf
  | succ m hR_ =>
    intro w3 w4 w5 w6 I0 fI0 hf
    replace hf : fb_R_wordAt_11 fu o0 p1 p2 (f_R_wordAt_11 fu o0 p1 p2 m) w3 w4 w5 w6 I0 = some r := hf
    unfold fb_R_wordAt_11 at hf
    obtain ⟨y1, I2, c_1, hf⟩ := of_zb hf
    have fI2 := fcz_t (fc_JS_length M fu 0 I0 c_1) fI0
    rcases of_ite hf with ⟨_, hf⟩ | ⟨_, hf⟩
    · obtain ⟨y4, I5, c_2, hf⟩ := of_zb hf
      have fI5 := fcz_t (fc_JS_charAt M fu 0 w6 I2 c_2) fI2
      obtain ⟨k7, ek7, hf⟩ := of_zj hf
      have hk7 : ∀ (x9 : Int) (x10 : Int) (x11 : Int) (I8 : IMem), (∀ q j, ¬ M q j → I8 q j = Ib q j) → k7 x9 x10 x11 I8 = some r → ∀ q j, ¬ M q j → r.2 q j = Ib q j := by
        intro x9 x10 x11 I8 fI8 hf
        subst ek7
        obtain ⟨x12, -, hf⟩ := of_zl hf
        exact hR_ x9 x10 x11 x12 I8 fI8 hf
      rcases of_ite hf with ⟨_, hf⟩ | ⟨_, hf⟩
      · obtain ⟨k14, ek14, hf⟩ := of_zj hf
        have hk14 : ∀  (I15 : IMem), (∀ q j, ¬ M q j → I15 q j = Ib q j) → k14 I15 = some r → ∀ q j, ¬ M q j → r.2 q j = Ib q j := by
          intro I15 fI15 hf
          subst ek14
          obtain ⟨x16, -, hf⟩ := of_zl hf
          exact hk7 x16 p1 1 I15 fI15 hf
        rcases of_ite hf with ⟨_, hf⟩ | ⟨_, hf⟩
        · exact hk14 I5 fI5 hf
        · rcases of_ite hf with ⟨_, hf⟩ | ⟨_, hf⟩
          · cases hf; exact fI5
          · exact hk14 I5 fI5 hf
      · rcases of_ite hf with ⟨_, hf⟩ | ⟨_, hf⟩
        · exact hk7 w3 w4 0 I5 fI5 hf
        · rcases of_ite hf with ⟨_, hf⟩ | ⟨_, hf⟩
          · exact hk7 w3 w4 0 I5 fI5 hf
          · rcases of_ite hf with ⟨_, hf⟩ | ⟨_, hf⟩
            · rcases of_ite hf with ⟨_, hf⟩ | ⟨_, hf⟩
              · obtain ⟨g_3, hf⟩ := of_zg hf
                rcases of_ite hf with ⟨_, hf⟩ | ⟨_, hf⟩
                · obtain ⟨x13, -, hf⟩ := of_zl hf
                  exact hk7 w3 x13 w5 I5 fI5 hf
                · exact hk7 w3 w4 0 I5 fI5 hf
              · exact hk7 w3 w4 0 I5 fI5 hf
            · exact hk7 w3 w4 0 I5 fI5 hf
    · cases hf; exact fI2
theorem fc_R_wordAt (M : Nat → Nat → Prop) (fu : Nat) (o0 : Nat) (a1 : Int) (a2 : Int) (I0 : IMem) {r : Int × IMem} (hf : f_R_wordAt fu o0 a1 a2 I0 = some r) : ∀ q j, ¬ M q j → r.2 q j = I0 q j := by
  unfold f_R_wordAt at hf
  obtain ⟨Ib, hIb⟩ : ∃ Ib : IMem, Ib = I0 := ⟨I0, rfl⟩
  rw [← hIb]
  have f0 : ∀ q j, ¬ M q j → I0 q j = Ib q j := fun q j _ => by rw [hIb]
  clear hIb
  refine fc_R_wordAt_11 M fu o0 a1 a2 fu 0 a1 1 0 I0 f0 hf
theorem fc_R_scan_96 (M : Nat → Nat → Prop) (fu : Nat) {r : Int × IMem} {Ib : IMem} (k_129 : Int → IMem → Res) (o0 : Nat) (p2 : Int) (hk_129 : ∀ (z0 : Int) (I9 : IMem), (∀ q j, ¬ M q j → I9 q j = Ib q j) → k_129 z0 I9 = some r → ∀ q j, ¬ M q j → r.2 q j = Ib q j) : ∀ (m : Nat) (w1 : Int) (I0 : IMem), (∀ q j, ¬ M q j → I0 q j = Ib q j) → f_R_scan_96 fu k_129 o0 p2 m w1 I0 = some r → ∀ q j, ¬ M q j → r.2 q j = Ib q j := by
  intro m
  induction m with
  | zero => intro w1 I0 _ hf; cases hf
  | succ m hR_ =>
    intro w1 I0 fI0 hf
    replace hf : fb_R_scan_96 fu k_129 o0 p2 (f_R_scan_96 fu k_129 o0 p2 m) w1 I0 = some r := hf
    unfold fb_R_scan_96 at hf
    rcases of_ite hf with ⟨_, hf⟩ | ⟨_, hf⟩
    · rcases of_ite hf with ⟨_, hf⟩ | ⟨_, hf⟩
      · obtain ⟨g_1, hf⟩ := of_zg hf
        obtain ⟨y19, I20, c_2, hf⟩ := of_zb hf
        have fI20 := fcz_t (fc_R_isDigit M fu (I0 (o0 + 1) w1.toNat) I0 c_2) fI0
        rcases of_ite hf with ⟨_, hf⟩ | ⟨_, hf⟩
        · exact hk_129 w1 I20 fI20 hf
        · obtain ⟨x22, -, hf⟩ := of_zl hf
          exact hR_ x22 I20 fI20 hf
      · exact hk_129 w1 I0 fI0 hf
    · exact hk_129 w1 I0 fI0 hf
theorem fc_R_scan_41 (M : Nat → Nat → Prop) (fu : Nat) {r : Int × IMem} {Ib : IMem} (k_74 : Int → IMem → Res) (o0 : Nat) (p2 : Int) (hk_74 : ∀ (z0 : Int) (I9 : IMem), (∀ q j, ¬ M q j → I9 q j = Ib q j) → k_74 z0 I9 = some r → ∀ q j, ¬ M q j → r.2 q j = Ib q j) : ∀ (m : Nat) (w1 : Int) (I0 : IMem), (∀ q j, ¬ M q j → I0 q j = Ib q j) → f_R_scan_41 fu k_74 o0 p2 m w1 I0 = some r → ∀ q j, ¬ M q j → r.2 q j = Ib q j := by
  intro m
  induction m with
  | zero => intro w1 I0 _ hf; cases hf
  | succ m hR_ =>
    intro w1 I0 fI0 hf
    replace hf : fb_R_scan_41 fu k_74 o0 p2 (f_R_scan_41 fu k_74 o0 p2 m) w1 I0 = some r := hf
    unfold fb_R_scan_41 at hf
    rcases of_ite hf with ⟨_, hf⟩ | ⟨_, hf⟩
    · rcases of_ite hf with ⟨_, hf⟩ | ⟨_, hf⟩
      · obtain ⟨g_1, hf⟩ := of_zg hf
        obtain ⟨y34, I35, c_2, hf⟩ := of_zb hf
        have fI35 := fcz_t (fc_R_isLetter M fu (I0 (o0 + 1) w1.toNat) I0 c_2) fI0
        rcases of_ite hf with ⟨_, hf⟩ | ⟨_, hf⟩
        · exact hk_74 w1 I35 fI35 hf
        · obtain ⟨x37, -, hf⟩ := of_zl hf
          exact hR_ x37 I35 fI35 hf
      · exact hk_74 w1 I0 fI0 hf
    · exact hk_74 w1 I0 fI0 hf
theorem fc_R_scan_7 (M : Nat → Nat → Prop) (fu : Nat) {r : Int × IMem} {Ib : IMem} (k_194 : IMem → Res) (o0 : Nat) (m_o0_2 : ∀ j, M (o0 + 2) j) (m_o0_3 : ∀ j, M (o0 + 3) j) (m_o0_4 : ∀ j, M (o0 + 4) j) (m_o0_0c5 : M o0 5) (hk_194 : ∀ (I9 : IMem), (∀ q j, ¬ M q j → I9 q j = Ib q j) → k_194 I9 = some r → ∀ q j, ¬ M q j → r.2 q j = Ib q j) : ∀ (m : Nat) (w1 : Int) (I0 : IMem), (∀ q j, ¬ M q j → I0 q j = Ib q j) → f_R_scan_7 fu k_194 o0 m w1 I0 = some r → ∀ q j, ¬ M q j → r.2 q j = Ib q j := by
  intro m
  induction m with
  | zero => intro w1 I0 _ hf; cases hf
  | succ m hR_ =>
    intro w1 I0 fI0 hf
    replace hf : fb_R_scan_7 fu k_194 o0 (f_R_scan_7 fu k_194 o0 m) w1 I0 = some r := hf
    unfold fb_R_scan_7 at hf
    rcases of_ite hf with ⟨_, hf⟩ | ⟨_, hf⟩
    · rcases of_ite hf with ⟨_, hf⟩ | ⟨_, hf⟩
      · obtain ⟨g_1, hf⟩ := of_zg hf
        obtain ⟨x2, -, hf⟩ := of_zl hf
        obtain ⟨x3, -, hf⟩ := of_zl hf
        obtain ⟨y4, I5, c_2, hf⟩ := of_zb hf
        have fI5 := fcz_t (fc_R_isLetter M fu x2 I0 c_2) fI0
        rcases of_ite hf with ⟨_, hf⟩ | ⟨_, hf⟩
        · obtain ⟨y7, I8, c_3, hf⟩ := of_zb hf
          have fI8 := fcz_t (fc_R_isDigit M fu x2 I5 c_3) fI5
          rcases of_ite hf with ⟨_, hf⟩ | ⟨_, hf⟩
          · rcases of_ite hf with ⟨_, hf⟩ | ⟨_, hf⟩
            · exact hR_ x3 I8 fI8 hf
            · rcases of_ite hf with ⟨_, hf⟩ | ⟨_, hf⟩
              · exact hR_ x3 I8 fI8 hf
              · obtain ⟨y10, I11, c_4, hf⟩ := of_zb hf
                have fI11 := fcz_t (fc_JS_indexOf M fu 1 (wi2c x2) I8 c_4) fI8
                obtain ⟨k13, ek13, hf⟩ := of_zj hf
                have hk13 : ∀ (x15 : Int) (I14 : IMem), (∀ q j, ¬ M q j → I14 q j = Ib q j) → k13 x15 I14 = some r → ∀ q j, ¬ M q j → r.2 q j = Ib q j := by
                  intro x15 I14 fI14 hf
                  subst ek13
                  obtain ⟨u_6, I17, c_5, hf⟩ := of_zb hf
                  have fI17 := fcz_t (fc_R_addToken M fu o0 x15 w1 0 I14 m_o0_2 m_o0_3 m_o0_4 m_o0_0c5 c_5) fI14
                  exact hR_ x3 I17 fI17 hf
                rcases of_ite hf with ⟨_, hf⟩ | ⟨_, hf⟩
                · exact hk13 18 I11 fI11 hf
                · exact hk13 x2 I11 fI11 hf
          · refine fc_R_scan_96 M fu _ o0 w1 ?_ fu x3 I8 fI8 hf
            · intro x24 I23 fI23 hf
              obtain ⟨k25, ek25, hf⟩ := of_zj hf
              have hk25 : ∀ (x27 : Int) (I26 : IMem), (∀ q j, ¬ M q j → I26 q j = Ib q j) → k25 x27 I26 = some r → ∀ q j, ¬ M q j → r.2 q j = Ib q j := by
                intro x27 I26 fI26 hf
                subst ek25
                obtain ⟨y28, I29, c_7, hf⟩ := of_zb hf
                have fI29 := fcz_t (fc_R_numberAt M fu o0 w1 x24 I26 c_7) fI26
                obtain ⟨u_9, I32, c_8, hf⟩ := of_zb hf
                have fI32 := fcz_t (fc_R_addToken M fu o0 x27 w1 y28 I29 m_o0_2 m_o0_3 m_o0_4 m_o0_0c5 c_8) fI29
                exact hR_ x24 I32 fI32 hf
              rcases of_ite hf with ⟨_, hf⟩ | ⟨_, hf⟩
              · exact hk25 18 I23 fI23 hf
              · exact hk25 16 I23 fI23 hf
        · refine fc_R_scan_41 M fu _ o0 w1 ?_ fu x3 I5 fI5 hf
          · intro x39 I38 fI38 hf
            obtain ⟨y40, I41, c_10, hf⟩ := of_zb hf
            have fI41 := fcz_t (fc_R_wordAt M fu o0 w1 x39 I38 c_10) fI38
            obtain ⟨u_12, I44, c_11, hf⟩ := of_zb hf
            have fI44 := fcz_t (fc_R_addToken M fu o0 y40 w1 0 I41 m_o0_2 m_o0_3 m_o0_4 m_o0_0c5 c_11) fI41
            exact hR_ x39 I44 fI44 hf
      · exact hk_194 I0 fI0 hf
    · exact hk_194 I0 fI0 hf
theorem fc_R_scan (M : Nat → Nat → Prop) (fu : Nat) (o0 : Nat) (I0 : IMem) {r : Int × IMem} (m_o0_2 : ∀ j, M (o0 + 2) j) (m_o0_3 : ∀ j, M (o0 + 3) j) (m_o0_4 : ∀ j, M (o0 + 4) j) (m_o0_0c5 : M o0 5) (hf : f_R_scan fu o0 I0 = some r) : ∀ q j, ¬ M q j → r.2 q j = I0 q j := by
  unfold f_R_scan at hf
  obtain ⟨Ib, hIb⟩ : ∃ Ib : IMem, Ib = I0 := ⟨I0, rfl⟩
  rw [← hIb]
  have f0 : ∀ q j, ¬ M q j → I0 q j = Ib q j := fun q j _ => by rw [hIb]
  clear hIb
  obtain ⟨I1, fI1, hf⟩ := fcz_w m_o0_0c5 f0 hf
  refine fc_R_scan_7 M fu _ o0 m_o0_2 m_o0_3 m_o0_4 m_o0_0c5 ?_ fu 0 I1 fI1 hf
  · intro I46 fI46 hf
    obtain ⟨u_2, I48, c_1, hf⟩ := of_zb hf
    have fI48 := fcz_t (fc_R_addToken M fu o0 17 (I46 o0 1) 0 I46 m_o0_2 m_o0_3 m_o0_4 m_o0_0c5 c_1) fI46
    cases hf; exact fI48
theorem fc_W_clear (M : Nat → Nat → Prop) (fu : Nat) (o0 : Nat) (I0 : IMem) {r : Int × IMem} (m_o0_0c1 : M o0 1) (m_o0_0c4 : M o0 4) (hf : f_W_clear fu o0 I0 = some r) : ∀ q j, ¬ M q j → r.2 q j = I0 q j := by
  unfold f_W_clear at hf
  obtain ⟨Ib, hIb⟩ : ∃ Ib : IMem, Ib = I0 := ⟨I0, rfl⟩
  rw [← hIb]
  have f0 : ∀ q j, ¬ M q j → I0 q j = Ib q j := fun q j _ => by rw [hIb]
  clear hIb
  obtain ⟨I1, fI1, hf⟩ := fcz_w m_o0_0c1 f0 hf
  obtain ⟨I2, fI2, hf⟩ := fcz_w m_o0_0c4 fI1 hf
  cases hf; exact fI2
theorem fc_R_understand_31 (M : Nat → Nat → Prop) (fu : Nat) {r : Int × IMem} {Ib : IMem} (k_64 : IMem → Res) (o0 : Nat) (m_o0_6 : ∀ j, M (o0 + 6) j) (m_o0_7 : ∀ j, M (o0 + 7) j) (m_o0_8 : ∀ j, M (o0 + 8) j) (m_o0_0c6 : M o0 6) (m_o0_0c7 : M o0 7) (m_o0_0c8 : M o0 8) (m_o0_0c10 : M o0 10) (m_o0_0c11 : M o0 11) (m_o0_5c1 : M (o0 + 5) 1) (m_o0_5c4 : M (o0 + 5) 4) (hk_64 : ∀ (I9 : IMem), (∀ q j, ¬ M q j → I9 q j = Ib q j) → k_64 I9 = some r → ∀ q j, ¬ M q j → r.2 q j = Ib q j) : ∀ (m : Nat) (w2 : Int) (I0 : IMem), (∀ q j, ¬ M q j → I0 q j = Ib q j) → f_R_understand_31 fu k_64 o0 m w2 I0 = some r → ∀ q j, ¬ M q j → r.2 q j = Ib q j := by
  intro m
  induction m with
  | zero => intro w2 I0 _ hf; cases hf
  | succ m hR_ =>
    intro w2 I0 fI0 hf
    replace hf : fb_R_understand_31 fu k_64 o0 (f_R_understand_31 fu k_64 o0 m) w2 I0 = some r := hf
    unfold fb_R_understand_31 at hf
    rcases of_ite hf with ⟨_, hf⟩ | ⟨_, hf⟩
    · rcases of_ite hf with ⟨_, hf⟩ | ⟨_, hf⟩
      · rcases of_ite hf with ⟨_, hf⟩ | ⟨_, hf⟩
        · exact hk_64 I0 fI0 hf
        · obtain ⟨u_2, I17, c_1, hf⟩ := of_zb hf
          have fI17 := fcz_t (fc_R_readLine M fu o0 I0 m_o0_6 m_o0_7 m_o0_8 m_o0_0c6 m_o0_0c7 m_o0_0c8 m_o0_0c10 m_o0_0c11 m_o0_5c1 m_o0_5c4 c_1) fI0
          obtain ⟨x19, -, hf⟩ := of_zl hf
          exact hR_ x19 I17 fI17 hf
      · exact hk_64 I0 fI0 hf
    · exact hk_64 I0 fI0 hf
theorem fc_R_understand (M : Nat → Nat → Prop) (fu : Nat) (o0 : Nat) (a1 : Int) (I0 : IMem) {r : Int × IMem} (m_o0_2 : ∀ j, M (o0 + 2) j) (m_o0_3 : ∀ j, M (o0 + 3) j) (m_o0_4 : ∀ j, M (o0 + 4) j) (m_o0_6 : ∀ j, M (o0 + 6) j) (m_o0_7 : ∀ j, M (o0 + 7) j) (m_o0_8 : ∀ j, M (o0 + 8) j) (m_o0_0c1 : M o0 1) (m_o0_0c5 : M o0 5) (m_o0_0c6 : M o0 6) (m_o0_0c7 : M o0 7) (m_o0_0c8 : M o0 8) (m_o0_0c9 : M o0 9) (m_o0_0c10 : M o0 10) (m_o0_0c11 : M o0 11) (m_o0_5c1 : M (o0 + 5) 1) (m_o0_5c4 : M (o0 + 5) 4) (hf : f_R_understand fu o0 a1 I0 = some r) : ∀ q j, ¬ M q j → r.2 q j = I0 q j := by
  unfold f_R_understand at hf
  obtain ⟨Ib, hIb⟩ : ∃ Ib : IMem, Ib = I0 := ⟨I0, rfl⟩
  rw [← hIb]
  have f0 : ∀ q j, ¬ M q j → I0 q j = Ib q j := fun q j _ => by rw [hIb]
  clear hIb
  obtain ⟨u_2, I2, c_1, hf⟩ := of_zb hf
  have fI2 := fcz_t (fc_R_scan M fu o0 I0 m_o0_2 m_o0_3 m_o0_4 m_o0_0c5 c_1) f0
  obtain ⟨u_4, I5, c_3, hf⟩ := of_zb hf
  have fI5 := fcz_t (fc_R_forget M fu o0 I2 m_o0_0c1 m_o0_0c10 m_o0_0c11 c_3) fI2
  obtain ⟨g_5, hf⟩ := of_zg hf
  obtain ⟨I7, fI7, hf⟩ := fcz_w m_o0_0c9 fI5 hf
  obtain ⟨u_7, I10, c_6, hf⟩ := of_zb hf
  have fI10 := fcz_t (fc_W_clear M fu (o0 + 5) I7 m_o0_5c1 m_o0_5c4 c_6) fI7
  obtain ⟨I12, fI12, hf⟩ := fcz_w m_o0_0c6 fI10 hf
  obtain ⟨u_9, I14, c_8, hf⟩ := of_zb hf
  have fI14 := fcz_t (fc_R_advance M fu o0 I12 m_o0_0c6 m_o0_0c7 m_o0_0c8 c_8) fI12
  refine fc_R_understand_31 M fu _ o0 m_o0_6 m_o0_7 m_o0_8 m_o0_0c6 m_o0_0c7 m_o0_0c8 m_o0_0c10 m_o0_0c11 m_o0_5c1 m_o0_5c4 ?_ fu 0 I14 fI14 hf
  · intro I20 fI20 hf
    rcases of_ite hf with ⟨_, hf⟩ | ⟨_, hf⟩
    · cases hf; exact fI20
    · cases hf; exact fI20
theorem fc_W_reckon_6 (M : Nat → Nat → Prop) (fu : Nat) {r : Int × IMem} {Ib : IMem} (k_378 : Int → IMem → Res) (o0 : Nat) (p2 : Int) (o3 : Nat) (n3 : Nat) (m_o0_4 : ∀ j, M (o0 + 4) j) (hk_378 : ∀ (z0 : Int) (I9 : IMem), (∀ q j, ¬ M q j → I9 q j = Ib q j) → k_378 z0 I9 = some r → ∀ q j, ¬ M q j → r.2 q j = Ib q j) : ∀ (m : Nat) (w4 : Int) (w5 : Int) (I0 : IMem), (∀ q j, ¬ M q j → I0 q j = Ib q j) → f_W_reckon_6 fu k_378 o0 p2 o3 n3 m w4 w5 I0 = some r → ∀ q j, ¬ M q j → r.2 q j = Ib q j := by
  intro m
  induction m with
  | zero => intro w4 w5 I0 _ hf; cases hf
  | succ m hR_ =>
    intro w4 w5 I0 fI0 hf
    replace hf : fb_W_reckon_6 fu k_378 o0 p2 o3 n3 (f_W_reckon_6 fu k_378 o0 p2 o3 n3 m) w4 w5 I0 = some r := hf
    unfold fb_W_reckon_6 at hf
    rcases of_ite hf with ⟨_, hf⟩ | ⟨_, hf⟩
    · exact hk_378 w4 I0 fI0 hf
    · rcases of_ite hf with ⟨_, hf⟩ | ⟨_, hf⟩
      · rcases of_ite hf with ⟨_, hf⟩ | ⟨_, hf⟩
        · obtain ⟨g_1, hf⟩ := of_zg hf
          obtain ⟨x1, -, hf⟩ := of_zl hf
          obtain ⟨x2, -, hf⟩ := of_zl hf
          obtain ⟨k3, ek3, hf⟩ := of_zj hf
          have hk3 : ∀ (x5 : Int) (I4 : IMem), (∀ q j, ¬ M q j → I4 q j = Ib q j) → k3 x5 I4 = some r → ∀ q j, ¬ M q j → r.2 q j = Ib q j := by
            intro x5 I4 fI4 hf
            subst ek3
            obtain ⟨x6, -, hf⟩ := of_zl hf
            rcases of_ite hf with ⟨_, hf⟩ | ⟨_, hf⟩
            · cases hf; exact fI4
            · rcases of_ite hf with ⟨_, hf⟩ | ⟨_, hf⟩
              · rcases of_ite hf with ⟨_, hf⟩ | ⟨_, hf⟩
                · obtain ⟨g_2, hf⟩ := of_zg hf
                  obtain ⟨x7, -, hf⟩ := of_zl hf
                  obtain ⟨x8, -, hf⟩ := of_zl hf
                  obtain ⟨g_3, hf⟩ := of_zg hf
                  obtain ⟨x9, -, hf⟩ := of_zl hf
                  obtain ⟨k10, ek10, hf⟩ := of_zj hf
                  have hk10 : ∀  (I11 : IMem), (∀ q j, ¬ M q j → I11 q j = Ib q j) → k10 I11 = some r → ∀ q j, ¬ M q j → r.2 q j = Ib q j := by
                    intro I11 fI11 hf
                    subst ek10
                    obtain ⟨x12, -, hf⟩ := of_zl hf
                    exact hR_ x6 x12 I11 fI11 hf
                  rcases of_ite hf with ⟨_, hf⟩ | ⟨_, hf⟩
                  · obtain ⟨g_4, hf⟩ := of_zg hf
                    obtain ⟨I14, fI14, hf⟩ := fcz_w (m_o0_4 _) fI4 hf
                    exact hk10 I14 fI14 hf
                  · rcases of_ite hf with ⟨_, hf⟩ | ⟨_, hf⟩
                    · obtain ⟨g_5, hf⟩ := of_zg hf
                      obtain ⟨I16, fI16, hf⟩ := fcz_w (m_o0_4 _) fI4 hf
                      exact hk10 I16 fI16 hf
                    · rcases of_ite hf with ⟨_, hf⟩ | ⟨_, hf⟩
                      · obtain ⟨g_6, hf⟩ := of_zg hf
                        obtain ⟨I18, fI18, hf⟩ := fcz_w (m_o0_4 _) fI4 hf
                        exact hk10 I18 fI18 hf
                      · rcases of_ite hf with ⟨_, hf⟩ | ⟨_, hf⟩
                        · obtain ⟨k20, ek20, hf⟩ := of_zj hf
                          have hk20 : ∀ (x22 : Int) (I21 : IMem), (∀ q j, ¬ M q j → I21 q j = Ib q j) → k20 x22 I21 = some r → ∀ q j, ¬ M q j → r.2 q j = Ib q j := by
                            intro x22 I21 fI21 hf
                            subst ek20
                            obtain ⟨g_7, hf⟩ := of_zg hf
                            obtain ⟨I23, fI23, hf⟩ := fcz_w (m_o0_4 _) fI21 hf
                            exact hk10 I23 fI23 hf
                          rcases of_ite hf with ⟨_, hf⟩ | ⟨_, hf⟩
                          · exact hk20 1 I4 fI4 hf
                          · exact hk20 0 I4 fI4 hf
                        · rcases of_ite hf with ⟨_, hf⟩ | ⟨_, hf⟩
                          · obtain ⟨k25, ek25, hf⟩ := of_zj hf
                            have hk25 : ∀ (x27 : Int) (I26 : IMem), (∀ q j, ¬ M q j → I26 q j = Ib q j) → k25 x27 I26 = some r → ∀ q j, ¬ M q j → r.2 q j = Ib q j := by
                              intro x27 I26 fI26 hf
                              subst ek25
                              obtain ⟨g_8, hf⟩ := of_zg hf
                              obtain ⟨I28, fI28, hf⟩ := fcz_w (m_o0_4 _) fI26 hf
                              exact hk10 I28 fI28 hf
                            rcases of_ite hf with ⟨_, hf⟩ | ⟨_, hf⟩
                            · exact hk25 1 I4 fI4 hf
                            · exact hk25 0 I4 fI4 hf
                          · rcases of_ite hf with ⟨_, hf⟩ | ⟨_, hf⟩
                            · obtain ⟨k30, ek30, hf⟩ := of_zj hf
                              have hk30 : ∀ (x32 : Int) (I31 : IMem), (∀ q j, ¬ M q j → I31 q j = Ib q j) → k30 x32 I31 = some r → ∀ q j, ¬ M q j → r.2 q j = Ib q j := by
                                intro x32 I31 fI31 hf
                                subst ek30
                                obtain ⟨g_9, hf⟩ := of_zg hf
                                obtain ⟨I33, fI33, hf⟩ := fcz_w (m_o0_4 _) fI31 hf
                                exact hk10 I33 fI33 hf
                              rcases of_ite hf with ⟨_, hf⟩ | ⟨_, hf⟩
                              · exact hk30 1 I4 fI4 hf
                              · exact hk30 0 I4 fI4 hf
                            · rcases of_ite hf with ⟨_, hf⟩ | ⟨_, hf⟩
                              · obtain ⟨k35, ek35, hf⟩ := of_zj hf
                                have hk35 : ∀ (x37 : Int) (I36 : IMem), (∀ q j, ¬ M q j → I36 q j = Ib q j) → k35 x37 I36 = some r → ∀ q j, ¬ M q j → r.2 q j = Ib q j := by
                                  intro x37 I36 fI36 hf
                                  subst ek35
                                  obtain ⟨g_10, hf⟩ := of_zg hf
                                  obtain ⟨I38, fI38, hf⟩ := fcz_w (m_o0_4 _) fI36 hf
                                  exact hk10 I38 fI38 hf
                                rcases of_ite hf with ⟨_, hf⟩ | ⟨_, hf⟩
                                · exact hk35 0 I4 fI4 hf
                                · obtain ⟨g_11, hf⟩ := of_zg hf
                                  exact hk35 (wdiv x7 x9) I4 fI4 hf
                              · rcases of_ite hf with ⟨_, hf⟩ | ⟨_, hf⟩
                                · obtain ⟨g_12, hf⟩ := of_zg hf
                                  obtain ⟨I40, fI40, hf⟩ := fcz_w (m_o0_4 _) fI4 hf
                                  exact hk10 I40 fI40 hf
                                · rcases of_ite hf with ⟨_, hf⟩ | ⟨_, hf⟩
                                  · obtain ⟨g_13, hf⟩ := of_zg hf
                                    obtain ⟨I42, fI42, hf⟩ := fcz_w (m_o0_4 _) fI4 hf
                                    exact hk10 I42 fI42 hf
                                  · rcases of_ite hf with ⟨_, hf⟩ | ⟨_, hf⟩
                                    · obtain ⟨g_14, hf⟩ := of_zg hf
                                      obtain ⟨I44, fI44, hf⟩ := fcz_w (m_o0_4 _) fI4 hf
                                      exact hk10 I44 fI44 hf
                                    · obtain ⟨k45, ek45, hf⟩ := of_zj hf
                                      have hk45 : ∀ (x47 : Int) (I46 : IMem), (∀ q j, ¬ M q j → I46 q j = Ib q j) → k45 x47 I46 = some r → ∀ q j, ¬ M q j → r.2 q j = Ib q j := by
                                        intro x47 I46 fI46 hf
                                        subst ek45
                                        obtain ⟨g_15, hf⟩ := of_zg hf
                                        obtain ⟨I48, fI48, hf⟩ := fcz_w (m_o0_4 _) fI46 hf
                                        exact hk10 I48 fI48 hf
                                      rcases of_ite hf with ⟨_, hf⟩ | ⟨_, hf⟩
                                      · exact hk45 x1 I4 fI4 hf
                                      · obtain ⟨g_16, hf⟩ := of_zg hf
                                        exact hk45 (I4 o3 x2.toNat) I4 fI4 hf
                · cases hf; exact fI4
              · cases hf; exact fI4
          rcases of_ite hf with ⟨_, hf⟩ | ⟨_, hf⟩
          · rcases of_ite hf with ⟨_, hf⟩ | ⟨_, hf⟩
            · exact hk3 0 I0 fI0 hf
            · exact hk3 ((-1)) I0 fI0 hf
          · exact hk3 1 I0 fI0 hf
        · exact hk_378 w4 I0 fI0 hf
      · exact hk_378 w4 I0 fI0 hf
theorem fc_W_reckon (M : Nat → Nat → Prop) (fu : Nat) (o0 : Nat) (a1 : Int) (a2 : Int) (o3 n3 : Nat) (I0 : IMem) {r : Int × IMem} (m_o0_4 : ∀ j, M (o0 + 4) j) (hf : f_W_reckon fu o0 a1 a2 o3 n3 I0 = some r) : ∀ q j, ¬ M q j → r.2 q j = I0 q j := by
  unfold f_W_reckon at hf
  obtain ⟨Ib, hIb⟩ : ∃ Ib : IMem, Ib = I0 := ⟨I0, rfl⟩
  rw [← hIb]
  have f0 : ∀ q j, ¬ M q j → I0 q j = Ib q j := fun q j _ => by rw [hIb]
  clear hIb
  refine fc_W_reckon_6 M fu _ o0 a2 o3 n3 m_o0_4 ?_ fu ((-1)) a1 I0 f0 hf
  · intro x50 I49 fI49 hf
    rcases of_ite hf with ⟨_, hf⟩ | ⟨_, hf⟩
    · cases hf; exact fI49
    · obtain ⟨g_1, hf⟩ := of_zg hf
      cases hf; exact fI49
theorem fc_W_value_2 (M : Nat → Nat → Prop) (fu : Nat) {r : Int × IMem} {Ib : IMem} (k_50 : Int → Int → IMem → Res) (o0 : Nat) (o1 : Nat) (n1 : Nat) (m_o0_4 : ∀ j, M (o0 + 4) j) (hk_50 : ∀ (z0 : Int) (z1 : Int) (I9 : IMem), (∀ q j, ¬ M q j → I9 q j = Ib q j) → k_50 z0 z1 I9 = some r → ∀ q j, ¬ M q j → r.2 q j = Ib q j) : ∀ (m : Nat) (w2 : Int) (I0 : IMem), (∀ q j, ¬ M q j → I0 q j = Ib q j) → f_W_value_2 fu k_50 o0 o1 n1 m w2 I0 = some r → ∀ q j, ¬ M q j → r.2 q j = Ib q j := by
  intro m
  induction m with
  | zero => intro w2 I0 _ hf; cases hf
  | succ m hR_ =>
    intro w2 I0 fI0 hf
    replace hf : fb_W_value_2 fu k_50 o0 o1 n1 (f_W_value_2 fu k_50 o0 o1 n1 m) w2 I0 = some r := hf
    unfold fb_W_value_2 at hf
    rcases of_ite hf with ⟨_, hf⟩ | ⟨_, hf⟩
    · rcases of_ite hf with ⟨_, hf⟩ | ⟨_, hf⟩
      · obtain ⟨g_1, hf⟩ := of_zg hf
        obtain ⟨x1, -, hf⟩ := of_zl hf
        obtain ⟨x2, -, hf⟩ := of_zl hf
        obtain ⟨g_2, hf⟩ := of_zg hf
        obtain ⟨x3, -, hf⟩ := of_zl hf
        rcases of_ite hf with ⟨_, hf⟩ | ⟨_, hf⟩
        · exact hk_50 w2 x1 I0 fI0 hf
        · obtain ⟨y4, I5, c_3, hf⟩ := of_zb hf
          have fI5 := fcz_t (fc_W_reckon M fu o0 x1 x3 o1 n1 I0 m_o0_4 c_3) fI0
          rcases of_ite hf with ⟨_, hf⟩ | ⟨_, hf⟩
          · obtain ⟨x7, -, hf⟩ := of_zl hf
            exact hR_ x7 I5 fI5 hf
          · exact hk_50 w2 x1 I5 fI5 hf
      · cases hf; exact fI0
    · cases hf; exact fI0
theorem fc_W_value (M : Nat → Nat → Prop) (fu : Nat) (o0 : Nat) (o1 n1 : Nat) (I0 : IMem) {r : Int × IMem} (m_o0_4 : ∀ j, M (o0 + 4) j) (hf : f_W_value fu o0 o1 n1 I0 = some r) : ∀ q j, ¬ M q j → r.2 q j = I0 q j := by
  unfold f_W_value at hf
  obtain ⟨Ib, hIb⟩ : ∃ Ib : IMem, Ib = I0 := ⟨I0, rfl⟩
  rw [← hIb]
  have f0 : ∀ q j, ¬ M q j → I0 q j = Ib q j := fun q j _ => by rw [hIb]
  clear hIb
  refine fc_W_value_2 M fu _ o0 o1 n1 m_o0_4 ?_ fu 0 I0 f0 hf
  · intro x9 x10 I8 fI8 hf
    obtain ⟨g_1, hf⟩ := of_zg hf
    obtain ⟨y11, I12, c_2, hf⟩ := of_zb hf
    have fI12 := fcz_t (fc_W_reckon M fu o0 (I8 (o0 + 2) x9.toNat) x10 o1 n1 I8 m_o0_4 c_2) fI8
    cases hf; exact fI12
