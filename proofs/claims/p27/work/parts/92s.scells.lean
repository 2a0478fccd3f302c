/-! cells of the class's thinking -/
theorem fcz_c {M : Nat → Nat → Prop} {I Ib : IMem} {o0 o1 : Nat} {sp dp n : Int} {k : IMem → Res} {r : Int × IMem} (hM : ∀ j, M o1 j) (hI : ∀ q i, ¬ M q i → I q i = Ib q i) (h : zc I o0 sp o1 dp n k = some r) : ∃ I1 : IMem, (∀ q i, ¬ M q i → I1 q i = Ib q i) ∧ k I1 = some r := by
  refine ⟨_, fun q i hq => ?_, h⟩
  rw [← hI q i hq]
  exact if_neg (fun (e : q = o1 ∧ dp.toNat ≤ i ∧ i < dp.toNat + n.toNat) => hq (e.1 ▸ hM i))
theorem fc_JA_fill_5 (M : Nat → Nat → Prop) (fu : Nat) {r : Int × IMem} {Ib : IMem} (o0 : Nat) (n0 : Nat) (p1 : Int) (p3 : Int) (m_o0_0 : ∀ j, M o0 j) : ∀ (m : Nat) (w2 : Int) (I0 : IMem), (∀ q j, ¬ M q j → I0 q j = Ib q j) → f_JA_fill_5 fu o0 n0 p1 p3 m w2 I0 = some r → ∀ q j, ¬ M q j → r.2 q j = Ib q j := by
  intro m
  induction m with
  | zero => intro w2 I0 _ hf; cases hf
  | succ m hR_ =>
    intro w2 I0 fI0 hf
    replace hf : fb_JA_fill_5 fu o0 n0 p1 p3 (f_JA_fill_5 fu o0 n0 p1 p3 m) w2 I0 = some r := hf
    unfold fb_JA_fill_5 at hf
    rcases of_ite hf with ⟨_, hf⟩ | ⟨_, hf⟩
    · obtain ⟨g_1, hf⟩ := of_zg hf
      obtain ⟨I2, fI2, hf⟩ := fcz_w (m_o0_0 _) fI0 hf
      obtain ⟨x3, -, hf⟩ := of_zl hf
      exact hR_ x3 I2 fI2 hf
    · cases hf; exact fI0
theorem fc_JA_fill (M : Nat → Nat → Prop) (fu : Nat) (o0 n0 : Nat) (a1 : Int) (I0 : IMem) {r : Int × IMem} (m_o0_0 : ∀ j, M o0 j) (hf : f_JA_fill fu o0 n0 a1 I0 = some r) : ∀ q j, ¬ M q j → r.2 q j = I0 q j := by
  unfold f_JA_fill at hf
  obtain ⟨Ib, hIb⟩ : ∃ Ib : IMem, Ib = I0 := ⟨I0, rfl⟩
  rw [← hIb]
  have f0 : ∀ q j, ¬ M q j → I0 q j = Ib q j := fun q j _ => by rw [hIb]
  clear hIb
  obtain ⟨x1, -, hf⟩ := of_zl hf
  refine fc_JA_fill_5 M fu o0 n0 a1 x1 m_o0_0 fu 0 I0 f0 hf
theorem fc_C_clear (M : Nat → Nat → Prop) (fu : Nat) (o0 : Nat) (a1 : Int) (I0 : IMem) {r : Int × IMem} (m_o0_1 : ∀ j, M (o0 + 1) j) (m_o0_0c7 : M o0 7) (m_o0_0c8 : M o0 8) (m_o0_0c9 : M o0 9) (m_o0_0c10 : M o0 10) (m_o0_0c11 : M o0 11) (hf : f_C_clear fu o0 a1 I0 = some r) : ∀ q j, ¬ M q j → r.2 q j = I0 q j := by
  unfold f_C_clear at hf
  obtain ⟨Ib, hIb⟩ : ∃ Ib : IMem, Ib = I0 := ⟨I0, rfl⟩
  rw [← hIb]
  have f0 : ∀ q j, ¬ M q j → I0 q j = Ib q j := fun q j _ => by rw [hIb]
  clear hIb
  obtain ⟨u_2, I2, c_1, hf⟩ := of_zb hf
  have fI2 := fcz_t (fc_JA_fill M fu (o0 + 1) 240 0 I0 m_o0_1 c_1) f0
  obtain ⟨I4, fI4, hf⟩ := fcz_w m_o0_0c7 fI2 hf
  obtain ⟨I5, fI5, hf⟩ := fcz_w m_o0_0c8 fI4 hf
  obtain ⟨I6, fI6, hf⟩ := fcz_w m_o0_0c9 fI5 hf
  obtain ⟨I7, fI7, hf⟩ := fcz_w m_o0_0c10 fI6 hf
  obtain ⟨I8, fI8, hf⟩ := fcz_w m_o0_0c11 fI7 hf
  cases hf; exact fI8
theorem fc_S_canTell (M : Nat → Nat → Prop) (fu : Nat) (a0 : Int) (a1 : Int) (I0 : IMem) {r : Int × IMem} (hf : f_S_canTell fu a0 a1 I0 = some r) : ∀ q j, ¬ M q j → r.2 q j = I0 q j := by
  unfold f_S_canTell at hf
  obtain ⟨Ib, hIb⟩ : ∃ Ib : IMem, Ib = I0 := ⟨I0, rfl⟩
  rw [← hIb]
  have f0 : ∀ q j, ¬ M q j → I0 q j = Ib q j := fun q j _ => by rw [hIb]
  clear hIb
  rcases of_ite hf with ⟨_, hf⟩ | ⟨_, hf⟩
  · cases hf; exact f0
  · rcases of_ite hf with ⟨_, hf⟩ | ⟨_, hf⟩
    · cases hf; exact f0
    · obtain ⟨g_1, hf⟩ := of_zg hf
      rcases of_ite hf with ⟨_, hf⟩ | ⟨_, hf⟩
      · cases hf; exact f0
      · obtain ⟨g_2, hf⟩ := of_zg hf
        rcases of_ite hf with ⟨_, hf⟩ | ⟨_, hf⟩
        · cases hf; exact f0
        · cases hf; exact f0
theorem fc_S_isLine (M : Nat → Nat → Prop) (fu : Nat) (a0 : Int) (I0 : IMem) {r : Int × IMem} (hf : f_S_isLine fu a0 I0 = some r) : ∀ q j, ¬ M q j → r.2 q j = I0 q j := by
  unfold f_S_isLine at hf
  obtain ⟨Ib, hIb⟩ : ∃ Ib : IMem, Ib = I0 := ⟨I0, rfl⟩
  rw [← hIb]
  have f0 : ∀ q j, ¬ M q j → I0 q j = Ib q j := fun q j _ => by rw [hIb]
  clear hIb
  rcases of_ite hf with ⟨_, hf⟩ | ⟨_, hf⟩
  · cases hf; exact f0
  · rcases of_ite hf with ⟨_, hf⟩ | ⟨_, hf⟩
    · cases hf; exact f0
    · cases hf; exact f0
theorem fc_W_copyFrom (M : Nat → Nat → Prop) (fu : Nat) (o0 : Nat) (o1 : Nat) (I0 : IMem) {r : Int × IMem} (m_o0_1 : ∀ j, M (o0 + 1) j) (m_o0_2 : ∀ j, M (o0 + 2) j) (m_o0_3 : ∀ j, M (o0 + 3) j) (m_o0_0c1 : M o0 1) (m_o0_0c4 : M o0 4) (hf : f_W_copyFrom fu o0 o1 I0 = some r) : ∀ q j, ¬ M q j → r.2 q j = I0 q j := by
  unfold f_W_copyFrom at hf
  obtain ⟨Ib, hIb⟩ : ∃ Ib : IMem, Ib = I0 := ⟨I0, rfl⟩
  rw [← hIb]
  have f0 : ∀ q j, ¬ M q j → I0 q j = Ib q j := fun q j _ => by rw [hIb]
  clear hIb
  obtain ⟨I1, fI1, hf⟩ := fcz_w m_o0_0c1 f0 hf
  obtain ⟨I2, fI2, hf⟩ := fcz_w m_o0_0c4 fI1 hf
  obtain ⟨g_1, hf⟩ := of_zg hf
  obtain ⟨I3, fI3, hf⟩ := fcz_c m_o0_1 fI2 hf
  obtain ⟨g_2, hf⟩ := of_zg hf
  obtain ⟨I4, fI4, hf⟩ := fcz_c m_o0_2 fI3 hf
  obtain ⟨g_3, hf⟩ := of_zg hf
  obtain ⟨I5, fI5, hf⟩ := fcz_c m_o0_3 fI4 hf
  cases hf; exact fI5
theorem fc_L_shortest_4 (M : Nat → Nat → Prop) (fu : Nat) {r : Int × IMem} {Ib : IMem} (o0 : Nat) : ∀ (m : Nat) (w1 : Int) (w2 : Int) (I0 : IMem), (∀ q j, ¬ M q j → I0 q j = Ib q j) → f_L_shortest_4 fu o0 m w1 w2 I0 = some r → ∀ q j, ¬ M q j → r.2 q j = Ib q j := by
  intro m
  induction m with
  | zero => intro w1 w2 I0 _ hf; cases hf
  | succ m hR_ =>
    intro w1 w2 I0 fI0 hf
    replace hf : fb_L_shortest_4 fu o0 (f_L_shortest_4 fu o0 m) w1 w2 I0 = some r := hf
    unfold fb_L_shortest_4 at hf
    rcases of_ite hf with ⟨_, hf⟩ | ⟨_, hf⟩
    · obtain ⟨g_1, hf⟩ := of_zg hf
      obtain ⟨g_2, hf⟩ := of_zg hf
      obtain ⟨k1, ek1, hf⟩ := of_zj hf
      have hk1 : ∀ (x3 : Int) (I2 : IMem), (∀ q j, ¬ M q j → I2 q j = Ib q j) → k1 x3 I2 = some r → ∀ q j, ¬ M q j → r.2 q j = Ib q j := by
        intro x3 I2 fI2 hf
        subst ek1
        obtain ⟨x4, -, hf⟩ := of_zl hf
        exact hR_ x3 x4 I2 fI2 hf
      rcases of_ite hf with ⟨_, hf⟩ | ⟨_, hf⟩
      · exact hk1 w2 I0 fI0 hf
      · exact hk1 w1 I0 fI0 hf
    · cases hf; exact fI0
theorem fc_L_shortest (M : Nat → Nat → Prop) (fu : Nat) (o0 : Nat) (I0 : IMem) {r : Int × IMem} (hf : f_L_shortest fu o0 I0 = some r) : ∀ q j, ¬ M q j → r.2 q j = I0 q j := by
  unfold f_L_shortest at hf
  obtain ⟨Ib, hIb⟩ : ∃ Ib : IMem, Ib = I0 := ⟨I0, rfl⟩
  rw [← hIb]
  have f0 : ∀ q j, ¬ M q j → I0 q j = Ib q j := fun q j _ => by rw [hIb]
  clear hIb
  refine fc_L_shortest_4 M fu o0 fu 0 1 I0 f0 hf
theorem fc_H_lineFor (M : Nat → Nat → Prop) (fu : Nat) (o0 : Nat) (a1 : Int) (a2 : Int) (I0 : IMem) {r : Int × IMem} (m_o0_39 : ∀ j, M (o0 + 39) j) (m_o0_13c5 : M (o0 + 13) 5) (m_o0_13c6 : M (o0 + 13) 6) (m_o0_13c7 : M (o0 + 13) 7) (m_o0_13c8 : M (o0 + 13) 8) (hf : f_H_lineFor fu o0 a1 a2 I0 = some r) : ∀ q j, ¬ M q j → r.2 q j = I0 q j := by
  unfold f_H_lineFor at hf
  obtain ⟨Ib, hIb⟩ : ∃ Ib : IMem, Ib = I0 := ⟨I0, rfl⟩
  rw [← hIb]
  have f0 : ∀ q j, ¬ M q j → I0 q j = Ib q j := fun q j _ => by rw [hIb]
  clear hIb
  rcases of_ite hf with ⟨_, hf⟩ | ⟨_, hf⟩
  · obtain ⟨I1, fI1, hf⟩ := fcz_w m_o0_13c7 f0 hf
    obtain ⟨I2, fI2, hf⟩ := fcz_w m_o0_13c8 fI1 hf
    obtain ⟨y3, I4, c_1, hf⟩ := of_zb hf
    have fI4 := fcz_t (fc_L_shortest M fu (o0 + 6) I2 c_1) fI2
    obtain ⟨I6, fI6, hf⟩ := fcz_w m_o0_13c5 fI4 hf
    obtain ⟨I7, fI7, hf⟩ := fcz_w m_o0_13c6 fI6 hf
    obtain ⟨y8, I9, c_2, hf⟩ := of_zb hf
    have fI9 := fcz_t (fc_W_value M fu (o0 + 35) (o0 + 13) 16 I7 m_o0_39 c_2) fI7
    cases hf; exact fI9
  · rcases of_ite hf with ⟨_, hf⟩ | ⟨_, hf⟩
    · cases hf; exact f0
    · cases hf; exact f0
theorem fc_L_append (M : Nat → Nat → Prop) (fu : Nat) (o0 : Nat) (a1 : Int) (o2 n2 : Nat) (a3 : Int) (I0 : IMem) {r : Int × IMem} (m_o0_1 : ∀ j, M (o0 + 1) j) (m_o0_2 : ∀ j, M (o0 + 2) j) (hf : f_L_append fu o0 a1 o2 n2 a3 I0 = some r) : ∀ q j, ¬ M q j → r.2 q j = I0 q j := by
  unfold f_L_append at hf
  obtain ⟨Ib, hIb⟩ : ∃ Ib : IMem, Ib = I0 := ⟨I0, rfl⟩
  rw [← hIb]
  have f0 : ∀ q j, ¬ M q j → I0 q j = Ib q j := fun q j _ => by rw [hIb]
  clear hIb
  obtain ⟨y1, I2, c_1, hf⟩ := of_zb hf
  have fI2 := fcz_t (fc_S_isLine M fu a1 I0 c_1) f0
  rcases of_ite hf with ⟨_, hf⟩ | ⟨_, hf⟩
  · cases hf; exact fI2
  · obtain ⟨g_2, hf⟩ := of_zg hf
    rcases of_ite hf with ⟨_, hf⟩ | ⟨_, hf⟩
    · rcases of_ite hf with ⟨_, hf⟩ | ⟨_, hf⟩
      · cases hf; exact fI2
      · rcases of_ite hf with ⟨_, hf⟩ | ⟨_, hf⟩
        · cases hf; exact fI2
        · obtain ⟨g_3, hf⟩ := of_zg hf
          obtain ⟨x4, -, hf⟩ := of_zl hf
          obtain ⟨g_4, hf⟩ := of_zg hf
          obtain ⟨I5, fI5, hf⟩ := fcz_c m_o0_1 fI2 hf
          obtain ⟨g_5, hf⟩ := of_zg hf
          obtain ⟨g_6, hf⟩ := of_zg hf
          obtain ⟨I6, fI6, hf⟩ := fcz_w (m_o0_2 _) fI5 hf
          cases hf; exact fI6
    · cases hf; exact fI2
theorem fc_H_enter (M : Nat → Nat → Prop) (fu : Nat) (o0 : Nat) (a1 : Int) (a2 : Int) (a3 : Int) (I0 : IMem) {r : Int × IMem} (m_o0_7 : ∀ j, M (o0 + 7) j) (m_o0_8 : ∀ j, M (o0 + 8) j) (m_o0_39 : ∀ j, M (o0 + 39) j) (m_o0_0c7 : M o0 7) (m_o0_10c6 : M (o0 + 10) 6) (m_o0_13c5 : M (o0 + 13) 5) (m_o0_13c6 : M (o0 + 13) 6) (m_o0_13c7 : M (o0 + 13) 7) (m_o0_13c8 : M (o0 + 13) 8) (m_o0_14c0 : M (o0 + 14) 0) (m_o0_14c1 : M (o0 + 14) 1) (m_o0_14c2 : M (o0 + 14) 2) (m_o0_14c3 : M (o0 + 14) 3) (hf : f_H_enter fu o0 a1 a2 a3 I0 = some r) : ∀ q j, ¬ M q j → r.2 q j = I0 q j := by
  unfold f_H_enter at hf
  obtain ⟨Ib, hIb⟩ : ∃ Ib : IMem, Ib = I0 := ⟨I0, rfl⟩
  rw [← hIb]
  have f0 : ∀ q j, ¬ M q j → I0 q j = Ib q j := fun q j _ => by rw [hIb]
  clear hIb
  obtain ⟨I1, fI1, hf⟩ := fcz_w m_o0_14c0 f0 hf
  obtain ⟨I2, fI2, hf⟩ := fcz_w m_o0_14c1 fI1 hf
  obtain ⟨I3, fI3, hf⟩ := fcz_w m_o0_14c2 fI2 hf
  obtain ⟨I4, fI4, hf⟩ := fcz_w m_o0_14c3 fI3 hf
  obtain ⟨I5, fI5, hf⟩ := fcz_w m_o0_0c7 fI4 hf
  obtain ⟨y6, I7, c_1, hf⟩ := of_zb hf
  have fI7 := fcz_t (fc_H_lineFor M fu o0 a2 a3 I5 m_o0_39 m_o0_13c5 m_o0_13c6 m_o0_13c7 m_o0_13c8 c_1) fI5
  obtain ⟨y9, I10, c_2, hf⟩ := of_zb hf
  have fI10 := fcz_t (fc_L_append M fu (o0 + 6) y6 (o0 + 14) 6 0 I7 m_o0_7 m_o0_8 c_2) fI7
  rcases of_ite hf with ⟨_, hf⟩ | ⟨_, hf⟩
  · obtain ⟨I12, fI12, hf⟩ := fcz_w m_o0_10c6 fI10 hf
    cases hf; exact fI12
  · cases hf; exact fI10
theorem fc_H_lawInForce (M : Nat → Nat → Prop) (fu : Nat) (o0 : Nat) (I0 : IMem) {r : Int × IMem} (hf : f_H_lawInForce fu o0 I0 = some r) : ∀ q j, ¬ M q j → r.2 q j = I0 q j := by
  unfold f_H_lawInForce at hf
  obtain ⟨Ib, hIb⟩ : ∃ Ib : IMem, Ib = I0 := ⟨I0, rfl⟩
  rw [← hIb]
  have f0 : ∀ q j, ¬ M q j → I0 q j = Ib q j := fun q j _ => by rw [hIb]
  clear hIb
  obtain ⟨x1, -, hf⟩ := of_zl hf
  rcases of_ite hf with ⟨_, hf⟩ | ⟨_, hf⟩
  · cases hf; exact f0
  · rcases of_ite hf with ⟨_, hf⟩ | ⟨_, hf⟩
    · obtain ⟨g_1, hf⟩ := of_zg hf
      cases hf; exact f0
    · cases hf; exact f0
theorem fc_L_countOf (M : Nat → Nat → Prop) (fu : Nat) (o0 : Nat) (a1 : Int) (I0 : IMem) {r : Int × IMem} (hf : f_L_countOf fu o0 a1 I0 = some r) : ∀ q j, ¬ M q j → r.2 q j = I0 q j := by
  unfold f_L_countOf at hf
  obtain ⟨Ib, hIb⟩ : ∃ Ib : IMem, Ib = I0 := ⟨I0, rfl⟩
  rw [← hIb]
  have f0 : ∀ q j, ¬ M q j → I0 q j = Ib q j := fun q j _ => by rw [hIb]
  clear hIb
  obtain ⟨y1, I2, c_1, hf⟩ := of_zb hf
  have fI2 := fcz_t (fc_S_isLine M fu a1 I0 c_1) f0
  rcases of_ite hf with ⟨_, hf⟩ | ⟨_, hf⟩
  · cases hf; exact fI2
  · obtain ⟨g_2, hf⟩ := of_zg hf
    obtain ⟨y4, I5, c_3, hf⟩ := of_zb hf
    have fI5 := fcz_t (fc_JM_min M fu (I2 (o0 + 2) a1.toNat) 40 I2 c_3) fI2
    cases hf; exact fI5
theorem fc_L_get (M : Nat → Nat → Prop) (fu : Nat) (o0 : Nat) (a1 : Int) (a2 : Int) (I0 : IMem) {r : Int × IMem} (hf : f_L_get fu o0 a1 a2 I0 = some r) : ∀ q j, ¬ M q j → r.2 q j = I0 q j := by
  unfold f_L_get at hf
  obtain ⟨Ib, hIb⟩ : ∃ Ib : IMem, Ib = I0 := ⟨I0, rfl⟩
  rw [← hIb]
  have f0 : ∀ q j, ¬ M q j → I0 q j = Ib q j := fun q j _ => by rw [hIb]
  clear hIb
  obtain ⟨x1, -, hf⟩ := of_zl hf
  rcases of_ite hf with ⟨_, hf⟩ | ⟨_, hf⟩
  · cases hf; exact f0
  · rcases of_ite hf with ⟨_, hf⟩ | ⟨_, hf⟩
    · obtain ⟨g_1, hf⟩ := of_zg hf
      cases hf; exact f0
    · cases hf; exact f0
theorem fc_H_weigh (M : Nat → Nat → Prop) (fu : Nat) (o0 : Nat) (a1 : Int) (a2 : Int) (a3 : Int) (I0 : IMem) {r : Int × IMem} (m_o0_13c7 : M (o0 + 13) 7) (m_o0_13c8 : M (o0 + 13) 8) (m_o0_13c9 : M (o0 + 13) 9) (m_o0_13c10 : M (o0 + 13) 10) (m_o0_13c11 : M (o0 + 13) 11) (m_o0_13c12 : M (o0 + 13) 12) (m_o0_13c13 : M (o0 + 13) 13) (m_o0_13c14 : M (o0 + 13) 14) (m_o0_13c15 : M (o0 + 13) 15) (hf : f_H_weigh fu o0 a1 a2 a3 I0 = some r) : ∀ q j, ¬ M q j → r.2 q j = I0 q j := by
  unfold f_H_weigh at hf
  obtain ⟨Ib, hIb⟩ : ∃ Ib : IMem, Ib = I0 := ⟨I0, rfl⟩
  rw [← hIb]
  have f0 : ∀ q j, ¬ M q j → I0 q j = Ib q j := fun q j _ => by rw [hIb]
  clear hIb
  obtain ⟨x1, -, hf⟩ := of_zl hf
  obtain ⟨x2, -, hf⟩ := of_zl hf
  obtain ⟨y3, I4, c_1, hf⟩ := of_zb hf
  have fI4 := fcz_t (fc_L_get M fu (o0 + 6) a1 2 I0 c_1) f0
  obtain ⟨I6, fI6, hf⟩ := fcz_w m_o0_13c7 fI4 hf
  obtain ⟨I7, fI7, hf⟩ := fcz_w m_o0_13c9 fI6 hf
  obtain ⟨I8, fI8, hf⟩ := fcz_w m_o0_13c10 fI7 hf
  obtain ⟨I9, fI9, hf⟩ := fcz_w m_o0_13c11 fI8 hf
  obtain ⟨y10, I11, c_2, hf⟩ := of_zb hf
  have fI11 := fcz_t (fc_L_get M fu (o0 + 6) a1 5 I9 c_2) fI9
  obtain ⟨I13, fI13, hf⟩ := fcz_w m_o0_13c12 fI11 hf
  obtain ⟨y14, I15, c_3, hf⟩ := of_zb hf
  have fI15 := fcz_t (fc_L_get M fu (o0 + 6) a1 4 I13 c_3) fI13
  obtain ⟨I17, fI17, hf⟩ := fcz_w m_o0_13c13 fI15 hf
  obtain ⟨y18, I19, c_4, hf⟩ := of_zb hf
  have fI19 := fcz_t (fc_L_get M fu (o0 + 6) a1 3 I17 c_4) fI17
  obtain ⟨I21, fI21, hf⟩ := fcz_w m_o0_13c8 fI19 hf
  obtain ⟨I22, fI22, hf⟩ := fcz_w m_o0_13c14 fI21 hf
  obtain ⟨y23, I24, c_5, hf⟩ := of_zb hf
  have fI24 := fcz_t (fc_L_countOf M fu (o0 + 6) x1 I22 c_5) fI22
  obtain ⟨I26, fI26, hf⟩ := fcz_w m_o0_13c15 fI24 hf
  cases hf; exact fI26
theorem fc_C_sit (M : Nat → Nat → Prop) (fu : Nat) (o0 : Nat) (a1 : Int) (a2 : Int) (a3 : Int) (a4 : Int) (I0 : IMem) {r : Int × IMem} (m_o0_1 : ∀ j, M (o0 + 1) j) (m_o0_2 : ∀ j, M (o0 + 2) j) (m_o0_3 : ∀ j, M (o0 + 3) j) (m_o0_0c7 : M o0 7) (m_o0_0c8 : M o0 8) (m_o0_0c10 : M o0 10) (m_o0_0c11 : M o0 11) (hf : f_C_sit fu o0 a1 a2 a3 a4 I0 = some r) : ∀ q j, ¬ M q j → r.2 q j = I0 q j := by
  unfold f_C_sit at hf
  obtain ⟨Ib, hIb⟩ : ∃ Ib : IMem, Ib = I0 := ⟨I0, rfl⟩
  rw [← hIb]
  have f0 : ∀ q j, ¬ M q j → I0 q j = Ib q j := fun q j _ => by rw [hIb]
  clear hIb
  rcases of_ite hf with ⟨_, hf⟩ | ⟨_, hf⟩
  · cases hf; exact f0
  · rcases of_ite hf with ⟨_, hf⟩ | ⟨_, hf⟩
    · rcases of_ite hf with ⟨_, hf⟩ | ⟨_, hf⟩
      · cases hf; exact f0
      · rcases of_ite hf with ⟨_, hf⟩ | ⟨_, hf⟩
        · obtain ⟨g_1, hf⟩ := of_zg hf
          obtain ⟨I1, fI1, hf⟩ := fcz_w (m_o0_1 _) f0 hf
          obtain ⟨x3, -, hf⟩ := of_zl hf
          obtain ⟨g_2, hf⟩ := of_zg hf
          obtain ⟨I2, fI2, hf⟩ := fcz_w (m_o0_2 _) fI1 hf
          obtain ⟨x5, -, hf⟩ := of_zl hf
          obtain ⟨g_3, hf⟩ := of_zg hf
          obtain ⟨I4, fI4, hf⟩ := fcz_w (m_o0_3 _) fI2 hf
          obtain ⟨I6, fI6, hf⟩ := fcz_w m_o0_0c8 fI4 hf
          obtain ⟨I7, fI7, hf⟩ := fcz_w m_o0_0c7 fI6 hf
          obtain ⟨k8, ek8, hf⟩ := of_zj hf
          have hk8 : ∀ (x10 : Int) (I9 : IMem), (∀ q j, ¬ M q j → I9 q j = Ib q j) → k8 x10 I9 = some r → ∀ q j, ¬ M q j → r.2 q j = Ib q j := by
            intro x10 I9 fI9 hf
            subst ek8
            obtain ⟨g_4, hf⟩ := of_zg hf
            obtain ⟨I11, fI11, hf⟩ := fcz_w m_o0_0c10 fI9 hf
            obtain ⟨k13, ek13, hf⟩ := of_zj hf
            have hk13 : ∀ (x15 : Int) (I14 : IMem), (∀ q j, ¬ M q j → I14 q j = Ib q j) → k13 x15 I14 = some r → ∀ q j, ¬ M q j → r.2 q j = Ib q j := by
              intro x15 I14 fI14 hf
              subst ek13
              obtain ⟨g_5, hf⟩ := of_zg hf
              obtain ⟨I16, fI16, hf⟩ := fcz_w m_o0_0c11 fI14 hf
              cases hf; exact fI16
            rcases of_ite hf with ⟨_, hf⟩ | ⟨_, hf⟩
            · rcases of_ite hf with ⟨_, hf⟩ | ⟨_, hf⟩
              · exact hk13 0 I11 fI11 hf
              · exact hk13 1 I11 fI11 hf
            · exact hk13 1 I11 fI11 hf
          rcases of_ite hf with ⟨_, hf⟩ | ⟨_, hf⟩
          · rcases of_ite hf with ⟨_, hf⟩ | ⟨_, hf⟩
            · exact hk8 1 I7 fI7 hf
            · exact hk8 0 I7 fI7 hf
          · exact hk8 1 I7 fI7 hf
        · cases hf; exact f0
    · cases hf; exact f0
theorem fc_C_stands (M : Nat → Nat → Prop) (fu : Nat) (o0 : Nat) (a1 : Int) (I0 : IMem) {r : Int × IMem} (hf : f_C_stands fu o0 a1 I0 = some r) : ∀ q j, ¬ M q j → r.2 q j = I0 q j := by
  unfold f_C_stands at hf
  obtain ⟨Ib, hIb⟩ : ∃ Ib : IMem, Ib = I0 := ⟨I0, rfl⟩
  rw [← hIb]
  have f0 : ∀ q j, ¬ M q j → I0 q j = Ib q j := fun q j _ => by rw [hIb]
  clear hIb
  rcases of_ite hf with ⟨_, hf⟩ | ⟨_, hf⟩
  · cases hf; exact f0
  · rcases of_ite hf with ⟨_, hf⟩ | ⟨_, hf⟩
    · obtain ⟨g_1, hf⟩ := of_zg hf
      rcases of_ite hf with ⟨_, hf⟩ | ⟨_, hf⟩
      · cases hf; exact f0
      · cases hf; exact f0
    · cases hf; exact f0
theorem fc_H_draw (M : Nat → Nat → Prop) (fu : Nat) (o0 : Nat) (a1 : Int) (I0 : IMem) {r : Int × IMem} (m_o0_0c6 : M o0 6) (hf : f_H_draw fu o0 a1 I0 = some r) : ∀ q j, ¬ M q j → r.2 q j = I0 q j := by
  unfold f_H_draw at hf
  obtain ⟨Ib, hIb⟩ : ∃ Ib : IMem, Ib = I0 := ⟨I0, rfl⟩
  rw [← hIb]
  have f0 : ∀ q j, ¬ M q j → I0 q j = Ib q j := fun q j _ => by rw [hIb]
  clear hIb
  obtain ⟨I1, fI1, hf⟩ := fcz_w m_o0_0c6 f0 hf
  rcases of_ite hf with ⟨_, hf⟩ | ⟨_, hf⟩
  · obtain ⟨g_1, hf⟩ := of_zg hf
    cases hf; exact fI1
  · cases hf; exact fI1
theorem fc_H_pastAt (M : Nat → Nat → Prop) (fu : Nat) (a0 : Int) (I0 : IMem) {r : Int × IMem} (hf : f_H_pastAt fu a0 I0 = some r) : ∀ q j, ¬ M q j → r.2 q j = I0 q j := by
  unfold f_H_pastAt at hf
  obtain ⟨Ib, hIb⟩ : ∃ Ib : IMem, Ib = I0 := ⟨I0, rfl⟩
  rw [← hIb]
  have f0 : ∀ q j, ¬ M q j → I0 q j = Ib q j := fun q j _ => by rw [hIb]
  clear hIb
  obtain ⟨y1, I2, c_1, hf⟩ := of_zb hf
  have fI2 := fcz_t (fc_JM_floorMod M fu a0 60 I0 c_1) f0
  cases hf; exact fI2
theorem fc_H_close (M : Nat → Nat → Prop) (fu : Nat) (o0 : Nat) (a1 : Int) (a2 : Int) (I0 : IMem) {r : Int × IMem} (m_o0_12 : ∀ j, M (o0 + 12) j) (m_o0_0c6 : M o0 6) (m_o0_10c0 : M (o0 + 10) 0) (m_o0_10c1 : M (o0 + 10) 1) (m_o0_10c3 : M (o0 + 10) 3) (m_o0_10c4 : M (o0 + 10) 4) (m_o0_11c0 : M (o0 + 11) 0) (m_o0_11c1 : M (o0 + 11) 1) (hf : f_H_close fu o0 a1 a2 I0 = some r) : ∀ q j, ¬ M q j → r.2 q j = I0 q j := by
  unfold f_H_close at hf
  obtain ⟨Ib, hIb⟩ : ∃ Ib : IMem, Ib = I0 := ⟨I0, rfl⟩
  rw [← hIb]
  have f0 : ∀ q j, ¬ M q j → I0 q j = Ib q j := fun q j _ => by rw [hIb]
  clear hIb
  obtain ⟨I1, fI1, hf⟩ := fcz_w m_o0_10c1 f0 hf
  obtain ⟨I2, fI2, hf⟩ := fcz_w m_o0_10c3 fI1 hf
  obtain ⟨k3, ek3, hf⟩ := of_zj hf
  have hk3 : ∀  (I4 : IMem), (∀ q j, ¬ M q j → I4 q j = Ib q j) → k3 I4 = some r → ∀ q j, ¬ M q j → r.2 q j = Ib q j := by
    intro I4 fI4 hf
    subst ek3
    obtain ⟨I5, fI5, hf⟩ := fcz_w m_o0_11c0 fI4 hf
    obtain ⟨I6, fI6, hf⟩ := fcz_w m_o0_11c1 fI5 hf
    obtain ⟨y7, I8, c_1, hf⟩ := of_zb hf
    have fI8 := fcz_t (fc_H_pastAt M fu (I6 (o0 + 10) 0) I6 c_1) fI6
    obtain ⟨g_2, hf⟩ := of_zg hf
    obtain ⟨I10, fI10, hf⟩ := fcz_w (m_o0_12 _) fI8 hf
    obtain ⟨x12, -, hf⟩ := of_zl hf
    obtain ⟨g_3, hf⟩ := of_zg hf
    obtain ⟨I11, fI11, hf⟩ := fcz_w (m_o0_12 _) fI10 hf
    obtain ⟨x14, -, hf⟩ := of_zl hf
    obtain ⟨g_4, hf⟩ := of_zg hf
    obtain ⟨I13, fI13, hf⟩ := fcz_w (m_o0_12 _) fI11 hf
    obtain ⟨I15, fI15, hf⟩ := fcz_w m_o0_10c0 fI13 hf
    cases hf; exact fI15
  rcases of_ite hf with ⟨_, hf⟩ | ⟨_, hf⟩
  · obtain ⟨y16, I17, c_5, hf⟩ := of_zb hf
    have fI17 := fcz_t (fc_H_draw M fu o0 1000 I2 m_o0_0c6 c_5) fI2
    rcases of_ite hf with ⟨_, hf⟩ | ⟨_, hf⟩
    · obtain ⟨I19, fI19, hf⟩ := fcz_w m_o0_10c3 fI17 hf
      obtain ⟨I20, fI20, hf⟩ := fcz_w m_o0_10c4 fI19 hf
      exact hk3 I20 fI20 hf
    · exact hk3 I17 fI17 hf
  · exact hk3 I2 fI2 hf
theorem fc_H_note (M : Nat → Nat → Prop) (fu : Nat) (o0 : Nat) (a1 : Int) (a2 : Int) (a3 : Int) (I0 : IMem) {r : Int × IMem} (m_o0_10 : ∀ j, M (o0 + 10) j) (m_o0_11 : ∀ j, M (o0 + 11) j) (hf : f_H_note fu o0 a1 a2 a3 I0 = some r) : ∀ q j, ¬ M q j → r.2 q j = I0 q j := by
  unfold f_H_note at hf
  obtain ⟨Ib, hIb⟩ : ∃ Ib : IMem, Ib = I0 := ⟨I0, rfl⟩
  rw [← hIb]
  have f0 : ∀ q j, ¬ M q j → I0 q j = Ib q j := fun q j _ => by rw [hIb]
  clear hIb
  rcases of_ite hf with ⟨_, hf⟩ | ⟨_, hf⟩
  · cases hf; exact f0
  · rcases of_ite hf with ⟨_, hf⟩ | ⟨_, hf⟩
    · rcases of_ite hf with ⟨_, hf⟩ | ⟨_, hf⟩
      · cases hf; exact f0
      · rcases of_ite hf with ⟨_, hf⟩ | ⟨_, hf⟩
        · cases hf; exact f0
        · obtain ⟨y1, I2, c_1, hf⟩ := of_zb hf
          have fI2 := fcz_t (fc_L_get M fu (o0 + 6) a2 4 I0 c_1) f0
          obtain ⟨x4, -, hf⟩ := of_zl hf
          obtain ⟨g_2, hf⟩ := of_zg hf
          obtain ⟨g_3, hf⟩ := of_zg hf
          obtain ⟨I5, fI5, hf⟩ := fcz_w (m_o0_10 _) fI2 hf
          obtain ⟨x6, -, hf⟩ := of_zl hf
          obtain ⟨g_4, hf⟩ := of_zg hf
          obtain ⟨g_5, hf⟩ := of_zg hf
          obtain ⟨I7, fI7, hf⟩ := fcz_w (m_o0_10 _) fI5 hf
          obtain ⟨x8, -, hf⟩ := of_zl hf
          obtain ⟨g_6, hf⟩ := of_zg hf
          obtain ⟨y9, I10, c_7, hf⟩ := of_zb hf
          have fI10 := fcz_t (fc_JM_max M fu (I7 (o0 + 10) x8.toNat) y1 I7 c_7) fI7
          obtain ⟨x13, -, hf⟩ := of_zl hf
          obtain ⟨g_8, hf⟩ := of_zg hf
          obtain ⟨I12, fI12, hf⟩ := fcz_w (m_o0_10 _) fI10 hf
          obtain ⟨I14, fI14, hf⟩ := fcz_w (m_o0_10 2) fI12 hf
          obtain ⟨y15, I16, c_9, hf⟩ := of_zb hf
          have fI16 := fcz_t (fc_L_get M fu (o0 + 6) a2 0 I14 c_9) fI14
          obtain ⟨x19, -, hf⟩ := of_zl hf
          obtain ⟨g_10, hf⟩ := of_zg hf
          obtain ⟨I18, fI18, hf⟩ := fcz_w (m_o0_11 _) fI16 hf
          obtain ⟨x21, -, hf⟩ := of_zl hf
          obtain ⟨g_11, hf⟩ := of_zg hf
          obtain ⟨I20, fI20, hf⟩ := fcz_w (m_o0_11 _) fI18 hf
          cases hf; exact fI20
    · cases hf; exact f0
theorem fc_L_put (M : Nat → Nat → Prop) (fu : Nat) (o0 : Nat) (a1 : Int) (a2 : Int) (a3 : Int) (I0 : IMem) {r : Int × IMem} (m_o0_1 : ∀ j, M (o0 + 1) j) (hf : f_L_put fu o0 a1 a2 a3 I0 = some r) : ∀ q j, ¬ M q j → r.2 q j = I0 q j := by
  unfold f_L_put at hf
  obtain ⟨Ib, hIb⟩ : ∃ Ib : IMem, Ib = I0 := ⟨I0, rfl⟩
  rw [← hIb]
  have f0 : ∀ q j, ¬ M q j → I0 q j = Ib q j := fun q j _ => by rw [hIb]
  clear hIb
  obtain ⟨x1, -, hf⟩ := of_zl hf
  rcases of_ite hf with ⟨_, hf⟩ | ⟨_, hf⟩
  · cases hf; exact f0
  · rcases of_ite hf with ⟨_, hf⟩ | ⟨_, hf⟩
    · obtain ⟨g_1, hf⟩ := of_zg hf
      obtain ⟨I2, fI2, hf⟩ := fcz_w (m_o0_1 _) f0 hf
      cases hf; exact fI2
    · cases hf; exact f0
theorem fc_L_rearmostSitting_9 (M : Nat → Nat → Prop) (fu : Nat) {r : Int × IMem} {Ib : IMem} (o1 : Nat) (n1 : Nat) (p2 : Int) : ∀ (m : Nat) (w3 : Int) (I0 : IMem), (∀ q j, ¬ M q j → I0 q j = Ib q j) → f_L_rearmostSitting_9 fu o1 n1 p2 m w3 I0 = some r → ∀ q j, ¬ M q j → r.2 q j = Ib q j := by
  intro m
  induction m with
  | zero => intro w3 I0 _ hf; cases hf
  | succ m hR_ =>
    intro w3 I0 fI0 hf
    replace hf : fb_L_rearmostSitting_9 fu o1 n1 p2 (f_L_rearmostSitting_9 fu o1 n1 p2 m) w3 I0 = some r := hf
    unfold fb_L_rearmostSitting_9 at hf
    rcases of_ite hf with ⟨_, hf⟩ | ⟨_, hf⟩
    · cases hf; exact fI0
    · obtain ⟨x2, -, hf⟩ := of_zl hf
      obtain ⟨k3, ek3, hf⟩ := of_zj hf
      have hk3 : ∀  (I4 : IMem), (∀ q j, ¬ M q j → I4 q j = Ib q j) → k3 I4 = some r → ∀ q j, ¬ M q j → r.2 q j = Ib q j := by
        intro I4 fI4 hf
        subst ek3
        obtain ⟨x5, -, hf⟩ := of_zl hf
        exact hR_ x5 I4 fI4 hf
      rcases of_ite hf with ⟨_, hf⟩ | ⟨_, hf⟩
      · obtain ⟨g_1, hf⟩ := of_zg hf
        rcases of_ite hf with ⟨_, hf⟩ | ⟨_, hf⟩
        · cases hf; exact fI0
        · obtain ⟨g_2, hf⟩ := of_zg hf
          rcases of_ite hf with ⟨_, hf⟩ | ⟨_, hf⟩
          · cases hf; exact fI0
          · exact hk3 I0 fI0 hf
      · exact hk3 I0 fI0 hf
theorem fc_L_rearmostSitting (M : Nat → Nat → Prop) (fu : Nat) (o0 : Nat) (o1 n1 : Nat) (a2 : Int) (I0 : IMem) {r : Int × IMem} (hf : f_L_rearmostSitting fu o0 o1 n1 a2 I0 = some r) : ∀ q j, ¬ M q j → r.2 q j = I0 q j := by
  unfold f_L_rearmostSitting at hf
  obtain ⟨Ib, hIb⟩ : ∃ Ib : IMem, Ib = I0 := ⟨I0, rfl⟩
  rw [← hIb]
  have f0 : ∀ q j, ¬ M q j → I0 q j = Ib q j := fun q j _ => by rw [hIb]
  clear hIb
  obtain ⟨g_1, hf⟩ := of_zg hf
  obtain ⟨x1, -, hf⟩ := of_zl hf
  refine fc_L_rearmostSitting_9 M fu o1 n1 a2 fu x1 I0 f0 hf
theorem fc_L_depart_21 (M : Nat → Nat → Prop) (fu : Nat) {r : Int × IMem} {Ib : IMem} (k_159 : Int → IMem → Res) (o0 : Nat) (o1 : Nat) (n1 : Nat) (p2 : Int) (p3 : Int) (m_o0_1 : ∀ j, M (o0 + 1) j) (hk_159 : ∀ (z0 : Int) (I9 : IMem), (∀ q j, ¬ M q j → I9 q j = Ib q j) → k_159 z0 I9 = some r → ∀ q j, ¬ M q j → r.2 q j = Ib q j) : ∀ (m : Nat) (w4 : Int) (w5 : Int) (I0 : IMem), (∀ q j, ¬ M q j → I0 q j = Ib q j) → f_L_depart_21 fu k_159 o0 o1 n1 p2 p3 m w4 w5 I0 = some r → ∀ q j, ¬ M q j → r.2 q j = Ib q j := by
  intro m
  induction m with
  | zero => intro w4 w5 I0 _ hf; cases hf
  | succ m hR_ =>
    intro w4 w5 I0 fI0 hf
    replace hf : fb_L_depart_21 fu k_159 o0 o1 n1 p2 p3 (f_L_depart_21 fu k_159 o0 o1 n1 p2 p3 m) w4 w5 I0 = some r := hf
    unfold fb_L_depart_21 at hf
    obtain ⟨g_1, hf⟩ := of_zg hf
    rcases of_ite hf with ⟨_, hf⟩ | ⟨_, hf⟩
    · rcases of_ite hf with ⟨_, hf⟩ | ⟨_, hf⟩
      · obtain ⟨x4, -, hf⟩ := of_zl hf
        obtain ⟨k5, ek5, hf⟩ := of_zj hf
        have hk5 : ∀ (x7 : Int) (I6 : IMem), (∀ q j, ¬ M q j → I6 q j = Ib q j) → k5 x7 I6 = some r → ∀ q j, ¬ M q j → r.2 q j = Ib q j := by
          intro x7 I6 fI6 hf
          subst ek5
          obtain ⟨k8, ek8, hf⟩ := of_zj hf
          have hk8 : ∀ (x10 : Int) (I9 : IMem), (∀ q j, ¬ M q j → I9 q j = Ib q j) → k8 x10 I9 = some r → ∀ q j, ¬ M q j → r.2 q j = Ib q j := by
            intro x10 I9 fI9 hf
            subst ek8
            obtain ⟨x11, -, hf⟩ := of_zl hf
            exact hR_ x10 x11 I9 fI9 hf
          obtain ⟨k12, ek12, hf⟩ := of_zj hf
          have hk12 : ∀  (I13 : IMem), (∀ q j, ¬ M q j → I13 q j = Ib q j) → k12 I13 = some r → ∀ q j, ¬ M q j → r.2 q j = Ib q j := by
            intro I13 fI13 hf
            subst ek12
            obtain ⟨x14, -, hf⟩ := of_zl hf
            obtain ⟨g_2, hf⟩ := of_zg hf
            obtain ⟨I15, fI15, hf⟩ := fcz_c m_o0_1 fI13 hf
            obtain ⟨y16, I17, c_3, hf⟩ := of_zb hf
            have fI17 := fcz_t (fc_L_get M fu o0 x14 4 I15 c_3) fI15
            obtain ⟨u_5, I20, c_4, hf⟩ := of_zb hf
            have fI20 := fcz_t (fc_L_put M fu o0 x14 4 (wr32 (y16 + 1)) I17 m_o0_1 c_4) fI17
            obtain ⟨y22, I23, c_6, hf⟩ := of_zb hf
            have fI23 := fcz_t (fc_L_get M fu o0 x14 5 I20 c_6) fI20
            obtain ⟨k25, ek25, hf⟩ := of_zj hf
            have hk25 : ∀ (x27 : Int) (I26 : IMem), (∀ q j, ¬ M q j → I26 q j = Ib q j) → k25 x27 I26 = some r → ∀ q j, ¬ M q j → r.2 q j = Ib q j := by
              intro x27 I26 fI26 hf
              subst ek25
              obtain ⟨u_8, I29, c_7, hf⟩ := of_zb hf
              have fI29 := fcz_t (fc_L_put M fu o0 x14 5 (wr32 (y22 + x27)) I26 m_o0_1 c_7) fI26
              obtain ⟨x31, -, hf⟩ := of_zl hf
              exact hk8 x31 I29 fI29 hf
            rcases of_ite hf with ⟨_, hf⟩ | ⟨_, hf⟩
            · exact hk25 1 I23 fI23 hf
            · exact hk25 0 I23 fI23 hf
          rcases of_ite hf with ⟨_, hf⟩ | ⟨_, hf⟩
          · exact hk12 I6 fI6 hf
          · rcases of_ite hf with ⟨_, hf⟩ | ⟨_, hf⟩
            · exact hk12 I6 fI6 hf
            · exact hk8 w4 I6 fI6 hf
        rcases of_ite hf with ⟨_, hf⟩ | ⟨_, hf⟩
        · obtain ⟨g_9, hf⟩ := of_zg hf
          exact hk5 (I0 o1 x4.toNat) I0 fI0 hf
        · exact hk5 0 I0 fI0 hf
      · exact hk_159 w4 I0 fI0 hf
    · exact hk_159 w4 I0 fI0 hf
theorem fc_L_depart_2 (M : Nat → Nat → Prop) (fu : Nat) {r : Int × IMem} {Ib : IMem} (o0 : Nat) (o1 : Nat) (n1 : Nat) (m_o0_1 : ∀ j, M (o0 + 1) j) (m_o0_2 : ∀ j, M (o0 + 2) j) : ∀ (m : Nat) (w2 : Int) (I0 : IMem), (∀ q j, ¬ M q j → I0 q j = Ib q j) → f_L_depart_2 fu o0 o1 n1 m w2 I0 = some r → ∀ q j, ¬ M q j → r.2 q j = Ib q j := by
  intro m
  induction m with
  | zero => intro w2 I0 _ hf; cases hf
  | succ m hR_ =>
    intro w2 I0 fI0 hf
    replace hf : fb_L_depart_2 fu o0 o1 n1 (f_L_depart_2 fu o0 o1 n1 m) w2 I0 = some r := hf
    unfold fb_L_depart_2 at hf
    rcases of_ite hf with ⟨_, hf⟩ | ⟨_, hf⟩
    · obtain ⟨y1, I2, c_1, hf⟩ := of_zb hf
      have fI2 := fcz_t (fc_L_rearmostSitting M fu o0 o1 n1 w2 I0 c_1) fI0
      refine fc_L_depart_21 M fu _ o0 o1 n1 w2 y1 m_o0_1 ?_ fu 0 0 I2 fI2 hf
      · intro x33 I32 fI32 hf
        obtain ⟨g_2, hf⟩ := of_zg hf
        obtain ⟨I34, fI34, hf⟩ := fcz_w (m_o0_2 _) fI32 hf
        obtain ⟨x35, -, hf⟩ := of_zl hf
        exact hR_ x35 I34 fI34 hf
    · cases hf; exact fI0
theorem fc_L_depart (M : Nat → Nat → Prop) (fu : Nat) (o0 : Nat) (o1 n1 : Nat) (I0 : IMem) {r : Int × IMem} (m_o0_1 : ∀ j, M (o0 + 1) j) (m_o0_2 : ∀ j, M (o0 + 2) j) (hf : f_L_depart fu o0 o1 n1 I0 = some r) : ∀ q j, ¬ M q j → r.2 q j = I0 q j := by
  unfold f_L_depart at hf
  obtain ⟨Ib, hIb⟩ : ∃ Ib : IMem, Ib = I0 := ⟨I0, rfl⟩
  rw [← hIb]
  have f0 : ∀ q j, ¬ M q j → I0 q j = Ib q j := fun q j _ => by rw [hIb]
  clear hIb
  refine fc_L_depart_2 M fu o0 o1 n1 m_o0_1 m_o0_2 fu 0 I0 f0 hf
theorem fc_C_leave_9 (M : Nat → Nat → Prop) (fu : Nat) {r : Int × IMem} {Ib : IMem} (k_46 : IMem → Res) (o0 : Nat) (o1 : Nat) (p2 : Int) (m_o1_10 : ∀ j, M (o1 + 10) j) (m_o1_11 : ∀ j, M (o1 + 11) j) (hk_46 : ∀ (I9 : IMem), (∀ q j, ¬ M q j → I9 q j = Ib q j) → k_46 I9 = some r → ∀ q j, ¬ M q j → r.2 q j = Ib q j) : ∀ (m : Nat) (w3 : Int) (I0 : IMem), (∀ q j, ¬ M q j → I0 q j = Ib q j) → f_C_leave_9 fu k_46 o0 o1 p2 m w3 I0 = some r → ∀ q j, ¬ M q j → r.2 q j = Ib q j := by
  intro m
  induction m with
  | zero => intro w3 I0 _ hf; cases hf
  | succ m hR_ =>
    intro w3 I0 fI0 hf
    replace hf : fb_C_leave_9 fu k_46 o0 o1 p2 (f_C_leave_9 fu k_46 o0 o1 p2 m) w3 I0 = some r := hf
    unfold fb_C_leave_9 at hf
    rcases of_ite hf with ⟨_, hf⟩ | ⟨_, hf⟩
    · rcases of_ite hf with ⟨_, hf⟩ | ⟨_, hf⟩
      · obtain ⟨g_1, hf⟩ := of_zg hf
        obtain ⟨g_2, hf⟩ := of_zg hf
        obtain ⟨u_4, I3, c_3, hf⟩ := of_zb hf
        have fI3 := fcz_t (fc_H_note M fu o1 w3 (I0 (o0 + 2) w3.toNat) (I0 (o0 + 3) w3.toNat) I0 m_o1_10 m_o1_11 c_3) fI0
        obtain ⟨x5, -, hf⟩ := of_zl hf
        exact hR_ x5 I3 fI3 hf
      · exact hk_46 I0 fI0 hf
    · exact hk_46 I0 fI0 hf
theorem fc_C_leave_59 (M : Nat → Nat → Prop) (fu : Nat) {r : Int × IMem} {Ib : IMem} (k_103 : IMem → Res) (o0 : Nat) (o1 : Nat) (p2 : Int) (m_o1_7 : ∀ j, M (o1 + 7) j) (m_o1_8 : ∀ j, M (o1 + 8) j) (m_o1_10c6 : M (o1 + 10) 6) (hk_103 : ∀ (I9 : IMem), (∀ q j, ¬ M q j → I9 q j = Ib q j) → k_103 I9 = some r → ∀ q j, ¬ M q j → r.2 q j = Ib q j) : ∀ (m : Nat) (w3 : Int) (I0 : IMem), (∀ q j, ¬ M q j → I0 q j = Ib q j) → f_C_leave_59 fu k_103 o0 o1 p2 m w3 I0 = some r → ∀ q j, ¬ M q j → r.2 q j = Ib q j := by
  intro m
  induction m with
  | zero => intro w3 I0 _ hf; cases hf
  | succ m hR_ =>
    intro w3 I0 fI0 hf
    replace hf : fb_C_leave_59 fu k_103 o0 o1 p2 (f_C_leave_59 fu k_103 o0 o1 p2 m) w3 I0 = some r := hf
    unfold fb_C_leave_59 at hf
    rcases of_ite hf with ⟨_, hf⟩ | ⟨_, hf⟩
    · obtain ⟨y10, I11, c_1, hf⟩ := of_zb hf
      have fI11 := fcz_t (fc_L_append M fu (o1 + 6) 0 (o0 + 4) 864 (wr32 (w3 * 6)) I0 m_o1_7 m_o1_8 c_1) fI0
      obtain ⟨k13, ek13, hf⟩ := of_zj hf
      have hk13 : ∀  (I14 : IMem), (∀ q j, ¬ M q j → I14 q j = Ib q j) → k13 I14 = some r → ∀ q j, ¬ M q j → r.2 q j = Ib q j := by
        intro I14 fI14 hf
        subst ek13
        obtain ⟨x15, -, hf⟩ := of_zl hf
        exact hR_ x15 I14 fI14 hf
      rcases of_ite hf with ⟨_, hf⟩ | ⟨_, hf⟩
      · obtain ⟨I16, fI16, hf⟩ := fcz_w m_o1_10c6 fI11 hf
        exact hk13 I16 fI16 hf
      · exact hk13 I11 fI11 hf
    · exact hk_103 I0 fI0 hf
theorem fc_C_leave (M : Nat → Nat → Prop) (fu : Nat) (o0 : Nat) (o1 : Nat) (I0 : IMem) {r : Int × IMem} (m_o1_7 : ∀ j, M (o1 + 7) j) (m_o1_8 : ∀ j, M (o1 + 8) j) (m_o1_10 : ∀ j, M (o1 + 10) j) (m_o1_11 : ∀ j, M (o1 + 11) j) (m_o1_12 : ∀ j, M (o1 + 12) j) (m_o1_0c6 : M o1 6) (hf : f_C_leave fu o0 o1 I0 = some r) : ∀ q j, ¬ M q j → r.2 q j = I0 q j := by
  unfold f_C_leave at hf
  obtain ⟨Ib, hIb⟩ : ∃ Ib : IMem, Ib = I0 := ⟨I0, rfl⟩
  rw [← hIb]
  have f0 : ∀ q j, ¬ M q j → I0 q j = Ib q j := fun q j _ => by rw [hIb]
  clear hIb
  obtain ⟨x1, -, hf⟩ := of_zl hf
  refine fc_C_leave_9 M fu _ o0 o1 x1 m_o1_10 m_o1_11 ?_ fu 0 I0 f0 hf
  · intro I6 fI6 hf
    obtain ⟨u_2, I8, c_1, hf⟩ := of_zb hf
    have fI8 := fcz_t (fc_L_depart M fu (o1 + 6) (o0 + 1) 240 I6 m_o1_7 m_o1_8 c_1) fI6
    refine fc_C_leave_59 M fu _ o0 o1 x1 m_o1_7 m_o1_8 (m_o1_10 6) ?_ fu 0 I8 fI8 hf
    · intro I17 fI17 hf
      obtain ⟨u_4, I19, c_3, hf⟩ := of_zb hf
      have fI19 := fcz_t (fc_H_close M fu o1 (I17 o0 7) (I17 o0 8) I17 m_o1_12 m_o1_0c6 (m_o1_10 0) (m_o1_10 1) (m_o1_10 3) (m_o1_10 4) (m_o1_11 0) (m_o1_11 1) c_3) fI17
      cases hf; exact fI19
theorem fc_C_findOut (M : Nat → Nat → Prop) (fu : Nat) (o0 : Nat) (o1 : Nat) (a2 : Int) (I0 : IMem) {r : Int × IMem} (m_o0_1 : ∀ j, M (o0 + 1) j) (m_o0_4 : ∀ j, M (o0 + 4) j) (m_o0_0c9 : M o0 9) (m_o1_10c5 : M (o1 + 10) 5) (hf : f_C_findOut fu o0 o1 a2 I0 = some r) : ∀ q j, ¬ M q j → r.2 q j = I0 q j := by
  unfold f_C_findOut at hf
  obtain ⟨Ib, hIb⟩ : ∃ Ib : IMem, Ib = I0 := ⟨I0, rfl⟩
  rw [← hIb]
  have f0 : ∀ q j, ¬ M q j → I0 q j = Ib q j := fun q j _ => by rw [hIb]
  clear hIb
  obtain ⟨x1, -, hf⟩ := of_zl hf
  rcases of_ite hf with ⟨_, hf⟩ | ⟨_, hf⟩
  · cases hf; exact f0
  · rcases of_ite hf with ⟨_, hf⟩ | ⟨_, hf⟩
    · rcases of_ite hf with ⟨_, hf⟩ | ⟨_, hf⟩
      · cases hf; exact f0
      · rcases of_ite hf with ⟨_, hf⟩ | ⟨_, hf⟩
        · cases hf; exact f0
        · obtain ⟨g_1, hf⟩ := of_zg hf
          obtain ⟨I2, fI2, hf⟩ := fcz_w (m_o0_1 _) f0 hf
          obtain ⟨g_2, hf⟩ := of_zg hf
          obtain ⟨I3, fI3, hf⟩ := fcz_c m_o0_4 fI2 hf
          obtain ⟨x4, -, hf⟩ := of_zl hf
          obtain ⟨g_3, hf⟩ := of_zg hf
          obtain ⟨x6, -, hf⟩ := of_zl hf
          obtain ⟨g_4, hf⟩ := of_zg hf
          obtain ⟨I5, fI5, hf⟩ := fcz_w (m_o0_4 _) fI3 hf
          obtain ⟨I7, fI7, hf⟩ := fcz_w m_o0_0c9 fI5 hf
          obtain ⟨I8, fI8, hf⟩ := fcz_w m_o1_10c5 fI7 hf
          cases hf; exact fI8
    · cases hf; exact f0
theorem fc_C_fits (M : Nat → Nat → Prop) (fu : Nat) (o0 : Nat) (o1 : Nat) (a2 : Int) (I0 : IMem) {r : Int × IMem} (hf : f_C_fits fu o0 o1 a2 I0 = some r) : ∀ q j, ¬ M q j → r.2 q j = I0 q j := by
  unfold f_C_fits at hf
  obtain ⟨Ib, hIb⟩ : ∃ Ib : IMem, Ib = I0 := ⟨I0, rfl⟩
  rw [← hIb]
  have f0 : ∀ q j, ¬ M q j → I0 q j = Ib q j := fun q j _ => by rw [hIb]
  clear hIb
  obtain ⟨y1, I2, c_1, hf⟩ := of_zb hf
  have fI2 := fcz_t (fc_C_stands M fu o0 a2 I0 c_1) f0
  rcases of_ite hf with ⟨_, hf⟩ | ⟨_, hf⟩
  · cases hf; exact fI2
  · rcases of_ite hf with ⟨_, hf⟩ | ⟨_, hf⟩
    · obtain ⟨y4, I5, c_2, hf⟩ := of_zb hf
      have fI5 := fcz_t (fc_L_get M fu (o1 + 6) a2 2 I2 c_2) fI2
      rcases of_ite hf with ⟨_, hf⟩ | ⟨_, hf⟩
      · cases hf; exact fI5
      · obtain ⟨y7, I8, c_3, hf⟩ := of_zb hf
        have fI8 := fcz_t (fc_L_get M fu (o1 + 6) a2 3 I5 c_3) fI5
        obtain ⟨k10, ek10, hf⟩ := of_zj hf
        have hk10 : ∀  (I11 : IMem), (∀ q j, ¬ M q j → I11 q j = Ib q j) → k10 I11 = some r → ∀ q j, ¬ M q j → r.2 q j = Ib q j := by
          intro I11 fI11 hf
          subst ek10
          rcases of_ite hf with ⟨_, hf⟩ | ⟨_, hf⟩
          · rcases of_ite hf with ⟨_, hf⟩ | ⟨_, hf⟩
            · cases hf; exact fI11
            · cases hf; exact fI11
          · cases hf; exact fI11
        rcases of_ite hf with ⟨_, hf⟩ | ⟨_, hf⟩
        · rcases of_ite hf with ⟨_, hf⟩ | ⟨_, hf⟩
          · cases hf; exact fI8
          · exact hk10 I8 fI8 hf
        · exact hk10 I8 fI8 hf
    · cases hf; exact fI2
theorem fc_C_mostPassed_17 (M : Nat → Nat → Prop) (fu : Nat) {r : Int × IMem} {Ib : IMem} (o0 : Nat) (o1 : Nat) (p2 : Int) : ∀ (m : Nat) (w3 : Int) (w4 : Int) (w5 : Int) (I0 : IMem), (∀ q j, ¬ M q j → I0 q j = Ib q j) → f_C_mostPassed_17 fu o0 o1 p2 m w3 w4 w5 I0 = some r → ∀ q j, ¬ M q j → r.2 q j = Ib q j := by
  intro m
  induction m with
  | zero => intro w3 w4 w5 I0 _ hf; cases hf
  | succ m hR_ =>
    intro w3 w4 w5 I0 fI0 hf
    replace hf : fb_C_mostPassed_17 fu o0 o1 p2 (f_C_mostPassed_17 fu o0 o1 p2 m) w3 w4 w5 I0 = some r := hf
    unfold fb_C_mostPassed_17 at hf
    rcases of_ite hf with ⟨_, hf⟩ | ⟨_, hf⟩
    · rcases of_ite hf with ⟨_, hf⟩ | ⟨_, hf⟩
      · rcases of_ite hf with ⟨_, hf⟩ | ⟨_, hf⟩
        · obtain ⟨g_1, hf⟩ := of_zg hf
          obtain ⟨y3, I4, c_2, hf⟩ := of_zb hf
          have fI4 := fcz_t (fc_L_get M fu (o1 + 6) (I0 (o0 + 5) w5.toNat) 5 I0 c_2) fI0
          obtain ⟨k6, ek6, hf⟩ := of_zj hf
          have hk6 : ∀ (x8 : Int) (x9 : Int) (I7 : IMem), (∀ q j, ¬ M q j → I7 q j = Ib q j) → k6 x8 x9 I7 = some r → ∀ q j, ¬ M q j → r.2 q j = Ib q j := by
            intro x8 x9 I7 fI7 hf
            subst ek6
            obtain ⟨x10, -, hf⟩ := of_zl hf
            exact hR_ x8 x9 x10 I7 fI7 hf
          rcases of_ite hf with ⟨_, hf⟩ | ⟨_, hf⟩
          · obtain ⟨g_3, hf⟩ := of_zg hf
            obtain ⟨y11, I12, c_4, hf⟩ := of_zb hf
            have fI12 := fcz_t (fc_C_fits M fu o0 o1 (I4 (o0 + 5) w5.toNat) I4 c_4) fI4
            rcases of_ite hf with ⟨_, hf⟩ | ⟨_, hf⟩
            · exact hk6 w3 w4 I12 fI12 hf
            · obtain ⟨g_5, hf⟩ := of_zg hf
              obtain ⟨x14, -, hf⟩ := of_zl hf
              exact hk6 y3 x14 I12 fI12 hf
          · exact hk6 w3 w4 I4 fI4 hf
        · cases hf; exact fI0
      · cases hf; exact fI0
    · cases hf; exact fI0
theorem fc_C_mostPassed (M : Nat → Nat → Prop) (fu : Nat) (o0 : Nat) (o1 : Nat) (I0 : IMem) {r : Int × IMem} (hf : f_C_mostPassed fu o0 o1 I0 = some r) : ∀ q j, ¬ M q j → r.2 q j = I0 q j := by
  unfold f_C_mostPassed at hf
  obtain ⟨Ib, hIb⟩ : ∃ Ib : IMem, Ib = I0 := ⟨I0, rfl⟩
  rw [← hIb]
  have f0 : ∀ q j, ¬ M q j → I0 q j = Ib q j := fun q j _ => by rw [hIb]
  clear hIb
  obtain ⟨x1, -, hf⟩ := of_zl hf
  obtain ⟨x2, -, hf⟩ := of_zl hf
  refine fc_C_mostPassed_17 M fu o0 o1 x1 fu x2 ((-1)) 0 I0 f0 hf
theorem fc_L_isPlainAndTrue (M : Nat → Nat → Prop) (fu : Nat) (o0 : Nat) (a1 : Int) (I0 : IMem) {r : Int × IMem} (hf : f_L_isPlainAndTrue fu o0 a1 I0 = some r) : ∀ q j, ¬ M q j → r.2 q j = I0 q j := by
  unfold f_L_isPlainAndTrue at hf
  obtain ⟨Ib, hIb⟩ : ∃ Ib : IMem, Ib = I0 := ⟨I0, rfl⟩
  rw [← hIb]
  have f0 : ∀ q j, ¬ M q j → I0 q j = Ib q j := fun q j _ => by rw [hIb]
  clear hIb
  obtain ⟨y1, I2, c_1, hf⟩ := of_zb hf
  have fI2 := fcz_t (fc_L_get M fu o0 a1 3 I0 c_1) f0
  rcases of_ite hf with ⟨_, hf⟩ | ⟨_, hf⟩
  · obtain ⟨y4, I5, c_2, hf⟩ := of_zb hf
    have fI5 := fcz_t (fc_L_get M fu o0 a1 2 I2 c_2) fI2
    obtain ⟨y7, I8, c_3, hf⟩ := of_zb hf
    have fI8 := fcz_t (fc_L_get M fu o0 a1 1 I5 c_3) fI5
    rcases of_ite hf with ⟨_, hf⟩ | ⟨_, hf⟩
    · cases hf; exact fI8
    · cases hf; exact fI8
  · cases hf; exact fI2
theorem fc_C_partThatFits (M : Nat → Nat → Prop) (fu : Nat) (o0 : Nat) (o1 : Nat) (a2 : Int) (I0 : IMem) {r : Int × IMem} (hf : f_C_partThatFits fu o0 o1 a2 I0 = some r) : ∀ q j, ¬ M q j → r.2 q j = I0 q j := by
  unfold f_C_partThatFits at hf
  obtain ⟨Ib, hIb⟩ : ∃ Ib : IMem, Ib = I0 := ⟨I0, rfl⟩
  rw [← hIb]
  have f0 : ∀ q j, ¬ M q j → I0 q j = Ib q j := fun q j _ => by rw [hIb]
  clear hIb
  obtain ⟨y1, I2, c_1, hf⟩ := of_zb hf
  have fI2 := fcz_t (fc_L_get M fu (o1 + 6) a2 1 I0 c_1) f0
  rcases of_ite hf with ⟨_, hf⟩ | ⟨_, hf⟩
  · obtain ⟨y4, I5, c_2, hf⟩ := of_zb hf
    have fI5 := fcz_t (fc_C_stands M fu o0 a2 I2 c_2) fI2
    rcases of_ite hf with ⟨_, hf⟩ | ⟨_, hf⟩
    · cases hf; exact fI5
    · obtain ⟨y7, I8, c_3, hf⟩ := of_zb hf
      have fI8 := fcz_t (fc_L_isPlainAndTrue M fu (o1 + 6) a2 I5 c_3) fI5
      rcases of_ite hf with ⟨_, hf⟩ | ⟨_, hf⟩
      · cases hf; exact fI8
      · obtain ⟨k10, ek10, hf⟩ := of_zj hf
        have hk10 : ∀ (x12 : Int) (I11 : IMem), (∀ q j, ¬ M q j → I11 q j = Ib q j) → k10 x12 I11 = some r → ∀ q j, ¬ M q j → r.2 q j = Ib q j := by
          intro x12 I11 fI11 hf
          subst ek10
          rcases of_ite hf with ⟨_, hf⟩ | ⟨_, hf⟩
          · cases hf; exact fI11
          · obtain ⟨y13, I14, c_4, hf⟩ := of_zb hf
            have fI14 := fcz_t (fc_JM_max M fu x12 (wr32 (y1 - x12)) I11 c_4) fI11
            rcases of_ite hf with ⟨_, hf⟩ | ⟨_, hf⟩
            · rcases of_ite hf with ⟨_, hf⟩ | ⟨_, hf⟩
              · cases hf; exact fI14
              · cases hf; exact fI14
            · cases hf; exact fI14
        rcases of_ite hf with ⟨_, hf⟩ | ⟨_, hf⟩
        · exact hk10 0 I8 fI8 hf
        · rcases of_ite hf with ⟨_, hf⟩ | ⟨_, hf⟩
          · exact hk10 0 I8 fI8 hf
          · obtain ⟨g_5, hf⟩ := of_zg hf
            exact hk10 (I8 (o1 + 3) y1.toNat) I8 fI8 hf
  · cases hf; exact fI2
theorem fc_C_partOne_2 (M : Nat → Nat → Prop) (fu : Nat) {r : Int × IMem} {Ib : IMem} (k_71 : Int → Int → IMem → Res) (o0 : Nat) (o1 : Nat) (m_o1_15_40 : ∀ q, o1 + 15 ≤ q → q < o1 + 40 → ∀ j, M q j) (m_o1_13c7 : M (o1 + 13) 7) (m_o1_13c8 : M (o1 + 13) 8) (m_o1_13c9 : M (o1 + 13) 9) (m_o1_13c10 : M (o1 + 13) 10) (m_o1_13c11 : M (o1 + 13) 11) (m_o1_13c12 : M (o1 + 13) 12) (m_o1_13c13 : M (o1 + 13) 13) (m_o1_13c14 : M (o1 + 13) 14) (m_o1_13c15 : M (o1 + 13) 15) (hk_71 : ∀ (z0 : Int) (z1 : Int) (I9 : IMem), (∀ q j, ¬ M q j → I9 q j = Ib q j) → k_71 z0 z1 I9 = some r → ∀ q j, ¬ M q j → r.2 q j = Ib q j) : ∀ (m : Nat) (w2 : Int) (I0 : IMem), (∀ q j, ¬ M q j → I0 q j = Ib q j) → f_C_partOne_2 fu k_71 o0 o1 m w2 I0 = some r → ∀ q j, ¬ M q j → r.2 q j = Ib q j := by
  intro m
  induction m with
  | zero => intro w2 I0 _ hf; cases hf
  | succ m hR_ =>
    intro w2 I0 fI0 hf
    replace hf : fb_C_partOne_2 fu k_71 o0 o1 (f_C_partOne_2 fu k_71 o0 o1 m) w2 I0 = some r := hf
    unfold fb_C_partOne_2 at hf
    rcases of_ite hf with ⟨_, hf⟩ | ⟨_, hf⟩
    · rcases of_ite hf with ⟨_, hf⟩ | ⟨_, hf⟩
      · rcases of_ite hf with ⟨_, hf⟩ | ⟨_, hf⟩
        · obtain ⟨g_1, hf⟩ := of_zg hf
          obtain ⟨x1, -, hf⟩ := of_zl hf
          obtain ⟨y2, I3, c_2, hf⟩ := of_zb hf
          have fI3 := fcz_t (fc_C_partThatFits M fu o0 o1 x1 I0 c_2) fI0
          obtain ⟨k5, ek5, hf⟩ := of_zj hf
          have hk5 : ∀  (I6 : IMem), (∀ q j, ¬ M q j → I6 q j = Ib q j) → k5 I6 = some r → ∀ q j, ¬ M q j → r.2 q j = Ib q j := by
            intro I6 fI6 hf
            subst ek5
            obtain ⟨x7, -, hf⟩ := of_zl hf
            exact hR_ x7 I6 fI6 hf
          rcases of_ite hf with ⟨_, hf⟩ | ⟨_, hf⟩
          · obtain ⟨u_4, I9, c_3, hf⟩ := of_zb hf
            have fI9 := fcz_t (fc_H_weigh M fu o1 x1 (I3 o0 7) (I3 o0 8) I3 m_o1_13c7 m_o1_13c8 m_o1_13c9 m_o1_13c10 m_o1_13c11 m_o1_13c12 m_o1_13c13 m_o1_13c14 m_o1_13c15 c_3) fI3
            obtain ⟨y11, I12, c_5, hf⟩ := of_zb hf
            have ly11 := lif_at c_5
            have fI12 := fcz_t (fc_H_lawInForce M fu o1 I9 c_5) fI9
            obtain ⟨y14, I15, c_6, hf⟩ := of_zb hf
            have fI15 := fcz_t (fc_W_value M fu (y11.toNat) (o1 + 13) 16 I12 (m_o1_15_40 _ (by omega) (by omega)) c_6) fI12
            rcases of_ite hf with ⟨_, hf⟩ | ⟨_, hf⟩
            · exact hk_71 x1 y2 I15 fI15 hf
            · exact hk5 I15 fI15 hf
          · exact hk5 I3 fI3 hf
        · cases hf; exact fI0
      · cases hf; exact fI0
    · cases hf; exact fI0
theorem fc_C_partOne (M : Nat → Nat → Prop) (fu : Nat) (o0 : Nat) (o1 : Nat) (I0 : IMem) {r : Int × IMem} (m_o1_15_40 : ∀ q, o1 + 15 ≤ q → q < o1 + 40 → ∀ j, M q j) (m_o0_1 : ∀ j, M (o0 + 1) j) (m_o0_2 : ∀ j, M (o0 + 2) j) (m_o0_3 : ∀ j, M (o0 + 3) j) (m_o1_7 : ∀ j, M (o1 + 7) j) (m_o0_0c7 : M o0 7) (m_o0_0c8 : M o0 8) (m_o0_0c10 : M o0 10) (m_o0_0c11 : M o0 11) (m_o1_13c7 : M (o1 + 13) 7) (m_o1_13c8 : M (o1 + 13) 8) (m_o1_13c9 : M (o1 + 13) 9) (m_o1_13c10 : M (o1 + 13) 10) (m_o1_13c11 : M (o1 + 13) 11) (m_o1_13c12 : M (o1 + 13) 12) (m_o1_13c13 : M (o1 + 13) 13) (m_o1_13c14 : M (o1 + 13) 14) (m_o1_13c15 : M (o1 + 13) 15) (hf : f_C_partOne fu o0 o1 I0 = some r) : ∀ q j, ¬ M q j → r.2 q j = I0 q j := by
  unfold f_C_partOne at hf
  obtain ⟨Ib, hIb⟩ : ∃ Ib : IMem, Ib = I0 := ⟨I0, rfl⟩
  rw [← hIb]
  have f0 : ∀ q j, ¬ M q j → I0 q j = Ib q j := fun q j _ => by rw [hIb]
  clear hIb
  refine fc_C_partOne_2 M fu _ o0 o1 m_o1_15_40 m_o1_13c7 m_o1_13c8 m_o1_13c9 m_o1_13c10 m_o1_13c11 m_o1_13c12 m_o1_13c13 m_o1_13c14 m_o1_13c15 ?_ fu 0 I0 f0 hf
  · intro x18 x19 I17 fI17 hf
    obtain ⟨y20, I21, c_1, hf⟩ := of_zb hf
    have fI21 := fcz_t (fc_L_get M fu (o1 + 6) x18 1 I17 c_1) fI17
    obtain ⟨x23, -, hf⟩ := of_zl hf
    obtain ⟨u_3, I25, c_2, hf⟩ := of_zb hf
    have fI25 := fcz_t (fc_C_sit M fu o0 x18 x19 0 3 I21 m_o0_1 m_o0_2 m_o0_3 m_o0_0c7 m_o0_0c8 m_o0_0c10 m_o0_0c11 c_2) fI21
    obtain ⟨u_5, I28, c_4, hf⟩ := of_zb hf
    have fI28 := fcz_t (fc_L_put M fu (o1 + 6) x18 1 x23 I25 m_o1_7 c_4) fI25
    obtain ⟨u_7, I31, c_6, hf⟩ := of_zb hf
    have fI31 := fcz_t (fc_L_put M fu (o1 + 6) x18 2 x23 I28 m_o1_7 c_6) fI28
    cases hf; exact fI31
theorem fc_C_worthiest_14 (M : Nat → Nat → Prop) (fu : Nat) {r : Int × IMem} {Ib : IMem} (o0 : Nat) (o1 : Nat) (p2 : Int) (o3 : Nat) (m_o0_6 : ∀ j, M (o0 + 6) j) (m_o3_4 : ∀ j, M (o3 + 4) j) (m_o1_13c7 : M (o1 + 13) 7) (m_o1_13c8 : M (o1 + 13) 8) (m_o1_13c9 : M (o1 + 13) 9) (m_o1_13c10 : M (o1 + 13) 10) (m_o1_13c11 : M (o1 + 13) 11) (m_o1_13c12 : M (o1 + 13) 12) (m_o1_13c13 : M (o1 + 13) 13) (m_o1_13c14 : M (o1 + 13) 14) (m_o1_13c15 : M (o1 + 13) 15) : ∀ (m : Nat) (w4 : Int) (w5 : Int) (w6 : Int) (I0 : IMem), (∀ q j, ¬ M q j → I0 q j = Ib q j) → f_C_worthiest_14 fu o0 o1 p2 o3 m w4 w5 w6 I0 = some r → ∀ q j, ¬ M q j → r.2 q j = Ib q j := by
  intro m
  induction m with
  | zero => intro w4 w5 w6 I0 _ hf; cases hf
  | succ m hR_ =>
    intro w4 w5 w6 I0 fI0 hf
    replace hf : fb_C_worthiest_14 fu o0 o1 p2 o3 (f_C_worthiest_14 fu o0 o1 p2 o3 m) w4 w5 w6 I0 = some r := hf
    unfold fb_C_worthiest_14 at hf
    rcases of_ite hf with ⟨_, hf⟩ | ⟨_, hf⟩
    · rcases of_ite hf with ⟨_, hf⟩ | ⟨_, hf⟩
      · obtain ⟨g_1, hf⟩ := of_zg hf
        obtain ⟨y4, I5, c_2, hf⟩ := of_zb hf
        have fI5 := fcz_t (fc_C_fits M fu o0 o1 (I0 (o0 + 5) w6.toNat) I0 c_2) fI0
        obtain ⟨k7, ek7, hf⟩ := of_zj hf
        have hk7 : ∀ (x9 : Int) (x10 : Int) (I8 : IMem), (∀ q j, ¬ M q j → I8 q j = Ib q j) → k7 x9 x10 I8 = some r → ∀ q j, ¬ M q j → r.2 q j = Ib q j := by
          intro x9 x10 I8 fI8 hf
          subst ek7
          obtain ⟨x11, -, hf⟩ := of_zl hf
          exact hR_ x9 x10 x11 I8 fI8 hf
        rcases of_ite hf with ⟨_, hf⟩ | ⟨_, hf⟩
        · exact hk7 w4 w5 I5 fI5 hf
        · obtain ⟨k12, ek12, hf⟩ := of_zj hf
          have hk12 : ∀  (I13 : IMem), (∀ q j, ¬ M q j → I13 q j = Ib q j) → k12 I13 = some r → ∀ q j, ¬ M q j → r.2 q j = Ib q j := by
            intro I13 fI13 hf
            subst ek12
            obtain ⟨g_3, hf⟩ := of_zg hf
            rcases of_ite hf with ⟨_, hf⟩ | ⟨_, hf⟩
            · obtain ⟨g_4, hf⟩ := of_zg hf
              obtain ⟨x14, -, hf⟩ := of_zl hf
              obtain ⟨g_5, hf⟩ := of_zg hf
              obtain ⟨x15, -, hf⟩ := of_zl hf
              exact hk7 x14 x15 I13 fI13 hf
            · exact hk7 w4 w5 I13 fI13 hf
          rcases of_ite hf with ⟨_, hf⟩ | ⟨_, hf⟩
          · exact hk12 I5 fI5 hf
          · obtain ⟨g_6, hf⟩ := of_zg hf
            obtain ⟨u_8, I17, c_7, hf⟩ := of_zb hf
            have fI17 := fcz_t (fc_H_weigh M fu o1 (I5 (o0 + 5) w6.toNat) (I5 o0 7) (I5 o0 8) I5 m_o1_13c7 m_o1_13c8 m_o1_13c9 m_o1_13c10 m_o1_13c11 m_o1_13c12 m_o1_13c13 m_o1_13c14 m_o1_13c15 c_7) fI5
            obtain ⟨y19, I20, c_9, hf⟩ := of_zb hf
            have fI20 := fcz_t (fc_W_value M fu o3 (o1 + 13) 16 I17 m_o3_4 c_9) fI17
            obtain ⟨g_10, hf⟩ := of_zg hf
            obtain ⟨I22, fI22, hf⟩ := fcz_w (m_o0_6 _) fI20 hf
            exact hk12 I22 fI22 hf
      · cases hf; exact fI0
    · cases hf; exact fI0
theorem fc_C_worthiest (M : Nat → Nat → Prop) (fu : Nat) (o0 : Nat) (o1 : Nat) (a2 : Int) (I0 : IMem) {r : Int × IMem} (m_o1_15_40 : ∀ q, o1 + 15 ≤ q → q < o1 + 40 → ∀ j, M q j) (m_o0_6 : ∀ j, M (o0 + 6) j) (m_o1_13c7 : M (o1 + 13) 7) (m_o1_13c8 : M (o1 + 13) 8) (m_o1_13c9 : M (o1 + 13) 9) (m_o1_13c10 : M (o1 + 13) 10) (m_o1_13c11 : M (o1 + 13) 11) (m_o1_13c12 : M (o1 + 13) 12) (m_o1_13c13 : M (o1 + 13) 13) (m_o1_13c14 : M (o1 + 13) 14) (m_o1_13c15 : M (o1 + 13) 15) (hf : f_C_worthiest fu o0 o1 a2 I0 = some r) : ∀ q j, ¬ M q j → r.2 q j = I0 q j := by
  unfold f_C_worthiest at hf
  obtain ⟨Ib, hIb⟩ : ∃ Ib : IMem, Ib = I0 := ⟨I0, rfl⟩
  rw [← hIb]
  have f0 : ∀ q j, ¬ M q j → I0 q j = Ib q j := fun q j _ => by rw [hIb]
  clear hIb
  obtain ⟨y1, I2, c_1, hf⟩ := of_zb hf
  have ly1 := lif_at c_1
  have fI2 := fcz_t (fc_H_lawInForce M fu o1 I0 c_1) f0
  refine fc_C_worthiest_14 M fu o0 o1 a2 (y1.toNat) m_o0_6 (m_o1_15_40 _ (by omega) (by omega)) m_o1_13c7 m_o1_13c8 m_o1_13c9 m_o1_13c10 m_o1_13c11 m_o1_13c12 m_o1_13c13 m_o1_13c14 m_o1_13c15 fu 0 ((-1)) 0 I2 fI2 hf
theorem fc_L_listSeen_46 (M : Nat → Nat → Prop) (fu : Nat) {r : Int × IMem} {Ib : IMem} (k_79 : Int → IMem → Res) (o0 : Nat) (o1 : Nat) (n1 : Nat) (p2 : Int) (p4 : Int) (p5 : Int) (m_o1_0 : ∀ j, M o1 j) (hk_79 : ∀ (z0 : Int) (I9 : IMem), (∀ q j, ¬ M q j → I9 q j = Ib q j) → k_79 z0 I9 = some r → ∀ q j, ¬ M q j → r.2 q j = Ib q j) : ∀ (m : Nat) (w3 : Int) (w6 : Int) (I0 : IMem), (∀ q j, ¬ M q j → I0 q j = Ib q j) → f_L_listSeen_46 fu k_79 o0 o1 n1 p2 p4 p5 m w3 w6 I0 = some r → ∀ q j, ¬ M q j → r.2 q j = Ib q j := by
  intro m
  induction m with
  | zero => intro w3 w6 I0 _ hf; cases hf
  | succ m hR_ =>
    intro w3 w6 I0 fI0 hf
    replace hf : fb_L_listSeen_46 fu k_79 o0 o1 n1 p2 p4 p5 (f_L_listSeen_46 fu k_79 o0 o1 n1 p2 p4 p5 m) w3 w6 I0 = some r := hf
    unfold fb_L_listSeen_46 at hf
    rcases of_ite hf with ⟨_, hf⟩ | ⟨_, hf⟩
    · obtain ⟨k7, ek7, hf⟩ := of_zj hf
      have hk7 : ∀ (x9 : Int) (I8 : IMem), (∀ q j, ¬ M q j → I8 q j = Ib q j) → k7 x9 I8 = some r → ∀ q j, ¬ M q j → r.2 q j = Ib q j := by
        intro x9 I8 fI8 hf
        subst ek7
        obtain ⟨x10, -, hf⟩ := of_zl hf
        exact hR_ x9 x10 I8 fI8 hf
      rcases of_ite hf with ⟨_, hf⟩ | ⟨_, hf⟩
      · obtain ⟨g_1, hf⟩ := of_zg hf
        obtain ⟨I11, fI11, hf⟩ := fcz_w (m_o1_0 _) fI0 hf
        obtain ⟨x12, -, hf⟩ := of_zl hf
        exact hk7 x12 I11 fI11 hf
      · exact hk7 w3 I0 fI0 hf
    · exact hk_79 w3 I0 fI0 hf
theorem fc_L_listSeen_5 (M : Nat → Nat → Prop) (fu : Nat) {r : Int × IMem} {Ib : IMem} (o0 : Nat) (o1 : Nat) (n1 : Nat) (p2 : Int) (m_o1_0 : ∀ j, M o1 j) : ∀ (m : Nat) (w3 : Int) (w4 : Int) (I0 : IMem), (∀ q j, ¬ M q j → I0 q j = Ib q j) → f_L_listSeen_5 fu o0 o1 n1 p2 m w3 w4 I0 = some r → ∀ q j, ¬ M q j → r.2 q j = Ib q j := by
  intro m
  induction m with
  | zero => intro w3 w4 I0 _ hf; cases hf
  | succ m hR_ =>
    intro w3 w4 I0 fI0 hf
    replace hf : fb_L_listSeen_5 fu o0 o1 n1 p2 (f_L_listSeen_5 fu o0 o1 n1 p2 m) w3 w4 I0 = some r := hf
    unfold fb_L_listSeen_5 at hf
    rcases of_ite hf with ⟨_, hf⟩ | ⟨_, hf⟩
    · obtain ⟨g_1, hf⟩ := of_zg hf
      obtain ⟨g_2, hf⟩ := of_zg hf
      obtain ⟨k1, ek1, hf⟩ := of_zj hf
      have hk1 : ∀ (x3 : Int) (I2 : IMem), (∀ q j, ¬ M q j → I2 q j = Ib q j) → k1 x3 I2 = some r → ∀ q j, ¬ M q j → r.2 q j = Ib q j := by
        intro x3 I2 fI2 hf
        subst ek1
        obtain ⟨y4, I5, c_3, hf⟩ := of_zb hf
        have fI5 := fcz_t (fc_JM_min M fu (I0 (o0 + 2) w4.toNat) (wr32 ((I0 (o0 + 3) w4.toNat) + x3)) I2 c_3) fI2
        refine fc_L_listSeen_46 M fu _ o0 o1 n1 p2 w4 y4 m_o1_0 ?_ fu w3 0 I5 fI5 hf
        · intro x14 I13 fI13 hf
          obtain ⟨x15, -, hf⟩ := of_zl hf
          exact hR_ x14 x15 I13 fI13 hf
      rcases of_ite hf with ⟨_, hf⟩ | ⟨_, hf⟩
      · exact hk1 1 I0 fI0 hf
      · exact hk1 0 I0 fI0 hf
    · cases hf; exact fI0
theorem fc_L_listSeen (M : Nat → Nat → Prop) (fu : Nat) (o0 : Nat) (o1 n1 : Nat) (a2 : Int) (I0 : IMem) {r : Int × IMem} (m_o1_0 : ∀ j, M o1 j) (hf : f_L_listSeen fu o0 o1 n1 a2 I0 = some r) : ∀ q j, ¬ M q j → r.2 q j = I0 q j := by
  unfold f_L_listSeen at hf
  obtain ⟨Ib, hIb⟩ : ∃ Ib : IMem, Ib = I0 := ⟨I0, rfl⟩
  rw [← hIb]
  have f0 : ∀ q j, ¬ M q j → I0 q j = Ib q j := fun q j _ => by rw [hIb]
  clear hIb
  refine fc_L_listSeen_5 M fu o0 o1 n1 a2 m_o1_0 fu 0 0 I0 f0 hf
theorem fc_C_fill_30 (M : Nat → Nat → Prop) (fu : Nat) {r : Int × IMem} {Ib : IMem} (k_66 : IMem → Res) (k_127 : IMem → Res) (o0 : Nat) (o1 : Nat) (m_o1_15_40 : ∀ q, o1 + 15 ≤ q → q < o1 + 40 → ∀ j, M q j) (m_o0_1 : ∀ j, M (o0 + 1) j) (m_o0_2 : ∀ j, M (o0 + 2) j) (m_o0_3 : ∀ j, M (o0 + 3) j) (m_o0_4 : ∀ j, M (o0 + 4) j) (m_o0_6 : ∀ j, M (o0 + 6) j) (m_o0_0c7 : M o0 7) (m_o0_0c8 : M o0 8) (m_o0_0c9 : M o0 9) (m_o0_0c10 : M o0 10) (m_o0_0c11 : M o0 11) (m_o1_10c5 : M (o1 + 10) 5) (m_o1_13c7 : M (o1 + 13) 7) (m_o1_13c8 : M (o1 + 13) 8) (m_o1_13c9 : M (o1 + 13) 9) (m_o1_13c10 : M (o1 + 13) 10) (m_o1_13c11 : M (o1 + 13) 11) (m_o1_13c12 : M (o1 + 13) 12) (m_o1_13c13 : M (o1 + 13) 13) (m_o1_13c14 : M (o1 + 13) 14) (m_o1_13c15 : M (o1 + 13) 15) (hk_66 : ∀ (I9 : IMem), (∀ q j, ¬ M q j → I9 q j = Ib q j) → k_66 I9 = some r → ∀ q j, ¬ M q j → r.2 q j = Ib q j) (hk_127 : ∀ (I9 : IMem), (∀ q j, ¬ M q j → I9 q j = Ib q j) → k_127 I9 = some r → ∀ q j, ¬ M q j → r.2 q j = Ib q j) : ∀ (m : Nat) (w2 : Int) (w3 : Int) (I0 : IMem), (∀ q j, ¬ M q j → I0 q j = Ib q j) → f_C_fill_30 fu k_66 k_127 o0 o1 m w2 w3 I0 = some r → ∀ q j, ¬ M q j → r.2 q j = Ib q j := by
  intro m
  induction m with
  | zero => intro w2 w3 I0 _ hf; cases hf
  | succ m hR_ =>
    intro w2 w3 I0 fI0 hf
    replace hf : fb_C_fill_30 fu k_66 k_127 o0 o1 (f_C_fill_30 fu k_66 k_127 o0 o1 m) w2 w3 I0 = some r := hf
    unfold fb_C_fill_30 at hf
    rcases of_ite hf with ⟨_, hf⟩ | ⟨_, hf⟩
    · exact hk_127 I0 fI0 hf
    · obtain ⟨y8, I9, c_1, hf⟩ := of_zb hf
      have fI9 := fcz_t (fc_C_mostPassed M fu o0 o1 I0 c_1) fI0
      obtain ⟨k11, ek11, hf⟩ := of_zj hf
      have hk11 : ∀ (x13 : Int) (x14 : Int) (I12 : IMem), (∀ q j, ¬ M q j → I12 q j = Ib q j) → k11 x13 x14 I12 = some r → ∀ q j, ¬ M q j → r.2 q j = Ib q j := by
        intro x13 x14 I12 fI12 hf
        subst ek11
        rcases of_ite hf with ⟨_, hf⟩ | ⟨_, hf⟩
        · exact hk_66 I12 fI12 hf
        · obtain ⟨y15, I16, c_2, hf⟩ := of_zb hf
          have fI16 := fcz_t (fc_L_get M fu (o1 + 6) x14 1 I12 c_2) fI12
          obtain ⟨k18, ek18, hf⟩ := of_zj hf
          have hk18 : ∀ (x20 : Int) (I19 : IMem), (∀ q j, ¬ M q j → I19 q j = Ib q j) → k18 x20 I19 = some r → ∀ q j, ¬ M q j → r.2 q j = Ib q j := by
            intro x20 I19 fI19 hf
            subst ek18
            obtain ⟨x21, -, hf⟩ := of_zl hf
            exact hR_ x20 x21 I19 fI19 hf
          rcases of_ite hf with ⟨_, hf⟩ | ⟨_, hf⟩
          · obtain ⟨u_4, I29, c_3, hf⟩ := of_zb hf
            have fI29 := fcz_t (fc_C_findOut M fu o0 o1 x14 I16 m_o0_1 m_o0_4 m_o0_0c9 m_o1_10c5 c_3) fI16
            exact hk18 x13 I29 fI29 hf
          · obtain ⟨y22, I23, c_5, hf⟩ := of_zb hf
            have fI23 := fcz_t (fc_L_get M fu (o1 + 6) x14 3 I16 c_5) fI16
            obtain ⟨u_7, I26, c_6, hf⟩ := of_zb hf
            have fI26 := fcz_t (fc_C_sit M fu o0 x14 y15 y22 1 I23 m_o0_1 m_o0_2 m_o0_3 m_o0_0c7 m_o0_0c8 m_o0_0c10 m_o0_0c11 c_6) fI23
            exact hk18 1 I26 fI26 hf
      rcases of_ite hf with ⟨_, hf⟩ | ⟨_, hf⟩
      · obtain ⟨y31, I32, c_8, hf⟩ := of_zb hf
        have fI32 := fcz_t (fc_C_worthiest M fu o0 o1 w2 I9 m_o1_15_40 m_o0_6 m_o1_13c7 m_o1_13c8 m_o1_13c9 m_o1_13c10 m_o1_13c11 m_o1_13c12 m_o1_13c13 m_o1_13c14 m_o1_13c15 c_8) fI9
        exact hk11 0 y31 I32 fI32 hf
      · exact hk11 w2 y8 I9 fI9 hf
theorem fc_C_fill (M : Nat → Nat → Prop) (fu : Nat) (o0 : Nat) (o1 : Nat) (I0 : IMem) {r : Int × IMem} (m_o1_15_40 : ∀ q, o1 + 15 ≤ q → q < o1 + 40 → ∀ j, M q j) (m_o0_1 : ∀ j, M (o0 + 1) j) (m_o0_2 : ∀ j, M (o0 + 2) j) (m_o0_3 : ∀ j, M (o0 + 3) j) (m_o0_4 : ∀ j, M (o0 + 4) j) (m_o0_5 : ∀ j, M (o0 + 5) j) (m_o0_6 : ∀ j, M (o0 + 6) j) (m_o1_7 : ∀ j, M (o1 + 7) j) (m_o0_0c5 : M o0 5) (m_o0_0c7 : M o0 7) (m_o0_0c8 : M o0 8) (m_o0_0c9 : M o0 9) (m_o0_0c10 : M o0 10) (m_o0_0c11 : M o0 11) (m_o1_10c5 : M (o1 + 10) 5) (m_o1_13c7 : M (o1 + 13) 7) (m_o1_13c8 : M (o1 + 13) 8) (m_o1_13c9 : M (o1 + 13) 9) (m_o1_13c10 : M (o1 + 13) 10) (m_o1_13c11 : M (o1 + 13) 11) (m_o1_13c12 : M (o1 + 13) 12) (m_o1_13c13 : M (o1 + 13) 13) (m_o1_13c14 : M (o1 + 13) 14) (m_o1_13c15 : M (o1 + 13) 15) (hf : f_C_fill fu o0 o1 I0 = some r) : ∀ q j, ¬ M q j → r.2 q j = I0 q j := by
  unfold f_C_fill at hf
  obtain ⟨Ib, hIb⟩ : ∃ Ib : IMem, Ib = I0 := ⟨I0, rfl⟩
  rw [← hIb]
  have f0 : ∀ q j, ¬ M q j → I0 q j = Ib q j := fun q j _ => by rw [hIb]
  clear hIb
  obtain ⟨u_2, I2, c_1, hf⟩ := of_zb hf
  have fI2 := fcz_t (fc_C_clear M fu o0 (I0 (o1 + 1) 0) I0 m_o0_1 m_o0_0c7 m_o0_0c8 m_o0_0c9 m_o0_0c10 m_o0_0c11 c_1) f0
  obtain ⟨y4, I5, c_3, hf⟩ := of_zb hf
  have fI5 := fcz_t (fc_L_listSeen M fu (o1 + 6) (o0 + 5) 144 ((-1)) I2 m_o0_5 c_3) fI2
  obtain ⟨I7, fI7, hf⟩ := fcz_w m_o0_0c5 fI5 hf
  refine fc_C_fill_30 M fu _ _ o0 o1 m_o1_15_40 m_o0_1 m_o0_2 m_o0_3 m_o0_4 m_o0_6 m_o0_0c7 m_o0_0c8 m_o0_0c9 m_o0_0c10 m_o0_0c11 m_o1_10c5 m_o1_13c7 m_o1_13c8 m_o1_13c9 m_o1_13c10 m_o1_13c11 m_o1_13c12 m_o1_13c13 m_o1_13c14 m_o1_13c15 ?_ ?_ fu 1 0 I7 fI7 hf
  · intro I34 fI34 hf
    obtain ⟨u_5, I36, c_4, hf⟩ := of_zb hf
    have fI36 := fcz_t (fc_C_partOne M fu o0 o1 I34 m_o1_15_40 m_o0_1 m_o0_2 m_o0_3 m_o1_7 m_o0_0c7 m_o0_0c8 m_o0_0c10 m_o0_0c11 m_o1_13c7 m_o1_13c8 m_o1_13c9 m_o1_13c10 m_o1_13c11 m_o1_13c12 m_o1_13c13 m_o1_13c14 m_o1_13c15 c_4) fI34
    cases hf; exact fI36
  · intro I38 fI38 hf
    obtain ⟨u_7, I40, c_6, hf⟩ := of_zb hf
    have fI40 := fcz_t (fc_C_partOne M fu o0 o1 I38 m_o1_15_40 m_o0_1 m_o0_2 m_o0_3 m_o1_7 m_o0_0c7 m_o0_0c8 m_o0_0c10 m_o0_0c11 m_o1_13c7 m_o1_13c8 m_o1_13c9 m_o1_13c10 m_o1_13c11 m_o1_13c12 m_o1_13c13 m_o1_13c14 m_o1_13c15 c_6) fI38
    cases hf; exact fI40
theorem fc_H_letComersEnter_2 (M : Nat → Nat → Prop) (fu : Nat) {r : Int × IMem} {Ib : IMem} (o0 : Nat) (m_o0_7 : ∀ j, M (o0 + 7) j) (m_o0_8 : ∀ j, M (o0 + 8) j) (m_o0_39 : ∀ j, M (o0 + 39) j) (m_o0_0c6 : M o0 6) (m_o0_0c7 : M o0 7) (m_o0_10c6 : M (o0 + 10) 6) (m_o0_13c5 : M (o0 + 13) 5) (m_o0_13c6 : M (o0 + 13) 6) (m_o0_13c7 : M (o0 + 13) 7) (m_o0_13c8 : M (o0 + 13) 8) (m_o0_14c0 : M (o0 + 14) 0) (m_o0_14c1 : M (o0 + 14) 1) (m_o0_14c2 : M (o0 + 14) 2) (m_o0_14c3 : M (o0 + 14) 3) : ∀ (m : Nat) (w1 : Int) (I0 : IMem), (∀ q j, ¬ M q j → I0 q j = Ib q j) → f_H_letComersEnter_2 fu o0 m w1 I0 = some r → ∀ q j, ¬ M q j → r.2 q j = Ib q j := by
  intro m
  induction m with
  | zero => intro w1 I0 _ hf; cases hf
  | succ m hR_ =>
    intro w1 I0 fI0 hf
    replace hf : fb_H_letComersEnter_2 fu o0 (f_H_letComersEnter_2 fu o0 m) w1 I0 = some r := hf
    unfold fb_H_letComersEnter_2 at hf
    rcases of_ite hf with ⟨_, hf⟩ | ⟨_, hf⟩
    · obtain ⟨x1, -, hf⟩ := of_zl hf
      obtain ⟨g_1, hf⟩ := of_zg hf
      obtain ⟨x2, -, hf⟩ := of_zl hf
      obtain ⟨k3, ek3, hf⟩ := of_zj hf
      have hk3 : ∀  (I4 : IMem), (∀ q j, ¬ M q j → I4 q j = Ib q j) → k3 I4 = some r → ∀ q j, ¬ M q j → r.2 q j = Ib q j := by
        intro I4 fI4 hf
        subst ek3
        obtain ⟨x5, -, hf⟩ := of_zl hf
        exact hR_ x5 I4 fI4 hf
      rcases of_ite hf with ⟨_, hf⟩ | ⟨_, hf⟩
      · obtain ⟨y6, I7, c_2, hf⟩ := of_zb hf
        have fI7 := fcz_t (fc_H_draw M fu o0 1000 I0 m_o0_0c6 c_2) fI0
        rcases of_ite hf with ⟨_, hf⟩ | ⟨_, hf⟩
        · obtain ⟨g_3, hf⟩ := of_zg hf
          obtain ⟨x9, -, hf⟩ := of_zl hf
          obtain ⟨g_4, hf⟩ := of_zg hf
          obtain ⟨x10, -, hf⟩ := of_zl hf
          obtain ⟨g_5, hf⟩ := of_zg hf
          obtain ⟨y11, I12, c_6, hf⟩ := of_zb hf
          have fI12 := fcz_t (fc_H_enter M fu o0 (I7 (o0 + 4) w1.toNat) (I7 (o0 + 4) x9.toNat) (I7 (o0 + 4) x10.toNat) I7 m_o0_7 m_o0_8 m_o0_39 m_o0_0c7 m_o0_10c6 m_o0_13c5 m_o0_13c6 m_o0_13c7 m_o0_13c8 m_o0_14c0 m_o0_14c1 m_o0_14c2 m_o0_14c3 c_6) fI7
          exact hk3 I12 fI12 hf
        · exact hk3 I7 fI7 hf
      · exact hk3 I0 fI0 hf
    · cases hf; exact fI0
theorem fc_H_letComersEnter (M : Nat → Nat → Prop) (fu : Nat) (o0 : Nat) (I0 : IMem) {r : Int × IMem} (m_o0_7 : ∀ j, M (o0 + 7) j) (m_o0_8 : ∀ j, M (o0 + 8) j) (m_o0_39 : ∀ j, M (o0 + 39) j) (m_o0_0c6 : M o0 6) (m_o0_0c7 : M o0 7) (m_o0_10c6 : M (o0 + 10) 6) (m_o0_13c5 : M (o0 + 13) 5) (m_o0_13c6 : M (o0 + 13) 6) (m_o0_13c7 : M (o0 + 13) 7) (m_o0_13c8 : M (o0 + 13) 8) (m_o0_14c0 : M (o0 + 14) 0) (m_o0_14c1 : M (o0 + 14) 1) (m_o0_14c2 : M (o0 + 14) 2) (m_o0_14c3 : M (o0 + 14) 3) (hf : f_H_letComersEnter fu o0 I0 = some r) : ∀ q j, ¬ M q j → r.2 q j = I0 q j := by
  unfold f_H_letComersEnter at hf
  obtain ⟨Ib, hIb⟩ : ∃ Ib : IMem, Ib = I0 := ⟨I0, rfl⟩
  rw [← hIb]
  have f0 : ∀ q j, ¬ M q j → I0 q j = Ib q j := fun q j _ => by rw [hIb]
  clear hIb
  refine fc_H_letComersEnter_2 M fu o0 m_o0_7 m_o0_8 m_o0_39 m_o0_0c6 m_o0_0c7 m_o0_10c6 m_o0_13c5 m_o0_13c6 m_o0_13c7 m_o0_13c8 m_o0_14c0 m_o0_14c1 m_o0_14c2 m_o0_14c3 fu 0 I0 f0 hf
theorem fc_C_turns_5 (M : Nat → Nat → Prop) (fu : Nat) {r : Int × IMem} {Ib : IMem} (o0 : Nat) (o1 : Nat) (p2 : Int) (m_o1_15_40 : ∀ q, o1 + 15 ≤ q → q < o1 + 40 → ∀ j, M q j) (m_o0_1 : ∀ j, M (o0 + 1) j) (m_o0_2 : ∀ j, M (o0 + 2) j) (m_o0_3 : ∀ j, M (o0 + 3) j) (m_o0_4 : ∀ j, M (o0 + 4) j) (m_o0_5 : ∀ j, M (o0 + 5) j) (m_o0_6 : ∀ j, M (o0 + 6) j) (m_o1_7 : ∀ j, M (o1 + 7) j) (m_o1_8 : ∀ j, M (o1 + 8) j) (m_o1_10 : ∀ j, M (o1 + 10) j) (m_o1_11 : ∀ j, M (o1 + 11) j) (m_o1_12 : ∀ j, M (o1 + 12) j) (m_o1_39 : ∀ j, M (o1 + 39) j) (m_o0_0c5 : M o0 5) (m_o0_0c7 : M o0 7) (m_o0_0c8 : M o0 8) (m_o0_0c9 : M o0 9) (m_o0_0c10 : M o0 10) (m_o0_0c11 : M o0 11) (m_o1_0c6 : M o1 6) (m_o1_0c7 : M o1 7) (m_o1_13c5 : M (o1 + 13) 5) (m_o1_13c6 : M (o1 + 13) 6) (m_o1_13c7 : M (o1 + 13) 7) (m_o1_13c8 : M (o1 + 13) 8) (m_o1_13c9 : M (o1 + 13) 9) (m_o1_13c10 : M (o1 + 13) 10) (m_o1_13c11 : M (o1 + 13) 11) (m_o1_13c12 : M (o1 + 13) 12) (m_o1_13c13 : M (o1 + 13) 13) (m_o1_13c14 : M (o1 + 13) 14) (m_o1_13c15 : M (o1 + 13) 15) (m_o1_14c0 : M (o1 + 14) 0) (m_o1_14c1 : M (o1 + 14) 1) (m_o1_14c2 : M (o1 + 14) 2) (m_o1_14c3 : M (o1 + 14) 3) : ∀ (m : Nat) (w3 : Int) (w4 : Int) (I0 : IMem), (∀ q j, ¬ M q j → I0 q j = Ib q j) → f_C_turns_5 fu o0 o1 p2 m w3 w4 I0 = some r → ∀ q j, ¬ M q j → r.2 q j = Ib q j := by
  intro m
  induction m with
  | zero => intro w3 w4 I0 _ hf; cases hf
  | succ m hR_ =>
    intro w3 w4 I0 fI0 hf
    replace hf : fb_C_turns_5 fu o0 o1 p2 (f_C_turns_5 fu o0 o1 p2 m) w3 w4 I0 = some r := hf
    unfold fb_C_turns_5 at hf
    rcases of_ite hf with ⟨_, hf⟩ | ⟨_, hf⟩
    · obtain ⟨u_2, I2, c_1, hf⟩ := of_zb hf
      have fI2 := fcz_t (fc_H_letComersEnter M fu o1 I0 m_o1_7 m_o1_8 m_o1_39 m_o1_0c6 m_o1_0c7 (m_o1_10 6) m_o1_13c5 m_o1_13c6 m_o1_13c7 m_o1_13c8 m_o1_14c0 m_o1_14c1 m_o1_14c2 m_o1_14c3 c_1) fI0
      obtain ⟨u_4, I5, c_3, hf⟩ := of_zb hf
      have fI5 := fcz_t (fc_C_fill M fu o0 o1 I2 m_o1_15_40 m_o0_1 m_o0_2 m_o0_3 m_o0_4 m_o0_5 m_o0_6 m_o1_7 m_o0_0c5 m_o0_0c7 m_o0_0c8 m_o0_0c9 m_o0_0c10 m_o0_0c11 (m_o1_10 5) m_o1_13c7 m_o1_13c8 m_o1_13c9 m_o1_13c10 m_o1_13c11 m_o1_13c12 m_o1_13c13 m_o1_13c14 m_o1_13c15 c_3) fI2
      obtain ⟨y7, I8, c_5, hf⟩ := of_zb hf
      have fI8 := fcz_t (fc_C_leave M fu o0 o1 I5 m_o1_7 m_o1_8 m_o1_10 m_o1_11 m_o1_12 m_o1_0c6 c_5) fI5
      obtain ⟨x10, -, hf⟩ := of_zl hf
      obtain ⟨x11, -, hf⟩ := of_zl hf
      exact hR_ x10 x11 I8 fI8 hf
    · cases hf; exact fI0
theorem fc_C_turns (M : Nat → Nat → Prop) (fu : Nat) (o0 : Nat) (o1 : Nat) (a2 : Int) (I0 : IMem) {r : Int × IMem} (m_o1_15_40 : ∀ q, o1 + 15 ≤ q → q < o1 + 40 → ∀ j, M q j) (m_o0_1 : ∀ j, M (o0 + 1) j) (m_o0_2 : ∀ j, M (o0 + 2) j) (m_o0_3 : ∀ j, M (o0 + 3) j) (m_o0_4 : ∀ j, M (o0 + 4) j) (m_o0_5 : ∀ j, M (o0 + 5) j) (m_o0_6 : ∀ j, M (o0 + 6) j) (m_o1_7 : ∀ j, M (o1 + 7) j) (m_o1_8 : ∀ j, M (o1 + 8) j) (m_o1_10 : ∀ j, M (o1 + 10) j) (m_o1_11 : ∀ j, M (o1 + 11) j) (m_o1_12 : ∀ j, M (o1 + 12) j) (m_o1_39 : ∀ j, M (o1 + 39) j) (m_o0_0c5 : M o0 5) (m_o0_0c7 : M o0 7) (m_o0_0c8 : M o0 8) (m_o0_0c9 : M o0 9) (m_o0_0c10 : M o0 10) (m_o0_0c11 : M o0 11) (m_o1_0c6 : M o1 6) (m_o1_0c7 : M o1 7) (m_o1_13c5 : M (o1 + 13) 5) (m_o1_13c6 : M (o1 + 13) 6) (m_o1_13c7 : M (o1 + 13) 7) (m_o1_13c8 : M (o1 + 13) 8) (m_o1_13c9 : M (o1 + 13) 9) (m_o1_13c10 : M (o1 + 13) 10) (m_o1_13c11 : M (o1 + 13) 11) (m_o1_13c12 : M (o1 + 13) 12) (m_o1_13c13 : M (o1 + 13) 13) (m_o1_13c14 : M (o1 + 13) 14) (m_o1_13c15 : M (o1 + 13) 15) (m_o1_14c0 : M (o1 + 14) 0) (m_o1_14c1 : M (o1 + 14) 1) (m_o1_14c2 : M (o1 + 14) 2) (m_o1_14c3 : M (o1 + 14) 3) (hf : f_C_turns fu o0 o1 a2 I0 = some r) : ∀ q j, ¬ M q j → r.2 q j = I0 q j := by
  unfold f_C_turns at hf
  obtain ⟨Ib, hIb⟩ : ∃ Ib : IMem, Ib = I0 := ⟨I0, rfl⟩
  rw [← hIb]
  have f0 : ∀ q j, ¬ M q j → I0 q j = Ib q j := fun q j _ => by rw [hIb]
  clear hIb
  refine fc_C_turns_5 M fu o0 o1 a2 m_o1_15_40 m_o0_1 m_o0_2 m_o0_3 m_o0_4 m_o0_5 m_o0_6 m_o1_7 m_o1_8 m_o1_10 m_o1_11 m_o1_12 m_o1_39 m_o0_0c5 m_o0_0c7 m_o0_0c8 m_o0_0c9 m_o0_0c10 m_o0_0c11 m_o1_0c6 m_o1_0c7 m_o1_13c5 m_o1_13c6 m_o1_13c7 m_o1_13c8 m_o1_13c9 m_o1_13c10 m_o1_13c11 m_o1_13c12 m_o1_13c13 m_o1_13c14 m_o1_13c15 m_o1_14c0 m_o1_14c1 m_o1_14c2 m_o1_14c3 fu 0 0 I0 f0 hf
theorem fc_M_allWait_4 (M : Nat → Nat → Prop) (fu : Nat) {r : Int × IMem} {Ib : IMem} (o0 : Nat) : ∀ (m : Nat) (w1 : Int) (w2 : Int) (I0 : IMem), (∀ q j, ¬ M q j → I0 q j = Ib q j) → f_M_allWait_4 fu o0 m w1 w2 I0 = some r → ∀ q j, ¬ M q j → r.2 q j = Ib q j := by
  intro m
  induction m with
  | zero => intro w1 w2 I0 _ hf; cases hf
  | succ m hR_ =>
    intro w1 w2 I0 fI0 hf
    replace hf : fb_M_allWait_4 fu o0 (f_M_allWait_4 fu o0 m) w1 w2 I0 = some r := hf
    unfold fb_M_allWait_4 at hf
    rcases of_ite hf with ⟨_, hf⟩ | ⟨_, hf⟩
    · cases hf; exact fI0
    · obtain ⟨x1, -, hf⟩ := of_zl hf
      obtain ⟨g_1, hf⟩ := of_zg hf
      obtain ⟨x2, -, hf⟩ := of_zl hf
      obtain ⟨x3, -, hf⟩ := of_zl hf
      exact hR_ x2 x3 I0 fI0 hf
theorem fc_M_allWait (M : Nat → Nat → Prop) (fu : Nat) (o0 : Nat) (I0 : IMem) {r : Int × IMem} (hf : f_M_allWait fu o0 I0 = some r) : ∀ q j, ¬ M q j → r.2 q j = I0 q j := by
  unfold f_M_allWait at hf
  obtain ⟨Ib, hIb⟩ : ∃ Ib : IMem, Ib = I0 := ⟨I0, rfl⟩
  rw [← hIb]
  have f0 : ∀ q j, ¬ M q j → I0 q j = Ib q j := fun q j _ => by rw [hIb]
  clear hIb
  refine fc_M_allWait_4 M fu o0 fu 0 1 I0 f0 hf
theorem fc_M_longest_4 (M : Nat → Nat → Prop) (fu : Nat) {r : Int × IMem} {Ib : IMem} (o0 : Nat) : ∀ (m : Nat) (w1 : Int) (w2 : Int) (I0 : IMem), (∀ q j, ¬ M q j → I0 q j = Ib q j) → f_M_longest_4 fu o0 m w1 w2 I0 = some r → ∀ q j, ¬ M q j → r.2 q j = Ib q j := by
  intro m
  induction m with
  | zero => intro w1 w2 I0 _ hf; cases hf
  | succ m hR_ =>
    intro w1 w2 I0 fI0 hf
    replace hf : fb_M_longest_4 fu o0 (f_M_longest_4 fu o0 m) w1 w2 I0 = some r := hf
    unfold fb_M_longest_4 at hf
    rcases of_ite hf with ⟨_, hf⟩ | ⟨_, hf⟩
    · cases hf; exact fI0
    · obtain ⟨x1, -, hf⟩ := of_zl hf
      obtain ⟨g_1, hf⟩ := of_zg hf
      obtain ⟨y2, I3, c_2, hf⟩ := of_zb hf
      have fI3 := fcz_t (fc_JM_max M fu w1 (I0 (o0 + 11) x1.toNat) I0 c_2) fI0
      obtain ⟨x5, -, hf⟩ := of_zl hf
      exact hR_ y2 x5 I3 fI3 hf
theorem fc_M_longest (M : Nat → Nat → Prop) (fu : Nat) (o0 : Nat) (I0 : IMem) {r : Int × IMem} (hf : f_M_longest fu o0 I0 = some r) : ∀ q j, ¬ M q j → r.2 q j = I0 q j := by
  unfold f_M_longest at hf
  obtain ⟨Ib, hIb⟩ : ∃ Ib : IMem, Ib = I0 := ⟨I0, rfl⟩
  rw [← hIb]
  have f0 : ∀ q j, ¬ M q j → I0 q j = Ib q j := fun q j _ => by rw [hIb]
  clear hIb
  refine fc_M_longest_4 M fu o0 fu 0 1 I0 f0 hf
theorem fc_M_gained (M : Nat → Nat → Prop) (fu : Nat) (o0 : Nat) (o1 : Nat) (a2 : Int) (I0 : IMem) {r : Int × IMem} (hf : f_M_gained fu o0 o1 a2 I0 = some r) : ∀ q j, ¬ M q j → r.2 q j = I0 q j := by
  unfold f_M_gained at hf
  obtain ⟨Ib, hIb⟩ : ∃ Ib : IMem, Ib = I0 := ⟨I0, rfl⟩
  rw [← hIb]
  have f0 : ∀ q j, ¬ M q j → I0 q j = Ib q j := fun q j _ => by rw [hIb]
  clear hIb
  rcases of_ite hf with ⟨_, hf⟩ | ⟨_, hf⟩
  · cases hf; exact f0
  · rcases of_ite hf with ⟨_, hf⟩ | ⟨_, hf⟩
    · cases hf; exact f0
    · rcases of_ite hf with ⟨_, hf⟩ | ⟨_, hf⟩
      · obtain ⟨y4, I5, c_1, hf⟩ := of_zb hf
        have fI5 := fcz_t (fc_M_allWait M fu (o0 + 1) I0 c_1) f0
        obtain ⟨y7, I8, c_2, hf⟩ := of_zb hf
        have fI8 := fcz_t (fc_M_allWait M fu o1 I5 c_2) fI5
        cases hf; exact fI8
      · rcases of_ite hf with ⟨_, hf⟩ | ⟨_, hf⟩
        · cases hf; exact f0
        · rcases of_ite hf with ⟨_, hf⟩ | ⟨_, hf⟩
          · cases hf; exact f0
          · obtain ⟨y12, I13, c_3, hf⟩ := of_zb hf
            have fI13 := fcz_t (fc_M_longest M fu o0 I0 c_3) f0
            cases hf; exact fI13
theorem fc_L_copyFrom (M : Nat → Nat → Prop) (fu : Nat) (o0 : Nat) (o1 : Nat) (I0 : IMem) {r : Int × IMem} (m_o0_1 : ∀ j, M (o0 + 1) j) (m_o0_2 : ∀ j, M (o0 + 2) j) (m_o0_3 : ∀ j, M (o0 + 3) j) (hf : f_L_copyFrom fu o0 o1 I0 = some r) : ∀ q j, ¬ M q j → r.2 q j = I0 q j := by
  unfold f_L_copyFrom at hf
  obtain ⟨Ib, hIb⟩ : ∃ Ib : IMem, Ib = I0 := ⟨I0, rfl⟩
  rw [← hIb]
  have f0 : ∀ q j, ¬ M q j → I0 q j = Ib q j := fun q j _ => by rw [hIb]
  clear hIb
  obtain ⟨g_1, hf⟩ := of_zg hf
  obtain ⟨I1, fI1, hf⟩ := fcz_c m_o0_1 f0 hf
  obtain ⟨g_2, hf⟩ := of_zg hf
  obtain ⟨I2, fI2, hf⟩ := fcz_c m_o0_2 fI1 hf
  obtain ⟨g_3, hf⟩ := of_zg hf
  obtain ⟨I3, fI3, hf⟩ := fcz_c m_o0_3 fI2 hf
  cases hf; exact fI3
theorem fc_H_copyFrom_2 (M : Nat → Nat → Prop) (fu : Nat) {r : Int × IMem} {Ib : IMem} (k_41 : IMem → Res) (o0 : Nat) (o1 : Nat) (m_o0_15_40 : ∀ q, o0 + 15 ≤ q → q < o0 + 40 → ∀ j, M q j) (hk_41 : ∀ (I9 : IMem), (∀ q j, ¬ M q j → I9 q j = Ib q j) → k_41 I9 = some r → ∀ q j, ¬ M q j → r.2 q j = Ib q j) : ∀ (m : Nat) (w2 : Int) (I0 : IMem), (∀ q j, ¬ M q j → I0 q j = Ib q j) → f_H_copyFrom_2 fu k_41 o0 o1 m w2 I0 = some r → ∀ q j, ¬ M q j → r.2 q j = Ib q j := by
  intro m
  induction m with
  | zero => intro w2 I0 _ hf; cases hf
  | succ m hR_ =>
    intro w2 I0 fI0 hf
    replace hf : fb_H_copyFrom_2 fu k_41 o0 o1 (f_H_copyFrom_2 fu k_41 o0 o1 m) w2 I0 = some r := hf
    unfold fb_H_copyFrom_2 at hf
    rcases of_ite hf with ⟨_, hf⟩ | ⟨_, hf⟩
    · rcases of_ite hf with ⟨_, hf⟩ | ⟨_, hf⟩
      · obtain ⟨g_1, hf⟩ := of_zg hf
        obtain ⟨g_2, hf⟩ := of_zg hf
        obtain ⟨u_4, I4, c_3, hf⟩ := of_zb hf
        have fI4 := fcz_t (fc_W_copyFrom M fu (o0 + 15 + 5 * w2.toNat) (o1 + 15 + 5 * w2.toNat) I0 (m_o0_15_40 _ (by omega) (by omega)) (m_o0_15_40 _ (by omega) (by omega)) (m_o0_15_40 _ (by omega) (by omega)) (m_o0_15_40 _ (by omega) (by omega) 1) (m_o0_15_40 _ (by omega) (by omega) 4) c_3) fI0
        obtain ⟨x6, -, hf⟩ := of_zl hf
        exact hR_ x6 I4 fI4 hf
      · exact hk_41 I0 fI0 hf
    · exact hk_41 I0 fI0 hf
theorem fc_H_copyFrom (M : Nat → Nat → Prop) (fu : Nat) (o0 : Nat) (o1 : Nat) (I0 : IMem) {r : Int × IMem} (m_o0_15_40 : ∀ q, o0 + 15 ≤ q → q < o0 + 40 → ∀ j, M q j) (m_o0_1 : ∀ j, M (o0 + 1) j) (m_o0_3 : ∀ j, M (o0 + 3) j) (m_o0_4 : ∀ j, M (o0 + 4) j) (m_o0_5 : ∀ j, M (o0 + 5) j) (m_o0_7 : ∀ j, M (o0 + 7) j) (m_o0_8 : ∀ j, M (o0 + 8) j) (m_o0_9 : ∀ j, M (o0 + 9) j) (m_o0_10 : ∀ j, M (o0 + 10) j) (m_o0_11 : ∀ j, M (o0 + 11) j) (m_o0_12 : ∀ j, M (o0 + 12) j) (m_o0_0c6 : M o0 6) (m_o0_0c7 : M o0 7) (m_o0_0c11 : M o0 11) (hf : f_H_copyFrom fu o0 o1 I0 = some r) : ∀ q j, ¬ M q j → r.2 q j = I0 q j := by
  unfold f_H_copyFrom at hf
  obtain ⟨Ib, hIb⟩ : ∃ Ib : IMem, Ib = I0 := ⟨I0, rfl⟩
  rw [← hIb]
  have f0 : ∀ q j, ¬ M q j → I0 q j = Ib q j := fun q j _ => by rw [hIb]
  clear hIb
  refine fc_H_copyFrom_2 M fu _ o0 o1 m_o0_15_40 ?_ fu 0 I0 f0 hf
  · intro I7 fI7 hf
    obtain ⟨u_2, I9, c_1, hf⟩ := of_zb hf
    have fI9 := fcz_t (fc_L_copyFrom M fu (o0 + 6) (o1 + 6) I7 m_o0_7 m_o0_8 m_o0_9 c_1) fI7
    obtain ⟨g_3, hf⟩ := of_zg hf
    obtain ⟨I11, fI11, hf⟩ := fcz_c m_o0_1 fI9 hf
    obtain ⟨g_4, hf⟩ := of_zg hf
    obtain ⟨I12, fI12, hf⟩ := fcz_c m_o0_3 fI11 hf
    obtain ⟨g_5, hf⟩ := of_zg hf
    obtain ⟨I13, fI13, hf⟩ := fcz_c m_o0_4 fI12 hf
    obtain ⟨g_6, hf⟩ := of_zg hf
    obtain ⟨I14, fI14, hf⟩ := fcz_c m_o0_5 fI13 hf
    obtain ⟨g_7, hf⟩ := of_zg hf
    obtain ⟨I15, fI15, hf⟩ := fcz_c m_o0_10 fI14 hf
    obtain ⟨g_8, hf⟩ := of_zg hf
    obtain ⟨I16, fI16, hf⟩ := fcz_c m_o0_11 fI15 hf
    obtain ⟨g_9, hf⟩ := of_zg hf
    obtain ⟨I17, fI17, hf⟩ := fcz_c m_o0_12 fI16 hf
    obtain ⟨I18, fI18, hf⟩ := fcz_w m_o0_0c6 fI17 hf
    obtain ⟨I19, fI19, hf⟩ := fcz_w m_o0_0c7 fI18 hf
    obtain ⟨I20, fI20, hf⟩ := fcz_w m_o0_0c11 fI19 hf
    cases hf; exact fI20
theorem fc_M_imagine (M : Nat → Nat → Prop) (fu : Nat) (o0 : Nat) (o1 : Nat) (a2 : Int) (a3 : Int) (a4 : Int) (a5 : Int) (I0 : IMem) {r : Int × IMem} (m_o0_16_41 : ∀ q, o0 + 16 ≤ q → q < o0 + 41 → ∀ j, M q j) (m_o0_2 : ∀ j, M (o0 + 2) j) (m_o0_4 : ∀ j, M (o0 + 4) j) (m_o0_5 : ∀ j, M (o0 + 5) j) (m_o0_6 : ∀ j, M (o0 + 6) j) (m_o0_8 : ∀ j, M (o0 + 8) j) (m_o0_9 : ∀ j, M (o0 + 9) j) (m_o0_10 : ∀ j, M (o0 + 10) j) (m_o0_11 : ∀ j, M (o0 + 11) j) (m_o0_12 : ∀ j, M (o0 + 12) j) (m_o0_13 : ∀ j, M (o0 + 13) j) (m_o0_40 : ∀ j, M (o0 + 40) j) (m_o0_42 : ∀ j, M (o0 + 42) j) (m_o0_43 : ∀ j, M (o0 + 43) j) (m_o0_44 : ∀ j, M (o0 + 44) j) (m_o0_45 : ∀ j, M (o0 + 45) j) (m_o0_46 : ∀ j, M (o0 + 46) j) (m_o0_47 : ∀ j, M (o0 + 47) j) (m_o0_1c6 : M (o0 + 1) 6) (m_o0_1c7 : M (o0 + 1) 7) (m_o0_1c11 : M (o0 + 1) 11) (m_o0_14c5 : M (o0 + 14) 5) (m_o0_14c6 : M (o0 + 14) 6) (m_o0_14c7 : M (o0 + 14) 7) (m_o0_14c8 : M (o0 + 14) 8) (m_o0_14c9 : M (o0 + 14) 9) (m_o0_14c10 : M (o0 + 14) 10) (m_o0_14c11 : M (o0 + 14) 11) (m_o0_14c12 : M (o0 + 14) 12) (m_o0_14c13 : M (o0 + 14) 13) (m_o0_14c14 : M (o0 + 14) 14) (m_o0_14c15 : M (o0 + 14) 15) (m_o0_15c0 : M (o0 + 15) 0) (m_o0_15c1 : M (o0 + 15) 1) (m_o0_15c2 : M (o0 + 15) 2) (m_o0_15c3 : M (o0 + 15) 3) (m_o0_41c5 : M (o0 + 41) 5) (m_o0_41c7 : M (o0 + 41) 7) (m_o0_41c8 : M (o0 + 41) 8) (m_o0_41c9 : M (o0 + 41) 9) (m_o0_41c10 : M (o0 + 41) 10) (m_o0_41c11 : M (o0 + 41) 11) (hf : f_M_imagine fu o0 o1 a2 a3 a4 a5 I0 = some r) : ∀ q j, ¬ M q j → r.2 q j = I0 q j := by
  unfold f_M_imagine at hf
  obtain ⟨Ib, hIb⟩ : ∃ Ib : IMem, Ib = I0 := ⟨I0, rfl⟩
  rw [← hIb]
  have f0 : ∀ q j, ¬ M q j → I0 q j = Ib q j := fun q j _ => by rw [hIb]
  clear hIb
  obtain ⟨u_2, I2, c_1, hf⟩ := of_zb hf
  have fI2 := fcz_t (fc_H_copyFrom M fu (o0 + 1) o1 I0 m_o0_16_41 m_o0_2 m_o0_4 m_o0_5 m_o0_6 m_o0_8 m_o0_9 m_o0_10 m_o0_11 m_o0_12 m_o0_13 m_o0_1c6 m_o0_1c7 m_o0_1c11 c_1) f0
  obtain ⟨I4, fI4, hf⟩ := fcz_w (m_o0_2 5) fI2 hf
  obtain ⟨I5, fI5, hf⟩ := fcz_w (m_o0_2 4) fI4 hf
  obtain ⟨I6, fI6, hf⟩ := fcz_w (m_o0_2 0) fI5 hf
  obtain ⟨y7, I8, c_3, hf⟩ := of_zb hf
  have fI8 := fcz_t (fc_C_turns M fu (o0 + 41) (o0 + 1) a5 I6 m_o0_16_41 m_o0_42 m_o0_43 m_o0_44 m_o0_45 m_o0_46 m_o0_47 m_o0_8 m_o0_9 m_o0_11 m_o0_12 m_o0_13 m_o0_40 m_o0_41c5 m_o0_41c7 m_o0_41c8 m_o0_41c9 m_o0_41c10 m_o0_41c11 m_o0_1c6 m_o0_1c7 m_o0_14c5 m_o0_14c6 m_o0_14c7 m_o0_14c8 m_o0_14c9 m_o0_14c10 m_o0_14c11 m_o0_14c12 m_o0_14c13 m_o0_14c14 m_o0_14c15 m_o0_15c0 m_o0_15c1 m_o0_15c2 m_o0_15c3 c_3) fI6
  cases hf; exact fI8
theorem fc_S_thought (M : Nat → Nat → Prop) (fu : Nat) (o0 : Nat) (a1 : Int) (a2 : Int) (a3 : Int) (a4 : Int) (a5 : Int) (I0 : IMem) {r : Int × IMem} (m_o0_97_122 : ∀ q, o0 + 97 ≤ q → q < o0 + 122 → ∀ j, M q j) (m_o0_83 : ∀ j, M (o0 + 83) j) (m_o0_85 : ∀ j, M (o0 + 85) j) (m_o0_86 : ∀ j, M (o0 + 86) j) (m_o0_87 : ∀ j, M (o0 + 87) j) (m_o0_89 : ∀ j, M (o0 + 89) j) (m_o0_90 : ∀ j, M (o0 + 90) j) (m_o0_91 : ∀ j, M (o0 + 91) j) (m_o0_92 : ∀ j, M (o0 + 92) j) (m_o0_93 : ∀ j, M (o0 + 93) j) (m_o0_94 : ∀ j, M (o0 + 94) j) (m_o0_121 : ∀ j, M (o0 + 121) j) (m_o0_123 : ∀ j, M (o0 + 123) j) (m_o0_124 : ∀ j, M (o0 + 124) j) (m_o0_125 : ∀ j, M (o0 + 125) j) (m_o0_126 : ∀ j, M (o0 + 126) j) (m_o0_127 : ∀ j, M (o0 + 127) j) (m_o0_128 : ∀ j, M (o0 + 128) j) (m_o0_82c6 : M (o0 + 82) 6) (m_o0_82c7 : M (o0 + 82) 7) (m_o0_82c11 : M (o0 + 82) 11) (m_o0_95c5 : M (o0 + 95) 5) (m_o0_95c6 : M (o0 + 95) 6) (m_o0_95c7 : M (o0 + 95) 7) (m_o0_95c8 : M (o0 + 95) 8) (m_o0_95c9 : M (o0 + 95) 9) (m_o0_95c10 : M (o0 + 95) 10) (m_o0_95c11 : M (o0 + 95) 11) (m_o0_95c12 : M (o0 + 95) 12) (m_o0_95c13 : M (o0 + 95) 13) (m_o0_95c14 : M (o0 + 95) 14) (m_o0_95c15 : M (o0 + 95) 15) (m_o0_96c0 : M (o0 + 96) 0) (m_o0_96c1 : M (o0 + 96) 1) (m_o0_96c2 : M (o0 + 96) 2) (m_o0_96c3 : M (o0 + 96) 3) (m_o0_122c5 : M (o0 + 122) 5) (m_o0_122c7 : M (o0 + 122) 7) (m_o0_122c8 : M (o0 + 122) 8) (m_o0_122c9 : M (o0 + 122) 9) (m_o0_122c10 : M (o0 + 122) 10) (m_o0_122c11 : M (o0 + 122) 11) (hf : f_S_thought fu o0 a1 a2 a3 a4 a5 I0 = some r) : ∀ q j, ¬ M q j → r.2 q j = I0 q j := by
  unfold f_S_thought at hf
  obtain ⟨Ib, hIb⟩ : ∃ Ib : IMem, Ib = I0 := ⟨I0, rfl⟩
  rw [← hIb]
  have f0 : ∀ q j, ¬ M q j → I0 q j = Ib q j := fun q j _ => by rw [hIb]
  clear hIb
  obtain ⟨y1, I2, c_1, hf⟩ := of_zb hf
  have fI2 := fcz_t (fc_S_canTell M fu 5 a1 I0 c_1) f0
  rcases of_ite hf with ⟨_, hf⟩ | ⟨_, hf⟩
  · cases hf; exact fI2
  · obtain ⟨y4, I5, c_2, hf⟩ := of_zb hf
    have fI5 := fcz_t (fc_S_canTell M fu 4 a2 I2 c_2) fI2
    rcases of_ite hf with ⟨_, hf⟩ | ⟨_, hf⟩
    · cases hf; exact fI5
    · obtain ⟨y7, I8, c_3, hf⟩ := of_zb hf
      have fI8 := fcz_t (fc_S_canTell M fu 0 a3 I5 c_3) fI5
      rcases of_ite hf with ⟨_, hf⟩ | ⟨_, hf⟩
      · cases hf; exact fI8
      · rcases of_ite hf with ⟨_, hf⟩ | ⟨_, hf⟩
        · cases hf; exact fI8
        · rcases of_ite hf with ⟨_, hf⟩ | ⟨_, hf⟩
          · cases hf; exact fI8
          · rcases of_ite hf with ⟨_, hf⟩ | ⟨_, hf⟩
            · cases hf; exact fI8
            · rcases of_ite hf with ⟨_, hf⟩ | ⟨_, hf⟩
              · cases hf; exact fI8
              · obtain ⟨u_5, I11, c_4, hf⟩ := of_zb hf
                have fI11 := fcz_t (fc_M_imagine M fu (o0 + 81) (o0 + 1) a1 a2 a3 a4 I8 m_o0_97_122 m_o0_83 m_o0_85 m_o0_86 m_o0_87 m_o0_89 m_o0_90 m_o0_91 m_o0_92 m_o0_93 m_o0_94 m_o0_121 m_o0_123 m_o0_124 m_o0_125 m_o0_126 m_o0_127 m_o0_128 m_o0_82c6 m_o0_82c7 m_o0_82c11 m_o0_95c5 m_o0_95c6 m_o0_95c7 m_o0_95c8 m_o0_95c9 m_o0_95c10 m_o0_95c11 m_o0_95c12 m_o0_95c13 m_o0_95c14 m_o0_95c15 m_o0_96c0 m_o0_96c1 m_o0_96c2 m_o0_96c3 m_o0_122c5 m_o0_122c7 m_o0_122c8 m_o0_122c9 m_o0_122c10 m_o0_122c11 c_4) fI8
                obtain ⟨y13, I14, c_6, hf⟩ := of_zb hf
                have fI14 := fcz_t (fc_M_gained M fu (o0 + 81) (o0 + 1) a5 I11 c_6) fI11
                cases hf; exact fI14
theorem fc_S_price (M : Nat → Nat → Prop) (fu : Nat) (o0 : Nat) (a1 : Int) (a2 : Int) (I0 : IMem) {r : Int × IMem} (m_o0_97_122 : ∀ q, o0 + 97 ≤ q → q < o0 + 122 → ∀ j, M q j) (m_o0_83 : ∀ j, M (o0 + 83) j) (m_o0_85 : ∀ j, M (o0 + 85) j) (m_o0_86 : ∀ j, M (o0 + 86) j) (m_o0_87 : ∀ j, M (o0 + 87) j) (m_o0_89 : ∀ j, M (o0 + 89) j) (m_o0_90 : ∀ j, M (o0 + 90) j) (m_o0_91 : ∀ j, M (o0 + 91) j) (m_o0_92 : ∀ j, M (o0 + 92) j) (m_o0_93 : ∀ j, M (o0 + 93) j) (m_o0_94 : ∀ j, M (o0 + 94) j) (m_o0_121 : ∀ j, M (o0 + 121) j) (m_o0_123 : ∀ j, M (o0 + 123) j) (m_o0_124 : ∀ j, M (o0 + 124) j) (m_o0_125 : ∀ j, M (o0 + 125) j) (m_o0_126 : ∀ j, M (o0 + 126) j) (m_o0_127 : ∀ j, M (o0 + 127) j) (m_o0_128 : ∀ j, M (o0 + 128) j) (m_o0_82c6 : M (o0 + 82) 6) (m_o0_82c7 : M (o0 + 82) 7) (m_o0_82c11 : M (o0 + 82) 11) (m_o0_95c5 : M (o0 + 95) 5) (m_o0_95c6 : M (o0 + 95) 6) (m_o0_95c7 : M (o0 + 95) 7) (m_o0_95c8 : M (o0 + 95) 8) (m_o0_95c9 : M (o0 + 95) 9) (m_o0_95c10 : M (o0 + 95) 10) (m_o0_95c11 : M (o0 + 95) 11) (m_o0_95c12 : M (o0 + 95) 12) (m_o0_95c13 : M (o0 + 95) 13) (m_o0_95c14 : M (o0 + 95) 14) (m_o0_95c15 : M (o0 + 95) 15) (m_o0_96c0 : M (o0 + 96) 0) (m_o0_96c1 : M (o0 + 96) 1) (m_o0_96c2 : M (o0 + 96) 2) (m_o0_96c3 : M (o0 + 96) 3) (m_o0_122c5 : M (o0 + 122) 5) (m_o0_122c7 : M (o0 + 122) 7) (m_o0_122c8 : M (o0 + 122) 8) (m_o0_122c9 : M (o0 + 122) 9) (m_o0_122c10 : M (o0 + 122) 10) (m_o0_122c11 : M (o0 + 122) 11) (hf : f_S_price fu o0 a1 a2 I0 = some r) : ∀ q j, ¬ M q j → r.2 q j = I0 q j := by
  unfold f_S_price at hf
  obtain ⟨Ib, hIb⟩ : ∃ Ib : IMem, Ib = I0 := ⟨I0, rfl⟩
  rw [← hIb]
  have f0 : ∀ q j, ¬ M q j → I0 q j = Ib q j := fun q j _ => by rw [hIb]
  clear hIb
  obtain ⟨y1, I2, c_1, hf⟩ := of_zb hf
  have fI2 := fcz_t (fc_S_canTell M fu 4 a1 I0 c_1) f0
  rcases of_ite hf with ⟨_, hf⟩ | ⟨_, hf⟩
  · cases hf; exact fI2
  · rcases of_ite hf with ⟨_, hf⟩ | ⟨_, hf⟩
    · cases hf; exact fI2
    · rcases of_ite hf with ⟨_, hf⟩ | ⟨_, hf⟩
      · cases hf; exact fI2
      · obtain ⟨x4, -, hf⟩ := of_zl hf
        obtain ⟨x5, -, hf⟩ := of_zl hf
        obtain ⟨u_3, I7, c_2, hf⟩ := of_zb hf
        have fI7 := fcz_t (fc_M_imagine M fu (o0 + 81) (o0 + 1) x4 a1 x5 a2 I2 m_o0_97_122 m_o0_83 m_o0_85 m_o0_86 m_o0_87 m_o0_89 m_o0_90 m_o0_91 m_o0_92 m_o0_93 m_o0_94 m_o0_121 m_o0_123 m_o0_124 m_o0_125 m_o0_126 m_o0_127 m_o0_128 m_o0_82c6 m_o0_82c7 m_o0_82c11 m_o0_95c5 m_o0_95c6 m_o0_95c7 m_o0_95c8 m_o0_95c9 m_o0_95c10 m_o0_95c11 m_o0_95c12 m_o0_95c13 m_o0_95c14 m_o0_95c15 m_o0_96c0 m_o0_96c1 m_o0_96c2 m_o0_96c3 m_o0_122c5 m_o0_122c7 m_o0_122c8 m_o0_122c9 m_o0_122c10 m_o0_122c11 c_2) fI2
        obtain ⟨y9, I10, c_4, hf⟩ := of_zb hf
        have fI10 := fcz_t (fc_M_gained M fu (o0 + 81) (o0 + 1) 0 I7 c_4) fI7
        obtain ⟨u_6, I13, c_5, hf⟩ := of_zb hf
        have fI13 := fcz_t (fc_M_imagine M fu (o0 + 81) (o0 + 1) x4 0 x5 a2 I10 m_o0_97_122 m_o0_83 m_o0_85 m_o0_86 m_o0_87 m_o0_89 m_o0_90 m_o0_91 m_o0_92 m_o0_93 m_o0_94 m_o0_121 m_o0_123 m_o0_124 m_o0_125 m_o0_126 m_o0_127 m_o0_128 m_o0_82c6 m_o0_82c7 m_o0_82c11 m_o0_95c5 m_o0_95c6 m_o0_95c7 m_o0_95c8 m_o0_95c9 m_o0_95c10 m_o0_95c11 m_o0_95c12 m_o0_95c13 m_o0_95c14 m_o0_95c15 m_o0_96c0 m_o0_96c1 m_o0_96c2 m_o0_96c3 m_o0_122c5 m_o0_122c7 m_o0_122c8 m_o0_122c9 m_o0_122c10 m_o0_122c11 c_5) fI10
        obtain ⟨y15, I16, c_7, hf⟩ := of_zb hf
        have fI16 := fcz_t (fc_M_gained M fu (o0 + 81) (o0 + 1) 0 I13 c_7) fI13
        cases hf; exact fI16
theorem fc_M_bestSet_3 (M : Nat → Nat → Prop) (fu : Nat) {r : Int × IMem} {Ib : IMem} (k_124 : IMem → Res) (o0 : Nat) (o1 : Nat) (p2 : Int) (p3 : Int) (m_o0_16_41 : ∀ q, o0 + 16 ≤ q → q < o0 + 41 → ∀ j, M q j) (m_o0_2 : ∀ j, M (o0 + 2) j) (m_o0_4 : ∀ j, M (o0 + 4) j) (m_o0_5 : ∀ j, M (o0 + 5) j) (m_o0_6 : ∀ j, M (o0 + 6) j) (m_o0_8 : ∀ j, M (o0 + 8) j) (m_o0_9 : ∀ j, M (o0 + 9) j) (m_o0_10 : ∀ j, M (o0 + 10) j) (m_o0_11 : ∀ j, M (o0 + 11) j) (m_o0_12 : ∀ j, M (o0 + 12) j) (m_o0_13 : ∀ j, M (o0 + 13) j) (m_o0_40 : ∀ j, M (o0 + 40) j) (m_o0_42 : ∀ j, M (o0 + 42) j) (m_o0_43 : ∀ j, M (o0 + 43) j) (m_o0_44 : ∀ j, M (o0 + 44) j) (m_o0_45 : ∀ j, M (o0 + 45) j) (m_o0_46 : ∀ j, M (o0 + 46) j) (m_o0_47 : ∀ j, M (o0 + 47) j) (m_o0_1c6 : M (o0 + 1) 6) (m_o0_1c7 : M (o0 + 1) 7) (m_o0_1c11 : M (o0 + 1) 11) (m_o0_14c5 : M (o0 + 14) 5) (m_o0_14c6 : M (o0 + 14) 6) (m_o0_14c7 : M (o0 + 14) 7) (m_o0_14c8 : M (o0 + 14) 8) (m_o0_14c9 : M (o0 + 14) 9) (m_o0_14c10 : M (o0 + 14) 10) (m_o0_14c11 : M (o0 + 14) 11) (m_o0_14c12 : M (o0 + 14) 12) (m_o0_14c13 : M (o0 + 14) 13) (m_o0_14c14 : M (o0 + 14) 14) (m_o0_14c15 : M (o0 + 14) 15) (m_o0_15c0 : M (o0 + 15) 0) (m_o0_15c1 : M (o0 + 15) 1) (m_o0_15c2 : M (o0 + 15) 2) (m_o0_15c3 : M (o0 + 15) 3) (m_o0_41c5 : M (o0 + 41) 5) (m_o0_41c7 : M (o0 + 41) 7) (m_o0_41c8 : M (o0 + 41) 8) (m_o0_41c9 : M (o0 + 41) 9) (m_o0_41c10 : M (o0 + 41) 10) (m_o0_41c11 : M (o0 + 41) 11) (m_o0_48c0 : M (o0 + 48) 0) (m_o0_48c1 : M (o0 + 48) 1) (m_o0_48c2 : M (o0 + 48) 2) (hk_124 : ∀ (I9 : IMem), (∀ q j, ¬ M q j → I9 q j = Ib q j) → k_124 I9 = some r → ∀ q j, ¬ M q j → r.2 q j = Ib q j) : ∀ (m : Nat) (w4 : Int) (I0 : IMem), (∀ q j, ¬ M q j → I0 q j = Ib q j) → f_M_bestSet_3 fu k_124 o0 o1 p2 p3 m w4 I0 = some r → ∀ q j, ¬ M q j → r.2 q j = Ib q j := by
  intro m
  induction m with
  | zero => intro w4 I0 _ hf; cases hf
  | succ m hR_ =>
    intro w4 I0 fI0 hf
    replace hf : fb_M_bestSet_3 fu k_124 o0 o1 p2 p3 (f_M_bestSet_3 fu k_124 o0 o1 p2 p3 m) w4 I0 = some r := hf
    unfold fb_M_bestSet_3 at hf
    rcases of_ite hf with ⟨_, hf⟩ | ⟨_, hf⟩
    · obtain ⟨u_2, I2, c_1, hf⟩ := of_zb hf
      have fI2 := fcz_t (fc_H_copyFrom M fu (o0 + 1) o1 I0 m_o0_16_41 m_o0_2 m_o0_4 m_o0_5 m_o0_6 m_o0_8 m_o0_9 m_o0_10 m_o0_11 m_o0_12 m_o0_13 m_o0_1c6 m_o0_1c7 m_o0_1c11 c_1) fI0
      obtain ⟨I4, fI4, hf⟩ := fcz_w m_o0_1c11 fI2 hf
      obtain ⟨y5, I6, c_3, hf⟩ := of_zb hf
      have fI6 := fcz_t (fc_C_turns M fu (o0 + 41) (o0 + 1) p2 I4 m_o0_16_41 m_o0_42 m_o0_43 m_o0_44 m_o0_45 m_o0_46 m_o0_47 m_o0_8 m_o0_9 m_o0_11 m_o0_12 m_o0_13 m_o0_40 m_o0_41c5 m_o0_41c7 m_o0_41c8 m_o0_41c9 m_o0_41c10 m_o0_41c11 m_o0_1c6 m_o0_1c7 m_o0_14c5 m_o0_14c6 m_o0_14c7 m_o0_14c8 m_o0_14c9 m_o0_14c10 m_o0_14c11 m_o0_14c12 m_o0_14c13 m_o0_14c14 m_o0_14c15 m_o0_15c0 m_o0_15c1 m_o0_15c2 m_o0_15c3 c_3) fI4
      obtain ⟨y8, I9, c_4, hf⟩ := of_zb hf
      have fI9 := fcz_t (fc_M_gained M fu o0 o1 0 I6 c_4) fI6
      obtain ⟨y11, I12, c_5, hf⟩ := of_zb hf
      have fI12 := fcz_t (fc_M_gained M fu o0 o1 2 I9 c_5) fI9
      obtain ⟨k14, ek14, hf⟩ := of_zj hf
      have hk14 : ∀  (I15 : IMem), (∀ q j, ¬ M q j → I15 q j = Ib q j) → k14 I15 = some r → ∀ q j, ¬ M q j → r.2 q j = Ib q j := by
        intro I15 fI15 hf
        subst ek14
        obtain ⟨x16, -, hf⟩ := of_zl hf
        exact hR_ x16 I15 fI15 hf
      obtain ⟨k17, ek17, hf⟩ := of_zj hf
      have hk17 : ∀  (I18 : IMem), (∀ q j, ¬ M q j → I18 q j = Ib q j) → k17 I18 = some r → ∀ q j, ¬ M q j → r.2 q j = Ib q j := by
        intro I18 fI18 hf
        subst ek17
        obtain ⟨I19, fI19, hf⟩ := fcz_w m_o0_48c0 fI18 hf
        obtain ⟨I20, fI20, hf⟩ := fcz_w m_o0_48c1 fI19 hf
        obtain ⟨I21, fI21, hf⟩ := fcz_w m_o0_48c2 fI20 hf
        exact hk14 I21 fI21 hf
      rcases of_ite hf with ⟨_, hf⟩ | ⟨_, hf⟩
      · exact hk17 I12 fI12 hf
      · rcases of_ite hf with ⟨_, hf⟩ | ⟨_, hf⟩
        · exact hk17 I12 fI12 hf
        · rcases of_ite hf with ⟨_, hf⟩ | ⟨_, hf⟩
          · rcases of_ite hf with ⟨_, hf⟩ | ⟨_, hf⟩
            · exact hk17 I12 fI12 hf
            · exact hk14 I12 fI12 hf
          · exact hk14 I12 fI12 hf
    · exact hk_124 I0 fI0 hf
theorem fc_M_bestSet (M : Nat → Nat → Prop) (fu : Nat) (o0 : Nat) (o1 : Nat) (a2 : Int) (a3 : Int) (I0 : IMem) {r : Int × IMem} (m_o0_16_41 : ∀ q, o0 + 16 ≤ q → q < o0 + 41 → ∀ j, M q j) (m_o0_2 : ∀ j, M (o0 + 2) j) (m_o0_4 : ∀ j, M (o0 + 4) j) (m_o0_5 : ∀ j, M (o0 + 5) j) (m_o0_6 : ∀ j, M (o0 + 6) j) (m_o0_8 : ∀ j, M (o0 + 8) j) (m_o0_9 : ∀ j, M (o0 + 9) j) (m_o0_10 : ∀ j, M (o0 + 10) j) (m_o0_11 : ∀ j, M (o0 + 11) j) (m_o0_12 : ∀ j, M (o0 + 12) j) (m_o0_13 : ∀ j, M (o0 + 13) j) (m_o0_40 : ∀ j, M (o0 + 40) j) (m_o0_42 : ∀ j, M (o0 + 42) j) (m_o0_43 : ∀ j, M (o0 + 43) j) (m_o0_44 : ∀ j, M (o0 + 44) j) (m_o0_45 : ∀ j, M (o0 + 45) j) (m_o0_46 : ∀ j, M (o0 + 46) j) (m_o0_47 : ∀ j, M (o0 + 47) j) (m_o0_1c6 : M (o0 + 1) 6) (m_o0_1c7 : M (o0 + 1) 7) (m_o0_1c11 : M (o0 + 1) 11) (m_o0_14c5 : M (o0 + 14) 5) (m_o0_14c6 : M (o0 + 14) 6) (m_o0_14c7 : M (o0 + 14) 7) (m_o0_14c8 : M (o0 + 14) 8) (m_o0_14c9 : M (o0 + 14) 9) (m_o0_14c10 : M (o0 + 14) 10) (m_o0_14c11 : M (o0 + 14) 11) (m_o0_14c12 : M (o0 + 14) 12) (m_o0_14c13 : M (o0 + 14) 13) (m_o0_14c14 : M (o0 + 14) 14) (m_o0_14c15 : M (o0 + 14) 15) (m_o0_15c0 : M (o0 + 15) 0) (m_o0_15c1 : M (o0 + 15) 1) (m_o0_15c2 : M (o0 + 15) 2) (m_o0_15c3 : M (o0 + 15) 3) (m_o0_41c5 : M (o0 + 41) 5) (m_o0_41c7 : M (o0 + 41) 7) (m_o0_41c8 : M (o0 + 41) 8) (m_o0_41c9 : M (o0 + 41) 9) (m_o0_41c10 : M (o0 + 41) 10) (m_o0_41c11 : M (o0 + 41) 11) (m_o0_48c0 : M (o0 + 48) 0) (m_o0_48c1 : M (o0 + 48) 1) (m_o0_48c2 : M (o0 + 48) 2) (hf : f_M_bestSet fu o0 o1 a2 a3 I0 = some r) : ∀ q j, ¬ M q j → r.2 q j = I0 q j := by
  unfold f_M_bestSet at hf
  obtain ⟨Ib, hIb⟩ : ∃ Ib : IMem, Ib = I0 := ⟨I0, rfl⟩
  rw [← hIb]
  have f0 : ∀ q j, ¬ M q j → I0 q j = Ib q j := fun q j _ => by rw [hIb]
  clear hIb
  refine fc_M_bestSet_3 M fu _ o0 o1 a2 a3 m_o0_16_41 m_o0_2 m_o0_4 m_o0_5 m_o0_6 m_o0_8 m_o0_9 m_o0_10 m_o0_11 m_o0_12 m_o0_13 m_o0_40 m_o0_42 m_o0_43 m_o0_44 m_o0_45 m_o0_46 m_o0_47 m_o0_1c6 m_o0_1c7 m_o0_1c11 m_o0_14c5 m_o0_14c6 m_o0_14c7 m_o0_14c8 m_o0_14c9 m_o0_14c10 m_o0_14c11 m_o0_14c12 m_o0_14c13 m_o0_14c14 m_o0_14c15 m_o0_15c0 m_o0_15c1 m_o0_15c2 m_o0_15c3 m_o0_41c5 m_o0_41c7 m_o0_41c8 m_o0_41c9 m_o0_41c10 m_o0_41c11 m_o0_48c0 m_o0_48c1 m_o0_48c2 ?_ fu 0 I0 f0 hf
  · intro I22 fI22 hf
    rcases of_ite hf with ⟨_, hf⟩ | ⟨_, hf⟩
    · cases hf; exact fI22
    · rcases of_ite hf with ⟨_, hf⟩ | ⟨_, hf⟩
      · obtain ⟨g_1, hf⟩ := of_zg hf
        cases hf; exact fI22
      · cases hf; exact fI22
theorem fc_S_which (M : Nat → Nat → Prop) (fu : Nat) (o0 : Nat) (a1 : Int) (a2 : Int) (I0 : IMem) {r : Int × IMem} (m_o0_97_122 : ∀ q, o0 + 97 ≤ q → q < o0 + 122 → ∀ j, M q j) (m_o0_83 : ∀ j, M (o0 + 83) j) (m_o0_85 : ∀ j, M (o0 + 85) j) (m_o0_86 : ∀ j, M (o0 + 86) j) (m_o0_87 : ∀ j, M (o0 + 87) j) (m_o0_89 : ∀ j, M (o0 + 89) j) (m_o0_90 : ∀ j, M (o0 + 90) j) (m_o0_91 : ∀ j, M (o0 + 91) j) (m_o0_92 : ∀ j, M (o0 + 92) j) (m_o0_93 : ∀ j, M (o0 + 93) j) (m_o0_94 : ∀ j, M (o0 + 94) j) (m_o0_121 : ∀ j, M (o0 + 121) j) (m_o0_123 : ∀ j, M (o0 + 123) j) (m_o0_124 : ∀ j, M (o0 + 124) j) (m_o0_125 : ∀ j, M (o0 + 125) j) (m_o0_126 : ∀ j, M (o0 + 126) j) (m_o0_127 : ∀ j, M (o0 + 127) j) (m_o0_128 : ∀ j, M (o0 + 128) j) (m_o0_82c6 : M (o0 + 82) 6) (m_o0_82c7 : M (o0 + 82) 7) (m_o0_82c11 : M (o0 + 82) 11) (m_o0_95c5 : M (o0 + 95) 5) (m_o0_95c6 : M (o0 + 95) 6) (m_o0_95c7 : M (o0 + 95) 7) (m_o0_95c8 : M (o0 + 95) 8) (m_o0_95c9 : M (o0 + 95) 9) (m_o0_95c10 : M (o0 + 95) 10) (m_o0_95c11 : M (o0 + 95) 11) (m_o0_95c12 : M (o0 + 95) 12) (m_o0_95c13 : M (o0 + 95) 13) (m_o0_95c14 : M (o0 + 95) 14) (m_o0_95c15 : M (o0 + 95) 15) (m_o0_96c0 : M (o0 + 96) 0) (m_o0_96c1 : M (o0 + 96) 1) (m_o0_96c2 : M (o0 + 96) 2) (m_o0_96c3 : M (o0 + 96) 3) (m_o0_122c5 : M (o0 + 122) 5) (m_o0_122c7 : M (o0 + 122) 7) (m_o0_122c8 : M (o0 + 122) 8) (m_o0_122c9 : M (o0 + 122) 9) (m_o0_122c10 : M (o0 + 122) 10) (m_o0_122c11 : M (o0 + 122) 11) (m_o0_129c0 : M (o0 + 129) 0) (m_o0_129c1 : M (o0 + 129) 1) (m_o0_129c2 : M (o0 + 129) 2) (hf : f_S_which fu o0 a1 a2 I0 = some r) : ∀ q j, ¬ M q j → r.2 q j = I0 q j := by
  unfold f_S_which at hf
  obtain ⟨Ib, hIb⟩ : ∃ Ib : IMem, Ib = I0 := ⟨I0, rfl⟩
  rw [← hIb]
  have f0 : ∀ q j, ¬ M q j → I0 q j = Ib q j := fun q j _ => by rw [hIb]
  clear hIb
  rcases of_ite hf with ⟨_, hf⟩ | ⟨_, hf⟩
  · cases hf; exact f0
  · rcases of_ite hf with ⟨_, hf⟩ | ⟨_, hf⟩
    · cases hf; exact f0
    · rcases of_ite hf with ⟨_, hf⟩ | ⟨_, hf⟩
      · cases hf; exact f0
      · rcases of_ite hf with ⟨_, hf⟩ | ⟨_, hf⟩
        · cases hf; exact f0
        · obtain ⟨y1, I2, c_1, hf⟩ := of_zb hf
          have fI2 := fcz_t (fc_M_bestSet M fu (o0 + 81) (o0 + 1) a1 a2 I0 m_o0_97_122 m_o0_83 m_o0_85 m_o0_86 m_o0_87 m_o0_89 m_o0_90 m_o0_91 m_o0_92 m_o0_93 m_o0_94 m_o0_121 m_o0_123 m_o0_124 m_o0_125 m_o0_126 m_o0_127 m_o0_128 m_o0_82c6 m_o0_82c7 m_o0_82c11 m_o0_95c5 m_o0_95c6 m_o0_95c7 m_o0_95c8 m_o0_95c9 m_o0_95c10 m_o0_95c11 m_o0_95c12 m_o0_95c13 m_o0_95c14 m_o0_95c15 m_o0_96c0 m_o0_96c1 m_o0_96c2 m_o0_96c3 m_o0_122c5 m_o0_122c7 m_o0_122c8 m_o0_122c9 m_o0_122c10 m_o0_122c11 m_o0_129c0 m_o0_129c1 m_o0_129c2 c_1) f0
          cases hf; exact fI2
