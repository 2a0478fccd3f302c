/-! frames, on -/
theorem fr_C_mostPassed_17 (M : Nat → Prop) (fu : Nat) {r : Int × IMem} {Ib : IMem} (o0 : Nat) (o1 : Nat) (p2 : Int) : ∀ (m : Nat) (w3 : Int) (w4 : Int) (w5 : Int) (I0 : IMem), (∀ q, ¬ M q → I0 q = Ib q) → f_C_mostPassed_17 fu o0 o1 p2 m w3 w4 w5 I0 = some r → ∀ q, ¬ M q → r.2 q = Ib q := by
  intro m
  induction m with
  | zero => intro w3 w4 w5 I0 _ hf; cases hf
  | succ m hR_ =>
    intro w3 w4 w5 I0 fI0 hf
    replace hf : fb_C_mostPassed_17 fu o0 o1 p2 (f_C_mostPassed_17 fu o0 o1 p2 m) w3 w4 w5 I0 = some r := hf
    unfold fb_C_mostPassed_17 at hf
    rcases of_ite hf with ⟨_, hf⟩ | ⟨_, hf⟩
    · rcases of_ite hf with ⟨_, hf⟩ | ⟨_, hf⟩
      · rcases of_ite hf with ⟨_, hf⟩ | ⟨_, hf⟩
        · obtain ⟨g_1, hf⟩ := of_zg hf
          obtain ⟨y3, I4, c_2, hf⟩ := of_zb hf
          have fI4 := fr_tr (fr_L_get M fu (o1 + 6) (I0 (o0 + 5) w5.toNat) 5 I0 c_2) fI0
          obtain ⟨k6, ek6, hf⟩ := of_zj hf
          have hk6 : ∀ (x8 : Int) (x9 : Int) (I7 : IMem), (∀ q, ¬ M q → I7 q = Ib q) → k6 x8 x9 I7 = some r → ∀ q, ¬ M q → r.2 q = Ib q := by
            intro x8 x9 I7 fI7 hf
            subst ek6
            obtain ⟨x10, -, hf⟩ := of_zl hf
            exact hR_ x8 x9 x10 I7 fI7 hf
          rcases of_ite hf with ⟨_, hf⟩ | ⟨_, hf⟩
          · obtain ⟨g_3, hf⟩ := of_zg hf
            obtain ⟨y11, I12, c_4, hf⟩ := of_zb hf
            have fI12 := fr_tr (fr_C_fits M fu o0 o1 (I4 (o0 + 5) w5.toNat) I4 c_4) fI4
            rcases of_ite hf with ⟨_, hf⟩ | ⟨_, hf⟩
            · exact hk6 w3 w4 I12 fI12 hf
            · obtain ⟨g_5, hf⟩ := of_zg hf
              obtain ⟨x14, -, hf⟩ := of_zl hf
              exact hk6 y3 x14 I12 fI12 hf
          · exact hk6 w3 w4 I4 fI4 hf
        · cases hf; exact fI0
      · cases hf; exact fI0
    · cases hf; exact fI0
theorem fr_C_mostPassed (M : Nat → Prop) (fu : Nat) (o0 : Nat) (o1 : Nat) (I0 : IMem) {r : Int × IMem} (hf : f_C_mostPassed fu o0 o1 I0 = some r) : ∀ q, ¬ M q → r.2 q = I0 q := by
  unfold f_C_mostPassed at hf
  obtain ⟨Ib, hIb⟩ : ∃ Ib : IMem, Ib = I0 := ⟨I0, rfl⟩
  rw [← hIb]
  have f0 : ∀ q, ¬ M q → I0 q = Ib q := fun q _ => by rw [hIb]
  clear hIb
  obtain ⟨x1, -, hf⟩ := of_zl hf
  obtain ⟨x2, -, hf⟩ := of_zl hf
  refine fr_C_mostPassed_17 M fu o0 o1 x1 fu x2 ((-1)) 0 I0 f0 hf
theorem fr_L_isPlainAndTrue (M : Nat → Prop) (fu : Nat) (o0 : Nat) (a1 : Int) (I0 : IMem) {r : Int × IMem} (hf : f_L_isPlainAndTrue fu o0 a1 I0 = some r) : ∀ q, ¬ M q → r.2 q = I0 q := by
  unfold f_L_isPlainAndTrue at hf
  obtain ⟨Ib, hIb⟩ : ∃ Ib : IMem, Ib = I0 := ⟨I0, rfl⟩
  rw [← hIb]
  have f0 : ∀ q, ¬ M q → I0 q = Ib q := fun q _ => by rw [hIb]
  clear hIb
  obtain ⟨y1, I2, c_1, hf⟩ := of_zb hf
  have fI2 := fr_tr (fr_L_get M fu o0 a1 3 I0 c_1) f0
  rcases of_ite hf with ⟨_, hf⟩ | ⟨_, hf⟩
  · obtain ⟨y4, I5, c_2, hf⟩ := of_zb hf
    have fI5 := fr_tr (fr_L_get M fu o0 a1 2 I2 c_2) fI2
    obtain ⟨y7, I8, c_3, hf⟩ := of_zb hf
    have fI8 := fr_tr (fr_L_get M fu o0 a1 1 I5 c_3) fI5
    rcases of_ite hf with ⟨_, hf⟩ | ⟨_, hf⟩
    · cases hf; exact fI8
    · cases hf; exact fI8
  · cases hf; exact fI2
theorem fr_C_partThatFits (M : Nat → Prop) (fu : Nat) (o0 : Nat) (o1 : Nat) (a2 : Int) (I0 : IMem) {r : Int × IMem} (hf : f_C_partThatFits fu o0 o1 a2 I0 = some r) : ∀ q, ¬ M q → r.2 q = I0 q := by
  unfold f_C_partThatFits at hf
  obtain ⟨Ib, hIb⟩ : ∃ Ib : IMem, Ib = I0 := ⟨I0, rfl⟩
  rw [← hIb]
  have f0 : ∀ q, ¬ M q → I0 q = Ib q := fun q _ => by rw [hIb]
  clear hIb
  obtain ⟨y1, I2, c_1, hf⟩ := of_zb hf
  have fI2 := fr_tr (fr_L_get M fu (o1 + 6) a2 1 I0 c_1) f0
  rcases of_ite hf with ⟨_, hf⟩ | ⟨_, hf⟩
  · obtain ⟨y4, I5, c_2, hf⟩ := of_zb hf
    have fI5 := fr_tr (fr_C_stands M fu o0 a2 I2 c_2) fI2
    rcases of_ite hf with ⟨_, hf⟩ | ⟨_, hf⟩
    · cases hf; exact fI5
    · obtain ⟨y7, I8, c_3, hf⟩ := of_zb hf
      have fI8 := fr_tr (fr_L_isPlainAndTrue M fu (o1 + 6) a2 I5 c_3) fI5
      rcases of_ite hf with ⟨_, hf⟩ | ⟨_, hf⟩
      · cases hf; exact fI8
      · obtain ⟨k10, ek10, hf⟩ := of_zj hf
        have hk10 : ∀ (x12 : Int) (I11 : IMem), (∀ q, ¬ M q → I11 q = Ib q) → k10 x12 I11 = some r → ∀ q, ¬ M q → r.2 q = Ib q := by
          intro x12 I11 fI11 hf
          subst ek10
          rcases of_ite hf with ⟨_, hf⟩ | ⟨_, hf⟩
          · cases hf; exact fI11
          · obtain ⟨y13, I14, c_4, hf⟩ := of_zb hf
            have fI14 := fr_tr (fr_JM_max M fu x12 (wr32 (y1 - x12)) I11 c_4) fI11
            rcases of_ite hf with ⟨_, hf⟩ | ⟨_, hf⟩
            · rcases of_ite hf with ⟨_, hf⟩ | ⟨_, hf⟩
              · cases hf; exact fI14
              · cases hf; exact fI14
            · cases hf; exact fI14
        rcases of_ite hf with ⟨_, hf⟩ | ⟨_, hf⟩
        · exact hk10 0 I8 fI8 hf
        · rcases of_ite hf with ⟨_, hf⟩ | ⟨_, hf⟩
          · exact hk10 0 I8 fI8 hf
          · obtain ⟨g_5, hf⟩ := of_zg hf
            exact hk10 (I8 (o1 + 3) y1.toNat) I8 fI8 hf
  · cases hf; exact fI2
theorem fr_C_partOne_2 (M : Nat → Prop) (fu : Nat) {r : Int × IMem} {Ib : IMem} (k_71 : Int → Int → IMem → Res) (o0 : Nat) (o1 : Nat) (m_o1_15_40 : ∀ q, o1 + 15 ≤ q → q < o1 + 40 → M q) (m_o1_13 : M (o1 + 13)) (hk_71 : ∀ (z0 : Int) (z1 : Int) (I9 : IMem), (∀ q, ¬ M q → I9 q = Ib q) → k_71 z0 z1 I9 = some r → ∀ q, ¬ M q → r.2 q = Ib q) : ∀ (m : Nat) (w2 : Int) (I0 : IMem), (∀ q, ¬ M q → I0 q = Ib q) → f_C_partOne_2 fu k_71 o0 o1 m w2 I0 = some r → ∀ q, ¬ M q → r.2 q = Ib q := by
  intro m
  induction m with
  | zero => intro w2 I0 _ hf; cases hf
  | succ m hR_ =>
    intro w2 I0 fI0 hf
    replace hf : fb_C_partOne_2 fu k_71 o0 o1 (f_C_partOne_2 fu k_71 o0 o1 m) w2 I0 = some r := hf
    unfold fb_C_partOne_2 at hf
    rcases of_ite hf with ⟨_, hf⟩ | ⟨_, hf⟩
    · rcases of_ite hf with ⟨_, hf⟩ | ⟨_, hf⟩
      · rcases of_ite hf with ⟨_, hf⟩ | ⟨_, hf⟩
        · obtain ⟨g_1, hf⟩ := of_zg hf
          obtain ⟨x1, -, hf⟩ := of_zl hf
          obtain ⟨y2, I3, c_2, hf⟩ := of_zb hf
          have fI3 := fr_tr (fr_C_partThatFits M fu o0 o1 x1 I0 c_2) fI0
          obtain ⟨k5, ek5, hf⟩ := of_zj hf
          have hk5 : ∀  (I6 : IMem), (∀ q, ¬ M q → I6 q = Ib q) → k5 I6 = some r → ∀ q, ¬ M q → r.2 q = Ib q := by
            intro I6 fI6 hf
            subst ek5
            obtain ⟨x7, -, hf⟩ := of_zl hf
            exact hR_ x7 I6 fI6 hf
          rcases of_ite hf with ⟨_, hf⟩ | ⟨_, hf⟩
          · obtain ⟨u_4, I9, c_3, hf⟩ := of_zb hf
            have fI9 := fr_tr (fr_H_weigh M fu o1 x1 (I3 o0 7) (I3 o0 8) I3 m_o1_13 c_3) fI3
            obtain ⟨y11, I12, c_5, hf⟩ := of_zb hf
            have ly11 := lif_at c_5
            have fI12 := fr_tr (fr_H_lawInForce M fu o1 I9 c_5) fI9
            obtain ⟨y14, I15, c_6, hf⟩ := of_zb hf
            have fI15 := fr_tr (fr_W_value M fu (y11.toNat) (o1 + 13) 16 I12 (m_o1_15_40 _ (by omega) (by omega)) c_6) fI12
            rcases of_ite hf with ⟨_, hf⟩ | ⟨_, hf⟩
            · exact hk_71 x1 y2 I15 fI15 hf
            · exact hk5 I15 fI15 hf
          · exact hk5 I3 fI3 hf
        · cases hf; exact fI0
      · cases hf; exact fI0
    · cases hf; exact fI0
theorem fr_C_partOne (M : Nat → Prop) (fu : Nat) (o0 : Nat) (o1 : Nat) (I0 : IMem) {r : Int × IMem} (m_o1_15_40 : ∀ q, o1 + 15 ≤ q → q < o1 + 40 → M q) (m_o0_0 : M o0) (m_o0_1 : M (o0 + 1)) (m_o0_2 : M (o0 + 2)) (m_o0_3 : M (o0 + 3)) (m_o1_7 : M (o1 + 7)) (m_o1_13 : M (o1 + 13)) (hf : f_C_partOne fu o0 o1 I0 = some r) : ∀ q, ¬ M q → r.2 q = I0 q := by
  unfold f_C_partOne at hf
  obtain ⟨Ib, hIb⟩ : ∃ Ib : IMem, Ib = I0 := ⟨I0, rfl⟩
  rw [← hIb]
  have f0 : ∀ q, ¬ M q → I0 q = Ib q := fun q _ => by rw [hIb]
  clear hIb
  refine fr_C_partOne_2 M fu _ o0 o1 m_o1_15_40 m_o1_13 ?_ fu 0 I0 f0 hf
  · intro x18 x19 I17 fI17 hf
    obtain ⟨y20, I21, c_1, hf⟩ := of_zb hf
    have fI21 := fr_tr (fr_L_get M fu (o1 + 6) x18 1 I17 c_1) fI17
    obtain ⟨x23, -, hf⟩ := of_zl hf
    obtain ⟨u_3, I25, c_2, hf⟩ := of_zb hf
    have fI25 := fr_tr (fr_C_sit M fu o0 x18 x19 0 3 I21 m_o0_0 m_o0_1 m_o0_2 m_o0_3 c_2) fI21
    obtain ⟨u_5, I28, c_4, hf⟩ := of_zb hf
    have fI28 := fr_tr (fr_L_put M fu (o1 + 6) x18 1 x23 I25 m_o1_7 c_4) fI25
    obtain ⟨u_7, I31, c_6, hf⟩ := of_zb hf
    have fI31 := fr_tr (fr_L_put M fu (o1 + 6) x18 2 x23 I28 m_o1_7 c_6) fI28
    cases hf; exact fI31
theorem fr_C_worthiest_14 (M : Nat → Prop) (fu : Nat) {r : Int × IMem} {Ib : IMem} (o0 : Nat) (o1 : Nat) (p2 : Int) (o3 : Nat) (m_o0_6 : M (o0 + 6)) (m_o1_13 : M (o1 + 13)) (m_o3_4 : M (o3 + 4)) : ∀ (m : Nat) (w4 : Int) (w5 : Int) (w6 : Int) (I0 : IMem), (∀ q, ¬ M q → I0 q = Ib q) → f_C_worthiest_14 fu o0 o1 p2 o3 m w4 w5 w6 I0 = some r → ∀ q, ¬ M q → r.2 q = Ib q := by
  intro m
  induction m with
  | zero => intro w4 w5 w6 I0 _ hf; cases hf
  | succ m hR_ =>
    intro w4 w5 w6 I0 fI0 hf
    replace hf : fb_C_worthiest_14 fu o0 o1 p2 o3 (f_C_worthiest_14 fu o0 o1 p2 o3 m) w4 w5 w6 I0 = some r := hf
    unfold fb_C_worthiest_14 at hf
    rcases of_ite hf with ⟨_, hf⟩ | ⟨_, hf⟩
    · rcases of_ite hf with ⟨_, hf⟩ | ⟨_, hf⟩
      · obtain ⟨g_1, hf⟩ := of_zg hf
        obtain ⟨y4, I5, c_2, hf⟩ := of_zb hf
        have fI5 := fr_tr (fr_C_fits M fu o0 o1 (I0 (o0 + 5) w6.toNat) I0 c_2) fI0
        obtain ⟨k7, ek7, hf⟩ := of_zj hf
        have hk7 : ∀ (x9 : Int) (x10 : Int) (I8 : IMem), (∀ q, ¬ M q → I8 q = Ib q) → k7 x9 x10 I8 = some r → ∀ q, ¬ M q → r.2 q = Ib q := by
          intro x9 x10 I8 fI8 hf
          subst ek7
          obtain ⟨x11, -, hf⟩ := of_zl hf
          exact hR_ x9 x10 x11 I8 fI8 hf
        rcases of_ite hf with ⟨_, hf⟩ | ⟨_, hf⟩
        · exact hk7 w4 w5 I5 fI5 hf
        · obtain ⟨k12, ek12, hf⟩ := of_zj hf
          have hk12 : ∀  (I13 : IMem), (∀ q, ¬ M q → I13 q = Ib q) → k12 I13 = some r → ∀ q, ¬ M q → r.2 q = Ib q := by
            intro I13 fI13 hf
            subst ek12
            obtain ⟨g_3, hf⟩ := of_zg hf
            rcases of_ite hf with ⟨_, hf⟩ | ⟨_, hf⟩
            · obtain ⟨g_4, hf⟩ := of_zg hf
              obtain ⟨x14, -, hf⟩ := of_zl hf
              obtain ⟨g_5, hf⟩ := of_zg hf
              obtain ⟨x15, -, hf⟩ := of_zl hf
              exact hk7 x14 x15 I13 fI13 hf
            · exact hk7 w4 w5 I13 fI13 hf
          rcases of_ite hf with ⟨_, hf⟩ | ⟨_, hf⟩
          · exact hk12 I5 fI5 hf
          · obtain ⟨g_6, hf⟩ := of_zg hf
            obtain ⟨u_8, I17, c_7, hf⟩ := of_zb hf
            have fI17 := fr_tr (fr_H_weigh M fu o1 (I5 (o0 + 5) w6.toNat) (I5 o0 7) (I5 o0 8) I5 m_o1_13 c_7) fI5
            obtain ⟨y19, I20, c_9, hf⟩ := of_zb hf
            have fI20 := fr_tr (fr_W_value M fu o3 (o1 + 13) 16 I17 m_o3_4 c_9) fI17
            obtain ⟨g_10, hf⟩ := of_zg hf
            obtain ⟨I22, fI22, hf⟩ := fr_zw m_o0_6 fI20 hf
            exact hk12 I22 fI22 hf
      · cases hf; exact fI0
    · cases hf; exact fI0
theorem fr_C_worthiest (M : Nat → Prop) (fu : Nat) (o0 : Nat) (o1 : Nat) (a2 : Int) (I0 : IMem) {r : Int × IMem} (m_o1_15_40 : ∀ q, o1 + 15 ≤ q → q < o1 + 40 → M q) (m_o0_6 : M (o0 + 6)) (m_o1_13 : M (o1 + 13)) (hf : f_C_worthiest fu o0 o1 a2 I0 = some r) : ∀ q, ¬ M q → r.2 q = I0 q := by
  unfold f_C_worthiest at hf
  obtain ⟨Ib, hIb⟩ : ∃ Ib : IMem, Ib = I0 := ⟨I0, rfl⟩
  rw [← hIb]
  have f0 : ∀ q, ¬ M q → I0 q = Ib q := fun q _ => by rw [hIb]
  clear hIb
  obtain ⟨y1, I2, c_1, hf⟩ := of_zb hf
  have ly1 := lif_at c_1
  have fI2 := fr_tr (fr_H_lawInForce M fu o1 I0 c_1) f0
  refine fr_C_worthiest_14 M fu o0 o1 a2 (y1.toNat) m_o0_6 m_o1_13 (m_o1_15_40 _ (by omega) (by omega)) fu 0 ((-1)) 0 I2 fI2 hf
theorem fr_L_listSeen_46 (M : Nat → Prop) (fu : Nat) {r : Int × IMem} {Ib : IMem} (k_79 : Int → IMem → Res) (o0 : Nat) (o1 : Nat) (n1 : Nat) (p2 : Int) (p4 : Int) (p5 : Int) (m_o1_0 : M o1) (hk_79 : ∀ (z0 : Int) (I9 : IMem), (∀ q, ¬ M q → I9 q = Ib q) → k_79 z0 I9 = some r → ∀ q, ¬ M q → r.2 q = Ib q) : ∀ (m : Nat) (w3 : Int) (w6 : Int) (I0 : IMem), (∀ q, ¬ M q → I0 q = Ib q) → f_L_listSeen_46 fu k_79 o0 o1 n1 p2 p4 p5 m w3 w6 I0 = some r → ∀ q, ¬ M q → r.2 q = Ib q := by
  intro m
  induction m with
  | zero => intro w3 w6 I0 _ hf; cases hf
  | succ m hR_ =>
    intro w3 w6 I0 fI0 hf
    replace hf : fb_L_listSeen_46 fu k_79 o0 o1 n1 p2 p4 p5 (f_L_listSeen_46 fu k_79 o0 o1 n1 p2 p4 p5 m) w3 w6 I0 = some r := hf
    unfold fb_L_listSeen_46 at hf
    rcases of_ite hf with ⟨_, hf⟩ | ⟨_, hf⟩
    · obtain ⟨k7, ek7, hf⟩ := of_zj hf
      have hk7 : ∀ (x9 : Int) (I8 : IMem), (∀ q, ¬ M q → I8 q = Ib q) → k7 x9 I8 = some r → ∀ q, ¬ M q → r.2 q = Ib q := by
        intro x9 I8 fI8 hf
        subst ek7
        obtain ⟨x10, -, hf⟩ := of_zl hf
        exact hR_ x9 x10 I8 fI8 hf
      rcases of_ite hf with ⟨_, hf⟩ | ⟨_, hf⟩
      · obtain ⟨g_1, hf⟩ := of_zg hf
        obtain ⟨I11, fI11, hf⟩ := fr_zw m_o1_0 fI0 hf
        obtain ⟨x12, -, hf⟩ := of_zl hf
        exact hk7 x12 I11 fI11 hf
      · exact hk7 w3 I0 fI0 hf
    · exact hk_79 w3 I0 fI0 hf
theorem fr_L_listSeen_5 (M : Nat → Prop) (fu : Nat) {r : Int × IMem} {Ib : IMem} (o0 : Nat) (o1 : Nat) (n1 : Nat) (p2 : Int) (m_o1_0 : M o1) : ∀ (m : Nat) (w3 : Int) (w4 : Int) (I0 : IMem), (∀ q, ¬ M q → I0 q = Ib q) → f_L_listSeen_5 fu o0 o1 n1 p2 m w3 w4 I0 = some r → ∀ q, ¬ M q → r.2 q = Ib q := by
  intro m
  induction m with
  | zero => intro w3 w4 I0 _ hf; cases hf
  | succ m hR_ =>
    intro w3 w4 I0 fI0 hf
    replace hf : fb_L_listSeen_5 fu o0 o1 n1 p2 (f_L_listSeen_5 fu o0 o1 n1 p2 m) w3 w4 I0 = some r := hf
    unfold fb_L_listSeen_5 at hf
    rcases of_ite hf with ⟨_, hf⟩ | ⟨_, hf⟩
    · obtain ⟨g_1, hf⟩ := of_zg hf
      obtain ⟨g_2, hf⟩ := of_zg hf
      obtain ⟨k1, ek1, hf⟩ := of_zj hf
      have hk1 : ∀ (x3 : Int) (I2 : IMem), (∀ q, ¬ M q → I2 q = Ib q) → k1 x3 I2 = some r → ∀ q, ¬ M q → r.2 q = Ib q := by
        intro x3 I2 fI2 hf
        subst ek1
        obtain ⟨y4, I5, c_3, hf⟩ := of_zb hf
        have fI5 := fr_tr (fr_JM_min M fu (I0 (o0 + 2) w4.toNat) (wr32 ((I0 (o0 + 3) w4.toNat) + x3)) I2 c_3) fI2
        refine fr_L_listSeen_46 M fu _ o0 o1 n1 p2 w4 y4 m_o1_0 ?_ fu w3 0 I5 fI5 hf
        · intro x14 I13 fI13 hf
          obtain ⟨x15, -, hf⟩ := of_zl hf
          exact hR_ x14 x15 I13 fI13 hf
      rcases of_ite hf with ⟨_, hf⟩ | ⟨_, hf⟩
      · exact hk1 1 I0 fI0 hf
      · exact hk1 0 I0 fI0 hf
    · cases hf; exact fI0
theorem fr_L_listSeen (M : Nat → Prop) (fu : Nat) (o0 : Nat) (o1 n1 : Nat) (a2 : Int) (I0 : IMem) {r : Int × IMem} (m_o1_0 : M o1) (hf : f_L_listSeen fu o0 o1 n1 a2 I0 = some r) : ∀ q, ¬ M q → r.2 q = I0 q := by
  unfold f_L_listSeen at hf
  obtain ⟨Ib, hIb⟩ : ∃ Ib : IMem, Ib = I0 := ⟨I0, rfl⟩
  rw [← hIb]
  have f0 : ∀ q, ¬ M q → I0 q = Ib q := fun q _ => by rw [hIb]
  clear hIb
  refine fr_L_listSeen_5 M fu o0 o1 n1 a2 m_o1_0 fu 0 0 I0 f0 hf
theorem fr_C_fill_30 (M : Nat → Prop) (fu : Nat) {r : Int × IMem} {Ib : IMem} (k_66 : IMem → Res) (k_127 : IMem → Res) (o0 : Nat) (o1 : Nat) (m_o1_15_40 : ∀ q, o1 + 15 ≤ q → q < o1 + 40 → M q) (m_o0_0 : M o0) (m_o0_1 : M (o0 + 1)) (m_o0_2 : M (o0 + 2)) (m_o0_3 : M (o0 + 3)) (m_o0_4 : M (o0 + 4)) (m_o0_6 : M (o0 + 6)) (m_o1_10 : M (o1 + 10)) (m_o1_13 : M (o1 + 13)) (hk_66 : ∀ (I9 : IMem), (∀ q, ¬ M q → I9 q = Ib q) → k_66 I9 = some r → ∀ q, ¬ M q → r.2 q = Ib q) (hk_127 : ∀ (I9 : IMem), (∀ q, ¬ M q → I9 q = Ib q) → k_127 I9 = some r → ∀ q, ¬ M q → r.2 q = Ib q) : ∀ (m : Nat) (w2 : Int) (w3 : Int) (I0 : IMem), (∀ q, ¬ M q → I0 q = Ib q) → f_C_fill_30 fu k_66 k_127 o0 o1 m w2 w3 I0 = some r → ∀ q, ¬ M q → r.2 q = Ib q := by
  intro m
  induction m with
  | zero => intro w2 w3 I0 _ hf; cases hf
  | succ m hR_ =>
    intro w2 w3 I0 fI0 hf
    replace hf : fb_C_fill_30 fu k_66 k_127 o0 o1 (f_C_fill_30 fu k_66 k_127 o0 o1 m) w2 w3 I0 = some r := hf
    unfold fb_C_fill_30 at hf
    rcases of_ite hf with ⟨_, hf⟩ | ⟨_, hf⟩
    · exact hk_127 I0 fI0 hf
    · obtain ⟨y8, I9, c_1, hf⟩ := of_zb hf
      have fI9 := fr_tr (fr_C_mostPassed M fu o0 o1 I0 c_1) fI0
      obtain ⟨k11, ek11, hf⟩ := of_zj hf
      have hk11 : ∀ (x13 : Int) (x14 : Int) (I12 : IMem), (∀ q, ¬ M q → I12 q = Ib q) → k11 x13 x14 I12 = some r → ∀ q, ¬ M q → r.2 q = Ib q := by
        intro x13 x14 I12 fI12 hf
        subst ek11
        rcases of_ite hf with ⟨_, hf⟩ | ⟨_, hf⟩
        · exact hk_66 I12 fI12 hf
        · obtain ⟨y15, I16, c_2, hf⟩ := of_zb hf
          have fI16 := fr_tr (fr_L_get M fu (o1 + 6) x14 1 I12 c_2) fI12
          obtain ⟨k18, ek18, hf⟩ := of_zj hf
          have hk18 : ∀ (x20 : Int) (I19 : IMem), (∀ q, ¬ M q → I19 q = Ib q) → k18 x20 I19 = some r → ∀ q, ¬ M q → r.2 q = Ib q := by
            intro x20 I19 fI19 hf
            subst ek18
            obtain ⟨x21, -, hf⟩ := of_zl hf
            exact hR_ x20 x21 I19 fI19 hf
          rcases of_ite hf with ⟨_, hf⟩ | ⟨_, hf⟩
          · obtain ⟨u_4, I29, c_3, hf⟩ := of_zb hf
            have fI29 := fr_tr (fr_C_findOut M fu o0 o1 x14 I16 m_o0_0 m_o0_1 m_o0_4 m_o1_10 c_3) fI16
            exact hk18 x13 I29 fI29 hf
          · obtain ⟨y22, I23, c_5, hf⟩ := of_zb hf
            have fI23 := fr_tr (fr_L_get M fu (o1 + 6) x14 3 I16 c_5) fI16
            obtain ⟨u_7, I26, c_6, hf⟩ := of_zb hf
            have fI26 := fr_tr (fr_C_sit M fu o0 x14 y15 y22 1 I23 m_o0_0 m_o0_1 m_o0_2 m_o0_3 c_6) fI23
            exact hk18 1 I26 fI26 hf
      rcases of_ite hf with ⟨_, hf⟩ | ⟨_, hf⟩
      · obtain ⟨y31, I32, c_8, hf⟩ := of_zb hf
        have fI32 := fr_tr (fr_C_worthiest M fu o0 o1 w2 I9 m_o1_15_40 m_o0_6 m_o1_13 c_8) fI9
        exact hk11 0 y31 I32 fI32 hf
      · exact hk11 w2 y8 I9 fI9 hf
theorem fr_C_fill (M : Nat → Prop) (fu : Nat) (o0 : Nat) (o1 : Nat) (I0 : IMem) {r : Int × IMem} (m_o1_15_40 : ∀ q, o1 + 15 ≤ q → q < o1 + 40 → M q) (m_o0_0 : M o0) (m_o0_1 : M (o0 + 1)) (m_o0_2 : M (o0 + 2)) (m_o0_3 : M (o0 + 3)) (m_o0_4 : M (o0 + 4)) (m_o0_5 : M (o0 + 5)) (m_o0_6 : M (o0 + 6)) (m_o1_7 : M (o1 + 7)) (m_o1_10 : M (o1 + 10)) (m_o1_13 : M (o1 + 13)) (hf : f_C_fill fu o0 o1 I0 = some r) : ∀ q, ¬ M q → r.2 q = I0 q := by
  unfold f_C_fill at hf
  obtain ⟨Ib, hIb⟩ : ∃ Ib : IMem, Ib = I0 := ⟨I0, rfl⟩
  rw [← hIb]
  have f0 : ∀ q, ¬ M q → I0 q = Ib q := fun q _ => by rw [hIb]
  clear hIb
  obtain ⟨u_2, I2, c_1, hf⟩ := of_zb hf
  have fI2 := fr_tr (fr_C_clear M fu o0 (I0 (o1 + 1) 0) I0 m_o0_0 m_o0_1 c_1) f0
  obtain ⟨y4, I5, c_3, hf⟩ := of_zb hf
  have fI5 := fr_tr (fr_L_listSeen M fu (o1 + 6) (o0 + 5) 144 ((-1)) I2 m_o0_5 c_3) fI2
  obtain ⟨I7, fI7, hf⟩ := fr_zw m_o0_0 fI5 hf
  refine fr_C_fill_30 M fu _ _ o0 o1 m_o1_15_40 m_o0_0 m_o0_1 m_o0_2 m_o0_3 m_o0_4 m_o0_6 m_o1_10 m_o1_13 ?_ ?_ fu 1 0 I7 fI7 hf
  · intro I34 fI34 hf
    obtain ⟨u_5, I36, c_4, hf⟩ := of_zb hf
    have fI36 := fr_tr (fr_C_partOne M fu o0 o1 I34 m_o1_15_40 m_o0_0 m_o0_1 m_o0_2 m_o0_3 m_o1_7 m_o1_13 c_4) fI34
    cases hf; exact fI36
  · intro I38 fI38 hf
    obtain ⟨u_7, I40, c_6, hf⟩ := of_zb hf
    have fI40 := fr_tr (fr_C_partOne M fu o0 o1 I38 m_o1_15_40 m_o0_0 m_o0_1 m_o0_2 m_o0_3 m_o1_7 m_o1_13 c_6) fI38
    cases hf; exact fI40
theorem fr_C_ride (M : Nat → Prop) (fu : Nat) (o0 : Nat) (o1 : Nat) (I0 : IMem) {r : Int × IMem} (m_o1_15_40 : ∀ q, o1 + 15 ≤ q → q < o1 + 40 → M q) (m_o0_0 : M o0) (m_o0_1 : M (o0 + 1)) (m_o0_2 : M (o0 + 2)) (m_o0_3 : M (o0 + 3)) (m_o0_4 : M (o0 + 4)) (m_o0_5 : M (o0 + 5)) (m_o0_6 : M (o0 + 6)) (m_o1_0 : M o1) (m_o1_7 : M (o1 + 7)) (m_o1_8 : M (o1 + 8)) (m_o1_10 : M (o1 + 10)) (m_o1_11 : M (o1 + 11)) (m_o1_12 : M (o1 + 12)) (m_o1_13 : M (o1 + 13)) (hf : f_C_ride fu o0 o1 I0 = some r) : ∀ q, ¬ M q → r.2 q = I0 q := by
  unfold f_C_ride at hf
  obtain ⟨Ib, hIb⟩ : ∃ Ib : IMem, Ib = I0 := ⟨I0, rfl⟩
  rw [← hIb]
  have f0 : ∀ q, ¬ M q → I0 q = Ib q := fun q _ => by rw [hIb]
  clear hIb
  obtain ⟨u_2, I2, c_1, hf⟩ := of_zb hf
  have fI2 := fr_tr (fr_C_fill M fu o0 o1 I0 m_o1_15_40 m_o0_0 m_o0_1 m_o0_2 m_o0_3 m_o0_4 m_o0_5 m_o0_6 m_o1_7 m_o1_10 m_o1_13 c_1) f0
  obtain ⟨y4, I5, c_3, hf⟩ := of_zb hf
  have fI5 := fr_tr (fr_C_leave M fu o0 o1 I2 m_o1_0 m_o1_7 m_o1_8 m_o1_10 m_o1_11 m_o1_12 c_3) fI2
  cases hf; exact fI5
theorem fr_S_chair (M : Nat → Prop) (fu : Nat) (o0 : Nat) (I0 : IMem) {r : Int × IMem} (m_o0_16_41 : ∀ q, o0 + 16 ≤ q → q < o0 + 41 → M q) (m_o0_1 : M (o0 + 1)) (m_o0_8 : M (o0 + 8)) (m_o0_9 : M (o0 + 9)) (m_o0_11 : M (o0 + 11)) (m_o0_12 : M (o0 + 12)) (m_o0_13 : M (o0 + 13)) (m_o0_14 : M (o0 + 14)) (m_o0_130 : M (o0 + 130)) (m_o0_131 : M (o0 + 131)) (m_o0_132 : M (o0 + 132)) (m_o0_133 : M (o0 + 133)) (m_o0_134 : M (o0 + 134)) (m_o0_135 : M (o0 + 135)) (m_o0_136 : M (o0 + 136)) (m_o0_137 : M (o0 + 137)) (m_o0_138 : M (o0 + 138)) (hf : f_S_chair fu o0 I0 = some r) : ∀ q, ¬ M q → r.2 q = I0 q := by
  unfold f_S_chair at hf
  obtain ⟨Ib, hIb⟩ : ∃ Ib : IMem, Ib = I0 := ⟨I0, rfl⟩
  rw [← hIb]
  have f0 : ∀ q, ¬ M q → I0 q = Ib q := fun q _ => by rw [hIb]
  clear hIb
  obtain ⟨u_2, I2, c_1, hf⟩ := of_zb hf
  have fI2 := fr_tr (fr_S_dropPicked M fu o0 I0 m_o0_137 m_o0_138 c_1) f0
  obtain ⟨y4, I5, c_3, hf⟩ := of_zb hf
  have fI5 := fr_tr (fr_C_ride M fu (o0 + 130) (o0 + 1) I2 m_o0_16_41 m_o0_130 m_o0_131 m_o0_132 m_o0_133 m_o0_134 m_o0_135 m_o0_136 m_o0_1 m_o0_8 m_o0_9 m_o0_11 m_o0_12 m_o0_13 m_o0_14 c_3) fI2
  cases hf; exact fI5
theorem fr_H_letComersEnter_2 (M : Nat → Prop) (fu : Nat) {r : Int × IMem} {Ib : IMem} (o0 : Nat) (m_o0_0 : M o0) (m_o0_7 : M (o0 + 7)) (m_o0_8 : M (o0 + 8)) (m_o0_10 : M (o0 + 10)) (m_o0_13 : M (o0 + 13)) (m_o0_14 : M (o0 + 14)) (m_o0_39 : M (o0 + 39)) : ∀ (m : Nat) (w1 : Int) (I0 : IMem), (∀ q, ¬ M q → I0 q = Ib q) → f_H_letComersEnter_2 fu o0 m w1 I0 = some r → ∀ q, ¬ M q → r.2 q = Ib q := by
  intro m
  induction m with
  | zero => intro w1 I0 _ hf; cases hf
  | succ m hR_ =>
    intro w1 I0 fI0 hf
    replace hf : fb_H_letComersEnter_2 fu o0 (f_H_letComersEnter_2 fu o0 m) w1 I0 = some r := hf
    unfold fb_H_letComersEnter_2 at hf
    rcases of_ite hf with ⟨_, hf⟩ | ⟨_, hf⟩
    · obtain ⟨x1, -, hf⟩ := of_zl hf
      obtain ⟨g_1, hf⟩ := of_zg hf
      obtain ⟨x2, -, hf⟩ := of_zl hf
      obtain ⟨k3, ek3, hf⟩ := of_zj hf
      have hk3 : ∀  (I4 : IMem), (∀ q, ¬ M q → I4 q = Ib q) → k3 I4 = some r → ∀ q, ¬ M q → r.2 q = Ib q := by
        intro I4 fI4 hf
        subst ek3
        obtain ⟨x5, -, hf⟩ := of_zl hf
        exact hR_ x5 I4 fI4 hf
      rcases of_ite hf with ⟨_, hf⟩ | ⟨_, hf⟩
      · obtain ⟨y6, I7, c_2, hf⟩ := of_zb hf
        have fI7 := fr_tr (fr_H_draw M fu o0 1000 I0 m_o0_0 c_2) fI0
        rcases of_ite hf with ⟨_, hf⟩ | ⟨_, hf⟩
        · obtain ⟨g_3, hf⟩ := of_zg hf
          obtain ⟨x9, -, hf⟩ := of_zl hf
          obtain ⟨g_4, hf⟩ := of_zg hf
          obtain ⟨x10, -, hf⟩ := of_zl hf
          obtain ⟨g_5, hf⟩ := of_zg hf
          obtain ⟨y11, I12, c_6, hf⟩ := of_zb hf
          have fI12 := fr_tr (fr_H_enter M fu o0 (I7 (o0 + 4) w1.toNat) (I7 (o0 + 4) x9.toNat) (I7 (o0 + 4) x10.toNat) I7 m_o0_0 m_o0_7 m_o0_8 m_o0_10 m_o0_13 m_o0_14 m_o0_39 c_6) fI7
          exact hk3 I12 fI12 hf
        · exact hk3 I7 fI7 hf
      · exact hk3 I0 fI0 hf
    · cases hf; exact fI0
theorem fr_H_letComersEnter (M : Nat → Prop) (fu : Nat) (o0 : Nat) (I0 : IMem) {r : Int × IMem} (m_o0_0 : M o0) (m_o0_7 : M (o0 + 7)) (m_o0_8 : M (o0 + 8)) (m_o0_10 : M (o0 + 10)) (m_o0_13 : M (o0 + 13)) (m_o0_14 : M (o0 + 14)) (m_o0_39 : M (o0 + 39)) (hf : f_H_letComersEnter fu o0 I0 = some r) : ∀ q, ¬ M q → r.2 q = I0 q := by
  unfold f_H_letComersEnter at hf
  obtain ⟨Ib, hIb⟩ : ∃ Ib : IMem, Ib = I0 := ⟨I0, rfl⟩
  rw [← hIb]
  have f0 : ∀ q, ¬ M q → I0 q = Ib q := fun q _ => by rw [hIb]
  clear hIb
  refine fr_H_letComersEnter_2 M fu o0 m_o0_0 m_o0_7 m_o0_8 m_o0_10 m_o0_13 m_o0_14 m_o0_39 fu 0 I0 f0 hf
theorem fr_C_turns_5 (M : Nat → Prop) (fu : Nat) {r : Int × IMem} {Ib : IMem} (o0 : Nat) (o1 : Nat) (p2 : Int) (m_o1_15_40 : ∀ q, o1 + 15 ≤ q → q < o1 + 40 → M q) (m_o0_0 : M o0) (m_o0_1 : M (o0 + 1)) (m_o0_2 : M (o0 + 2)) (m_o0_3 : M (o0 + 3)) (m_o0_4 : M (o0 + 4)) (m_o0_5 : M (o0 + 5)) (m_o0_6 : M (o0 + 6)) (m_o1_0 : M o1) (m_o1_7 : M (o1 + 7)) (m_o1_8 : M (o1 + 8)) (m_o1_10 : M (o1 + 10)) (m_o1_11 : M (o1 + 11)) (m_o1_12 : M (o1 + 12)) (m_o1_13 : M (o1 + 13)) (m_o1_14 : M (o1 + 14)) : ∀ (m : Nat) (w3 : Int) (w4 : Int) (I0 : IMem), (∀ q, ¬ M q → I0 q = Ib q) → f_C_turns_5 fu o0 o1 p2 m w3 w4 I0 = some r → ∀ q, ¬ M q → r.2 q = Ib q := by
  intro m
  induction m with
  | zero => intro w3 w4 I0 _ hf; cases hf
  | succ m hR_ =>
    intro w3 w4 I0 fI0 hf
    replace hf : fb_C_turns_5 fu o0 o1 p2 (f_C_turns_5 fu o0 o1 p2 m) w3 w4 I0 = some r := hf
    unfold fb_C_turns_5 at hf
    rcases of_ite hf with ⟨_, hf⟩ | ⟨_, hf⟩
    · obtain ⟨u_2, I2, c_1, hf⟩ := of_zb hf
      have fI2 := fr_tr (fr_H_letComersEnter M fu o1 I0 m_o1_0 m_o1_7 m_o1_8 m_o1_10 m_o1_13 m_o1_14 (m_o1_15_40 _ (by omega) (by omega)) c_1) fI0
      obtain ⟨u_4, I5, c_3, hf⟩ := of_zb hf
      have fI5 := fr_tr (fr_C_fill M fu o0 o1 I2 m_o1_15_40 m_o0_0 m_o0_1 m_o0_2 m_o0_3 m_o0_4 m_o0_5 m_o0_6 m_o1_7 m_o1_10 m_o1_13 c_3) fI2
      obtain ⟨y7, I8, c_5, hf⟩ := of_zb hf
      have fI8 := fr_tr (fr_C_leave M fu o0 o1 I5 m_o1_0 m_o1_7 m_o1_8 m_o1_10 m_o1_11 m_o1_12 c_5) fI5
      obtain ⟨x10, -, hf⟩ := of_zl hf
      obtain ⟨x11, -, hf⟩ := of_zl hf
      exact hR_ x10 x11 I8 fI8 hf
    · cases hf; exact fI0
theorem fr_C_turns (M : Nat → Prop) (fu : Nat) (o0 : Nat) (o1 : Nat) (a2 : Int) (I0 : IMem) {r : Int × IMem} (m_o1_15_40 : ∀ q, o1 + 15 ≤ q → q < o1 + 40 → M q) (m_o0_0 : M o0) (m_o0_1 : M (o0 + 1)) (m_o0_2 : M (o0 + 2)) (m_o0_3 : M (o0 + 3)) (m_o0_4 : M (o0 + 4)) (m_o0_5 : M (o0 + 5)) (m_o0_6 : M (o0 + 6)) (m_o1_0 : M o1) (m_o1_7 : M (o1 + 7)) (m_o1_8 : M (o1 + 8)) (m_o1_10 : M (o1 + 10)) (m_o1_11 : M (o1 + 11)) (m_o1_12 : M (o1 + 12)) (m_o1_13 : M (o1 + 13)) (m_o1_14 : M (o1 + 14)) (hf : f_C_turns fu o0 o1 a2 I0 = some r) : ∀ q, ¬ M q → r.2 q = I0 q := by
  unfold f_C_turns at hf
  obtain ⟨Ib, hIb⟩ : ∃ Ib : IMem, Ib = I0 := ⟨I0, rfl⟩
  rw [← hIb]
  have f0 : ∀ q, ¬ M q → I0 q = Ib q := fun q _ => by rw [hIb]
  clear hIb
  refine fr_C_turns_5 M fu o0 o1 a2 m_o1_15_40 m_o0_0 m_o0_1 m_o0_2 m_o0_3 m_o0_4 m_o0_5 m_o0_6 m_o1_0 m_o1_7 m_o1_8 m_o1_10 m_o1_11 m_o1_12 m_o1_13 m_o1_14 fu 0 0 I0 f0 hf
theorem fr_S_run (M : Nat → Prop) (fu : Nat) (o0 : Nat) (a1 : Int) (I0 : IMem) {r : Int × IMem} (m_o0_16_41 : ∀ q, o0 + 16 ≤ q → q < o0 + 41 → M q) (m_o0_1 : M (o0 + 1)) (m_o0_8 : M (o0 + 8)) (m_o0_9 : M (o0 + 9)) (m_o0_11 : M (o0 + 11)) (m_o0_12 : M (o0 + 12)) (m_o0_13 : M (o0 + 13)) (m_o0_14 : M (o0 + 14)) (m_o0_15 : M (o0 + 15)) (m_o0_130 : M (o0 + 130)) (m_o0_131 : M (o0 + 131)) (m_o0_132 : M (o0 + 132)) (m_o0_133 : M (o0 + 133)) (m_o0_134 : M (o0 + 134)) (m_o0_135 : M (o0 + 135)) (m_o0_136 : M (o0 + 136)) (m_o0_137 : M (o0 + 137)) (m_o0_138 : M (o0 + 138)) (hf : f_S_run fu o0 a1 I0 = some r) : ∀ q, ¬ M q → r.2 q = I0 q := by
  unfold f_S_run at hf
  obtain ⟨Ib, hIb⟩ : ∃ Ib : IMem, Ib = I0 := ⟨I0, rfl⟩
  rw [← hIb]
  have f0 : ∀ q, ¬ M q → I0 q = Ib q := fun q _ => by rw [hIb]
  clear hIb
  rcases of_ite hf with ⟨_, hf⟩ | ⟨_, hf⟩
  · cases hf; exact f0
  · rcases of_ite hf with ⟨_, hf⟩ | ⟨_, hf⟩
    · cases hf; exact f0
    · obtain ⟨u_2, I2, c_1, hf⟩ := of_zb hf
      have fI2 := fr_tr (fr_S_dropPicked M fu o0 I0 m_o0_137 m_o0_138 c_1) f0
      obtain ⟨y4, I5, c_3, hf⟩ := of_zb hf
      have fI5 := fr_tr (fr_C_turns M fu (o0 + 130) (o0 + 1) a1 I2 m_o0_16_41 m_o0_130 m_o0_131 m_o0_132 m_o0_133 m_o0_134 m_o0_135 m_o0_136 m_o0_1 m_o0_8 m_o0_9 m_o0_11 m_o0_12 m_o0_13 m_o0_14 m_o0_15 c_3) fI2
      cases hf; exact fI5
theorem fr_S_last (M : Nat → Prop) (fu : Nat) (o0 : Nat) (a1 : Int) (I0 : IMem) {r : Int × IMem} (hf : f_S_last fu o0 a1 I0 = some r) : ∀ q, ¬ M q → r.2 q = I0 q := by
  unfold f_S_last at hf
  obtain ⟨Ib, hIb⟩ : ∃ Ib : IMem, Ib = I0 := ⟨I0, rfl⟩
  rw [← hIb]
  have f0 : ∀ q, ¬ M q → I0 q = Ib q := fun q _ => by rw [hIb]
  clear hIb
  rcases of_ite hf with ⟨_, hf⟩ | ⟨_, hf⟩
  · cases hf; exact f0
  · rcases of_ite hf with ⟨_, hf⟩ | ⟨_, hf⟩
    · rcases of_ite hf with ⟨_, hf⟩ | ⟨_, hf⟩
      · cases hf; exact f0
      · obtain ⟨k1, ek1, hf⟩ := of_zj hf
        have hk1 : ∀ (x3 : Int) (I2 : IMem), (∀ q, ¬ M q → I2 q = Ib q) → k1 x3 I2 = some r → ∀ q, ¬ M q → r.2 q = Ib q := by
          intro x3 I2 fI2 hf
          subst ek1
          rcases of_ite hf with ⟨_, hf⟩ | ⟨_, hf⟩
          · cases hf; exact fI2
          · obtain ⟨g_1, hf⟩ := of_zg hf
            cases hf; exact fI2
        rcases of_ite hf with ⟨_, hf⟩ | ⟨_, hf⟩
        · rcases of_ite hf with ⟨_, hf⟩ | ⟨_, hf⟩
          · exact hk1 1 I0 f0 hf
          · exact hk1 0 I0 f0 hf
        · rcases of_ite hf with ⟨_, hf⟩ | ⟨_, hf⟩
          · exact hk1 1 I0 f0 hf
          · exact hk1 0 I0 f0 hf
    · cases hf; exact f0
theorem fr_H_meanWait (M : Nat → Prop) (fu : Nat) (o0 : Nat) (a1 : Int) (I0 : IMem) {r : Int × IMem} (hf : f_H_meanWait fu o0 a1 I0 = some r) : ∀ q, ¬ M q → r.2 q = I0 q := by
  unfold f_H_meanWait at hf
  obtain ⟨Ib, hIb⟩ : ∃ Ib : IMem, Ib = I0 := ⟨I0, rfl⟩
  rw [← hIb]
  have f0 : ∀ q, ¬ M q → I0 q = Ib q := fun q _ => by rw [hIb]
  clear hIb
  rcases of_ite hf with ⟨_, hf⟩ | ⟨_, hf⟩
  · cases hf; exact f0
  · rcases of_ite hf with ⟨_, hf⟩ | ⟨_, hf⟩
    · cases hf; exact f0
    · obtain ⟨x1, -, hf⟩ := of_zl hf
      obtain ⟨g_1, hf⟩ := of_zg hf
      rcases of_ite hf with ⟨_, hf⟩ | ⟨_, hf⟩
      · obtain ⟨x2, -, hf⟩ := of_zl hf
        obtain ⟨g_2, hf⟩ := of_zg hf
        obtain ⟨x3, -, hf⟩ := of_zl hf
        obtain ⟨g_3, hf⟩ := of_zg hf
        obtain ⟨g_4, hf⟩ := of_zg hf
        cases hf; exact f0
      · cases hf; exact f0
theorem fr_S_count (M : Nat → Prop) (fu : Nat) (o0 : Nat) (a1 : Int) (I0 : IMem) {r : Int × IMem} (hf : f_S_count fu o0 a1 I0 = some r) : ∀ q, ¬ M q → r.2 q = I0 q := by
  unfold f_S_count at hf
  obtain ⟨Ib, hIb⟩ : ∃ Ib : IMem, Ib = I0 := ⟨I0, rfl⟩
  rw [← hIb]
  have f0 : ∀ q, ¬ M q → I0 q = Ib q := fun q _ => by rw [hIb]
  clear hIb
  obtain ⟨k1, ek1, hf⟩ := of_zj hf
  have hk1 : ∀  (I2 : IMem), (∀ q, ¬ M q → I2 q = Ib q) → k1 I2 = some r → ∀ q, ¬ M q → r.2 q = Ib q := by
    intro I2 fI2 hf
    subst ek1
    obtain ⟨x3, -, hf⟩ := of_zl hf
    rcases of_ite hf with ⟨_, hf⟩ | ⟨_, hf⟩
    · cases hf; exact fI2
    · rcases of_ite hf with ⟨_, hf⟩ | ⟨_, hf⟩
      · cases hf; exact fI2
      · rcases of_ite hf with ⟨_, hf⟩ | ⟨_, hf⟩
        · cases hf; exact fI2
        · rcases of_ite hf with ⟨_, hf⟩ | ⟨_, hf⟩
          · cases hf; exact fI2
          · rcases of_ite hf with ⟨_, hf⟩ | ⟨_, hf⟩
            · obtain ⟨g_1, hf⟩ := of_zg hf
              cases hf; exact fI2
            · obtain ⟨y4, I5, c_2, hf⟩ := of_zb hf
              have fI5 := fr_tr (fr_H_meanWait M fu (o0 + 1) x3 I2 c_2) fI2
              cases hf; exact fI5
  rcases of_ite hf with ⟨_, hf⟩ | ⟨_, hf⟩
  · exact hk1 I0 f0 hf
  · rcases of_ite hf with ⟨_, hf⟩ | ⟨_, hf⟩
    · exact hk1 I0 f0 hf
    · obtain ⟨g_3, hf⟩ := of_zg hf
      cases hf; exact f0
theorem fr_F_chosenAt (M : Nat → Prop) (fu : Nat) (o0 : Nat) (a1 : Int) (I0 : IMem) {r : Int × IMem} (hf : f_F_chosenAt fu o0 a1 I0 = some r) : ∀ q, ¬ M q → r.2 q = I0 q := by
  unfold f_F_chosenAt at hf
  obtain ⟨Ib, hIb⟩ : ∃ Ib : IMem, Ib = I0 := ⟨I0, rfl⟩
  rw [← hIb]
  have f0 : ∀ q, ¬ M q → I0 q = Ib q := fun q _ => by rw [hIb]
  clear hIb
  rcases of_ite hf with ⟨_, hf⟩ | ⟨_, hf⟩
  · cases hf; exact f0
  · rcases of_ite hf with ⟨_, hf⟩ | ⟨_, hf⟩
    · rcases of_ite hf with ⟨_, hf⟩ | ⟨_, hf⟩
      · obtain ⟨g_1, hf⟩ := of_zg hf
        obtain ⟨g_2, hf⟩ := of_zg hf
        cases hf; exact f0
      · cases hf; exact f0
    · cases hf; exact f0
theorem fr_F_at (M : Nat → Prop) (fu : Nat) (a0 : Int) (a1 : Int) (a2 : Int) (I0 : IMem) {r : Int × IMem} (hf : f_F_at fu a0 a1 a2 I0 = some r) : ∀ q, ¬ M q → r.2 q = I0 q := by
  unfold f_F_at at hf
  obtain ⟨Ib, hIb⟩ : ∃ Ib : IMem, Ib = I0 := ⟨I0, rfl⟩
  rw [← hIb]
  have f0 : ∀ q, ¬ M q → I0 q = Ib q := fun q _ => by rw [hIb]
  clear hIb
  obtain ⟨k1, ek1, hf⟩ := of_zj hf
  have hk1 : ∀ (x3 : Int) (I2 : IMem), (∀ q, ¬ M q → I2 q = Ib q) → k1 x3 I2 = some r → ∀ q, ¬ M q → r.2 q = Ib q := by
    intro x3 I2 fI2 hf
    subst ek1
    rcases of_ite hf with ⟨_, hf⟩ | ⟨_, hf⟩
    · cases hf; exact fI2
    · cases hf; exact fI2
  rcases of_ite hf with ⟨_, hf⟩ | ⟨_, hf⟩
  · exact hk1 0 I0 f0 hf
  · rcases of_ite hf with ⟨_, hf⟩ | ⟨_, hf⟩
    · exact hk1 0 I0 f0 hf
    · rcases of_ite hf with ⟨_, hf⟩ | ⟨_, hf⟩
      · exact hk1 0 I0 f0 hf
      · rcases of_ite hf with ⟨_, hf⟩ | ⟨_, hf⟩
        · rcases of_ite hf with ⟨_, hf⟩ | ⟨_, hf⟩
          · exact hk1 0 I0 f0 hf
          · rcases of_ite hf with ⟨_, hf⟩ | ⟨_, hf⟩
            · exact hk1 1 I0 f0 hf
            · exact hk1 0 I0 f0 hf
        · exact hk1 0 I0 f0 hf
theorem fr_F_thereWith (M : Nat → Prop) (fu : Nat) (o0 : Nat) (a1 : Int) (a2 : Int) (I0 : IMem) {r : Int × IMem} (hf : f_F_thereWith fu o0 a1 a2 I0 = some r) : ∀ q, ¬ M q → r.2 q = I0 q := by
  unfold f_F_thereWith at hf
  obtain ⟨Ib, hIb⟩ : ∃ Ib : IMem, Ib = I0 := ⟨I0, rfl⟩
  rw [← hIb]
  have f0 : ∀ q, ¬ M q → I0 q = Ib q := fun q _ => by rw [hIb]
  clear hIb
  obtain ⟨g_1, hf⟩ := of_zg hf
  rcases of_ite hf with ⟨_, hf⟩ | ⟨_, hf⟩
  · rcases of_ite hf with ⟨_, hf⟩ | ⟨_, hf⟩
    · cases hf; exact f0
    · cases hf; exact f0
  · cases hf; exact f0
theorem fr_F_mostWith (M : Nat → Prop) (fu : Nat) (o0 : Nat) (a1 : Int) (a2 : Int) (a3 : Int) (I0 : IMem) {r : Int × IMem} (hf : f_F_mostWith fu o0 a1 a2 a3 I0 = some r) : ∀ q, ¬ M q → r.2 q = I0 q := by
  unfold f_F_mostWith at hf
  obtain ⟨Ib, hIb⟩ : ∃ Ib : IMem, Ib = I0 := ⟨I0, rfl⟩
  rw [← hIb]
  have f0 : ∀ q, ¬ M q → I0 q = Ib q := fun q _ => by rw [hIb]
  clear hIb
  rcases of_ite hf with ⟨_, hf⟩ | ⟨_, hf⟩
  · cases hf; exact f0
  · rcases of_ite hf with ⟨_, hf⟩ | ⟨_, hf⟩
    · obtain ⟨g_1, hf⟩ := of_zg hf
      rcases of_ite hf with ⟨_, hf⟩ | ⟨_, hf⟩
      · cases hf; exact f0
      · obtain ⟨y1, I2, c_2, hf⟩ := of_zb hf
        have fI2 := fr_tr (fr_F_thereWith M fu o0 a1 a2 I0 c_2) f0
        obtain ⟨g_3, hf⟩ := of_zg hf
        obtain ⟨y4, I5, c_4, hf⟩ := of_zb hf
        have fI5 := fr_tr (fr_F_at M fu (wr32 (a1 + 1)) y1 (wr32 (a3 - (I2 (o0 + 2) a1.toNat))) I2 c_4) fI2
        obtain ⟨g_5, hf⟩ := of_zg hf
        obtain ⟨x7, -, hf⟩ := of_zl hf
        rcases of_ite hf with ⟨_, hf⟩ | ⟨_, hf⟩
        · cases hf; exact fI5
        · obtain ⟨g_6, hf⟩ := of_zg hf
          cases hf; exact fI5
    · cases hf; exact f0
theorem fr_F_choose_12 (M : Nat → Prop) (fu : Nat) {r : Int × IMem} {Ib : IMem} (o0 : Nat) (m_o0_0 : M o0) (m_o0_5 : M (o0 + 5)) : ∀ (m : Nat) (w2 : Int) (w3 : Int) (w4 : Int) (I0 : IMem), (∀ q, ¬ M q → I0 q = Ib q) → f_F_choose_12 fu o0 m w2 w3 w4 I0 = some r → ∀ q, ¬ M q → r.2 q = Ib q := by
  intro m
  induction m with
  | zero => intro w2 w3 w4 I0 _ hf; cases hf
  | succ m hR_ =>
    intro w2 w3 w4 I0 fI0 hf
    replace hf : fb_F_choose_12 fu o0 (f_F_choose_12 fu o0 m) w2 w3 w4 I0 = some r := hf
    unfold fb_F_choose_12 at hf
    rcases of_ite hf with ⟨_, hf⟩ | ⟨_, hf⟩
    · rcases of_ite hf with ⟨_, hf⟩ | ⟨_, hf⟩
      · rcases of_ite hf with ⟨_, hf⟩ | ⟨_, hf⟩
        · obtain ⟨y2, I3, c_1, hf⟩ := of_zb hf
          have fI3 := fr_tr (fr_F_mostWith M fu o0 w4 w2 w3 I0 c_1) fI0
          obtain ⟨k5, ek5, hf⟩ := of_zj hf
          have hk5 : ∀ (x7 : Int) (x8 : Int) (I6 : IMem), (∀ q, ¬ M q → I6 q = Ib q) → k5 x7 x8 I6 = some r → ∀ q, ¬ M q → r.2 q = Ib q := by
            intro x7 x8 I6 fI6 hf
            subst ek5
            obtain ⟨x9, -, hf⟩ := of_zl hf
            exact hR_ x7 x8 x9 I6 fI6 hf
          rcases of_ite hf with ⟨_, hf⟩ | ⟨_, hf⟩
          · exact hk5 w2 w3 I3 fI3 hf
          · obtain ⟨y10, I11, c_2, hf⟩ := of_zb hf
            have fI11 := fr_tr (fr_F_at M fu w4 w2 w3 I3 c_2) fI3
            obtain ⟨g_3, hf⟩ := of_zg hf
            rcases of_ite hf with ⟨_, hf⟩ | ⟨_, hf⟩
            · obtain ⟨g_4, hf⟩ := of_zg hf
              obtain ⟨x14, -, hf⟩ := of_zl hf
              obtain ⟨g_5, hf⟩ := of_zg hf
              obtain ⟨I13, fI13, hf⟩ := fr_zw m_o0_5 fI11 hf
              obtain ⟨I15, fI15, hf⟩ := fr_zw m_o0_0 fI13 hf
              obtain ⟨y16, I17, c_6, hf⟩ := of_zb hf
              have fI17 := fr_tr (fr_F_thereWith M fu o0 w4 w2 I15 c_6) fI15
              obtain ⟨g_7, hf⟩ := of_zg hf
              obtain ⟨x19, -, hf⟩ := of_zl hf
              exact hk5 y16 x19 I17 fI17 hf
            · exact hk5 w2 w3 I11 fI11 hf
        · cases hf; exact fI0
      · cases hf; exact fI0
    · cases hf; exact fI0
theorem fr_F_choose (M : Nat → Prop) (fu : Nat) (o0 : Nat) (a1 : Int) (I0 : IMem) {r : Int × IMem} (m_o0_0 : M o0) (m_o0_5 : M (o0 + 5)) (hf : f_F_choose fu o0 a1 I0 = some r) : ∀ q, ¬ M q → r.2 q = I0 q := by
  unfold f_F_choose at hf
  obtain ⟨Ib, hIb⟩ : ∃ Ib : IMem, Ib = I0 := ⟨I0, rfl⟩
  rw [← hIb]
  have f0 : ∀ q, ¬ M q → I0 q = Ib q := fun q _ => by rw [hIb]
  clear hIb
  obtain ⟨I1, fI1, hf⟩ := fr_zw m_o0_0 f0 hf
  refine fr_F_choose_12 M fu o0 m_o0_0 m_o0_5 fu 0 a1 0 I1 fI1 hf
theorem fr_F_gather_18 (M : Nat → Prop) (fu : Nat) {r : Int × IMem} {Ib : IMem} (o0 : Nat) (o1 : Nat) (p3 : Int) (m_o0_0 : M o0) (m_o0_1 : M (o0 + 1)) (m_o0_2 : M (o0 + 2)) (m_o0_3 : M (o0 + 3)) : ∀ (m : Nat) (w4 : Int) (I0 : IMem), (∀ q, ¬ M q → I0 q = Ib q) → f_F_gather_18 fu o0 o1 p3 m w4 I0 = some r → ∀ q, ¬ M q → r.2 q = Ib q := by
  intro m
  induction m with
  | zero => intro w4 I0 _ hf; cases hf
  | succ m hR_ =>
    intro w4 I0 fI0 hf
    replace hf : fb_F_gather_18 fu o0 o1 p3 (f_F_gather_18 fu o0 o1 p3 m) w4 I0 = some r := hf
    unfold fb_F_gather_18 at hf
    rcases of_ite hf with ⟨_, hf⟩ | ⟨_, hf⟩
    · rcases of_ite hf with ⟨_, hf⟩ | ⟨_, hf⟩
      · obtain ⟨g_1, hf⟩ := of_zg hf
        obtain ⟨y5, I6, c_2, hf⟩ := of_zb hf
        have fI6 := fr_tr (fr_L_get M fu o1 (I0 (o0 + 1) w4.toNat) 3 I0 c_2) fI0
        obtain ⟨k8, ek8, hf⟩ := of_zj hf
        have hk8 : ∀  (I9 : IMem), (∀ q, ¬ M q → I9 q = Ib q) → k8 I9 = some r → ∀ q, ¬ M q → r.2 q = Ib q := by
          intro I9 fI9 hf
          subst ek8
          obtain ⟨x10, -, hf⟩ := of_zl hf
          exact hR_ x10 I9 fI9 hf
        rcases of_ite hf with ⟨_, hf⟩ | ⟨_, hf⟩
        · exact hk8 I6 fI6 hf
        · obtain ⟨g_3, hf⟩ := of_zg hf
          obtain ⟨x12, -, hf⟩ := of_zl hf
          obtain ⟨g_4, hf⟩ := of_zg hf
          obtain ⟨I11, fI11, hf⟩ := fr_zw m_o0_1 fI6 hf
          obtain ⟨g_5, hf⟩ := of_zg hf
          obtain ⟨y13, I14, c_6, hf⟩ := of_zb hf
          have fI14 := fr_tr (fr_L_get M fu o1 (I11 (o0 + 1) w4.toNat) 1 I11 c_6) fI11
          obtain ⟨x17, -, hf⟩ := of_zl hf
          obtain ⟨g_7, hf⟩ := of_zg hf
          obtain ⟨I16, fI16, hf⟩ := fr_zw m_o0_2 fI14 hf
          obtain ⟨x19, -, hf⟩ := of_zl hf
          obtain ⟨g_8, hf⟩ := of_zg hf
          obtain ⟨I18, fI18, hf⟩ := fr_zw m_o0_3 fI16 hf
          obtain ⟨I20, fI20, hf⟩ := fr_zw m_o0_0 fI18 hf
          exact hk8 I20 fI20 hf
      · cases hf; exact fI0
    · cases hf; exact fI0
theorem fr_F_gather (M : Nat → Prop) (fu : Nat) (o0 : Nat) (o1 : Nat) (a2 : Int) (I0 : IMem) {r : Int × IMem} (m_o0_0 : M o0) (m_o0_1 : M (o0 + 1)) (m_o0_2 : M (o0 + 2)) (m_o0_3 : M (o0 + 3)) (hf : f_F_gather fu o0 o1 a2 I0 = some r) : ∀ q, ¬ M q → r.2 q = I0 q := by
  unfold f_F_gather at hf
  obtain ⟨Ib, hIb⟩ : ∃ Ib : IMem, Ib = I0 := ⟨I0, rfl⟩
  rw [← hIb]
  have f0 : ∀ q, ¬ M q → I0 q = Ib q := fun q _ => by rw [hIb]
  clear hIb
  obtain ⟨y1, I2, c_1, hf⟩ := of_zb hf
  have fI2 := fr_tr (fr_L_listSeen M fu o1 (o0 + 1) 144 a2 I0 m_o0_1 c_1) f0
  obtain ⟨I4, fI4, hf⟩ := fr_zw m_o0_0 fI2 hf
  refine fr_F_gather_18 M fu o0 o1 y1 m_o0_0 m_o0_1 m_o0_2 m_o0_3 fu 0 I4 fI4 hf
theorem fr_F_fillMost_24 (M : Nat → Prop) (fu : Nat) {r : Int × IMem} {Ib : IMem} (k_85 : IMem → Res) (o0 : Nat) (p3 : Int) (m_o0_4 : M (o0 + 4)) (hk_85 : ∀ (I9 : IMem), (∀ q, ¬ M q → I9 q = Ib q) → k_85 I9 = some r → ∀ q, ¬ M q → r.2 q = Ib q) : ∀ (m : Nat) (w4 : Int) (I0 : IMem), (∀ q, ¬ M q → I0 q = Ib q) → f_F_fillMost_24 fu k_85 o0 p3 m w4 I0 = some r → ∀ q, ¬ M q → r.2 q = Ib q := by
  intro m
  induction m with
  | zero => intro w4 I0 _ hf; cases hf
  | succ m hR_ =>
    intro w4 I0 fI0 hf
    replace hf : fb_F_fillMost_24 fu k_85 o0 p3 (f_F_fillMost_24 fu k_85 o0 p3 m) w4 I0 = some r := hf
    unfold fb_F_fillMost_24 at hf
    rcases of_ite hf with ⟨_, hf⟩ | ⟨_, hf⟩
    · obtain ⟨y7, I8, c_1, hf⟩ := of_zb hf
      have fI8 := fr_tr (fr_F_at M fu (I0 o0 3) 0 w4 I0 c_1) fI0
      obtain ⟨g_2, hf⟩ := of_zg hf
      obtain ⟨I10, fI10, hf⟩ := fr_zw m_o0_4 fI8 hf
      obtain ⟨y11, I12, c_3, hf⟩ := of_zb hf
      have fI12 := fr_tr (fr_F_at M fu (I10 o0 3) 1 w4 I10 c_3) fI10
      obtain ⟨g_4, hf⟩ := of_zg hf
      obtain ⟨I14, fI14, hf⟩ := fr_zw m_o0_4 fI12 hf
      obtain ⟨y15, I16, c_5, hf⟩ := of_zb hf
      have fI16 := fr_tr (fr_F_at M fu (I14 o0 3) 2 w4 I14 c_5) fI14
      obtain ⟨g_6, hf⟩ := of_zg hf
      obtain ⟨I18, fI18, hf⟩ := fr_zw m_o0_4 fI16 hf
      obtain ⟨x19, -, hf⟩ := of_zl hf
      exact hR_ x19 I18 fI18 hf
    · exact hk_85 I0 fI0 hf
theorem fr_F_fillMost_110 (M : Nat → Prop) (fu : Nat) {r : Int × IMem} {Ib : IMem} (k_166 : IMem → Res) (o0 : Nat) (p3 : Int) (p4 : Int) (p5 : Int) (m_o0_4 : M (o0 + 4)) (hk_166 : ∀ (I9 : IMem), (∀ q, ¬ M q → I9 q = Ib q) → k_166 I9 = some r → ∀ q, ¬ M q → r.2 q = Ib q) : ∀ (m : Nat) (w6 : Int) (I0 : IMem), (∀ q, ¬ M q → I0 q = Ib q) → f_F_fillMost_110 fu k_166 o0 p3 p4 p5 m w6 I0 = some r → ∀ q, ¬ M q → r.2 q = Ib q := by
  intro m
  induction m with
  | zero => intro w6 I0 _ hf; cases hf
  | succ m hR_ =>
    intro w6 I0 fI0 hf
    replace hf : fb_F_fillMost_110 fu k_166 o0 p3 p4 p5 (f_F_fillMost_110 fu k_166 o0 p3 p4 p5 m) w6 I0 = some r := hf
    unfold fb_F_fillMost_110 at hf
    rcases of_ite hf with ⟨_, hf⟩ | ⟨_, hf⟩
    · obtain ⟨y22, I23, c_1, hf⟩ := of_zb hf
      have fI23 := fr_tr (fr_F_at M fu p4 p5 w6 I0 c_1) fI0
      obtain ⟨y25, I26, c_2, hf⟩ := of_zb hf
      have fI26 := fr_tr (fr_F_at M fu (wr32 (p4 + 1)) p5 w6 I23 c_2) fI23
      obtain ⟨g_3, hf⟩ := of_zg hf
      obtain ⟨y28, I29, c_4, hf⟩ := of_zb hf
      have fI29 := fr_tr (fr_F_mostWith M fu o0 p4 p5 w6 I26 c_4) fI26
      obtain ⟨y31, I32, c_5, hf⟩ := of_zb hf
      have fI32 := fr_tr (fr_JM_max M fu (I26 (o0 + 4) y25.toNat) y28 I29 c_5) fI29
      obtain ⟨g_6, hf⟩ := of_zg hf
      obtain ⟨I34, fI34, hf⟩ := fr_zw m_o0_4 fI32 hf
      obtain ⟨x35, -, hf⟩ := of_zl hf
      exact hR_ x35 I34 fI34 hf
    · exact hk_166 I0 fI0 hf
theorem fr_F_fillMost_101 (M : Nat → Prop) (fu : Nat) {r : Int × IMem} {Ib : IMem} (k_172 : IMem → Res) (o0 : Nat) (p3 : Int) (p4 : Int) (m_o0_4 : M (o0 + 4)) (hk_172 : ∀ (I9 : IMem), (∀ q, ¬ M q → I9 q = Ib q) → k_172 I9 = some r → ∀ q, ¬ M q → r.2 q = Ib q) : ∀ (m : Nat) (w5 : Int) (I0 : IMem), (∀ q, ¬ M q → I0 q = Ib q) → f_F_fillMost_101 fu k_172 o0 p3 p4 m w5 I0 = some r → ∀ q, ¬ M q → r.2 q = Ib q := by
  intro m
  induction m with
  | zero => intro w5 I0 _ hf; cases hf
  | succ m hR_ =>
    intro w5 I0 fI0 hf
    replace hf : fb_F_fillMost_101 fu k_172 o0 p3 p4 (f_F_fillMost_101 fu k_172 o0 p3 p4 m) w5 I0 = some r := hf
    unfold fb_F_fillMost_101 at hf
    rcases of_ite hf with ⟨_, hf⟩ | ⟨_, hf⟩
    · exact hk_172 I0 fI0 hf
    · refine fr_F_fillMost_110 M fu _ o0 p3 p4 w5 m_o0_4 ?_ fu 0 I0 fI0 hf
      · intro I36 fI36 hf
        obtain ⟨x37, -, hf⟩ := of_zl hf
        exact hR_ x37 I36 fI36 hf
theorem fr_F_fillMost_93 (M : Nat → Prop) (fu : Nat) {r : Int × IMem} {Ib : IMem} (k_178 : IMem → Res) (o0 : Nat) (p3 : Int) (m_o0_4 : M (o0 + 4)) (hk_178 : ∀ (I9 : IMem), (∀ q, ¬ M q → I9 q = Ib q) → k_178 I9 = some r → ∀ q, ¬ M q → r.2 q = Ib q) : ∀ (m : Nat) (w4 : Int) (I0 : IMem), (∀ q, ¬ M q → I0 q = Ib q) → f_F_fillMost_93 fu k_178 o0 p3 m w4 I0 = some r → ∀ q, ¬ M q → r.2 q = Ib q := by
  intro m
  induction m with
  | zero => intro w4 I0 _ hf; cases hf
  | succ m hR_ =>
    intro w4 I0 fI0 hf
    replace hf : fb_F_fillMost_93 fu k_178 o0 p3 (f_F_fillMost_93 fu k_178 o0 p3 m) w4 I0 = some r := hf
    unfold fb_F_fillMost_93 at hf
    rcases of_ite hf with ⟨_, hf⟩ | ⟨_, hf⟩
    · exact hk_178 I0 fI0 hf
    · refine fr_F_fillMost_101 M fu _ o0 p3 w4 m_o0_4 ?_ fu 0 I0 fI0 hf
      · intro I38 fI38 hf
        obtain ⟨x39, -, hf⟩ := of_zl hf
        exact hR_ x39 I38 fI38 hf
theorem fr_F_fillMost (M : Nat → Prop) (fu : Nat) (o0 : Nat) (o1 : Nat) (a2 : Int) (I0 : IMem) {r : Int × IMem} (m_o0_0 : M o0) (m_o0_1 : M (o0 + 1)) (m_o0_2 : M (o0 + 2)) (m_o0_3 : M (o0 + 3)) (m_o0_4 : M (o0 + 4)) (m_o0_5 : M (o0 + 5)) (hf : f_F_fillMost fu o0 o1 a2 I0 = some r) : ∀ q, ¬ M q → r.2 q = I0 q := by
  unfold f_F_fillMost at hf
  obtain ⟨Ib, hIb⟩ : ∃ Ib : IMem, Ib = I0 := ⟨I0, rfl⟩
  rw [← hIb]
  have f0 : ∀ q, ¬ M q → I0 q = Ib q := fun q _ => by rw [hIb]
  clear hIb
  obtain ⟨y1, I2, c_1, hf⟩ := of_zb hf
  have fI2 := fr_tr (fr_JM_min M fu (I0 (o1 + 1) 0) 8 I0 c_1) f0
  obtain ⟨u_3, I5, c_2, hf⟩ := of_zb hf
  have fI5 := fr_tr (fr_F_gather M fu o0 (o1 + 6) a2 I2 m_o0_0 m_o0_1 m_o0_2 m_o0_3 c_2) fI2
  refine fr_F_fillMost_24 M fu _ o0 y1 m_o0_4 ?_ fu 0 I5 fI5 hf
  · intro I20 fI20 hf
    obtain ⟨x21, -, hf⟩ := of_zl hf
    refine fr_F_fillMost_93 M fu _ o0 y1 m_o0_4 ?_ fu x21 I20 fI20 hf
    · intro I40 fI40 hf
      obtain ⟨u_5, I42, c_4, hf⟩ := of_zb hf
      have fI42 := fr_tr (fr_F_choose M fu o0 y1 I40 m_o0_0 m_o0_5 c_4) fI40
      obtain ⟨y44, I45, c_6, hf⟩ := of_zb hf
      have fI45 := fr_tr (fr_F_at M fu 0 0 y1 I42 c_6) fI42
      obtain ⟨g_7, hf⟩ := of_zg hf
      cases hf; exact fI45
theorem fr_S_best (M : Nat → Prop) (fu : Nat) (o0 : Nat) (a1 : Int) (I0 : IMem) {r : Int × IMem} (m_o0_154 : M (o0 + 154)) (m_o0_155 : M (o0 + 155)) (m_o0_156 : M (o0 + 156)) (m_o0_157 : M (o0 + 157)) (m_o0_158 : M (o0 + 158)) (m_o0_159 : M (o0 + 159)) (hf : f_S_best fu o0 a1 I0 = some r) : ∀ q, ¬ M q → r.2 q = I0 q := by
  unfold f_S_best at hf
  obtain ⟨Ib, hIb⟩ : ∃ Ib : IMem, Ib = I0 := ⟨I0, rfl⟩
  rw [← hIb]
  have f0 : ∀ q, ¬ M q → I0 q = Ib q := fun q _ => by rw [hIb]
  clear hIb
  rcases of_ite hf with ⟨_, hf⟩ | ⟨_, hf⟩
  · cases hf; exact f0
  · obtain ⟨y1, I2, c_1, hf⟩ := of_zb hf
    have fI2 := fr_tr (fr_F_fillMost M fu (o0 + 154) (o0 + 1) ((-1)) I0 m_o0_154 m_o0_155 m_o0_156 m_o0_157 m_o0_158 m_o0_159 c_1) f0
    rcases of_ite hf with ⟨_, hf⟩ | ⟨_, hf⟩
    · rcases of_ite hf with ⟨_, hf⟩ | ⟨_, hf⟩
      · cases hf; exact fI2
      · rcases of_ite hf with ⟨_, hf⟩ | ⟨_, hf⟩
        · cases hf; exact fI2
        · cases hf; exact fI2
    · obtain ⟨y4, I5, c_2, hf⟩ := of_zb hf
      have fI5 := fr_tr (fr_F_chosenAt M fu (o0 + 154) (wr32 (a1 - 10)) I2 c_2) fI2
      cases hf; exact fI5
theorem fr_S_look (M : Nat → Prop) (fu : Nat) (o0 : Nat) (a1 : Int) (I0 : IMem) {r : Int × IMem} (m_o0_154 : M (o0 + 154)) (m_o0_155 : M (o0 + 155)) (m_o0_156 : M (o0 + 156)) (m_o0_157 : M (o0 + 157)) (m_o0_158 : M (o0 + 158)) (m_o0_159 : M (o0 + 159)) (hf : f_S_look fu o0 a1 I0 = some r) : ∀ q, ¬ M q → r.2 q = I0 q := by
  unfold f_S_look at hf
  obtain ⟨Ib, hIb⟩ : ∃ Ib : IMem, Ib = I0 := ⟨I0, rfl⟩
  rw [← hIb]
  have f0 : ∀ q, ¬ M q → I0 q = Ib q := fun q _ => by rw [hIb]
  clear hIb
  obtain ⟨y1, I2, c_1, hf⟩ := of_zb hf
  have fI2 := fr_tr (fr_S_isLine M fu a1 I0 c_1) f0
  rcases of_ite hf with ⟨_, hf⟩ | ⟨_, hf⟩
  · cases hf; exact fI2
  · obtain ⟨g_2, hf⟩ := of_zg hf
    rcases of_ite hf with ⟨_, hf⟩ | ⟨_, hf⟩
    · obtain ⟨y4, I5, c_3, hf⟩ := of_zb hf
      have fI5 := fr_tr (fr_F_fillMost M fu (o0 + 154) (o0 + 1) a1 I2 m_o0_154 m_o0_155 m_o0_156 m_o0_157 m_o0_158 m_o0_159 c_3) fI2
      obtain ⟨y7, I8, c_4, hf⟩ := of_zb hf
      have fI8 := fr_tr (fr_F_fillMost M fu (o0 + 154) (o0 + 1) ((-1)) I5 m_o0_154 m_o0_155 m_o0_156 m_o0_157 m_o0_158 m_o0_159 c_4) fI5
      cases hf; exact fI8
    · cases hf; exact fI2
theorem fr_S_heap_38 (M : Nat → Prop) (fu : Nat) {r : Int × IMem} {Ib : IMem} (k_70 : Int → IMem → Res) (o0 : Nat) (p1 : Int) (p2 : Int) (hk_70 : ∀ (z0 : Int) (I9 : IMem), (∀ q, ¬ M q → I9 q = Ib q) → k_70 z0 I9 = some r → ∀ q, ¬ M q → r.2 q = Ib q) : ∀ (m : Nat) (w3 : Int) (w4 : Int) (I0 : IMem), (∀ q, ¬ M q → I0 q = Ib q) → f_S_heap_38 fu k_70 o0 p1 p2 m w3 w4 I0 = some r → ∀ q, ¬ M q → r.2 q = Ib q := by
  intro m
  induction m with
  | zero => intro w3 w4 I0 _ hf; cases hf
  | succ m hR_ =>
    intro w3 w4 I0 fI0 hf
    replace hf : fb_S_heap_38 fu k_70 o0 p1 p2 (f_S_heap_38 fu k_70 o0 p1 p2 m) w3 w4 I0 = some r := hf
    unfold fb_S_heap_38 at hf
    rcases of_ite hf with ⟨_, hf⟩ | ⟨_, hf⟩
    · obtain ⟨g_1, hf⟩ := of_zg hf
      obtain ⟨x2, -, hf⟩ := of_zl hf
      obtain ⟨x3, -, hf⟩ := of_zl hf
      exact hR_ x2 x3 I0 fI0 hf
    · exact hk_70 w3 I0 fI0 hf
theorem fr_S_heap (M : Nat → Prop) (fu : Nat) (o0 : Nat) (a1 : Int) (a2 : Int) (I0 : IMem) {r : Int × IMem} (m_o0_6 : M (o0 + 6)) (hf : f_S_heap fu o0 a1 a2 I0 = some r) : ∀ q, ¬ M q → r.2 q = I0 q := by
  unfold f_S_heap at hf
  obtain ⟨Ib, hIb⟩ : ∃ Ib : IMem, Ib = I0 := ⟨I0, rfl⟩
  rw [← hIb]
  have f0 : ∀ q, ¬ M q → I0 q = Ib q := fun q _ => by rw [hIb]
  clear hIb
  rcases of_ite hf with ⟨_, hf⟩ | ⟨_, hf⟩
  · cases hf; exact f0
  · rcases of_ite hf with ⟨_, hf⟩ | ⟨_, hf⟩
    · cases hf; exact f0
    · rcases of_ite hf with ⟨_, hf⟩ | ⟨_, hf⟩
      · cases hf; exact f0
      · rcases of_ite hf with ⟨_, hf⟩ | ⟨_, hf⟩
        · cases hf; exact f0
        · obtain ⟨g_1, hf⟩ := of_zg hf
          obtain ⟨x1, -, hf⟩ := of_zl hf
          refine fr_S_heap_38 M fu _ o0 a1 a2 ?_ fu x1 1 I0 f0 hf
          · intro x5 I4 fI4 hf
            rcases of_ite hf with ⟨_, hf⟩ | ⟨_, hf⟩
            · cases hf; exact fI4
            · obtain ⟨g_2, hf⟩ := of_zg hf
              obtain ⟨I6, fI6, hf⟩ := fr_zw m_o0_6 fI4 hf
              cases hf; exact fI6
theorem fr_P_inFirst (M : Nat → Prop) (fu : Nat) (o0 : Nat) (a1 : Int) (I0 : IMem) {r : Int × IMem} (hf : f_P_inFirst fu o0 a1 I0 = some r) : ∀ q, ¬ M q → r.2 q = I0 q := by
  unfold f_P_inFirst at hf
  obtain ⟨Ib, hIb⟩ : ∃ Ib : IMem, Ib = I0 := ⟨I0, rfl⟩
  rw [← hIb]
  have f0 : ∀ q, ¬ M q → I0 q = Ib q := fun q _ => by rw [hIb]
  clear hIb
  obtain ⟨k1, ek1, hf⟩ := of_zj hf
  have hk1 : ∀ (x3 : Int) (I2 : IMem), (∀ q, ¬ M q → I2 q = Ib q) → k1 x3 I2 = some r → ∀ q, ¬ M q → r.2 q = Ib q := by
    intro x3 I2 fI2 hf
    subst ek1
    rcases of_ite hf with ⟨_, hf⟩ | ⟨_, hf⟩
    · cases hf; exact fI2
    · obtain ⟨x4, -, hf⟩ := of_zl hf
      obtain ⟨g_1, hf⟩ := of_zg hf
      cases hf; exact fI2
  rcases of_ite hf with ⟨_, hf⟩ | ⟨_, hf⟩
  · exact hk1 0 I0 f0 hf
  · rcases of_ite hf with ⟨_, hf⟩ | ⟨_, hf⟩
    · rcases of_ite hf with ⟨_, hf⟩ | ⟨_, hf⟩
      · exact hk1 0 I0 f0 hf
      · rcases of_ite hf with ⟨_, hf⟩ | ⟨_, hf⟩
        · exact hk1 0 I0 f0 hf
        · exact hk1 1 I0 f0 hf
    · exact hk1 0 I0 f0 hf
theorem fr_P_canGo_17 (M : Nat → Prop) (fu : Nat) {r : Int × IMem} {Ib : IMem} (o0 : Nat) (p1 : Int) : ∀ (m : Nat) (w3 : Int) (I0 : IMem), (∀ q, ¬ M q → I0 q = Ib q) → f_P_canGo_17 fu o0 p1 m w3 I0 = some r → ∀ q, ¬ M q → r.2 q = Ib q := by
  intro m
  induction m with
  | zero => intro w3 I0 _ hf; cases hf
  | succ m hR_ =>
    intro w3 I0 fI0 hf
    replace hf : fb_P_canGo_17 fu o0 p1 (f_P_canGo_17 fu o0 p1 m) w3 I0 = some r := hf
    unfold fb_P_canGo_17 at hf
    rcases of_ite hf with ⟨_, hf⟩ | ⟨_, hf⟩
    · cases hf; exact fI0
    · obtain ⟨x2, -, hf⟩ := of_zl hf
      obtain ⟨g_1, hf⟩ := of_zg hf
      obtain ⟨g_2, hf⟩ := of_zg hf
      rcases of_ite hf with ⟨_, hf⟩ | ⟨_, hf⟩
      · cases hf; exact fI0
      · obtain ⟨x3, -, hf⟩ := of_zl hf
        exact hR_ x3 I0 fI0 hf
theorem fr_P_canGo (M : Nat → Prop) (fu : Nat) (o0 : Nat) (a1 : Int) (a2 : Int) (I0 : IMem) {r : Int × IMem} (hf : f_P_canGo fu o0 a1 a2 I0 = some r) : ∀ q, ¬ M q → r.2 q = I0 q := by
  unfold f_P_canGo at hf
  obtain ⟨Ib, hIb⟩ : ∃ Ib : IMem, Ib = I0 := ⟨I0, rfl⟩
  rw [← hIb]
  have f0 : ∀ q, ¬ M q → I0 q = Ib q := fun q _ => by rw [hIb]
  clear hIb
  obtain ⟨x1, -, hf⟩ := of_zl hf
  obtain ⟨g_1, hf⟩ := of_zg hf
  rcases of_ite hf with ⟨_, hf⟩ | ⟨_, hf⟩
  · cases hf; exact f0
  · refine fr_P_canGo_17 M fu o0 a1 fu 1 I0 f0 hf
theorem fr_P_firstWay_3 (M : Nat → Prop) (fu : Nat) {r : Int × IMem} {Ib : IMem} (k_22 : Int → IMem → Res) (o0 : Nat) (p1 : Int) (p2 : Int) (hk_22 : ∀ (z0 : Int) (I9 : IMem), (∀ q, ¬ M q → I9 q = Ib q) → k_22 z0 I9 = some r → ∀ q, ¬ M q → r.2 q = Ib q) : ∀ (m : Nat) (w3 : Int) (I0 : IMem), (∀ q, ¬ M q → I0 q = Ib q) → f_P_firstWay_3 fu k_22 o0 p1 p2 m w3 I0 = some r → ∀ q, ¬ M q → r.2 q = Ib q := by
  intro m
  induction m with
  | zero => intro w3 I0 _ hf; cases hf
  | succ m hR_ =>
    intro w3 I0 fI0 hf
    replace hf : fb_P_firstWay_3 fu k_22 o0 p1 p2 (f_P_firstWay_3 fu k_22 o0 p1 p2 m) w3 I0 = some r := hf
    unfold fb_P_firstWay_3 at hf
    rcases of_ite hf with ⟨_, hf⟩ | ⟨_, hf⟩
    · obtain ⟨g_1, hf⟩ := of_zg hf
      rcases of_ite hf with ⟨_, hf⟩ | ⟨_, hf⟩
      · obtain ⟨x1, -, hf⟩ := of_zl hf
        exact hR_ x1 I0 fI0 hf
      · exact hk_22 w3 I0 fI0 hf
    · exact hk_22 w3 I0 fI0 hf
theorem fr_P_firstWay_31 (M : Nat → Prop) (fu : Nat) {r : Int × IMem} {Ib : IMem} (o0 : Nat) (p1 : Int) (p2 : Int) (p3 : Int) : ∀ (m : Nat) (w4 : Int) (w5 : Int) (w6 : Int) (I0 : IMem), (∀ q, ¬ M q → I0 q = Ib q) → f_P_firstWay_31 fu o0 p1 p2 p3 m w4 w5 w6 I0 = some r → ∀ q, ¬ M q → r.2 q = Ib q := by
  intro m
  induction m with
  | zero => intro w4 w5 w6 I0 _ hf; cases hf
  | succ m hR_ =>
    intro w4 w5 w6 I0 fI0 hf
    replace hf : fb_P_firstWay_31 fu o0 p1 p2 p3 (f_P_firstWay_31 fu o0 p1 p2 p3 m) w4 w5 w6 I0 = some r := hf
    unfold fb_P_firstWay_31 at hf
    rcases of_ite hf with ⟨_, hf⟩ | ⟨_, hf⟩
    · rcases of_ite hf with ⟨_, hf⟩ | ⟨_, hf⟩
      · obtain ⟨g_1, hf⟩ := of_zg hf
        obtain ⟨x4, -, hf⟩ := of_zl hf
        obtain ⟨g_2, hf⟩ := of_zg hf
        obtain ⟨k5, ek5, hf⟩ := of_zj hf
        have hk5 : ∀ (x7 : Int) (x8 : Int) (I6 : IMem), (∀ q, ¬ M q → I6 q = Ib q) → k5 x7 x8 I6 = some r → ∀ q, ¬ M q → r.2 q = Ib q := by
          intro x7 x8 I6 fI6 hf
          subst ek5
          obtain ⟨x9, -, hf⟩ := of_zl hf
          exact hR_ x7 x8 x9 I6 fI6 hf
        rcases of_ite hf with ⟨_, hf⟩ | ⟨_, hf⟩
        · obtain ⟨y10, I11, c_3, hf⟩ := of_zb hf
          have fI11 := fr_tr (fr_P_canGo M fu o0 w6 p2 I0 c_3) fI0
          rcases of_ite hf with ⟨_, hf⟩ | ⟨_, hf⟩
          · exact hk5 w4 w5 I11 fI11 hf
          · rcases of_ite hf with ⟨_, hf⟩ | ⟨_, hf⟩
            · exact hk5 w4 w5 I11 fI11 hf
            · rcases of_ite hf with ⟨_, hf⟩ | ⟨_, hf⟩
              · obtain ⟨k13, ek13, hf⟩ := of_zj hf
                have hk13 : ∀  (I14 : IMem), (∀ q, ¬ M q → I14 q = Ib q) → k13 I14 = some r → ∀ q, ¬ M q → r.2 q = Ib q := by
                  intro I14 fI14 hf
                  subst ek13
                  obtain ⟨g_4, hf⟩ := of_zg hf
                  obtain ⟨x15, -, hf⟩ := of_zl hf
                  exact hk5 w6 x15 I14 fI14 hf
                rcases of_ite hf with ⟨_, hf⟩ | ⟨_, hf⟩
                · exact hk13 I11 fI11 hf
                · obtain ⟨g_5, hf⟩ := of_zg hf
                  rcases of_ite hf with ⟨_, hf⟩ | ⟨_, hf⟩
                  · exact hk13 I11 fI11 hf
                  · exact hk5 w4 w5 I11 fI11 hf
              · exact hk5 w4 w5 I11 fI11 hf
        · exact hk5 w4 w5 I0 fI0 hf
      · cases hf; exact fI0
    · cases hf; exact fI0
theorem fr_P_firstWay (M : Nat → Prop) (fu : Nat) (o0 : Nat) (a1 : Int) (a2 : Int) (I0 : IMem) {r : Int × IMem} (hf : f_P_firstWay fu o0 a1 a2 I0 = some r) : ∀ q, ¬ M q → r.2 q = I0 q := by
  unfold f_P_firstWay at hf
  obtain ⟨Ib, hIb⟩ : ∃ Ib : IMem, Ib = I0 := ⟨I0, rfl⟩
  rw [← hIb]
  have f0 : ∀ q, ¬ M q → I0 q = Ib q := fun q _ => by rw [hIb]
  clear hIb
  refine fr_P_firstWay_3 M fu _ o0 a1 a2 ?_ fu 8 I0 f0 hf
  · intro x3 I2 fI2 hf
    refine fr_P_firstWay_31 M fu o0 a1 a2 x3 fu ((-1)) 0 0 I2 fI2 hf
theorem fr_P_goOn_2 (M : Nat → Prop) (fu : Nat) {r : Int × IMem} {Ib : IMem} (k_26 : Int → IMem → Res) (o0 : Nat) (o1 : Nat) (n1 : Nat) (m_o0_5 : M (o0 + 5)) (hk_26 : ∀ (z0 : Int) (I9 : IMem), (∀ q, ¬ M q → I9 q = Ib q) → k_26 z0 I9 = some r → ∀ q, ¬ M q → r.2 q = Ib q) : ∀ (m : Nat) (w2 : Int) (I0 : IMem), (∀ q, ¬ M q → I0 q = Ib q) → f_P_goOn_2 fu k_26 o0 o1 n1 m w2 I0 = some r → ∀ q, ¬ M q → r.2 q = Ib q := by
  intro m
  induction m with
  | zero => intro w2 I0 _ hf; cases hf
  | succ m hR_ =>
    intro w2 I0 fI0 hf
    replace hf : fb_P_goOn_2 fu k_26 o0 o1 n1 (f_P_goOn_2 fu k_26 o0 o1 n1 m) w2 I0 = some r := hf
    unfold fb_P_goOn_2 at hf
    rcases of_ite hf with ⟨_, hf⟩ | ⟨_, hf⟩
    · cases hf; exact fI0
    · rcases of_ite hf with ⟨_, hf⟩ | ⟨_, hf⟩
      · obtain ⟨g_1, hf⟩ := of_zg hf
        obtain ⟨g_2, hf⟩ := of_zg hf
        rcases of_ite hf with ⟨_, hf⟩ | ⟨_, hf⟩
        · exact hk_26 w2 I0 fI0 hf
        · obtain ⟨g_3, hf⟩ := of_zg hf
          obtain ⟨I1, fI1, hf⟩ := fr_zw m_o0_5 fI0 hf
          obtain ⟨x2, -, hf⟩ := of_zl hf
          exact hR_ x2 I1 fI1 hf
      · cases hf; exact fI0
theorem fr_P_goOn (M : Nat → Prop) (fu : Nat) (o0 : Nat) (o1 n1 : Nat) (I0 : IMem) {r : Int × IMem} (m_o0_5 : M (o0 + 5)) (hf : f_P_goOn fu o0 o1 n1 I0 = some r) : ∀ q, ¬ M q → r.2 q = I0 q := by
  unfold f_P_goOn at hf
  obtain ⟨Ib, hIb⟩ : ∃ Ib : IMem, Ib = I0 := ⟨I0, rfl⟩
  rw [← hIb]
  have f0 : ∀ q, ¬ M q → I0 q = Ib q := fun q _ => by rw [hIb]
  clear hIb
  refine fr_P_goOn_2 M fu _ o0 o1 n1 m_o0_5 ?_ fu 1 I0 f0 hf
  · intro x4 I3 fI3 hf
    obtain ⟨g_1, hf⟩ := of_zg hf
    obtain ⟨g_2, hf⟩ := of_zg hf
    obtain ⟨I5, fI5, hf⟩ := fr_zw m_o0_5 fI3 hf
    cases hf; exact fI5
theorem fr_P_numberAll_27 (M : Nat → Prop) (fu : Nat) {r : Int × IMem} {Ib : IMem} (k_64 : IMem → Res) (o0 : Nat) (o1 : Nat) (n1 : Nat) (p2 : Int) (p3 : Int) (m_o0_3 : M (o0 + 3)) (hk_64 : ∀ (I9 : IMem), (∀ q, ¬ M q → I9 q = Ib q) → k_64 I9 = some r → ∀ q, ¬ M q → r.2 q = Ib q) : ∀ (m : Nat) (w4 : Int) (I0 : IMem), (∀ q, ¬ M q → I0 q = Ib q) → f_P_numberAll_27 fu k_64 o0 o1 n1 p2 p3 m w4 I0 = some r → ∀ q, ¬ M q → r.2 q = Ib q := by
  intro m
  induction m with
  | zero => intro w4 I0 _ hf; cases hf
  | succ m hR_ =>
    intro w4 I0 fI0 hf
    replace hf : fb_P_numberAll_27 fu k_64 o0 o1 n1 p2 p3 (f_P_numberAll_27 fu k_64 o0 o1 n1 p2 p3 m) w4 I0 = some r := hf
    unfold fb_P_numberAll_27 at hf
    rcases of_ite hf with ⟨_, hf⟩ | ⟨_, hf⟩
    · obtain ⟨g_1, hf⟩ := of_zg hf
      obtain ⟨x4, -, hf⟩ := of_zl hf
      obtain ⟨g_2, hf⟩ := of_zg hf
      obtain ⟨g_3, hf⟩ := of_zg hf
      obtain ⟨I5, fI5, hf⟩ := fr_zw m_o0_3 fI0 hf
      obtain ⟨x6, -, hf⟩ := of_zl hf
      exact hR_ x6 I5 fI5 hf
    · exact hk_64 I0 fI0 hf
theorem fr_P_numberAll_12 (M : Nat → Prop) (fu : Nat) {r : Int × IMem} {Ib : IMem} (o0 : Nat) (o1 : Nat) (n1 : Nat) (m_o0_3 : M (o0 + 3)) : ∀ (m : Nat) (w2 : Int) (w3 : Int) (I0 : IMem), (∀ q, ¬ M q → I0 q = Ib q) → f_P_numberAll_12 fu o0 o1 n1 m w2 w3 I0 = some r → ∀ q, ¬ M q → r.2 q = Ib q := by
  intro m
  induction m with
  | zero => intro w2 w3 I0 _ hf; cases hf
  | succ m hR_ =>
    intro w2 w3 I0 fI0 hf
    replace hf : fb_P_numberAll_12 fu o0 o1 n1 (f_P_numberAll_12 fu o0 o1 n1 m) w2 w3 I0 = some r := hf
    unfold fb_P_numberAll_12 at hf
    rcases of_ite hf with ⟨_, hf⟩ | ⟨_, hf⟩
    · cases hf; exact fI0
    · rcases of_ite hf with ⟨_, hf⟩ | ⟨_, hf⟩
      · refine fr_P_numberAll_27 M fu _ o0 o1 n1 w2 w3 m_o0_3 ?_ fu 0 I0 fI0 hf
        · intro I7 fI7 hf
          obtain ⟨g_1, hf⟩ := of_zg hf
          obtain ⟨x8, -, hf⟩ := of_zl hf
          obtain ⟨x9, -, hf⟩ := of_zl hf
          exact hR_ x8 x9 I7 fI7 hf
      · cases hf; exact fI0
theorem fr_P_numberAll (M : Nat → Prop) (fu : Nat) (o0 : Nat) (o1 n1 : Nat) (I0 : IMem) {r : Int × IMem} (m_o0_3 : M (o0 + 3)) (hf : f_P_numberAll fu o0 o1 n1 I0 = some r) : ∀ q, ¬ M q → r.2 q = I0 q := by
  unfold f_P_numberAll at hf
  obtain ⟨Ib, hIb⟩ : ∃ Ib : IMem, Ib = I0 := ⟨I0, rfl⟩
  rw [← hIb]
  have f0 : ∀ q, ¬ M q → I0 q = Ib q := fun q _ => by rw [hIb]
  clear hIb
  obtain ⟨u_2, I2, c_1, hf⟩ := of_zb hf
  have fI2 := fr_tr (fr_JA_fill M fu (o0 + 3) 67 0 I0 m_o0_3 c_1) f0
  refine fr_P_numberAll_12 M fu o0 o1 n1 m_o0_3 fu 1 1 I2 fI2 hf
theorem fr_P_pack_22 (M : Nat → Prop) (fu : Nat) {r : Int × IMem} {Ib : IMem} (k_115 : IMem → Res) (o0 : Nat) (o1 : Nat) (n1 : Nat) (p2 : Int) (p3 : Int) (m_o0_0 : M o0) (m_o0_4 : M (o0 + 4)) (m_o0_5 : M (o0 + 5)) (hk_115 : ∀ (I9 : IMem), (∀ q, ¬ M q → I9 q = Ib q) → k_115 I9 = some r → ∀ q, ¬ M q → r.2 q = Ib q) : ∀ (m : Nat) (w4 : Int) (I0 : IMem), (∀ q, ¬ M q → I0 q = Ib q) → f_P_pack_22 fu k_115 o0 o1 n1 p2 p3 m w4 I0 = some r → ∀ q, ¬ M q → r.2 q = Ib q := by
  intro m
  induction m with
  | zero => intro w4 I0 _ hf; cases hf
  | succ m hR_ =>
    intro w4 I0 fI0 hf
    replace hf : fb_P_pack_22 fu k_115 o0 o1 n1 p2 p3 (f_P_pack_22 fu k_115 o0 o1 n1 p2 p3 m) w4 I0 = some r := hf
    unfold fb_P_pack_22 at hf
    rcases of_ite hf with ⟨_, hf⟩ | ⟨_, hf⟩
    · rcases of_ite hf with ⟨_, hf⟩ | ⟨_, hf⟩
      · obtain ⟨u_2, I9, c_1, hf⟩ := of_zb hf
        have fI9 := fr_tr (fr_P_goOn M fu o0 o1 n1 I0 m_o0_5 c_1) fI0
        obtain ⟨y11, I12, c_3, hf⟩ := of_zb hf
        have fI12 := fr_tr (fr_P_firstWay M fu o0 w4 p2 I9 c_3) fI9
        obtain ⟨I14, fI14, hf⟩ := fr_zw m_o0_0 fI12 hf
        rcases of_ite hf with ⟨_, hf⟩ | ⟨_, hf⟩
        · cases hf; exact fI14
        · obtain ⟨x15, -, hf⟩ := of_zl hf
          obtain ⟨g_4, hf⟩ := of_zg hf
          obtain ⟨x16, -, hf⟩ := of_zl hf
          obtain ⟨k17, ek17, hf⟩ := of_zj hf
          have hk17 : ∀ (x19 : Int) (I18 : IMem), (∀ q, ¬ M q → I18 q = Ib q) → k17 x19 I18 = some r → ∀ q, ¬ M q → r.2 q = Ib q := by
            intro x19 I18 fI18 hf
            subst ek17
            obtain ⟨g_5, hf⟩ := of_zg hf
            obtain ⟨I20, fI20, hf⟩ := fr_zw m_o0_4 fI18 hf
            obtain ⟨x21, -, hf⟩ := of_zl hf
            exact hR_ x21 I20 fI20 hf
          rcases of_ite hf with ⟨_, hf⟩ | ⟨_, hf⟩
          · exact hk17 ((-1)) I14 fI14 hf
          · rcases of_ite hf with ⟨_, hf⟩ | ⟨_, hf⟩
            · obtain ⟨g_6, hf⟩ := of_zg hf
              exact hk17 (wr32 (1 + (I14 (o0 + 4) x16.toNat))) I14 fI14 hf
            · exact hk17 ((-1)) I14 fI14 hf
      · exact hk_115 I0 fI0 hf
    · exact hk_115 I0 fI0 hf
theorem fr_P_pack (M : Nat → Prop) (fu : Nat) (o0 : Nat) (o1 n1 : Nat) (a2 : Int) (I0 : IMem) {r : Int × IMem} (m_o0_0 : M o0) (m_o0_3 : M (o0 + 3)) (m_o0_4 : M (o0 + 4)) (m_o0_5 : M (o0 + 5)) (hf : f_P_pack fu o0 o1 n1 a2 I0 = some r) : ∀ q, ¬ M q → r.2 q = I0 q := by
  unfold f_P_pack at hf
  obtain ⟨Ib, hIb⟩ : ∃ Ib : IMem, Ib = I0 := ⟨I0, rfl⟩
  rw [← hIb]
  have f0 : ∀ q, ¬ M q → I0 q = Ib q := fun q _ => by rw [hIb]
  clear hIb
  obtain ⟨y1, I2, c_1, hf⟩ := of_zb hf
  have fI2 := fr_tr (fr_P_numberAll M fu o0 o1 n1 I0 m_o0_3 c_1) f0
  obtain ⟨u_3, I5, c_2, hf⟩ := of_zb hf
  have fI5 := fr_tr (fr_JA_fill M fu (o0 + 5) 9 0 I2 m_o0_5 c_2) fI2
  obtain ⟨I7, fI7, hf⟩ := fr_zw m_o0_0 fI5 hf
  refine fr_P_pack_22 M fu _ o0 o1 n1 a2 y1 m_o0_0 m_o0_4 m_o0_5 ?_ fu 1 I7 fI7 hf
  · intro I22 fI22 hf
    rcases of_ite hf with ⟨_, hf⟩ | ⟨_, hf⟩
    · cases hf; exact fI22
    · rcases of_ite hf with ⟨_, hf⟩ | ⟨_, hf⟩
      · cases hf; exact fI22
      · obtain ⟨x23, -, hf⟩ := of_zl hf
        obtain ⟨g_4, hf⟩ := of_zg hf
        cases hf; exact fI22
theorem fr_S_fewest (M : Nat → Prop) (fu : Nat) (o0 : Nat) (a1 : Int) (I0 : IMem) {r : Int × IMem} (m_o0_160 : M (o0 + 160)) (m_o0_163 : M (o0 + 163)) (m_o0_164 : M (o0 + 164)) (m_o0_165 : M (o0 + 165)) (hf : f_S_fewest fu o0 a1 I0 = some r) : ∀ q, ¬ M q → r.2 q = I0 q := by
  unfold f_S_fewest at hf
  obtain ⟨Ib, hIb⟩ : ∃ Ib : IMem, Ib = I0 := ⟨I0, rfl⟩
  rw [← hIb]
  have f0 : ∀ q, ¬ M q → I0 q = Ib q := fun q _ => by rw [hIb]
  clear hIb
  rcases of_ite hf with ⟨_, hf⟩ | ⟨_, hf⟩
  · cases hf; exact f0
  · rcases of_ite hf with ⟨_, hf⟩ | ⟨_, hf⟩
    · cases hf; exact f0
    · obtain ⟨y1, I2, c_1, hf⟩ := of_zb hf
      have fI2 := fr_tr (fr_P_pack M fu (o0 + 160) (o0 + 6) 9 (I0 (o0 + 2) 0) I0 m_o0_160 m_o0_163 m_o0_164 m_o0_165 c_1) f0
      rcases of_ite hf with ⟨_, hf⟩ | ⟨_, hf⟩
      · cases hf; exact fI2
      · rcases of_ite hf with ⟨_, hf⟩ | ⟨_, hf⟩
        · cases hf; exact fI2
        · obtain ⟨y4, I5, c_2, hf⟩ := of_zb hf
          have fI5 := fr_tr (fr_P_inFirst M fu (o0 + 160) a1 I2 c_2) fI2
          cases hf; exact fI5
theorem fr_M_allWait_4 (M : Nat → Prop) (fu : Nat) {r : Int × IMem} {Ib : IMem} (o0 : Nat) : ∀ (m : Nat) (w1 : Int) (w2 : Int) (I0 : IMem), (∀ q, ¬ M q → I0 q = Ib q) → f_M_allWait_4 fu o0 m w1 w2 I0 = some r → ∀ q, ¬ M q → r.2 q = Ib q := by
  intro m
  induction m with
  | zero => intro w1 w2 I0 _ hf; cases hf
  | succ m hR_ =>
    intro w1 w2 I0 fI0 hf
    replace hf : fb_M_allWait_4 fu o0 (f_M_allWait_4 fu o0 m) w1 w2 I0 = some r := hf
    unfold fb_M_allWait_4 at hf
    rcases of_ite hf with ⟨_, hf⟩ | ⟨_, hf⟩
    · cases hf; exact fI0
    · obtain ⟨x1, -, hf⟩ := of_zl hf
      obtain ⟨g_1, hf⟩ := of_zg hf
      obtain ⟨x2, -, hf⟩ := of_zl hf
      obtain ⟨x3, -, hf⟩ := of_zl hf
      exact hR_ x2 x3 I0 fI0 hf
theorem fr_M_allWait (M : Nat → Prop) (fu : Nat) (o0 : Nat) (I0 : IMem) {r : Int × IMem} (hf : f_M_allWait fu o0 I0 = some r) : ∀ q, ¬ M q → r.2 q = I0 q := by
  unfold f_M_allWait at hf
  obtain ⟨Ib, hIb⟩ : ∃ Ib : IMem, Ib = I0 := ⟨I0, rfl⟩
  rw [← hIb]
  have f0 : ∀ q, ¬ M q → I0 q = Ib q := fun q _ => by rw [hIb]
  clear hIb
  refine fr_M_allWait_4 M fu o0 fu 0 1 I0 f0 hf
theorem fr_M_longest_4 (M : Nat → Prop) (fu : Nat) {r : Int × IMem} {Ib : IMem} (o0 : Nat) : ∀ (m : Nat) (w1 : Int) (w2 : Int) (I0 : IMem), (∀ q, ¬ M q → I0 q = Ib q) → f_M_longest_4 fu o0 m w1 w2 I0 = some r → ∀ q, ¬ M q → r.2 q = Ib q := by
  intro m
  induction m with
  | zero => intro w1 w2 I0 _ hf; cases hf
  | succ m hR_ =>
    intro w1 w2 I0 fI0 hf
    replace hf : fb_M_longest_4 fu o0 (f_M_longest_4 fu o0 m) w1 w2 I0 = some r := hf
    unfold fb_M_longest_4 at hf
    rcases of_ite hf with ⟨_, hf⟩ | ⟨_, hf⟩
    · cases hf; exact fI0
    · obtain ⟨x1, -, hf⟩ := of_zl hf
      obtain ⟨g_1, hf⟩ := of_zg hf
      obtain ⟨y2, I3, c_2, hf⟩ := of_zb hf
      have fI3 := fr_tr (fr_JM_max M fu w1 (I0 (o0 + 11) x1.toNat) I0 c_2) fI0
      obtain ⟨x5, -, hf⟩ := of_zl hf
      exact hR_ y2 x5 I3 fI3 hf
theorem fr_M_longest (M : Nat → Prop) (fu : Nat) (o0 : Nat) (I0 : IMem) {r : Int × IMem} (hf : f_M_longest fu o0 I0 = some r) : ∀ q, ¬ M q → r.2 q = I0 q := by
  unfold f_M_longest at hf
  obtain ⟨Ib, hIb⟩ : ∃ Ib : IMem, Ib = I0 := ⟨I0, rfl⟩
  rw [← hIb]
  have f0 : ∀ q, ¬ M q → I0 q = Ib q := fun q _ => by rw [hIb]
  clear hIb
  refine fr_M_longest_4 M fu o0 fu 0 1 I0 f0 hf
theorem fr_M_gained (M : Nat → Prop) (fu : Nat) (o0 : Nat) (o1 : Nat) (a2 : Int) (I0 : IMem) {r : Int × IMem} (hf : f_M_gained fu o0 o1 a2 I0 = some r) : ∀ q, ¬ M q → r.2 q = I0 q := by
  unfold f_M_gained at hf
  obtain ⟨Ib, hIb⟩ : ∃ Ib : IMem, Ib = I0 := ⟨I0, rfl⟩
  rw [← hIb]
  have f0 : ∀ q, ¬ M q → I0 q = Ib q := fun q _ => by rw [hIb]
  clear hIb
  rcases of_ite hf with ⟨_, hf⟩ | ⟨_, hf⟩
  · cases hf; exact f0
  · rcases of_ite hf with ⟨_, hf⟩ | ⟨_, hf⟩
    · cases hf; exact f0
    · rcases of_ite hf with ⟨_, hf⟩ | ⟨_, hf⟩
      · obtain ⟨y4, I5, c_1, hf⟩ := of_zb hf
        have fI5 := fr_tr (fr_M_allWait M fu (o0 + 1) I0 c_1) f0
        obtain ⟨y7, I8, c_2, hf⟩ := of_zb hf
        have fI8 := fr_tr (fr_M_allWait M fu o1 I5 c_2) fI5
        cases hf; exact fI8
      · rcases of_ite hf with ⟨_, hf⟩ | ⟨_, hf⟩
        · cases hf; exact f0
        · rcases of_ite hf with ⟨_, hf⟩ | ⟨_, hf⟩
          · cases hf; exact f0
          · obtain ⟨y12, I13, c_3, hf⟩ := of_zb hf
            have fI13 := fr_tr (fr_M_longest M fu o0 I0 c_3) f0
            cases hf; exact fI13
theorem fr_L_copyFrom (M : Nat → Prop) (fu : Nat) (o0 : Nat) (o1 : Nat) (I0 : IMem) {r : Int × IMem} (m_o0_1 : M (o0 + 1)) (m_o0_2 : M (o0 + 2)) (m_o0_3 : M (o0 + 3)) (hf : f_L_copyFrom fu o0 o1 I0 = some r) : ∀ q, ¬ M q → r.2 q = I0 q := by
  unfold f_L_copyFrom at hf
  obtain ⟨Ib, hIb⟩ : ∃ Ib : IMem, Ib = I0 := ⟨I0, rfl⟩
  rw [← hIb]
  have f0 : ∀ q, ¬ M q → I0 q = Ib q := fun q _ => by rw [hIb]
  clear hIb
  obtain ⟨g_1, hf⟩ := of_zg hf
  obtain ⟨I1, fI1, hf⟩ := fr_zc m_o0_1 f0 hf
  obtain ⟨g_2, hf⟩ := of_zg hf
  obtain ⟨I2, fI2, hf⟩ := fr_zc m_o0_2 fI1 hf
  obtain ⟨g_3, hf⟩ := of_zg hf
  obtain ⟨I3, fI3, hf⟩ := fr_zc m_o0_3 fI2 hf
  cases hf; exact fI3
theorem fr_H_copyFrom_2 (M : Nat → Prop) (fu : Nat) {r : Int × IMem} {Ib : IMem} (k_41 : IMem → Res) (o0 : Nat) (o1 : Nat) (m_o0_15_40 : ∀ q, o0 + 15 ≤ q → q < o0 + 40 → M q) (hk_41 : ∀ (I9 : IMem), (∀ q, ¬ M q → I9 q = Ib q) → k_41 I9 = some r → ∀ q, ¬ M q → r.2 q = Ib q) : ∀ (m : Nat) (w2 : Int) (I0 : IMem), (∀ q, ¬ M q → I0 q = Ib q) → f_H_copyFrom_2 fu k_41 o0 o1 m w2 I0 = some r → ∀ q, ¬ M q → r.2 q = Ib q := by
  intro m
  induction m with
  | zero => intro w2 I0 _ hf; cases hf
  | succ m hR_ =>
    intro w2 I0 fI0 hf
    replace hf : fb_H_copyFrom_2 fu k_41 o0 o1 (f_H_copyFrom_2 fu k_41 o0 o1 m) w2 I0 = some r := hf
    unfold fb_H_copyFrom_2 at hf
    rcases of_ite hf with ⟨_, hf⟩ | ⟨_, hf⟩
    · rcases of_ite hf with ⟨_, hf⟩ | ⟨_, hf⟩
      · obtain ⟨g_1, hf⟩ := of_zg hf
        obtain ⟨g_2, hf⟩ := of_zg hf
        obtain ⟨u_4, I4, c_3, hf⟩ := of_zb hf
        have fI4 := fr_tr (fr_W_copyFrom M fu (o0 + 15 + 5 * w2.toNat) (o1 + 15 + 5 * w2.toNat) I0 (m_o0_15_40 _ (by omega) (by omega)) (m_o0_15_40 _ (by omega) (by omega)) (m_o0_15_40 _ (by omega) (by omega)) (m_o0_15_40 _ (by omega) (by omega)) c_3) fI0
        obtain ⟨x6, -, hf⟩ := of_zl hf
        exact hR_ x6 I4 fI4 hf
      · exact hk_41 I0 fI0 hf
    · exact hk_41 I0 fI0 hf
theorem fr_H_copyFrom (M : Nat → Prop) (fu : Nat) (o0 : Nat) (o1 : Nat) (I0 : IMem) {r : Int × IMem} (m_o0_15_40 : ∀ q, o0 + 15 ≤ q → q < o0 + 40 → M q) (m_o0_0 : M o0) (m_o0_1 : M (o0 + 1)) (m_o0_3 : M (o0 + 3)) (m_o0_4 : M (o0 + 4)) (m_o0_5 : M (o0 + 5)) (m_o0_7 : M (o0 + 7)) (m_o0_8 : M (o0 + 8)) (m_o0_9 : M (o0 + 9)) (m_o0_10 : M (o0 + 10)) (m_o0_11 : M (o0 + 11)) (m_o0_12 : M (o0 + 12)) (hf : f_H_copyFrom fu o0 o1 I0 = some r) : ∀ q, ¬ M q → r.2 q = I0 q := by
  unfold f_H_copyFrom at hf
  obtain ⟨Ib, hIb⟩ : ∃ Ib : IMem, Ib = I0 := ⟨I0, rfl⟩
  rw [← hIb]
  have f0 : ∀ q, ¬ M q → I0 q = Ib q := fun q _ => by rw [hIb]
  clear hIb
  refine fr_H_copyFrom_2 M fu _ o0 o1 m_o0_15_40 ?_ fu 0 I0 f0 hf
  · intro I7 fI7 hf
    obtain ⟨u_2, I9, c_1, hf⟩ := of_zb hf
    have fI9 := fr_tr (fr_L_copyFrom M fu (o0 + 6) (o1 + 6) I7 m_o0_7 m_o0_8 m_o0_9 c_1) fI7
    obtain ⟨g_3, hf⟩ := of_zg hf
    obtain ⟨I11, fI11, hf⟩ := fr_zc m_o0_1 fI9 hf
    obtain ⟨g_4, hf⟩ := of_zg hf
    obtain ⟨I12, fI12, hf⟩ := fr_zc m_o0_3 fI11 hf
    obtain ⟨g_5, hf⟩ := of_zg hf
    obtain ⟨I13, fI13, hf⟩ := fr_zc m_o0_4 fI12 hf
    obtain ⟨g_6, hf⟩ := of_zg hf
    obtain ⟨I14, fI14, hf⟩ := fr_zc m_o0_5 fI13 hf
    obtain ⟨g_7, hf⟩ := of_zg hf
    obtain ⟨I15, fI15, hf⟩ := fr_zc m_o0_10 fI14 hf
    obtain ⟨g_8, hf⟩ := of_zg hf
    obtain ⟨I16, fI16, hf⟩ := fr_zc m_o0_11 fI15 hf
    obtain ⟨g_9, hf⟩ := of_zg hf
    obtain ⟨I17, fI17, hf⟩ := fr_zc m_o0_12 fI16 hf
    obtain ⟨I18, fI18, hf⟩ := fr_zw m_o0_0 fI17 hf
    obtain ⟨I19, fI19, hf⟩ := fr_zw m_o0_0 fI18 hf
    obtain ⟨I20, fI20, hf⟩ := fr_zw m_o0_0 fI19 hf
    cases hf; exact fI20
theorem fr_M_imagine (M : Nat → Prop) (fu : Nat) (o0 : Nat) (o1 : Nat) (a2 : Int) (a3 : Int) (a4 : Int) (a5 : Int) (I0 : IMem) {r : Int × IMem} (m_o0_16_41 : ∀ q, o0 + 16 ≤ q → q < o0 + 41 → M q) (m_o0_1 : M (o0 + 1)) (m_o0_2 : M (o0 + 2)) (m_o0_4 : M (o0 + 4)) (m_o0_5 : M (o0 + 5)) (m_o0_6 : M (o0 + 6)) (m_o0_8 : M (o0 + 8)) (m_o0_9 : M (o0 + 9)) (m_o0_10 : M (o0 + 10)) (m_o0_11 : M (o0 + 11)) (m_o0_12 : M (o0 + 12)) (m_o0_13 : M (o0 + 13)) (m_o0_14 : M (o0 + 14)) (m_o0_15 : M (o0 + 15)) (m_o0_41 : M (o0 + 41)) (m_o0_42 : M (o0 + 42)) (m_o0_43 : M (o0 + 43)) (m_o0_44 : M (o0 + 44)) (m_o0_45 : M (o0 + 45)) (m_o0_46 : M (o0 + 46)) (m_o0_47 : M (o0 + 47)) (hf : f_M_imagine fu o0 o1 a2 a3 a4 a5 I0 = some r) : ∀ q, ¬ M q → r.2 q = I0 q := by
  unfold f_M_imagine at hf
  obtain ⟨Ib, hIb⟩ : ∃ Ib : IMem, Ib = I0 := ⟨I0, rfl⟩
  rw [← hIb]
  have f0 : ∀ q, ¬ M q → I0 q = Ib q := fun q _ => by rw [hIb]
  clear hIb
  obtain ⟨u_2, I2, c_1, hf⟩ := of_zb hf
  have fI2 := fr_tr (fr_H_copyFrom M fu (o0 + 1) o1 I0 m_o0_16_41 m_o0_1 m_o0_2 m_o0_4 m_o0_5 m_o0_6 m_o0_8 m_o0_9 m_o0_10 m_o0_11 m_o0_12 m_o0_13 c_1) f0
  obtain ⟨I4, fI4, hf⟩ := fr_zw m_o0_2 fI2 hf
  obtain ⟨I5, fI5, hf⟩ := fr_zw m_o0_2 fI4 hf
  obtain ⟨I6, fI6, hf⟩ := fr_zw m_o0_2 fI5 hf
  obtain ⟨y7, I8, c_3, hf⟩ := of_zb hf
  have fI8 := fr_tr (fr_C_turns M fu (o0 + 41) (o0 + 1) a5 I6 m_o0_16_41 m_o0_41 m_o0_42 m_o0_43 m_o0_44 m_o0_45 m_o0_46 m_o0_47 m_o0_1 m_o0_8 m_o0_9 m_o0_11 m_o0_12 m_o0_13 m_o0_14 m_o0_15 c_3) fI6
  cases hf; exact fI8
theorem fr_S_thought (M : Nat → Prop) (fu : Nat) (o0 : Nat) (a1 : Int) (a2 : Int) (a3 : Int) (a4 : Int) (a5 : Int) (I0 : IMem) {r : Int × IMem} (m_o0_97_122 : ∀ q, o0 + 97 ≤ q → q < o0 + 122 → M q) (m_o0_82 : M (o0 + 82)) (m_o0_83 : M (o0 + 83)) (m_o0_85 : M (o0 + 85)) (m_o0_86 : M (o0 + 86)) (m_o0_87 : M (o0 + 87)) (m_o0_89 : M (o0 + 89)) (m_o0_90 : M (o0 + 90)) (m_o0_91 : M (o0 + 91)) (m_o0_92 : M (o0 + 92)) (m_o0_93 : M (o0 + 93)) (m_o0_94 : M (o0 + 94)) (m_o0_95 : M (o0 + 95)) (m_o0_96 : M (o0 + 96)) (m_o0_122 : M (o0 + 122)) (m_o0_123 : M (o0 + 123)) (m_o0_124 : M (o0 + 124)) (m_o0_125 : M (o0 + 125)) (m_o0_126 : M (o0 + 126)) (m_o0_127 : M (o0 + 127)) (m_o0_128 : M (o0 + 128)) (hf : f_S_thought fu o0 a1 a2 a3 a4 a5 I0 = some r) : ∀ q, ¬ M q → r.2 q = I0 q := by
  unfold f_S_thought at hf
  obtain ⟨Ib, hIb⟩ : ∃ Ib : IMem, Ib = I0 := ⟨I0, rfl⟩
  rw [← hIb]
  have f0 : ∀ q, ¬ M q → I0 q = Ib q := fun q _ => by rw [hIb]
  clear hIb
  obtain ⟨y1, I2, c_1, hf⟩ := of_zb hf
  have fI2 := fr_tr (fr_S_canTell M fu 5 a1 I0 c_1) f0
  rcases of_ite hf with ⟨_, hf⟩ | ⟨_, hf⟩
  · cases hf; exact fI2
  · obtain ⟨y4, I5, c_2, hf⟩ := of_zb hf
    have fI5 := fr_tr (fr_S_canTell M fu 4 a2 I2 c_2) fI2
    rcases of_ite hf with ⟨_, hf⟩ | ⟨_, hf⟩
    · cases hf; exact fI5
    · obtain ⟨y7, I8, c_3, hf⟩ := of_zb hf
      have fI8 := fr_tr (fr_S_canTell M fu 0 a3 I5 c_3) fI5
      rcases of_ite hf with ⟨_, hf⟩ | ⟨_, hf⟩
      · cases hf; exact fI8
      · rcases of_ite hf with ⟨_, hf⟩ | ⟨_, hf⟩
        · cases hf; exact fI8
        · rcases of_ite hf with ⟨_, hf⟩ | ⟨_, hf⟩
          · cases hf; exact fI8
          · rcases of_ite hf with ⟨_, hf⟩ | ⟨_, hf⟩
            · cases hf; exact fI8
            · rcases of_ite hf with ⟨_, hf⟩ | ⟨_, hf⟩
              · cases hf; exact fI8
              · obtain ⟨u_5, I11, c_4, hf⟩ := of_zb hf
                have fI11 := fr_tr (fr_M_imagine M fu (o0 + 81) (o0 + 1) a1 a2 a3 a4 I8 m_o0_97_122 m_o0_82 m_o0_83 m_o0_85 m_o0_86 m_o0_87 m_o0_89 m_o0_90 m_o0_91 m_o0_92 m_o0_93 m_o0_94 m_o0_95 m_o0_96 m_o0_122 m_o0_123 m_o0_124 m_o0_125 m_o0_126 m_o0_127 m_o0_128 c_4) fI8
                obtain ⟨y13, I14, c_6, hf⟩ := of_zb hf
                have fI14 := fr_tr (fr_M_gained M fu (o0 + 81) (o0 + 1) a5 I11 c_6) fI11
                cases hf; exact fI14
theorem fr_S_price (M : Nat → Prop) (fu : Nat) (o0 : Nat) (a1 : Int) (a2 : Int) (I0 : IMem) {r : Int × IMem} (m_o0_97_122 : ∀ q, o0 + 97 ≤ q → q < o0 + 122 → M q) (m_o0_82 : M (o0 + 82)) (m_o0_83 : M (o0 + 83)) (m_o0_85 : M (o0 + 85)) (m_o0_86 : M (o0 + 86)) (m_o0_87 : M (o0 + 87)) (m_o0_89 : M (o0 + 89)) (m_o0_90 : M (o0 + 90)) (m_o0_91 : M (o0 + 91)) (m_o0_92 : M (o0 + 92)) (m_o0_93 : M (o0 + 93)) (m_o0_94 : M (o0 + 94)) (m_o0_95 : M (o0 + 95)) (m_o0_96 : M (o0 + 96)) (m_o0_122 : M (o0 + 122)) (m_o0_123 : M (o0 + 123)) (m_o0_124 : M (o0 + 124)) (m_o0_125 : M (o0 + 125)) (m_o0_126 : M (o0 + 126)) (m_o0_127 : M (o0 + 127)) (m_o0_128 : M (o0 + 128)) (hf : f_S_price fu o0 a1 a2 I0 = some r) : ∀ q, ¬ M q → r.2 q = I0 q := by
  unfold f_S_price at hf
  obtain ⟨Ib, hIb⟩ : ∃ Ib : IMem, Ib = I0 := ⟨I0, rfl⟩
  rw [← hIb]
  have f0 : ∀ q, ¬ M q → I0 q = Ib q := fun q _ => by rw [hIb]
  clear hIb
  obtain ⟨y1, I2, c_1, hf⟩ := of_zb hf
  have fI2 := fr_tr (fr_S_canTell M fu 4 a1 I0 c_1) f0
  rcases of_ite hf with ⟨_, hf⟩ | ⟨_, hf⟩
  · cases hf; exact fI2
  · rcases of_ite hf with ⟨_, hf⟩ | ⟨_, hf⟩
    · cases hf; exact fI2
    · rcases of_ite hf with ⟨_, hf⟩ | ⟨_, hf⟩
      · cases hf; exact fI2
      · obtain ⟨x4, -, hf⟩ := of_zl hf
        obtain ⟨x5, -, hf⟩ := of_zl hf
        obtain ⟨u_3, I7, c_2, hf⟩ := of_zb hf
        have fI7 := fr_tr (fr_M_imagine M fu (o0 + 81) (o0 + 1) x4 a1 x5 a2 I2 m_o0_97_122 m_o0_82 m_o0_83 m_o0_85 m_o0_86 m_o0_87 m_o0_89 m_o0_90 m_o0_91 m_o0_92 m_o0_93 m_o0_94 m_o0_95 m_o0_96 m_o0_122 m_o0_123 m_o0_124 m_o0_125 m_o0_126 m_o0_127 m_o0_128 c_2) fI2
        obtain ⟨y9, I10, c_4, hf⟩ := of_zb hf
        have fI10 := fr_tr (fr_M_gained M fu (o0 + 81) (o0 + 1) 0 I7 c_4) fI7
        obtain ⟨u_6, I13, c_5, hf⟩ := of_zb hf
        have fI13 := fr_tr (fr_M_imagine M fu (o0 + 81) (o0 + 1) x4 0 x5 a2 I10 m_o0_97_122 m_o0_82 m_o0_83 m_o0_85 m_o0_86 m_o0_87 m_o0_89 m_o0_90 m_o0_91 m_o0_92 m_o0_93 m_o0_94 m_o0_95 m_o0_96 m_o0_122 m_o0_123 m_o0_124 m_o0_125 m_o0_126 m_o0_127 m_o0_128 c_5) fI10
        obtain ⟨y15, I16, c_7, hf⟩ := of_zb hf
        have fI16 := fr_tr (fr_M_gained M fu (o0 + 81) (o0 + 1) 0 I13 c_7) fI13
        cases hf; exact fI16
theorem fr_H_satLast_2 (M : Nat → Prop) (fu : Nat) {r : Int × IMem} {Ib : IMem} (o0 : Nat) (p1 : Int) : ∀ (m : Nat) (w2 : Int) (I0 : IMem), (∀ q, ¬ M q → I0 q = Ib q) → f_H_satLast_2 fu o0 p1 m w2 I0 = some r → ∀ q, ¬ M q → r.2 q = Ib q := by
  intro m
  induction m with
  | zero => intro w2 I0 _ hf; cases hf
  | succ m hR_ =>
    intro w2 I0 fI0 hf
    replace hf : fb_H_satLast_2 fu o0 p1 (f_H_satLast_2 fu o0 p1 m) w2 I0 = some r := hf
    unfold fb_H_satLast_2 at hf
    rcases of_ite hf with ⟨_, hf⟩ | ⟨_, hf⟩
    · rcases of_ite hf with ⟨_, hf⟩ | ⟨_, hf⟩
      · obtain ⟨x1, -, hf⟩ := of_zl hf
        obtain ⟨g_1, hf⟩ := of_zg hf
        rcases of_ite hf with ⟨_, hf⟩ | ⟨_, hf⟩
        · cases hf; exact fI0
        · obtain ⟨x2, -, hf⟩ := of_zl hf
          exact hR_ x2 I0 fI0 hf
      · cases hf; exact fI0
    · cases hf; exact fI0
theorem fr_H_satLast (M : Nat → Prop) (fu : Nat) (o0 : Nat) (a1 : Int) (I0 : IMem) {r : Int × IMem} (hf : f_H_satLast fu o0 a1 I0 = some r) : ∀ q, ¬ M q → r.2 q = I0 q := by
  unfold f_H_satLast at hf
  obtain ⟨Ib, hIb⟩ : ∃ Ib : IMem, Ib = I0 := ⟨I0, rfl⟩
  rw [← hIb]
  have f0 : ∀ q, ¬ M q → I0 q = Ib q := fun q _ => by rw [hIb]
  clear hIb
  refine fr_H_satLast_2 M fu o0 a1 fu 0 I0 f0 hf
theorem fr_L_hasNumber_10 (M : Nat → Prop) (fu : Nat) {r : Int × IMem} {Ib : IMem} (k_43 : IMem → Res) (o0 : Nat) (p1 : Int) (p2 : Int) (hk_43 : ∀ (I9 : IMem), (∀ q, ¬ M q → I9 q = Ib q) → k_43 I9 = some r → ∀ q, ¬ M q → r.2 q = Ib q) : ∀ (m : Nat) (w3 : Int) (I0 : IMem), (∀ q, ¬ M q → I0 q = Ib q) → f_L_hasNumber_10 fu k_43 o0 p1 p2 m w3 I0 = some r → ∀ q, ¬ M q → r.2 q = Ib q := by
  intro m
  induction m with
  | zero => intro w3 I0 _ hf; cases hf
  | succ m hR_ =>
    intro w3 I0 fI0 hf
    replace hf : fb_L_hasNumber_10 fu k_43 o0 p1 p2 (f_L_hasNumber_10 fu k_43 o0 p1 p2 m) w3 I0 = some r := hf
    unfold fb_L_hasNumber_10 at hf
    obtain ⟨g_1, hf⟩ := of_zg hf
    rcases of_ite hf with ⟨_, hf⟩ | ⟨_, hf⟩
    · obtain ⟨y1, I2, c_2, hf⟩ := of_zb hf
      have fI2 := fr_tr (fr_L_get M fu o0 (wr32 ((wr32 (p2 * 40)) + w3)) 0 I0 c_2) fI0
      rcases of_ite hf with ⟨_, hf⟩ | ⟨_, hf⟩
      · cases hf; exact fI2
      · obtain ⟨x4, -, hf⟩ := of_zl hf
        exact hR_ x4 I2 fI2 hf
    · exact hk_43 I0 fI0 hf
theorem fr_L_hasNumber_2 (M : Nat → Prop) (fu : Nat) {r : Int × IMem} {Ib : IMem} (o0 : Nat) (p1 : Int) : ∀ (m : Nat) (w2 : Int) (I0 : IMem), (∀ q, ¬ M q → I0 q = Ib q) → f_L_hasNumber_2 fu o0 p1 m w2 I0 = some r → ∀ q, ¬ M q → r.2 q = Ib q := by
  intro m
  induction m with
  | zero => intro w2 I0 _ hf; cases hf
  | succ m hR_ =>
    intro w2 I0 fI0 hf
    replace hf : fb_L_hasNumber_2 fu o0 p1 (f_L_hasNumber_2 fu o0 p1 m) w2 I0 = some r := hf
    unfold fb_L_hasNumber_2 at hf
    rcases of_ite hf with ⟨_, hf⟩ | ⟨_, hf⟩
    · refine fr_L_hasNumber_10 M fu _ o0 p1 w2 ?_ fu 0 I0 fI0 hf
      · intro I5 fI5 hf
        obtain ⟨x6, -, hf⟩ := of_zl hf
        exact hR_ x6 I5 fI5 hf
    · cases hf; exact fI0
theorem fr_L_hasNumber (M : Nat → Prop) (fu : Nat) (o0 : Nat) (a1 : Int) (I0 : IMem) {r : Int × IMem} (hf : f_L_hasNumber fu o0 a1 I0 = some r) : ∀ q, ¬ M q → r.2 q = I0 q := by
  unfold f_L_hasNumber at hf
  obtain ⟨Ib, hIb⟩ : ∃ Ib : IMem, Ib = I0 := ⟨I0, rfl⟩
  rw [← hIb]
  have f0 : ∀ q, ¬ M q → I0 q = Ib q := fun q _ => by rw [hIb]
  clear hIb
  refine fr_L_hasNumber_2 M fu o0 a1 fu 0 I0 f0 hf
theorem fr_M_countTill_2 (M : Nat → Prop) (fu : Nat) {r : Int × IMem} {Ib : IMem} (k_45 : Int → IMem → Res) (o0 : Nat) (p1 : Int) (m_o0_16_41 : ∀ q, o0 + 16 ≤ q → q < o0 + 41 → M q) (m_o0_1 : M (o0 + 1)) (m_o0_8 : M (o0 + 8)) (m_o0_9 : M (o0 + 9)) (m_o0_11 : M (o0 + 11)) (m_o0_12 : M (o0 + 12)) (m_o0_13 : M (o0 + 13)) (m_o0_14 : M (o0 + 14)) (m_o0_41 : M (o0 + 41)) (m_o0_42 : M (o0 + 42)) (m_o0_43 : M (o0 + 43)) (m_o0_44 : M (o0 + 44)) (m_o0_45 : M (o0 + 45)) (m_o0_46 : M (o0 + 46)) (m_o0_47 : M (o0 + 47)) (hk_45 : ∀ (z0 : Int) (I9 : IMem), (∀ q, ¬ M q → I9 q = Ib q) → k_45 z0 I9 = some r → ∀ q, ¬ M q → r.2 q = Ib q) : ∀ (m : Nat) (w2 : Int) (I0 : IMem), (∀ q, ¬ M q → I0 q = Ib q) → f_M_countTill_2 fu k_45 o0 p1 m w2 I0 = some r → ∀ q, ¬ M q → r.2 q = Ib q := by
  intro m
  induction m with
  | zero => intro w2 I0 _ hf; cases hf
  | succ m hR_ =>
    intro w2 I0 fI0 hf
    replace hf : fb_M_countTill_2 fu k_45 o0 p1 (f_M_countTill_2 fu k_45 o0 p1 m) w2 I0 = some r := hf
    unfold fb_M_countTill_2 at hf
    rcases of_ite hf with ⟨_, hf⟩ | ⟨_, hf⟩
    · cases hf; exact fI0
    · obtain ⟨u_2, I2, c_1, hf⟩ := of_zb hf
      have fI2 := fr_tr (fr_C_fill M fu (o0 + 41) (o0 + 1) I0 m_o0_16_41 m_o0_41 m_o0_42 m_o0_43 m_o0_44 m_o0_45 m_o0_46 m_o0_47 m_o0_8 m_o0_11 m_o0_14 c_1) fI0
      obtain ⟨y4, I5, c_3, hf⟩ := of_zb hf
      have fI5 := fr_tr (fr_C_leave M fu (o0 + 41) (o0 + 1) I2 m_o0_1 m_o0_8 m_o0_9 m_o0_11 m_o0_12 m_o0_13 c_3) fI2
      obtain ⟨y7, I8, c_4, hf⟩ := of_zb hf
      have fI8 := fr_tr (fr_L_hasNumber M fu (o0 + 7) p1 I5 c_4) fI5
      rcases of_ite hf with ⟨_, hf⟩ | ⟨_, hf⟩
      · exact hk_45 w2 I8 fI8 hf
      · obtain ⟨x10, -, hf⟩ := of_zl hf
        exact hR_ x10 I8 fI8 hf
theorem fr_M_countTill (M : Nat → Prop) (fu : Nat) (o0 : Nat) (a1 : Int) (I0 : IMem) {r : Int × IMem} (m_o0_16_41 : ∀ q, o0 + 16 ≤ q → q < o0 + 41 → M q) (m_o0_1 : M (o0 + 1)) (m_o0_8 : M (o0 + 8)) (m_o0_9 : M (o0 + 9)) (m_o0_11 : M (o0 + 11)) (m_o0_12 : M (o0 + 12)) (m_o0_13 : M (o0 + 13)) (m_o0_14 : M (o0 + 14)) (m_o0_41 : M (o0 + 41)) (m_o0_42 : M (o0 + 42)) (m_o0_43 : M (o0 + 43)) (m_o0_44 : M (o0 + 44)) (m_o0_45 : M (o0 + 45)) (m_o0_46 : M (o0 + 46)) (m_o0_47 : M (o0 + 47)) (hf : f_M_countTill fu o0 a1 I0 = some r) : ∀ q, ¬ M q → r.2 q = I0 q := by
  unfold f_M_countTill at hf
  obtain ⟨Ib, hIb⟩ : ∃ Ib : IMem, Ib = I0 := ⟨I0, rfl⟩
  rw [← hIb]
  have f0 : ∀ q, ¬ M q → I0 q = Ib q := fun q _ => by rw [hIb]
  clear hIb
  refine fr_M_countTill_2 M fu _ o0 a1 m_o0_16_41 m_o0_1 m_o0_8 m_o0_9 m_o0_11 m_o0_12 m_o0_13 m_o0_14 m_o0_41 m_o0_42 m_o0_43 m_o0_44 m_o0_45 m_o0_46 m_o0_47 ?_ fu 1 I0 f0 hf
  · intro x12 I11 fI11 hf
    obtain ⟨y13, I14, c_1, hf⟩ := of_zb hf
    have fI14 := fr_tr (fr_H_satLast M fu (o0 + 1) a1 I11 c_1) fI11
    rcases of_ite hf with ⟨_, hf⟩ | ⟨_, hf⟩
    · cases hf; exact fI14
    · cases hf; exact fI14
theorem fr_M_tillSits (M : Nat → Prop) (fu : Nat) (o0 : Nat) (o1 : Nat) (a2 : Int) (I0 : IMem) {r : Int × IMem} (m_o0_16_41 : ∀ q, o0 + 16 ≤ q → q < o0 + 41 → M q) (m_o0_1 : M (o0 + 1)) (m_o0_2 : M (o0 + 2)) (m_o0_4 : M (o0 + 4)) (m_o0_5 : M (o0 + 5)) (m_o0_6 : M (o0 + 6)) (m_o0_8 : M (o0 + 8)) (m_o0_9 : M (o0 + 9)) (m_o0_10 : M (o0 + 10)) (m_o0_11 : M (o0 + 11)) (m_o0_12 : M (o0 + 12)) (m_o0_13 : M (o0 + 13)) (m_o0_14 : M (o0 + 14)) (m_o0_41 : M (o0 + 41)) (m_o0_42 : M (o0 + 42)) (m_o0_43 : M (o0 + 43)) (m_o0_44 : M (o0 + 44)) (m_o0_45 : M (o0 + 45)) (m_o0_46 : M (o0 + 46)) (m_o0_47 : M (o0 + 47)) (hf : f_M_tillSits fu o0 o1 a2 I0 = some r) : ∀ q, ¬ M q → r.2 q = I0 q := by
  unfold f_M_tillSits at hf
  obtain ⟨Ib, hIb⟩ : ∃ Ib : IMem, Ib = I0 := ⟨I0, rfl⟩
  rw [← hIb]
  have f0 : ∀ q, ¬ M q → I0 q = Ib q := fun q _ => by rw [hIb]
  clear hIb
  obtain ⟨u_2, I2, c_1, hf⟩ := of_zb hf
  have fI2 := fr_tr (fr_H_copyFrom M fu (o0 + 1) o1 I0 m_o0_16_41 m_o0_1 m_o0_2 m_o0_4 m_o0_5 m_o0_6 m_o0_8 m_o0_9 m_o0_10 m_o0_11 m_o0_12 m_o0_13 c_1) f0
  obtain ⟨y4, I5, c_3, hf⟩ := of_zb hf
  have fI5 := fr_tr (fr_L_get M fu (o1 + 6) a2 0 I2 c_3) fI2
  obtain ⟨y7, I8, c_4, hf⟩ := of_zb hf
  have fI8 := fr_tr (fr_M_countTill M fu o0 y4 I5 m_o0_16_41 m_o0_1 m_o0_8 m_o0_9 m_o0_11 m_o0_12 m_o0_13 m_o0_14 m_o0_41 m_o0_42 m_o0_43 m_o0_44 m_o0_45 m_o0_46 m_o0_47 c_4) fI5
  cases hf; exact fI8
theorem fr_S_till (M : Nat → Prop) (fu : Nat) (o0 : Nat) (a1 : Int) (a2 : Int) (I0 : IMem) {r : Int × IMem} (m_o0_97_122 : ∀ q, o0 + 97 ≤ q → q < o0 + 122 → M q) (m_o0_82 : M (o0 + 82)) (m_o0_83 : M (o0 + 83)) (m_o0_85 : M (o0 + 85)) (m_o0_86 : M (o0 + 86)) (m_o0_87 : M (o0 + 87)) (m_o0_89 : M (o0 + 89)) (m_o0_90 : M (o0 + 90)) (m_o0_91 : M (o0 + 91)) (m_o0_92 : M (o0 + 92)) (m_o0_93 : M (o0 + 93)) (m_o0_94 : M (o0 + 94)) (m_o0_95 : M (o0 + 95)) (m_o0_122 : M (o0 + 122)) (m_o0_123 : M (o0 + 123)) (m_o0_124 : M (o0 + 124)) (m_o0_125 : M (o0 + 125)) (m_o0_126 : M (o0 + 126)) (m_o0_127 : M (o0 + 127)) (m_o0_128 : M (o0 + 128)) (hf : f_S_till fu o0 a1 a2 I0 = some r) : ∀ q, ¬ M q → r.2 q = I0 q := by
  unfold f_S_till at hf
  obtain ⟨Ib, hIb⟩ : ∃ Ib : IMem, Ib = I0 := ⟨I0, rfl⟩
  rw [← hIb]
  have f0 : ∀ q, ¬ M q → I0 q = Ib q := fun q _ => by rw [hIb]
  clear hIb
  obtain ⟨y1, I2, c_1, hf⟩ := of_zb hf
  have fI2 := fr_tr (fr_L_has M fu (o0 + 7) a1 a2 I0 c_1) f0
  rcases of_ite hf with ⟨_, hf⟩ | ⟨_, hf⟩
  · cases hf; exact fI2
  · obtain ⟨y4, I5, c_2, hf⟩ := of_zb hf
    have fI5 := fr_tr (fr_M_tillSits M fu (o0 + 81) (o0 + 1) (wr32 ((wr32 (a1 * 40)) + a2)) I2 m_o0_97_122 m_o0_82 m_o0_83 m_o0_85 m_o0_86 m_o0_87 m_o0_89 m_o0_90 m_o0_91 m_o0_92 m_o0_93 m_o0_94 m_o0_95 m_o0_122 m_o0_123 m_o0_124 m_o0_125 m_o0_126 m_o0_127 m_o0_128 c_2) fI2
    cases hf; exact fI5
theorem fr_L_canJoin (M : Nat → Prop) (fu : Nat) (o0 : Nat) (a1 : Int) (a2 : Int) (I0 : IMem) {r : Int × IMem} (hf : f_L_canJoin fu o0 a1 a2 I0 = some r) : ∀ q, ¬ M q → r.2 q = I0 q := by
  unfold f_L_canJoin at hf
  obtain ⟨Ib, hIb⟩ : ∃ Ib : IMem, Ib = I0 := ⟨I0, rfl⟩
  rw [← hIb]
  have f0 : ∀ q, ¬ M q → I0 q = Ib q := fun q _ => by rw [hIb]
  clear hIb
  rcases of_ite hf with ⟨_, hf⟩ | ⟨_, hf⟩
  · cases hf; exact f0
  · obtain ⟨y1, I2, c_1, hf⟩ := of_zb hf
    have fI2 := fr_tr (fr_L_isPlainAndTrue M fu o0 a1 I0 c_1) f0
    rcases of_ite hf with ⟨_, hf⟩ | ⟨_, hf⟩
    · cases hf; exact fI2
    · obtain ⟨y4, I5, c_2, hf⟩ := of_zb hf
      have fI5 := fr_tr (fr_L_isPlainAndTrue M fu o0 a2 I2 c_2) fI2
      rcases of_ite hf with ⟨_, hf⟩ | ⟨_, hf⟩
      · cases hf; exact fI5
      · obtain ⟨y7, I8, c_3, hf⟩ := of_zb hf
        have fI8 := fr_tr (fr_L_get M fu o0 a1 1 I5 c_3) fI5
        obtain ⟨y10, I11, c_4, hf⟩ := of_zb hf
        have fI11 := fr_tr (fr_L_get M fu o0 a2 1 I8 c_4) fI8
        rcases of_ite hf with ⟨_, hf⟩ | ⟨_, hf⟩
        · cases hf; exact fI11
        · cases hf; exact fI11
theorem fr_L_remove (M : Nat → Prop) (fu : Nat) (o0 : Nat) (a1 : Int) (I0 : IMem) {r : Int × IMem} (m_o0_1 : M (o0 + 1)) (m_o0_2 : M (o0 + 2)) (hf : f_L_remove fu o0 a1 I0 = some r) : ∀ q, ¬ M q → r.2 q = I0 q := by
  unfold f_L_remove at hf
  obtain ⟨Ib, hIb⟩ : ∃ Ib : IMem, Ib = I0 := ⟨I0, rfl⟩
  rw [← hIb]
  have f0 : ∀ q, ¬ M q → I0 q = Ib q := fun q _ => by rw [hIb]
  clear hIb
  obtain ⟨x1, -, hf⟩ := of_zl hf
  obtain ⟨x2, -, hf⟩ := of_zl hf
  obtain ⟨y3, I4, c_1, hf⟩ := of_zb hf
  have fI4 := fr_tr (fr_L_has M fu o0 x1 x2 I0 c_1) f0
  rcases of_ite hf with ⟨_, hf⟩ | ⟨_, hf⟩
  · cases hf; exact fI4
  · obtain ⟨g_2, hf⟩ := of_zg hf
    obtain ⟨x6, -, hf⟩ := of_zl hf
    obtain ⟨g_3, hf⟩ := of_zg hf
    obtain ⟨I7, fI7, hf⟩ := fr_zc m_o0_1 fI4 hf
    obtain ⟨g_4, hf⟩ := of_zg hf
    obtain ⟨g_5, hf⟩ := of_zg hf
    obtain ⟨I8, fI8, hf⟩ := fr_zw m_o0_2 fI7 hf
    cases hf; exact fI8
theorem fr_L_join (M : Nat → Prop) (fu : Nat) (o0 : Nat) (a1 : Int) (a2 : Int) (I0 : IMem) {r : Int × IMem} (m_o0_1 : M (o0 + 1)) (m_o0_2 : M (o0 + 2)) (hf : f_L_join fu o0 a1 a2 I0 = some r) : ∀ q, ¬ M q → r.2 q = I0 q := by
  unfold f_L_join at hf
  obtain ⟨Ib, hIb⟩ : ∃ Ib : IMem, Ib = I0 := ⟨I0, rfl⟩
  rw [← hIb]
  have f0 : ∀ q, ¬ M q → I0 q = Ib q := fun q _ => by rw [hIb]
  clear hIb
  obtain ⟨y1, I2, c_1, hf⟩ := of_zb hf
  have fI2 := fr_tr (fr_L_get M fu o0 a1 1 I0 c_1) f0
  obtain ⟨y4, I5, c_2, hf⟩ := of_zb hf
  have fI5 := fr_tr (fr_L_get M fu o0 a2 1 I2 c_2) fI2
  obtain ⟨x7, -, hf⟩ := of_zl hf
  obtain ⟨u_4, I9, c_3, hf⟩ := of_zb hf
  have fI9 := fr_tr (fr_L_put M fu o0 a2 1 x7 I5 m_o0_1 c_3) fI5
  obtain ⟨u_6, I12, c_5, hf⟩ := of_zb hf
  have fI12 := fr_tr (fr_L_put M fu o0 a2 2 x7 I9 m_o0_1 c_5) fI9
  obtain ⟨u_8, I15, c_7, hf⟩ := of_zb hf
  have fI15 := fr_tr (fr_L_remove M fu o0 a1 I12 m_o0_1 m_o0_2 c_7) fI12
  cases hf; exact fI15
theorem fr_M_tillJoined (M : Nat → Prop) (fu : Nat) (o0 : Nat) (o1 : Nat) (a2 : Int) (a3 : Int) (I0 : IMem) {r : Int × IMem} (m_o0_16_41 : ∀ q, o0 + 16 ≤ q → q < o0 + 41 → M q) (m_o0_1 : M (o0 + 1)) (m_o0_2 : M (o0 + 2)) (m_o0_4 : M (o0 + 4)) (m_o0_5 : M (o0 + 5)) (m_o0_6 : M (o0 + 6)) (m_o0_8 : M (o0 + 8)) (m_o0_9 : M (o0 + 9)) (m_o0_10 : M (o0 + 10)) (m_o0_11 : M (o0 + 11)) (m_o0_12 : M (o0 + 12)) (m_o0_13 : M (o0 + 13)) (m_o0_14 : M (o0 + 14)) (m_o0_41 : M (o0 + 41)) (m_o0_42 : M (o0 + 42)) (m_o0_43 : M (o0 + 43)) (m_o0_44 : M (o0 + 44)) (m_o0_45 : M (o0 + 45)) (m_o0_46 : M (o0 + 46)) (m_o0_47 : M (o0 + 47)) (hf : f_M_tillJoined fu o0 o1 a2 a3 I0 = some r) : ∀ q, ¬ M q → r.2 q = I0 q := by
  unfold f_M_tillJoined at hf
  obtain ⟨Ib, hIb⟩ : ∃ Ib : IMem, Ib = I0 := ⟨I0, rfl⟩
  rw [← hIb]
  have f0 : ∀ q, ¬ M q → I0 q = Ib q := fun q _ => by rw [hIb]
  clear hIb
  obtain ⟨u_2, I2, c_1, hf⟩ := of_zb hf
  have fI2 := fr_tr (fr_H_copyFrom M fu (o0 + 1) o1 I0 m_o0_16_41 m_o0_1 m_o0_2 m_o0_4 m_o0_5 m_o0_6 m_o0_8 m_o0_9 m_o0_10 m_o0_11 m_o0_12 m_o0_13 c_1) f0
  obtain ⟨u_4, I5, c_3, hf⟩ := of_zb hf
  have fI5 := fr_tr (fr_L_join M fu (o0 + 7) a2 a3 I2 m_o0_8 m_o0_9 c_3) fI2
  obtain ⟨y7, I8, c_5, hf⟩ := of_zb hf
  have fI8 := fr_tr (fr_L_get M fu (o1 + 6) a3 0 I5 c_5) fI5
  obtain ⟨y10, I11, c_6, hf⟩ := of_zb hf
  have fI11 := fr_tr (fr_M_countTill M fu o0 y7 I8 m_o0_16_41 m_o0_1 m_o0_8 m_o0_9 m_o0_11 m_o0_12 m_o0_13 m_o0_14 m_o0_41 m_o0_42 m_o0_43 m_o0_44 m_o0_45 m_o0_46 m_o0_47 c_6) fI8
  cases hf; exact fI11
theorem fr_S_together (M : Nat → Prop) (fu : Nat) (o0 : Nat) (a1 : Int) (a2 : Int) (a3 : Int) (a4 : Int) (a5 : Int) (I0 : IMem) {r : Int × IMem} (m_o0_97_122 : ∀ q, o0 + 97 ≤ q → q < o0 + 122 → M q) (m_o0_82 : M (o0 + 82)) (m_o0_83 : M (o0 + 83)) (m_o0_85 : M (o0 + 85)) (m_o0_86 : M (o0 + 86)) (m_o0_87 : M (o0 + 87)) (m_o0_89 : M (o0 + 89)) (m_o0_90 : M (o0 + 90)) (m_o0_91 : M (o0 + 91)) (m_o0_92 : M (o0 + 92)) (m_o0_93 : M (o0 + 93)) (m_o0_94 : M (o0 + 94)) (m_o0_95 : M (o0 + 95)) (m_o0_122 : M (o0 + 122)) (m_o0_123 : M (o0 + 123)) (m_o0_124 : M (o0 + 124)) (m_o0_125 : M (o0 + 125)) (m_o0_126 : M (o0 + 126)) (m_o0_127 : M (o0 + 127)) (m_o0_128 : M (o0 + 128)) (hf : f_S_together fu o0 a1 a2 a3 a4 a5 I0 = some r) : ∀ q, ¬ M q → r.2 q = I0 q := by
  unfold f_S_together at hf
  obtain ⟨Ib, hIb⟩ : ∃ Ib : IMem, Ib = I0 := ⟨I0, rfl⟩
  rw [← hIb]
  have f0 : ∀ q, ¬ M q → I0 q = Ib q := fun q _ => by rw [hIb]
  clear hIb
  rcases of_ite hf with ⟨_, hf⟩ | ⟨_, hf⟩
  · cases hf; exact f0
  · rcases of_ite hf with ⟨_, hf⟩ | ⟨_, hf⟩
    · cases hf; exact f0
    · obtain ⟨y1, I2, c_1, hf⟩ := of_zb hf
      have fI2 := fr_tr (fr_L_has M fu (o0 + 7) a1 a2 I0 c_1) f0
      rcases of_ite hf with ⟨_, hf⟩ | ⟨_, hf⟩
      · cases hf; exact fI2
      · obtain ⟨y4, I5, c_2, hf⟩ := of_zb hf
        have fI5 := fr_tr (fr_L_has M fu (o0 + 7) a3 a4 I2 c_2) fI2
        rcases of_ite hf with ⟨_, hf⟩ | ⟨_, hf⟩
        · cases hf; exact fI5
        · obtain ⟨x7, -, hf⟩ := of_zl hf
          obtain ⟨x8, -, hf⟩ := of_zl hf
          obtain ⟨y9, I10, c_3, hf⟩ := of_zb hf
          have fI10 := fr_tr (fr_L_canJoin M fu (o0 + 7) x7 x8 I5 c_3) fI5
          rcases of_ite hf with ⟨_, hf⟩ | ⟨_, hf⟩
          · cases hf; exact fI10
          · obtain ⟨y12, I13, c_4, hf⟩ := of_zb hf
            have fI13 := fr_tr (fr_M_tillJoined M fu (o0 + 81) (o0 + 1) x7 x8 I10 m_o0_97_122 m_o0_82 m_o0_83 m_o0_85 m_o0_86 m_o0_87 m_o0_89 m_o0_90 m_o0_91 m_o0_92 m_o0_93 m_o0_94 m_o0_95 m_o0_122 m_o0_123 m_o0_124 m_o0_125 m_o0_126 m_o0_127 m_o0_128 c_4) fI10
            rcases of_ite hf with ⟨_, hf⟩ | ⟨_, hf⟩
            · cases hf; exact fI13
            · obtain ⟨y15, I16, c_5, hf⟩ := of_zb hf
              have fI16 := fr_tr (fr_M_tillSits M fu (o0 + 81) (o0 + 1) x7 I13 m_o0_97_122 m_o0_82 m_o0_83 m_o0_85 m_o0_86 m_o0_87 m_o0_89 m_o0_90 m_o0_91 m_o0_92 m_o0_93 m_o0_94 m_o0_95 m_o0_122 m_o0_123 m_o0_124 m_o0_125 m_o0_126 m_o0_127 m_o0_128 c_5) fI13
              obtain ⟨y18, I19, c_6, hf⟩ := of_zb hf
              have fI19 := fr_tr (fr_M_tillSits M fu (o0 + 81) (o0 + 1) x8 I16 m_o0_97_122 m_o0_82 m_o0_83 m_o0_85 m_o0_86 m_o0_87 m_o0_89 m_o0_90 m_o0_91 m_o0_92 m_o0_93 m_o0_94 m_o0_95 m_o0_122 m_o0_123 m_o0_124 m_o0_125 m_o0_126 m_o0_127 m_o0_128 c_6) fI16
              rcases of_ite hf with ⟨_, hf⟩ | ⟨_, hf⟩
              · cases hf; exact fI19
              · rcases of_ite hf with ⟨_, hf⟩ | ⟨_, hf⟩
                · cases hf; exact fI19
                · rcases of_ite hf with ⟨_, hf⟩ | ⟨_, hf⟩
                  · cases hf; exact fI19
                  · obtain ⟨y21, I22, c_7, hf⟩ := of_zb hf
                    have fI22 := fr_tr (fr_JM_max M fu y15 y18 I19 c_7) fI19
                    rcases of_ite hf with ⟨_, hf⟩ | ⟨_, hf⟩
                    · cases hf; exact fI22
                    · cases hf; exact fI22
theorem fr_M_emptyNeeded_13 (M : Nat → Prop) (fu : Nat) {r : Int × IMem} {Ib : IMem} (o0 : Nat) (p2 : Int) (m_o0_16_41 : ∀ q, o0 + 16 ≤ q → q < o0 + 41 → M q) (m_o0_1 : M (o0 + 1)) (m_o0_8 : M (o0 + 8)) (m_o0_9 : M (o0 + 9)) (m_o0_11 : M (o0 + 11)) (m_o0_12 : M (o0 + 12)) (m_o0_13 : M (o0 + 13)) (m_o0_14 : M (o0 + 14)) (m_o0_41 : M (o0 + 41)) (m_o0_42 : M (o0 + 42)) (m_o0_43 : M (o0 + 43)) (m_o0_44 : M (o0 + 44)) (m_o0_45 : M (o0 + 45)) (m_o0_46 : M (o0 + 46)) (m_o0_47 : M (o0 + 47)) : ∀ (m : Nat) (w3 : Int) (w4 : Int) (I0 : IMem), (∀ q, ¬ M q → I0 q = Ib q) → f_M_emptyNeeded_13 fu o0 p2 m w3 w4 I0 = some r → ∀ q, ¬ M q → r.2 q = Ib q := by
  intro m
  induction m with
  | zero => intro w3 w4 I0 _ hf; cases hf
  | succ m hR_ =>
    intro w3 w4 I0 fI0 hf
    replace hf : fb_M_emptyNeeded_13 fu o0 p2 (f_M_emptyNeeded_13 fu o0 p2 m) w3 w4 I0 = some r := hf
    unfold fb_M_emptyNeeded_13 at hf
    rcases of_ite hf with ⟨_, hf⟩ | ⟨_, hf⟩
    · obtain ⟨x4, -, hf⟩ := of_zl hf
      obtain ⟨y5, I6, c_1, hf⟩ := of_zb hf
      have fI6 := fr_tr (fr_C_ride M fu (o0 + 41) (o0 + 1) I0 m_o0_16_41 m_o0_41 m_o0_42 m_o0_43 m_o0_44 m_o0_45 m_o0_46 m_o0_47 m_o0_1 m_o0_8 m_o0_9 m_o0_11 m_o0_12 m_o0_13 m_o0_14 c_1) fI0
      obtain ⟨k8, ek8, hf⟩ := of_zj hf
      have hk8 : ∀ (x10 : Int) (I9 : IMem), (∀ q, ¬ M q → I9 q = Ib q) → k8 x10 I9 = some r → ∀ q, ¬ M q → r.2 q = Ib q := by
        intro x10 I9 fI9 hf
        subst ek8
        obtain ⟨x11, -, hf⟩ := of_zl hf
        exact hR_ x10 x11 I9 fI9 hf
      rcases of_ite hf with ⟨_, hf⟩ | ⟨_, hf⟩
      · obtain ⟨x12, -, hf⟩ := of_zl hf
        exact hk8 x12 I6 fI6 hf
      · exact hk8 w3 I6 fI6 hf
    · cases hf; exact fI0
theorem fr_M_emptyNeeded (M : Nat → Prop) (fu : Nat) (o0 : Nat) (o1 : Nat) (a2 : Int) (I0 : IMem) {r : Int × IMem} (m_o0_16_41 : ∀ q, o0 + 16 ≤ q → q < o0 + 41 → M q) (m_o0_1 : M (o0 + 1)) (m_o0_2 : M (o0 + 2)) (m_o0_4 : M (o0 + 4)) (m_o0_5 : M (o0 + 5)) (m_o0_6 : M (o0 + 6)) (m_o0_8 : M (o0 + 8)) (m_o0_9 : M (o0 + 9)) (m_o0_10 : M (o0 + 10)) (m_o0_11 : M (o0 + 11)) (m_o0_12 : M (o0 + 12)) (m_o0_13 : M (o0 + 13)) (m_o0_14 : M (o0 + 14)) (m_o0_41 : M (o0 + 41)) (m_o0_42 : M (o0 + 42)) (m_o0_43 : M (o0 + 43)) (m_o0_44 : M (o0 + 44)) (m_o0_45 : M (o0 + 45)) (m_o0_46 : M (o0 + 46)) (m_o0_47 : M (o0 + 47)) (hf : f_M_emptyNeeded fu o0 o1 a2 I0 = some r) : ∀ q, ¬ M q → r.2 q = I0 q := by
  unfold f_M_emptyNeeded at hf
  obtain ⟨Ib, hIb⟩ : ∃ Ib : IMem, Ib = I0 := ⟨I0, rfl⟩
  rw [← hIb]
  have f0 : ∀ q, ¬ M q → I0 q = Ib q := fun q _ => by rw [hIb]
  clear hIb
  obtain ⟨u_2, I2, c_1, hf⟩ := of_zb hf
  have fI2 := fr_tr (fr_H_copyFrom M fu (o0 + 1) o1 I0 m_o0_16_41 m_o0_1 m_o0_2 m_o0_4 m_o0_5 m_o0_6 m_o0_8 m_o0_9 m_o0_10 m_o0_11 m_o0_12 m_o0_13 c_1) f0
  refine fr_M_emptyNeeded_13 M fu o0 a2 m_o0_16_41 m_o0_1 m_o0_8 m_o0_9 m_o0_11 m_o0_12 m_o0_13 m_o0_14 m_o0_41 m_o0_42 m_o0_43 m_o0_44 m_o0_45 m_o0_46 m_o0_47 fu 0 0 I2 fI2 hf
theorem fr_S_needed (M : Nat → Prop) (fu : Nat) (o0 : Nat) (a1 : Int) (I0 : IMem) {r : Int × IMem} (m_o0_97_122 : ∀ q, o0 + 97 ≤ q → q < o0 + 122 → M q) (m_o0_82 : M (o0 + 82)) (m_o0_83 : M (o0 + 83)) (m_o0_85 : M (o0 + 85)) (m_o0_86 : M (o0 + 86)) (m_o0_87 : M (o0 + 87)) (m_o0_89 : M (o0 + 89)) (m_o0_90 : M (o0 + 90)) (m_o0_91 : M (o0 + 91)) (m_o0_92 : M (o0 + 92)) (m_o0_93 : M (o0 + 93)) (m_o0_94 : M (o0 + 94)) (m_o0_95 : M (o0 + 95)) (m_o0_122 : M (o0 + 122)) (m_o0_123 : M (o0 + 123)) (m_o0_124 : M (o0 + 124)) (m_o0_125 : M (o0 + 125)) (m_o0_126 : M (o0 + 126)) (m_o0_127 : M (o0 + 127)) (m_o0_128 : M (o0 + 128)) (hf : f_S_needed fu o0 a1 I0 = some r) : ∀ q, ¬ M q → r.2 q = I0 q := by
  unfold f_S_needed at hf
  obtain ⟨Ib, hIb⟩ : ∃ Ib : IMem, Ib = I0 := ⟨I0, rfl⟩
  rw [← hIb]
  have f0 : ∀ q, ¬ M q → I0 q = Ib q := fun q _ => by rw [hIb]
  clear hIb
  rcases of_ite hf with ⟨_, hf⟩ | ⟨_, hf⟩
  · cases hf; exact f0
  · rcases of_ite hf with ⟨_, hf⟩ | ⟨_, hf⟩
    · cases hf; exact f0
    · obtain ⟨y1, I2, c_1, hf⟩ := of_zb hf
      have fI2 := fr_tr (fr_M_emptyNeeded M fu (o0 + 81) (o0 + 1) a1 I0 m_o0_97_122 m_o0_82 m_o0_83 m_o0_85 m_o0_86 m_o0_87 m_o0_89 m_o0_90 m_o0_91 m_o0_92 m_o0_93 m_o0_94 m_o0_95 m_o0_122 m_o0_123 m_o0_124 m_o0_125 m_o0_126 m_o0_127 m_o0_128 c_1) f0
      cases hf; exact fI2
theorem fr_H_pastChair (M : Nat → Prop) (fu : Nat) (o0 : Nat) (a1 : Int) (a2 : Int) (I0 : IMem) {r : Int × IMem} (hf : f_H_pastChair fu o0 a1 a2 I0 = some r) : ∀ q, ¬ M q → r.2 q = I0 q := by
  unfold f_H_pastChair at hf
  obtain ⟨Ib, hIb⟩ : ∃ Ib : IMem, Ib = I0 := ⟨I0, rfl⟩
  rw [← hIb]
  have f0 : ∀ q, ¬ M q → I0 q = Ib q := fun q _ => by rw [hIb]
  clear hIb
  rcases of_ite hf with ⟨_, hf⟩ | ⟨_, hf⟩
  · cases hf; exact f0
  · rcases of_ite hf with ⟨_, hf⟩ | ⟨_, hf⟩
    · obtain ⟨y1, I2, c_1, hf⟩ := of_zb hf
      have fI2 := fr_tr (fr_H_pastAt M fu (wr32 ((wr32 ((I0 (o0 + 10) 0) - 1)) - a1)) I0 c_1) f0
      obtain ⟨x4, -, hf⟩ := of_zl hf
      obtain ⟨g_2, hf⟩ := of_zg hf
      cases hf; exact fI2
    · cases hf; exact f0
theorem fr_S_past (M : Nat → Prop) (fu : Nat) (o0 : Nat) (a1 : Int) (a2 : Int) (I0 : IMem) {r : Int × IMem} (hf : f_S_past fu o0 a1 a2 I0 = some r) : ∀ q, ¬ M q → r.2 q = I0 q := by
  unfold f_S_past at hf
  obtain ⟨Ib, hIb⟩ : ∃ Ib : IMem, Ib = I0 := ⟨I0, rfl⟩
  rw [← hIb]
  have f0 : ∀ q, ¬ M q → I0 q = Ib q := fun q _ => by rw [hIb]
  clear hIb
  obtain ⟨k1, ek1, hf⟩ := of_zj hf
  have hk1 : ∀ (x3 : Int) (I2 : IMem), (∀ q, ¬ M q → I2 q = Ib q) → k1 x3 I2 = some r → ∀ q, ¬ M q → r.2 q = Ib q := by
    intro x3 I2 fI2 hf
    subst ek1
    rcases of_ite hf with ⟨_, hf⟩ | ⟨_, hf⟩
    · cases hf; exact fI2
    · obtain ⟨y4, I5, c_1, hf⟩ := of_zb hf
      have fI5 := fr_tr (fr_H_pastChair M fu (o0 + 1) a1 a2 I2 c_1) fI2
      cases hf; exact fI5
  rcases of_ite hf with ⟨_, hf⟩ | ⟨_, hf⟩
  · exact hk1 0 I0 f0 hf
  · rcases of_ite hf with ⟨_, hf⟩ | ⟨_, hf⟩
    · rcases of_ite hf with ⟨_, hf⟩ | ⟨_, hf⟩
      · rcases of_ite hf with ⟨_, hf⟩ | ⟨_, hf⟩
        · exact hk1 0 I0 f0 hf
        · rcases of_ite hf with ⟨_, hf⟩ | ⟨_, hf⟩
          · exact hk1 0 I0 f0 hf
          · exact hk1 1 I0 f0 hf
      · exact hk1 0 I0 f0 hf
    · exact hk1 0 I0 f0 hf
theorem fr_M_bestSet_3 (M : Nat → Prop) (fu : Nat) {r : Int × IMem} {Ib : IMem} (k_124 : IMem → Res) (o0 : Nat) (o1 : Nat) (p2 : Int) (p3 : Int) (m_o0_16_41 : ∀ q, o0 + 16 ≤ q → q < o0 + 41 → M q) (m_o0_1 : M (o0 + 1)) (m_o0_2 : M (o0 + 2)) (m_o0_4 : M (o0 + 4)) (m_o0_5 : M (o0 + 5)) (m_o0_6 : M (o0 + 6)) (m_o0_8 : M (o0 + 8)) (m_o0_9 : M (o0 + 9)) (m_o0_10 : M (o0 + 10)) (m_o0_11 : M (o0 + 11)) (m_o0_12 : M (o0 + 12)) (m_o0_13 : M (o0 + 13)) (m_o0_14 : M (o0 + 14)) (m_o0_15 : M (o0 + 15)) (m_o0_41 : M (o0 + 41)) (m_o0_42 : M (o0 + 42)) (m_o0_43 : M (o0 + 43)) (m_o0_44 : M (o0 + 44)) (m_o0_45 : M (o0 + 45)) (m_o0_46 : M (o0 + 46)) (m_o0_47 : M (o0 + 47)) (m_o0_48 : M (o0 + 48)) (hk_124 : ∀ (I9 : IMem), (∀ q, ¬ M q → I9 q = Ib q) → k_124 I9 = some r → ∀ q, ¬ M q → r.2 q = Ib q) : ∀ (m : Nat) (w4 : Int) (I0 : IMem), (∀ q, ¬ M q → I0 q = Ib q) → f_M_bestSet_3 fu k_124 o0 o1 p2 p3 m w4 I0 = some r → ∀ q, ¬ M q → r.2 q = Ib q := by
  intro m
  induction m with
  | zero => intro w4 I0 _ hf; cases hf
  | succ m hR_ =>
    intro w4 I0 fI0 hf
    replace hf : fb_M_bestSet_3 fu k_124 o0 o1 p2 p3 (f_M_bestSet_3 fu k_124 o0 o1 p2 p3 m) w4 I0 = some r := hf
    unfold fb_M_bestSet_3 at hf
    rcases of_ite hf with ⟨_, hf⟩ | ⟨_, hf⟩
    · obtain ⟨u_2, I2, c_1, hf⟩ := of_zb hf
      have fI2 := fr_tr (fr_H_copyFrom M fu (o0 + 1) o1 I0 m_o0_16_41 m_o0_1 m_o0_2 m_o0_4 m_o0_5 m_o0_6 m_o0_8 m_o0_9 m_o0_10 m_o0_11 m_o0_12 m_o0_13 c_1) fI0
      obtain ⟨I4, fI4, hf⟩ := fr_zw m_o0_1 fI2 hf
      obtain ⟨y5, I6, c_3, hf⟩ := of_zb hf
      have fI6 := fr_tr (fr_C_turns M fu (o0 + 41) (o0 + 1) p2 I4 m_o0_16_41 m_o0_41 m_o0_42 m_o0_43 m_o0_44 m_o0_45 m_o0_46 m_o0_47 m_o0_1 m_o0_8 m_o0_9 m_o0_11 m_o0_12 m_o0_13 m_o0_14 m_o0_15 c_3) fI4
      obtain ⟨y8, I9, c_4, hf⟩ := of_zb hf
      have fI9 := fr_tr (fr_M_gained M fu o0 o1 0 I6 c_4) fI6
      obtain ⟨y11, I12, c_5, hf⟩ := of_zb hf
      have fI12 := fr_tr (fr_M_gained M fu o0 o1 2 I9 c_5) fI9
      obtain ⟨k14, ek14, hf⟩ := of_zj hf
      have hk14 : ∀  (I15 : IMem), (∀ q, ¬ M q → I15 q = Ib q) → k14 I15 = some r → ∀ q, ¬ M q → r.2 q = Ib q := by
        intro I15 fI15 hf
        subst ek14
        obtain ⟨x16, -, hf⟩ := of_zl hf
        exact hR_ x16 I15 fI15 hf
      obtain ⟨k17, ek17, hf⟩ := of_zj hf
      have hk17 : ∀  (I18 : IMem), (∀ q, ¬ M q → I18 q = Ib q) → k17 I18 = some r → ∀ q, ¬ M q → r.2 q = Ib q := by
        intro I18 fI18 hf
        subst ek17
        obtain ⟨I19, fI19, hf⟩ := fr_zw m_o0_48 fI18 hf
        obtain ⟨I20, fI20, hf⟩ := fr_zw m_o0_48 fI19 hf
        obtain ⟨I21, fI21, hf⟩ := fr_zw m_o0_48 fI20 hf
        exact hk14 I21 fI21 hf
      rcases of_ite hf with ⟨_, hf⟩ | ⟨_, hf⟩
      · exact hk17 I12 fI12 hf
      · rcases of_ite hf with ⟨_, hf⟩ | ⟨_, hf⟩
        · exact hk17 I12 fI12 hf
        · rcases of_ite hf with ⟨_, hf⟩ | ⟨_, hf⟩
          · rcases of_ite hf with ⟨_, hf⟩ | ⟨_, hf⟩
            · exact hk17 I12 fI12 hf
            · exact hk14 I12 fI12 hf
          · exact hk14 I12 fI12 hf
    · exact hk_124 I0 fI0 hf
theorem fr_M_bestSet (M : Nat → Prop) (fu : Nat) (o0 : Nat) (o1 : Nat) (a2 : Int) (a3 : Int) (I0 : IMem) {r : Int × IMem} (m_o0_16_41 : ∀ q, o0 + 16 ≤ q → q < o0 + 41 → M q) (m_o0_1 : M (o0 + 1)) (m_o0_2 : M (o0 + 2)) (m_o0_4 : M (o0 + 4)) (m_o0_5 : M (o0 + 5)) (m_o0_6 : M (o0 + 6)) (m_o0_8 : M (o0 + 8)) (m_o0_9 : M (o0 + 9)) (m_o0_10 : M (o0 + 10)) (m_o0_11 : M (o0 + 11)) (m_o0_12 : M (o0 + 12)) (m_o0_13 : M (o0 + 13)) (m_o0_14 : M (o0 + 14)) (m_o0_15 : M (o0 + 15)) (m_o0_41 : M (o0 + 41)) (m_o0_42 : M (o0 + 42)) (m_o0_43 : M (o0 + 43)) (m_o0_44 : M (o0 + 44)) (m_o0_45 : M (o0 + 45)) (m_o0_46 : M (o0 + 46)) (m_o0_47 : M (o0 + 47)) (m_o0_48 : M (o0 + 48)) (hf : f_M_bestSet fu o0 o1 a2 a3 I0 = some r) : ∀ q, ¬ M q → r.2 q = I0 q := by
  unfold f_M_bestSet at hf
  obtain ⟨Ib, hIb⟩ : ∃ Ib : IMem, Ib = I0 := ⟨I0, rfl⟩
  rw [← hIb]
  have f0 : ∀ q, ¬ M q → I0 q = Ib q := fun q _ => by rw [hIb]
  clear hIb
  refine fr_M_bestSet_3 M fu _ o0 o1 a2 a3 m_o0_16_41 m_o0_1 m_o0_2 m_o0_4 m_o0_5 m_o0_6 m_o0_8 m_o0_9 m_o0_10 m_o0_11 m_o0_12 m_o0_13 m_o0_14 m_o0_15 m_o0_41 m_o0_42 m_o0_43 m_o0_44 m_o0_45 m_o0_46 m_o0_47 m_o0_48 ?_ fu 0 I0 f0 hf
  · intro I22 fI22 hf
    rcases of_ite hf with ⟨_, hf⟩ | ⟨_, hf⟩
    · cases hf; exact fI22
    · rcases of_ite hf with ⟨_, hf⟩ | ⟨_, hf⟩
      · obtain ⟨g_1, hf⟩ := of_zg hf
        cases hf; exact fI22
      · cases hf; exact fI22
theorem fr_S_which (M : Nat → Prop) (fu : Nat) (o0 : Nat) (a1 : Int) (a2 : Int) (I0 : IMem) {r : Int × IMem} (m_o0_97_122 : ∀ q, o0 + 97 ≤ q → q < o0 + 122 → M q) (m_o0_82 : M (o0 + 82)) (m_o0_83 : M (o0 + 83)) (m_o0_85 : M (o0 + 85)) (m_o0_86 : M (o0 + 86)) (m_o0_87 : M (o0 + 87)) (m_o0_89 : M (o0 + 89)) (m_o0_90 : M (o0 + 90)) (m_o0_91 : M (o0 + 91)) (m_o0_92 : M (o0 + 92)) (m_o0_93 : M (o0 + 93)) (m_o0_94 : M (o0 + 94)) (m_o0_95 : M (o0 + 95)) (m_o0_96 : M (o0 + 96)) (m_o0_122 : M (o0 + 122)) (m_o0_123 : M (o0 + 123)) (m_o0_124 : M (o0 + 124)) (m_o0_125 : M (o0 + 125)) (m_o0_126 : M (o0 + 126)) (m_o0_127 : M (o0 + 127)) (m_o0_128 : M (o0 + 128)) (m_o0_129 : M (o0 + 129)) (hf : f_S_which fu o0 a1 a2 I0 = some r) : ∀ q, ¬ M q → r.2 q = I0 q := by
  unfold f_S_which at hf
  obtain ⟨Ib, hIb⟩ : ∃ Ib : IMem, Ib = I0 := ⟨I0, rfl⟩
  rw [← hIb]
  have f0 : ∀ q, ¬ M q → I0 q = Ib q := fun q _ => by rw [hIb]
  clear hIb
  rcases of_ite hf with ⟨_, hf⟩ | ⟨_, hf⟩
  · cases hf; exact f0
  · rcases of_ite hf with ⟨_, hf⟩ | ⟨_, hf⟩
    · cases hf; exact f0
    · rcases of_ite hf with ⟨_, hf⟩ | ⟨_, hf⟩
      · cases hf; exact f0
      · rcases of_ite hf with ⟨_, hf⟩ | ⟨_, hf⟩
        · cases hf; exact f0
        · obtain ⟨y1, I2, c_1, hf⟩ := of_zb hf
          have fI2 := fr_tr (fr_M_bestSet M fu (o0 + 81) (o0 + 1) a1 a2 I0 m_o0_97_122 m_o0_82 m_o0_83 m_o0_85 m_o0_86 m_o0_87 m_o0_89 m_o0_90 m_o0_91 m_o0_92 m_o0_93 m_o0_94 m_o0_95 m_o0_96 m_o0_122 m_o0_123 m_o0_124 m_o0_125 m_o0_126 m_o0_127 m_o0_128 m_o0_129 c_1) f0
          cases hf; exact fI2
theorem fr_L_rowOf_16 (M : Nat → Prop) (fu : Nat) {r : Int × IMem} {Ib : IMem} (o0 : Nat) (p1 : Int) (p2 : Int) (p3 : Int) (p6 : Int) : ∀ (m : Nat) (w4 : Int) (w5 : Int) (w7 : Int) (I0 : IMem), (∀ q, ¬ M q → I0 q = Ib q) → f_L_rowOf_16 fu o0 p1 p2 p3 p6 m w4 w5 w7 I0 = some r → ∀ q, ¬ M q → r.2 q = Ib q := by
  intro m
  induction m with
  | zero => intro w4 w5 w7 I0 _ hf; cases hf
  | succ m hR_ =>
    intro w4 w5 w7 I0 fI0 hf
    replace hf : fb_L_rowOf_16 fu o0 p1 p2 p3 p6 (f_L_rowOf_16 fu o0 p1 p2 p3 p6 m) w4 w5 w7 I0 = some r := hf
    unfold fb_L_rowOf_16 at hf
    rcases of_ite hf with ⟨_, hf⟩ | ⟨_, hf⟩
    · obtain ⟨y4, I5, c_1, hf⟩ := of_zb hf
      have fI5 := fr_tr (fr_L_get M fu o0 (wr32 ((wr32 (p1 * 40)) + w7)) 1 I0 c_1) fI0
      obtain ⟨k7, ek7, hf⟩ := of_zj hf
      have hk7 : ∀ (x9 : Int) (x10 : Int) (x11 : Int) (I8 : IMem), (∀ q, ¬ M q → I8 q = Ib q) → k7 x9 x10 x11 I8 = some r → ∀ q, ¬ M q → r.2 q = Ib q := by
        intro x9 x10 x11 I8 fI8 hf
        subst ek7
        rcases of_ite hf with ⟨_, hf⟩ | ⟨_, hf⟩
        · cases hf; exact fI8
        · obtain ⟨x12, -, hf⟩ := of_zl hf
          exact hR_ x9 x10 x12 I8 fI8 hf
      rcases of_ite hf with ⟨_, hf⟩ | ⟨_, hf⟩
      · rcases of_ite hf with ⟨_, hf⟩ | ⟨_, hf⟩
        · rcases of_ite hf with ⟨_, hf⟩ | ⟨_, hf⟩
          · obtain ⟨g_2, hf⟩ := of_zg hf
            obtain ⟨x14, -, hf⟩ := of_zl hf
            exact hk7 x14 0 w4 I5 fI5 hf
          · obtain ⟨x13, -, hf⟩ := of_zl hf
            exact hk7 x13 0 w4 I5 fI5 hf
        · obtain ⟨x15, -, hf⟩ := of_zl hf
          obtain ⟨x16, -, hf⟩ := of_zl hf
          exact hk7 x15 x16 w4 I5 fI5 hf
      · obtain ⟨x17, -, hf⟩ := of_zl hf
        obtain ⟨x18, -, hf⟩ := of_zl hf
        exact hk7 w4 x18 x17 I5 fI5 hf
    · cases hf; exact fI0
theorem fr_L_rowOf (M : Nat → Prop) (fu : Nat) (o0 : Nat) (a1 : Int) (a2 : Int) (a3 : Int) (I0 : IMem) {r : Int × IMem} (hf : f_L_rowOf fu o0 a1 a2 a3 I0 = some r) : ∀ q, ¬ M q → r.2 q = I0 q := by
  unfold f_L_rowOf at hf
  obtain ⟨Ib, hIb⟩ : ∃ Ib : IMem, Ib = I0 := ⟨I0, rfl⟩
  rw [← hIb]
  have f0 : ∀ q, ¬ M q → I0 q = Ib q := fun q _ => by rw [hIb]
  clear hIb
  obtain ⟨y1, I2, c_1, hf⟩ := of_zb hf
  have fI2 := fr_tr (fr_L_countOf M fu o0 a1 I0 c_1) f0
  refine fr_L_rowOf_16 M fu o0 a1 a2 a3 y1 fu 0 0 0 I2 fI2 hf
theorem fr_S_folded (M : Nat → Prop) (fu : Nat) (o0 : Nat) (a1 : Int) (a2 : Int) (a3 : Int) (I0 : IMem) {r : Int × IMem} (hf : f_S_folded fu o0 a1 a2 a3 I0 = some r) : ∀ q, ¬ M q → r.2 q = I0 q := by
  unfold f_S_folded at hf
  obtain ⟨Ib, hIb⟩ : ∃ Ib : IMem, Ib = I0 := ⟨I0, rfl⟩
  rw [← hIb]
  have f0 : ∀ q, ¬ M q → I0 q = Ib q := fun q _ => by rw [hIb]
  clear hIb
  obtain ⟨y1, I2, c_1, hf⟩ := of_zb hf
  have fI2 := fr_tr (fr_S_isLine M fu a1 I0 c_1) f0
  rcases of_ite hf with ⟨_, hf⟩ | ⟨_, hf⟩
  · cases hf; exact fI2
  · rcases of_ite hf with ⟨_, hf⟩ | ⟨_, hf⟩
    · cases hf; exact fI2
    · rcases of_ite hf with ⟨_, hf⟩ | ⟨_, hf⟩
      · cases hf; exact fI2
      · rcases of_ite hf with ⟨_, hf⟩ | ⟨_, hf⟩
        · cases hf; exact fI2
        · obtain ⟨g_2, hf⟩ := of_zg hf
          rcases of_ite hf with ⟨_, hf⟩ | ⟨_, hf⟩
          · obtain ⟨y4, I5, c_3, hf⟩ := of_zb hf
            have fI5 := fr_tr (fr_L_rowOf M fu (o0 + 7) a1 a2 a3 I2 c_3) fI2
            cases hf; exact fI5
          · cases hf; exact fI2
theorem fr_S_image (M : Nat → Prop) (fu : Nat) (o0 : Nat) (a1 : Int) (I0 : IMem) {r : Int × IMem} (m_o0_16_41 : ∀ q, o0 + 16 ≤ q → q < o0 + 41 → M q) (m_o0_56_81 : ∀ q, o0 + 56 ≤ q → q < o0 + 81 → M q) (m_o0_0 : M o0) (m_o0_1 : M (o0 + 1)) (m_o0_2 : M (o0 + 2)) (m_o0_4 : M (o0 + 4)) (m_o0_5 : M (o0 + 5)) (m_o0_6 : M (o0 + 6)) (m_o0_8 : M (o0 + 8)) (m_o0_9 : M (o0 + 9)) (m_o0_10 : M (o0 + 10)) (m_o0_11 : M (o0 + 11)) (m_o0_12 : M (o0 + 12)) (m_o0_13 : M (o0 + 13)) (m_o0_41 : M (o0 + 41)) (m_o0_42 : M (o0 + 42)) (m_o0_44 : M (o0 + 44)) (m_o0_45 : M (o0 + 45)) (m_o0_46 : M (o0 + 46)) (m_o0_48 : M (o0 + 48)) (m_o0_49 : M (o0 + 49)) (m_o0_50 : M (o0 + 50)) (m_o0_51 : M (o0 + 51)) (m_o0_52 : M (o0 + 52)) (m_o0_53 : M (o0 + 53)) (m_o0_137 : M (o0 + 137)) (m_o0_138 : M (o0 + 138)) (hf : f_S_image fu o0 a1 I0 = some r) : ∀ q, ¬ M q → r.2 q = I0 q := by
  unfold f_S_image at hf
  obtain ⟨Ib, hIb⟩ : ∃ Ib : IMem, Ib = I0 := ⟨I0, rfl⟩
  rw [← hIb]
  have f0 : ∀ q, ¬ M q → I0 q = Ib q := fun q _ => by rw [hIb]
  clear hIb
  rcases of_ite hf with ⟨_, hf⟩ | ⟨_, hf⟩
  · rcases of_ite hf with ⟨_, hf⟩ | ⟨_, hf⟩
    · obtain ⟨g_1, hf⟩ := of_zg hf
      cases hf; exact f0
    · obtain ⟨u_3, I2, c_2, hf⟩ := of_zb hf
      have fI2 := fr_tr (fr_H_copyFrom M fu (o0 + 1) (o0 + 41) I0 m_o0_16_41 m_o0_1 m_o0_2 m_o0_4 m_o0_5 m_o0_6 m_o0_8 m_o0_9 m_o0_10 m_o0_11 m_o0_12 m_o0_13 c_2) f0
      obtain ⟨u_5, I5, c_4, hf⟩ := of_zb hf
      have fI5 := fr_tr (fr_S_dropPicked M fu o0 I2 m_o0_137 m_o0_138 c_4) fI2
      obtain ⟨g_6, hf⟩ := of_zg hf
      cases hf; exact fI5
  · obtain ⟨u_8, I8, c_7, hf⟩ := of_zb hf
    have fI8 := fr_tr (fr_H_copyFrom M fu (o0 + 41) (o0 + 1) I0 m_o0_56_81 m_o0_41 m_o0_42 m_o0_44 m_o0_45 m_o0_46 m_o0_48 m_o0_49 m_o0_50 m_o0_51 m_o0_52 m_o0_53 c_7) f0
    obtain ⟨I10, fI10, hf⟩ := fr_zw m_o0_0 fI8 hf
    obtain ⟨g_9, hf⟩ := of_zg hf
    cases hf; exact fI10
theorem fr_S_told (M : Nat → Prop) (fu : Nat) (o0 : Nat) (a1 : Int) (I0 : IMem) {r : Int × IMem} (hf : f_S_told fu o0 a1 I0 = some r) : ∀ q, ¬ M q → r.2 q = I0 q := by
  unfold f_S_told at hf
  obtain ⟨Ib, hIb⟩ : ∃ Ib : IMem, Ib = I0 := ⟨I0, rfl⟩
  rw [← hIb]
  have f0 : ∀ q, ¬ M q → I0 q = Ib q := fun q _ => by rw [hIb]
  clear hIb
  obtain ⟨k1, ek1, hf⟩ := of_zj hf
  have hk1 : ∀  (I2 : IMem), (∀ q, ¬ M q → I2 q = Ib q) → k1 I2 = some r → ∀ q, ¬ M q → r.2 q = Ib q := by
    intro I2 fI2 hf
    subst ek1
    rcases of_ite hf with ⟨_, hf⟩ | ⟨_, hf⟩
    · cases hf; exact fI2
    · rcases of_ite hf with ⟨_, hf⟩ | ⟨_, hf⟩
      · cases hf; exact fI2
      · rcases of_ite hf with ⟨_, hf⟩ | ⟨_, hf⟩
        · cases hf; exact fI2
        · cases hf; exact fI2
  rcases of_ite hf with ⟨_, hf⟩ | ⟨_, hf⟩
  · exact hk1 I0 f0 hf
  · rcases of_ite hf with ⟨_, hf⟩ | ⟨_, hf⟩
    · exact hk1 I0 f0 hf
    · obtain ⟨g_1, hf⟩ := of_zg hf
      cases hf; exact f0
theorem fr_X_state (M : Nat → Prop) (fu : Nat) (o0 : Nat) (a1 : Int) (I0 : IMem) {r : Int × IMem} (m_o0_1 : M (o0 + 1)) (hf : f_X_state fu o0 a1 I0 = some r) : ∀ q, ¬ M q → r.2 q = I0 q := by
  unfold f_X_state at hf
  obtain ⟨Ib, hIb⟩ : ∃ Ib : IMem, Ib = I0 := ⟨I0, rfl⟩
  rw [← hIb]
  have f0 : ∀ q, ¬ M q → I0 q = Ib q := fun q _ => by rw [hIb]
  clear hIb
  obtain ⟨x1, -, hf⟩ := of_zl hf
  obtain ⟨I2, fI2, hf⟩ := fr_zw m_o0_1 f0 hf
  cases hf; exact fI2
theorem fr_X_forgets_2 (M : Nat → Prop) (fu : Nat) {r : Int × IMem} {Ib : IMem} (k_22 : IMem → Res) (o0 : Nat) (m_o0_13 : M (o0 + 13)) (hk_22 : ∀ (I9 : IMem), (∀ q, ¬ M q → I9 q = Ib q) → k_22 I9 = some r → ∀ q, ¬ M q → r.2 q = Ib q) : ∀ (m : Nat) (w1 : Int) (I0 : IMem), (∀ q, ¬ M q → I0 q = Ib q) → f_X_forgets_2 fu k_22 o0 m w1 I0 = some r → ∀ q, ¬ M q → r.2 q = Ib q := by
  intro m
  induction m with
  | zero => intro w1 I0 _ hf; cases hf
  | succ m hR_ =>
    intro w1 I0 fI0 hf
    replace hf : fb_X_forgets_2 fu k_22 o0 (f_X_forgets_2 fu k_22 o0 m) w1 I0 = some r := hf
    unfold fb_X_forgets_2 at hf
    rcases of_ite hf with ⟨_, hf⟩ | ⟨_, hf⟩
    · obtain ⟨g_1, hf⟩ := of_zg hf
      obtain ⟨I1, fI1, hf⟩ := fr_zw m_o0_13 fI0 hf
      obtain ⟨x2, -, hf⟩ := of_zl hf
      exact hR_ x2 I1 fI1 hf
    · exact hk_22 I0 fI0 hf
theorem fr_X_forgets (M : Nat → Prop) (fu : Nat) (o0 : Nat) (I0 : IMem) {r : Int × IMem} (m_o0_0 : M o0) (m_o0_13 : M (o0 + 13)) (hf : f_X_forgets fu o0 I0 = some r) : ∀ q, ¬ M q → r.2 q = I0 q := by
  unfold f_X_forgets at hf
  obtain ⟨Ib, hIb⟩ : ∃ Ib : IMem, Ib = I0 := ⟨I0, rfl⟩
  rw [← hIb]
  have f0 : ∀ q, ¬ M q → I0 q = Ib q := fun q _ => by rw [hIb]
  clear hIb
  refine fr_X_forgets_2 M fu _ o0 m_o0_13 ?_ fu 0 I0 f0 hf
  · intro I3 fI3 hf
    obtain ⟨I4, fI4, hf⟩ := fr_zw m_o0_0 fI3 hf
    cases hf; exact fI4
theorem fr_X_isIn (M : Nat → Prop) (fu : Nat) (a0 : Int) (a1 : Int) (a2 : Int) (I0 : IMem) {r : Int × IMem} (hf : f_X_isIn fu a0 a1 a2 I0 = some r) : ∀ q, ¬ M q → r.2 q = I0 q := by
  unfold f_X_isIn at hf
  obtain ⟨Ib, hIb⟩ : ∃ Ib : IMem, Ib = I0 := ⟨I0, rfl⟩
  rw [← hIb]
  have f0 : ∀ q, ¬ M q → I0 q = Ib q := fun q _ => by rw [hIb]
  clear hIb
  rcases of_ite hf with ⟨_, hf⟩ | ⟨_, hf⟩
  · cases hf; exact f0
  · rcases of_ite hf with ⟨_, hf⟩ | ⟨_, hf⟩
    · cases hf; exact f0
    · cases hf; exact f0
theorem fr_X_set (M : Nat → Prop) (fu : Nat) (o0 : Nat) (a1 : Int) (a2 : Int) (I0 : IMem) {r : Int × IMem} (m_o0_0 : M o0) (m_o0_1 : M (o0 + 1)) (m_o0_13 : M (o0 + 13)) (hf : f_X_set fu o0 a1 a2 I0 = some r) : ∀ q, ¬ M q → r.2 q = I0 q := by
  unfold f_X_set at hf
  obtain ⟨Ib, hIb⟩ : ∃ Ib : IMem, Ib = I0 := ⟨I0, rfl⟩
  rw [← hIb]
  have f0 : ∀ q, ¬ M q → I0 q = Ib q := fun q _ => by rw [hIb]
  clear hIb
  obtain ⟨k1, ek1, hf⟩ := of_zj hf
  have hk1 : ∀ (x3 : Int) (I2 : IMem), (∀ q, ¬ M q → I2 q = Ib q) → k1 x3 I2 = some r → ∀ q, ¬ M q → r.2 q = Ib q := by
    intro x3 I2 fI2 hf
    subst ek1
    rcases of_ite hf with ⟨_, hf⟩ | ⟨_, hf⟩
    · cases hf; exact fI2
    · obtain ⟨x5, -, hf⟩ := of_zl hf
      obtain ⟨g_1, hf⟩ := of_zg hf
      obtain ⟨I4, fI4, hf⟩ := fr_zw m_o0_1 fI2 hf
      rcases of_ite hf with ⟨_, hf⟩ | ⟨_, hf⟩
      · obtain ⟨u_3, I7, c_2, hf⟩ := of_zb hf
        have fI7 := fr_tr (fr_X_forgets M fu o0 I4 m_o0_0 m_o0_13 c_2) fI4
        cases hf; exact fI7
      · cases hf; exact fI4
  rcases of_ite hf with ⟨_, hf⟩ | ⟨_, hf⟩
  · obtain ⟨y24, I25, c_4, hf⟩ := of_zb hf
    have fI25 := fr_tr (fr_X_isIn M fu a2 2 8 I0 c_4) f0
    exact hk1 y24 I25 fI25 hf
  · rcases of_ite hf with ⟨_, hf⟩ | ⟨_, hf⟩
    · obtain ⟨y21, I22, c_5, hf⟩ := of_zb hf
      have fI22 := fr_tr (fr_X_isIn M fu a2 1 99 I0 c_5) f0
      exact hk1 y21 I22 fI22 hf
    · rcases of_ite hf with ⟨_, hf⟩ | ⟨_, hf⟩
      · obtain ⟨y18, I19, c_6, hf⟩ := of_zb hf
        have fI19 := fr_tr (fr_X_isIn M fu a2 0 999 I0 c_6) f0
        exact hk1 y18 I19 fI19 hf
      · rcases of_ite hf with ⟨_, hf⟩ | ⟨_, hf⟩
        · obtain ⟨y15, I16, c_7, hf⟩ := of_zb hf
          have fI16 := fr_tr (fr_X_isIn M fu a2 0 1000 I0 c_7) f0
          exact hk1 y15 I16 fI16 hf
        · rcases of_ite hf with ⟨_, hf⟩ | ⟨_, hf⟩
          · obtain ⟨y12, I13, c_8, hf⟩ := of_zb hf
            have fI13 := fr_tr (fr_X_isIn M fu a2 0 99 I0 c_8) f0
            exact hk1 y12 I13 fI13 hf
          · rcases of_ite hf with ⟨_, hf⟩ | ⟨_, hf⟩
            · obtain ⟨y9, I10, c_9, hf⟩ := of_zb hf
              have fI10 := fr_tr (fr_X_isIn M fu a2 0 3 I0 c_9) f0
              rcases of_ite hf with ⟨_, hf⟩ | ⟨_, hf⟩
              · exact hk1 0 I10 fI10 hf
              · exact hk1 1 I10 fI10 hf
            · exact hk1 0 I0 f0 hf
theorem fr_X_isLine (M : Nat → Prop) (fu : Nat) (a0 : Int) (I0 : IMem) {r : Int × IMem} (hf : f_X_isLine fu a0 I0 = some r) : ∀ q, ¬ M q → r.2 q = I0 q := by
  unfold f_X_isLine at hf
  obtain ⟨Ib, hIb⟩ : ∃ Ib : IMem, Ib = I0 := ⟨I0, rfl⟩
  rw [← hIb]
  have f0 : ∀ q, ¬ M q → I0 q = Ib q := fun q _ => by rw [hIb]
  clear hIb
  obtain ⟨y1, I2, c_1, hf⟩ := of_zb hf
  have fI2 := fr_tr (fr_X_isIn M fu a0 0 5 I0 c_1) f0
  obtain ⟨g_2, hf⟩ := of_zg hf
  cases hf; exact fI2
theorem fr_X_seen (M : Nat → Prop) (fu : Nat) (o0 : Nat) (a1 : Int) (a2 : Int) (I0 : IMem) {r : Int × IMem} (m_o0_1 : M (o0 + 1)) (hf : f_X_seen fu o0 a1 a2 I0 = some r) : ∀ q, ¬ M q → r.2 q = I0 q := by
  unfold f_X_seen at hf
  obtain ⟨Ib, hIb⟩ : ∃ Ib : IMem, Ib = I0 := ⟨I0, rfl⟩
  rw [← hIb]
  have f0 : ∀ q, ¬ M q → I0 q = Ib q := fun q _ => by rw [hIb]
  clear hIb
  obtain ⟨y1, I2, c_1, hf⟩ := of_zb hf
  have fI2 := fr_tr (fr_X_isLine M fu a1 I0 c_1) f0
  rcases of_ite hf with ⟨_, hf⟩ | ⟨_, hf⟩
  · cases hf; exact fI2
  · obtain ⟨y4, I5, c_2, hf⟩ := of_zb hf
    have fI5 := fr_tr (fr_X_isIn M fu a2 1 24 I2 c_2) fI2
    rcases of_ite hf with ⟨_, hf⟩ | ⟨_, hf⟩
    · cases hf; exact fI5
    · obtain ⟨x8, -, hf⟩ := of_zl hf
      obtain ⟨g_3, hf⟩ := of_zg hf
      obtain ⟨I7, fI7, hf⟩ := fr_zw m_o0_1 fI5 hf
      cases hf; exact fI7
theorem fr_X_parts (M : Nat → Prop) (fu : Nat) (o0 : Nat) (a1 : Int) (a2 : Int) (I0 : IMem) {r : Int × IMem} (m_o0_1 : M (o0 + 1)) (hf : f_X_parts fu o0 a1 a2 I0 = some r) : ∀ q, ¬ M q → r.2 q = I0 q := by
  unfold f_X_parts at hf
  obtain ⟨Ib, hIb⟩ : ∃ Ib : IMem, Ib = I0 := ⟨I0, rfl⟩
  rw [← hIb]
  have f0 : ∀ q, ¬ M q → I0 q = Ib q := fun q _ => by rw [hIb]
  clear hIb
  obtain ⟨y1, I2, c_1, hf⟩ := of_zb hf
  have fI2 := fr_tr (fr_X_isIn M fu a1 2 8 I0 c_1) f0
  rcases of_ite hf with ⟨_, hf⟩ | ⟨_, hf⟩
  · cases hf; exact fI2
  · obtain ⟨y4, I5, c_2, hf⟩ := of_zb hf
    have fI5 := fr_tr (fr_X_isIn M fu a2 0 (wr32 (a1 - 1)) I2 c_2) fI2
    rcases of_ite hf with ⟨_, hf⟩ | ⟨_, hf⟩
    · cases hf; exact fI5
    · obtain ⟨x8, -, hf⟩ := of_zl hf
      obtain ⟨g_3, hf⟩ := of_zg hf
      obtain ⟨I7, fI7, hf⟩ := fr_zw m_o0_1 fI5 hf
      cases hf; exact fI7
theorem fr_X_isGroup (M : Nat → Prop) (fu : Nat) (a0 : Int) (a1 : Int) (a2 : Int) (I0 : IMem) {r : Int × IMem} (hf : f_X_isGroup fu a0 a1 a2 I0 = some r) : ∀ q, ¬ M q → r.2 q = I0 q := by
  unfold f_X_isGroup at hf
  obtain ⟨Ib, hIb⟩ : ∃ Ib : IMem, Ib = I0 := ⟨I0, rfl⟩
  rw [← hIb]
  have f0 : ∀ q, ¬ M q → I0 q = Ib q := fun q _ => by rw [hIb]
  clear hIb
  obtain ⟨y1, I2, c_1, hf⟩ := of_zb hf
  have fI2 := fr_tr (fr_X_isIn M fu a0 1 8 I0 c_1) f0
  rcases of_ite hf with ⟨_, hf⟩ | ⟨_, hf⟩
  · cases hf; exact fI2
  · obtain ⟨y4, I5, c_2, hf⟩ := of_zb hf
    have fI5 := fr_tr (fr_X_isIn M fu a1 1 a0 I2 c_2) fI2
    rcases of_ite hf with ⟨_, hf⟩ | ⟨_, hf⟩
    · cases hf; exact fI5
    · obtain ⟨y7, I8, c_3, hf⟩ := of_zb hf
      have fI8 := fr_tr (fr_X_isIn M fu a2 0 3 I5 c_3) fI5
      rcases of_ite hf with ⟨_, hf⟩ | ⟨_, hf⟩
      · cases hf; exact fI8
      · cases hf; exact fI8
