/-! cells, on -/
theorem fc_X_finds_7 (M : Nat → Nat → Prop) (fu : Nat) {r : Int × IMem} {Ib : IMem} (o0 : Nat) (p1 : Int) (m_o0_7 : ∀ j, M (o0 + 7) j) (m_o0_8c1 : M (o0 + 8) 1) (m_o0_8c2 : M (o0 + 8) 2) (m_o0_8c3 : M (o0 + 8) 3) (m_o0_8c4 : M (o0 + 8) 4) (m_o0_8c5 : M (o0 + 8) 5) (m_o0_8c6 : M (o0 + 8) 6) (m_o0_8c7 : M (o0 + 8) 7) (m_o0_8c8 : M (o0 + 8) 8) (m_o0_8c9 : M (o0 + 8) 9) : ∀ (m : Nat) (w2 : Int) (w3 : Int) (w4 : Int) (I0 : IMem), (∀ q j, ¬ M q j → I0 q j = Ib q j) → f_X_finds_7 fu o0 p1 m w2 w3 w4 I0 = some r → ∀ q j, ¬ M q j → r.2 q j = Ib q j := by
  intro m
  induction m with
  | zero => intro w2 w3 w4 I0 _ hf; cases hf
  | succ m hR_ =>
    intro w2 w3 w4 I0 fI0 hf
    replace hf : fb_X_finds_7 fu o0 p1 (f_X_finds_7 fu o0 p1 m) w2 w3 w4 I0 = some r := hf
    unfold fb_X_finds_7 at hf
    rcases of_ite hf with ⟨_, hf⟩ | ⟨_, hf⟩
    · refine fc_X_finds_17 M fu _ o0 p1 w4 m_o0_7 m_o0_8c1 m_o0_8c2 m_o0_8c3 m_o0_8c4 m_o0_8c5 m_o0_8c6 m_o0_8c7 m_o0_8c8 m_o0_8c9 ?_ fu w2 w3 0 I0 fI0 hf
      · intro x25 x26 I24 fI24 hf
        obtain ⟨x27, -, hf⟩ := of_zl hf
        exact hR_ x25 x26 x27 I24 fI24 hf
    · cases hf; exact fI0
theorem fc_X_finds (M : Nat → Nat → Prop) (fu : Nat) (o0 : Nat) (a1 : Int) (I0 : IMem) {r : Int × IMem} (m_o0_7 : ∀ j, M (o0 + 7) j) (m_o0_8c1 : M (o0 + 8) 1) (m_o0_8c2 : M (o0 + 8) 2) (m_o0_8c3 : M (o0 + 8) 3) (m_o0_8c4 : M (o0 + 8) 4) (m_o0_8c5 : M (o0 + 8) 5) (m_o0_8c6 : M (o0 + 8) 6) (m_o0_8c7 : M (o0 + 8) 7) (m_o0_8c8 : M (o0 + 8) 8) (m_o0_8c9 : M (o0 + 8) 9) (hf : f_X_finds fu o0 a1 I0 = some r) : ∀ q j, ¬ M q j → r.2 q j = I0 q j := by
  unfold f_X_finds at hf
  obtain ⟨Ib, hIb⟩ : ∃ Ib : IMem, Ib = I0 := ⟨I0, rfl⟩
  rw [← hIb]
  have f0 : ∀ q j, ¬ M q j → I0 q j = Ib q j := fun q j _ => by rw [hIb]
  clear hIb
  refine fc_X_finds_7 M fu o0 a1 m_o0_7 m_o0_8c1 m_o0_8c2 m_o0_8c3 m_o0_8c4 m_o0_8c5 m_o0_8c6 m_o0_8c7 m_o0_8c8 m_o0_8c9 fu ((-1)) 0 0 I0 f0 hf
theorem fc_X_partOf (M : Nat → Nat → Prop) (fu : Nat) (o0 : Nat) (a1 : Int) (I0 : IMem) {r : Int × IMem} (hf : f_X_partOf fu o0 a1 I0 = some r) : ∀ q j, ¬ M q j → r.2 q j = I0 q j := by
  unfold f_X_partOf at hf
  obtain ⟨Ib, hIb⟩ : ∃ Ib : IMem, Ib = I0 := ⟨I0, rfl⟩
  rw [← hIb]
  have f0 : ∀ q j, ¬ M q j → I0 q j = Ib q j := fun q j _ => by rw [hIb]
  clear hIb
  obtain ⟨x1, -, hf⟩ := of_zl hf
  obtain ⟨g_1, hf⟩ := of_zg hf
  obtain ⟨x2, -, hf⟩ := of_zl hf
  obtain ⟨x3, -, hf⟩ := of_zl hf
  rcases of_ite hf with ⟨_, hf⟩ | ⟨_, hf⟩
  · cases hf; exact f0
  · obtain ⟨k4, ek4, hf⟩ := of_zj hf
    have hk4 : ∀ (x6 : Int) (I5 : IMem), (∀ q j, ¬ M q j → I5 q j = Ib q j) → k4 x6 I5 = some r → ∀ q j, ¬ M q j → r.2 q j = Ib q j := by
      intro x6 I5 fI5 hf
      subst ek4
      rcases of_ite hf with ⟨_, hf⟩ | ⟨_, hf⟩
      · cases hf; exact fI5
      · rcases of_ite hf with ⟨_, hf⟩ | ⟨_, hf⟩
        · cases hf; exact fI5
        · cases hf; exact fI5
    rcases of_ite hf with ⟨_, hf⟩ | ⟨_, hf⟩
    · exact hk4 0 I0 f0 hf
    · exact hk4 x2 I0 f0 hf
theorem fc_X_parts0_17 (M : Nat → Nat → Prop) (fu : Nat) {r : Int × IMem} {Ib : IMem} (k_109 : Int → Int → IMem → Res) (k_127 : IMem → Res) (o0 : Nat) (p1 : Int) (m_o0_7 : ∀ j, M (o0 + 7) j) (m_o0_8c1 : M (o0 + 8) 1) (m_o0_8c2 : M (o0 + 8) 2) (m_o0_8c3 : M (o0 + 8) 3) (m_o0_8c4 : M (o0 + 8) 4) (m_o0_8c5 : M (o0 + 8) 5) (m_o0_8c6 : M (o0 + 8) 6) (m_o0_8c7 : M (o0 + 8) 7) (m_o0_8c8 : M (o0 + 8) 8) (m_o0_8c9 : M (o0 + 8) 9) (hk_109 : ∀ (z0 : Int) (z1 : Int) (I9 : IMem), (∀ q j, ¬ M q j → I9 q j = Ib q j) → k_109 z0 z1 I9 = some r → ∀ q j, ¬ M q j → r.2 q j = Ib q j) (hk_127 : ∀ (I9 : IMem), (∀ q j, ¬ M q j → I9 q j = Ib q j) → k_127 I9 = some r → ∀ q j, ¬ M q j → r.2 q j = Ib q j) : ∀ (m : Nat) (w2 : Int) (I0 : IMem), (∀ q j, ¬ M q j → I0 q j = Ib q j) → f_X_parts0_17 fu k_109 k_127 o0 p1 m w2 I0 = some r → ∀ q j, ¬ M q j → r.2 q j = Ib q j := by
  intro m
  induction m with
  | zero => intro w2 I0 _ hf; cases hf
  | succ m hR_ =>
    intro w2 I0 fI0 hf
    replace hf : fb_X_parts0_17 fu k_109 k_127 o0 p1 (f_X_parts0_17 fu k_109 k_127 o0 p1 m) w2 I0 = some r := hf
    unfold fb_X_parts0_17 at hf
    obtain ⟨x1, -, hf⟩ := of_zl hf
    obtain ⟨g_1, hf⟩ := of_zg hf
    rcases of_ite hf with ⟨_, hf⟩ | ⟨_, hf⟩
    · obtain ⟨y2, I3, c_2, hf⟩ := of_zb hf
      have fI3 := fcz_t (fc_X_of M fu o0 p1 w2 1 I0 c_2) fI0
      obtain ⟨y5, I6, c_3, hf⟩ := of_zb hf
      have fI6 := fcz_t (fc_X_isOpen M fu o0 p1 w2 I3 c_3) fI3
      obtain ⟨k8, ek8, hf⟩ := of_zj hf
      have hk8 : ∀  (I9 : IMem), (∀ q j, ¬ M q j → I9 q j = Ib q j) → k8 I9 = some r → ∀ q j, ¬ M q j → r.2 q j = Ib q j := by
        intro I9 fI9 hf
        subst ek8
        obtain ⟨x10, -, hf⟩ := of_zl hf
        exact hR_ x10 I9 fI9 hf
      rcases of_ite hf with ⟨_, hf⟩ | ⟨_, hf⟩
      · exact hk8 I6 fI6 hf
      · obtain ⟨y11, I12, c_4, hf⟩ := of_zb hf
        have fI12 := fcz_t (fc_X_of M fu o0 p1 w2 3 I6 c_4) fI6
        rcases of_ite hf with ⟨_, hf⟩ | ⟨_, hf⟩
        · obtain ⟨y14, I15, c_5, hf⟩ := of_zb hf
          have fI15 := fcz_t (fc_X_of M fu o0 p1 w2 2 I12 c_5) fI12
          rcases of_ite hf with ⟨_, hf⟩ | ⟨_, hf⟩
          · rcases of_ite hf with ⟨_, hf⟩ | ⟨_, hf⟩
            · obtain ⟨y17, I18, c_6, hf⟩ := of_zb hf
              have fI18 := fcz_t (fc_X_partOf M fu o0 y2 I15 c_6) fI15
              rcases of_ite hf with ⟨_, hf⟩ | ⟨_, hf⟩
              · exact hk8 I18 fI18 hf
              · obtain ⟨y20, I21, c_7, hf⟩ := of_zb hf
                have fI21 := fcz_t (fc_X_worth M fu o0 p1 w2 (I18 o0 30) (I18 o0 31) I18 m_o0_7 m_o0_8c1 m_o0_8c2 m_o0_8c3 m_o0_8c4 m_o0_8c5 m_o0_8c6 m_o0_8c7 m_o0_8c8 m_o0_8c9 c_7) fI18
                rcases of_ite hf with ⟨_, hf⟩ | ⟨_, hf⟩
                · exact hk8 I21 fI21 hf
                · exact hk_109 w2 y2 I21 fI21 hf
            · exact hk8 I15 fI15 hf
          · exact hk8 I15 fI15 hf
        · exact hk8 I12 fI12 hf
    · exact hk_127 I0 fI0 hf
theorem fc_X_parts0_2 (M : Nat → Nat → Prop) (fu : Nat) {r : Int × IMem} {Ib : IMem} (k_109 : Int → Int → Int → IMem → Res) (o0 : Nat) (m_o0_7 : ∀ j, M (o0 + 7) j) (m_o0_8c1 : M (o0 + 8) 1) (m_o0_8c2 : M (o0 + 8) 2) (m_o0_8c3 : M (o0 + 8) 3) (m_o0_8c4 : M (o0 + 8) 4) (m_o0_8c5 : M (o0 + 8) 5) (m_o0_8c6 : M (o0 + 8) 6) (m_o0_8c7 : M (o0 + 8) 7) (m_o0_8c8 : M (o0 + 8) 8) (m_o0_8c9 : M (o0 + 8) 9) (hk_109 : ∀ (z0 : Int) (z1 : Int) (z2 : Int) (I9 : IMem), (∀ q j, ¬ M q j → I9 q j = Ib q j) → k_109 z0 z1 z2 I9 = some r → ∀ q j, ¬ M q j → r.2 q j = Ib q j) : ∀ (m : Nat) (w1 : Int) (I0 : IMem), (∀ q j, ¬ M q j → I0 q j = Ib q j) → f_X_parts0_2 fu k_109 o0 m w1 I0 = some r → ∀ q j, ¬ M q j → r.2 q j = Ib q j := by
  intro m
  induction m with
  | zero => intro w1 I0 _ hf; cases hf
  | succ m hR_ =>
    intro w1 I0 fI0 hf
    replace hf : fb_X_parts0_2 fu k_109 o0 (f_X_parts0_2 fu k_109 o0 m) w1 I0 = some r := hf
    unfold fb_X_parts0_2 at hf
    rcases of_ite hf with ⟨_, hf⟩ | ⟨_, hf⟩
    · rcases of_ite hf with ⟨_, hf⟩ | ⟨_, hf⟩
      · refine fc_X_parts0_17 M fu _ _ o0 w1 m_o0_7 m_o0_8c1 m_o0_8c2 m_o0_8c3 m_o0_8c4 m_o0_8c5 m_o0_8c6 m_o0_8c7 m_o0_8c8 m_o0_8c9 ?_ ?_ fu 0 I0 fI0 hf
        · intro x24 x25 I23 fI23 hf
          exact hk_109 w1 x24 x25 I23 fI23 hf
        · intro I26 fI26 hf
          obtain ⟨x27, -, hf⟩ := of_zl hf
          exact hR_ x27 I26 fI26 hf
      · cases hf; exact fI0
    · cases hf; exact fI0
theorem fc_X_parts0 (M : Nat → Nat → Prop) (fu : Nat) (o0 : Nat) (I0 : IMem) {r : Int × IMem} (m_o0_7 : ∀ j, M (o0 + 7) j) (m_o0_9 : ∀ j, M (o0 + 9) j) (m_o0_11 : ∀ j, M (o0 + 11) j) (m_o0_0c30 : M o0 30) (m_o0_0c31 : M o0 31) (m_o0_0c33 : M o0 33) (m_o0_0c34 : M o0 34) (m_o0_8c1 : M (o0 + 8) 1) (m_o0_8c2 : M (o0 + 8) 2) (m_o0_8c3 : M (o0 + 8) 3) (m_o0_8c4 : M (o0 + 8) 4) (m_o0_8c5 : M (o0 + 8) 5) (m_o0_8c6 : M (o0 + 8) 6) (m_o0_8c7 : M (o0 + 8) 7) (m_o0_8c8 : M (o0 + 8) 8) (m_o0_8c9 : M (o0 + 8) 9) (hf : f_X_parts0 fu o0 I0 = some r) : ∀ q j, ¬ M q j → r.2 q j = I0 q j := by
  unfold f_X_parts0 at hf
  obtain ⟨Ib, hIb⟩ : ∃ Ib : IMem, Ib = I0 := ⟨I0, rfl⟩
  rw [← hIb]
  have f0 : ∀ q j, ¬ M q j → I0 q j = Ib q j := fun q j _ => by rw [hIb]
  clear hIb
  refine fc_X_parts0_2 M fu _ o0 m_o0_7 m_o0_8c1 m_o0_8c2 m_o0_8c3 m_o0_8c4 m_o0_8c5 m_o0_8c6 m_o0_8c7 m_o0_8c8 m_o0_8c9 ?_ fu 0 I0 f0 hf
  · intro x29 x30 x31 I28 fI28 hf
    obtain ⟨y32, I33, c_1, hf⟩ := of_zb hf
    have fI33 := fcz_t (fc_X_partOf M fu o0 x31 I28 c_1) fI28
    obtain ⟨u_3, I36, c_2, hf⟩ := of_zb hf
    have fI36 := fcz_t (fc_X_takes M fu o0 x29 x30 y32 I33 m_o0_9 m_o0_11 m_o0_0c30 m_o0_0c31 m_o0_0c33 m_o0_0c34 c_2) fI33
    cases hf; exact fI36
theorem fc_X_fills_4 (M : Nat → Nat → Prop) (fu : Nat) {r : Int × IMem} {Ib : IMem} (k_39 : IMem → Res) (o0 : Nat) (m_o0_7 : ∀ j, M (o0 + 7) j) (m_o0_9 : ∀ j, M (o0 + 9) j) (m_o0_10 : ∀ j, M (o0 + 10) j) (m_o0_11 : ∀ j, M (o0 + 11) j) (m_o0_12 : ∀ j, M (o0 + 12) j) (m_o0_0c30 : M o0 30) (m_o0_0c31 : M o0 31) (m_o0_0c32 : M o0 32) (m_o0_0c33 : M o0 33) (m_o0_0c34 : M o0 34) (m_o0_1c75 : M (o0 + 1) 75) (m_o0_8c1 : M (o0 + 8) 1) (m_o0_8c2 : M (o0 + 8) 2) (m_o0_8c3 : M (o0 + 8) 3) (m_o0_8c4 : M (o0 + 8) 4) (m_o0_8c5 : M (o0 + 8) 5) (m_o0_8c6 : M (o0 + 8) 6) (m_o0_8c7 : M (o0 + 8) 7) (m_o0_8c8 : M (o0 + 8) 8) (m_o0_8c9 : M (o0 + 8) 9) (hk_39 : ∀ (I9 : IMem), (∀ q j, ¬ M q j → I9 q j = Ib q j) → k_39 I9 = some r → ∀ q j, ¬ M q j → r.2 q j = Ib q j) : ∀ (m : Nat) (I0 : IMem), (∀ q j, ¬ M q j → I0 q j = Ib q j) → f_X_fills_4 fu k_39 o0 m I0 = some r → ∀ q j, ¬ M q j → r.2 q j = Ib q j := by
  intro m
  induction m with
  | zero => intro I0 _ hf; cases hf
  | succ m hR_ =>
    intro  I0 fI0 hf
    replace hf : fb_X_fills_4 fu k_39 o0 (f_X_fills_4 fu k_39 o0 m) I0 = some r := hf
    unfold fb_X_fills_4 at hf
    obtain ⟨k4, ek4, hf⟩ := of_zj hf
    have hk4 : ∀ (x6 : Int) (I5 : IMem), (∀ q j, ¬ M q j → I5 q j = Ib q j) → k4 x6 I5 = some r → ∀ q j, ¬ M q j → r.2 q j = Ib q j := by
      intro x6 I5 fI5 hf
      subst ek4
      obtain ⟨k7, ek7, hf⟩ := of_zj hf
      have hk7 : ∀ (x9 : Int) (I8 : IMem), (∀ q j, ¬ M q j → I8 q j = Ib q j) → k7 x9 I8 = some r → ∀ q j, ¬ M q j → r.2 q j = Ib q j := by
        intro x9 I8 fI8 hf
        subst ek7
        rcases of_ite hf with ⟨_, hf⟩ | ⟨_, hf⟩
        · exact hk_39 I8 fI8 hf
        · obtain ⟨x10, -, hf⟩ := of_zl hf
          obtain ⟨x11, -, hf⟩ := of_zl hf
          obtain ⟨y12, I13, c_1, hf⟩ := of_zb hf
          have fI13 := fcz_t (fc_X_of M fu o0 x10 x11 1 I8 c_1) fI8
          rcases of_ite hf with ⟨_, hf⟩ | ⟨_, hf⟩
          · obtain ⟨g_2, hf⟩ := of_zg hf
            obtain ⟨I21, fI21, hf⟩ := fcz_w (m_o0_12 _) fI13 hf
            obtain ⟨x23, -, hf⟩ := of_zl hf
            obtain ⟨g_3, hf⟩ := of_zg hf
            obtain ⟨I22, fI22, hf⟩ := fcz_w (m_o0_10 _) fI21 hf
            obtain ⟨I24, fI24, hf⟩ := fcz_w m_o0_0c32 fI22 hf
            obtain ⟨I25, fI25, hf⟩ := fcz_w m_o0_1c75 fI24 hf
            exact hR_ I25 fI25 hf
          · obtain ⟨y15, I16, c_4, hf⟩ := of_zb hf
            have fI16 := fcz_t (fc_X_of M fu o0 x10 x11 1 I13 c_4) fI13
            obtain ⟨u_6, I19, c_5, hf⟩ := of_zb hf
            have fI19 := fcz_t (fc_X_takes M fu o0 x10 x11 y15 I16 m_o0_9 m_o0_11 m_o0_0c30 m_o0_0c31 m_o0_0c33 m_o0_0c34 c_5) fI16
            exact hR_ I19 fI19 hf
      rcases of_ite hf with ⟨_, hf⟩ | ⟨_, hf⟩
      · obtain ⟨y26, I27, c_7, hf⟩ := of_zb hf
        have fI27 := fcz_t (fc_X_finds M fu o0 0 I5 m_o0_7 m_o0_8c1 m_o0_8c2 m_o0_8c3 m_o0_8c4 m_o0_8c5 m_o0_8c6 m_o0_8c7 m_o0_8c8 m_o0_8c9 c_7) fI5
        exact hk7 y26 I27 fI27 hf
      · exact hk7 x6 I5 fI5 hf
    rcases of_ite hf with ⟨_, hf⟩ | ⟨_, hf⟩
    · obtain ⟨y29, I30, c_8, hf⟩ := of_zb hf
      have fI30 := fcz_t (fc_X_finds M fu o0 1 I0 m_o0_7 m_o0_8c1 m_o0_8c2 m_o0_8c3 m_o0_8c4 m_o0_8c5 m_o0_8c6 m_o0_8c7 m_o0_8c8 m_o0_8c9 c_8) fI0
      exact hk4 y29 I30 fI30 hf
    · exact hk4 ((-1)) I0 fI0 hf
theorem fc_X_fills (M : Nat → Nat → Prop) (fu : Nat) (o0 : Nat) (I0 : IMem) {r : Int × IMem} (m_o0_7 : ∀ j, M (o0 + 7) j) (m_o0_9 : ∀ j, M (o0 + 9) j) (m_o0_10 : ∀ j, M (o0 + 10) j) (m_o0_11 : ∀ j, M (o0 + 11) j) (m_o0_12 : ∀ j, M (o0 + 12) j) (m_o0_0c30 : M o0 30) (m_o0_0c31 : M o0 31) (m_o0_0c32 : M o0 32) (m_o0_0c33 : M o0 33) (m_o0_0c34 : M o0 34) (m_o0_1c75 : M (o0 + 1) 75) (m_o0_8c1 : M (o0 + 8) 1) (m_o0_8c2 : M (o0 + 8) 2) (m_o0_8c3 : M (o0 + 8) 3) (m_o0_8c4 : M (o0 + 8) 4) (m_o0_8c5 : M (o0 + 8) 5) (m_o0_8c6 : M (o0 + 8) 6) (m_o0_8c7 : M (o0 + 8) 7) (m_o0_8c8 : M (o0 + 8) 8) (m_o0_8c9 : M (o0 + 8) 9) (hf : f_X_fills fu o0 I0 = some r) : ∀ q j, ¬ M q j → r.2 q j = I0 q j := by
  unfold f_X_fills at hf
  obtain ⟨Ib, hIb⟩ : ∃ Ib : IMem, Ib = I0 := ⟨I0, rfl⟩
  rw [← hIb]
  have f0 : ∀ q j, ¬ M q j → I0 q j = Ib q j := fun q j _ => by rw [hIb]
  clear hIb
  obtain ⟨u_2, I2, c_1, hf⟩ := of_zb hf
  have fI2 := fcz_t (fc_X_begins M fu o0 I0 m_o0_9 m_o0_12 m_o0_0c30 m_o0_0c31 m_o0_0c32 m_o0_0c33 m_o0_0c34 c_1) f0
  refine fc_X_fills_4 M fu _ o0 m_o0_7 m_o0_9 m_o0_10 m_o0_11 m_o0_12 m_o0_0c30 m_o0_0c31 m_o0_0c32 m_o0_0c33 m_o0_0c34 m_o0_1c75 m_o0_8c1 m_o0_8c2 m_o0_8c3 m_o0_8c4 m_o0_8c5 m_o0_8c6 m_o0_8c7 m_o0_8c8 m_o0_8c9 ?_ fu I2 fI2 hf
  · intro I32 fI32 hf
    obtain ⟨u_4, I34, c_3, hf⟩ := of_zb hf
    have fI34 := fcz_t (fc_X_parts0 M fu o0 I32 m_o0_7 m_o0_9 m_o0_11 m_o0_0c30 m_o0_0c31 m_o0_0c33 m_o0_0c34 m_o0_8c1 m_o0_8c2 m_o0_8c3 m_o0_8c4 m_o0_8c5 m_o0_8c6 m_o0_8c7 m_o0_8c8 m_o0_8c9 c_3) fI32
    cases hf; exact fI34
theorem fc_X_chair (M : Nat → Nat → Prop) (fu : Nat) (o0 : Nat) (I0 : IMem) {r : Int × IMem} (m_o0_1 : ∀ j, M (o0 + 1) j) (m_o0_7 : ∀ j, M (o0 + 7) j) (m_o0_9 : ∀ j, M (o0 + 9) j) (m_o0_10 : ∀ j, M (o0 + 10) j) (m_o0_11 : ∀ j, M (o0 + 11) j) (m_o0_12 : ∀ j, M (o0 + 12) j) (m_o0_13 : ∀ j, M (o0 + 13) j) (m_o0_14 : ∀ j, M (o0 + 14) j) (m_o0_0c24 : M o0 24) (m_o0_0c30 : M o0 30) (m_o0_0c31 : M o0 31) (m_o0_0c32 : M o0 32) (m_o0_0c33 : M o0 33) (m_o0_0c34 : M o0 34) (m_o0_0c35 : M o0 35) (m_o0_8c1 : M (o0 + 8) 1) (m_o0_8c2 : M (o0 + 8) 2) (m_o0_8c3 : M (o0 + 8) 3) (m_o0_8c4 : M (o0 + 8) 4) (m_o0_8c5 : M (o0 + 8) 5) (m_o0_8c6 : M (o0 + 8) 6) (m_o0_8c7 : M (o0 + 8) 7) (m_o0_8c8 : M (o0 + 8) 8) (m_o0_8c9 : M (o0 + 8) 9) (hf : f_X_chair fu o0 I0 = some r) : ∀ q j, ¬ M q j → r.2 q j = I0 q j := by
  unfold f_X_chair at hf
  obtain ⟨Ib, hIb⟩ : ∃ Ib : IMem, Ib = I0 := ⟨I0, rfl⟩
  rw [← hIb]
  have f0 : ∀ q j, ¬ M q j → I0 q j = Ib q j := fun q j _ => by rw [hIb]
  clear hIb
  obtain ⟨u_2, I2, c_1, hf⟩ := of_zb hf
  have fI2 := fcz_t (fc_X_fills M fu o0 I0 m_o0_7 m_o0_9 m_o0_10 m_o0_11 m_o0_12 m_o0_0c30 m_o0_0c31 m_o0_0c32 m_o0_0c33 m_o0_0c34 (m_o0_1 75) m_o0_8c1 m_o0_8c2 m_o0_8c3 m_o0_8c4 m_o0_8c5 m_o0_8c6 m_o0_8c7 m_o0_8c8 m_o0_8c9 c_1) f0
  obtain ⟨y4, I5, c_3, hf⟩ := of_zb hf
  have fI5 := fcz_t (fc_X_goesOff M fu o0 I2 m_o0_1 m_o0_13 m_o0_14 m_o0_0c24 m_o0_0c35 c_3) fI2
  cases hf; exact fI5
theorem fc_X_turn_2 (M : Nat → Nat → Prop) (fu : Nat) {r : Int × IMem} {Ib : IMem} (k_77 : IMem → Res) (o0 : Nat) (m_o0_1 : ∀ j, M (o0 + 1) j) (m_o0_7 : ∀ j, M (o0 + 7) j) (m_o0_0c24 : M o0 24) (m_o0_8c1 : M (o0 + 8) 1) (m_o0_8c7 : M (o0 + 8) 7) (m_o0_8c10 : M (o0 + 8) 10) (m_o0_8c11 : M (o0 + 8) 11) (hk_77 : ∀ (I9 : IMem), (∀ q j, ¬ M q j → I9 q j = Ib q j) → k_77 I9 = some r → ∀ q j, ¬ M q j → r.2 q j = Ib q j) : ∀ (m : Nat) (w1 : Int) (I0 : IMem), (∀ q j, ¬ M q j → I0 q j = Ib q j) → f_X_turn_2 fu k_77 o0 m w1 I0 = some r → ∀ q j, ¬ M q j → r.2 q j = Ib q j := by
  intro m
  induction m with
  | zero => intro w1 I0 _ hf; cases hf
  | succ m hR_ =>
    intro w1 I0 fI0 hf
    replace hf : fb_X_turn_2 fu k_77 o0 (f_X_turn_2 fu k_77 o0 m) w1 I0 = some r := hf
    unfold fb_X_turn_2 at hf
    rcases of_ite hf with ⟨_, hf⟩ | ⟨_, hf⟩
    · obtain ⟨x1, -, hf⟩ := of_zl hf
      obtain ⟨x2, -, hf⟩ := of_zl hf
      obtain ⟨g_1, hf⟩ := of_zg hf
      obtain ⟨k3, ek3, hf⟩ := of_zj hf
      have hk3 : ∀  (I4 : IMem), (∀ q j, ¬ M q j → I4 q j = Ib q j) → k3 I4 = some r → ∀ q j, ¬ M q j → r.2 q j = Ib q j := by
        intro I4 fI4 hf
        subst ek3
        obtain ⟨x5, -, hf⟩ := of_zl hf
        exact hR_ x5 I4 fI4 hf
      rcases of_ite hf with ⟨_, hf⟩ | ⟨_, hf⟩
      · obtain ⟨y6, I7, c_2, hf⟩ := of_zb hf
        have fI7 := fcz_t (fc_X_draw M fu o0 1000 I0 (m_o0_1 0) c_2) fI0
        obtain ⟨x9, -, hf⟩ := of_zl hf
        obtain ⟨g_3, hf⟩ := of_zg hf
        rcases of_ite hf with ⟨_, hf⟩ | ⟨_, hf⟩
        · obtain ⟨g_4, hf⟩ := of_zg hf
          obtain ⟨x10, -, hf⟩ := of_zl hf
          obtain ⟨g_5, hf⟩ := of_zg hf
          obtain ⟨x11, -, hf⟩ := of_zl hf
          obtain ⟨g_6, hf⟩ := of_zg hf
          obtain ⟨y12, I13, c_7, hf⟩ := of_zb hf
          have fI13 := fcz_t (fc_X_comes M fu o0 (I7 (o0 + 1) x1.toNat) (I7 (o0 + 1) x10.toNat) (I7 (o0 + 1) x11.toNat) I7 m_o0_1 m_o0_7 m_o0_0c24 m_o0_8c1 m_o0_8c7 m_o0_8c10 m_o0_8c11 c_7) fI7
          exact hk3 I13 fI13 hf
        · exact hk3 I7 fI7 hf
      · exact hk3 I0 fI0 hf
    · exact hk_77 I0 fI0 hf
theorem fc_X_turn (M : Nat → Nat → Prop) (fu : Nat) (o0 : Nat) (I0 : IMem) {r : Int × IMem} (m_o0_1 : ∀ j, M (o0 + 1) j) (m_o0_7 : ∀ j, M (o0 + 7) j) (m_o0_9 : ∀ j, M (o0 + 9) j) (m_o0_10 : ∀ j, M (o0 + 10) j) (m_o0_11 : ∀ j, M (o0 + 11) j) (m_o0_12 : ∀ j, M (o0 + 12) j) (m_o0_13 : ∀ j, M (o0 + 13) j) (m_o0_14 : ∀ j, M (o0 + 14) j) (m_o0_0c24 : M o0 24) (m_o0_0c30 : M o0 30) (m_o0_0c31 : M o0 31) (m_o0_0c32 : M o0 32) (m_o0_0c33 : M o0 33) (m_o0_0c34 : M o0 34) (m_o0_0c35 : M o0 35) (m_o0_8c1 : M (o0 + 8) 1) (m_o0_8c2 : M (o0 + 8) 2) (m_o0_8c3 : M (o0 + 8) 3) (m_o0_8c4 : M (o0 + 8) 4) (m_o0_8c5 : M (o0 + 8) 5) (m_o0_8c6 : M (o0 + 8) 6) (m_o0_8c7 : M (o0 + 8) 7) (m_o0_8c8 : M (o0 + 8) 8) (m_o0_8c9 : M (o0 + 8) 9) (m_o0_8c10 : M (o0 + 8) 10) (m_o0_8c11 : M (o0 + 8) 11) (hf : f_X_turn fu o0 I0 = some r) : ∀ q j, ¬ M q j → r.2 q j = I0 q j := by
  unfold f_X_turn at hf
  obtain ⟨Ib, hIb⟩ : ∃ Ib : IMem, Ib = I0 := ⟨I0, rfl⟩
  rw [← hIb]
  have f0 : ∀ q j, ¬ M q j → I0 q j = Ib q j := fun q j _ => by rw [hIb]
  clear hIb
  refine fc_X_turn_2 M fu _ o0 m_o0_1 m_o0_7 m_o0_0c24 m_o0_8c1 m_o0_8c7 m_o0_8c10 m_o0_8c11 ?_ fu 0 I0 f0 hf
  · intro I15 fI15 hf
    obtain ⟨y16, I17, c_1, hf⟩ := of_zb hf
    have fI17 := fcz_t (fc_X_chair M fu o0 I15 m_o0_1 m_o0_7 m_o0_9 m_o0_10 m_o0_11 m_o0_12 m_o0_13 m_o0_14 m_o0_0c24 m_o0_0c30 m_o0_0c31 m_o0_0c32 m_o0_0c33 m_o0_0c34 m_o0_0c35 m_o0_8c1 m_o0_8c2 m_o0_8c3 m_o0_8c4 m_o0_8c5 m_o0_8c6 m_o0_8c7 m_o0_8c8 m_o0_8c9 c_1) fI15
    cases hf; exact fI17
theorem fc_X_run_16 (M : Nat → Nat → Prop) (fu : Nat) {r : Int × IMem} {Ib : IMem} (o0 : Nat) (p1 : Int) (m_o0_1 : ∀ j, M (o0 + 1) j) (m_o0_7 : ∀ j, M (o0 + 7) j) (m_o0_9 : ∀ j, M (o0 + 9) j) (m_o0_10 : ∀ j, M (o0 + 10) j) (m_o0_11 : ∀ j, M (o0 + 11) j) (m_o0_12 : ∀ j, M (o0 + 12) j) (m_o0_13 : ∀ j, M (o0 + 13) j) (m_o0_14 : ∀ j, M (o0 + 14) j) (m_o0_0c24 : M o0 24) (m_o0_0c30 : M o0 30) (m_o0_0c31 : M o0 31) (m_o0_0c32 : M o0 32) (m_o0_0c33 : M o0 33) (m_o0_0c34 : M o0 34) (m_o0_0c35 : M o0 35) (m_o0_8c1 : M (o0 + 8) 1) (m_o0_8c2 : M (o0 + 8) 2) (m_o0_8c3 : M (o0 + 8) 3) (m_o0_8c4 : M (o0 + 8) 4) (m_o0_8c5 : M (o0 + 8) 5) (m_o0_8c6 : M (o0 + 8) 6) (m_o0_8c7 : M (o0 + 8) 7) (m_o0_8c8 : M (o0 + 8) 8) (m_o0_8c9 : M (o0 + 8) 9) (m_o0_8c10 : M (o0 + 8) 10) (m_o0_8c11 : M (o0 + 8) 11) : ∀ (m : Nat) (w2 : Int) (w3 : Int) (I0 : IMem), (∀ q j, ¬ M q j → I0 q j = Ib q j) → f_X_run_16 fu o0 p1 m w2 w3 I0 = some r → ∀ q j, ¬ M q j → r.2 q j = Ib q j := by
  intro m
  induction m with
  | zero => intro w2 w3 I0 _ hf; cases hf
  | succ m hR_ =>
    intro w2 w3 I0 fI0 hf
    replace hf : fb_X_run_16 fu o0 p1 (f_X_run_16 fu o0 p1 m) w2 w3 I0 = some r := hf
    unfold fb_X_run_16 at hf
    rcases of_ite hf with ⟨_, hf⟩ | ⟨_, hf⟩
    · obtain ⟨y4, I5, c_1, hf⟩ := of_zb hf
      have fI5 := fcz_t (fc_X_turn M fu o0 I0 m_o0_1 m_o0_7 m_o0_9 m_o0_10 m_o0_11 m_o0_12 m_o0_13 m_o0_14 m_o0_0c24 m_o0_0c30 m_o0_0c31 m_o0_0c32 m_o0_0c33 m_o0_0c34 m_o0_0c35 m_o0_8c1 m_o0_8c2 m_o0_8c3 m_o0_8c4 m_o0_8c5 m_o0_8c6 m_o0_8c7 m_o0_8c8 m_o0_8c9 m_o0_8c10 m_o0_8c11 c_1) fI0
      obtain ⟨x7, -, hf⟩ := of_zl hf
      obtain ⟨x8, -, hf⟩ := of_zl hf
      exact hR_ x7 x8 I5 fI5 hf
    · cases hf; exact fI0
theorem fc_X_run (M : Nat → Nat → Prop) (fu : Nat) (o0 : Nat) (a1 : Int) (I0 : IMem) {r : Int × IMem} (m_o0_1 : ∀ j, M (o0 + 1) j) (m_o0_7 : ∀ j, M (o0 + 7) j) (m_o0_9 : ∀ j, M (o0 + 9) j) (m_o0_10 : ∀ j, M (o0 + 10) j) (m_o0_11 : ∀ j, M (o0 + 11) j) (m_o0_12 : ∀ j, M (o0 + 12) j) (m_o0_13 : ∀ j, M (o0 + 13) j) (m_o0_14 : ∀ j, M (o0 + 14) j) (m_o0_0c24 : M o0 24) (m_o0_0c30 : M o0 30) (m_o0_0c31 : M o0 31) (m_o0_0c32 : M o0 32) (m_o0_0c33 : M o0 33) (m_o0_0c34 : M o0 34) (m_o0_0c35 : M o0 35) (m_o0_8c1 : M (o0 + 8) 1) (m_o0_8c2 : M (o0 + 8) 2) (m_o0_8c3 : M (o0 + 8) 3) (m_o0_8c4 : M (o0 + 8) 4) (m_o0_8c5 : M (o0 + 8) 5) (m_o0_8c6 : M (o0 + 8) 6) (m_o0_8c7 : M (o0 + 8) 7) (m_o0_8c8 : M (o0 + 8) 8) (m_o0_8c9 : M (o0 + 8) 9) (m_o0_8c10 : M (o0 + 8) 10) (m_o0_8c11 : M (o0 + 8) 11) (hf : f_X_run fu o0 a1 I0 = some r) : ∀ q j, ¬ M q j → r.2 q j = I0 q j := by
  unfold f_X_run at hf
  obtain ⟨Ib, hIb⟩ : ∃ Ib : IMem, Ib = I0 := ⟨I0, rfl⟩
  rw [← hIb]
  have f0 : ∀ q j, ¬ M q j → I0 q j = Ib q j := fun q j _ => by rw [hIb]
  clear hIb
  obtain ⟨y1, I2, c_1, hf⟩ := of_zb hf
  have fI2 := fcz_t (fc_X_isIn M fu a1 1 60 I0 c_1) f0
  rcases of_ite hf with ⟨_, hf⟩ | ⟨_, hf⟩
  · cases hf; exact fI2
  · refine fc_X_run_16 M fu o0 a1 m_o0_1 m_o0_7 m_o0_9 m_o0_10 m_o0_11 m_o0_12 m_o0_13 m_o0_14 m_o0_0c24 m_o0_0c30 m_o0_0c31 m_o0_0c32 m_o0_0c33 m_o0_0c34 m_o0_0c35 m_o0_8c1 m_o0_8c2 m_o0_8c3 m_o0_8c4 m_o0_8c5 m_o0_8c6 m_o0_8c7 m_o0_8c8 m_o0_8c9 m_o0_8c10 m_o0_8c11 fu 0 0 I2 fI2 hf
theorem fc_X_last (M : Nat → Nat → Prop) (fu : Nat) (o0 : Nat) (a1 : Int) (I0 : IMem) {r : Int × IMem} (hf : f_X_last fu o0 a1 I0 = some r) : ∀ q j, ¬ M q j → r.2 q j = I0 q j := by
  unfold f_X_last at hf
  obtain ⟨Ib, hIb⟩ : ∃ Ib : IMem, Ib = I0 := ⟨I0, rfl⟩
  rw [← hIb]
  have f0 : ∀ q j, ¬ M q j → I0 q j = Ib q j := fun q j _ => by rw [hIb]
  clear hIb
  obtain ⟨x1, -, hf⟩ := of_zl hf
  rcases of_ite hf with ⟨_, hf⟩ | ⟨_, hf⟩
  · cases hf; exact f0
  · obtain ⟨y2, I3, c_1, hf⟩ := of_zb hf
    have fI3 := fcz_t (fc_X_isIn M fu a1 10 (wr32 (9 + x1)) I0 c_1) f0
    rcases of_ite hf with ⟨_, hf⟩ | ⟨_, hf⟩
    · obtain ⟨y5, I6, c_2, hf⟩ := of_zb hf
      have fI6 := fcz_t (fc_X_isIn M fu a1 20 (wr32 (19 + x1)) I3 c_2) fI3
      rcases of_ite hf with ⟨_, hf⟩ | ⟨_, hf⟩
      · rcases of_ite hf with ⟨_, hf⟩ | ⟨_, hf⟩
        · cases hf; exact fI6
        · rcases of_ite hf with ⟨_, hf⟩ | ⟨_, hf⟩
          · cases hf; exact fI6
          · cases hf; exact fI6
      · obtain ⟨x8, -, hf⟩ := of_zl hf
        obtain ⟨g_3, hf⟩ := of_zg hf
        cases hf; exact fI6
    · obtain ⟨x9, -, hf⟩ := of_zl hf
      obtain ⟨g_4, hf⟩ := of_zg hf
      cases hf; exact fI3
theorem fc_X_count (M : Nat → Nat → Prop) (fu : Nat) (o0 : Nat) (a1 : Int) (I0 : IMem) {r : Int × IMem} (hf : f_X_count fu o0 a1 I0 = some r) : ∀ q j, ¬ M q j → r.2 q j = I0 q j := by
  unfold f_X_count at hf
  obtain ⟨Ib, hIb⟩ : ∃ Ib : IMem, Ib = I0 := ⟨I0, rfl⟩
  rw [← hIb]
  have f0 : ∀ q j, ¬ M q j → I0 q j = Ib q j := fun q j _ => by rw [hIb]
  clear hIb
  obtain ⟨y1, I2, c_1, hf⟩ := of_zb hf
  have fI2 := fcz_t (fc_X_isIn M fu a1 0 6 I0 c_1) f0
  rcases of_ite hf with ⟨_, hf⟩ | ⟨_, hf⟩
  · obtain ⟨y4, I5, c_2, hf⟩ := of_zb hf
    have fI5 := fcz_t (fc_X_isIn M fu a1 41 48 I2 c_2) fI2
    rcases of_ite hf with ⟨_, hf⟩ | ⟨_, hf⟩
    · obtain ⟨y7, I8, c_3, hf⟩ := of_zb hf
      have fI8 := fcz_t (fc_X_isIn M fu (wrem a1 10) 1 8 I5 c_3) fI5
      obtain ⟨k10, ek10, hf⟩ := of_zj hf
      have hk10 : ∀ (x12 : Int) (I11 : IMem), (∀ q j, ¬ M q j → I11 q j = Ib q j) → k10 x12 I11 = some r → ∀ q j, ¬ M q j → r.2 q j = Ib q j := by
        intro x12 I11 fI11 hf
        subst ek10
        rcases of_ite hf with ⟨_, hf⟩ | ⟨_, hf⟩
        · cases hf; exact fI11
        · obtain ⟨x13, -, hf⟩ := of_zl hf
          obtain ⟨g_4, hf⟩ := of_zg hf
          cases hf; exact fI11
      rcases of_ite hf with ⟨_, hf⟩ | ⟨_, hf⟩
      · exact hk10 0 I8 fI8 hf
      · obtain ⟨y14, I15, c_5, hf⟩ := of_zb hf
        have fI15 := fcz_t (fc_X_isIn M fu a1 11 38 I8 c_5) fI8
        rcases of_ite hf with ⟨_, hf⟩ | ⟨_, hf⟩
        · exact hk10 0 I15 fI15 hf
        · exact hk10 1 I15 fI15 hf
    · obtain ⟨x17, -, hf⟩ := of_zl hf
      obtain ⟨g_6, hf⟩ := of_zg hf
      rcases of_ite hf with ⟨_, hf⟩ | ⟨_, hf⟩
      · cases hf; exact fI5
      · obtain ⟨x18, -, hf⟩ := of_zl hf
        obtain ⟨g_7, hf⟩ := of_zg hf
        obtain ⟨x19, -, hf⟩ := of_zl hf
        obtain ⟨g_8, hf⟩ := of_zg hf
        obtain ⟨g_9, hf⟩ := of_zg hf
        cases hf; exact fI5
  · obtain ⟨x20, -, hf⟩ := of_zl hf
    obtain ⟨g_10, hf⟩ := of_zg hf
    cases hf; exact fI2
theorem fc_X_laysRow_15 (M : Nat → Nat → Prop) (fu : Nat) {r : Int × IMem} {Ib : IMem} (k_87 : IMem → Res) (o0 : Nat) (p1 : Int) (m_o0_16 : ∀ j, M (o0 + 16) j) (m_o0_0c40 : M o0 40) (hk_87 : ∀ (I9 : IMem), (∀ q j, ¬ M q j → I9 q j = Ib q j) → k_87 I9 = some r → ∀ q j, ¬ M q j → r.2 q j = Ib q j) : ∀ (m : Nat) (w2 : Int) (I0 : IMem), (∀ q j, ¬ M q j → I0 q j = Ib q j) → f_X_laysRow_15 fu k_87 o0 p1 m w2 I0 = some r → ∀ q j, ¬ M q j → r.2 q j = Ib q j := by
  intro m
  induction m with
  | zero => intro w2 I0 _ hf; cases hf
  | succ m hR_ =>
    intro w2 I0 fI0 hf
    replace hf : fb_X_laysRow_15 fu k_87 o0 p1 (f_X_laysRow_15 fu k_87 o0 p1 m) w2 I0 = some r := hf
    unfold fb_X_laysRow_15 at hf
    obtain ⟨x2, -, hf⟩ := of_zl hf
    obtain ⟨g_1, hf⟩ := of_zg hf
    rcases of_ite hf with ⟨_, hf⟩ | ⟨_, hf⟩
    · obtain ⟨x3, -, hf⟩ := of_zl hf
      obtain ⟨g_2, hf⟩ := of_zg hf
      rcases of_ite hf with ⟨_, hf⟩ | ⟨_, hf⟩
      · obtain ⟨y4, I5, c_3, hf⟩ := of_zb hf
        have fI5 := fcz_t (fc_X_of M fu o0 p1 w2 3 I0 c_3) fI0
        obtain ⟨k7, ek7, hf⟩ := of_zj hf
        have hk7 : ∀  (I8 : IMem), (∀ q j, ¬ M q j → I8 q j = Ib q j) → k7 I8 = some r → ∀ q j, ¬ M q j → r.2 q j = Ib q j := by
          intro I8 fI8 hf
          subst ek7
          obtain ⟨x9, -, hf⟩ := of_zl hf
          exact hR_ x9 I8 fI8 hf
        rcases of_ite hf with ⟨_, hf⟩ | ⟨_, hf⟩
        · exact hk7 I5 fI5 hf
        · obtain ⟨x11, -, hf⟩ := of_zl hf
          obtain ⟨g_4, hf⟩ := of_zg hf
          obtain ⟨I10, fI10, hf⟩ := fcz_w (m_o0_16 _) fI5 hf
          obtain ⟨I12, fI12, hf⟩ := fcz_w m_o0_0c40 fI10 hf
          exact hk7 I12 fI12 hf
      · exact hk_87 I0 fI0 hf
    · exact hk_87 I0 fI0 hf
theorem fc_X_laysRow_7 (M : Nat → Nat → Prop) (fu : Nat) {r : Int × IMem} {Ib : IMem} (o0 : Nat) (m_o0_16 : ∀ j, M (o0 + 16) j) (m_o0_0c40 : M o0 40) : ∀ (m : Nat) (w1 : Int) (I0 : IMem), (∀ q j, ¬ M q j → I0 q j = Ib q j) → f_X_laysRow_7 fu o0 m w1 I0 = some r → ∀ q j, ¬ M q j → r.2 q j = Ib q j := by
  intro m
  induction m with
  | zero => intro w1 I0 _ hf; cases hf
  | succ m hR_ =>
    intro w1 I0 fI0 hf
    replace hf : fb_X_laysRow_7 fu o0 (f_X_laysRow_7 fu o0 m) w1 I0 = some r := hf
    unfold fb_X_laysRow_7 at hf
    rcases of_ite hf with ⟨_, hf⟩ | ⟨_, hf⟩
    · refine fc_X_laysRow_15 M fu _ o0 w1 m_o0_16 m_o0_0c40 ?_ fu 0 I0 fI0 hf
      · intro I13 fI13 hf
        obtain ⟨x14, -, hf⟩ := of_zl hf
        exact hR_ x14 I13 fI13 hf
    · cases hf; exact fI0
theorem fc_X_laysRow (M : Nat → Nat → Prop) (fu : Nat) (o0 : Nat) (I0 : IMem) {r : Int × IMem} (m_o0_16 : ∀ j, M (o0 + 16) j) (m_o0_0c40 : M o0 40) (hf : f_X_laysRow fu o0 I0 = some r) : ∀ q j, ¬ M q j → r.2 q j = I0 q j := by
  unfold f_X_laysRow at hf
  obtain ⟨Ib, hIb⟩ : ∃ Ib : IMem, Ib = I0 := ⟨I0, rfl⟩
  rw [← hIb]
  have f0 : ∀ q j, ¬ M q j → I0 q j = Ib q j := fun q j _ => by rw [hIb]
  clear hIb
  obtain ⟨I1, fI1, hf⟩ := fcz_w m_o0_0c40 f0 hf
  refine fc_X_laysRow_7 M fu o0 m_o0_16 m_o0_0c40 fu 0 I1 fI1 hf
theorem fc_X_spot (M : Nat → Nat → Prop) (fu : Nat) (a0 : Int) (a1 : Int) (a2 : Int) (I0 : IMem) {r : Int × IMem} (hf : f_X_spot fu a0 a1 a2 I0 = some r) : ∀ q j, ¬ M q j → r.2 q j = I0 q j := by
  unfold f_X_spot at hf
  obtain ⟨Ib, hIb⟩ : ∃ Ib : IMem, Ib = I0 := ⟨I0, rfl⟩
  rw [← hIb]
  have f0 : ∀ q j, ¬ M q j → I0 q j = Ib q j := fun q j _ => by rw [hIb]
  clear hIb
  cases hf; exact f0
theorem fc_X_with (M : Nat → Nat → Prop) (fu : Nat) (o0 : Nat) (a1 : Int) (a2 : Int) (I0 : IMem) {r : Int × IMem} (hf : f_X_with fu o0 a1 a2 I0 = some r) : ∀ q j, ¬ M q j → r.2 q j = I0 q j := by
  unfold f_X_with at hf
  obtain ⟨Ib, hIb⟩ : ∃ Ib : IMem, Ib = I0 := ⟨I0, rfl⟩
  rw [← hIb]
  have f0 : ∀ q j, ¬ M q j → I0 q j = Ib q j := fun q j _ => by rw [hIb]
  clear hIb
  obtain ⟨x1, -, hf⟩ := of_zl hf
  obtain ⟨g_1, hf⟩ := of_zg hf
  rcases of_ite hf with ⟨_, hf⟩ | ⟨_, hf⟩
  · cases hf; exact f0
  · cases hf; exact f0
theorem fc_X_taking (M : Nat → Nat → Prop) (fu : Nat) (o0 : Nat) (a1 : Int) (a2 : Int) (a3 : Int) (I0 : IMem) {r : Int × IMem} (hf : f_X_taking fu o0 a1 a2 a3 I0 = some r) : ∀ q j, ¬ M q j → r.2 q j = I0 q j := by
  unfold f_X_taking at hf
  obtain ⟨Ib, hIb⟩ : ∃ Ib : IMem, Ib = I0 := ⟨I0, rfl⟩
  rw [← hIb]
  have f0 : ∀ q j, ¬ M q j → I0 q j = Ib q j := fun q j _ => by rw [hIb]
  clear hIb
  obtain ⟨g_1, hf⟩ := of_zg hf
  obtain ⟨x1, -, hf⟩ := of_zl hf
  obtain ⟨g_2, hf⟩ := of_zg hf
  obtain ⟨x2, -, hf⟩ := of_zl hf
  rcases of_ite hf with ⟨_, hf⟩ | ⟨_, hf⟩
  · cases hf; exact f0
  · obtain ⟨g_3, hf⟩ := of_zg hf
    obtain ⟨y3, I4, c_4, hf⟩ := of_zb hf
    have fI4 := fcz_t (fc_X_with M fu o0 a3 (I0 (o0 + 16) a1.toNat) I0 c_4) f0
    obtain ⟨y6, I7, c_5, hf⟩ := of_zb hf
    have fI7 := fcz_t (fc_X_spot M fu (wr32 (a1 + 1)) (wr32 (a2 - x2)) y3 I4 c_5) fI4
    obtain ⟨g_6, hf⟩ := of_zg hf
    cases hf; exact fI7
theorem fc_X_reckons_14 (M : Nat → Nat → Prop) (fu : Nat) {r : Int × IMem} {Ib : IMem} (k_50 : IMem → Res) (o0 : Nat) (p1 : Int) (m_o0_17 : ∀ j, M (o0 + 17) j) (hk_50 : ∀ (I9 : IMem), (∀ q j, ¬ M q j → I9 q j = Ib q j) → k_50 I9 = some r → ∀ q j, ¬ M q j → r.2 q j = Ib q j) : ∀ (m : Nat) (w2 : Int) (I0 : IMem), (∀ q j, ¬ M q j → I0 q j = Ib q j) → f_X_reckons_14 fu k_50 o0 p1 m w2 I0 = some r → ∀ q j, ¬ M q j → r.2 q j = Ib q j := by
  intro m
  induction m with
  | zero => intro w2 I0 _ hf; cases hf
  | succ m hR_ =>
    intro w2 I0 fI0 hf
    replace hf : fb_X_reckons_14 fu k_50 o0 p1 (f_X_reckons_14 fu k_50 o0 p1 m) w2 I0 = some r := hf
    unfold fb_X_reckons_14 at hf
    rcases of_ite hf with ⟨_, hf⟩ | ⟨_, hf⟩
    · obtain ⟨y4, I5, c_1, hf⟩ := of_zb hf
      have fI5 := fcz_t (fc_X_spot M fu (I0 o0 40) p1 w2 I0 c_1) fI0
      obtain ⟨k7, ek7, hf⟩ := of_zj hf
      have hk7 : ∀ (x9 : Int) (I8 : IMem), (∀ q j, ¬ M q j → I8 q j = Ib q j) → k7 x9 I8 = some r → ∀ q j, ¬ M q j → r.2 q j = Ib q j := by
        intro x9 I8 fI8 hf
        subst ek7
        obtain ⟨g_2, hf⟩ := of_zg hf
        obtain ⟨I10, fI10, hf⟩ := fcz_w (m_o0_17 _) fI8 hf
        obtain ⟨x11, -, hf⟩ := of_zl hf
        exact hR_ x11 I10 fI10 hf
      rcases of_ite hf with ⟨_, hf⟩ | ⟨_, hf⟩
      · exact hk7 ((-99)) I5 fI5 hf
      · exact hk7 0 I5 fI5 hf
    · exact hk_50 I0 fI0 hf
theorem fc_X_reckons_6 (M : Nat → Nat → Prop) (fu : Nat) {r : Int × IMem} {Ib : IMem} (k_56 : IMem → Res) (o0 : Nat) (m_o0_17 : ∀ j, M (o0 + 17) j) (hk_56 : ∀ (I9 : IMem), (∀ q j, ¬ M q j → I9 q j = Ib q j) → k_56 I9 = some r → ∀ q j, ¬ M q j → r.2 q j = Ib q j) : ∀ (m : Nat) (w1 : Int) (I0 : IMem), (∀ q j, ¬ M q j → I0 q j = Ib q j) → f_X_reckons_6 fu k_56 o0 m w1 I0 = some r → ∀ q j, ¬ M q j → r.2 q j = Ib q j := by
  intro m
  induction m with
  | zero => intro w1 I0 _ hf; cases hf
  | succ m hR_ =>
    intro w1 I0 fI0 hf
    replace hf : fb_X_reckons_6 fu k_56 o0 (f_X_reckons_6 fu k_56 o0 m) w1 I0 = some r := hf
    unfold fb_X_reckons_6 at hf
    rcases of_ite hf with ⟨_, hf⟩ | ⟨_, hf⟩
    · refine fc_X_reckons_14 M fu _ o0 w1 m_o0_17 ?_ fu 0 I0 fI0 hf
      · intro I12 fI12 hf
        obtain ⟨x13, -, hf⟩ := of_zl hf
        exact hR_ x13 I12 fI12 hf
    · exact hk_56 I0 fI0 hf
theorem fc_X_reckons_77 (M : Nat → Nat → Prop) (fu : Nat) {r : Int × IMem} {Ib : IMem} (k_137 : IMem → Res) (o0 : Nat) (p1 : Int) (p2 : Int) (m_o0_17 : ∀ j, M (o0 + 17) j) (hk_137 : ∀ (I9 : IMem), (∀ q j, ¬ M q j → I9 q j = Ib q j) → k_137 I9 = some r → ∀ q j, ¬ M q j → r.2 q j = Ib q j) : ∀ (m : Nat) (w3 : Int) (I0 : IMem), (∀ q j, ¬ M q j → I0 q j = Ib q j) → f_X_reckons_77 fu k_137 o0 p1 p2 m w3 I0 = some r → ∀ q j, ¬ M q j → r.2 q j = Ib q j := by
  intro m
  induction m with
  | zero => intro w3 I0 _ hf; cases hf
  | succ m hR_ =>
    intro w3 I0 fI0 hf
    replace hf : fb_X_reckons_77 fu k_137 o0 p1 p2 (f_X_reckons_77 fu k_137 o0 p1 p2 m) w3 I0 = some r := hf
    unfold fb_X_reckons_77 at hf
    rcases of_ite hf with ⟨_, hf⟩ | ⟨_, hf⟩
    · obtain ⟨y16, I17, c_1, hf⟩ := of_zb hf
      have fI17 := fcz_t (fc_X_taking M fu o0 p1 p2 w3 I0 c_1) fI0
      obtain ⟨y19, I20, c_2, hf⟩ := of_zb hf
      have fI20 := fcz_t (fc_X_spot M fu (wr32 (p1 + 1)) p2 w3 I17 c_2) fI17
      obtain ⟨g_3, hf⟩ := of_zg hf
      obtain ⟨x22, -, hf⟩ := of_zl hf
      obtain ⟨y23, I24, c_4, hf⟩ := of_zb hf
      have fI24 := fcz_t (fc_X_spot M fu p1 p2 w3 I20 c_4) fI20
      obtain ⟨k26, ek26, hf⟩ := of_zj hf
      have hk26 : ∀ (x28 : Int) (I27 : IMem), (∀ q j, ¬ M q j → I27 q j = Ib q j) → k26 x28 I27 = some r → ∀ q j, ¬ M q j → r.2 q j = Ib q j := by
        intro x28 I27 fI27 hf
        subst ek26
        obtain ⟨g_5, hf⟩ := of_zg hf
        obtain ⟨I29, fI29, hf⟩ := fcz_w (m_o0_17 _) fI27 hf
        obtain ⟨x30, -, hf⟩ := of_zl hf
        exact hR_ x30 I29 fI29 hf
      rcases of_ite hf with ⟨_, hf⟩ | ⟨_, hf⟩
      · exact hk26 y16 I24 fI24 hf
      · exact hk26 x22 I24 fI24 hf
    · exact hk_137 I0 fI0 hf
theorem fc_X_reckons_69 (M : Nat → Nat → Prop) (fu : Nat) {r : Int × IMem} {Ib : IMem} (k_143 : IMem → Res) (o0 : Nat) (p1 : Int) (m_o0_17 : ∀ j, M (o0 + 17) j) (hk_143 : ∀ (I9 : IMem), (∀ q j, ¬ M q j → I9 q j = Ib q j) → k_143 I9 = some r → ∀ q j, ¬ M q j → r.2 q j = Ib q j) : ∀ (m : Nat) (w2 : Int) (I0 : IMem), (∀ q j, ¬ M q j → I0 q j = Ib q j) → f_X_reckons_69 fu k_143 o0 p1 m w2 I0 = some r → ∀ q j, ¬ M q j → r.2 q j = Ib q j := by
  intro m
  induction m with
  | zero => intro w2 I0 _ hf; cases hf
  | succ m hR_ =>
    intro w2 I0 fI0 hf
    replace hf : fb_X_reckons_69 fu k_143 o0 p1 (f_X_reckons_69 fu k_143 o0 p1 m) w2 I0 = some r := hf
    unfold fb_X_reckons_69 at hf
    rcases of_ite hf with ⟨_, hf⟩ | ⟨_, hf⟩
    · refine fc_X_reckons_77 M fu _ o0 p1 w2 m_o0_17 ?_ fu 0 I0 fI0 hf
      · intro I31 fI31 hf
        obtain ⟨x32, -, hf⟩ := of_zl hf
        exact hR_ x32 I31 fI31 hf
    · exact hk_143 I0 fI0 hf
theorem fc_X_reckons_63 (M : Nat → Nat → Prop) (fu : Nat) {r : Int × IMem} {Ib : IMem} (o0 : Nat) (m_o0_17 : ∀ j, M (o0 + 17) j) : ∀ (m : Nat) (w1 : Int) (I0 : IMem), (∀ q j, ¬ M q j → I0 q j = Ib q j) → f_X_reckons_63 fu o0 m w1 I0 = some r → ∀ q j, ¬ M q j → r.2 q j = Ib q j := by
  intro m
  induction m with
  | zero => intro w1 I0 _ hf; cases hf
  | succ m hR_ =>
    intro w1 I0 fI0 hf
    replace hf : fb_X_reckons_63 fu o0 (f_X_reckons_63 fu o0 m) w1 I0 = some r := hf
    unfold fb_X_reckons_63 at hf
    rcases of_ite hf with ⟨_, hf⟩ | ⟨_, hf⟩
    · cases hf; exact fI0
    · refine fc_X_reckons_69 M fu _ o0 w1 m_o0_17 ?_ fu 0 I0 fI0 hf
      · intro I33 fI33 hf
        obtain ⟨x34, -, hf⟩ := of_zl hf
        exact hR_ x34 I33 fI33 hf
theorem fc_X_reckons (M : Nat → Nat → Prop) (fu : Nat) (o0 : Nat) (I0 : IMem) {r : Int × IMem} (m_o0_16 : ∀ j, M (o0 + 16) j) (m_o0_17 : ∀ j, M (o0 + 17) j) (m_o0_0c40 : M o0 40) (hf : f_X_reckons fu o0 I0 = some r) : ∀ q j, ¬ M q j → r.2 q j = I0 q j := by
  unfold f_X_reckons at hf
  obtain ⟨Ib, hIb⟩ : ∃ Ib : IMem, Ib = I0 := ⟨I0, rfl⟩
  rw [← hIb]
  have f0 : ∀ q j, ¬ M q j → I0 q j = Ib q j := fun q j _ => by rw [hIb]
  clear hIb
  obtain ⟨u_2, I2, c_1, hf⟩ := of_zb hf
  have fI2 := fcz_t (fc_X_laysRow M fu o0 I0 m_o0_16 m_o0_0c40 c_1) f0
  refine fc_X_reckons_6 M fu _ o0 m_o0_17 ?_ fu 0 I2 fI2 hf
  · intro I14 fI14 hf
    obtain ⟨x15, -, hf⟩ := of_zl hf
    refine fc_X_reckons_63 M fu o0 m_o0_17 fu x15 I14 fI14 hf
theorem fc_X_best_35 (M : Nat → Nat → Prop) (fu : Nat) {r : Int × IMem} {Ib : IMem} (k_88 : Int → IMem → Res) (k_159 : Int → IMem → Res) (o0 : Nat) (p1 : Int) (hk_88 : ∀ (z0 : Int) (I9 : IMem), (∀ q j, ¬ M q j → I9 q j = Ib q j) → k_88 z0 I9 = some r → ∀ q j, ¬ M q j → r.2 q j = Ib q j) (hk_159 : ∀ (z0 : Int) (I9 : IMem), (∀ q j, ¬ M q j → I9 q j = Ib q j) → k_159 z0 I9 = some r → ∀ q j, ¬ M q j → r.2 q j = Ib q j) : ∀ (m : Nat) (w2 : Int) (w3 : Int) (w4 : Int) (w5 : Int) (I0 : IMem), (∀ q j, ¬ M q j → I0 q j = Ib q j) → f_X_best_35 fu k_88 k_159 o0 p1 m w2 w3 w4 w5 I0 = some r → ∀ q j, ¬ M q j → r.2 q j = Ib q j := by
  intro m
  induction m with
  | zero => intro w2 w3 w4 w5 I0 _ hf; cases hf
  | succ m hR_ =>
    intro w2 w3 w4 w5 I0 fI0 hf
    replace hf : fb_X_best_35 fu k_88 k_159 o0 p1 (f_X_best_35 fu k_88 k_159 o0 p1 m) w2 w3 w4 w5 I0 = some r := hf
    unfold fb_X_best_35 at hf
    rcases of_ite hf with ⟨_, hf⟩ | ⟨_, hf⟩
    · obtain ⟨y5, I6, c_1, hf⟩ := of_zb hf
      have fI6 := fcz_t (fc_X_taking M fu o0 w5 w2 w3 I0 c_1) fI0
      obtain ⟨k8, ek8, hf⟩ := of_zj hf
      have hk8 : ∀ (x10 : Int) (x11 : Int) (x12 : Int) (I9 : IMem), (∀ q j, ¬ M q j → I9 q j = Ib q j) → k8 x10 x11 x12 I9 = some r → ∀ q j, ¬ M q j → r.2 q j = Ib q j := by
        intro x10 x11 x12 I9 fI9 hf
        subst ek8
        obtain ⟨x13, -, hf⟩ := of_zl hf
        exact hR_ x10 x11 x12 x13 I9 fI9 hf
      rcases of_ite hf with ⟨_, hf⟩ | ⟨_, hf⟩
      · exact hk8 w2 w3 w4 I6 fI6 hf
      · obtain ⟨y14, I15, c_2, hf⟩ := of_zb hf
        have fI15 := fcz_t (fc_X_spot M fu w5 w2 w3 I6 c_2) fI6
        obtain ⟨g_3, hf⟩ := of_zg hf
        rcases of_ite hf with ⟨_, hf⟩ | ⟨_, hf⟩
        · exact hk8 w2 w3 w4 I15 fI15 hf
        · rcases of_ite hf with ⟨_, hf⟩ | ⟨_, hf⟩
          · exact hk_88 w5 I15 fI15 hf
          · obtain ⟨x17, -, hf⟩ := of_zl hf
            obtain ⟨g_4, hf⟩ := of_zg hf
            obtain ⟨y18, I19, c_5, hf⟩ := of_zb hf
            have fI19 := fcz_t (fc_X_with M fu o0 w3 (I15 (o0 + 16) w5.toNat) I15 c_5) fI15
            obtain ⟨g_6, hf⟩ := of_zg hf
            obtain ⟨x21, -, hf⟩ := of_zl hf
            obtain ⟨g_7, hf⟩ := of_zg hf
            obtain ⟨x22, -, hf⟩ := of_zl hf
            exact hk8 x22 y18 x17 I19 fI19 hf
    · exact hk_159 w4 I0 fI0 hf
theorem fc_X_best (M : Nat → Nat → Prop) (fu : Nat) (o0 : Nat) (a1 : Int) (I0 : IMem) {r : Int × IMem} (m_o0_16 : ∀ j, M (o0 + 16) j) (m_o0_17 : ∀ j, M (o0 + 17) j) (m_o0_0c40 : M o0 40) (hf : f_X_best fu o0 a1 I0 = some r) : ∀ q j, ¬ M q j → r.2 q j = I0 q j := by
  unfold f_X_best at hf
  obtain ⟨Ib, hIb⟩ : ∃ Ib : IMem, Ib = I0 := ⟨I0, rfl⟩
  rw [← hIb]
  have f0 : ∀ q j, ¬ M q j → I0 q j = Ib q j := fun q j _ => by rw [hIb]
  clear hIb
  obtain ⟨u_2, I2, c_1, hf⟩ := of_zb hf
  have fI2 := fcz_t (fc_X_reckons M fu o0 I0 m_o0_16 m_o0_17 m_o0_0c40 c_1) f0
  obtain ⟨x4, -, hf⟩ := of_zl hf
  rcases of_ite hf with ⟨_, hf⟩ | ⟨_, hf⟩
  · obtain ⟨y27, I28, c_3, hf⟩ := of_zb hf
    have fI28 := fcz_t (fc_X_spot M fu 0 x4 0 I2 c_3) fI2
    obtain ⟨g_4, hf⟩ := of_zg hf
    cases hf; exact fI28
  · refine fc_X_best_35 M fu _ _ o0 a1 ?_ ?_ fu x4 0 0 0 I2 fI2 hf
    · intro x24 I23 fI23 hf
      obtain ⟨g_5, hf⟩ := of_zg hf
      obtain ⟨g_6, hf⟩ := of_zg hf
      cases hf; exact fI23
    · intro x26 I25 fI25 hf
      rcases of_ite hf with ⟨_, hf⟩ | ⟨_, hf⟩
      · cases hf; exact fI25
      · cases hf; exact fI25
theorem fc_X_look (M : Nat → Nat → Prop) (fu : Nat) (o0 : Nat) (a1 : Int) (I0 : IMem) {r : Int × IMem} (m_o0_1 : ∀ j, M (o0 + 1) j) (m_o0_16 : ∀ j, M (o0 + 16) j) (m_o0_17 : ∀ j, M (o0 + 17) j) (m_o0_0c40 : M o0 40) (hf : f_X_look fu o0 a1 I0 = some r) : ∀ q j, ¬ M q j → r.2 q j = I0 q j := by
  unfold f_X_look at hf
  obtain ⟨Ib, hIb⟩ : ∃ Ib : IMem, Ib = I0 := ⟨I0, rfl⟩
  rw [← hIb]
  have f0 : ∀ q j, ¬ M q j → I0 q j = Ib q j := fun q j _ => by rw [hIb]
  clear hIb
  obtain ⟨y1, I2, c_1, hf⟩ := of_zb hf
  have fI2 := fcz_t (fc_X_isLine M fu a1 I0 c_1) f0
  rcases of_ite hf with ⟨_, hf⟩ | ⟨_, hf⟩
  · cases hf; exact fI2
  · obtain ⟨x4, -, hf⟩ := of_zl hf
    obtain ⟨g_2, hf⟩ := of_zg hf
    rcases of_ite hf with ⟨_, hf⟩ | ⟨_, hf⟩
    · cases hf; exact fI2
    · obtain ⟨y5, I6, c_3, hf⟩ := of_zb hf
      have fI6 := fcz_t (fc_X_best M fu o0 0 I2 m_o0_16 m_o0_17 m_o0_0c40 c_3) fI2
      obtain ⟨x8, -, hf⟩ := of_zl hf
      obtain ⟨g_4, hf⟩ := of_zg hf
      obtain ⟨g_5, hf⟩ := of_zg hf
      obtain ⟨I9, fI9, hf⟩ := fcz_w (m_o0_1 _) fI6 hf
      obtain ⟨y10, I11, c_6, hf⟩ := of_zb hf
      have fI11 := fcz_t (fc_X_best M fu o0 0 I9 m_o0_16 m_o0_17 m_o0_0c40 c_6) fI9
      obtain ⟨x13, -, hf⟩ := of_zl hf
      obtain ⟨g_7, hf⟩ := of_zg hf
      obtain ⟨g_8, hf⟩ := of_zg hf
      obtain ⟨I14, fI14, hf⟩ := fcz_w (m_o0_1 _) fI11 hf
      cases hf; exact fI14
theorem fc_X_heap_27 (M : Nat → Nat → Prop) (fu : Nat) {r : Int × IMem} {Ib : IMem} (k_63 : Int → IMem → Res) (o0 : Nat) (p1 : Int) (p2 : Int) (hk_63 : ∀ (z0 : Int) (I9 : IMem), (∀ q j, ¬ M q j → I9 q j = Ib q j) → k_63 z0 I9 = some r → ∀ q j, ¬ M q j → r.2 q j = Ib q j) : ∀ (m : Nat) (w3 : Int) (w4 : Int) (I0 : IMem), (∀ q j, ¬ M q j → I0 q j = Ib q j) → f_X_heap_27 fu k_63 o0 p1 p2 m w3 w4 I0 = some r → ∀ q j, ¬ M q j → r.2 q j = Ib q j := by
  intro m
  induction m with
  | zero => intro w3 w4 I0 _ hf; cases hf
  | succ m hR_ =>
    intro w3 w4 I0 fI0 hf
    replace hf : fb_X_heap_27 fu k_63 o0 p1 p2 (f_X_heap_27 fu k_63 o0 p1 p2 m) w3 w4 I0 = some r := hf
    unfold fb_X_heap_27 at hf
    rcases of_ite hf with ⟨_, hf⟩ | ⟨_, hf⟩
    · exact hk_63 w3 I0 fI0 hf
    · obtain ⟨k7, ek7, hf⟩ := of_zj hf
      have hk7 : ∀ (x9 : Int) (I8 : IMem), (∀ q j, ¬ M q j → I8 q j = Ib q j) → k7 x9 I8 = some r → ∀ q j, ¬ M q j → r.2 q j = Ib q j := by
        intro x9 I8 fI8 hf
        subst ek7
        obtain ⟨x10, -, hf⟩ := of_zl hf
        obtain ⟨x11, -, hf⟩ := of_zl hf
        exact hR_ x10 x11 I8 fI8 hf
      rcases of_ite hf with ⟨_, hf⟩ | ⟨_, hf⟩
      · exact hk7 0 I0 fI0 hf
      · obtain ⟨x12, -, hf⟩ := of_zl hf
        obtain ⟨g_1, hf⟩ := of_zg hf
        exact hk7 (I0 (o0 + 1) x12.toNat) I0 fI0 hf
theorem fc_X_heap (M : Nat → Nat → Prop) (fu : Nat) (o0 : Nat) (a1 : Int) (a2 : Int) (I0 : IMem) {r : Int × IMem} (m_o0_1 : ∀ j, M (o0 + 1) j) (hf : f_X_heap fu o0 a1 a2 I0 = some r) : ∀ q j, ¬ M q j → r.2 q j = I0 q j := by
  unfold f_X_heap at hf
  obtain ⟨Ib, hIb⟩ : ∃ Ib : IMem, Ib = I0 := ⟨I0, rfl⟩
  rw [← hIb]
  have f0 : ∀ q j, ¬ M q j → I0 q j = Ib q j := fun q j _ => by rw [hIb]
  clear hIb
  obtain ⟨y1, I2, c_1, hf⟩ := of_zb hf
  have fI2 := fcz_t (fc_X_isIn M fu a1 1 8 I0 c_1) f0
  rcases of_ite hf with ⟨_, hf⟩ | ⟨_, hf⟩
  · cases hf; exact fI2
  · obtain ⟨y4, I5, c_2, hf⟩ := of_zb hf
    have fI5 := fcz_t (fc_X_isIn M fu a2 0 9 I2 c_2) fI2
    rcases of_ite hf with ⟨_, hf⟩ | ⟨_, hf⟩
    · cases hf; exact fI5
    · refine fc_X_heap_27 M fu _ o0 a1 a2 ?_ fu a2 1 I5 fI5 hf
      · intro x14 I13 fI13 hf
        rcases of_ite hf with ⟨_, hf⟩ | ⟨_, hf⟩
        · cases hf; exact fI13
        · obtain ⟨x16, -, hf⟩ := of_zl hf
          obtain ⟨g_3, hf⟩ := of_zg hf
          obtain ⟨I15, fI15, hf⟩ := fcz_w (m_o0_1 _) fI13 hf
          cases hf; exact fI15
theorem fc_X_greatest_3 (M : Nat → Nat → Prop) (fu : Nat) {r : Int × IMem} {Ib : IMem} (o0 : Nat) : ∀ (m : Nat) (w1 : Int) (I0 : IMem), (∀ q j, ¬ M q j → I0 q j = Ib q j) → f_X_greatest_3 fu o0 m w1 I0 = some r → ∀ q j, ¬ M q j → r.2 q j = Ib q j := by
  intro m
  induction m with
  | zero => intro w1 I0 _ hf; cases hf
  | succ m hR_ =>
    intro w1 I0 fI0 hf
    replace hf : fb_X_greatest_3 fu o0 (f_X_greatest_3 fu o0 m) w1 I0 = some r := hf
    unfold fb_X_greatest_3 at hf
    rcases of_ite hf with ⟨_, hf⟩ | ⟨_, hf⟩
    · obtain ⟨g_1, hf⟩ := of_zg hf
      rcases of_ite hf with ⟨_, hf⟩ | ⟨_, hf⟩
      · cases hf; exact fI0
      · obtain ⟨x1, -, hf⟩ := of_zl hf
        exact hR_ x1 I0 fI0 hf
    · cases hf; exact fI0
theorem fc_X_greatest (M : Nat → Nat → Prop) (fu : Nat) (o0 : Nat) (I0 : IMem) {r : Int × IMem} (hf : f_X_greatest fu o0 I0 = some r) : ∀ q j, ¬ M q j → r.2 q j = I0 q j := by
  unfold f_X_greatest at hf
  obtain ⟨Ib, hIb⟩ : ∃ Ib : IMem, Ib = I0 := ⟨I0, rfl⟩
  rw [← hIb]
  have f0 : ∀ q j, ¬ M q j → I0 q j = Ib q j := fun q j _ => by rw [hIb]
  clear hIb
  refine fc_X_greatest_3 M fu o0 fu 8 I0 f0 hf
theorem fc_X_number0_4 (M : Nat → Nat → Prop) (fu : Nat) {r : Int × IMem} {Ib : IMem} (o0 : Nat) : ∀ (m : Nat) (w1 : Int) (w2 : Int) (I0 : IMem), (∀ q j, ¬ M q j → I0 q j = Ib q j) → f_X_number0_4 fu o0 m w1 w2 I0 = some r → ∀ q j, ¬ M q j → r.2 q j = Ib q j := by
  intro m
  induction m with
  | zero => intro w1 w2 I0 _ hf; cases hf
  | succ m hR_ =>
    intro w1 w2 I0 fI0 hf
    replace hf : fb_X_number0_4 fu o0 (f_X_number0_4 fu o0 m) w1 w2 I0 = some r := hf
    unfold fb_X_number0_4 at hf
    rcases of_ite hf with ⟨_, hf⟩ | ⟨_, hf⟩
    · cases hf; exact fI0
    · obtain ⟨g_1, hf⟩ := of_zg hf
      obtain ⟨g_2, hf⟩ := of_zg hf
      obtain ⟨x1, -, hf⟩ := of_zl hf
      obtain ⟨x2, -, hf⟩ := of_zl hf
      exact hR_ x1 x2 I0 fI0 hf
theorem fc_X_number0 (M : Nat → Nat → Prop) (fu : Nat) (o0 : Nat) (I0 : IMem) {r : Int × IMem} (hf : f_X_number0 fu o0 I0 = some r) : ∀ q j, ¬ M q j → r.2 q j = I0 q j := by
  unfold f_X_number0 at hf
  obtain ⟨Ib, hIb⟩ : ∃ Ib : IMem, Ib = I0 := ⟨I0, rfl⟩
  rw [← hIb]
  have f0 : ∀ q j, ¬ M q j → I0 q j = Ib q j := fun q j _ => by rw [hIb]
  clear hIb
  refine fc_X_number0_4 M fu o0 fu 0 1 I0 f0 hf
theorem fc_gXN (M : Nat → Nat → Prop) (fu : Nat) : ∀ n : Nat, (∀ (o0 : Nat) (I0 : IMem) (r : Int × IMem), (∀ j, M (o0 + 18) j) → (∀ j, M (o0 + 19) j) → (gXN fu n).1 o0 I0 = some r → ∀ q j, ¬ M q j → r.2 q j = I0 q j) ∧ (∀ (o0 : Nat) (a1 : Int) (a2 : Int) (I0 : IMem) (r : Int × IMem), (∀ j, M (o0 + 18) j) → (∀ j, M (o0 + 19) j) → (gXN fu n).2 o0 a1 a2 I0 = some r → ∀ q j, ¬ M q j → r.2 q j = I0 q j) := by
  intro n
  induction n with
  | zero => exact ⟨(fun _ _ r _ _ hf => by cases hf), (fun _ _ _ _ r _ _ hf => by cases hf)⟩
  | succ n hR =>
    refine ⟨?_, ?_⟩
    · intro o0 I0 r m_o0_18 m_o0_19 hf
      replace hf : fb_X_needs fu (gXN fu n) o0 I0 = some r := hf
      unfold fb_X_needs at hf
      obtain ⟨Ib, hIb⟩ : ∃ Ib : IMem, Ib = I0 := ⟨I0, rfl⟩
      rw [← hIb]
      have f0 : ∀ q j, ¬ M q j → I0 q j = Ib q j := fun q j _ => by rw [hIb]
      clear hIb
      obtain ⟨y1, I2, c_1, hf⟩ := of_zb hf
      have fI2 := fcz_t (fc_X_greatest M fu o0 I0 c_1) f0
      rcases of_ite hf with ⟨_, hf⟩ | ⟨_, hf⟩
      · cases hf; exact fI2
      · obtain ⟨y4, I5, c_2, hf⟩ := of_zb hf
        have fI5 := fcz_t (fc_X_number0 M fu o0 I2 c_2) fI2
        obtain ⟨g_3, hf⟩ := of_zg hf
        rcases of_ite hf with ⟨_, hf⟩ | ⟨_, hf⟩
        · obtain ⟨g_4, hf⟩ := of_zg hf
          obtain ⟨g_5, hf⟩ := of_zg hf
          obtain ⟨I7, fI7, hf⟩ := fcz_w (m_o0_19 _) fI5 hf
          obtain ⟨y8, I9, c_6, hf⟩ := of_zb hf
          have fI9 := fcz_t (hR.2 o0 y1 (wr32 ((I7 (o0 + 1) 1) - y1)) I7 _ m_o0_18 m_o0_19 c_6) fI7
          obtain ⟨x11, -, hf⟩ := of_zl hf
          obtain ⟨g_7, hf⟩ := of_zg hf
          obtain ⟨g_8, hf⟩ := of_zg hf
          obtain ⟨I12, fI12, hf⟩ := fcz_w (m_o0_19 _) fI9 hf
          obtain ⟨g_9, hf⟩ := of_zg hf
          obtain ⟨I13, fI13, hf⟩ := fcz_w (m_o0_18 _) fI12 hf
          cases hf; exact fI13
        · obtain ⟨g_10, hf⟩ := of_zg hf
          cases hf; exact fI5
    · intro o0 a1 a2 I0 r m_o0_18 m_o0_19 hf
      replace hf : fb_X_fewestBehind fu (gXN fu n) o0 a1 a2 I0 = some r := hf
      unfold fb_X_fewestBehind at hf
      obtain ⟨Ib, hIb⟩ : ∃ Ib : IMem, Ib = I0 := ⟨I0, rfl⟩
      rw [← hIb]
      have f0 : ∀ q j, ¬ M q j → I0 q j = Ib q j := fun q j _ => by rw [hIb]
      clear hIb
      rcases of_ite hf with ⟨_, hf⟩ | ⟨_, hf⟩
      · obtain ⟨y9, I10, c_1, hf⟩ := of_zb hf
        have fI10 := fcz_t (hR.1 o0 I0 _ m_o0_18 m_o0_19 c_1) f0
        cases hf; exact fI10
      · obtain ⟨y1, I2, c_2, hf⟩ := of_zb hf
        have fI2 := fcz_t (hR.2 o0 (wr32 (a1 - 1)) a2 I0 _ m_o0_18 m_o0_19 c_2) f0
        obtain ⟨g_3, hf⟩ := of_zg hf
        rcases of_ite hf with ⟨_, hf⟩ | ⟨_, hf⟩
        · cases hf; exact fI2
        · rcases of_ite hf with ⟨_, hf⟩ | ⟨_, hf⟩
          · cases hf; exact fI2
          · obtain ⟨g_4, hf⟩ := of_zg hf
            obtain ⟨g_5, hf⟩ := of_zg hf
            obtain ⟨I4, fI4, hf⟩ := fcz_w (m_o0_19 _) fI2 hf
            obtain ⟨y5, I6, c_6, hf⟩ := of_zb hf
            have fI6 := fcz_t (hR.2 o0 a1 (wr32 (a2 - a1)) I4 _ m_o0_18 m_o0_19 c_6) fI4
            obtain ⟨g_7, hf⟩ := of_zg hf
            obtain ⟨g_8, hf⟩ := of_zg hf
            obtain ⟨I8, fI8, hf⟩ := fcz_w (m_o0_19 _) fI6 hf
            rcases of_ite hf with ⟨_, hf⟩ | ⟨_, hf⟩
            · cases hf; exact fI8
            · cases hf; exact fI8
theorem fc_X_needs (M : Nat → Nat → Prop) (fu : Nat) (o0 : Nat) (I0 : IMem) {r : Int × IMem} (m_o0_18 : ∀ j, M (o0 + 18) j) (m_o0_19 : ∀ j, M (o0 + 19) j) (hf : f_X_needs fu o0 I0 = some r) : ∀ q j, ¬ M q j → r.2 q j = I0 q j := (fc_gXN M fu _).1 o0 I0 r m_o0_18 m_o0_19 hf
theorem fc_X_fewestBehind (M : Nat → Nat → Prop) (fu : Nat) (o0 : Nat) (a1 : Int) (a2 : Int) (I0 : IMem) {r : Int × IMem} (m_o0_18 : ∀ j, M (o0 + 18) j) (m_o0_19 : ∀ j, M (o0 + 19) j) (hf : f_X_fewestBehind fu o0 a1 a2 I0 = some r) : ∀ q j, ¬ M q j → r.2 q j = I0 q j := (fc_gXN M fu _).2 o0 a1 a2 I0 r m_o0_18 m_o0_19 hf
theorem fc_X_fillsFirst_48 (M : Nat → Nat → Prop) (fu : Nat) (R : (Nat → Int → Int → Int → IMem → Res)) (hR : (∀ (o0 : Nat) (a1 : Int) (a2 : Int) (a3 : Int) (I0 : IMem) (r : Int × IMem), (∀ j, M (o0 + 18) j) → (∀ j, M (o0 + 19) j) → (∀ j, M (o0 + 21) j) → R o0 a1 a2 a3 I0 = some r → ∀ q j, ¬ M q j → r.2 q j = I0 q j)) {r : Int × IMem} {Ib : IMem} (o0 : Nat) (p1 : Int) (p2 : Int) (p3 : Int) (m_o0_18 : ∀ j, M (o0 + 18) j) (m_o0_19 : ∀ j, M (o0 + 19) j) (m_o0_21 : ∀ j, M (o0 + 21) j) : ∀ (m : Nat) (w5 : Int) (I0 : IMem), (∀ q j, ¬ M q j → I0 q j = Ib q j) → f_X_fillsFirst_48 fu R o0 p1 p2 p3 m w5 I0 = some r → ∀ q j, ¬ M q j → r.2 q j = Ib q j := by
  intro m
  induction m with
  | zero => intro w5 I0 _ hf; cases hf
  | succ m hR_ =>
    intro w5 I0 fI0 hf
    replace hf : fb_X_fillsFirst_48 fu R o0 p1 p2 p3 (f_X_fillsFirst_48 fu R o0 p1 p2 p3 m) w5 I0 = some r := hf
    unfold fb_X_fillsFirst_48 at hf
    rcases of_ite hf with ⟨_, hf⟩ | ⟨_, hf⟩
    · cases hf; exact fI0
    · obtain ⟨g_1, hf⟩ := of_zg hf
      obtain ⟨g_2, hf⟩ := of_zg hf
      obtain ⟨I4, fI4, hf⟩ := fcz_w (m_o0_19 _) fI0 hf
      obtain ⟨g_3, hf⟩ := of_zg hf
      obtain ⟨g_4, hf⟩ := of_zg hf
      obtain ⟨I5, fI5, hf⟩ := fcz_w (m_o0_21 _) fI4 hf
      obtain ⟨y6, I7, c_5, hf⟩ := of_zb hf
      have fI7 := fcz_t (hR o0 (wr32 (p1 - 1)) (wr32 (p2 - (wr32 (w5 * p1)))) p3 I5 _ m_o0_18 m_o0_19 m_o0_21 c_5) fI5
      obtain ⟨g_6, hf⟩ := of_zg hf
      obtain ⟨g_7, hf⟩ := of_zg hf
      obtain ⟨I9, fI9, hf⟩ := fcz_w (m_o0_19 _) fI7 hf
      rcases of_ite hf with ⟨_, hf⟩ | ⟨_, hf⟩
      · obtain ⟨g_8, hf⟩ := of_zg hf
        obtain ⟨g_9, hf⟩ := of_zg hf
        obtain ⟨I10, fI10, hf⟩ := fcz_w (m_o0_21 _) fI9 hf
        obtain ⟨x11, -, hf⟩ := of_zl hf
        exact hR_ x11 I10 fI10 hf
      · cases hf; exact fI9
theorem fc_gXF (M : Nat → Nat → Prop) (fu : Nat) : ∀ n : Nat, (∀ (o0 : Nat) (a1 : Int) (a2 : Int) (a3 : Int) (I0 : IMem) (r : Int × IMem), (∀ j, M (o0 + 18) j) → (∀ j, M (o0 + 19) j) → (∀ j, M (o0 + 21) j) → gXF fu n o0 a1 a2 a3 I0 = some r → ∀ q j, ¬ M q j → r.2 q j = I0 q j) := by
  intro n
  induction n with
  | zero => exact (fun _ _ _ _ _ r _ _ _ hf => by cases hf)
  | succ n hR =>
    · intro o0 a1 a2 a3 I0 r m_o0_18 m_o0_19 m_o0_21 hf
      replace hf : fb_X_fillsFirst fu (gXF fu n) o0 a1 a2 a3 I0 = some r := hf
      unfold fb_X_fillsFirst at hf
      obtain ⟨Ib, hIb⟩ : ∃ Ib : IMem, Ib = I0 := ⟨I0, rfl⟩
      rw [← hIb]
      have f0 : ∀ q j, ¬ M q j → I0 q j = Ib q j := fun q j _ => by rw [hIb]
      clear hIb
      rcases of_ite hf with ⟨_, hf⟩ | ⟨_, hf⟩
      · obtain ⟨y12, I13, c_1, hf⟩ := of_zb hf
        have fI13 := fcz_t (fc_X_needs M fu o0 I0 m_o0_18 m_o0_19 c_1) f0
        rcases of_ite hf with ⟨_, hf⟩ | ⟨_, hf⟩
        · cases hf; exact fI13
        · cases hf; exact fI13
      · obtain ⟨g_2, hf⟩ := of_zg hf
        obtain ⟨g_3, hf⟩ := of_zg hf
        obtain ⟨k1, ek1, hf⟩ := of_zj hf
        have hk1 : ∀ (x3 : Int) (I2 : IMem), (∀ q j, ¬ M q j → I2 q j = Ib q j) → k1 x3 I2 = some r → ∀ q j, ¬ M q j → r.2 q j = Ib q j := by
          intro x3 I2 fI2 hf
          subst ek1
          refine fc_X_fillsFirst_48 M fu _ hR o0 a1 a2 a3 m_o0_18 m_o0_19 m_o0_21 fu x3 I2 fI2 hf
        rcases of_ite hf with ⟨_, hf⟩ | ⟨_, hf⟩
        · obtain ⟨g_4, hf⟩ := of_zg hf
          exact hk1 (wdiv a2 a1) I0 f0 hf
        · obtain ⟨g_5, hf⟩ := of_zg hf
          exact hk1 (I0 (o0 + 19) a1.toNat) I0 f0 hf
theorem fc_X_fillsFirst (M : Nat → Nat → Prop) (fu : Nat) (o0 : Nat) (a1 : Int) (a2 : Int) (a3 : Int) (I0 : IMem) {r : Int × IMem} (m_o0_18 : ∀ j, M (o0 + 18) j) (m_o0_19 : ∀ j, M (o0 + 19) j) (m_o0_21 : ∀ j, M (o0 + 21) j) (hf : f_X_fillsFirst fu o0 a1 a2 a3 I0 = some r) : ∀ q j, ¬ M q j → r.2 q j = I0 q j := (fc_gXF M fu _) o0 a1 a2 a3 I0 r m_o0_18 m_o0_19 m_o0_21 hf
theorem fc_X_fewest_16 (M : Nat → Nat → Prop) (fu : Nat) {r : Int × IMem} {Ib : IMem} (k_89 : Int → IMem → Res) (o0 : Nat) (p1 : Int) (m_o0_19 : ∀ j, M (o0 + 19) j) (m_o0_20 : ∀ j, M (o0 + 20) j) (m_o0_21 : ∀ j, M (o0 + 21) j) (hk_89 : ∀ (z0 : Int) (I9 : IMem), (∀ q j, ¬ M q j → I9 q j = Ib q j) → k_89 z0 I9 = some r → ∀ q j, ¬ M q j → r.2 q j = Ib q j) : ∀ (m : Nat) (w2 : Int) (w3 : Int) (I0 : IMem), (∀ q j, ¬ M q j → I0 q j = Ib q j) → f_X_fewest_16 fu k_89 o0 p1 m w2 w3 I0 = some r → ∀ q j, ¬ M q j → r.2 q j = Ib q j := by
  intro m
  induction m with
  | zero => intro w2 w3 I0 _ hf; cases hf
  | succ m hR_ =>
    intro w2 w3 I0 fI0 hf
    replace hf : fb_X_fewest_16 fu k_89 o0 p1 (f_X_fewest_16 fu k_89 o0 p1 m) w2 w3 I0 = some r := hf
    unfold fb_X_fewest_16 at hf
    rcases of_ite hf with ⟨_, hf⟩ | ⟨_, hf⟩
    · exact hk_89 w2 I0 fI0 hf
    · obtain ⟨x4, -, hf⟩ := of_zl hf
      obtain ⟨g_1, hf⟩ := of_zg hf
      obtain ⟨g_2, hf⟩ := of_zg hf
      obtain ⟨I5, fI5, hf⟩ := fcz_w (m_o0_19 _) fI0 hf
      obtain ⟨g_3, hf⟩ := of_zg hf
      obtain ⟨I6, fI6, hf⟩ := fcz_w (m_o0_21 _) fI5 hf
      obtain ⟨g_4, hf⟩ := of_zg hf
      obtain ⟨I7, fI7, hf⟩ := fcz_w (m_o0_20 _) fI6 hf
      obtain ⟨g_5, hf⟩ := of_zg hf
      obtain ⟨x8, -, hf⟩ := of_zl hf
      obtain ⟨g_6, hf⟩ := of_zg hf
      obtain ⟨k9, ek9, hf⟩ := of_zj hf
      have hk9 : ∀  (I10 : IMem), (∀ q j, ¬ M q j → I10 q j = Ib q j) → k9 I10 = some r → ∀ q j, ¬ M q j → r.2 q j = Ib q j := by
        intro I10 fI10 hf
        subst ek9
        obtain ⟨x11, -, hf⟩ := of_zl hf
        exact hR_ x8 x11 I10 fI10 hf
      rcases of_ite hf with ⟨_, hf⟩ | ⟨_, hf⟩
      · rcases of_ite hf with ⟨_, hf⟩ | ⟨_, hf⟩
        · cases hf; exact fI7
        · exact hk9 I7 fI7 hf
      · exact hk9 I7 fI7 hf
theorem fc_X_fewest_91 (M : Nat → Nat → Prop) (fu : Nat) {r : Int × IMem} {Ib : IMem} (k_109 : IMem → Res) (o0 : Nat) (p1 : Int) (p2 : Int) (m_o0_18 : ∀ j, M (o0 + 18) j) (hk_109 : ∀ (I9 : IMem), (∀ q j, ¬ M q j → I9 q j = Ib q j) → k_109 I9 = some r → ∀ q j, ¬ M q j → r.2 q j = Ib q j) : ∀ (m : Nat) (w3 : Int) (I0 : IMem), (∀ q j, ¬ M q j → I0 q j = Ib q j) → f_X_fewest_91 fu k_109 o0 p1 p2 m w3 I0 = some r → ∀ q j, ¬ M q j → r.2 q j = Ib q j := by
  intro m
  induction m with
  | zero => intro w3 I0 _ hf; cases hf
  | succ m hR_ =>
    intro w3 I0 fI0 hf
    replace hf : fb_X_fewest_91 fu k_109 o0 p1 p2 (f_X_fewest_91 fu k_109 o0 p1 p2 m) w3 I0 = some r := hf
    unfold fb_X_fewest_91 at hf
    rcases of_ite hf with ⟨_, hf⟩ | ⟨_, hf⟩
    · obtain ⟨g_1, hf⟩ := of_zg hf
      obtain ⟨I14, fI14, hf⟩ := fcz_w (m_o0_18 _) fI0 hf
      obtain ⟨x15, -, hf⟩ := of_zl hf
      exact hR_ x15 I14 fI14 hf
    · exact hk_109 I0 fI0 hf
theorem fc_X_fewest (M : Nat → Nat → Prop) (fu : Nat) (o0 : Nat) (a1 : Int) (I0 : IMem) {r : Int × IMem} (m_o0_18 : ∀ j, M (o0 + 18) j) (m_o0_19 : ∀ j, M (o0 + 19) j) (m_o0_20 : ∀ j, M (o0 + 20) j) (m_o0_21 : ∀ j, M (o0 + 21) j) (hf : f_X_fewest fu o0 a1 I0 = some r) : ∀ q j, ¬ M q j → r.2 q j = I0 q j := by
  unfold f_X_fewest at hf
  obtain ⟨Ib, hIb⟩ : ∃ Ib : IMem, Ib = I0 := ⟨I0, rfl⟩
  rw [← hIb]
  have f0 : ∀ q j, ¬ M q j → I0 q j = Ib q j := fun q j _ => by rw [hIb]
  clear hIb
  obtain ⟨y1, I2, c_1, hf⟩ := of_zb hf
  have fI2 := fcz_t (fc_X_isIn M fu a1 0 8 I0 c_1) f0
  rcases of_ite hf with ⟨_, hf⟩ | ⟨_, hf⟩
  · cases hf; exact fI2
  · refine fc_X_fewest_16 M fu _ o0 a1 m_o0_19 m_o0_20 m_o0_21 ?_ fu 1 1 I2 fI2 hf
    · intro x13 I12 fI12 hf
      refine fc_X_fewest_91 M fu _ o0 a1 x13 m_o0_18 ?_ fu 0 I12 fI12 hf
      · intro I16 fI16 hf
        obtain ⟨y17, I18, c_2, hf⟩ := of_zb hf
        have fI18 := fcz_t (fc_X_needs M fu o0 I16 m_o0_18 m_o0_19 c_2) fI16
        rcases of_ite hf with ⟨_, hf⟩ | ⟨_, hf⟩
        · cases hf; exact fI18
        · rcases of_ite hf with ⟨_, hf⟩ | ⟨_, hf⟩
          · cases hf; exact fI18
          · obtain ⟨y20, I21, c_3, hf⟩ := of_zb hf
            have fI21 := fcz_t (fc_X_greatest M fu o0 I18 c_3) fI18
            obtain ⟨g_4, hf⟩ := of_zg hf
            obtain ⟨g_5, hf⟩ := of_zg hf
            obtain ⟨I23, fI23, hf⟩ := fcz_w (m_o0_19 _) fI21 hf
            obtain ⟨g_6, hf⟩ := of_zg hf
            obtain ⟨I24, fI24, hf⟩ := fcz_w (m_o0_21 _) fI23 hf
            obtain ⟨y25, I26, c_7, hf⟩ := of_zb hf
            have fI26 := fcz_t (fc_X_fillsFirst M fu o0 y20 (wr32 ((I24 (o0 + 1) 1) - y20)) (wr32 (y17 - 1)) I24 m_o0_18 m_o0_19 m_o0_21 c_7) fI24
            rcases of_ite hf with ⟨_, hf⟩ | ⟨_, hf⟩
            · cases hf; exact fI26
            · obtain ⟨g_8, hf⟩ := of_zg hf
              cases hf; exact fI26
theorem fc_X_comesBack_2 (M : Nat → Nat → Prop) (fu : Nat) {r : Int × IMem} {Ib : IMem} (k_27 : IMem → Res) (o0 : Nat) (m_o0_1 : ∀ j, M (o0 + 1) j) (hk_27 : ∀ (I9 : IMem), (∀ q j, ¬ M q j → I9 q j = Ib q j) → k_27 I9 = some r → ∀ q j, ¬ M q j → r.2 q j = Ib q j) : ∀ (m : Nat) (w1 : Int) (I0 : IMem), (∀ q j, ¬ M q j → I0 q j = Ib q j) → f_X_comesBack_2 fu k_27 o0 m w1 I0 = some r → ∀ q j, ¬ M q j → r.2 q j = Ib q j := by
  intro m
  induction m with
  | zero => intro w1 I0 _ hf; cases hf
  | succ m hR_ =>
    intro w1 I0 fI0 hf
    replace hf : fb_X_comesBack_2 fu k_27 o0 (f_X_comesBack_2 fu k_27 o0 m) w1 I0 = some r := hf
    unfold fb_X_comesBack_2 at hf
    rcases of_ite hf with ⟨_, hf⟩ | ⟨_, hf⟩
    · obtain ⟨g_1, hf⟩ := of_zg hf
      obtain ⟨g_2, hf⟩ := of_zg hf
      obtain ⟨I1, fI1, hf⟩ := fcz_w (m_o0_1 _) fI0 hf
      obtain ⟨x2, -, hf⟩ := of_zl hf
      exact hR_ x2 I1 fI1 hf
    · exact hk_27 I0 fI0 hf
theorem fc_X_comesBack_29 (M : Nat → Nat → Prop) (fu : Nat) {r : Int × IMem} {Ib : IMem} (k_54 : IMem → Res) (o0 : Nat) (m_o0_13 : ∀ j, M (o0 + 13) j) (hk_54 : ∀ (I9 : IMem), (∀ q j, ¬ M q j → I9 q j = Ib q j) → k_54 I9 = some r → ∀ q j, ¬ M q j → r.2 q j = Ib q j) : ∀ (m : Nat) (w1 : Int) (I0 : IMem), (∀ q j, ¬ M q j → I0 q j = Ib q j) → f_X_comesBack_29 fu k_54 o0 m w1 I0 = some r → ∀ q j, ¬ M q j → r.2 q j = Ib q j := by
  intro m
  induction m with
  | zero => intro w1 I0 _ hf; cases hf
  | succ m hR_ =>
    intro w1 I0 fI0 hf
    replace hf : fb_X_comesBack_29 fu k_54 o0 (f_X_comesBack_29 fu k_54 o0 m) w1 I0 = some r := hf
    unfold fb_X_comesBack_29 at hf
    rcases of_ite hf with ⟨_, hf⟩ | ⟨_, hf⟩
    · obtain ⟨g_1, hf⟩ := of_zg hf
      obtain ⟨g_2, hf⟩ := of_zg hf
      obtain ⟨g_3, hf⟩ := of_zg hf
      obtain ⟨I4, fI4, hf⟩ := fcz_w (m_o0_13 _) fI0 hf
      obtain ⟨x6, -, hf⟩ := of_zl hf
      exact hR_ x6 I4 fI4 hf
    · exact hk_54 I0 fI0 hf
theorem fc_X_comesBack_56 (M : Nat → Nat → Prop) (fu : Nat) {r : Int × IMem} {Ib : IMem} (k_80 : IMem → Res) (o0 : Nat) (m_o0_15 : ∀ j, M (o0 + 15) j) (hk_80 : ∀ (I9 : IMem), (∀ q j, ¬ M q j → I9 q j = Ib q j) → k_80 I9 = some r → ∀ q j, ¬ M q j → r.2 q j = Ib q j) : ∀ (m : Nat) (w1 : Int) (I0 : IMem), (∀ q j, ¬ M q j → I0 q j = Ib q j) → f_X_comesBack_56 fu k_80 o0 m w1 I0 = some r → ∀ q j, ¬ M q j → r.2 q j = Ib q j := by
  intro m
  induction m with
  | zero => intro w1 I0 _ hf; cases hf
  | succ m hR_ =>
    intro w1 I0 fI0 hf
    replace hf : fb_X_comesBack_56 fu k_80 o0 (f_X_comesBack_56 fu k_80 o0 m) w1 I0 = some r := hf
    unfold fb_X_comesBack_56 at hf
    rcases of_ite hf with ⟨_, hf⟩ | ⟨_, hf⟩
    · obtain ⟨g_1, hf⟩ := of_zg hf
      obtain ⟨g_2, hf⟩ := of_zg hf
      obtain ⟨I8, fI8, hf⟩ := fcz_w (m_o0_15 _) fI0 hf
      obtain ⟨x9, -, hf⟩ := of_zl hf
      exact hR_ x9 I8 fI8 hf
    · exact hk_80 I0 fI0 hf
theorem fc_X_comesBack (M : Nat → Nat → Prop) (fu : Nat) (o0 : Nat) (I0 : IMem) {r : Int × IMem} (m_o0_1 : ∀ j, M (o0 + 1) j) (m_o0_13 : ∀ j, M (o0 + 13) j) (m_o0_15 : ∀ j, M (o0 + 15) j) (m_o0_0c35 : M o0 35) (hf : f_X_comesBack fu o0 I0 = some r) : ∀ q j, ¬ M q j → r.2 q j = I0 q j := by
  unfold f_X_comesBack at hf
  obtain ⟨Ib, hIb⟩ : ∃ Ib : IMem, Ib = I0 := ⟨I0, rfl⟩
  rw [← hIb]
  have f0 : ∀ q j, ¬ M q j → I0 q j = Ib q j := fun q j _ => by rw [hIb]
  clear hIb
  refine fc_X_comesBack_2 M fu _ o0 m_o0_1 ?_ fu 0 I0 f0 hf
  · intro I3 fI3 hf
    refine fc_X_comesBack_29 M fu _ o0 m_o0_13 ?_ fu 0 I3 fI3 hf
    · intro I7 fI7 hf
      refine fc_X_comesBack_56 M fu _ o0 m_o0_15 ?_ fu 0 I7 fI7 hf
      · intro I10 fI10 hf
        obtain ⟨I11, fI11, hf⟩ := fcz_w m_o0_0c35 fI10 hf
        cases hf; exact fI11
theorem fc_X_longest_4 (M : Nat → Nat → Prop) (fu : Nat) {r : Int × IMem} {Ib : IMem} (o0 : Nat) : ∀ (m : Nat) (w1 : Int) (w2 : Int) (I0 : IMem), (∀ q j, ¬ M q j → I0 q j = Ib q j) → f_X_longest_4 fu o0 m w1 w2 I0 = some r → ∀ q j, ¬ M q j → r.2 q j = Ib q j := by
  intro m
  induction m with
  | zero => intro w1 w2 I0 _ hf; cases hf
  | succ m hR_ =>
    intro w1 w2 I0 fI0 hf
    replace hf : fb_X_longest_4 fu o0 (f_X_longest_4 fu o0 m) w1 w2 I0 = some r := hf
    unfold fb_X_longest_4 at hf
    rcases of_ite hf with ⟨_, hf⟩ | ⟨_, hf⟩
    · cases hf; exact fI0
    · obtain ⟨x1, -, hf⟩ := of_zl hf
      obtain ⟨g_1, hf⟩ := of_zg hf
      obtain ⟨k2, ek2, hf⟩ := of_zj hf
      have hk2 : ∀ (x4 : Int) (I3 : IMem), (∀ q j, ¬ M q j → I3 q j = Ib q j) → k2 x4 I3 = some r → ∀ q j, ¬ M q j → r.2 q j = Ib q j := by
        intro x4 I3 fI3 hf
        subst ek2
        obtain ⟨x5, -, hf⟩ := of_zl hf
        exact hR_ x4 x5 I3 fI3 hf
      rcases of_ite hf with ⟨_, hf⟩ | ⟨_, hf⟩
      · obtain ⟨x6, -, hf⟩ := of_zl hf
        obtain ⟨g_2, hf⟩ := of_zg hf
        exact hk2 (I0 (o0 + 1) x6.toNat) I0 fI0 hf
      · exact hk2 w1 I0 fI0 hf
theorem fc_X_longest (M : Nat → Nat → Prop) (fu : Nat) (o0 : Nat) (I0 : IMem) {r : Int × IMem} (hf : f_X_longest fu o0 I0 = some r) : ∀ q j, ¬ M q j → r.2 q j = I0 q j := by
  unfold f_X_longest at hf
  obtain ⟨Ib, hIb⟩ : ∃ Ib : IMem, Ib = I0 := ⟨I0, rfl⟩
  rw [← hIb]
  have f0 : ∀ q j, ¬ M q j → I0 q j = Ib q j := fun q j _ => by rw [hIb]
  clear hIb
  refine fc_X_longest_4 M fu o0 fu 0 1 I0 f0 hf
theorem fc_X_setsOut_2 (M : Nat → Nat → Prop) (fu : Nat) {r : Int × IMem} {Ib : IMem} (k_27 : IMem → Res) (o0 : Nat) (m_o0_3 : ∀ j, M (o0 + 3) j) (hk_27 : ∀ (I9 : IMem), (∀ q j, ¬ M q j → I9 q j = Ib q j) → k_27 I9 = some r → ∀ q j, ¬ M q j → r.2 q j = Ib q j) : ∀ (m : Nat) (w1 : Int) (I0 : IMem), (∀ q j, ¬ M q j → I0 q j = Ib q j) → f_X_setsOut_2 fu k_27 o0 m w1 I0 = some r → ∀ q j, ¬ M q j → r.2 q j = Ib q j := by
  intro m
  induction m with
  | zero => intro w1 I0 _ hf; cases hf
  | succ m hR_ =>
    intro w1 I0 fI0 hf
    replace hf : fb_X_setsOut_2 fu k_27 o0 (f_X_setsOut_2 fu k_27 o0 m) w1 I0 = some r := hf
    unfold fb_X_setsOut_2 at hf
    rcases of_ite hf with ⟨_, hf⟩ | ⟨_, hf⟩
    · obtain ⟨g_1, hf⟩ := of_zg hf
      obtain ⟨g_2, hf⟩ := of_zg hf
      obtain ⟨I1, fI1, hf⟩ := fcz_w (m_o0_3 _) fI0 hf
      obtain ⟨x2, -, hf⟩ := of_zl hf
      exact hR_ x2 I1 fI1 hf
    · exact hk_27 I0 fI0 hf
theorem fc_X_setsOut_29 (M : Nat → Nat → Prop) (fu : Nat) {r : Int × IMem} {Ib : IMem} (k_54 : IMem → Res) (o0 : Nat) (m_o0_23 : ∀ j, M (o0 + 23) j) (hk_54 : ∀ (I9 : IMem), (∀ q j, ¬ M q j → I9 q j = Ib q j) → k_54 I9 = some r → ∀ q j, ¬ M q j → r.2 q j = Ib q j) : ∀ (m : Nat) (w1 : Int) (I0 : IMem), (∀ q j, ¬ M q j → I0 q j = Ib q j) → f_X_setsOut_29 fu k_54 o0 m w1 I0 = some r → ∀ q j, ¬ M q j → r.2 q j = Ib q j := by
  intro m
  induction m with
  | zero => intro w1 I0 _ hf; cases hf
  | succ m hR_ =>
    intro w1 I0 fI0 hf
    replace hf : fb_X_setsOut_29 fu k_54 o0 (f_X_setsOut_29 fu k_54 o0 m) w1 I0 = some r := hf
    unfold fb_X_setsOut_29 at hf
    rcases of_ite hf with ⟨_, hf⟩ | ⟨_, hf⟩
    · obtain ⟨g_1, hf⟩ := of_zg hf
      obtain ⟨g_2, hf⟩ := of_zg hf
      obtain ⟨g_3, hf⟩ := of_zg hf
      obtain ⟨I4, fI4, hf⟩ := fcz_w (m_o0_23 _) fI0 hf
      obtain ⟨x6, -, hf⟩ := of_zl hf
      exact hR_ x6 I4 fI4 hf
    · exact hk_54 I0 fI0 hf
theorem fc_X_setsOut_56 (M : Nat → Nat → Prop) (fu : Nat) {r : Int × IMem} {Ib : IMem} (k_80 : IMem → Res) (o0 : Nat) (m_o0_24 : ∀ j, M (o0 + 24) j) (hk_80 : ∀ (I9 : IMem), (∀ q j, ¬ M q j → I9 q j = Ib q j) → k_80 I9 = some r → ∀ q j, ¬ M q j → r.2 q j = Ib q j) : ∀ (m : Nat) (w1 : Int) (I0 : IMem), (∀ q j, ¬ M q j → I0 q j = Ib q j) → f_X_setsOut_56 fu k_80 o0 m w1 I0 = some r → ∀ q j, ¬ M q j → r.2 q j = Ib q j := by
  intro m
  induction m with
  | zero => intro w1 I0 _ hf; cases hf
  | succ m hR_ =>
    intro w1 I0 fI0 hf
    replace hf : fb_X_setsOut_56 fu k_80 o0 (f_X_setsOut_56 fu k_80 o0 m) w1 I0 = some r := hf
    unfold fb_X_setsOut_56 at hf
    rcases of_ite hf with ⟨_, hf⟩ | ⟨_, hf⟩
    · obtain ⟨g_1, hf⟩ := of_zg hf
      obtain ⟨g_2, hf⟩ := of_zg hf
      obtain ⟨I8, fI8, hf⟩ := fcz_w (m_o0_24 _) fI0 hf
      obtain ⟨x9, -, hf⟩ := of_zl hf
      exact hR_ x9 I8 fI8 hf
    · exact hk_80 I0 fI0 hf
theorem fc_X_setsOut (M : Nat → Nat → Prop) (fu : Nat) (o0 : Nat) (I0 : IMem) {r : Int × IMem} (m_o0_3 : ∀ j, M (o0 + 3) j) (m_o0_23 : ∀ j, M (o0 + 23) j) (m_o0_24 : ∀ j, M (o0 + 24) j) (m_o0_0c50 : M o0 50) (hf : f_X_setsOut fu o0 I0 = some r) : ∀ q j, ¬ M q j → r.2 q j = I0 q j := by
  unfold f_X_setsOut at hf
  obtain ⟨Ib, hIb⟩ : ∃ Ib : IMem, Ib = I0 := ⟨I0, rfl⟩
  rw [← hIb]
  have f0 : ∀ q j, ¬ M q j → I0 q j = Ib q j := fun q j _ => by rw [hIb]
  clear hIb
  refine fc_X_setsOut_2 M fu _ o0 m_o0_3 ?_ fu 0 I0 f0 hf
  · intro I3 fI3 hf
    refine fc_X_setsOut_29 M fu _ o0 m_o0_23 ?_ fu 0 I3 fI3 hf
    · intro I7 fI7 hf
      refine fc_X_setsOut_56 M fu _ o0 m_o0_24 ?_ fu 0 I7 fI7 hf
      · intro I10 fI10 hf
        obtain ⟨I11, fI11, hf⟩ := fcz_w m_o0_0c50 fI10 hf
        cases hf; exact fI11
theorem fc_X_sum_4 (M : Nat → Nat → Prop) (fu : Nat) {r : Int × IMem} {Ib : IMem} (o0 : Nat) (p1 : Int) : ∀ (m : Nat) (w2 : Int) (w3 : Int) (I0 : IMem), (∀ q j, ¬ M q j → I0 q j = Ib q j) → f_X_sum_4 fu o0 p1 m w2 w3 I0 = some r → ∀ q j, ¬ M q j → r.2 q j = Ib q j := by
  intro m
  induction m with
  | zero => intro w2 w3 I0 _ hf; cases hf
  | succ m hR_ =>
    intro w2 w3 I0 fI0 hf
    replace hf : fb_X_sum_4 fu o0 p1 (f_X_sum_4 fu o0 p1 m) w2 w3 I0 = some r := hf
    unfold fb_X_sum_4 at hf
    rcases of_ite hf with ⟨_, hf⟩ | ⟨_, hf⟩
    · cases hf; exact fI0
    · obtain ⟨x1, -, hf⟩ := of_zl hf
      obtain ⟨g_1, hf⟩ := of_zg hf
      obtain ⟨x2, -, hf⟩ := of_zl hf
      obtain ⟨x3, -, hf⟩ := of_zl hf
      exact hR_ x2 x3 I0 fI0 hf
theorem fc_X_sum (M : Nat → Nat → Prop) (fu : Nat) (o0 : Nat) (a1 : Int) (I0 : IMem) {r : Int × IMem} (hf : f_X_sum fu o0 a1 I0 = some r) : ∀ q j, ¬ M q j → r.2 q j = I0 q j := by
  unfold f_X_sum at hf
  obtain ⟨Ib, hIb⟩ : ∃ Ib : IMem, Ib = I0 := ⟨I0, rfl⟩
  rw [← hIb]
  have f0 : ∀ q j, ¬ M q j → I0 q j = Ib q j := fun q j _ => by rw [hIb]
  clear hIb
  refine fc_X_sum_4 M fu o0 a1 fu 0 1 I0 f0 hf
theorem fc_X_leads_37 (M : Nat → Nat → Prop) (fu : Nat) {r : Int × IMem} {Ib : IMem} (k_55 : IMem → Res) (o0 : Nat) (p4 : Int) (p5 : Int) (m_o0_1 : ∀ j, M (o0 + 1) j) (m_o0_7 : ∀ j, M (o0 + 7) j) (m_o0_9 : ∀ j, M (o0 + 9) j) (m_o0_10 : ∀ j, M (o0 + 10) j) (m_o0_11 : ∀ j, M (o0 + 11) j) (m_o0_12 : ∀ j, M (o0 + 12) j) (m_o0_13 : ∀ j, M (o0 + 13) j) (m_o0_14 : ∀ j, M (o0 + 14) j) (m_o0_0c24 : M o0 24) (m_o0_0c30 : M o0 30) (m_o0_0c31 : M o0 31) (m_o0_0c32 : M o0 32) (m_o0_0c33 : M o0 33) (m_o0_0c34 : M o0 34) (m_o0_0c35 : M o0 35) (m_o0_8c1 : M (o0 + 8) 1) (m_o0_8c2 : M (o0 + 8) 2) (m_o0_8c3 : M (o0 + 8) 3) (m_o0_8c4 : M (o0 + 8) 4) (m_o0_8c5 : M (o0 + 8) 5) (m_o0_8c6 : M (o0 + 8) 6) (m_o0_8c7 : M (o0 + 8) 7) (m_o0_8c8 : M (o0 + 8) 8) (m_o0_8c9 : M (o0 + 8) 9) (m_o0_8c10 : M (o0 + 8) 10) (m_o0_8c11 : M (o0 + 8) 11) (hk_55 : ∀ (I9 : IMem), (∀ q j, ¬ M q j → I9 q j = Ib q j) → k_55 I9 = some r → ∀ q j, ¬ M q j → r.2 q j = Ib q j) : ∀ (m : Nat) (w6 : Int) (I0 : IMem), (∀ q j, ¬ M q j → I0 q j = Ib q j) → f_X_leads_37 fu k_55 o0 p4 p5 m w6 I0 = some r → ∀ q j, ¬ M q j → r.2 q j = Ib q j := by
  intro m
  induction m with
  | zero => intro w6 I0 _ hf; cases hf
  | succ m hR_ =>
    intro w6 I0 fI0 hf
    replace hf : fb_X_leads_37 fu k_55 o0 p4 p5 (f_X_leads_37 fu k_55 o0 p4 p5 m) w6 I0 = some r := hf
    unfold fb_X_leads_37 at hf
    rcases of_ite hf with ⟨_, hf⟩ | ⟨_, hf⟩
    · obtain ⟨y10, I11, c_1, hf⟩ := of_zb hf
      have fI11 := fcz_t (fc_X_turn M fu o0 I0 m_o0_1 m_o0_7 m_o0_9 m_o0_10 m_o0_11 m_o0_12 m_o0_13 m_o0_14 m_o0_0c24 m_o0_0c30 m_o0_0c31 m_o0_0c32 m_o0_0c33 m_o0_0c34 m_o0_0c35 m_o0_8c1 m_o0_8c2 m_o0_8c3 m_o0_8c4 m_o0_8c5 m_o0_8c6 m_o0_8c7 m_o0_8c8 m_o0_8c9 m_o0_8c10 m_o0_8c11 c_1) fI0
      obtain ⟨x13, -, hf⟩ := of_zl hf
      exact hR_ x13 I11 fI11 hf
    · exact hk_55 I0 fI0 hf
theorem fc_X_leads (M : Nat → Nat → Prop) (fu : Nat) (o0 : Nat) (a1 : Int) (a2 : Int) (a3 : Int) (a4 : Int) (I0 : IMem) {r : Int × IMem} (m_o0_1 : ∀ j, M (o0 + 1) j) (m_o0_3 : ∀ j, M (o0 + 3) j) (m_o0_7 : ∀ j, M (o0 + 7) j) (m_o0_9 : ∀ j, M (o0 + 9) j) (m_o0_10 : ∀ j, M (o0 + 10) j) (m_o0_11 : ∀ j, M (o0 + 11) j) (m_o0_12 : ∀ j, M (o0 + 12) j) (m_o0_13 : ∀ j, M (o0 + 13) j) (m_o0_14 : ∀ j, M (o0 + 14) j) (m_o0_15 : ∀ j, M (o0 + 15) j) (m_o0_23 : ∀ j, M (o0 + 23) j) (m_o0_24 : ∀ j, M (o0 + 24) j) (m_o0_0c24 : M o0 24) (m_o0_0c30 : M o0 30) (m_o0_0c31 : M o0 31) (m_o0_0c32 : M o0 32) (m_o0_0c33 : M o0 33) (m_o0_0c34 : M o0 34) (m_o0_0c35 : M o0 35) (m_o0_0c50 : M o0 50) (m_o0_8c1 : M (o0 + 8) 1) (m_o0_8c2 : M (o0 + 8) 2) (m_o0_8c3 : M (o0 + 8) 3) (m_o0_8c4 : M (o0 + 8) 4) (m_o0_8c5 : M (o0 + 8) 5) (m_o0_8c6 : M (o0 + 8) 6) (m_o0_8c7 : M (o0 + 8) 7) (m_o0_8c8 : M (o0 + 8) 8) (m_o0_8c9 : M (o0 + 8) 9) (m_o0_8c10 : M (o0 + 8) 10) (m_o0_8c11 : M (o0 + 8) 11) (m_o0_25c0 : M (o0 + 25) 0) (m_o0_25c1 : M (o0 + 25) 1) (m_o0_25c2 : M (o0 + 25) 2) (m_o0_25c3 : M (o0 + 25) 3) (m_o0_25c4 : M (o0 + 25) 4) (m_o0_25c5 : M (o0 + 25) 5) (hf : f_X_leads fu o0 a1 a2 a3 a4 I0 = some r) : ∀ q j, ¬ M q j → r.2 q j = I0 q j := by
  unfold f_X_leads at hf
  obtain ⟨Ib, hIb⟩ : ∃ Ib : IMem, Ib = I0 := ⟨I0, rfl⟩
  rw [← hIb]
  have f0 : ∀ q j, ¬ M q j → I0 q j = Ib q j := fun q j _ => by rw [hIb]
  clear hIb
  obtain ⟨u_2, I2, c_1, hf⟩ := of_zb hf
  have fI2 := fcz_t (fc_X_setsOut M fu o0 I0 m_o0_3 m_o0_23 m_o0_24 m_o0_0c50 c_1) f0
  obtain ⟨y4, I5, c_3, hf⟩ := of_zb hf
  have fI5 := fcz_t (fc_X_sum M fu o0 90 I2 c_3) fI2
  obtain ⟨I7, fI7, hf⟩ := fcz_w (m_o0_1 6) fI5 hf
  obtain ⟨I8, fI8, hf⟩ := fcz_w (m_o0_1 5) fI7 hf
  obtain ⟨I9, fI9, hf⟩ := fcz_w (m_o0_1 1) fI8 hf
  refine fc_X_leads_37 M fu _ o0 a4 y4 m_o0_1 m_o0_7 m_o0_9 m_o0_10 m_o0_11 m_o0_12 m_o0_13 m_o0_14 m_o0_0c24 m_o0_0c30 m_o0_0c31 m_o0_0c32 m_o0_0c33 m_o0_0c34 m_o0_0c35 m_o0_8c1 m_o0_8c2 m_o0_8c3 m_o0_8c4 m_o0_8c5 m_o0_8c6 m_o0_8c7 m_o0_8c8 m_o0_8c9 m_o0_8c10 m_o0_8c11 ?_ fu 0 I9 fI9 hf
  · intro I14 fI14 hf
    obtain ⟨I15, fI15, hf⟩ := fcz_w m_o0_25c0 fI14 hf
    obtain ⟨I16, fI16, hf⟩ := fcz_w m_o0_25c1 fI15 hf
    obtain ⟨y17, I18, c_4, hf⟩ := of_zb hf
    have fI18 := fcz_t (fc_X_sum M fu o0 90 I16 c_4) fI16
    obtain ⟨I20, fI20, hf⟩ := fcz_w m_o0_25c2 fI18 hf
    obtain ⟨I21, fI21, hf⟩ := fcz_w m_o0_25c3 fI20 hf
    obtain ⟨I22, fI22, hf⟩ := fcz_w m_o0_25c4 fI21 hf
    obtain ⟨y23, I24, c_5, hf⟩ := of_zb hf
    have fI24 := fcz_t (fc_X_longest M fu o0 I22 c_5) fI22
    obtain ⟨I26, fI26, hf⟩ := fcz_w m_o0_25c5 fI24 hf
    obtain ⟨u_7, I28, c_6, hf⟩ := of_zb hf
    have fI28 := fcz_t (fc_X_comesBack M fu o0 I26 m_o0_1 m_o0_13 m_o0_15 m_o0_0c35 c_6) fI26
    cases hf; exact fI28
theorem fc_X_thought (M : Nat → Nat → Prop) (fu : Nat) (o0 : Nat) (a1 : Int) (a2 : Int) (a3 : Int) (a4 : Int) (a5 : Int) (I0 : IMem) {r : Int × IMem} (m_o0_1 : ∀ j, M (o0 + 1) j) (m_o0_3 : ∀ j, M (o0 + 3) j) (m_o0_7 : ∀ j, M (o0 + 7) j) (m_o0_9 : ∀ j, M (o0 + 9) j) (m_o0_10 : ∀ j, M (o0 + 10) j) (m_o0_11 : ∀ j, M (o0 + 11) j) (m_o0_12 : ∀ j, M (o0 + 12) j) (m_o0_13 : ∀ j, M (o0 + 13) j) (m_o0_14 : ∀ j, M (o0 + 14) j) (m_o0_15 : ∀ j, M (o0 + 15) j) (m_o0_23 : ∀ j, M (o0 + 23) j) (m_o0_24 : ∀ j, M (o0 + 24) j) (m_o0_0c24 : M o0 24) (m_o0_0c30 : M o0 30) (m_o0_0c31 : M o0 31) (m_o0_0c32 : M o0 32) (m_o0_0c33 : M o0 33) (m_o0_0c34 : M o0 34) (m_o0_0c35 : M o0 35) (m_o0_0c50 : M o0 50) (m_o0_8c1 : M (o0 + 8) 1) (m_o0_8c2 : M (o0 + 8) 2) (m_o0_8c3 : M (o0 + 8) 3) (m_o0_8c4 : M (o0 + 8) 4) (m_o0_8c5 : M (o0 + 8) 5) (m_o0_8c6 : M (o0 + 8) 6) (m_o0_8c7 : M (o0 + 8) 7) (m_o0_8c8 : M (o0 + 8) 8) (m_o0_8c9 : M (o0 + 8) 9) (m_o0_8c10 : M (o0 + 8) 10) (m_o0_8c11 : M (o0 + 8) 11) (m_o0_25c0 : M (o0 + 25) 0) (m_o0_25c1 : M (o0 + 25) 1) (m_o0_25c2 : M (o0 + 25) 2) (m_o0_25c3 : M (o0 + 25) 3) (m_o0_25c4 : M (o0 + 25) 4) (m_o0_25c5 : M (o0 + 25) 5) (hf : f_X_thought fu o0 a1 a2 a3 a4 a5 I0 = some r) : ∀ q j, ¬ M q j → r.2 q j = I0 q j := by
  unfold f_X_thought at hf
  obtain ⟨Ib, hIb⟩ : ∃ Ib : IMem, Ib = I0 := ⟨I0, rfl⟩
  rw [← hIb]
  have f0 : ∀ q j, ¬ M q j → I0 q j = Ib q j := fun q j _ => by rw [hIb]
  clear hIb
  obtain ⟨y1, I2, c_1, hf⟩ := of_zb hf
  have fI2 := fcz_t (fc_X_isIn M fu a1 0 3 I0 c_1) f0
  rcases of_ite hf with ⟨_, hf⟩ | ⟨_, hf⟩
  · cases hf; exact fI2
  · obtain ⟨y4, I5, c_2, hf⟩ := of_zb hf
    have fI5 := fcz_t (fc_X_isIn M fu a2 0 99 I2 c_2) fI2
    rcases of_ite hf with ⟨_, hf⟩ | ⟨_, hf⟩
    · cases hf; exact fI5
    · obtain ⟨y7, I8, c_3, hf⟩ := of_zb hf
      have fI8 := fcz_t (fc_X_isIn M fu a3 2 8 I5 c_3) fI5
      rcases of_ite hf with ⟨_, hf⟩ | ⟨_, hf⟩
      · cases hf; exact fI8
      · obtain ⟨y10, I11, c_4, hf⟩ := of_zb hf
        have fI11 := fcz_t (fc_X_isIn M fu a4 1 40 I8 c_4) fI8
        rcases of_ite hf with ⟨_, hf⟩ | ⟨_, hf⟩
        · cases hf; exact fI11
        · obtain ⟨y13, I14, c_5, hf⟩ := of_zb hf
          have fI14 := fcz_t (fc_X_isIn M fu a5 0 5 I11 c_5) fI11
          rcases of_ite hf with ⟨_, hf⟩ | ⟨_, hf⟩
          · cases hf; exact fI14
          · obtain ⟨u_7, I17, c_6, hf⟩ := of_zb hf
            have fI17 := fcz_t (fc_X_leads M fu o0 a1 a2 a3 a4 I14 m_o0_1 m_o0_3 m_o0_7 m_o0_9 m_o0_10 m_o0_11 m_o0_12 m_o0_13 m_o0_14 m_o0_15 m_o0_23 m_o0_24 m_o0_0c24 m_o0_0c30 m_o0_0c31 m_o0_0c32 m_o0_0c33 m_o0_0c34 m_o0_0c35 m_o0_0c50 m_o0_8c1 m_o0_8c2 m_o0_8c3 m_o0_8c4 m_o0_8c5 m_o0_8c6 m_o0_8c7 m_o0_8c8 m_o0_8c9 m_o0_8c10 m_o0_8c11 m_o0_25c0 m_o0_25c1 m_o0_25c2 m_o0_25c3 m_o0_25c4 m_o0_25c5 c_6) fI14
            obtain ⟨g_8, hf⟩ := of_zg hf
            cases hf; exact fI17
theorem fc_X_price (M : Nat → Nat → Prop) (fu : Nat) (o0 : Nat) (a1 : Int) (a2 : Int) (I0 : IMem) {r : Int × IMem} (m_o0_1 : ∀ j, M (o0 + 1) j) (m_o0_3 : ∀ j, M (o0 + 3) j) (m_o0_7 : ∀ j, M (o0 + 7) j) (m_o0_9 : ∀ j, M (o0 + 9) j) (m_o0_10 : ∀ j, M (o0 + 10) j) (m_o0_11 : ∀ j, M (o0 + 11) j) (m_o0_12 : ∀ j, M (o0 + 12) j) (m_o0_13 : ∀ j, M (o0 + 13) j) (m_o0_14 : ∀ j, M (o0 + 14) j) (m_o0_15 : ∀ j, M (o0 + 15) j) (m_o0_23 : ∀ j, M (o0 + 23) j) (m_o0_24 : ∀ j, M (o0 + 24) j) (m_o0_0c24 : M o0 24) (m_o0_0c30 : M o0 30) (m_o0_0c31 : M o0 31) (m_o0_0c32 : M o0 32) (m_o0_0c33 : M o0 33) (m_o0_0c34 : M o0 34) (m_o0_0c35 : M o0 35) (m_o0_0c50 : M o0 50) (m_o0_8c1 : M (o0 + 8) 1) (m_o0_8c2 : M (o0 + 8) 2) (m_o0_8c3 : M (o0 + 8) 3) (m_o0_8c4 : M (o0 + 8) 4) (m_o0_8c5 : M (o0 + 8) 5) (m_o0_8c6 : M (o0 + 8) 6) (m_o0_8c7 : M (o0 + 8) 7) (m_o0_8c8 : M (o0 + 8) 8) (m_o0_8c9 : M (o0 + 8) 9) (m_o0_8c10 : M (o0 + 8) 10) (m_o0_8c11 : M (o0 + 8) 11) (m_o0_25c0 : M (o0 + 25) 0) (m_o0_25c1 : M (o0 + 25) 1) (m_o0_25c2 : M (o0 + 25) 2) (m_o0_25c3 : M (o0 + 25) 3) (m_o0_25c4 : M (o0 + 25) 4) (m_o0_25c5 : M (o0 + 25) 5) (hf : f_X_price fu o0 a1 a2 I0 = some r) : ∀ q j, ¬ M q j → r.2 q j = I0 q j := by
  unfold f_X_price at hf
  obtain ⟨Ib, hIb⟩ : ∃ Ib : IMem, Ib = I0 := ⟨I0, rfl⟩
  rw [← hIb]
  have f0 : ∀ q j, ¬ M q j → I0 q j = Ib q j := fun q j _ => by rw [hIb]
  clear hIb
  obtain ⟨y1, I2, c_1, hf⟩ := of_zb hf
  have fI2 := fcz_t (fc_X_isIn M fu a1 0 99 I0 c_1) f0
  rcases of_ite hf with ⟨_, hf⟩ | ⟨_, hf⟩
  · cases hf; exact fI2
  · obtain ⟨y4, I5, c_2, hf⟩ := of_zb hf
    have fI5 := fcz_t (fc_X_isIn M fu a2 1 40 I2 c_2) fI2
    rcases of_ite hf with ⟨_, hf⟩ | ⟨_, hf⟩
    · cases hf; exact fI5
    · obtain ⟨u_4, I8, c_3, hf⟩ := of_zb hf
      have fI8 := fcz_t (fc_X_leads M fu o0 (I5 (o0 + 1) 6) a1 (I5 (o0 + 1) 1) a2 I5 m_o0_1 m_o0_3 m_o0_7 m_o0_9 m_o0_10 m_o0_11 m_o0_12 m_o0_13 m_o0_14 m_o0_15 m_o0_23 m_o0_24 m_o0_0c24 m_o0_0c30 m_o0_0c31 m_o0_0c32 m_o0_0c33 m_o0_0c34 m_o0_0c35 m_o0_0c50 m_o0_8c1 m_o0_8c2 m_o0_8c3 m_o0_8c4 m_o0_8c5 m_o0_8c6 m_o0_8c7 m_o0_8c8 m_o0_8c9 m_o0_8c10 m_o0_8c11 m_o0_25c0 m_o0_25c1 m_o0_25c2 m_o0_25c3 m_o0_25c4 m_o0_25c5 c_3) fI5
      obtain ⟨x10, -, hf⟩ := of_zl hf
      obtain ⟨u_6, I12, c_5, hf⟩ := of_zb hf
      have fI12 := fcz_t (fc_X_leads M fu o0 (I8 (o0 + 1) 6) 0 (I8 (o0 + 1) 1) a2 I8 m_o0_1 m_o0_3 m_o0_7 m_o0_9 m_o0_10 m_o0_11 m_o0_12 m_o0_13 m_o0_14 m_o0_15 m_o0_23 m_o0_24 m_o0_0c24 m_o0_0c30 m_o0_0c31 m_o0_0c32 m_o0_0c33 m_o0_0c34 m_o0_0c35 m_o0_0c50 m_o0_8c1 m_o0_8c2 m_o0_8c3 m_o0_8c4 m_o0_8c5 m_o0_8c6 m_o0_8c7 m_o0_8c8 m_o0_8c9 m_o0_8c10 m_o0_8c11 m_o0_25c0 m_o0_25c1 m_o0_25c2 m_o0_25c3 m_o0_25c4 m_o0_25c5 c_5) fI8
      cases hf; exact fI12
theorem fc_X_isThere (M : Nat → Nat → Prop) (fu : Nat) (o0 : Nat) (a1 : Int) (a2 : Int) (I0 : IMem) {r : Int × IMem} (hf : f_X_isThere fu o0 a1 a2 I0 = some r) : ∀ q j, ¬ M q j → r.2 q j = I0 q j := by
  unfold f_X_isThere at hf
  obtain ⟨Ib, hIb⟩ : ∃ Ib : IMem, Ib = I0 := ⟨I0, rfl⟩
  rw [← hIb]
  have f0 : ∀ q j, ¬ M q j → I0 q j = Ib q j := fun q j _ => by rw [hIb]
  clear hIb
  obtain ⟨y1, I2, c_1, hf⟩ := of_zb hf
  have fI2 := fcz_t (fc_X_isLine M fu a1 I0 c_1) f0
  rcases of_ite hf with ⟨_, hf⟩ | ⟨_, hf⟩
  · cases hf; exact fI2
  · obtain ⟨x4, -, hf⟩ := of_zl hf
    obtain ⟨g_2, hf⟩ := of_zg hf
    obtain ⟨y5, I6, c_3, hf⟩ := of_zb hf
    have fI6 := fcz_t (fc_X_isIn M fu a2 0 (wr32 ((I2 (o0 + 1) x4.toNat) - 1)) I2 c_3) fI2
    rcases of_ite hf with ⟨_, hf⟩ | ⟨_, hf⟩
    · cases hf; exact fI6
    · cases hf; exact fI6
theorem fc_X_stillStands_10 (M : Nat → Nat → Prop) (fu : Nat) {r : Int × IMem} {Ib : IMem} (k_43 : IMem → Res) (o0 : Nat) (p1 : Int) (p2 : Int) (hk_43 : ∀ (I9 : IMem), (∀ q j, ¬ M q j → I9 q j = Ib q j) → k_43 I9 = some r → ∀ q j, ¬ M q j → r.2 q j = Ib q j) : ∀ (m : Nat) (w3 : Int) (I0 : IMem), (∀ q j, ¬ M q j → I0 q j = Ib q j) → f_X_stillStands_10 fu k_43 o0 p1 p2 m w3 I0 = some r → ∀ q j, ¬ M q j → r.2 q j = Ib q j := by
  intro m
  induction m with
  | zero => intro w3 I0 _ hf; cases hf
  | succ m hR_ =>
    intro w3 I0 fI0 hf
    replace hf : fb_X_stillStands_10 fu k_43 o0 p1 p2 (f_X_stillStands_10 fu k_43 o0 p1 p2 m) w3 I0 = some r := hf
    unfold fb_X_stillStands_10 at hf
    obtain ⟨x1, -, hf⟩ := of_zl hf
    obtain ⟨g_1, hf⟩ := of_zg hf
    rcases of_ite hf with ⟨_, hf⟩ | ⟨_, hf⟩
    · obtain ⟨y2, I3, c_2, hf⟩ := of_zb hf
      have fI3 := fcz_t (fc_X_of M fu o0 p2 w3 0 I0 c_2) fI0
      rcases of_ite hf with ⟨_, hf⟩ | ⟨_, hf⟩
      · cases hf; exact fI3
      · obtain ⟨x5, -, hf⟩ := of_zl hf
        exact hR_ x5 I3 fI3 hf
    · exact hk_43 I0 fI0 hf
theorem fc_X_stillStands_2 (M : Nat → Nat → Prop) (fu : Nat) {r : Int × IMem} {Ib : IMem} (o0 : Nat) (p1 : Int) : ∀ (m : Nat) (w2 : Int) (I0 : IMem), (∀ q j, ¬ M q j → I0 q j = Ib q j) → f_X_stillStands_2 fu o0 p1 m w2 I0 = some r → ∀ q j, ¬ M q j → r.2 q j = Ib q j := by
  intro m
  induction m with
  | zero => intro w2 I0 _ hf; cases hf
  | succ m hR_ =>
    intro w2 I0 fI0 hf
    replace hf : fb_X_stillStands_2 fu o0 p1 (f_X_stillStands_2 fu o0 p1 m) w2 I0 = some r := hf
    unfold fb_X_stillStands_2 at hf
    rcases of_ite hf with ⟨_, hf⟩ | ⟨_, hf⟩
    · refine fc_X_stillStands_10 M fu _ o0 p1 w2 ?_ fu 0 I0 fI0 hf
      · intro I6 fI6 hf
        obtain ⟨x7, -, hf⟩ := of_zl hf
        exact hR_ x7 I6 fI6 hf
    · cases hf; exact fI0
theorem fc_X_stillStands (M : Nat → Nat → Prop) (fu : Nat) (o0 : Nat) (a1 : Int) (I0 : IMem) {r : Int × IMem} (hf : f_X_stillStands fu o0 a1 I0 = some r) : ∀ q j, ¬ M q j → r.2 q j = I0 q j := by
  unfold f_X_stillStands at hf
  obtain ⟨Ib, hIb⟩ : ∃ Ib : IMem, Ib = I0 := ⟨I0, rfl⟩
  rw [← hIb]
  have f0 : ∀ q j, ¬ M q j → I0 q j = Ib q j := fun q j _ => by rw [hIb]
  clear hIb
  refine fc_X_stillStands_2 M fu o0 a1 fu 0 I0 f0 hf
theorem fc_X_sitsAfter_12 (M : Nat → Nat → Prop) (fu : Nat) {r : Int × IMem} {Ib : IMem} (k_37 : Int → IMem → Res) (o0 : Nat) (p1 : Int) (m_o0_1 : ∀ j, M (o0 + 1) j) (m_o0_7 : ∀ j, M (o0 + 7) j) (m_o0_9 : ∀ j, M (o0 + 9) j) (m_o0_10 : ∀ j, M (o0 + 10) j) (m_o0_11 : ∀ j, M (o0 + 11) j) (m_o0_12 : ∀ j, M (o0 + 12) j) (m_o0_13 : ∀ j, M (o0 + 13) j) (m_o0_14 : ∀ j, M (o0 + 14) j) (m_o0_0c24 : M o0 24) (m_o0_0c30 : M o0 30) (m_o0_0c31 : M o0 31) (m_o0_0c32 : M o0 32) (m_o0_0c33 : M o0 33) (m_o0_0c34 : M o0 34) (m_o0_0c35 : M o0 35) (m_o0_8c1 : M (o0 + 8) 1) (m_o0_8c2 : M (o0 + 8) 2) (m_o0_8c3 : M (o0 + 8) 3) (m_o0_8c4 : M (o0 + 8) 4) (m_o0_8c5 : M (o0 + 8) 5) (m_o0_8c6 : M (o0 + 8) 6) (m_o0_8c7 : M (o0 + 8) 7) (m_o0_8c8 : M (o0 + 8) 8) (m_o0_8c9 : M (o0 + 8) 9) (hk_37 : ∀ (z0 : Int) (I9 : IMem), (∀ q j, ¬ M q j → I9 q j = Ib q j) → k_37 z0 I9 = some r → ∀ q j, ¬ M q j → r.2 q j = Ib q j) : ∀ (m : Nat) (w2 : Int) (I0 : IMem), (∀ q j, ¬ M q j → I0 q j = Ib q j) → f_X_sitsAfter_12 fu k_37 o0 p1 m w2 I0 = some r → ∀ q j, ¬ M q j → r.2 q j = Ib q j := by
  intro m
  induction m with
  | zero => intro w2 I0 _ hf; cases hf
  | succ m hR_ =>
    intro w2 I0 fI0 hf
    replace hf : fb_X_sitsAfter_12 fu k_37 o0 p1 (f_X_sitsAfter_12 fu k_37 o0 p1 m) w2 I0 = some r := hf
    unfold fb_X_sitsAfter_12 at hf
    rcases of_ite hf with ⟨_, hf⟩ | ⟨_, hf⟩
    · obtain ⟨y3, I4, c_1, hf⟩ := of_zb hf
      have fI4 := fcz_t (fc_X_stillStands M fu o0 p1 I0 c_1) fI0
      rcases of_ite hf with ⟨_, hf⟩ | ⟨_, hf⟩
      · exact hk_37 w2 I4 fI4 hf
      · obtain ⟨y6, I7, c_2, hf⟩ := of_zb hf
        have fI7 := fcz_t (fc_X_chair M fu o0 I4 m_o0_1 m_o0_7 m_o0_9 m_o0_10 m_o0_11 m_o0_12 m_o0_13 m_o0_14 m_o0_0c24 m_o0_0c30 m_o0_0c31 m_o0_0c32 m_o0_0c33 m_o0_0c34 m_o0_0c35 m_o0_8c1 m_o0_8c2 m_o0_8c3 m_o0_8c4 m_o0_8c5 m_o0_8c6 m_o0_8c7 m_o0_8c8 m_o0_8c9 c_2) fI4
        obtain ⟨x9, -, hf⟩ := of_zl hf
        exact hR_ x9 I7 fI7 hf
    · exact hk_37 w2 I0 fI0 hf
theorem fc_X_sitsAfter (M : Nat → Nat → Prop) (fu : Nat) (o0 : Nat) (a1 : Int) (I0 : IMem) {r : Int × IMem} (m_o0_1 : ∀ j, M (o0 + 1) j) (m_o0_7 : ∀ j, M (o0 + 7) j) (m_o0_9 : ∀ j, M (o0 + 9) j) (m_o0_10 : ∀ j, M (o0 + 10) j) (m_o0_11 : ∀ j, M (o0 + 11) j) (m_o0_12 : ∀ j, M (o0 + 12) j) (m_o0_13 : ∀ j, M (o0 + 13) j) (m_o0_14 : ∀ j, M (o0 + 14) j) (m_o0_0c23 : M o0 23) (m_o0_0c24 : M o0 24) (m_o0_0c30 : M o0 30) (m_o0_0c31 : M o0 31) (m_o0_0c32 : M o0 32) (m_o0_0c33 : M o0 33) (m_o0_0c34 : M o0 34) (m_o0_0c35 : M o0 35) (m_o0_8c1 : M (o0 + 8) 1) (m_o0_8c2 : M (o0 + 8) 2) (m_o0_8c3 : M (o0 + 8) 3) (m_o0_8c4 : M (o0 + 8) 4) (m_o0_8c5 : M (o0 + 8) 5) (m_o0_8c6 : M (o0 + 8) 6) (m_o0_8c7 : M (o0 + 8) 7) (m_o0_8c8 : M (o0 + 8) 8) (m_o0_8c9 : M (o0 + 8) 9) (hf : f_X_sitsAfter fu o0 a1 I0 = some r) : ∀ q j, ¬ M q j → r.2 q j = I0 q j := by
  unfold f_X_sitsAfter at hf
  obtain ⟨Ib, hIb⟩ : ∃ Ib : IMem, Ib = I0 := ⟨I0, rfl⟩
  rw [← hIb]
  have f0 : ∀ q j, ¬ M q j → I0 q j = Ib q j := fun q j _ => by rw [hIb]
  clear hIb
  obtain ⟨I1, fI1, hf⟩ := fcz_w m_o0_0c23 f0 hf
  obtain ⟨I2, fI2, hf⟩ := fcz_w m_o0_0c24 fI1 hf
  refine fc_X_sitsAfter_12 M fu _ o0 a1 m_o0_1 m_o0_7 m_o0_9 m_o0_10 m_o0_11 m_o0_12 m_o0_13 m_o0_14 m_o0_0c24 m_o0_0c30 m_o0_0c31 m_o0_0c32 m_o0_0c33 m_o0_0c34 m_o0_0c35 m_o0_8c1 m_o0_8c2 m_o0_8c3 m_o0_8c4 m_o0_8c5 m_o0_8c6 m_o0_8c7 m_o0_8c8 m_o0_8c9 ?_ fu 0 I2 fI2 hf
  · intro x11 I10 fI10 hf
    obtain ⟨k12, ek12, hf⟩ := of_zj hf
    have hk12 : ∀ (x14 : Int) (I13 : IMem), (∀ q j, ¬ M q j → I13 q j = Ib q j) → k12 x14 I13 = some r → ∀ q j, ¬ M q j → r.2 q j = Ib q j := by
      intro x14 I13 fI13 hf
      subst ek12
      obtain ⟨I15, fI15, hf⟩ := fcz_w m_o0_0c23 fI13 hf
      rcases of_ite hf with ⟨_, hf⟩ | ⟨_, hf⟩
      · cases hf; exact fI15
      · cases hf; exact fI15
    rcases of_ite hf with ⟨_, hf⟩ | ⟨_, hf⟩
    · obtain ⟨y16, I17, c_1, hf⟩ := of_zb hf
      have fI17 := fcz_t (fc_X_stillStands M fu o0 a1 I10 c_1) fI10
      rcases of_ite hf with ⟨_, hf⟩ | ⟨_, hf⟩
      · exact hk12 0 I17 fI17 hf
      · exact hk12 1 I17 fI17 hf
    · exact hk12 1 I10 fI10 hf
theorem fc_X_till (M : Nat → Nat → Prop) (fu : Nat) (o0 : Nat) (a1 : Int) (a2 : Int) (I0 : IMem) {r : Int × IMem} (m_o0_1 : ∀ j, M (o0 + 1) j) (m_o0_3 : ∀ j, M (o0 + 3) j) (m_o0_7 : ∀ j, M (o0 + 7) j) (m_o0_9 : ∀ j, M (o0 + 9) j) (m_o0_10 : ∀ j, M (o0 + 10) j) (m_o0_11 : ∀ j, M (o0 + 11) j) (m_o0_12 : ∀ j, M (o0 + 12) j) (m_o0_13 : ∀ j, M (o0 + 13) j) (m_o0_14 : ∀ j, M (o0 + 14) j) (m_o0_15 : ∀ j, M (o0 + 15) j) (m_o0_23 : ∀ j, M (o0 + 23) j) (m_o0_24 : ∀ j, M (o0 + 24) j) (m_o0_0c23 : M o0 23) (m_o0_0c24 : M o0 24) (m_o0_0c30 : M o0 30) (m_o0_0c31 : M o0 31) (m_o0_0c32 : M o0 32) (m_o0_0c33 : M o0 33) (m_o0_0c34 : M o0 34) (m_o0_0c35 : M o0 35) (m_o0_0c50 : M o0 50) (m_o0_8c1 : M (o0 + 8) 1) (m_o0_8c2 : M (o0 + 8) 2) (m_o0_8c3 : M (o0 + 8) 3) (m_o0_8c4 : M (o0 + 8) 4) (m_o0_8c5 : M (o0 + 8) 5) (m_o0_8c6 : M (o0 + 8) 6) (m_o0_8c7 : M (o0 + 8) 7) (m_o0_8c8 : M (o0 + 8) 8) (m_o0_8c9 : M (o0 + 8) 9) (hf : f_X_till fu o0 a1 a2 I0 = some r) : ∀ q j, ¬ M q j → r.2 q j = I0 q j := by
  unfold f_X_till at hf
  obtain ⟨Ib, hIb⟩ : ∃ Ib : IMem, Ib = I0 := ⟨I0, rfl⟩
  rw [← hIb]
  have f0 : ∀ q j, ¬ M q j → I0 q j = Ib q j := fun q j _ => by rw [hIb]
  clear hIb
  obtain ⟨y1, I2, c_1, hf⟩ := of_zb hf
  have fI2 := fcz_t (fc_X_isThere M fu o0 a1 a2 I0 c_1) f0
  rcases of_ite hf with ⟨_, hf⟩ | ⟨_, hf⟩
  · cases hf; exact fI2
  · obtain ⟨y4, I5, c_2, hf⟩ := of_zb hf
    have fI5 := fcz_t (fc_X_of M fu o0 a1 a2 0 I2 c_2) fI2
    obtain ⟨u_4, I8, c_3, hf⟩ := of_zb hf
    have fI8 := fcz_t (fc_X_setsOut M fu o0 I5 m_o0_3 m_o0_23 m_o0_24 m_o0_0c50 c_3) fI5
    obtain ⟨y10, I11, c_5, hf⟩ := of_zb hf
    have fI11 := fcz_t (fc_X_sitsAfter M fu o0 y4 I8 m_o0_1 m_o0_7 m_o0_9 m_o0_10 m_o0_11 m_o0_12 m_o0_13 m_o0_14 m_o0_0c23 m_o0_0c24 m_o0_0c30 m_o0_0c31 m_o0_0c32 m_o0_0c33 m_o0_0c34 m_o0_0c35 m_o0_8c1 m_o0_8c2 m_o0_8c3 m_o0_8c4 m_o0_8c5 m_o0_8c6 m_o0_8c7 m_o0_8c8 m_o0_8c9 c_5) fI8
    obtain ⟨u_7, I14, c_6, hf⟩ := of_zb hf
    have fI14 := fcz_t (fc_X_comesBack M fu o0 I11 m_o0_1 m_o0_13 m_o0_15 m_o0_0c35 c_6) fI11
    cases hf; exact fI14
theorem fc_X_isPlain (M : Nat → Nat → Prop) (fu : Nat) (o0 : Nat) (a1 : Int) (a2 : Int) (I0 : IMem) {r : Int × IMem} (hf : f_X_isPlain fu o0 a1 a2 I0 = some r) : ∀ q j, ¬ M q j → r.2 q j = I0 q j := by
  unfold f_X_isPlain at hf
  obtain ⟨Ib, hIb⟩ : ∃ Ib : IMem, Ib = I0 := ⟨I0, rfl⟩
  rw [← hIb]
  have f0 : ∀ q j, ¬ M q j → I0 q j = Ib q j := fun q j _ => by rw [hIb]
  clear hIb
  obtain ⟨y1, I2, c_1, hf⟩ := of_zb hf
  have fI2 := fcz_t (fc_X_isThere M fu o0 a1 a2 I0 c_1) f0
  rcases of_ite hf with ⟨_, hf⟩ | ⟨_, hf⟩
  · cases hf; exact fI2
  · obtain ⟨y4, I5, c_2, hf⟩ := of_zb hf
    have fI5 := fcz_t (fc_X_of M fu o0 a1 a2 3 I2 c_2) fI2
    rcases of_ite hf with ⟨_, hf⟩ | ⟨_, hf⟩
    · obtain ⟨y7, I8, c_3, hf⟩ := of_zb hf
      have fI8 := fcz_t (fc_X_of M fu o0 a1 a2 2 I5 c_3) fI5
      obtain ⟨y10, I11, c_4, hf⟩ := of_zb hf
      have fI11 := fcz_t (fc_X_of M fu o0 a1 a2 1 I8 c_4) fI8
      rcases of_ite hf with ⟨_, hf⟩ | ⟨_, hf⟩
      · cases hf; exact fI11
      · cases hf; exact fI11
    · cases hf; exact fI5
theorem fc_X_joined_85 (M : Nat → Nat → Prop) (fu : Nat) {r : Int × IMem} {Ib : IMem} (k_123 : IMem → Res) (o0 : Nat) (p1 : Int) (p5 : Int) (p7 : Int) (m_o0_1 : ∀ j, M (o0 + 1) j) (hk_123 : ∀ (I9 : IMem), (∀ q j, ¬ M q j → I9 q j = Ib q j) → k_123 I9 = some r → ∀ q j, ¬ M q j → r.2 q j = Ib q j) : ∀ (m : Nat) (w8 : Int) (I0 : IMem), (∀ q j, ¬ M q j → I0 q j = Ib q j) → f_X_joined_85 fu k_123 o0 p1 p5 p7 m w8 I0 = some r → ∀ q j, ¬ M q j → r.2 q j = Ib q j := by
  intro m
  induction m with
  | zero => intro w8 I0 _ hf; cases hf
  | succ m hR_ =>
    intro w8 I0 fI0 hf
    replace hf : fb_X_joined_85 fu k_123 o0 p1 p5 p7 (f_X_joined_85 fu k_123 o0 p1 p5 p7 m) w8 I0 = some r := hf
    unfold fb_X_joined_85 at hf
    rcases of_ite hf with ⟨_, hf⟩ | ⟨_, hf⟩
    · obtain ⟨y25, I26, c_1, hf⟩ := of_zb hf
      have fI26 := fcz_t (fc_X_cell M fu p1 p7 I0 c_1) fI0
      obtain ⟨y28, I29, c_2, hf⟩ := of_zb hf
      have fI29 := fcz_t (fc_X_of M fu o0 p1 (wr32 (p7 + 1)) w8 I26 c_2) fI26
      obtain ⟨x32, -, hf⟩ := of_zl hf
      obtain ⟨g_3, hf⟩ := of_zg hf
      obtain ⟨I31, fI31, hf⟩ := fcz_w (m_o0_1 _) fI29 hf
      obtain ⟨x33, -, hf⟩ := of_zl hf
      exact hR_ x33 I31 fI31 hf
    · exact hk_123 I0 fI0 hf
theorem fc_X_joined_65 (M : Nat → Nat → Prop) (fu : Nat) {r : Int × IMem} {Ib : IMem} (k_129 : IMem → Res) (o0 : Nat) (p1 : Int) (p5 : Int) (m_o0_1 : ∀ j, M (o0 + 1) j) (hk_129 : ∀ (I9 : IMem), (∀ q j, ¬ M q j → I9 q j = Ib q j) → k_129 I9 = some r → ∀ q j, ¬ M q j → r.2 q j = Ib q j) : ∀ (m : Nat) (w7 : Int) (I0 : IMem), (∀ q j, ¬ M q j → I0 q j = Ib q j) → f_X_joined_65 fu k_129 o0 p1 p5 m w7 I0 = some r → ∀ q j, ¬ M q j → r.2 q j = Ib q j := by
  intro m
  induction m with
  | zero => intro w7 I0 _ hf; cases hf
  | succ m hR_ =>
    intro w7 I0 fI0 hf
    replace hf : fb_X_joined_65 fu k_129 o0 p1 p5 (f_X_joined_65 fu k_129 o0 p1 p5 m) w7 I0 = some r := hf
    unfold fb_X_joined_65 at hf
    obtain ⟨x24, -, hf⟩ := of_zl hf
    obtain ⟨g_1, hf⟩ := of_zg hf
    rcases of_ite hf with ⟨_, hf⟩ | ⟨_, hf⟩
    · refine fc_X_joined_85 M fu _ o0 p1 p5 w7 m_o0_1 ?_ fu 0 I0 fI0 hf
      · intro I34 fI34 hf
        obtain ⟨x35, -, hf⟩ := of_zl hf
        exact hR_ x35 I34 fI34 hf
    · exact hk_129 I0 fI0 hf
theorem fc_X_joined (M : Nat → Nat → Prop) (fu : Nat) (o0 : Nat) (a1 : Int) (a2 : Int) (a3 : Int) (a4 : Int) (I0 : IMem) {r : Int × IMem} (m_o0_1 : ∀ j, M (o0 + 1) j) (m_o0_3 : ∀ j, M (o0 + 3) j) (m_o0_7 : ∀ j, M (o0 + 7) j) (m_o0_9 : ∀ j, M (o0 + 9) j) (m_o0_10 : ∀ j, M (o0 + 10) j) (m_o0_11 : ∀ j, M (o0 + 11) j) (m_o0_12 : ∀ j, M (o0 + 12) j) (m_o0_13 : ∀ j, M (o0 + 13) j) (m_o0_14 : ∀ j, M (o0 + 14) j) (m_o0_15 : ∀ j, M (o0 + 15) j) (m_o0_23 : ∀ j, M (o0 + 23) j) (m_o0_24 : ∀ j, M (o0 + 24) j) (m_o0_0c23 : M o0 23) (m_o0_0c24 : M o0 24) (m_o0_0c30 : M o0 30) (m_o0_0c31 : M o0 31) (m_o0_0c32 : M o0 32) (m_o0_0c33 : M o0 33) (m_o0_0c34 : M o0 34) (m_o0_0c35 : M o0 35) (m_o0_0c50 : M o0 50) (m_o0_8c1 : M (o0 + 8) 1) (m_o0_8c2 : M (o0 + 8) 2) (m_o0_8c3 : M (o0 + 8) 3) (m_o0_8c4 : M (o0 + 8) 4) (m_o0_8c5 : M (o0 + 8) 5) (m_o0_8c6 : M (o0 + 8) 6) (m_o0_8c7 : M (o0 + 8) 7) (m_o0_8c8 : M (o0 + 8) 8) (m_o0_8c9 : M (o0 + 8) 9) (hf : f_X_joined fu o0 a1 a2 a3 a4 I0 = some r) : ∀ q j, ¬ M q j → r.2 q j = I0 q j := by
  unfold f_X_joined at hf
  obtain ⟨Ib, hIb⟩ : ∃ Ib : IMem, Ib = I0 := ⟨I0, rfl⟩
  rw [← hIb]
  have f0 : ∀ q j, ¬ M q j → I0 q j = Ib q j := fun q j _ => by rw [hIb]
  clear hIb
  obtain ⟨y1, I2, c_1, hf⟩ := of_zb hf
  have fI2 := fcz_t (fc_X_of M fu o0 a3 a4 0 I0 c_1) f0
  obtain ⟨y4, I5, c_2, hf⟩ := of_zb hf
  have fI5 := fcz_t (fc_X_of M fu o0 a1 a2 1 I2 c_2) fI2
  obtain ⟨y7, I8, c_3, hf⟩ := of_zb hf
  have fI8 := fcz_t (fc_X_of M fu o0 a3 a4 1 I5 c_3) fI5
  obtain ⟨x10, -, hf⟩ := of_zl hf
  obtain ⟨u_5, I12, c_4, hf⟩ := of_zb hf
  have fI12 := fcz_t (fc_X_setsOut M fu o0 I8 m_o0_3 m_o0_23 m_o0_24 m_o0_0c50 c_4) fI8
  obtain ⟨y14, I15, c_6, hf⟩ := of_zb hf
  have fI15 := fcz_t (fc_X_cell M fu a3 a4 I12 c_6) fI12
  obtain ⟨x18, -, hf⟩ := of_zl hf
  obtain ⟨g_7, hf⟩ := of_zg hf
  obtain ⟨I17, fI17, hf⟩ := fcz_w (m_o0_1 _) fI15 hf
  obtain ⟨y19, I20, c_8, hf⟩ := of_zb hf
  have fI20 := fcz_t (fc_X_cell M fu a3 a4 I17 c_8) fI17
  obtain ⟨x23, -, hf⟩ := of_zl hf
  obtain ⟨g_9, hf⟩ := of_zg hf
  obtain ⟨I22, fI22, hf⟩ := fcz_w (m_o0_1 _) fI20 hf
  refine fc_X_joined_65 M fu _ o0 a1 y1 m_o0_1 ?_ fu a2 I22 fI22 hf
  · intro I36 fI36 hf
    obtain ⟨x37, -, hf⟩ := of_zl hf
    obtain ⟨g_10, hf⟩ := of_zg hf
    obtain ⟨g_11, hf⟩ := of_zg hf
    obtain ⟨I38, fI38, hf⟩ := fcz_w (m_o0_1 _) fI36 hf
    obtain ⟨y39, I40, c_12, hf⟩ := of_zb hf
    have fI40 := fcz_t (fc_X_sitsAfter M fu o0 y1 I38 m_o0_1 m_o0_7 m_o0_9 m_o0_10 m_o0_11 m_o0_12 m_o0_13 m_o0_14 m_o0_0c23 m_o0_0c24 m_o0_0c30 m_o0_0c31 m_o0_0c32 m_o0_0c33 m_o0_0c34 m_o0_0c35 m_o0_8c1 m_o0_8c2 m_o0_8c3 m_o0_8c4 m_o0_8c5 m_o0_8c6 m_o0_8c7 m_o0_8c8 m_o0_8c9 c_12) fI38
    obtain ⟨u_14, I43, c_13, hf⟩ := of_zb hf
    have fI43 := fcz_t (fc_X_comesBack M fu o0 I40 m_o0_1 m_o0_13 m_o0_15 m_o0_0c35 c_13) fI40
    cases hf; exact fI43
theorem fc_X_together (M : Nat → Nat → Prop) (fu : Nat) (o0 : Nat) (a1 : Int) (a2 : Int) (a3 : Int) (a4 : Int) (a5 : Int) (I0 : IMem) {r : Int × IMem} (m_o0_1 : ∀ j, M (o0 + 1) j) (m_o0_3 : ∀ j, M (o0 + 3) j) (m_o0_7 : ∀ j, M (o0 + 7) j) (m_o0_9 : ∀ j, M (o0 + 9) j) (m_o0_10 : ∀ j, M (o0 + 10) j) (m_o0_11 : ∀ j, M (o0 + 11) j) (m_o0_12 : ∀ j, M (o0 + 12) j) (m_o0_13 : ∀ j, M (o0 + 13) j) (m_o0_14 : ∀ j, M (o0 + 14) j) (m_o0_15 : ∀ j, M (o0 + 15) j) (m_o0_23 : ∀ j, M (o0 + 23) j) (m_o0_24 : ∀ j, M (o0 + 24) j) (m_o0_0c23 : M o0 23) (m_o0_0c24 : M o0 24) (m_o0_0c30 : M o0 30) (m_o0_0c31 : M o0 31) (m_o0_0c32 : M o0 32) (m_o0_0c33 : M o0 33) (m_o0_0c34 : M o0 34) (m_o0_0c35 : M o0 35) (m_o0_0c50 : M o0 50) (m_o0_8c1 : M (o0 + 8) 1) (m_o0_8c2 : M (o0 + 8) 2) (m_o0_8c3 : M (o0 + 8) 3) (m_o0_8c4 : M (o0 + 8) 4) (m_o0_8c5 : M (o0 + 8) 5) (m_o0_8c6 : M (o0 + 8) 6) (m_o0_8c7 : M (o0 + 8) 7) (m_o0_8c8 : M (o0 + 8) 8) (m_o0_8c9 : M (o0 + 8) 9) (hf : f_X_together fu o0 a1 a2 a3 a4 a5 I0 = some r) : ∀ q j, ¬ M q j → r.2 q j = I0 q j := by
  unfold f_X_together at hf
  obtain ⟨Ib, hIb⟩ : ∃ Ib : IMem, Ib = I0 := ⟨I0, rfl⟩
  rw [← hIb]
  have f0 : ∀ q j, ¬ M q j → I0 q j = Ib q j := fun q j _ => by rw [hIb]
  clear hIb
  obtain ⟨y1, I2, c_1, hf⟩ := of_zb hf
  have fI2 := fcz_t (fc_X_isPlain M fu o0 a1 a2 I0 c_1) f0
  rcases of_ite hf with ⟨_, hf⟩ | ⟨_, hf⟩
  · cases hf; exact fI2
  · obtain ⟨y4, I5, c_2, hf⟩ := of_zb hf
    have fI5 := fcz_t (fc_X_isPlain M fu o0 a3 a4 I2 c_2) fI2
    rcases of_ite hf with ⟨_, hf⟩ | ⟨_, hf⟩
    · cases hf; exact fI5
    · obtain ⟨k7, ek7, hf⟩ := of_zj hf
      have hk7 : ∀  (I8 : IMem), (∀ q j, ¬ M q j → I8 q j = Ib q j) → k7 I8 = some r → ∀ q j, ¬ M q j → r.2 q j = Ib q j := by
        intro I8 fI8 hf
        subst ek7
        obtain ⟨y9, I10, c_3, hf⟩ := of_zb hf
        have fI10 := fcz_t (fc_X_of M fu o0 a1 a2 1 I8 c_3) fI8
        obtain ⟨y12, I13, c_4, hf⟩ := of_zb hf
        have fI13 := fcz_t (fc_X_of M fu o0 a3 a4 1 I10 c_4) fI10
        rcases of_ite hf with ⟨_, hf⟩ | ⟨_, hf⟩
        · cases hf; exact fI13
        · obtain ⟨y15, I16, c_5, hf⟩ := of_zb hf
          have fI16 := fcz_t (fc_X_isIn M fu a5 0 1 I13 c_5) fI13
          rcases of_ite hf with ⟨_, hf⟩ | ⟨_, hf⟩
          · cases hf; exact fI16
          · obtain ⟨y18, I19, c_6, hf⟩ := of_zb hf
            have fI19 := fcz_t (fc_X_joined M fu o0 a1 a2 a3 a4 I16 m_o0_1 m_o0_3 m_o0_7 m_o0_9 m_o0_10 m_o0_11 m_o0_12 m_o0_13 m_o0_14 m_o0_15 m_o0_23 m_o0_24 m_o0_0c23 m_o0_0c24 m_o0_0c30 m_o0_0c31 m_o0_0c32 m_o0_0c33 m_o0_0c34 m_o0_0c35 m_o0_0c50 m_o0_8c1 m_o0_8c2 m_o0_8c3 m_o0_8c4 m_o0_8c5 m_o0_8c6 m_o0_8c7 m_o0_8c8 m_o0_8c9 c_6) fI16
            rcases of_ite hf with ⟨_, hf⟩ | ⟨_, hf⟩
            · cases hf; exact fI19
            · obtain ⟨y21, I22, c_7, hf⟩ := of_zb hf
              have fI22 := fcz_t (fc_X_till M fu o0 a1 a2 I19 m_o0_1 m_o0_3 m_o0_7 m_o0_9 m_o0_10 m_o0_11 m_o0_12 m_o0_13 m_o0_14 m_o0_15 m_o0_23 m_o0_24 m_o0_0c23 m_o0_0c24 m_o0_0c30 m_o0_0c31 m_o0_0c32 m_o0_0c33 m_o0_0c34 m_o0_0c35 m_o0_0c50 m_o0_8c1 m_o0_8c2 m_o0_8c3 m_o0_8c4 m_o0_8c5 m_o0_8c6 m_o0_8c7 m_o0_8c8 m_o0_8c9 c_7) fI19
              obtain ⟨y24, I25, c_8, hf⟩ := of_zb hf
              have fI25 := fcz_t (fc_X_till M fu o0 a3 a4 I22 m_o0_1 m_o0_3 m_o0_7 m_o0_9 m_o0_10 m_o0_11 m_o0_12 m_o0_13 m_o0_14 m_o0_15 m_o0_23 m_o0_24 m_o0_0c23 m_o0_0c24 m_o0_0c30 m_o0_0c31 m_o0_0c32 m_o0_0c33 m_o0_0c34 m_o0_0c35 m_o0_0c50 m_o0_8c1 m_o0_8c2 m_o0_8c3 m_o0_8c4 m_o0_8c5 m_o0_8c6 m_o0_8c7 m_o0_8c8 m_o0_8c9 c_8) fI22
              rcases of_ite hf with ⟨_, hf⟩ | ⟨_, hf⟩
              · cases hf; exact fI25
              · rcases of_ite hf with ⟨_, hf⟩ | ⟨_, hf⟩
                · cases hf; exact fI25
                · rcases of_ite hf with ⟨_, hf⟩ | ⟨_, hf⟩
                  · cases hf; exact fI25
                  · obtain ⟨k27, ek27, hf⟩ := of_zj hf
                    have hk27 : ∀ (x29 : Int) (I28 : IMem), (∀ q j, ¬ M q j → I28 q j = Ib q j) → k27 x29 I28 = some r → ∀ q j, ¬ M q j → r.2 q j = Ib q j := by
                      intro x29 I28 fI28 hf
                      subst ek27
                      rcases of_ite hf with ⟨_, hf⟩ | ⟨_, hf⟩
                      · cases hf; exact fI28
                      · cases hf; exact fI28
                    rcases of_ite hf with ⟨_, hf⟩ | ⟨_, hf⟩
                    · exact hk27 y21 I25 fI25 hf
                    · exact hk27 y24 I25 fI25 hf
      rcases of_ite hf with ⟨_, hf⟩ | ⟨_, hf⟩
      · rcases of_ite hf with ⟨_, hf⟩ | ⟨_, hf⟩
        · cases hf; exact fI5
        · exact hk7 I5 fI5 hf
      · exact hk7 I5 fI5 hf
theorem fc_X_needed_20 (M : Nat → Nat → Prop) (fu : Nat) {r : Int × IMem} {Ib : IMem} (k_56 : Int → IMem → Res) (o0 : Nat) (p1 : Int) (m_o0_1 : ∀ j, M (o0 + 1) j) (m_o0_7 : ∀ j, M (o0 + 7) j) (m_o0_9 : ∀ j, M (o0 + 9) j) (m_o0_10 : ∀ j, M (o0 + 10) j) (m_o0_11 : ∀ j, M (o0 + 11) j) (m_o0_12 : ∀ j, M (o0 + 12) j) (m_o0_13 : ∀ j, M (o0 + 13) j) (m_o0_14 : ∀ j, M (o0 + 14) j) (m_o0_0c24 : M o0 24) (m_o0_0c30 : M o0 30) (m_o0_0c31 : M o0 31) (m_o0_0c32 : M o0 32) (m_o0_0c33 : M o0 33) (m_o0_0c34 : M o0 34) (m_o0_0c35 : M o0 35) (m_o0_8c1 : M (o0 + 8) 1) (m_o0_8c2 : M (o0 + 8) 2) (m_o0_8c3 : M (o0 + 8) 3) (m_o0_8c4 : M (o0 + 8) 4) (m_o0_8c5 : M (o0 + 8) 5) (m_o0_8c6 : M (o0 + 8) 6) (m_o0_8c7 : M (o0 + 8) 7) (m_o0_8c8 : M (o0 + 8) 8) (m_o0_8c9 : M (o0 + 8) 9) (hk_56 : ∀ (z0 : Int) (I9 : IMem), (∀ q j, ¬ M q j → I9 q j = Ib q j) → k_56 z0 I9 = some r → ∀ q j, ¬ M q j → r.2 q j = Ib q j) : ∀ (m : Nat) (w2 : Int) (w3 : Int) (I0 : IMem), (∀ q j, ¬ M q j → I0 q j = Ib q j) → f_X_needed_20 fu k_56 o0 p1 m w2 w3 I0 = some r → ∀ q j, ¬ M q j → r.2 q j = Ib q j := by
  intro m
  induction m with
  | zero => intro w2 w3 I0 _ hf; cases hf
  | succ m hR_ =>
    intro w2 w3 I0 fI0 hf
    replace hf : fb_X_needed_20 fu k_56 o0 p1 (f_X_needed_20 fu k_56 o0 p1 m) w2 w3 I0 = some r := hf
    unfold fb_X_needed_20 at hf
    rcases of_ite hf with ⟨_, hf⟩ | ⟨_, hf⟩
    · obtain ⟨y7, I8, c_1, hf⟩ := of_zb hf
      have fI8 := fcz_t (fc_X_chair M fu o0 I0 m_o0_1 m_o0_7 m_o0_9 m_o0_10 m_o0_11 m_o0_12 m_o0_13 m_o0_14 m_o0_0c24 m_o0_0c30 m_o0_0c31 m_o0_0c32 m_o0_0c33 m_o0_0c34 m_o0_0c35 m_o0_8c1 m_o0_8c2 m_o0_8c3 m_o0_8c4 m_o0_8c5 m_o0_8c6 m_o0_8c7 m_o0_8c8 m_o0_8c9 c_1) fI0
      obtain ⟨k10, ek10, hf⟩ := of_zj hf
      have hk10 : ∀ (x12 : Int) (I11 : IMem), (∀ q j, ¬ M q j → I11 q j = Ib q j) → k10 x12 I11 = some r → ∀ q j, ¬ M q j → r.2 q j = Ib q j := by
        intro x12 I11 fI11 hf
        subst ek10
        obtain ⟨x13, -, hf⟩ := of_zl hf
        obtain ⟨x14, -, hf⟩ := of_zl hf
        exact hR_ x13 x14 I11 fI11 hf
      rcases of_ite hf with ⟨_, hf⟩ | ⟨_, hf⟩
      · exact hk10 (I8 (o0 + 1) 111) I8 fI8 hf
      · exact hk10 0 I8 fI8 hf
    · exact hk_56 w2 I0 fI0 hf
theorem fc_X_needed (M : Nat → Nat → Prop) (fu : Nat) (o0 : Nat) (a1 : Int) (I0 : IMem) {r : Int × IMem} (m_o0_1 : ∀ j, M (o0 + 1) j) (m_o0_3 : ∀ j, M (o0 + 3) j) (m_o0_7 : ∀ j, M (o0 + 7) j) (m_o0_9 : ∀ j, M (o0 + 9) j) (m_o0_10 : ∀ j, M (o0 + 10) j) (m_o0_11 : ∀ j, M (o0 + 11) j) (m_o0_12 : ∀ j, M (o0 + 12) j) (m_o0_13 : ∀ j, M (o0 + 13) j) (m_o0_14 : ∀ j, M (o0 + 14) j) (m_o0_15 : ∀ j, M (o0 + 15) j) (m_o0_23 : ∀ j, M (o0 + 23) j) (m_o0_24 : ∀ j, M (o0 + 24) j) (m_o0_0c24 : M o0 24) (m_o0_0c30 : M o0 30) (m_o0_0c31 : M o0 31) (m_o0_0c32 : M o0 32) (m_o0_0c33 : M o0 33) (m_o0_0c34 : M o0 34) (m_o0_0c35 : M o0 35) (m_o0_0c50 : M o0 50) (m_o0_8c1 : M (o0 + 8) 1) (m_o0_8c2 : M (o0 + 8) 2) (m_o0_8c3 : M (o0 + 8) 3) (m_o0_8c4 : M (o0 + 8) 4) (m_o0_8c5 : M (o0 + 8) 5) (m_o0_8c6 : M (o0 + 8) 6) (m_o0_8c7 : M (o0 + 8) 7) (m_o0_8c8 : M (o0 + 8) 8) (m_o0_8c9 : M (o0 + 8) 9) (hf : f_X_needed fu o0 a1 I0 = some r) : ∀ q j, ¬ M q j → r.2 q j = I0 q j := by
  unfold f_X_needed at hf
  obtain ⟨Ib, hIb⟩ : ∃ Ib : IMem, Ib = I0 := ⟨I0, rfl⟩
  rw [← hIb]
  have f0 : ∀ q j, ¬ M q j → I0 q j = Ib q j := fun q j _ => by rw [hIb]
  clear hIb
  obtain ⟨y1, I2, c_1, hf⟩ := of_zb hf
  have fI2 := fcz_t (fc_X_isIn M fu a1 1 40 I0 c_1) f0
  rcases of_ite hf with ⟨_, hf⟩ | ⟨_, hf⟩
  · cases hf; exact fI2
  · obtain ⟨u_3, I5, c_2, hf⟩ := of_zb hf
    have fI5 := fcz_t (fc_X_setsOut M fu o0 I2 m_o0_3 m_o0_23 m_o0_24 m_o0_0c50 c_2) fI2
    refine fc_X_needed_20 M fu _ o0 a1 m_o0_1 m_o0_7 m_o0_9 m_o0_10 m_o0_11 m_o0_12 m_o0_13 m_o0_14 m_o0_0c24 m_o0_0c30 m_o0_0c31 m_o0_0c32 m_o0_0c33 m_o0_0c34 m_o0_0c35 m_o0_8c1 m_o0_8c2 m_o0_8c3 m_o0_8c4 m_o0_8c5 m_o0_8c6 m_o0_8c7 m_o0_8c8 m_o0_8c9 ?_ fu 0 0 I5 fI5 hf
    · intro x16 I15 fI15 hf
      obtain ⟨u_5, I18, c_4, hf⟩ := of_zb hf
      have fI18 := fcz_t (fc_X_comesBack M fu o0 I15 m_o0_1 m_o0_13 m_o0_15 m_o0_0c35 c_4) fI15
      cases hf; exact fI18
theorem fc_X_past (M : Nat → Nat → Prop) (fu : Nat) (o0 : Nat) (a1 : Int) (a2 : Int) (I0 : IMem) {r : Int × IMem} (hf : f_X_past fu o0 a1 a2 I0 = some r) : ∀ q j, ¬ M q j → r.2 q j = I0 q j := by
  unfold f_X_past at hf
  obtain ⟨Ib, hIb⟩ : ∃ Ib : IMem, Ib = I0 := ⟨I0, rfl⟩
  rw [← hIb]
  have f0 : ∀ q j, ¬ M q j → I0 q j = Ib q j := fun q j _ => by rw [hIb]
  clear hIb
  obtain ⟨y1, I2, c_1, hf⟩ := of_zb hf
  have fI2 := fcz_t (fc_X_isIn M fu a1 0 59 I0 c_1) f0
  rcases of_ite hf with ⟨_, hf⟩ | ⟨_, hf⟩
  · cases hf; exact fI2
  · rcases of_ite hf with ⟨_, hf⟩ | ⟨_, hf⟩
    · obtain ⟨y4, I5, c_2, hf⟩ := of_zb hf
      have fI5 := fcz_t (fc_X_isIn M fu a2 0 2 I2 c_2) fI2
      rcases of_ite hf with ⟨_, hf⟩ | ⟨_, hf⟩
      · cases hf; exact fI5
      · obtain ⟨x7, -, hf⟩ := of_zl hf
        obtain ⟨g_3, hf⟩ := of_zg hf
        cases hf; exact fI5
    · cases hf; exact fI2
theorem fc_X_which_32 (M : Nat → Nat → Prop) (fu : Nat) {r : Int × IMem} {Ib : IMem} (k_135 : Int → Int → Int → IMem → Res) (o0 : Nat) (p1 : Int) (p2 : Int) (m_o0_1 : ∀ j, M (o0 + 1) j) (m_o0_3 : ∀ j, M (o0 + 3) j) (m_o0_7 : ∀ j, M (o0 + 7) j) (m_o0_9 : ∀ j, M (o0 + 9) j) (m_o0_10 : ∀ j, M (o0 + 10) j) (m_o0_11 : ∀ j, M (o0 + 11) j) (m_o0_12 : ∀ j, M (o0 + 12) j) (m_o0_13 : ∀ j, M (o0 + 13) j) (m_o0_14 : ∀ j, M (o0 + 14) j) (m_o0_15 : ∀ j, M (o0 + 15) j) (m_o0_23 : ∀ j, M (o0 + 23) j) (m_o0_24 : ∀ j, M (o0 + 24) j) (m_o0_0c22 : M o0 22) (m_o0_0c24 : M o0 24) (m_o0_0c30 : M o0 30) (m_o0_0c31 : M o0 31) (m_o0_0c32 : M o0 32) (m_o0_0c33 : M o0 33) (m_o0_0c34 : M o0 34) (m_o0_0c35 : M o0 35) (m_o0_0c50 : M o0 50) (m_o0_8c1 : M (o0 + 8) 1) (m_o0_8c2 : M (o0 + 8) 2) (m_o0_8c3 : M (o0 + 8) 3) (m_o0_8c4 : M (o0 + 8) 4) (m_o0_8c5 : M (o0 + 8) 5) (m_o0_8c6 : M (o0 + 8) 6) (m_o0_8c7 : M (o0 + 8) 7) (m_o0_8c8 : M (o0 + 8) 8) (m_o0_8c9 : M (o0 + 8) 9) (m_o0_8c10 : M (o0 + 8) 10) (m_o0_8c11 : M (o0 + 8) 11) (m_o0_25c0 : M (o0 + 25) 0) (m_o0_25c1 : M (o0 + 25) 1) (m_o0_25c2 : M (o0 + 25) 2) (m_o0_25c3 : M (o0 + 25) 3) (m_o0_25c4 : M (o0 + 25) 4) (m_o0_25c5 : M (o0 + 25) 5) (hk_135 : ∀ (z0 : Int) (z1 : Int) (z2 : Int) (I9 : IMem), (∀ q j, ¬ M q j → I9 q j = Ib q j) → k_135 z0 z1 z2 I9 = some r → ∀ q j, ¬ M q j → r.2 q j = Ib q j) : ∀ (m : Nat) (w3 : Int) (w4 : Int) (w5 : Int) (w6 : Int) (I0 : IMem), (∀ q j, ¬ M q j → I0 q j = Ib q j) → f_X_which_32 fu k_135 o0 p1 p2 m w3 w4 w5 w6 I0 = some r → ∀ q j, ¬ M q j → r.2 q j = Ib q j := by
  intro m
  induction m with
  | zero => intro w3 w4 w5 w6 I0 _ hf; cases hf
  | succ m hR_ =>
    intro w3 w4 w5 w6 I0 fI0 hf
    replace hf : fb_X_which_32 fu k_135 o0 p1 p2 (f_X_which_32 fu k_135 o0 p1 p2 m) w3 w4 w5 w6 I0 = some r := hf
    unfold fb_X_which_32 at hf
    rcases of_ite hf with ⟨_, hf⟩ | ⟨_, hf⟩
    · obtain ⟨I7, fI7, hf⟩ := fcz_w m_o0_0c22 fI0 hf
      obtain ⟨u_2, I9, c_1, hf⟩ := of_zb hf
      have fI9 := fcz_t (fc_X_leads M fu o0 (I7 (o0 + 1) 6) (I7 (o0 + 1) 5) (I7 (o0 + 1) 1) p1 I7 m_o0_1 m_o0_3 m_o0_7 m_o0_9 m_o0_10 m_o0_11 m_o0_12 m_o0_13 m_o0_14 m_o0_15 m_o0_23 m_o0_24 m_o0_0c24 m_o0_0c30 m_o0_0c31 m_o0_0c32 m_o0_0c33 m_o0_0c34 m_o0_0c35 m_o0_0c50 m_o0_8c1 m_o0_8c2 m_o0_8c3 m_o0_8c4 m_o0_8c5 m_o0_8c6 m_o0_8c7 m_o0_8c8 m_o0_8c9 m_o0_8c10 m_o0_8c11 m_o0_25c0 m_o0_25c1 m_o0_25c2 m_o0_25c3 m_o0_25c4 m_o0_25c5 c_1) fI7
      obtain ⟨k11, ek11, hf⟩ := of_zj hf
      have hk11 : ∀ (x13 : Int) (x14 : Int) (x15 : Int) (I12 : IMem), (∀ q j, ¬ M q j → I12 q j = Ib q j) → k11 x13 x14 x15 I12 = some r → ∀ q j, ¬ M q j → r.2 q j = Ib q j := by
        intro x13 x14 x15 I12 fI12 hf
        subst ek11
        obtain ⟨x16, -, hf⟩ := of_zl hf
        exact hR_ x13 x14 x15 x16 I12 fI12 hf
      obtain ⟨k17, ek17, hf⟩ := of_zj hf
      have hk17 : ∀  (I18 : IMem), (∀ q j, ¬ M q j → I18 q j = Ib q j) → k17 I18 = some r → ∀ q j, ¬ M q j → r.2 q j = Ib q j := by
        intro I18 fI18 hf
        subst ek17
        obtain ⟨x19, -, hf⟩ := of_zl hf
        obtain ⟨x20, -, hf⟩ := of_zl hf
        exact hk11 w6 x19 x20 I18 fI18 hf
      rcases of_ite hf with ⟨_, hf⟩ | ⟨_, hf⟩
      · exact hk17 I9 fI9 hf
      · rcases of_ite hf with ⟨_, hf⟩ | ⟨_, hf⟩
        · exact hk11 w3 w4 w5 I9 fI9 hf
        · rcases of_ite hf with ⟨_, hf⟩ | ⟨_, hf⟩
          · rcases of_ite hf with ⟨_, hf⟩ | ⟨_, hf⟩
            · exact hk17 I9 fI9 hf
            · exact hk11 w3 w4 w5 I9 fI9 hf
          · exact hk17 I9 fI9 hf
    · exact hk_135 w3 w4 w5 I0 fI0 hf
theorem fc_X_which (M : Nat → Nat → Prop) (fu : Nat) (o0 : Nat) (a1 : Int) (a2 : Int) (I0 : IMem) {r : Int × IMem} (m_o0_1 : ∀ j, M (o0 + 1) j) (m_o0_3 : ∀ j, M (o0 + 3) j) (m_o0_7 : ∀ j, M (o0 + 7) j) (m_o0_9 : ∀ j, M (o0 + 9) j) (m_o0_10 : ∀ j, M (o0 + 10) j) (m_o0_11 : ∀ j, M (o0 + 11) j) (m_o0_12 : ∀ j, M (o0 + 12) j) (m_o0_13 : ∀ j, M (o0 + 13) j) (m_o0_14 : ∀ j, M (o0 + 14) j) (m_o0_15 : ∀ j, M (o0 + 15) j) (m_o0_23 : ∀ j, M (o0 + 23) j) (m_o0_24 : ∀ j, M (o0 + 24) j) (m_o0_0c22 : M o0 22) (m_o0_0c24 : M o0 24) (m_o0_0c30 : M o0 30) (m_o0_0c31 : M o0 31) (m_o0_0c32 : M o0 32) (m_o0_0c33 : M o0 33) (m_o0_0c34 : M o0 34) (m_o0_0c35 : M o0 35) (m_o0_0c50 : M o0 50) (m_o0_8c1 : M (o0 + 8) 1) (m_o0_8c2 : M (o0 + 8) 2) (m_o0_8c3 : M (o0 + 8) 3) (m_o0_8c4 : M (o0 + 8) 4) (m_o0_8c5 : M (o0 + 8) 5) (m_o0_8c6 : M (o0 + 8) 6) (m_o0_8c7 : M (o0 + 8) 7) (m_o0_8c8 : M (o0 + 8) 8) (m_o0_8c9 : M (o0 + 8) 9) (m_o0_8c10 : M (o0 + 8) 10) (m_o0_8c11 : M (o0 + 8) 11) (m_o0_25c0 : M (o0 + 25) 0) (m_o0_25c1 : M (o0 + 25) 1) (m_o0_25c2 : M (o0 + 25) 2) (m_o0_25c3 : M (o0 + 25) 3) (m_o0_25c4 : M (o0 + 25) 4) (m_o0_25c5 : M (o0 + 25) 5) (hf : f_X_which fu o0 a1 a2 I0 = some r) : ∀ q j, ¬ M q j → r.2 q j = I0 q j := by
  unfold f_X_which at hf
  obtain ⟨Ib, hIb⟩ : ∃ Ib : IMem, Ib = I0 := ⟨I0, rfl⟩
  rw [← hIb]
  have f0 : ∀ q j, ¬ M q j → I0 q j = Ib q j := fun q j _ => by rw [hIb]
  clear hIb
  obtain ⟨y1, I2, c_1, hf⟩ := of_zb hf
  have fI2 := fcz_t (fc_X_isIn M fu a1 1 20 I0 c_1) f0
  rcases of_ite hf with ⟨_, hf⟩ | ⟨_, hf⟩
  · cases hf; exact fI2
  · obtain ⟨y4, I5, c_2, hf⟩ := of_zb hf
    have fI5 := fcz_t (fc_X_isIn M fu a2 0 2 I2 c_2) fI2
    rcases of_ite hf with ⟨_, hf⟩ | ⟨_, hf⟩
    · cases hf; exact fI5
    · refine fc_X_which_32 M fu _ o0 a1 a2 m_o0_1 m_o0_3 m_o0_7 m_o0_9 m_o0_10 m_o0_11 m_o0_12 m_o0_13 m_o0_14 m_o0_15 m_o0_23 m_o0_24 m_o0_0c22 m_o0_0c24 m_o0_0c30 m_o0_0c31 m_o0_0c32 m_o0_0c33 m_o0_0c34 m_o0_0c35 m_o0_0c50 m_o0_8c1 m_o0_8c2 m_o0_8c3 m_o0_8c4 m_o0_8c5 m_o0_8c6 m_o0_8c7 m_o0_8c8 m_o0_8c9 m_o0_8c10 m_o0_8c11 m_o0_25c0 m_o0_25c1 m_o0_25c2 m_o0_25c3 m_o0_25c4 m_o0_25c5 ?_ fu ((-1)) 0 0 0 I5 fI5 hf
      · intro x22 x23 x24 I21 fI21 hf
        obtain ⟨I25, fI25, hf⟩ := fcz_w m_o0_0c22 fI21 hf
        rcases of_ite hf with ⟨_, hf⟩ | ⟨_, hf⟩
        · cases hf; exact fI25
        · rcases of_ite hf with ⟨_, hf⟩ | ⟨_, hf⟩
          · cases hf; exact fI25
          · cases hf; exact fI25
theorem fc_X_folded_48 (M : Nat → Nat → Prop) (fu : Nat) {r : Int × IMem} {Ib : IMem} (o0 : Nat) (p1 : Int) (p2 : Int) (p3 : Int) : ∀ (m : Nat) (w4 : Int) (w5 : Int) (w6 : Int) (I0 : IMem), (∀ q j, ¬ M q j → I0 q j = Ib q j) → f_X_folded_48 fu o0 p1 p2 p3 m w4 w5 w6 I0 = some r → ∀ q j, ¬ M q j → r.2 q j = Ib q j := by
  intro m
  induction m with
  | zero => intro w4 w5 w6 I0 _ hf; cases hf
  | succ m hR_ =>
    intro w4 w5 w6 I0 fI0 hf
    replace hf : fb_X_folded_48 fu o0 p1 p2 p3 (f_X_folded_48 fu o0 p1 p2 p3 m) w4 w5 w6 I0 = some r := hf
    unfold fb_X_folded_48 at hf
    obtain ⟨x11, -, hf⟩ := of_zl hf
    obtain ⟨g_1, hf⟩ := of_zg hf
    rcases of_ite hf with ⟨_, hf⟩ | ⟨_, hf⟩
    · obtain ⟨y12, I13, c_2, hf⟩ := of_zb hf
      have fI13 := fcz_t (fc_X_of M fu o0 p1 w6 1 I0 c_2) fI0
      obtain ⟨k15, ek15, hf⟩ := of_zj hf
      have hk15 : ∀ (x17 : Int) (x18 : Int) (x19 : Int) (I16 : IMem), (∀ q j, ¬ M q j → I16 q j = Ib q j) → k15 x17 x18 x19 I16 = some r → ∀ q j, ¬ M q j → r.2 q j = Ib q j := by
        intro x17 x18 x19 I16 fI16 hf
        subst ek15
        rcases of_ite hf with ⟨_, hf⟩ | ⟨_, hf⟩
        · cases hf; exact fI16
        · obtain ⟨x20, -, hf⟩ := of_zl hf
          exact hR_ x17 x18 x20 I16 fI16 hf
      rcases of_ite hf with ⟨_, hf⟩ | ⟨_, hf⟩
      · obtain ⟨g_3, hf⟩ := of_zg hf
        obtain ⟨x24, -, hf⟩ := of_zl hf
        exact hk15 x24 p2 w4 I13 fI13 hf
      · rcases of_ite hf with ⟨_, hf⟩ | ⟨_, hf⟩
        · obtain ⟨x21, -, hf⟩ := of_zl hf
          exact hk15 x21 y12 w4 I13 fI13 hf
        · obtain ⟨x22, -, hf⟩ := of_zl hf
          obtain ⟨x23, -, hf⟩ := of_zl hf
          exact hk15 w4 x23 x22 I13 fI13 hf
    · cases hf; exact fI0
theorem fc_X_folded (M : Nat → Nat → Prop) (fu : Nat) (o0 : Nat) (a1 : Int) (a2 : Int) (a3 : Int) (I0 : IMem) {r : Int × IMem} (hf : f_X_folded fu o0 a1 a2 a3 I0 = some r) : ∀ q j, ¬ M q j → r.2 q j = I0 q j := by
  unfold f_X_folded at hf
  obtain ⟨Ib, hIb⟩ : ∃ Ib : IMem, Ib = I0 := ⟨I0, rfl⟩
  rw [← hIb]
  have f0 : ∀ q j, ¬ M q j → I0 q j = Ib q j := fun q j _ => by rw [hIb]
  clear hIb
  obtain ⟨y1, I2, c_1, hf⟩ := of_zb hf
  have fI2 := fcz_t (fc_X_isLine M fu a1 I0 c_1) f0
  rcases of_ite hf with ⟨_, hf⟩ | ⟨_, hf⟩
  · cases hf; exact fI2
  · obtain ⟨y4, I5, c_2, hf⟩ := of_zb hf
    have fI5 := fcz_t (fc_X_isIn M fu a2 1 40 I2 c_2) fI2
    rcases of_ite hf with ⟨_, hf⟩ | ⟨_, hf⟩
    · cases hf; exact fI5
    · obtain ⟨x7, -, hf⟩ := of_zl hf
      obtain ⟨g_3, hf⟩ := of_zg hf
      obtain ⟨y8, I9, c_4, hf⟩ := of_zb hf
      have fI9 := fcz_t (fc_X_isIn M fu a3 ((-1)) (wr32 ((I5 (o0 + 1) x7.toNat) - 1)) I5 c_4) fI5
      rcases of_ite hf with ⟨_, hf⟩ | ⟨_, hf⟩
      · cases hf; exact fI9
      · refine fc_X_folded_48 M fu o0 a1 a2 a3 fu 0 a2 0 I9 fI9 hf
theorem fc_X_image_15 (M : Nat → Nat → Prop) (fu : Nat) {r : Int × IMem} {Ib : IMem} (k_59 : IMem → Res) (o0 : Nat) (p1 : Int) (m_o0_1 : ∀ j, M (o0 + 1) j) (m_o0_2 : ∀ j, M (o0 + 2) j) (hk_59 : ∀ (I9 : IMem), (∀ q j, ¬ M q j → I9 q j = Ib q j) → k_59 I9 = some r → ∀ q j, ¬ M q j → r.2 q j = Ib q j) : ∀ (m : Nat) (w2 : Int) (I0 : IMem), (∀ q j, ¬ M q j → I0 q j = Ib q j) → f_X_image_15 fu k_59 o0 p1 m w2 I0 = some r → ∀ q j, ¬ M q j → r.2 q j = Ib q j := by
  intro m
  induction m with
  | zero => intro w2 I0 _ hf; cases hf
  | succ m hR_ =>
    intro w2 I0 fI0 hf
    replace hf : fb_X_image_15 fu k_59 o0 p1 (f_X_image_15 fu k_59 o0 p1 m) w2 I0 = some r := hf
    unfold fb_X_image_15 at hf
    rcases of_ite hf with ⟨_, hf⟩ | ⟨_, hf⟩
    · obtain ⟨k3, ek3, hf⟩ := of_zj hf
      have hk3 : ∀  (I4 : IMem), (∀ q j, ¬ M q j → I4 q j = Ib q j) → k3 I4 = some r → ∀ q j, ¬ M q j → r.2 q j = Ib q j := by
        intro I4 fI4 hf
        subst ek3
        obtain ⟨x5, -, hf⟩ := of_zl hf
        exact hR_ x5 I4 fI4 hf
      rcases of_ite hf with ⟨_, hf⟩ | ⟨_, hf⟩
      · obtain ⟨g_1, hf⟩ := of_zg hf
        obtain ⟨g_2, hf⟩ := of_zg hf
        obtain ⟨I6, fI6, hf⟩ := fcz_w (m_o0_1 _) fI0 hf
        exact hk3 I6 fI6 hf
      · obtain ⟨g_3, hf⟩ := of_zg hf
        obtain ⟨g_4, hf⟩ := of_zg hf
        obtain ⟨I7, fI7, hf⟩ := fcz_w (m_o0_2 _) fI0 hf
        exact hk3 I7 fI7 hf
    · exact hk_59 I0 fI0 hf
theorem fc_X_image (M : Nat → Nat → Prop) (fu : Nat) (o0 : Nat) (a1 : Int) (I0 : IMem) {r : Int × IMem} (m_o0_1 : ∀ j, M (o0 + 1) j) (m_o0_2 : ∀ j, M (o0 + 2) j) (m_o0_13 : ∀ j, M (o0 + 13) j) (m_o0_0c3 : M o0 3) (m_o0_0c35 : M o0 35) (hf : f_X_image fu o0 a1 I0 = some r) : ∀ q j, ¬ M q j → r.2 q j = I0 q j := by
  unfold f_X_image at hf
  obtain ⟨Ib, hIb⟩ : ∃ Ib : IMem, Ib = I0 := ⟨I0, rfl⟩
  rw [← hIb]
  have f0 : ∀ q j, ¬ M q j → I0 q j = Ib q j := fun q j _ => by rw [hIb]
  clear hIb
  obtain ⟨k1, ek1, hf⟩ := of_zj hf
  have hk1 : ∀  (I2 : IMem), (∀ q j, ¬ M q j → I2 q j = Ib q j) → k1 I2 = some r → ∀ q j, ¬ M q j → r.2 q j = Ib q j := by
    intro I2 fI2 hf
    subst ek1
    refine fc_X_image_15 M fu _ o0 a1 m_o0_1 m_o0_2 ?_ fu 0 I2 fI2 hf
    · intro I8 fI8 hf
      obtain ⟨k9, ek9, hf⟩ := of_zj hf
      have hk9 : ∀  (I10 : IMem), (∀ q j, ¬ M q j → I10 q j = Ib q j) → k9 I10 = some r → ∀ q j, ¬ M q j → r.2 q j = Ib q j := by
        intro I10 fI10 hf
        subst ek9
        obtain ⟨I11, fI11, hf⟩ := fcz_w m_o0_0c3 fI10 hf
        cases hf; exact fI11
      rcases of_ite hf with ⟨_, hf⟩ | ⟨_, hf⟩
      · obtain ⟨u_2, I13, c_1, hf⟩ := of_zb hf
        have fI13 := fcz_t (fc_X_forgets M fu o0 I8 m_o0_13 m_o0_0c35 c_1) fI8
        exact hk9 I13 fI13 hf
      · exact hk9 I8 fI8 hf
  rcases of_ite hf with ⟨_, hf⟩ | ⟨_, hf⟩
  · rcases of_ite hf with ⟨_, hf⟩ | ⟨_, hf⟩
    · cases hf; exact f0
    · exact hk1 I0 f0 hf
  · exact hk1 I0 f0 hf
theorem fc_X_told (M : Nat → Nat → Prop) (fu : Nat) (o0 : Nat) (a1 : Int) (I0 : IMem) {r : Int × IMem} (hf : f_X_told fu o0 a1 I0 = some r) : ∀ q j, ¬ M q j → r.2 q j = I0 q j := by
  unfold f_X_told at hf
  obtain ⟨Ib, hIb⟩ : ∃ Ib : IMem, Ib = I0 := ⟨I0, rfl⟩
  rw [← hIb]
  have f0 : ∀ q j, ¬ M q j → I0 q j = Ib q j := fun q j _ => by rw [hIb]
  clear hIb
  obtain ⟨y1, I2, c_1, hf⟩ := of_zb hf
  have fI2 := fcz_t (fc_X_isIn M fu a1 0 5 I0 c_1) f0
  rcases of_ite hf with ⟨_, hf⟩ | ⟨_, hf⟩
  · rcases of_ite hf with ⟨_, hf⟩ | ⟨_, hf⟩
    · cases hf; exact fI2
    · rcases of_ite hf with ⟨_, hf⟩ | ⟨_, hf⟩
      · cases hf; exact fI2
      · rcases of_ite hf with ⟨_, hf⟩ | ⟨_, hf⟩
        · cases hf; exact fI2
        · cases hf; exact fI2
  · obtain ⟨x4, -, hf⟩ := of_zl hf
    obtain ⟨g_2, hf⟩ := of_zg hf
    cases hf; exact fI2
