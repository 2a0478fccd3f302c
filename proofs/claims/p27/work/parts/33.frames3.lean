/-! frames, on -/
theorem fr_X_laysRow_15 (M : Nat → Prop) (fu : Nat) {r : Int × IMem} {Ib : IMem} (k_87 : IMem → Res) (o0 : Nat) (p1 : Int) (m_o0_0 : M o0) (m_o0_16 : M (o0 + 16)) (hk_87 : ∀ (I9 : IMem), (∀ q, ¬ M q → I9 q = Ib q) → k_87 I9 = some r → ∀ q, ¬ M q → r.2 q = Ib q) : ∀ (m : Nat) (w2 : Int) (I0 : IMem), (∀ q, ¬ M q → I0 q = Ib q) → f_X_laysRow_15 fu k_87 o0 p1 m w2 I0 = some r → ∀ q, ¬ M q → r.2 q = Ib q := by
  intro m
  induction m with
  | zero => intro w2 I0 _ hf; cases hf
  | succ m hR_ =>
    intro w2 I0 fI0 hf
    replace hf : fb_X_laysRow_15 fu k_87 o0 p1 (f_X_laysRow_15 fu k_87 o0 p1 m) w2 I0 = some r := hf
    unfold fb_X_laysRow_15 at hf
    obtain ⟨x2, -, hf⟩ := of_zl hf
    obtain ⟨g_1, hf⟩ := of_zg hf
    rcases of_ite hf with ⟨_, hf⟩ | ⟨_, hf⟩
    · obtain ⟨x3, -, hf⟩ := of_zl hf
      obtain ⟨g_2, hf⟩ := of_zg hf
      rcases of_ite hf with ⟨_, hf⟩ | ⟨_, hf⟩
      · obtain ⟨y4, I5, c_3, hf⟩ := of_zb hf
        have fI5 := fr_tr (fr_X_of M fu o0 p1 w2 3 I0 c_3) fI0
        obtain ⟨k7, ek7, hf⟩ := of_zj hf
        have hk7 : ∀  (I8 : IMem), (∀ q, ¬ M q → I8 q = Ib q) → k7 I8 = some r → ∀ q, ¬ M q → r.2 q = Ib q := by
          intro I8 fI8 hf
          subst ek7
          obtain ⟨x9, -, hf⟩ := of_zl hf
          exact hR_ x9 I8 fI8 hf
        rcases of_ite hf with ⟨_, hf⟩ | ⟨_, hf⟩
        · exact hk7 I5 fI5 hf
        · obtain ⟨x11, -, hf⟩ := of_zl hf
          obtain ⟨g_4, hf⟩ := of_zg hf
          obtain ⟨I10, fI10, hf⟩ := fr_zw m_o0_16 fI5 hf
          obtain ⟨I12, fI12, hf⟩ := fr_zw m_o0_0 fI10 hf
          exact hk7 I12 fI12 hf
      · exact hk_87 I0 fI0 hf
    · exact hk_87 I0 fI0 hf
theorem fr_X_laysRow_7 (M : Nat → Prop) (fu : Nat) {r : Int × IMem} {Ib : IMem} (o0 : Nat) (m_o0_0 : M o0) (m_o0_16 : M (o0 + 16)) : ∀ (m : Nat) (w1 : Int) (I0 : IMem), (∀ q, ¬ M q → I0 q = Ib q) → f_X_laysRow_7 fu o0 m w1 I0 = some r → ∀ q, ¬ M q → r.2 q = Ib q := by
  intro m
  induction m with
  | zero => intro w1 I0 _ hf; cases hf
  | succ m hR_ =>
    intro w1 I0 fI0 hf
    replace hf : fb_X_laysRow_7 fu o0 (f_X_laysRow_7 fu o0 m) w1 I0 = some r := hf
    unfold fb_X_laysRow_7 at hf
    rcases of_ite hf with ⟨_, hf⟩ | ⟨_, hf⟩
    · refine fr_X_laysRow_15 M fu _ o0 w1 m_o0_0 m_o0_16 ?_ fu 0 I0 fI0 hf
      · intro I13 fI13 hf
        obtain ⟨x14, -, hf⟩ := of_zl hf
        exact hR_ x14 I13 fI13 hf
    · cases hf; exact fI0
theorem fr_X_laysRow (M : Nat → Prop) (fu : Nat) (o0 : Nat) (I0 : IMem) {r : Int × IMem} (m_o0_0 : M o0) (m_o0_16 : M (o0 + 16)) (hf : f_X_laysRow fu o0 I0 = some r) : ∀ q, ¬ M q → r.2 q = I0 q := by
  unfold f_X_laysRow at hf
  obtain ⟨Ib, hIb⟩ : ∃ Ib : IMem, Ib = I0 := ⟨I0, rfl⟩
  rw [← hIb]
  have f0 : ∀ q, ¬ M q → I0 q = Ib q := fun q _ => by rw [hIb]
  clear hIb
  obtain ⟨I1, fI1, hf⟩ := fr_zw m_o0_0 f0 hf
  refine fr_X_laysRow_7 M fu o0 m_o0_0 m_o0_16 fu 0 I1 fI1 hf
theorem fr_X_spot (M : Nat → Prop) (fu : Nat) (a0 : Int) (a1 : Int) (a2 : Int) (I0 : IMem) {r : Int × IMem} (hf : f_X_spot fu a0 a1 a2 I0 = some r) : ∀ q, ¬ M q → r.2 q = I0 q := by
  unfold f_X_spot at hf
  obtain ⟨Ib, hIb⟩ : ∃ Ib : IMem, Ib = I0 := ⟨I0, rfl⟩
  rw [← hIb]
  have f0 : ∀ q, ¬ M q → I0 q = Ib q := fun q _ => by rw [hIb]
  clear hIb
  cases hf; exact f0
theorem fr_X_with (M : Nat → Prop) (fu : Nat) (o0 : Nat) (a1 : Int) (a2 : Int) (I0 : IMem) {r : Int × IMem} (hf : f_X_with fu o0 a1 a2 I0 = some r) : ∀ q, ¬ M q → r.2 q = I0 q := by
  unfold f_X_with at hf
  obtain ⟨Ib, hIb⟩ : ∃ Ib : IMem, Ib = I0 := ⟨I0, rfl⟩
  rw [← hIb]
  have f0 : ∀ q, ¬ M q → I0 q = Ib q := fun q _ => by rw [hIb]
  clear hIb
  obtain ⟨x1, -, hf⟩ := of_zl hf
  obtain ⟨g_1, hf⟩ := of_zg hf
  rcases of_ite hf with ⟨_, hf⟩ | ⟨_, hf⟩
  · cases hf; exact f0
  · cases hf; exact f0
theorem fr_X_taking (M : Nat → Prop) (fu : Nat) (o0 : Nat) (a1 : Int) (a2 : Int) (a3 : Int) (I0 : IMem) {r : Int × IMem} (hf : f_X_taking fu o0 a1 a2 a3 I0 = some r) : ∀ q, ¬ M q → r.2 q = I0 q := by
  unfold f_X_taking at hf
  obtain ⟨Ib, hIb⟩ : ∃ Ib : IMem, Ib = I0 := ⟨I0, rfl⟩
  rw [← hIb]
  have f0 : ∀ q, ¬ M q → I0 q = Ib q := fun q _ => by rw [hIb]
  clear hIb
  obtain ⟨g_1, hf⟩ := of_zg hf
  obtain ⟨x1, -, hf⟩ := of_zl hf
  obtain ⟨g_2, hf⟩ := of_zg hf
  obtain ⟨x2, -, hf⟩ := of_zl hf
  rcases of_ite hf with ⟨_, hf⟩ | ⟨_, hf⟩
  · cases hf; exact f0
  · obtain ⟨g_3, hf⟩ := of_zg hf
    obtain ⟨y3, I4, c_4, hf⟩ := of_zb hf
    have fI4 := fr_tr (fr_X_with M fu o0 a3 (I0 (o0 + 16) a1.toNat) I0 c_4) f0
    obtain ⟨y6, I7, c_5, hf⟩ := of_zb hf
    have fI7 := fr_tr (fr_X_spot M fu (wr32 (a1 + 1)) (wr32 (a2 - x2)) y3 I4 c_5) fI4
    obtain ⟨g_6, hf⟩ := of_zg hf
    cases hf; exact fI7
theorem fr_X_reckons_14 (M : Nat → Prop) (fu : Nat) {r : Int × IMem} {Ib : IMem} (k_50 : IMem → Res) (o0 : Nat) (p1 : Int) (m_o0_17 : M (o0 + 17)) (hk_50 : ∀ (I9 : IMem), (∀ q, ¬ M q → I9 q = Ib q) → k_50 I9 = some r → ∀ q, ¬ M q → r.2 q = Ib q) : ∀ (m : Nat) (w2 : Int) (I0 : IMem), (∀ q, ¬ M q → I0 q = Ib q) → f_X_reckons_14 fu k_50 o0 p1 m w2 I0 = some r → ∀ q, ¬ M q → r.2 q = Ib q := by
  intro m
  induction m with
  | zero => intro w2 I0 _ hf; cases hf
  | succ m hR_ =>
    intro w2 I0 fI0 hf
    replace hf : fb_X_reckons_14 fu k_50 o0 p1 (f_X_reckons_14 fu k_50 o0 p1 m) w2 I0 = some r := hf
    unfold fb_X_reckons_14 at hf
    rcases of_ite hf with ⟨_, hf⟩ | ⟨_, hf⟩
    · obtain ⟨y4, I5, c_1, hf⟩ := of_zb hf
      have fI5 := fr_tr (fr_X_spot M fu (I0 o0 40) p1 w2 I0 c_1) fI0
      obtain ⟨k7, ek7, hf⟩ := of_zj hf
      have hk7 : ∀ (x9 : Int) (I8 : IMem), (∀ q, ¬ M q → I8 q = Ib q) → k7 x9 I8 = some r → ∀ q, ¬ M q → r.2 q = Ib q := by
        intro x9 I8 fI8 hf
        subst ek7
        obtain ⟨g_2, hf⟩ := of_zg hf
        obtain ⟨I10, fI10, hf⟩ := fr_zw m_o0_17 fI8 hf
        obtain ⟨x11, -, hf⟩ := of_zl hf
        exact hR_ x11 I10 fI10 hf
      rcases of_ite hf with ⟨_, hf⟩ | ⟨_, hf⟩
      · exact hk7 ((-99)) I5 fI5 hf
      · exact hk7 0 I5 fI5 hf
    · exact hk_50 I0 fI0 hf
theorem fr_X_reckons_6 (M : Nat → Prop) (fu : Nat) {r : Int × IMem} {Ib : IMem} (k_56 : IMem → Res) (o0 : Nat) (m_o0_17 : M (o0 + 17)) (hk_56 : ∀ (I9 : IMem), (∀ q, ¬ M q → I9 q = Ib q) → k_56 I9 = some r → ∀ q, ¬ M q → r.2 q = Ib q) : ∀ (m : Nat) (w1 : Int) (I0 : IMem), (∀ q, ¬ M q → I0 q = Ib q) → f_X_reckons_6 fu k_56 o0 m w1 I0 = some r → ∀ q, ¬ M q → r.2 q = Ib q := by
  intro m
  induction m with
  | zero => intro w1 I0 _ hf; cases hf
  | succ m hR_ =>
    intro w1 I0 fI0 hf
    replace hf : fb_X_reckons_6 fu k_56 o0 (f_X_reckons_6 fu k_56 o0 m) w1 I0 = some r := hf
    unfold fb_X_reckons_6 at hf
    rcases of_ite hf with ⟨_, hf⟩ | ⟨_, hf⟩
    · refine fr_X_reckons_14 M fu _ o0 w1 m_o0_17 ?_ fu 0 I0 fI0 hf
      · intro I12 fI12 hf
        obtain ⟨x13, -, hf⟩ := of_zl hf
        exact hR_ x13 I12 fI12 hf
    · exact hk_56 I0 fI0 hf
theorem fr_X_reckons_77 (M : Nat → Prop) (fu : Nat) {r : Int × IMem} {Ib : IMem} (k_137 : IMem → Res) (o0 : Nat) (p1 : Int) (p2 : Int) (m_o0_17 : M (o0 + 17)) (hk_137 : ∀ (I9 : IMem), (∀ q, ¬ M q → I9 q = Ib q) → k_137 I9 = some r → ∀ q, ¬ M q → r.2 q = Ib q) : ∀ (m : Nat) (w3 : Int) (I0 : IMem), (∀ q, ¬ M q → I0 q = Ib q) → f_X_reckons_77 fu k_137 o0 p1 p2 m w3 I0 = some r → ∀ q, ¬ M q → r.2 q = Ib q := by
  intro m
  induction m with
  | zero => intro w3 I0 _ hf; cases hf
  | succ m hR_ =>
    intro w3 I0 fI0 hf
    replace hf : fb_X_reckons_77 fu k_137 o0 p1 p2 (f_X_reckons_77 fu k_137 o0 p1 p2 m) w3 I0 = some r := hf
    unfold fb_X_reckons_77 at hf
    rcases of_ite hf with ⟨_, hf⟩ | ⟨_, hf⟩
    · obtain ⟨y16, I17, c_1, hf⟩ := of_zb hf
      have fI17 := fr_tr (fr_X_taking M fu o0 p1 p2 w3 I0 c_1) fI0
      obtain ⟨y19, I20, c_2, hf⟩ := of_zb hf
      have fI20 := fr_tr (fr_X_spot M fu (wr32 (p1 + 1)) p2 w3 I17 c_2) fI17
      obtain ⟨g_3, hf⟩ := of_zg hf
      obtain ⟨x22, -, hf⟩ := of_zl hf
      obtain ⟨y23, I24, c_4, hf⟩ := of_zb hf
      have fI24 := fr_tr (fr_X_spot M fu p1 p2 w3 I20 c_4) fI20
      obtain ⟨k26, ek26, hf⟩ := of_zj hf
      have hk26 : ∀ (x28 : Int) (I27 : IMem), (∀ q, ¬ M q → I27 q = Ib q) → k26 x28 I27 = some r → ∀ q, ¬ M q → r.2 q = Ib q := by
        intro x28 I27 fI27 hf
        subst ek26
        obtain ⟨g_5, hf⟩ := of_zg hf
        obtain ⟨I29, fI29, hf⟩ := fr_zw m_o0_17 fI27 hf
        obtain ⟨x30, -, hf⟩ := of_zl hf
        exact hR_ x30 I29 fI29 hf
      rcases of_ite hf with ⟨_, hf⟩ | ⟨_, hf⟩
      · exact hk26 y16 I24 fI24 hf
      · exact hk26 x22 I24 fI24 hf
    · exact hk_137 I0 fI0 hf
theorem fr_X_reckons_69 (M : Nat → Prop) (fu : Nat) {r : Int × IMem} {Ib : IMem} (k_143 : IMem → Res) (o0 : Nat) (p1 : Int) (m_o0_17 : M (o0 + 17)) (hk_143 : ∀ (I9 : IMem), (∀ q, ¬ M q → I9 q = Ib q) → k_143 I9 = some r → ∀ q, ¬ M q → r.2 q = Ib q) : ∀ (m : Nat) (w2 : Int) (I0 : IMem), (∀ q, ¬ M q → I0 q = Ib q) → f_X_reckons_69 fu k_143 o0 p1 m w2 I0 = some r → ∀ q, ¬ M q → r.2 q = Ib q := by
  intro m
  induction m with
  | zero => intro w2 I0 _ hf; cases hf
  | succ m hR_ =>
    intro w2 I0 fI0 hf
    replace hf : fb_X_reckons_69 fu k_143 o0 p1 (f_X_reckons_69 fu k_143 o0 p1 m) w2 I0 = some r := hf
    unfold fb_X_reckons_69 at hf
    rcases of_ite hf with ⟨_, hf⟩ | ⟨_, hf⟩
    · refine fr_X_reckons_77 M fu _ o0 p1 w2 m_o0_17 ?_ fu 0 I0 fI0 hf
      · intro I31 fI31 hf
        obtain ⟨x32, -, hf⟩ := of_zl hf
        exact hR_ x32 I31 fI31 hf
    · exact hk_143 I0 fI0 hf
theorem fr_X_reckons_63 (M : Nat → Prop) (fu : Nat) {r : Int × IMem} {Ib : IMem} (o0 : Nat) (m_o0_17 : M (o0 + 17)) : ∀ (m : Nat) (w1 : Int) (I0 : IMem), (∀ q, ¬ M q → I0 q = Ib q) → f_X_reckons_63 fu o0 m w1 I0 = some r → ∀ q, ¬ M q → r.2 q = Ib q := by
  intro m
  induction m with
  | zero => intro w1 I0 _ hf; cases hf
  | succ m hR_ =>
    intro w1 I0 fI0 hf
    replace hf : fb_X_reckons_63 fu o0 (f_X_reckons_63 fu o0 m) w1 I0 = some r := hf
    unfold fb_X_reckons_63 at hf
    rcases of_ite hf with ⟨_, hf⟩ | ⟨_, hf⟩
    · cases hf; exact fI0
    · refine fr_X_reckons_69 M fu _ o0 w1 m_o0_17 ?_ fu 0 I0 fI0 hf
      · intro I33 fI33 hf
        obtain ⟨x34, -, hf⟩ := of_zl hf
        exact hR_ x34 I33 fI33 hf
theorem fr_X_reckons (M : Nat → Prop) (fu : Nat) (o0 : Nat) (I0 : IMem) {r : Int × IMem} (m_o0_0 : M o0) (m_o0_16 : M (o0 + 16)) (m_o0_17 : M (o0 + 17)) (hf : f_X_reckons fu o0 I0 = some r) : ∀ q, ¬ M q → r.2 q = I0 q := by
  unfold f_X_reckons at hf
  obtain ⟨Ib, hIb⟩ : ∃ Ib : IMem, Ib = I0 := ⟨I0, rfl⟩
  rw [← hIb]
  have f0 : ∀ q, ¬ M q → I0 q = Ib q := fun q _ => by rw [hIb]
  clear hIb
  obtain ⟨u_2, I2, c_1, hf⟩ := of_zb hf
  have fI2 := fr_tr (fr_X_laysRow M fu o0 I0 m_o0_0 m_o0_16 c_1) f0
  refine fr_X_reckons_6 M fu _ o0 m_o0_17 ?_ fu 0 I2 fI2 hf
  · intro I14 fI14 hf
    obtain ⟨x15, -, hf⟩ := of_zl hf
    refine fr_X_reckons_63 M fu o0 m_o0_17 fu x15 I14 fI14 hf
theorem fr_X_best_35 (M : Nat → Prop) (fu : Nat) {r : Int × IMem} {Ib : IMem} (k_88 : Int → IMem → Res) (k_159 : Int → IMem → Res) (o0 : Nat) (p1 : Int) (hk_88 : ∀ (z0 : Int) (I9 : IMem), (∀ q, ¬ M q → I9 q = Ib q) → k_88 z0 I9 = some r → ∀ q, ¬ M q → r.2 q = Ib q) (hk_159 : ∀ (z0 : Int) (I9 : IMem), (∀ q, ¬ M q → I9 q = Ib q) → k_159 z0 I9 = some r → ∀ q, ¬ M q → r.2 q = Ib q) : ∀ (m : Nat) (w2 : Int) (w3 : Int) (w4 : Int) (w5 : Int) (I0 : IMem), (∀ q, ¬ M q → I0 q = Ib q) → f_X_best_35 fu k_88 k_159 o0 p1 m w2 w3 w4 w5 I0 = some r → ∀ q, ¬ M q → r.2 q = Ib q := by
  intro m
  induction m with
  | zero => intro w2 w3 w4 w5 I0 _ hf; cases hf
  | succ m hR_ =>
    intro w2 w3 w4 w5 I0 fI0 hf
    replace hf : fb_X_best_35 fu k_88 k_159 o0 p1 (f_X_best_35 fu k_88 k_159 o0 p1 m) w2 w3 w4 w5 I0 = some r := hf
    unfold fb_X_best_35 at hf
    rcases of_ite hf with ⟨_, hf⟩ | ⟨_, hf⟩
    · obtain ⟨y5, I6, c_1, hf⟩ := of_zb hf
      have fI6 := fr_tr (fr_X_taking M fu o0 w5 w2 w3 I0 c_1) fI0
      obtain ⟨k8, ek8, hf⟩ := of_zj hf
      have hk8 : ∀ (x10 : Int) (x11 : Int) (x12 : Int) (I9 : IMem), (∀ q, ¬ M q → I9 q = Ib q) → k8 x10 x11 x12 I9 = some r → ∀ q, ¬ M q → r.2 q = Ib q := by
        intro x10 x11 x12 I9 fI9 hf
        subst ek8
        obtain ⟨x13, -, hf⟩ := of_zl hf
        exact hR_ x10 x11 x12 x13 I9 fI9 hf
      rcases of_ite hf with ⟨_, hf⟩ | ⟨_, hf⟩
      · exact hk8 w2 w3 w4 I6 fI6 hf
      · obtain ⟨y14, I15, c_2, hf⟩ := of_zb hf
        have fI15 := fr_tr (fr_X_spot M fu w5 w2 w3 I6 c_2) fI6
        obtain ⟨g_3, hf⟩ := of_zg hf
        rcases of_ite hf with ⟨_, hf⟩ | ⟨_, hf⟩
        · exact hk8 w2 w3 w4 I15 fI15 hf
        · rcases of_ite hf with ⟨_, hf⟩ | ⟨_, hf⟩
          · exact hk_88 w5 I15 fI15 hf
          · obtain ⟨x17, -, hf⟩ := of_zl hf
            obtain ⟨g_4, hf⟩ := of_zg hf
            obtain ⟨y18, I19, c_5, hf⟩ := of_zb hf
            have fI19 := fr_tr (fr_X_with M fu o0 w3 (I15 (o0 + 16) w5.toNat) I15 c_5) fI15
            obtain ⟨g_6, hf⟩ := of_zg hf
            obtain ⟨x21, -, hf⟩ := of_zl hf
            obtain ⟨g_7, hf⟩ := of_zg hf
            obtain ⟨x22, -, hf⟩ := of_zl hf
            exact hk8 x22 y18 x17 I19 fI19 hf
    · exact hk_159 w4 I0 fI0 hf
theorem fr_X_best (M : Nat → Prop) (fu : Nat) (o0 : Nat) (a1 : Int) (I0 : IMem) {r : Int × IMem} (m_o0_0 : M o0) (m_o0_16 : M (o0 + 16)) (m_o0_17 : M (o0 + 17)) (hf : f_X_best fu o0 a1 I0 = some r) : ∀ q, ¬ M q → r.2 q = I0 q := by
  unfold f_X_best at hf
  obtain ⟨Ib, hIb⟩ : ∃ Ib : IMem, Ib = I0 := ⟨I0, rfl⟩
  rw [← hIb]
  have f0 : ∀ q, ¬ M q → I0 q = Ib q := fun q _ => by rw [hIb]
  clear hIb
  obtain ⟨u_2, I2, c_1, hf⟩ := of_zb hf
  have fI2 := fr_tr (fr_X_reckons M fu o0 I0 m_o0_0 m_o0_16 m_o0_17 c_1) f0
  obtain ⟨x4, -, hf⟩ := of_zl hf
  rcases of_ite hf with ⟨_, hf⟩ | ⟨_, hf⟩
  · obtain ⟨y27, I28, c_3, hf⟩ := of_zb hf
    have fI28 := fr_tr (fr_X_spot M fu 0 x4 0 I2 c_3) fI2
    obtain ⟨g_4, hf⟩ := of_zg hf
    cases hf; exact fI28
  · refine fr_X_best_35 M fu _ _ o0 a1 ?_ ?_ fu x4 0 0 0 I2 fI2 hf
    · intro x24 I23 fI23 hf
      obtain ⟨g_5, hf⟩ := of_zg hf
      obtain ⟨g_6, hf⟩ := of_zg hf
      cases hf; exact fI23
    · intro x26 I25 fI25 hf
      rcases of_ite hf with ⟨_, hf⟩ | ⟨_, hf⟩
      · cases hf; exact fI25
      · cases hf; exact fI25
theorem fr_X_look (M : Nat → Prop) (fu : Nat) (o0 : Nat) (a1 : Int) (I0 : IMem) {r : Int × IMem} (m_o0_0 : M o0) (m_o0_1 : M (o0 + 1)) (m_o0_16 : M (o0 + 16)) (m_o0_17 : M (o0 + 17)) (hf : f_X_look fu o0 a1 I0 = some r) : ∀ q, ¬ M q → r.2 q = I0 q := by
  unfold f_X_look at hf
  obtain ⟨Ib, hIb⟩ : ∃ Ib : IMem, Ib = I0 := ⟨I0, rfl⟩
  rw [← hIb]
  have f0 : ∀ q, ¬ M q → I0 q = Ib q := fun q _ => by rw [hIb]
  clear hIb
  obtain ⟨y1, I2, c_1, hf⟩ := of_zb hf
  have fI2 := fr_tr (fr_X_isLine M fu a1 I0 c_1) f0
  rcases of_ite hf with ⟨_, hf⟩ | ⟨_, hf⟩
  · cases hf; exact fI2
  · obtain ⟨x4, -, hf⟩ := of_zl hf
    obtain ⟨g_2, hf⟩ := of_zg hf
    rcases of_ite hf with ⟨_, hf⟩ | ⟨_, hf⟩
    · cases hf; exact fI2
    · obtain ⟨y5, I6, c_3, hf⟩ := of_zb hf
      have fI6 := fr_tr (fr_X_best M fu o0 0 I2 m_o0_0 m_o0_16 m_o0_17 c_3) fI2
      obtain ⟨x8, -, hf⟩ := of_zl hf
      obtain ⟨g_4, hf⟩ := of_zg hf
      obtain ⟨g_5, hf⟩ := of_zg hf
      obtain ⟨I9, fI9, hf⟩ := fr_zw m_o0_1 fI6 hf
      obtain ⟨y10, I11, c_6, hf⟩ := of_zb hf
      have fI11 := fr_tr (fr_X_best M fu o0 0 I9 m_o0_0 m_o0_16 m_o0_17 c_6) fI9
      obtain ⟨x13, -, hf⟩ := of_zl hf
      obtain ⟨g_7, hf⟩ := of_zg hf
      obtain ⟨g_8, hf⟩ := of_zg hf
      obtain ⟨I14, fI14, hf⟩ := fr_zw m_o0_1 fI11 hf
      cases hf; exact fI14
theorem fr_X_heap_27 (M : Nat → Prop) (fu : Nat) {r : Int × IMem} {Ib : IMem} (k_63 : Int → IMem → Res) (o0 : Nat) (p1 : Int) (p2 : Int) (hk_63 : ∀ (z0 : Int) (I9 : IMem), (∀ q, ¬ M q → I9 q = Ib q) → k_63 z0 I9 = some r → ∀ q, ¬ M q → r.2 q = Ib q) : ∀ (m : Nat) (w3 : Int) (w4 : Int) (I0 : IMem), (∀ q, ¬ M q → I0 q = Ib q) → f_X_heap_27 fu k_63 o0 p1 p2 m w3 w4 I0 = some r → ∀ q, ¬ M q → r.2 q = Ib q := by
  intro m
  induction m with
  | zero => intro w3 w4 I0 _ hf; cases hf
  | succ m hR_ =>
    intro w3 w4 I0 fI0 hf
    replace hf : fb_X_heap_27 fu k_63 o0 p1 p2 (f_X_heap_27 fu k_63 o0 p1 p2 m) w3 w4 I0 = some r := hf
    unfold fb_X_heap_27 at hf
    rcases of_ite hf with ⟨_, hf⟩ | ⟨_, hf⟩
    · exact hk_63 w3 I0 fI0 hf
    · obtain ⟨k7, ek7, hf⟩ := of_zj hf
      have hk7 : ∀ (x9 : Int) (I8 : IMem), (∀ q, ¬ M q → I8 q = Ib q) → k7 x9 I8 = some r → ∀ q, ¬ M q → r.2 q = Ib q := by
        intro x9 I8 fI8 hf
        subst ek7
        obtain ⟨x10, -, hf⟩ := of_zl hf
        obtain ⟨x11, -, hf⟩ := of_zl hf
        exact hR_ x10 x11 I8 fI8 hf
      rcases of_ite hf with ⟨_, hf⟩ | ⟨_, hf⟩
      · exact hk7 0 I0 fI0 hf
      · obtain ⟨x12, -, hf⟩ := of_zl hf
        obtain ⟨g_1, hf⟩ := of_zg hf
        exact hk7 (I0 (o0 + 1) x12.toNat) I0 fI0 hf
theorem fr_X_heap (M : Nat → Prop) (fu : Nat) (o0 : Nat) (a1 : Int) (a2 : Int) (I0 : IMem) {r : Int × IMem} (m_o0_1 : M (o0 + 1)) (hf : f_X_heap fu o0 a1 a2 I0 = some r) : ∀ q, ¬ M q → r.2 q = I0 q := by
  unfold f_X_heap at hf
  obtain ⟨Ib, hIb⟩ : ∃ Ib : IMem, Ib = I0 := ⟨I0, rfl⟩
  rw [← hIb]
  have f0 : ∀ q, ¬ M q → I0 q = Ib q := fun q _ => by rw [hIb]
  clear hIb
  obtain ⟨y1, I2, c_1, hf⟩ := of_zb hf
  have fI2 := fr_tr (fr_X_isIn M fu a1 1 8 I0 c_1) f0
  rcases of_ite hf with ⟨_, hf⟩ | ⟨_, hf⟩
  · cases hf; exact fI2
  · obtain ⟨y4, I5, c_2, hf⟩ := of_zb hf
    have fI5 := fr_tr (fr_X_isIn M fu a2 0 9 I2 c_2) fI2
    rcases of_ite hf with ⟨_, hf⟩ | ⟨_, hf⟩
    · cases hf; exact fI5
    · refine fr_X_heap_27 M fu _ o0 a1 a2 ?_ fu a2 1 I5 fI5 hf
      · intro x14 I13 fI13 hf
        rcases of_ite hf with ⟨_, hf⟩ | ⟨_, hf⟩
        · cases hf; exact fI13
        · obtain ⟨x16, -, hf⟩ := of_zl hf
          obtain ⟨g_3, hf⟩ := of_zg hf
          obtain ⟨I15, fI15, hf⟩ := fr_zw m_o0_1 fI13 hf
          cases hf; exact fI15
theorem fr_X_greatest_3 (M : Nat → Prop) (fu : Nat) {r : Int × IMem} {Ib : IMem} (o0 : Nat) : ∀ (m : Nat) (w1 : Int) (I0 : IMem), (∀ q, ¬ M q → I0 q = Ib q) → f_X_greatest_3 fu o0 m w1 I0 = some r → ∀ q, ¬ M q → r.2 q = Ib q := by
  intro m
  induction m with
  | zero => intro w1 I0 _ hf; cases hf
  | succ m hR_ =>
    intro w1 I0 fI0 hf
    replace hf : fb_X_greatest_3 fu o0 (f_X_greatest_3 fu o0 m) w1 I0 = some r := hf
    unfold fb_X_greatest_3 at hf
    rcases of_ite hf with ⟨_, hf⟩ | ⟨_, hf⟩
    · obtain ⟨g_1, hf⟩ := of_zg hf
      rcases of_ite hf with ⟨_, hf⟩ | ⟨_, hf⟩
      · cases hf; exact fI0
      · obtain ⟨x1, -, hf⟩ := of_zl hf
        exact hR_ x1 I0 fI0 hf
    · cases hf; exact fI0
theorem fr_X_greatest (M : Nat → Prop) (fu : Nat) (o0 : Nat) (I0 : IMem) {r : Int × IMem} (hf : f_X_greatest fu o0 I0 = some r) : ∀ q, ¬ M q → r.2 q = I0 q := by
  unfold f_X_greatest at hf
  obtain ⟨Ib, hIb⟩ : ∃ Ib : IMem, Ib = I0 := ⟨I0, rfl⟩
  rw [← hIb]
  have f0 : ∀ q, ¬ M q → I0 q = Ib q := fun q _ => by rw [hIb]
  clear hIb
  refine fr_X_greatest_3 M fu o0 fu 8 I0 f0 hf
theorem fr_X_number0_4 (M : Nat → Prop) (fu : Nat) {r : Int × IMem} {Ib : IMem} (o0 : Nat) : ∀ (m : Nat) (w1 : Int) (w2 : Int) (I0 : IMem), (∀ q, ¬ M q → I0 q = Ib q) → f_X_number0_4 fu o0 m w1 w2 I0 = some r → ∀ q, ¬ M q → r.2 q = Ib q := by
  intro m
  induction m with
  | zero => intro w1 w2 I0 _ hf; cases hf
  | succ m hR_ =>
    intro w1 w2 I0 fI0 hf
    replace hf : fb_X_number0_4 fu o0 (f_X_number0_4 fu o0 m) w1 w2 I0 = some r := hf
    unfold fb_X_number0_4 at hf
    rcases of_ite hf with ⟨_, hf⟩ | ⟨_, hf⟩
    · cases hf; exact fI0
    · obtain ⟨g_1, hf⟩ := of_zg hf
      obtain ⟨g_2, hf⟩ := of_zg hf
      obtain ⟨x1, -, hf⟩ := of_zl hf
      obtain ⟨x2, -, hf⟩ := of_zl hf
      exact hR_ x1 x2 I0 fI0 hf
theorem fr_X_number0 (M : Nat → Prop) (fu : Nat) (o0 : Nat) (I0 : IMem) {r : Int × IMem} (hf : f_X_number0 fu o0 I0 = some r) : ∀ q, ¬ M q → r.2 q = I0 q := by
  unfold f_X_number0 at hf
  obtain ⟨Ib, hIb⟩ : ∃ Ib : IMem, Ib = I0 := ⟨I0, rfl⟩
  rw [← hIb]
  have f0 : ∀ q, ¬ M q → I0 q = Ib q := fun q _ => by rw [hIb]
  clear hIb
  refine fr_X_number0_4 M fu o0 fu 0 1 I0 f0 hf
theorem fr_gXN (M : Nat → Prop) (fu : Nat) : ∀ n : Nat, (∀ (o0 : Nat) (I0 : IMem) (r : Int × IMem), M (o0 + 18) → M (o0 + 19) → (gXN fu n).1 o0 I0 = some r → ∀ q, ¬ M q → r.2 q = I0 q) ∧ (∀ (o0 : Nat) (a1 : Int) (a2 : Int) (I0 : IMem) (r : Int × IMem), M (o0 + 18) → M (o0 + 19) → (gXN fu n).2 o0 a1 a2 I0 = some r → ∀ q, ¬ M q → r.2 q = I0 q) := by
  intro n
  induction n with
  | zero => exact ⟨(fun _ _ r _ _ hf => by cases hf), (fun _ _ _ _ r _ _ hf => by cases hf)⟩
  | succ n hR =>
    refine ⟨?_, ?_⟩
    · intro o0 I0 r m_o0_18 m_o0_19 hf
      replace hf : fb_X_needs fu (gXN fu n) o0 I0 = some r := hf
      unfold fb_X_needs at hf
      obtain ⟨Ib, hIb⟩ : ∃ Ib : IMem, Ib = I0 := ⟨I0, rfl⟩
      rw [← hIb]
      have f0 : ∀ q, ¬ M q → I0 q = Ib q := fun q _ => by rw [hIb]
      clear hIb
      obtain ⟨y1, I2, c_1, hf⟩ := of_zb hf
      have fI2 := fr_tr (fr_X_greatest M fu o0 I0 c_1) f0
      rcases of_ite hf with ⟨_, hf⟩ | ⟨_, hf⟩
      · cases hf; exact fI2
      · obtain ⟨y4, I5, c_2, hf⟩ := of_zb hf
        have fI5 := fr_tr (fr_X_number0 M fu o0 I2 c_2) fI2
        obtain ⟨g_3, hf⟩ := of_zg hf
        rcases of_ite hf with ⟨_, hf⟩ | ⟨_, hf⟩
        · obtain ⟨g_4, hf⟩ := of_zg hf
          obtain ⟨g_5, hf⟩ := of_zg hf
          obtain ⟨I7, fI7, hf⟩ := fr_zw m_o0_19 fI5 hf
          obtain ⟨y8, I9, c_6, hf⟩ := of_zb hf
          have fI9 := fr_tr (hR.2 o0 y1 (wr32 ((I7 (o0 + 1) 1) - y1)) I7 _ m_o0_18 m_o0_19 c_6) fI7
          obtain ⟨x11, -, hf⟩ := of_zl hf
          obtain ⟨g_7, hf⟩ := of_zg hf
          obtain ⟨g_8, hf⟩ := of_zg hf
          obtain ⟨I12, fI12, hf⟩ := fr_zw m_o0_19 fI9 hf
          obtain ⟨g_9, hf⟩ := of_zg hf
          obtain ⟨I13, fI13, hf⟩ := fr_zw m_o0_18 fI12 hf
          cases hf; exact fI13
        · obtain ⟨g_10, hf⟩ := of_zg hf
          cases hf; exact fI5
    · intro o0 a1 a2 I0 r m_o0_18 m_o0_19 hf
      replace hf : fb_X_fewestBehind fu (gXN fu n) o0 a1 a2 I0 = some r := hf
      unfold fb_X_fewestBehind at hf
      obtain ⟨Ib, hIb⟩ : ∃ Ib : IMem, Ib = I0 := ⟨I0, rfl⟩
      rw [← hIb]
      have f0 : ∀ q, ¬ M q → I0 q = Ib q := fun q _ => by rw [hIb]
      clear hIb
      rcases of_ite hf with ⟨_, hf⟩ | ⟨_, hf⟩
      · obtain ⟨y9, I10, c_1, hf⟩ := of_zb hf
        have fI10 := fr_tr (hR.1 o0 I0 _ m_o0_18 m_o0_19 c_1) f0
        cases hf; exact fI10
      · obtain ⟨y1, I2, c_2, hf⟩ := of_zb hf
        have fI2 := fr_tr (hR.2 o0 (wr32 (a1 - 1)) a2 I0 _ m_o0_18 m_o0_19 c_2) f0
        obtain ⟨g_3, hf⟩ := of_zg hf
        rcases of_ite hf with ⟨_, hf⟩ | ⟨_, hf⟩
        · cases hf; exact fI2
        · rcases of_ite hf with ⟨_, hf⟩ | ⟨_, hf⟩
          · cases hf; exact fI2
          · obtain ⟨g_4, hf⟩ := of_zg hf
            obtain ⟨g_5, hf⟩ := of_zg hf
            obtain ⟨I4, fI4, hf⟩ := fr_zw m_o0_19 fI2 hf
            obtain ⟨y5, I6, c_6, hf⟩ := of_zb hf
            have fI6 := fr_tr (hR.2 o0 a1 (wr32 (a2 - a1)) I4 _ m_o0_18 m_o0_19 c_6) fI4
            obtain ⟨g_7, hf⟩ := of_zg hf
            obtain ⟨g_8, hf⟩ := of_zg hf
            obtain ⟨I8, fI8, hf⟩ := fr_zw m_o0_19 fI6 hf
            rcases of_ite hf with ⟨_, hf⟩ | ⟨_, hf⟩
            · cases hf; exact fI8
            · cases hf; exact fI8
theorem fr_X_needs (M : Nat → Prop) (fu : Nat) (o0 : Nat) (I0 : IMem) {r : Int × IMem} (m_o0_18 : M (o0 + 18)) (m_o0_19 : M (o0 + 19)) (hf : f_X_needs fu o0 I0 = some r) : ∀ q, ¬ M q → r.2 q = I0 q := (fr_gXN M fu _).1 o0 I0 r m_o0_18 m_o0_19 hf
theorem fr_X_fewestBehind (M : Nat → Prop) (fu : Nat) (o0 : Nat) (a1 : Int) (a2 : Int) (I0 : IMem) {r : Int × IMem} (m_o0_18 : M (o0 + 18)) (m_o0_19 : M (o0 + 19)) (hf : f_X_fewestBehind fu o0 a1 a2 I0 = some r) : ∀ q, ¬ M q → r.2 q = I0 q := (fr_gXN M fu _).2 o0 a1 a2 I0 r m_o0_18 m_o0_19 hf
theorem fr_X_fillsFirst_48 (M : Nat → Prop) (fu : Nat) (R : (Nat → Int → Int → Int → IMem → Res)) (hR : (∀ (o0 : Nat) (a1 : Int) (a2 : Int) (a3 : Int) (I0 : IMem) (r : Int × IMem), M (o0 + 18) → M (o0 + 19) → M (o0 + 21) → R o0 a1 a2 a3 I0 = some r → ∀ q, ¬ M q → r.2 q = I0 q)) {r : Int × IMem} {Ib : IMem} (o0 : Nat) (p1 : Int) (p2 : Int) (p3 : Int) (m_o0_18 : M (o0 + 18)) (m_o0_19 : M (o0 + 19)) (m_o0_21 : M (o0 + 21)) : ∀ (m : Nat) (w5 : Int) (I0 : IMem), (∀ q, ¬ M q → I0 q = Ib q) → f_X_fillsFirst_48 fu R o0 p1 p2 p3 m w5 I0 = some r → ∀ q, ¬ M q → r.2 q = Ib q := by
  intro m
  induction m with
  | zero => intro w5 I0 _ hf; cases hf
  | succ m hR_ =>
    intro w5 I0 fI0 hf
    replace hf : fb_X_fillsFirst_48 fu R o0 p1 p2 p3 (f_X_fillsFirst_48 fu R o0 p1 p2 p3 m) w5 I0 = some r := hf
    unfold fb_X_fillsFirst_48 at hf
    rcases of_ite hf with ⟨_, hf⟩ | ⟨_, hf⟩
    · cases hf; exact fI0
    · obtain ⟨g_1, hf⟩ := of_zg hf
      obtain ⟨g_2, hf⟩ := of_zg hf
      obtain ⟨I4, fI4, hf⟩ := fr_zw m_o0_19 fI0 hf
      obtain ⟨g_3, hf⟩ := of_zg hf
      obtain ⟨g_4, hf⟩ := of_zg hf
      obtain ⟨I5, fI5, hf⟩ := fr_zw m_o0_21 fI4 hf
      obtain ⟨y6, I7, c_5, hf⟩ := of_zb hf
      have fI7 := fr_tr (hR o0 (wr32 (p1 - 1)) (wr32 (p2 - (wr32 (w5 * p1)))) p3 I5 _ m_o0_18 m_o0_19 m_o0_21 c_5) fI5
      obtain ⟨g_6, hf⟩ := of_zg hf
      obtain ⟨g_7, hf⟩ := of_zg hf
      obtain ⟨I9, fI9, hf⟩ := fr_zw m_o0_19 fI7 hf
      rcases of_ite hf with ⟨_, hf⟩ | ⟨_, hf⟩
      · obtain ⟨g_8, hf⟩ := of_zg hf
        obtain ⟨g_9, hf⟩ := of_zg hf
        obtain ⟨I10, fI10, hf⟩ := fr_zw m_o0_21 fI9 hf
        obtain ⟨x11, -, hf⟩ := of_zl hf
        exact hR_ x11 I10 fI10 hf
      · cases hf; exact fI9
theorem fr_gXF (M : Nat → Prop) (fu : Nat) : ∀ n : Nat, (∀ (o0 : Nat) (a1 : Int) (a2 : Int) (a3 : Int) (I0 : IMem) (r : Int × IMem), M (o0 + 18) → M (o0 + 19) → M (o0 + 21) → gXF fu n o0 a1 a2 a3 I0 = some r → ∀ q, ¬ M q → r.2 q = I0 q) := by
  intro n
  induction n with
  | zero => exact (fun _ _ _ _ _ r _ _ _ hf => by cases hf)
  | succ n hR =>
    · intro o0 a1 a2 a3 I0 r m_o0_18 m_o0_19 m_o0_21 hf
      replace hf : fb_X_fillsFirst fu (gXF fu n) o0 a1 a2 a3 I0 = some r := hf
      unfold fb_X_fillsFirst at hf
      obtain ⟨Ib, hIb⟩ : ∃ Ib : IMem, Ib = I0 := ⟨I0, rfl⟩
      rw [← hIb]
      have f0 : ∀ q, ¬ M q → I0 q = Ib q := fun q _ => by rw [hIb]
      clear hIb
      rcases of_ite hf with ⟨_, hf⟩ | ⟨_, hf⟩
      · obtain ⟨y12, I13, c_1, hf⟩ := of_zb hf
        have fI13 := fr_tr (fr_X_needs M fu o0 I0 m_o0_18 m_o0_19 c_1) f0
        rcases of_ite hf with ⟨_, hf⟩ | ⟨_, hf⟩
        · cases hf; exact fI13
        · cases hf; exact fI13
      · obtain ⟨g_2, hf⟩ := of_zg hf
        obtain ⟨g_3, hf⟩ := of_zg hf
        obtain ⟨k1, ek1, hf⟩ := of_zj hf
        have hk1 : ∀ (x3 : Int) (I2 : IMem), (∀ q, ¬ M q → I2 q = Ib q) → k1 x3 I2 = some r → ∀ q, ¬ M q → r.2 q = Ib q := by
          intro x3 I2 fI2 hf
          subst ek1
          refine fr_X_fillsFirst_48 M fu _ hR o0 a1 a2 a3 m_o0_18 m_o0_19 m_o0_21 fu x3 I2 fI2 hf
        rcases of_ite hf with ⟨_, hf⟩ | ⟨_, hf⟩
        · obtain ⟨g_4, hf⟩ := of_zg hf
          exact hk1 (wdiv a2 a1) I0 f0 hf
        · obtain ⟨g_5, hf⟩ := of_zg hf
          exact hk1 (I0 (o0 + 19) a1.toNat) I0 f0 hf
theorem fr_X_fillsFirst (M : Nat → Prop) (fu : Nat) (o0 : Nat) (a1 : Int) (a2 : Int) (a3 : Int) (I0 : IMem) {r : Int × IMem} (m_o0_18 : M (o0 + 18)) (m_o0_19 : M (o0 + 19)) (m_o0_21 : M (o0 + 21)) (hf : f_X_fillsFirst fu o0 a1 a2 a3 I0 = some r) : ∀ q, ¬ M q → r.2 q = I0 q := (fr_gXF M fu _) o0 a1 a2 a3 I0 r m_o0_18 m_o0_19 m_o0_21 hf
theorem fr_X_fewest_16 (M : Nat → Prop) (fu : Nat) {r : Int × IMem} {Ib : IMem} (k_89 : Int → IMem → Res) (o0 : Nat) (p1 : Int) (m_o0_19 : M (o0 + 19)) (m_o0_20 : M (o0 + 20)) (m_o0_21 : M (o0 + 21)) (hk_89 : ∀ (z0 : Int) (I9 : IMem), (∀ q, ¬ M q → I9 q = Ib q) → k_89 z0 I9 = some r → ∀ q, ¬ M q → r.2 q = Ib q) : ∀ (m : Nat) (w2 : Int) (w3 : Int) (I0 : IMem), (∀ q, ¬ M q → I0 q = Ib q) → f_X_fewest_16 fu k_89 o0 p1 m w2 w3 I0 = some r → ∀ q, ¬ M q → r.2 q = Ib q := by
  intro m
  induction m with
  | zero => intro w2 w3 I0 _ hf; cases hf
  | succ m hR_ =>
    intro w2 w3 I0 fI0 hf
    replace hf : fb_X_fewest_16 fu k_89 o0 p1 (f_X_fewest_16 fu k_89 o0 p1 m) w2 w3 I0 = some r := hf
    unfold fb_X_fewest_16 at hf
    rcases of_ite hf with ⟨_, hf⟩ | ⟨_, hf⟩
    · exact hk_89 w2 I0 fI0 hf
    · obtain ⟨x4, -, hf⟩ := of_zl hf
      obtain ⟨g_1, hf⟩ := of_zg hf
      obtain ⟨g_2, hf⟩ := of_zg hf
      obtain ⟨I5, fI5, hf⟩ := fr_zw m_o0_19 fI0 hf
      obtain ⟨g_3, hf⟩ := of_zg hf
      obtain ⟨I6, fI6, hf⟩ := fr_zw m_o0_21 fI5 hf
      obtain ⟨g_4, hf⟩ := of_zg hf
      obtain ⟨I7, fI7, hf⟩ := fr_zw m_o0_20 fI6 hf
      obtain ⟨g_5, hf⟩ := of_zg hf
      obtain ⟨x8, -, hf⟩ := of_zl hf
      obtain ⟨g_6, hf⟩ := of_zg hf
      obtain ⟨k9, ek9, hf⟩ := of_zj hf
      have hk9 : ∀  (I10 : IMem), (∀ q, ¬ M q → I10 q = Ib q) → k9 I10 = some r → ∀ q, ¬ M q → r.2 q = Ib q := by
        intro I10 fI10 hf
        subst ek9
        obtain ⟨x11, -, hf⟩ := of_zl hf
        exact hR_ x8 x11 I10 fI10 hf
      rcases of_ite hf with ⟨_, hf⟩ | ⟨_, hf⟩
      · rcases of_ite hf with ⟨_, hf⟩ | ⟨_, hf⟩
        · cases hf; exact fI7
        · exact hk9 I7 fI7 hf
      · exact hk9 I7 fI7 hf
theorem fr_X_fewest_91 (M : Nat → Prop) (fu : Nat) {r : Int × IMem} {Ib : IMem} (k_109 : IMem → Res) (o0 : Nat) (p1 : Int) (p2 : Int) (m_o0_18 : M (o0 + 18)) (hk_109 : ∀ (I9 : IMem), (∀ q, ¬ M q → I9 q = Ib q) → k_109 I9 = some r → ∀ q, ¬ M q → r.2 q = Ib q) : ∀ (m : Nat) (w3 : Int) (I0 : IMem), (∀ q, ¬ M q → I0 q = Ib q) → f_X_fewest_91 fu k_109 o0 p1 p2 m w3 I0 = some r → ∀ q, ¬ M q → r.2 q = Ib q := by
  intro m
  induction m with
  | zero => intro w3 I0 _ hf; cases hf
  | succ m hR_ =>
    intro w3 I0 fI0 hf
    replace hf : fb_X_fewest_91 fu k_109 o0 p1 p2 (f_X_fewest_91 fu k_109 o0 p1 p2 m) w3 I0 = some r := hf
    unfold fb_X_fewest_91 at hf
    rcases of_ite hf with ⟨_, hf⟩ | ⟨_, hf⟩
    · obtain ⟨g_1, hf⟩ := of_zg hf
      obtain ⟨I14, fI14, hf⟩ := fr_zw m_o0_18 fI0 hf
      obtain ⟨x15, -, hf⟩ := of_zl hf
      exact hR_ x15 I14 fI14 hf
    · exact hk_109 I0 fI0 hf
theorem fr_X_fewest (M : Nat → Prop) (fu : Nat) (o0 : Nat) (a1 : Int) (I0 : IMem) {r : Int × IMem} (m_o0_18 : M (o0 + 18)) (m_o0_19 : M (o0 + 19)) (m_o0_20 : M (o0 + 20)) (m_o0_21 : M (o0 + 21)) (hf : f_X_fewest fu o0 a1 I0 = some r) : ∀ q, ¬ M q → r.2 q = I0 q := by
  unfold f_X_fewest at hf
  obtain ⟨Ib, hIb⟩ : ∃ Ib : IMem, Ib = I0 := ⟨I0, rfl⟩
  rw [← hIb]
  have f0 : ∀ q, ¬ M q → I0 q = Ib q := fun q _ => by rw [hIb]
  clear hIb
  obtain ⟨y1, I2, c_1, hf⟩ := of_zb hf
  have fI2 := fr_tr (fr_X_isIn M fu a1 0 8 I0 c_1) f0
  rcases of_ite hf with ⟨_, hf⟩ | ⟨_, hf⟩
  · cases hf; exact fI2
  · refine fr_X_fewest_16 M fu _ o0 a1 m_o0_19 m_o0_20 m_o0_21 ?_ fu 1 1 I2 fI2 hf
    · intro x13 I12 fI12 hf
      refine fr_X_fewest_91 M fu _ o0 a1 x13 m_o0_18 ?_ fu 0 I12 fI12 hf
      · intro I16 fI16 hf
        obtain ⟨y17, I18, c_2, hf⟩ := of_zb hf
        have fI18 := fr_tr (fr_X_needs M fu o0 I16 m_o0_18 m_o0_19 c_2) fI16
        rcases of_ite hf with ⟨_, hf⟩ | ⟨_, hf⟩
        · cases hf; exact fI18
        · rcases of_ite hf with ⟨_, hf⟩ | ⟨_, hf⟩
          · cases hf; exact fI18
          · obtain ⟨y20, I21, c_3, hf⟩ := of_zb hf
            have fI21 := fr_tr (fr_X_greatest M fu o0 I18 c_3) fI18
            obtain ⟨g_4, hf⟩ := of_zg hf
            obtain ⟨g_5, hf⟩ := of_zg hf
            obtain ⟨I23, fI23, hf⟩ := fr_zw m_o0_19 fI21 hf
            obtain ⟨g_6, hf⟩ := of_zg hf
            obtain ⟨I24, fI24, hf⟩ := fr_zw m_o0_21 fI23 hf
            obtain ⟨y25, I26, c_7, hf⟩ := of_zb hf
            have fI26 := fr_tr (fr_X_fillsFirst M fu o0 y20 (wr32 ((I24 (o0 + 1) 1) - y20)) (wr32 (y17 - 1)) I24 m_o0_18 m_o0_19 m_o0_21 c_7) fI24
            rcases of_ite hf with ⟨_, hf⟩ | ⟨_, hf⟩
            · cases hf; exact fI26
            · obtain ⟨g_8, hf⟩ := of_zg hf
              cases hf; exact fI26
theorem fr_X_comesBack_2 (M : Nat → Prop) (fu : Nat) {r : Int × IMem} {Ib : IMem} (k_27 : IMem → Res) (o0 : Nat) (m_o0_1 : M (o0 + 1)) (hk_27 : ∀ (I9 : IMem), (∀ q, ¬ M q → I9 q = Ib q) → k_27 I9 = some r → ∀ q, ¬ M q → r.2 q = Ib q) : ∀ (m : Nat) (w1 : Int) (I0 : IMem), (∀ q, ¬ M q → I0 q = Ib q) → f_X_comesBack_2 fu k_27 o0 m w1 I0 = some r → ∀ q, ¬ M q → r.2 q = Ib q := by
  intro m
  induction m with
  | zero => intro w1 I0 _ hf; cases hf
  | succ m hR_ =>
    intro w1 I0 fI0 hf
    replace hf : fb_X_comesBack_2 fu k_27 o0 (f_X_comesBack_2 fu k_27 o0 m) w1 I0 = some r := hf
    unfold fb_X_comesBack_2 at hf
    rcases of_ite hf with ⟨_, hf⟩ | ⟨_, hf⟩
    · obtain ⟨g_1, hf⟩ := of_zg hf
      obtain ⟨g_2, hf⟩ := of_zg hf
      obtain ⟨I1, fI1, hf⟩ := fr_zw m_o0_1 fI0 hf
      obtain ⟨x2, -, hf⟩ := of_zl hf
      exact hR_ x2 I1 fI1 hf
    · exact hk_27 I0 fI0 hf
theorem fr_X_comesBack_29 (M : Nat → Prop) (fu : Nat) {r : Int × IMem} {Ib : IMem} (k_54 : IMem → Res) (o0 : Nat) (m_o0_13 : M (o0 + 13)) (hk_54 : ∀ (I9 : IMem), (∀ q, ¬ M q → I9 q = Ib q) → k_54 I9 = some r → ∀ q, ¬ M q → r.2 q = Ib q) : ∀ (m : Nat) (w1 : Int) (I0 : IMem), (∀ q, ¬ M q → I0 q = Ib q) → f_X_comesBack_29 fu k_54 o0 m w1 I0 = some r → ∀ q, ¬ M q → r.2 q = Ib q := by
  intro m
  induction m with
  | zero => intro w1 I0 _ hf; cases hf
  | succ m hR_ =>
    intro w1 I0 fI0 hf
    replace hf : fb_X_comesBack_29 fu k_54 o0 (f_X_comesBack_29 fu k_54 o0 m) w1 I0 = some r := hf
    unfold fb_X_comesBack_29 at hf
    rcases of_ite hf with ⟨_, hf⟩ | ⟨_, hf⟩
    · obtain ⟨g_1, hf⟩ := of_zg hf
      obtain ⟨g_2, hf⟩ := of_zg hf
      obtain ⟨g_3, hf⟩ := of_zg hf
      obtain ⟨I4, fI4, hf⟩ := fr_zw m_o0_13 fI0 hf
      obtain ⟨x6, -, hf⟩ := of_zl hf
      exact hR_ x6 I4 fI4 hf
    · exact hk_54 I0 fI0 hf
theorem fr_X_comesBack_56 (M : Nat → Prop) (fu : Nat) {r : Int × IMem} {Ib : IMem} (k_80 : IMem → Res) (o0 : Nat) (m_o0_15 : M (o0 + 15)) (hk_80 : ∀ (I9 : IMem), (∀ q, ¬ M q → I9 q = Ib q) → k_80 I9 = some r → ∀ q, ¬ M q → r.2 q = Ib q) : ∀ (m : Nat) (w1 : Int) (I0 : IMem), (∀ q, ¬ M q → I0 q = Ib q) → f_X_comesBack_56 fu k_80 o0 m w1 I0 = some r → ∀ q, ¬ M q → r.2 q = Ib q := by
  intro m
  induction m with
  | zero => intro w1 I0 _ hf; cases hf
  | succ m hR_ =>
    intro w1 I0 fI0 hf
    replace hf : fb_X_comesBack_56 fu k_80 o0 (f_X_comesBack_56 fu k_80 o0 m) w1 I0 = some r := hf
    unfold fb_X_comesBack_56 at hf
    rcases of_ite hf with ⟨_, hf⟩ | ⟨_, hf⟩
    · obtain ⟨g_1, hf⟩ := of_zg hf
      obtain ⟨g_2, hf⟩ := of_zg hf
      obtain ⟨I8, fI8, hf⟩ := fr_zw m_o0_15 fI0 hf
      obtain ⟨x9, -, hf⟩ := of_zl hf
      exact hR_ x9 I8 fI8 hf
    · exact hk_80 I0 fI0 hf
theorem fr_X_comesBack (M : Nat → Prop) (fu : Nat) (o0 : Nat) (I0 : IMem) {r : Int × IMem} (m_o0_0 : M o0) (m_o0_1 : M (o0 + 1)) (m_o0_13 : M (o0 + 13)) (m_o0_15 : M (o0 + 15)) (hf : f_X_comesBack fu o0 I0 = some r) : ∀ q, ¬ M q → r.2 q = I0 q := by
  unfold f_X_comesBack at hf
  obtain ⟨Ib, hIb⟩ : ∃ Ib : IMem, Ib = I0 := ⟨I0, rfl⟩
  rw [← hIb]
  have f0 : ∀ q, ¬ M q → I0 q = Ib q := fun q _ => by rw [hIb]
  clear hIb
  refine fr_X_comesBack_2 M fu _ o0 m_o0_1 ?_ fu 0 I0 f0 hf
  · intro I3 fI3 hf
    refine fr_X_comesBack_29 M fu _ o0 m_o0_13 ?_ fu 0 I3 fI3 hf
    · intro I7 fI7 hf
      refine fr_X_comesBack_56 M fu _ o0 m_o0_15 ?_ fu 0 I7 fI7 hf
      · intro I10 fI10 hf
        obtain ⟨I11, fI11, hf⟩ := fr_zw m_o0_0 fI10 hf
        cases hf; exact fI11
theorem fr_X_longest_4 (M : Nat → Prop) (fu : Nat) {r : Int × IMem} {Ib : IMem} (o0 : Nat) : ∀ (m : Nat) (w1 : Int) (w2 : Int) (I0 : IMem), (∀ q, ¬ M q → I0 q = Ib q) → f_X_longest_4 fu o0 m w1 w2 I0 = some r → ∀ q, ¬ M q → r.2 q = Ib q := by
  intro m
  induction m with
  | zero => intro w1 w2 I0 _ hf; cases hf
  | succ m hR_ =>
    intro w1 w2 I0 fI0 hf
    replace hf : fb_X_longest_4 fu o0 (f_X_longest_4 fu o0 m) w1 w2 I0 = some r := hf
    unfold fb_X_longest_4 at hf
    rcases of_ite hf with ⟨_, hf⟩ | ⟨_, hf⟩
    · cases hf; exact fI0
    · obtain ⟨x1, -, hf⟩ := of_zl hf
      obtain ⟨g_1, hf⟩ := of_zg hf
      obtain ⟨k2, ek2, hf⟩ := of_zj hf
      have hk2 : ∀ (x4 : Int) (I3 : IMem), (∀ q, ¬ M q → I3 q = Ib q) → k2 x4 I3 = some r → ∀ q, ¬ M q → r.2 q = Ib q := by
        intro x4 I3 fI3 hf
        subst ek2
        obtain ⟨x5, -, hf⟩ := of_zl hf
        exact hR_ x4 x5 I3 fI3 hf
      rcases of_ite hf with ⟨_, hf⟩ | ⟨_, hf⟩
      · obtain ⟨x6, -, hf⟩ := of_zl hf
        obtain ⟨g_2, hf⟩ := of_zg hf
        exact hk2 (I0 (o0 + 1) x6.toNat) I0 fI0 hf
      · exact hk2 w1 I0 fI0 hf
theorem fr_X_longest (M : Nat → Prop) (fu : Nat) (o0 : Nat) (I0 : IMem) {r : Int × IMem} (hf : f_X_longest fu o0 I0 = some r) : ∀ q, ¬ M q → r.2 q = I0 q := by
  unfold f_X_longest at hf
  obtain ⟨Ib, hIb⟩ : ∃ Ib : IMem, Ib = I0 := ⟨I0, rfl⟩
  rw [← hIb]
  have f0 : ∀ q, ¬ M q → I0 q = Ib q := fun q _ => by rw [hIb]
  clear hIb
  refine fr_X_longest_4 M fu o0 fu 0 1 I0 f0 hf
theorem fr_X_setsOut_2 (M : Nat → Prop) (fu : Nat) {r : Int × IMem} {Ib : IMem} (k_27 : IMem → Res) (o0 : Nat) (m_o0_3 : M (o0 + 3)) (hk_27 : ∀ (I9 : IMem), (∀ q, ¬ M q → I9 q = Ib q) → k_27 I9 = some r → ∀ q, ¬ M q → r.2 q = Ib q) : ∀ (m : Nat) (w1 : Int) (I0 : IMem), (∀ q, ¬ M q → I0 q = Ib q) → f_X_setsOut_2 fu k_27 o0 m w1 I0 = some r → ∀ q, ¬ M q → r.2 q = Ib q := by
  intro m
  induction m with
  | zero => intro w1 I0 _ hf; cases hf
  | succ m hR_ =>
    intro w1 I0 fI0 hf
    replace hf : fb_X_setsOut_2 fu k_27 o0 (f_X_setsOut_2 fu k_27 o0 m) w1 I0 = some r := hf
    unfold fb_X_setsOut_2 at hf
    rcases of_ite hf with ⟨_, hf⟩ | ⟨_, hf⟩
    · obtain ⟨g_1, hf⟩ := of_zg hf
      obtain ⟨g_2, hf⟩ := of_zg hf
      obtain ⟨I1, fI1, hf⟩ := fr_zw m_o0_3 fI0 hf
      obtain ⟨x2, -, hf⟩ := of_zl hf
      exact hR_ x2 I1 fI1 hf
    · exact hk_27 I0 fI0 hf
theorem fr_X_setsOut_29 (M : Nat → Prop) (fu : Nat) {r : Int × IMem} {Ib : IMem} (k_54 : IMem → Res) (o0 : Nat) (m_o0_23 : M (o0 + 23)) (hk_54 : ∀ (I9 : IMem), (∀ q, ¬ M q → I9 q = Ib q) → k_54 I9 = some r → ∀ q, ¬ M q → r.2 q = Ib q) : ∀ (m : Nat) (w1 : Int) (I0 : IMem), (∀ q, ¬ M q → I0 q = Ib q) → f_X_setsOut_29 fu k_54 o0 m w1 I0 = some r → ∀ q, ¬ M q → r.2 q = Ib q := by
  intro m
  induction m with
  | zero => intro w1 I0 _ hf; cases hf
  | succ m hR_ =>
    intro w1 I0 fI0 hf
    replace hf : fb_X_setsOut_29 fu k_54 o0 (f_X_setsOut_29 fu k_54 o0 m) w1 I0 = some r := hf
    unfold fb_X_setsOut_29 at hf
    rcases of_ite hf with ⟨_, hf⟩ | ⟨_, hf⟩
    · obtain ⟨g_1, hf⟩ := of_zg hf
      obtain ⟨g_2, hf⟩ := of_zg hf
      obtain ⟨g_3, hf⟩ := of_zg hf
      obtain ⟨I4, fI4, hf⟩ := fr_zw m_o0_23 fI0 hf
      obtain ⟨x6, -, hf⟩ := of_zl hf
      exact hR_ x6 I4 fI4 hf
    · exact hk_54 I0 fI0 hf
theorem fr_X_setsOut_56 (M : Nat → Prop) (fu : Nat) {r : Int × IMem} {Ib : IMem} (k_80 : IMem → Res) (o0 : Nat) (m_o0_24 : M (o0 + 24)) (hk_80 : ∀ (I9 : IMem), (∀ q, ¬ M q → I9 q = Ib q) → k_80 I9 = some r → ∀ q, ¬ M q → r.2 q = Ib q) : ∀ (m : Nat) (w1 : Int) (I0 : IMem), (∀ q, ¬ M q → I0 q = Ib q) → f_X_setsOut_56 fu k_80 o0 m w1 I0 = some r → ∀ q, ¬ M q → r.2 q = Ib q := by
  intro m
  induction m with
  | zero => intro w1 I0 _ hf; cases hf
  | succ m hR_ =>
    intro w1 I0 fI0 hf
    replace hf : fb_X_setsOut_56 fu k_80 o0 (f_X_setsOut_56 fu k_80 o0 m) w1 I0 = some r := hf
    unfold fb_X_setsOut_56 at hf
    rcases of_ite hf with ⟨_, hf⟩ | ⟨_, hf⟩
    · obtain ⟨g_1, hf⟩ := of_zg hf
      obtain ⟨g_2, hf⟩ := of_zg hf
      obtain ⟨I8, fI8, hf⟩ := fr_zw m_o0_24 fI0 hf
      obtain ⟨x9, -, hf⟩ := of_zl hf
      exact hR_ x9 I8 fI8 hf
    · exact hk_80 I0 fI0 hf
theorem fr_X_setsOut (M : Nat → Prop) (fu : Nat) (o0 : Nat) (I0 : IMem) {r : Int × IMem} (m_o0_0 : M o0) (m_o0_3 : M (o0 + 3)) (m_o0_23 : M (o0 + 23)) (m_o0_24 : M (o0 + 24)) (hf : f_X_setsOut fu o0 I0 = some r) : ∀ q, ¬ M q → r.2 q = I0 q := by
  unfold f_X_setsOut at hf
  obtain ⟨Ib, hIb⟩ : ∃ Ib : IMem, Ib = I0 := ⟨I0, rfl⟩
  rw [← hIb]
  have f0 : ∀ q, ¬ M q → I0 q = Ib q := fun q _ => by rw [hIb]
  clear hIb
  refine fr_X_setsOut_2 M fu _ o0 m_o0_3 ?_ fu 0 I0 f0 hf
  · intro I3 fI3 hf
    refine fr_X_setsOut_29 M fu _ o0 m_o0_23 ?_ fu 0 I3 fI3 hf
    · intro I7 fI7 hf
      refine fr_X_setsOut_56 M fu _ o0 m_o0_24 ?_ fu 0 I7 fI7 hf
      · intro I10 fI10 hf
        obtain ⟨I11, fI11, hf⟩ := fr_zw m_o0_0 fI10 hf
        cases hf; exact fI11
theorem fr_X_sum_4 (M : Nat → Prop) (fu : Nat) {r : Int × IMem} {Ib : IMem} (o0 : Nat) (p1 : Int) : ∀ (m : Nat) (w2 : Int) (w3 : Int) (I0 : IMem), (∀ q, ¬ M q → I0 q = Ib q) → f_X_sum_4 fu o0 p1 m w2 w3 I0 = some r → ∀ q, ¬ M q → r.2 q = Ib q := by
  intro m
  induction m with
  | zero => intro w2 w3 I0 _ hf; cases hf
  | succ m hR_ =>
    intro w2 w3 I0 fI0 hf
    replace hf : fb_X_sum_4 fu o0 p1 (f_X_sum_4 fu o0 p1 m) w2 w3 I0 = some r := hf
    unfold fb_X_sum_4 at hf
    rcases of_ite hf with ⟨_, hf⟩ | ⟨_, hf⟩
    · cases hf; exact fI0
    · obtain ⟨x1, -, hf⟩ := of_zl hf
      obtain ⟨g_1, hf⟩ := of_zg hf
      obtain ⟨x2, -, hf⟩ := of_zl hf
      obtain ⟨x3, -, hf⟩ := of_zl hf
      exact hR_ x2 x3 I0 fI0 hf
theorem fr_X_sum (M : Nat → Prop) (fu : Nat) (o0 : Nat) (a1 : Int) (I0 : IMem) {r : Int × IMem} (hf : f_X_sum fu o0 a1 I0 = some r) : ∀ q, ¬ M q → r.2 q = I0 q := by
  unfold f_X_sum at hf
  obtain ⟨Ib, hIb⟩ : ∃ Ib : IMem, Ib = I0 := ⟨I0, rfl⟩
  rw [← hIb]
  have f0 : ∀ q, ¬ M q → I0 q = Ib q := fun q _ => by rw [hIb]
  clear hIb
  refine fr_X_sum_4 M fu o0 a1 fu 0 1 I0 f0 hf
theorem fr_X_leads_37 (M : Nat → Prop) (fu : Nat) {r : Int × IMem} {Ib : IMem} (k_55 : IMem → Res) (o0 : Nat) (p4 : Int) (p5 : Int) (m_o0_0 : M o0) (m_o0_1 : M (o0 + 1)) (m_o0_7 : M (o0 + 7)) (m_o0_8 : M (o0 + 8)) (m_o0_9 : M (o0 + 9)) (m_o0_10 : M (o0 + 10)) (m_o0_11 : M (o0 + 11)) (m_o0_12 : M (o0 + 12)) (m_o0_13 : M (o0 + 13)) (m_o0_14 : M (o0 + 14)) (hk_55 : ∀ (I9 : IMem), (∀ q, ¬ M q → I9 q = Ib q) → k_55 I9 = some r → ∀ q, ¬ M q → r.2 q = Ib q) : ∀ (m : Nat) (w6 : Int) (I0 : IMem), (∀ q, ¬ M q → I0 q = Ib q) → f_X_leads_37 fu k_55 o0 p4 p5 m w6 I0 = some r → ∀ q, ¬ M q → r.2 q = Ib q := by
  intro m
  induction m with
  | zero => intro w6 I0 _ hf; cases hf
  | succ m hR_ =>
    intro w6 I0 fI0 hf
    replace hf : fb_X_leads_37 fu k_55 o0 p4 p5 (f_X_leads_37 fu k_55 o0 p4 p5 m) w6 I0 = some r := hf
    unfold fb_X_leads_37 at hf
    rcases of_ite hf with ⟨_, hf⟩ | ⟨_, hf⟩
    · obtain ⟨y10, I11, c_1, hf⟩ := of_zb hf
      have fI11 := fr_tr (fr_X_turn M fu o0 I0 m_o0_0 m_o0_1 m_o0_7 m_o0_8 m_o0_9 m_o0_10 m_o0_11 m_o0_12 m_o0_13 m_o0_14 c_1) fI0
      obtain ⟨x13, -, hf⟩ := of_zl hf
      exact hR_ x13 I11 fI11 hf
    · exact hk_55 I0 fI0 hf
theorem fr_X_leads (M : Nat → Prop) (fu : Nat) (o0 : Nat) (a1 : Int) (a2 : Int) (a3 : Int) (a4 : Int) (I0 : IMem) {r : Int × IMem} (m_o0_0 : M o0) (m_o0_1 : M (o0 + 1)) (m_o0_3 : M (o0 + 3)) (m_o0_7 : M (o0 + 7)) (m_o0_8 : M (o0 + 8)) (m_o0_9 : M (o0 + 9)) (m_o0_10 : M (o0 + 10)) (m_o0_11 : M (o0 + 11)) (m_o0_12 : M (o0 + 12)) (m_o0_13 : M (o0 + 13)) (m_o0_14 : M (o0 + 14)) (m_o0_15 : M (o0 + 15)) (m_o0_23 : M (o0 + 23)) (m_o0_24 : M (o0 + 24)) (m_o0_25 : M (o0 + 25)) (hf : f_X_leads fu o0 a1 a2 a3 a4 I0 = some r) : ∀ q, ¬ M q → r.2 q = I0 q := by
  unfold f_X_leads at hf
  obtain ⟨Ib, hIb⟩ : ∃ Ib : IMem, Ib = I0 := ⟨I0, rfl⟩
  rw [← hIb]
  have f0 : ∀ q, ¬ M q → I0 q = Ib q := fun q _ => by rw [hIb]
  clear hIb
  obtain ⟨u_2, I2, c_1, hf⟩ := of_zb hf
  have fI2 := fr_tr (fr_X_setsOut M fu o0 I0 m_o0_0 m_o0_3 m_o0_23 m_o0_24 c_1) f0
  obtain ⟨y4, I5, c_3, hf⟩ := of_zb hf
  have fI5 := fr_tr (fr_X_sum M fu o0 90 I2 c_3) fI2
  obtain ⟨I7, fI7, hf⟩ := fr_zw m_o0_1 fI5 hf
  obtain ⟨I8, fI8, hf⟩ := fr_zw m_o0_1 fI7 hf
  obtain ⟨I9, fI9, hf⟩ := fr_zw m_o0_1 fI8 hf
  refine fr_X_leads_37 M fu _ o0 a4 y4 m_o0_0 m_o0_1 m_o0_7 m_o0_8 m_o0_9 m_o0_10 m_o0_11 m_o0_12 m_o0_13 m_o0_14 ?_ fu 0 I9 fI9 hf
  · intro I14 fI14 hf
    obtain ⟨I15, fI15, hf⟩ := fr_zw m_o0_25 fI14 hf
    obtain ⟨I16, fI16, hf⟩ := fr_zw m_o0_25 fI15 hf
    obtain ⟨y17, I18, c_4, hf⟩ := of_zb hf
    have fI18 := fr_tr (fr_X_sum M fu o0 90 I16 c_4) fI16
    obtain ⟨I20, fI20, hf⟩ := fr_zw m_o0_25 fI18 hf
    obtain ⟨I21, fI21, hf⟩ := fr_zw m_o0_25 fI20 hf
    obtain ⟨I22, fI22, hf⟩ := fr_zw m_o0_25 fI21 hf
    obtain ⟨y23, I24, c_5, hf⟩ := of_zb hf
    have fI24 := fr_tr (fr_X_longest M fu o0 I22 c_5) fI22
    obtain ⟨I26, fI26, hf⟩ := fr_zw m_o0_25 fI24 hf
    obtain ⟨u_7, I28, c_6, hf⟩ := of_zb hf
    have fI28 := fr_tr (fr_X_comesBack M fu o0 I26 m_o0_0 m_o0_1 m_o0_13 m_o0_15 c_6) fI26
    cases hf; exact fI28
theorem fr_X_thought (M : Nat → Prop) (fu : Nat) (o0 : Nat) (a1 : Int) (a2 : Int) (a3 : Int) (a4 : Int) (a5 : Int) (I0 : IMem) {r : Int × IMem} (m_o0_0 : M o0) (m_o0_1 : M (o0 + 1)) (m_o0_3 : M (o0 + 3)) (m_o0_7 : M (o0 + 7)) (m_o0_8 : M (o0 + 8)) (m_o0_9 : M (o0 + 9)) (m_o0_10 : M (o0 + 10)) (m_o0_11 : M (o0 + 11)) (m_o0_12 : M (o0 + 12)) (m_o0_13 : M (o0 + 13)) (m_o0_14 : M (o0 + 14)) (m_o0_15 : M (o0 + 15)) (m_o0_23 : M (o0 + 23)) (m_o0_24 : M (o0 + 24)) (m_o0_25 : M (o0 + 25)) (hf : f_X_thought fu o0 a1 a2 a3 a4 a5 I0 = some r) : ∀ q, ¬ M q → r.2 q = I0 q := by
  unfold f_X_thought at hf
  obtain ⟨Ib, hIb⟩ : ∃ Ib : IMem, Ib = I0 := ⟨I0, rfl⟩
  rw [← hIb]
  have f0 : ∀ q, ¬ M q → I0 q = Ib q := fun q _ => by rw [hIb]
  clear hIb
  obtain ⟨y1, I2, c_1, hf⟩ := of_zb hf
  have fI2 := fr_tr (fr_X_isIn M fu a1 0 3 I0 c_1) f0
  rcases of_ite hf with ⟨_, hf⟩ | ⟨_, hf⟩
  · cases hf; exact fI2
  · obtain ⟨y4, I5, c_2, hf⟩ := of_zb hf
    have fI5 := fr_tr (fr_X_isIn M fu a2 0 99 I2 c_2) fI2
    rcases of_ite hf with ⟨_, hf⟩ | ⟨_, hf⟩
    · cases hf; exact fI5
    · obtain ⟨y7, I8, c_3, hf⟩ := of_zb hf
      have fI8 := fr_tr (fr_X_isIn M fu a3 2 8 I5 c_3) fI5
      rcases of_ite hf with ⟨_, hf⟩ | ⟨_, hf⟩
      · cases hf; exact fI8
      · obtain ⟨y10, I11, c_4, hf⟩ := of_zb hf
        have fI11 := fr_tr (fr_X_isIn M fu a4 1 40 I8 c_4) fI8
        rcases of_ite hf with ⟨_, hf⟩ | ⟨_, hf⟩
        · cases hf; exact fI11
        · obtain ⟨y13, I14, c_5, hf⟩ := of_zb hf
          have fI14 := fr_tr (fr_X_isIn M fu a5 0 5 I11 c_5) fI11
          rcases of_ite hf with ⟨_, hf⟩ | ⟨_, hf⟩
          · cases hf; exact fI14
          · obtain ⟨u_7, I17, c_6, hf⟩ := of_zb hf
            have fI17 := fr_tr (fr_X_leads M fu o0 a1 a2 a3 a4 I14 m_o0_0 m_o0_1 m_o0_3 m_o0_7 m_o0_8 m_o0_9 m_o0_10 m_o0_11 m_o0_12 m_o0_13 m_o0_14 m_o0_15 m_o0_23 m_o0_24 m_o0_25 c_6) fI14
            obtain ⟨g_8, hf⟩ := of_zg hf
            cases hf; exact fI17
theorem fr_X_price (M : Nat → Prop) (fu : Nat) (o0 : Nat) (a1 : Int) (a2 : Int) (I0 : IMem) {r : Int × IMem} (m_o0_0 : M o0) (m_o0_1 : M (o0 + 1)) (m_o0_3 : M (o0 + 3)) (m_o0_7 : M (o0 + 7)) (m_o0_8 : M (o0 + 8)) (m_o0_9 : M (o0 + 9)) (m_o0_10 : M (o0 + 10)) (m_o0_11 : M (o0 + 11)) (m_o0_12 : M (o0 + 12)) (m_o0_13 : M (o0 + 13)) (m_o0_14 : M (o0 + 14)) (m_o0_15 : M (o0 + 15)) (m_o0_23 : M (o0 + 23)) (m_o0_24 : M (o0 + 24)) (m_o0_25 : M (o0 + 25)) (hf : f_X_price fu o0 a1 a2 I0 = some r) : ∀ q, ¬ M q → r.2 q = I0 q := by
  unfold f_X_price at hf
  obtain ⟨Ib, hIb⟩ : ∃ Ib : IMem, Ib = I0 := ⟨I0, rfl⟩
  rw [← hIb]
  have f0 : ∀ q, ¬ M q → I0 q = Ib q := fun q _ => by rw [hIb]
  clear hIb
  obtain ⟨y1, I2, c_1, hf⟩ := of_zb hf
  have fI2 := fr_tr (fr_X_isIn M fu a1 0 99 I0 c_1) f0
  rcases of_ite hf with ⟨_, hf⟩ | ⟨_, hf⟩
  · cases hf; exact fI2
  · obtain ⟨y4, I5, c_2, hf⟩ := of_zb hf
    have fI5 := fr_tr (fr_X_isIn M fu a2 1 40 I2 c_2) fI2
    rcases of_ite hf with ⟨_, hf⟩ | ⟨_, hf⟩
    · cases hf; exact fI5
    · obtain ⟨u_4, I8, c_3, hf⟩ := of_zb hf
      have fI8 := fr_tr (fr_X_leads M fu o0 (I5 (o0 + 1) 6) a1 (I5 (o0 + 1) 1) a2 I5 m_o0_0 m_o0_1 m_o0_3 m_o0_7 m_o0_8 m_o0_9 m_o0_10 m_o0_11 m_o0_12 m_o0_13 m_o0_14 m_o0_15 m_o0_23 m_o0_24 m_o0_25 c_3) fI5
      obtain ⟨x10, -, hf⟩ := of_zl hf
      obtain ⟨u_6, I12, c_5, hf⟩ := of_zb hf
      have fI12 := fr_tr (fr_X_leads M fu o0 (I8 (o0 + 1) 6) 0 (I8 (o0 + 1) 1) a2 I8 m_o0_0 m_o0_1 m_o0_3 m_o0_7 m_o0_8 m_o0_9 m_o0_10 m_o0_11 m_o0_12 m_o0_13 m_o0_14 m_o0_15 m_o0_23 m_o0_24 m_o0_25 c_5) fI8
      cases hf; exact fI12
theorem fr_X_isThere (M : Nat → Prop) (fu : Nat) (o0 : Nat) (a1 : Int) (a2 : Int) (I0 : IMem) {r : Int × IMem} (hf : f_X_isThere fu o0 a1 a2 I0 = some r) : ∀ q, ¬ M q → r.2 q = I0 q := by
  unfold f_X_isThere at hf
  obtain ⟨Ib, hIb⟩ : ∃ Ib : IMem, Ib = I0 := ⟨I0, rfl⟩
  rw [← hIb]
  have f0 : ∀ q, ¬ M q → I0 q = Ib q := fun q _ => by rw [hIb]
  clear hIb
  obtain ⟨y1, I2, c_1, hf⟩ := of_zb hf
  have fI2 := fr_tr (fr_X_isLine M fu a1 I0 c_1) f0
  rcases of_ite hf with ⟨_, hf⟩ | ⟨_, hf⟩
  · cases hf; exact fI2
  · obtain ⟨x4, -, hf⟩ := of_zl hf
    obtain ⟨g_2, hf⟩ := of_zg hf
    obtain ⟨y5, I6, c_3, hf⟩ := of_zb hf
    have fI6 := fr_tr (fr_X_isIn M fu a2 0 (wr32 ((I2 (o0 + 1) x4.toNat) - 1)) I2 c_3) fI2
    rcases of_ite hf with ⟨_, hf⟩ | ⟨_, hf⟩
    · cases hf; exact fI6
    · cases hf; exact fI6
theorem fr_X_stillStands_10 (M : Nat → Prop) (fu : Nat) {r : Int × IMem} {Ib : IMem} (k_43 : IMem → Res) (o0 : Nat) (p1 : Int) (p2 : Int) (hk_43 : ∀ (I9 : IMem), (∀ q, ¬ M q → I9 q = Ib q) → k_43 I9 = some r → ∀ q, ¬ M q → r.2 q = Ib q) : ∀ (m : Nat) (w3 : Int) (I0 : IMem), (∀ q, ¬ M q → I0 q = Ib q) → f_X_stillStands_10 fu k_43 o0 p1 p2 m w3 I0 = some r → ∀ q, ¬ M q → r.2 q = Ib q := by
  intro m
  induction m with
  | zero => intro w3 I0 _ hf; cases hf
  | succ m hR_ =>
    intro w3 I0 fI0 hf
    replace hf : fb_X_stillStands_10 fu k_43 o0 p1 p2 (f_X_stillStands_10 fu k_43 o0 p1 p2 m) w3 I0 = some r := hf
    unfold fb_X_stillStands_10 at hf
    obtain ⟨x1, -, hf⟩ := of_zl hf
    obtain ⟨g_1, hf⟩ := of_zg hf
    rcases of_ite hf with ⟨_, hf⟩ | ⟨_, hf⟩
    · obtain ⟨y2, I3, c_2, hf⟩ := of_zb hf
      have fI3 := fr_tr (fr_X_of M fu o0 p2 w3 0 I0 c_2) fI0
      rcases of_ite hf with ⟨_, hf⟩ | ⟨_, hf⟩
      · cases hf; exact fI3
      · obtain ⟨x5, -, hf⟩ := of_zl hf
        exact hR_ x5 I3 fI3 hf
    · exact hk_43 I0 fI0 hf
theorem fr_X_stillStands_2 (M : Nat → Prop) (fu : Nat) {r : Int × IMem} {Ib : IMem} (o0 : Nat) (p1 : Int) : ∀ (m : Nat) (w2 : Int) (I0 : IMem), (∀ q, ¬ M q → I0 q = Ib q) → f_X_stillStands_2 fu o0 p1 m w2 I0 = some r → ∀ q, ¬ M q → r.2 q = Ib q := by
  intro m
  induction m with
  | zero => intro w2 I0 _ hf; cases hf
  | succ m hR_ =>
    intro w2 I0 fI0 hf
    replace hf : fb_X_stillStands_2 fu o0 p1 (f_X_stillStands_2 fu o0 p1 m) w2 I0 = some r := hf
    unfold fb_X_stillStands_2 at hf
    rcases of_ite hf with ⟨_, hf⟩ | ⟨_, hf⟩
    · refine fr_X_stillStands_10 M fu _ o0 p1 w2 ?_ fu 0 I0 fI0 hf
      · intro I6 fI6 hf
        obtain ⟨x7, -, hf⟩ := of_zl hf
        exact hR_ x7 I6 fI6 hf
    · cases hf; exact fI0
theorem fr_X_stillStands (M : Nat → Prop) (fu : Nat) (o0 : Nat) (a1 : Int) (I0 : IMem) {r : Int × IMem} (hf : f_X_stillStands fu o0 a1 I0 = some r) : ∀ q, ¬ M q → r.2 q = I0 q := by
  unfold f_X_stillStands at hf
  obtain ⟨Ib, hIb⟩ : ∃ Ib : IMem, Ib = I0 := ⟨I0, rfl⟩
  rw [← hIb]
  have f0 : ∀ q, ¬ M q → I0 q = Ib q := fun q _ => by rw [hIb]
  clear hIb
  refine fr_X_stillStands_2 M fu o0 a1 fu 0 I0 f0 hf
theorem fr_X_sitsAfter_12 (M : Nat → Prop) (fu : Nat) {r : Int × IMem} {Ib : IMem} (k_37 : Int → IMem → Res) (o0 : Nat) (p1 : Int) (m_o0_0 : M o0) (m_o0_1 : M (o0 + 1)) (m_o0_7 : M (o0 + 7)) (m_o0_8 : M (o0 + 8)) (m_o0_9 : M (o0 + 9)) (m_o0_10 : M (o0 + 10)) (m_o0_11 : M (o0 + 11)) (m_o0_12 : M (o0 + 12)) (m_o0_13 : M (o0 + 13)) (m_o0_14 : M (o0 + 14)) (hk_37 : ∀ (z0 : Int) (I9 : IMem), (∀ q, ¬ M q → I9 q = Ib q) → k_37 z0 I9 = some r → ∀ q, ¬ M q → r.2 q = Ib q) : ∀ (m : Nat) (w2 : Int) (I0 : IMem), (∀ q, ¬ M q → I0 q = Ib q) → f_X_sitsAfter_12 fu k_37 o0 p1 m w2 I0 = some r → ∀ q, ¬ M q → r.2 q = Ib q := by
  intro m
  induction m with
  | zero => intro w2 I0 _ hf; cases hf
  | succ m hR_ =>
    intro w2 I0 fI0 hf
    replace hf : fb_X_sitsAfter_12 fu k_37 o0 p1 (f_X_sitsAfter_12 fu k_37 o0 p1 m) w2 I0 = some r := hf
    unfold fb_X_sitsAfter_12 at hf
    rcases of_ite hf with ⟨_, hf⟩ | ⟨_, hf⟩
    · obtain ⟨y3, I4, c_1, hf⟩ := of_zb hf
      have fI4 := fr_tr (fr_X_stillStands M fu o0 p1 I0 c_1) fI0
      rcases of_ite hf with ⟨_, hf⟩ | ⟨_, hf⟩
      · exact hk_37 w2 I4 fI4 hf
      · obtain ⟨y6, I7, c_2, hf⟩ := of_zb hf
        have fI7 := fr_tr (fr_X_chair M fu o0 I4 m_o0_0 m_o0_1 m_o0_7 m_o0_8 m_o0_9 m_o0_10 m_o0_11 m_o0_12 m_o0_13 m_o0_14 c_2) fI4
        obtain ⟨x9, -, hf⟩ := of_zl hf
        exact hR_ x9 I7 fI7 hf
    · exact hk_37 w2 I0 fI0 hf
theorem fr_X_sitsAfter (M : Nat → Prop) (fu : Nat) (o0 : Nat) (a1 : Int) (I0 : IMem) {r : Int × IMem} (m_o0_0 : M o0) (m_o0_1 : M (o0 + 1)) (m_o0_7 : M (o0 + 7)) (m_o0_8 : M (o0 + 8)) (m_o0_9 : M (o0 + 9)) (m_o0_10 : M (o0 + 10)) (m_o0_11 : M (o0 + 11)) (m_o0_12 : M (o0 + 12)) (m_o0_13 : M (o0 + 13)) (m_o0_14 : M (o0 + 14)) (hf : f_X_sitsAfter fu o0 a1 I0 = some r) : ∀ q, ¬ M q → r.2 q = I0 q := by
  unfold f_X_sitsAfter at hf
  obtain ⟨Ib, hIb⟩ : ∃ Ib : IMem, Ib = I0 := ⟨I0, rfl⟩
  rw [← hIb]
  have f0 : ∀ q, ¬ M q → I0 q = Ib q := fun q _ => by rw [hIb]
  clear hIb
  obtain ⟨I1, fI1, hf⟩ := fr_zw m_o0_0 f0 hf
  obtain ⟨I2, fI2, hf⟩ := fr_zw m_o0_0 fI1 hf
  refine fr_X_sitsAfter_12 M fu _ o0 a1 m_o0_0 m_o0_1 m_o0_7 m_o0_8 m_o0_9 m_o0_10 m_o0_11 m_o0_12 m_o0_13 m_o0_14 ?_ fu 0 I2 fI2 hf
  · intro x11 I10 fI10 hf
    obtain ⟨k12, ek12, hf⟩ := of_zj hf
    have hk12 : ∀ (x14 : Int) (I13 : IMem), (∀ q, ¬ M q → I13 q = Ib q) → k12 x14 I13 = some r → ∀ q, ¬ M q → r.2 q = Ib q := by
      intro x14 I13 fI13 hf
      subst ek12
      obtain ⟨I15, fI15, hf⟩ := fr_zw m_o0_0 fI13 hf
      rcases of_ite hf with ⟨_, hf⟩ | ⟨_, hf⟩
      · cases hf; exact fI15
      · cases hf; exact fI15
    rcases of_ite hf with ⟨_, hf⟩ | ⟨_, hf⟩
    · obtain ⟨y16, I17, c_1, hf⟩ := of_zb hf
      have fI17 := fr_tr (fr_X_stillStands M fu o0 a1 I10 c_1) fI10
      rcases of_ite hf with ⟨_, hf⟩ | ⟨_, hf⟩
      · exact hk12 0 I17 fI17 hf
      · exact hk12 1 I17 fI17 hf
    · exact hk12 1 I10 fI10 hf
theorem fr_X_till (M : Nat → Prop) (fu : Nat) (o0 : Nat) (a1 : Int) (a2 : Int) (I0 : IMem) {r : Int × IMem} (m_o0_0 : M o0) (m_o0_1 : M (o0 + 1)) (m_o0_3 : M (o0 + 3)) (m_o0_7 : M (o0 + 7)) (m_o0_8 : M (o0 + 8)) (m_o0_9 : M (o0 + 9)) (m_o0_10 : M (o0 + 10)) (m_o0_11 : M (o0 + 11)) (m_o0_12 : M (o0 + 12)) (m_o0_13 : M (o0 + 13)) (m_o0_14 : M (o0 + 14)) (m_o0_15 : M (o0 + 15)) (m_o0_23 : M (o0 + 23)) (m_o0_24 : M (o0 + 24)) (hf : f_X_till fu o0 a1 a2 I0 = some r) : ∀ q, ¬ M q → r.2 q = I0 q := by
  unfold f_X_till at hf
  obtain ⟨Ib, hIb⟩ : ∃ Ib : IMem, Ib = I0 := ⟨I0, rfl⟩
  rw [← hIb]
  have f0 : ∀ q, ¬ M q → I0 q = Ib q := fun q _ => by rw [hIb]
  clear hIb
  obtain ⟨y1, I2, c_1, hf⟩ := of_zb hf
  have fI2 := fr_tr (fr_X_isThere M fu o0 a1 a2 I0 c_1) f0
  rcases of_ite hf with ⟨_, hf⟩ | ⟨_, hf⟩
  · cases hf; exact fI2
  · obtain ⟨y4, I5, c_2, hf⟩ := of_zb hf
    have fI5 := fr_tr (fr_X_of M fu o0 a1 a2 0 I2 c_2) fI2
    obtain ⟨u_4, I8, c_3, hf⟩ := of_zb hf
    have fI8 := fr_tr (fr_X_setsOut M fu o0 I5 m_o0_0 m_o0_3 m_o0_23 m_o0_24 c_3) fI5
    obtain ⟨y10, I11, c_5, hf⟩ := of_zb hf
    have fI11 := fr_tr (fr_X_sitsAfter M fu o0 y4 I8 m_o0_0 m_o0_1 m_o0_7 m_o0_8 m_o0_9 m_o0_10 m_o0_11 m_o0_12 m_o0_13 m_o0_14 c_5) fI8
    obtain ⟨u_7, I14, c_6, hf⟩ := of_zb hf
    have fI14 := fr_tr (fr_X_comesBack M fu o0 I11 m_o0_0 m_o0_1 m_o0_13 m_o0_15 c_6) fI11
    cases hf; exact fI14
theorem fr_X_isPlain (M : Nat → Prop) (fu : Nat) (o0 : Nat) (a1 : Int) (a2 : Int) (I0 : IMem) {r : Int × IMem} (hf : f_X_isPlain fu o0 a1 a2 I0 = some r) : ∀ q, ¬ M q → r.2 q = I0 q := by
  unfold f_X_isPlain at hf
  obtain ⟨Ib, hIb⟩ : ∃ Ib : IMem, Ib = I0 := ⟨I0, rfl⟩
  rw [← hIb]
  have f0 : ∀ q, ¬ M q → I0 q = Ib q := fun q _ => by rw [hIb]
  clear hIb
  obtain ⟨y1, I2, c_1, hf⟩ := of_zb hf
  have fI2 := fr_tr (fr_X_isThere M fu o0 a1 a2 I0 c_1) f0
  rcases of_ite hf with ⟨_, hf⟩ | ⟨_, hf⟩
  · cases hf; exact fI2
  · obtain ⟨y4, I5, c_2, hf⟩ := of_zb hf
    have fI5 := fr_tr (fr_X_of M fu o0 a1 a2 3 I2 c_2) fI2
    rcases of_ite hf with ⟨_, hf⟩ | ⟨_, hf⟩
    · obtain ⟨y7, I8, c_3, hf⟩ := of_zb hf
      have fI8 := fr_tr (fr_X_of M fu o0 a1 a2 2 I5 c_3) fI5
      obtain ⟨y10, I11, c_4, hf⟩ := of_zb hf
      have fI11 := fr_tr (fr_X_of M fu o0 a1 a2 1 I8 c_4) fI8
      rcases of_ite hf with ⟨_, hf⟩ | ⟨_, hf⟩
      · cases hf; exact fI11
      · cases hf; exact fI11
    · cases hf; exact fI5
theorem fr_X_joined_85 (M : Nat → Prop) (fu : Nat) {r : Int × IMem} {Ib : IMem} (k_123 : IMem → Res) (o0 : Nat) (p1 : Int) (p5 : Int) (p7 : Int) (m_o0_1 : M (o0 + 1)) (hk_123 : ∀ (I9 : IMem), (∀ q, ¬ M q → I9 q = Ib q) → k_123 I9 = some r → ∀ q, ¬ M q → r.2 q = Ib q) : ∀ (m : Nat) (w8 : Int) (I0 : IMem), (∀ q, ¬ M q → I0 q = Ib q) → f_X_joined_85 fu k_123 o0 p1 p5 p7 m w8 I0 = some r → ∀ q, ¬ M q → r.2 q = Ib q := by
  intro m
  induction m with
  | zero => intro w8 I0 _ hf; cases hf
  | succ m hR_ =>
    intro w8 I0 fI0 hf
    replace hf : fb_X_joined_85 fu k_123 o0 p1 p5 p7 (f_X_joined_85 fu k_123 o0 p1 p5 p7 m) w8 I0 = some r := hf
    unfold fb_X_joined_85 at hf
    rcases of_ite hf with ⟨_, hf⟩ | ⟨_, hf⟩
    · obtain ⟨y25, I26, c_1, hf⟩ := of_zb hf
      have fI26 := fr_tr (fr_X_cell M fu p1 p7 I0 c_1) fI0
      obtain ⟨y28, I29, c_2, hf⟩ := of_zb hf
      have fI29 := fr_tr (fr_X_of M fu o0 p1 (wr32 (p7 + 1)) w8 I26 c_2) fI26
      obtain ⟨x32, -, hf⟩ := of_zl hf
      obtain ⟨g_3, hf⟩ := of_zg hf
      obtain ⟨I31, fI31, hf⟩ := fr_zw m_o0_1 fI29 hf
      obtain ⟨x33, -, hf⟩ := of_zl hf
      exact hR_ x33 I31 fI31 hf
    · exact hk_123 I0 fI0 hf
theorem fr_X_joined_65 (M : Nat → Prop) (fu : Nat) {r : Int × IMem} {Ib : IMem} (k_129 : IMem → Res) (o0 : Nat) (p1 : Int) (p5 : Int) (m_o0_1 : M (o0 + 1)) (hk_129 : ∀ (I9 : IMem), (∀ q, ¬ M q → I9 q = Ib q) → k_129 I9 = some r → ∀ q, ¬ M q → r.2 q = Ib q) : ∀ (m : Nat) (w7 : Int) (I0 : IMem), (∀ q, ¬ M q → I0 q = Ib q) → f_X_joined_65 fu k_129 o0 p1 p5 m w7 I0 = some r → ∀ q, ¬ M q → r.2 q = Ib q := by
  intro m
  induction m with
  | zero => intro w7 I0 _ hf; cases hf
  | succ m hR_ =>
    intro w7 I0 fI0 hf
    replace hf : fb_X_joined_65 fu k_129 o0 p1 p5 (f_X_joined_65 fu k_129 o0 p1 p5 m) w7 I0 = some r := hf
    unfold fb_X_joined_65 at hf
    obtain ⟨x24, -, hf⟩ := of_zl hf
    obtain ⟨g_1, hf⟩ := of_zg hf
    rcases of_ite hf with ⟨_, hf⟩ | ⟨_, hf⟩
    · refine fr_X_joined_85 M fu _ o0 p1 p5 w7 m_o0_1 ?_ fu 0 I0 fI0 hf
      · intro I34 fI34 hf
        obtain ⟨x35, -, hf⟩ := of_zl hf
        exact hR_ x35 I34 fI34 hf
    · exact hk_129 I0 fI0 hf
theorem fr_X_joined (M : Nat → Prop) (fu : Nat) (o0 : Nat) (a1 : Int) (a2 : Int) (a3 : Int) (a4 : Int) (I0 : IMem) {r : Int × IMem} (m_o0_0 : M o0) (m_o0_1 : M (o0 + 1)) (m_o0_3 : M (o0 + 3)) (m_o0_7 : M (o0 + 7)) (m_o0_8 : M (o0 + 8)) (m_o0_9 : M (o0 + 9)) (m_o0_10 : M (o0 + 10)) (m_o0_11 : M (o0 + 11)) (m_o0_12 : M (o0 + 12)) (m_o0_13 : M (o0 + 13)) (m_o0_14 : M (o0 + 14)) (m_o0_15 : M (o0 + 15)) (m_o0_23 : M (o0 + 23)) (m_o0_24 : M (o0 + 24)) (hf : f_X_joined fu o0 a1 a2 a3 a4 I0 = some r) : ∀ q, ¬ M q → r.2 q = I0 q := by
  unfold f_X_joined at hf
  obtain ⟨Ib, hIb⟩ : ∃ Ib : IMem, Ib = I0 := ⟨I0, rfl⟩
  rw [← hIb]
  have f0 : ∀ q, ¬ M q → I0 q = Ib q := fun q _ => by rw [hIb]
  clear hIb
  obtain ⟨y1, I2, c_1, hf⟩ := of_zb hf
  have fI2 := fr_tr (fr_X_of M fu o0 a3 a4 0 I0 c_1) f0
  obtain ⟨y4, I5, c_2, hf⟩ := of_zb hf
  have fI5 := fr_tr (fr_X_of M fu o0 a1 a2 1 I2 c_2) fI2
  obtain ⟨y7, I8, c_3, hf⟩ := of_zb hf
  have fI8 := fr_tr (fr_X_of M fu o0 a3 a4 1 I5 c_3) fI5
  obtain ⟨x10, -, hf⟩ := of_zl hf
  obtain ⟨u_5, I12, c_4, hf⟩ := of_zb hf
  have fI12 := fr_tr (fr_X_setsOut M fu o0 I8 m_o0_0 m_o0_3 m_o0_23 m_o0_24 c_4) fI8
  obtain ⟨y14, I15, c_6, hf⟩ := of_zb hf
  have fI15 := fr_tr (fr_X_cell M fu a3 a4 I12 c_6) fI12
  obtain ⟨x18, -, hf⟩ := of_zl hf
  obtain ⟨g_7, hf⟩ := of_zg hf
  obtain ⟨I17, fI17, hf⟩ := fr_zw m_o0_1 fI15 hf
  obtain ⟨y19, I20, c_8, hf⟩ := of_zb hf
  have fI20 := fr_tr (fr_X_cell M fu a3 a4 I17 c_8) fI17
  obtain ⟨x23, -, hf⟩ := of_zl hf
  obtain ⟨g_9, hf⟩ := of_zg hf
  obtain ⟨I22, fI22, hf⟩ := fr_zw m_o0_1 fI20 hf
  refine fr_X_joined_65 M fu _ o0 a1 y1 m_o0_1 ?_ fu a2 I22 fI22 hf
  · intro I36 fI36 hf
    obtain ⟨x37, -, hf⟩ := of_zl hf
    obtain ⟨g_10, hf⟩ := of_zg hf
    obtain ⟨g_11, hf⟩ := of_zg hf
    obtain ⟨I38, fI38, hf⟩ := fr_zw m_o0_1 fI36 hf
    obtain ⟨y39, I40, c_12, hf⟩ := of_zb hf
    have fI40 := fr_tr (fr_X_sitsAfter M fu o0 y1 I38 m_o0_0 m_o0_1 m_o0_7 m_o0_8 m_o0_9 m_o0_10 m_o0_11 m_o0_12 m_o0_13 m_o0_14 c_12) fI38
    obtain ⟨u_14, I43, c_13, hf⟩ := of_zb hf
    have fI43 := fr_tr (fr_X_comesBack M fu o0 I40 m_o0_0 m_o0_1 m_o0_13 m_o0_15 c_13) fI40
    cases hf; exact fI43
theorem fr_X_together (M : Nat → Prop) (fu : Nat) (o0 : Nat) (a1 : Int) (a2 : Int) (a3 : Int) (a4 : Int) (a5 : Int) (I0 : IMem) {r : Int × IMem} (m_o0_0 : M o0) (m_o0_1 : M (o0 + 1)) (m_o0_3 : M (o0 + 3)) (m_o0_7 : M (o0 + 7)) (m_o0_8 : M (o0 + 8)) (m_o0_9 : M (o0 + 9)) (m_o0_10 : M (o0 + 10)) (m_o0_11 : M (o0 + 11)) (m_o0_12 : M (o0 + 12)) (m_o0_13 : M (o0 + 13)) (m_o0_14 : M (o0 + 14)) (m_o0_15 : M (o0 + 15)) (m_o0_23 : M (o0 + 23)) (m_o0_24 : M (o0 + 24)) (hf : f_X_together fu o0 a1 a2 a3 a4 a5 I0 = some r) : ∀ q, ¬ M q → r.2 q = I0 q := by
  unfold f_X_together at hf
  obtain ⟨Ib, hIb⟩ : ∃ Ib : IMem, Ib = I0 := ⟨I0, rfl⟩
  rw [← hIb]
  have f0 : ∀ q, ¬ M q → I0 q = Ib q := fun q _ => by rw [hIb]
  clear hIb
  obtain ⟨y1, I2, c_1, hf⟩ := of_zb hf
  have fI2 := fr_tr (fr_X_isPlain M fu o0 a1 a2 I0 c_1) f0
  rcases of_ite hf with ⟨_, hf⟩ | ⟨_, hf⟩
  · cases hf; exact fI2
  · obtain ⟨y4, I5, c_2, hf⟩ := of_zb hf
    have fI5 := fr_tr (fr_X_isPlain M fu o0 a3 a4 I2 c_2) fI2
    rcases of_ite hf with ⟨_, hf⟩ | ⟨_, hf⟩
    · cases hf; exact fI5
    · obtain ⟨k7, ek7, hf⟩ := of_zj hf
      have hk7 : ∀  (I8 : IMem), (∀ q, ¬ M q → I8 q = Ib q) → k7 I8 = some r → ∀ q, ¬ M q → r.2 q = Ib q := by
        intro I8 fI8 hf
        subst ek7
        obtain ⟨y9, I10, c_3, hf⟩ := of_zb hf
        have fI10 := fr_tr (fr_X_of M fu o0 a1 a2 1 I8 c_3) fI8
        obtain ⟨y12, I13, c_4, hf⟩ := of_zb hf
        have fI13 := fr_tr (fr_X_of M fu o0 a3 a4 1 I10 c_4) fI10
        rcases of_ite hf with ⟨_, hf⟩ | ⟨_, hf⟩
        · cases hf; exact fI13
        · obtain ⟨y15, I16, c_5, hf⟩ := of_zb hf
          have fI16 := fr_tr (fr_X_isIn M fu a5 0 1 I13 c_5) fI13
          rcases of_ite hf with ⟨_, hf⟩ | ⟨_, hf⟩
          · cases hf; exact fI16
          · obtain ⟨y18, I19, c_6, hf⟩ := of_zb hf
            have fI19 := fr_tr (fr_X_joined M fu o0 a1 a2 a3 a4 I16 m_o0_0 m_o0_1 m_o0_3 m_o0_7 m_o0_8 m_o0_9 m_o0_10 m_o0_11 m_o0_12 m_o0_13 m_o0_14 m_o0_15 m_o0_23 m_o0_24 c_6) fI16
            rcases of_ite hf with ⟨_, hf⟩ | ⟨_, hf⟩
            · cases hf; exact fI19
            · obtain ⟨y21, I22, c_7, hf⟩ := of_zb hf
              have fI22 := fr_tr (fr_X_till M fu o0 a1 a2 I19 m_o0_0 m_o0_1 m_o0_3 m_o0_7 m_o0_8 m_o0_9 m_o0_10 m_o0_11 m_o0_12 m_o0_13 m_o0_14 m_o0_15 m_o0_23 m_o0_24 c_7) fI19
              obtain ⟨y24, I25, c_8, hf⟩ := of_zb hf
              have fI25 := fr_tr (fr_X_till M fu o0 a3 a4 I22 m_o0_0 m_o0_1 m_o0_3 m_o0_7 m_o0_8 m_o0_9 m_o0_10 m_o0_11 m_o0_12 m_o0_13 m_o0_14 m_o0_15 m_o0_23 m_o0_24 c_8) fI22
              rcases of_ite hf with ⟨_, hf⟩ | ⟨_, hf⟩
              · cases hf; exact fI25
              · rcases of_ite hf with ⟨_, hf⟩ | ⟨_, hf⟩
                · cases hf; exact fI25
                · rcases of_ite hf with ⟨_, hf⟩ | ⟨_, hf⟩
                  · cases hf; exact fI25
                  · obtain ⟨k27, ek27, hf⟩ := of_zj hf
                    have hk27 : ∀ (x29 : Int) (I28 : IMem), (∀ q, ¬ M q → I28 q = Ib q) → k27 x29 I28 = some r → ∀ q, ¬ M q → r.2 q = Ib q := by
                      intro x29 I28 fI28 hf
                      subst ek27
                      rcases of_ite hf with ⟨_, hf⟩ | ⟨_, hf⟩
                      · cases hf; exact fI28
                      · cases hf; exact fI28
                    rcases of_ite hf with ⟨_, hf⟩ | ⟨_, hf⟩
                    · exact hk27 y21 I25 fI25 hf
                    · exact hk27 y24 I25 fI25 hf
      rcases of_ite hf with ⟨_, hf⟩ | ⟨_, hf⟩
      · rcases of_ite hf with ⟨_, hf⟩ | ⟨_, hf⟩
        · cases hf; exact fI5
        · exact hk7 I5 fI5 hf
      · exact hk7 I5 fI5 hf
theorem fr_X_needed_20 (M : Nat → Prop) (fu : Nat) {r : Int × IMem} {Ib : IMem} (k_56 : Int → IMem → Res) (o0 : Nat) (p1 : Int) (m_o0_0 : M o0) (m_o0_1 : M (o0 + 1)) (m_o0_7 : M (o0 + 7)) (m_o0_8 : M (o0 + 8)) (m_o0_9 : M (o0 + 9)) (m_o0_10 : M (o0 + 10)) (m_o0_11 : M (o0 + 11)) (m_o0_12 : M (o0 + 12)) (m_o0_13 : M (o0 + 13)) (m_o0_14 : M (o0 + 14)) (hk_56 : ∀ (z0 : Int) (I9 : IMem), (∀ q, ¬ M q → I9 q = Ib q) → k_56 z0 I9 = some r → ∀ q, ¬ M q → r.2 q = Ib q) : ∀ (m : Nat) (w2 : Int) (w3 : Int) (I0 : IMem), (∀ q, ¬ M q → I0 q = Ib q) → f_X_needed_20 fu k_56 o0 p1 m w2 w3 I0 = some r → ∀ q, ¬ M q → r.2 q = Ib q := by
  intro m
  induction m with
  | zero => intro w2 w3 I0 _ hf; cases hf
  | succ m hR_ =>
    intro w2 w3 I0 fI0 hf
    replace hf : fb_X_needed_20 fu k_56 o0 p1 (f_X_needed_20 fu k_56 o0 p1 m) w2 w3 I0 = some r := hf
    unfold fb_X_needed_20 at hf
    rcases of_ite hf with ⟨_, hf⟩ | ⟨_, hf⟩
    · obtain ⟨y7, I8, c_1, hf⟩ := of_zb hf
      have fI8 := fr_tr (fr_X_chair M fu o0 I0 m_o0_0 m_o0_1 m_o0_7 m_o0_8 m_o0_9 m_o0_10 m_o0_11 m_o0_12 m_o0_13 m_o0_14 c_1) fI0
      obtain ⟨k10, ek10, hf⟩ := of_zj hf
      have hk10 : ∀ (x12 : Int) (I11 : IMem), (∀ q, ¬ M q → I11 q = Ib q) → k10 x12 I11 = some r → ∀ q, ¬ M q → r.2 q = Ib q := by
        intro x12 I11 fI11 hf
        subst ek10
        obtain ⟨x13, -, hf⟩ := of_zl hf
        obtain ⟨x14, -, hf⟩ := of_zl hf
        exact hR_ x13 x14 I11 fI11 hf
      rcases of_ite hf with ⟨_, hf⟩ | ⟨_, hf⟩
      · exact hk10 (I8 (o0 + 1) 111) I8 fI8 hf
      · exact hk10 0 I8 fI8 hf
    · exact hk_56 w2 I0 fI0 hf
theorem fr_X_needed (M : Nat → Prop) (fu : Nat) (o0 : Nat) (a1 : Int) (I0 : IMem) {r : Int × IMem} (m_o0_0 : M o0) (m_o0_1 : M (o0 + 1)) (m_o0_3 : M (o0 + 3)) (m_o0_7 : M (o0 + 7)) (m_o0_8 : M (o0 + 8)) (m_o0_9 : M (o0 + 9)) (m_o0_10 : M (o0 + 10)) (m_o0_11 : M (o0 + 11)) (m_o0_12 : M (o0 + 12)) (m_o0_13 : M (o0 + 13)) (m_o0_14 : M (o0 + 14)) (m_o0_15 : M (o0 + 15)) (m_o0_23 : M (o0 + 23)) (m_o0_24 : M (o0 + 24)) (hf : f_X_needed fu o0 a1 I0 = some r) : ∀ q, ¬ M q → r.2 q = I0 q := by
  unfold f_X_needed at hf
  obtain ⟨Ib, hIb⟩ : ∃ Ib : IMem, Ib = I0 := ⟨I0, rfl⟩
  rw [← hIb]
  have f0 : ∀ q, ¬ M q → I0 q = Ib q := fun q _ => by rw [hIb]
  clear hIb
  obtain ⟨y1, I2, c_1, hf⟩ := of_zb hf
  have fI2 := fr_tr (fr_X_isIn M fu a1 1 40 I0 c_1) f0
  rcases of_ite hf with ⟨_, hf⟩ | ⟨_, hf⟩
  · cases hf; exact fI2
  · obtain ⟨u_3, I5, c_2, hf⟩ := of_zb hf
    have fI5 := fr_tr (fr_X_setsOut M fu o0 I2 m_o0_0 m_o0_3 m_o0_23 m_o0_24 c_2) fI2
    refine fr_X_needed_20 M fu _ o0 a1 m_o0_0 m_o0_1 m_o0_7 m_o0_8 m_o0_9 m_o0_10 m_o0_11 m_o0_12 m_o0_13 m_o0_14 ?_ fu 0 0 I5 fI5 hf
    · intro x16 I15 fI15 hf
      obtain ⟨u_5, I18, c_4, hf⟩ := of_zb hf
      have fI18 := fr_tr (fr_X_comesBack M fu o0 I15 m_o0_0 m_o0_1 m_o0_13 m_o0_15 c_4) fI15
      cases hf; exact fI18
theorem fr_X_past (M : Nat → Prop) (fu : Nat) (o0 : Nat) (a1 : Int) (a2 : Int) (I0 : IMem) {r : Int × IMem} (hf : f_X_past fu o0 a1 a2 I0 = some r) : ∀ q, ¬ M q → r.2 q = I0 q := by
  unfold f_X_past at hf
  obtain ⟨Ib, hIb⟩ : ∃ Ib : IMem, Ib = I0 := ⟨I0, rfl⟩
  rw [← hIb]
  have f0 : ∀ q, ¬ M q → I0 q = Ib q := fun q _ => by rw [hIb]
  clear hIb
  obtain ⟨y1, I2, c_1, hf⟩ := of_zb hf
  have fI2 := fr_tr (fr_X_isIn M fu a1 0 59 I0 c_1) f0
  rcases of_ite hf with ⟨_, hf⟩ | ⟨_, hf⟩
  · cases hf; exact fI2
  · rcases of_ite hf with ⟨_, hf⟩ | ⟨_, hf⟩
    · obtain ⟨y4, I5, c_2, hf⟩ := of_zb hf
      have fI5 := fr_tr (fr_X_isIn M fu a2 0 2 I2 c_2) fI2
      rcases of_ite hf with ⟨_, hf⟩ | ⟨_, hf⟩
      · cases hf; exact fI5
      · obtain ⟨x7, -, hf⟩ := of_zl hf
        obtain ⟨g_3, hf⟩ := of_zg hf
        cases hf; exact fI5
    · cases hf; exact fI2
theorem fr_X_which_32 (M : Nat → Prop) (fu : Nat) {r : Int × IMem} {Ib : IMem} (k_135 : Int → Int → Int → IMem → Res) (o0 : Nat) (p1 : Int) (p2 : Int) (m_o0_0 : M o0) (m_o0_1 : M (o0 + 1)) (m_o0_3 : M (o0 + 3)) (m_o0_7 : M (o0 + 7)) (m_o0_8 : M (o0 + 8)) (m_o0_9 : M (o0 + 9)) (m_o0_10 : M (o0 + 10)) (m_o0_11 : M (o0 + 11)) (m_o0_12 : M (o0 + 12)) (m_o0_13 : M (o0 + 13)) (m_o0_14 : M (o0 + 14)) (m_o0_15 : M (o0 + 15)) (m_o0_23 : M (o0 + 23)) (m_o0_24 : M (o0 + 24)) (m_o0_25 : M (o0 + 25)) (hk_135 : ∀ (z0 : Int) (z1 : Int) (z2 : Int) (I9 : IMem), (∀ q, ¬ M q → I9 q = Ib q) → k_135 z0 z1 z2 I9 = some r → ∀ q, ¬ M q → r.2 q = Ib q) : ∀ (m : Nat) (w3 : Int) (w4 : Int) (w5 : Int) (w6 : Int) (I0 : IMem), (∀ q, ¬ M q → I0 q = Ib q) → f_X_which_32 fu k_135 o0 p1 p2 m w3 w4 w5 w6 I0 = some r → ∀ q, ¬ M q → r.2 q = Ib q := by
  intro m
  induction m with
  | zero => intro w3 w4 w5 w6 I0 _ hf; cases hf
  | succ m hR_ =>
    intro w3 w4 w5 w6 I0 fI0 hf
    replace hf : fb_X_which_32 fu k_135 o0 p1 p2 (f_X_which_32 fu k_135 o0 p1 p2 m) w3 w4 w5 w6 I0 = some r := hf
    unfold fb_X_which_32 at hf
    rcases of_ite hf with ⟨_, hf⟩ | ⟨_, hf⟩
    · obtain ⟨I7, fI7, hf⟩ := fr_zw m_o0_0 fI0 hf
      obtain ⟨u_2, I9, c_1, hf⟩ := of_zb hf
      have fI9 := fr_tr (fr_X_leads M fu o0 (I7 (o0 + 1) 6) (I7 (o0 + 1) 5) (I7 (o0 + 1) 1) p1 I7 m_o0_0 m_o0_1 m_o0_3 m_o0_7 m_o0_8 m_o0_9 m_o0_10 m_o0_11 m_o0_12 m_o0_13 m_o0_14 m_o0_15 m_o0_23 m_o0_24 m_o0_25 c_1) fI7
      obtain ⟨k11, ek11, hf⟩ := of_zj hf
      have hk11 : ∀ (x13 : Int) (x14 : Int) (x15 : Int) (I12 : IMem), (∀ q, ¬ M q → I12 q = Ib q) → k11 x13 x14 x15 I12 = some r → ∀ q, ¬ M q → r.2 q = Ib q := by
        intro x13 x14 x15 I12 fI12 hf
        subst ek11
        obtain ⟨x16, -, hf⟩ := of_zl hf
        exact hR_ x13 x14 x15 x16 I12 fI12 hf
      obtain ⟨k17, ek17, hf⟩ := of_zj hf
      have hk17 : ∀  (I18 : IMem), (∀ q, ¬ M q → I18 q = Ib q) → k17 I18 = some r → ∀ q, ¬ M q → r.2 q = Ib q := by
        intro I18 fI18 hf
        subst ek17
        obtain ⟨x19, -, hf⟩ := of_zl hf
        obtain ⟨x20, -, hf⟩ := of_zl hf
        exact hk11 w6 x19 x20 I18 fI18 hf
      rcases of_ite hf with ⟨_, hf⟩ | ⟨_, hf⟩
      · exact hk17 I9 fI9 hf
      · rcases of_ite hf with ⟨_, hf⟩ | ⟨_, hf⟩
        · exact hk11 w3 w4 w5 I9 fI9 hf
        · rcases of_ite hf with ⟨_, hf⟩ | ⟨_, hf⟩
          · rcases of_ite hf with ⟨_, hf⟩ | ⟨_, hf⟩
            · exact hk17 I9 fI9 hf
            · exact hk11 w3 w4 w5 I9 fI9 hf
          · exact hk17 I9 fI9 hf
    · exact hk_135 w3 w4 w5 I0 fI0 hf
theorem fr_X_which (M : Nat → Prop) (fu : Nat) (o0 : Nat) (a1 : Int) (a2 : Int) (I0 : IMem) {r : Int × IMem} (m_o0_0 : M o0) (m_o0_1 : M (o0 + 1)) (m_o0_3 : M (o0 + 3)) (m_o0_7 : M (o0 + 7)) (m_o0_8 : M (o0 + 8)) (m_o0_9 : M (o0 + 9)) (m_o0_10 : M (o0 + 10)) (m_o0_11 : M (o0 + 11)) (m_o0_12 : M (o0 + 12)) (m_o0_13 : M (o0 + 13)) (m_o0_14 : M (o0 + 14)) (m_o0_15 : M (o0 + 15)) (m_o0_23 : M (o0 + 23)) (m_o0_24 : M (o0 + 24)) (m_o0_25 : M (o0 + 25)) (hf : f_X_which fu o0 a1 a2 I0 = some r) : ∀ q, ¬ M q → r.2 q = I0 q := by
  unfold f_X_which at hf
  obtain ⟨Ib, hIb⟩ : ∃ Ib : IMem, Ib = I0 := ⟨I0, rfl⟩
  rw [← hIb]
  have f0 : ∀ q, ¬ M q → I0 q = Ib q := fun q _ => by rw [hIb]
  clear hIb
  obtain ⟨y1, I2, c_1, hf⟩ := of_zb hf
  have fI2 := fr_tr (fr_X_isIn M fu a1 1 20 I0 c_1) f0
  rcases of_ite hf with ⟨_, hf⟩ | ⟨_, hf⟩
  · cases hf; exact fI2
  · obtain ⟨y4, I5, c_2, hf⟩ := of_zb hf
    have fI5 := fr_tr (fr_X_isIn M fu a2 0 2 I2 c_2) fI2
    rcases of_ite hf with ⟨_, hf⟩ | ⟨_, hf⟩
    · cases hf; exact fI5
    · refine fr_X_which_32 M fu _ o0 a1 a2 m_o0_0 m_o0_1 m_o0_3 m_o0_7 m_o0_8 m_o0_9 m_o0_10 m_o0_11 m_o0_12 m_o0_13 m_o0_14 m_o0_15 m_o0_23 m_o0_24 m_o0_25 ?_ fu ((-1)) 0 0 0 I5 fI5 hf
      · intro x22 x23 x24 I21 fI21 hf
        obtain ⟨I25, fI25, hf⟩ := fr_zw m_o0_0 fI21 hf
        rcases of_ite hf with ⟨_, hf⟩ | ⟨_, hf⟩
        · cases hf; exact fI25
        · rcases of_ite hf with ⟨_, hf⟩ | ⟨_, hf⟩
          · cases hf; exact fI25
          · cases hf; exact fI25
theorem fr_X_folded_48 (M : Nat → Prop) (fu : Nat) {r : Int × IMem} {Ib : IMem} (o0 : Nat) (p1 : Int) (p2 : Int) (p3 : Int) : ∀ (m : Nat) (w4 : Int) (w5 : Int) (w6 : Int) (I0 : IMem), (∀ q, ¬ M q → I0 q = Ib q) → f_X_folded_48 fu o0 p1 p2 p3 m w4 w5 w6 I0 = some r → ∀ q, ¬ M q → r.2 q = Ib q := by
  intro m
  induction m with
  | zero => intro w4 w5 w6 I0 _ hf; cases hf
  | succ m hR_ =>
    intro w4 w5 w6 I0 fI0 hf
    replace hf : fb_X_folded_48 fu o0 p1 p2 p3 (f_X_folded_48 fu o0 p1 p2 p3 m) w4 w5 w6 I0 = some r := hf
    unfold fb_X_folded_48 at hf
    obtain ⟨x11, -, hf⟩ := of_zl hf
    obtain ⟨g_1, hf⟩ := of_zg hf
    rcases of_ite hf with ⟨_, hf⟩ | ⟨_, hf⟩
    · obtain ⟨y12, I13, c_2, hf⟩ := of_zb hf
      have fI13 := fr_tr (fr_X_of M fu o0 p1 w6 1 I0 c_2) fI0
      obtain ⟨k15, ek15, hf⟩ := of_zj hf
      have hk15 : ∀ (x17 : Int) (x18 : Int) (x19 : Int) (I16 : IMem), (∀ q, ¬ M q → I16 q = Ib q) → k15 x17 x18 x19 I16 = some r → ∀ q, ¬ M q → r.2 q = Ib q := by
        intro x17 x18 x19 I16 fI16 hf
        subst ek15
        rcases of_ite hf with ⟨_, hf⟩ | ⟨_, hf⟩
        · cases hf; exact fI16
        · obtain ⟨x20, -, hf⟩ := of_zl hf
          exact hR_ x17 x18 x20 I16 fI16 hf
      rcases of_ite hf with ⟨_, hf⟩ | ⟨_, hf⟩
      · obtain ⟨g_3, hf⟩ := of_zg hf
        obtain ⟨x24, -, hf⟩ := of_zl hf
        exact hk15 x24 p2 w4 I13 fI13 hf
      · rcases of_ite hf with ⟨_, hf⟩ | ⟨_, hf⟩
        · obtain ⟨x21, -, hf⟩ := of_zl hf
          exact hk15 x21 y12 w4 I13 fI13 hf
        · obtain ⟨x22, -, hf⟩ := of_zl hf
          obtain ⟨x23, -, hf⟩ := of_zl hf
          exact hk15 w4 x23 x22 I13 fI13 hf
    · cases hf; exact fI0
theorem fr_X_folded (M : Nat → Prop) (fu : Nat) (o0 : Nat) (a1 : Int) (a2 : Int) (a3 : Int) (I0 : IMem) {r : Int × IMem} (hf : f_X_folded fu o0 a1 a2 a3 I0 = some r) : ∀ q, ¬ M q → r.2 q = I0 q := by
  unfold f_X_folded at hf
  obtain ⟨Ib, hIb⟩ : ∃ Ib : IMem, Ib = I0 := ⟨I0, rfl⟩
  rw [← hIb]
  have f0 : ∀ q, ¬ M q → I0 q = Ib q := fun q _ => by rw [hIb]
  clear hIb
  obtain ⟨y1, I2, c_1, hf⟩ := of_zb hf
  have fI2 := fr_tr (fr_X_isLine M fu a1 I0 c_1) f0
  rcases of_ite hf with ⟨_, hf⟩ | ⟨_, hf⟩
  · cases hf; exact fI2
  · obtain ⟨y4, I5, c_2, hf⟩ := of_zb hf
    have fI5 := fr_tr (fr_X_isIn M fu a2 1 40 I2 c_2) fI2
    rcases of_ite hf with ⟨_, hf⟩ | ⟨_, hf⟩
    · cases hf; exact fI5
    · obtain ⟨x7, -, hf⟩ := of_zl hf
      obtain ⟨g_3, hf⟩ := of_zg hf
      obtain ⟨y8, I9, c_4, hf⟩ := of_zb hf
      have fI9 := fr_tr (fr_X_isIn M fu a3 ((-1)) (wr32 ((I5 (o0 + 1) x7.toNat) - 1)) I5 c_4) fI5
      rcases of_ite hf with ⟨_, hf⟩ | ⟨_, hf⟩
      · cases hf; exact fI9
      · refine fr_X_folded_48 M fu o0 a1 a2 a3 fu 0 a2 0 I9 fI9 hf
theorem fr_X_image_15 (M : Nat → Prop) (fu : Nat) {r : Int × IMem} {Ib : IMem} (k_59 : IMem → Res) (o0 : Nat) (p1 : Int) (m_o0_1 : M (o0 + 1)) (m_o0_2 : M (o0 + 2)) (hk_59 : ∀ (I9 : IMem), (∀ q, ¬ M q → I9 q = Ib q) → k_59 I9 = some r → ∀ q, ¬ M q → r.2 q = Ib q) : ∀ (m : Nat) (w2 : Int) (I0 : IMem), (∀ q, ¬ M q → I0 q = Ib q) → f_X_image_15 fu k_59 o0 p1 m w2 I0 = some r → ∀ q, ¬ M q → r.2 q = Ib q := by
  intro m
  induction m with
  | zero => intro w2 I0 _ hf; cases hf
  | succ m hR_ =>
    intro w2 I0 fI0 hf
    replace hf : fb_X_image_15 fu k_59 o0 p1 (f_X_image_15 fu k_59 o0 p1 m) w2 I0 = some r := hf
    unfold fb_X_image_15 at hf
    rcases of_ite hf with ⟨_, hf⟩ | ⟨_, hf⟩
    · obtain ⟨k3, ek3, hf⟩ := of_zj hf
      have hk3 : ∀  (I4 : IMem), (∀ q, ¬ M q → I4 q = Ib q) → k3 I4 = some r → ∀ q, ¬ M q → r.2 q = Ib q := by
        intro I4 fI4 hf
        subst ek3
        obtain ⟨x5, -, hf⟩ := of_zl hf
        exact hR_ x5 I4 fI4 hf
      rcases of_ite hf with ⟨_, hf⟩ | ⟨_, hf⟩
      · obtain ⟨g_1, hf⟩ := of_zg hf
        obtain ⟨g_2, hf⟩ := of_zg hf
        obtain ⟨I6, fI6, hf⟩ := fr_zw m_o0_1 fI0 hf
        exact hk3 I6 fI6 hf
      · obtain ⟨g_3, hf⟩ := of_zg hf
        obtain ⟨g_4, hf⟩ := of_zg hf
        obtain ⟨I7, fI7, hf⟩ := fr_zw m_o0_2 fI0 hf
        exact hk3 I7 fI7 hf
    · exact hk_59 I0 fI0 hf
theorem fr_X_image (M : Nat → Prop) (fu : Nat) (o0 : Nat) (a1 : Int) (I0 : IMem) {r : Int × IMem} (m_o0_0 : M o0) (m_o0_1 : M (o0 + 1)) (m_o0_2 : M (o0 + 2)) (m_o0_13 : M (o0 + 13)) (hf : f_X_image fu o0 a1 I0 = some r) : ∀ q, ¬ M q → r.2 q = I0 q := by
  unfold f_X_image at hf
  obtain ⟨Ib, hIb⟩ : ∃ Ib : IMem, Ib = I0 := ⟨I0, rfl⟩
  rw [← hIb]
  have f0 : ∀ q, ¬ M q → I0 q = Ib q := fun q _ => by rw [hIb]
  clear hIb
  obtain ⟨k1, ek1, hf⟩ := of_zj hf
  have hk1 : ∀  (I2 : IMem), (∀ q, ¬ M q → I2 q = Ib q) → k1 I2 = some r → ∀ q, ¬ M q → r.2 q = Ib q := by
    intro I2 fI2 hf
    subst ek1
    refine fr_X_image_15 M fu _ o0 a1 m_o0_1 m_o0_2 ?_ fu 0 I2 fI2 hf
    · intro I8 fI8 hf
      obtain ⟨k9, ek9, hf⟩ := of_zj hf
      have hk9 : ∀  (I10 : IMem), (∀ q, ¬ M q → I10 q = Ib q) → k9 I10 = some r → ∀ q, ¬ M q → r.2 q = Ib q := by
        intro I10 fI10 hf
        subst ek9
        obtain ⟨I11, fI11, hf⟩ := fr_zw m_o0_0 fI10 hf
        cases hf; exact fI11
      rcases of_ite hf with ⟨_, hf⟩ | ⟨_, hf⟩
      · obtain ⟨u_2, I13, c_1, hf⟩ := of_zb hf
        have fI13 := fr_tr (fr_X_forgets M fu o0 I8 m_o0_0 m_o0_13 c_1) fI8
        exact hk9 I13 fI13 hf
      · exact hk9 I8 fI8 hf
  rcases of_ite hf with ⟨_, hf⟩ | ⟨_, hf⟩
  · rcases of_ite hf with ⟨_, hf⟩ | ⟨_, hf⟩
    · cases hf; exact f0
    · exact hk1 I0 f0 hf
  · exact hk1 I0 f0 hf
theorem fr_X_told (M : Nat → Prop) (fu : Nat) (o0 : Nat) (a1 : Int) (I0 : IMem) {r : Int × IMem} (hf : f_X_told fu o0 a1 I0 = some r) : ∀ q, ¬ M q → r.2 q = I0 q := by
  unfold f_X_told at hf
  obtain ⟨Ib, hIb⟩ : ∃ Ib : IMem, Ib = I0 := ⟨I0, rfl⟩
  rw [← hIb]
  have f0 : ∀ q, ¬ M q → I0 q = Ib q := fun q _ => by rw [hIb]
  clear hIb
  obtain ⟨y1, I2, c_1, hf⟩ := of_zb hf
  have fI2 := fr_tr (fr_X_isIn M fu a1 0 5 I0 c_1) f0
  rcases of_ite hf with ⟨_, hf⟩ | ⟨_, hf⟩
  · rcases of_ite hf with ⟨_, hf⟩ | ⟨_, hf⟩
    · cases hf; exact fI2
    · rcases of_ite hf with ⟨_, hf⟩ | ⟨_, hf⟩
      · cases hf; exact fI2
      · rcases of_ite hf with ⟨_, hf⟩ | ⟨_, hf⟩
        · cases hf; exact fI2
        · cases hf; exact fI2
  · obtain ⟨x4, -, hf⟩ := of_zl hf
    obtain ⟨g_2, hf⟩ := of_zg hf
    cases hf; exact fI2
