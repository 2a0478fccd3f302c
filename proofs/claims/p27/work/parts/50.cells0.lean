/-! frames of the reference, cell by cell (by program out of the functions' own texts) -/
theorem fcz_w {M : Nat → Nat → Prop} {I Ib : IMem} {o j : Nat} {v : Int} {k : IMem → Res} {r : Int × IMem} (hM : M o j) (hI : ∀ q i, ¬ M q i → I q i = Ib q i) (h : zw I o j v k = some r) : ∃ I1 : IMem, (∀ q i, ¬ M q i → I1 q i = Ib q i) ∧ k I1 = some r := by
  refine ⟨up I o j v, fun q i hq => ?_, h⟩
  rw [← hI q i hq]
  exact if_neg (fun (e : q = o ∧ i = j) => hq (e.1 ▸ e.2 ▸ hM))
theorem fcz_t {M : Nat → Nat → Prop} {I1 I Ib : IMem} (h1 : ∀ q i, ¬ M q i → I1 q i = I q i) (h : ∀ q i, ¬ M q i → I q i = Ib q i) : ∀ q i, ¬ M q i → I1 q i = Ib q i := fun q i hq => (h1 q i hq).trans (h q i hq)
theorem fc_JL_canEncode (M : Nat → Nat → Prop) (fu : Nat) (a0 : Int) (I0 : IMem) {r : Int × IMem} (hf : f_JL_canEncode fu a0 I0 = some r) : ∀ q j, ¬ M q j → r.2 q j = I0 q j := by
  unfold f_JL_canEncode at hf
  obtain ⟨Ib, hIb⟩ : ∃ Ib : IMem, Ib = I0 := ⟨I0, rfl⟩
  rw [← hIb]
  have f0 : ∀ q j, ¬ M q j → I0 q j = Ib q j := fun q j _ => by rw [hIb]
  clear hIb
  rcases of_ite hf with ⟨_, hf⟩ | ⟨_, hf⟩
  · cases hf; exact f0
  · rcases of_ite hf with ⟨_, hf⟩ | ⟨_, hf⟩
    · cases hf; exact f0
    · cases hf; exact f0
theorem fc_JL_indexOfChar_7 (M : Nat → Nat → Prop) (fu : Nat) {r : Int × IMem} {Ib : IMem} (s0 : Nat) (p3 : Int) (p4 : Int) : ∀ (m : Nat) (w5 : Int) (I0 : IMem), (∀ q j, ¬ M q j → I0 q j = Ib q j) → f_JL_indexOfChar_7 fu s0 p3 p4 m w5 I0 = some r → ∀ q j, ¬ M q j → r.2 q j = Ib q j := by
  intro m
  induction m with
  | zero => intro w5 I0 _ hf; cases hf
  | succ m hR_ =>
    intro w5 I0 fI0 hf
    replace hf : fb_JL_indexOfChar_7 fu s0 p3 p4 (f_JL_indexOfChar_7 fu s0 p3 p4 m) w5 I0 = some r := hf
    unfold fb_JL_indexOfChar_7 at hf
    rcases of_ite hf with ⟨_, hf⟩ | ⟨_, hf⟩
    · obtain ⟨g_1, hf⟩ := of_zg hf
      rcases of_ite hf with ⟨_, hf⟩ | ⟨_, hf⟩
      · cases hf; exact fI0
      · obtain ⟨x2, -, hf⟩ := of_zl hf
        exact hR_ x2 I0 fI0 hf
    · cases hf; exact fI0
theorem fc_JL_indexOfChar (M : Nat → Nat → Prop) (fu : Nat) (s0 : Nat) (a1 : Int) (a2 : Int) (a3 : Int) (I0 : IMem) {r : Int × IMem} (hf : f_JL_indexOfChar fu s0 a1 a2 a3 I0 = some r) : ∀ q j, ¬ M q j → r.2 q j = I0 q j := by
  unfold f_JL_indexOfChar at hf
  obtain ⟨Ib, hIb⟩ : ∃ Ib : IMem, Ib = I0 := ⟨I0, rfl⟩
  rw [← hIb]
  have f0 : ∀ q j, ¬ M q j → I0 q j = Ib q j := fun q j _ => by rw [hIb]
  clear hIb
  obtain ⟨x1, -, hf⟩ := of_zl hf
  refine fc_JL_indexOfChar_7 M fu s0 a3 x1 fu a2 I0 f0 hf
theorem fc_JM_max (M : Nat → Nat → Prop) (fu : Nat) (a0 : Int) (a1 : Int) (I0 : IMem) {r : Int × IMem} (hf : f_JM_max fu a0 a1 I0 = some r) : ∀ q j, ¬ M q j → r.2 q j = I0 q j := by
  unfold f_JM_max at hf
  obtain ⟨Ib, hIb⟩ : ∃ Ib : IMem, Ib = I0 := ⟨I0, rfl⟩
  rw [← hIb]
  have f0 : ∀ q j, ¬ M q j → I0 q j = Ib q j := fun q j _ => by rw [hIb]
  clear hIb
  rcases of_ite hf with ⟨_, hf⟩ | ⟨_, hf⟩
  · cases hf; exact f0
  · cases hf; exact f0
theorem fc_JM_min (M : Nat → Nat → Prop) (fu : Nat) (a0 : Int) (a1 : Int) (I0 : IMem) {r : Int × IMem} (hf : f_JM_min fu a0 a1 I0 = some r) : ∀ q j, ¬ M q j → r.2 q j = I0 q j := by
  unfold f_JM_min at hf
  obtain ⟨Ib, hIb⟩ : ∃ Ib : IMem, Ib = I0 := ⟨I0, rfl⟩
  rw [← hIb]
  have f0 : ∀ q j, ¬ M q j → I0 q j = Ib q j := fun q j _ => by rw [hIb]
  clear hIb
  rcases of_ite hf with ⟨_, hf⟩ | ⟨_, hf⟩
  · cases hf; exact f0
  · cases hf; exact f0
theorem fc_JL_indexOf (M : Nat → Nat → Prop) (fu : Nat) (s0 : Nat) (a1 : Int) (a2 : Int) (a3 : Int) (I0 : IMem) {r : Int × IMem} (hf : f_JL_indexOf fu s0 a1 a2 a3 I0 = some r) : ∀ q j, ¬ M q j → r.2 q j = I0 q j := by
  unfold f_JL_indexOf at hf
  obtain ⟨Ib, hIb⟩ : ∃ Ib : IMem, Ib = I0 := ⟨I0, rfl⟩
  rw [← hIb]
  have f0 : ∀ q j, ¬ M q j → I0 q j = Ib q j := fun q j _ => by rw [hIb]
  clear hIb
  obtain ⟨y1, I2, c_1, hf⟩ := of_zb hf
  have fI2 := fcz_t (fc_JL_canEncode M fu a1 I0 c_1) f0
  rcases of_ite hf with ⟨_, hf⟩ | ⟨_, hf⟩
  · cases hf; exact fI2
  · obtain ⟨y4, I5, c_2, hf⟩ := of_zb hf
    have fI5 := fcz_t (fc_JM_max M fu a2 0 I2 c_2) fI2
    obtain ⟨y7, I8, c_3, hf⟩ := of_zb hf
    have fI8 := fcz_t (fc_JM_min M fu a3 ((lenJ.getD s0 0 : Nat)) I5 c_3) fI5
    rcases of_ite hf with ⟨_, hf⟩ | ⟨_, hf⟩
    · obtain ⟨y10, I11, c_4, hf⟩ := of_zb hf
      have fI11 := fcz_t (fc_JL_indexOfChar M fu s0 a1 y4 y7 I8 c_4) fI8
      cases hf; exact fI11
    · cases hf; exact fI8
theorem fc_JS_isLatin1 (M : Nat → Nat → Prop) (fu : Nat) (s0 : Nat) (I0 : IMem) {r : Int × IMem} (hf : f_JS_isLatin1 fu s0 I0 = some r) : ∀ q j, ¬ M q j → r.2 q j = I0 q j := by
  unfold f_JS_isLatin1 at hf
  obtain ⟨Ib, hIb⟩ : ∃ Ib : IMem, Ib = I0 := ⟨I0, rfl⟩
  rw [← hIb]
  have f0 : ∀ q j, ¬ M q j → I0 q j = Ib q j := fun q j _ => by rw [hIb]
  clear hIb
  cases hf; exact f0
theorem fc_JS_coder (M : Nat → Nat → Prop) (fu : Nat) (s0 : Nat) (I0 : IMem) {r : Int × IMem} (hf : f_JS_coder fu s0 I0 = some r) : ∀ q j, ¬ M q j → r.2 q j = I0 q j := by
  unfold f_JS_coder at hf
  obtain ⟨Ib, hIb⟩ : ∃ Ib : IMem, Ib = I0 := ⟨I0, rfl⟩
  rw [← hIb]
  have f0 : ∀ q j, ¬ M q j → I0 q j = Ib q j := fun q j _ => by rw [hIb]
  clear hIb
  cases hf; exact f0
theorem fc_JS_length (M : Nat → Nat → Prop) (fu : Nat) (s0 : Nat) (I0 : IMem) {r : Int × IMem} (hf : f_JS_length fu s0 I0 = some r) : ∀ q j, ¬ M q j → r.2 q j = I0 q j := by
  unfold f_JS_length at hf
  obtain ⟨Ib, hIb⟩ : ∃ Ib : IMem, Ib = I0 := ⟨I0, rfl⟩
  rw [← hIb]
  have f0 : ∀ q j, ¬ M q j → I0 q j = Ib q j := fun q j _ => by rw [hIb]
  clear hIb
  obtain ⟨y1, I2, c_1, hf⟩ := of_zb hf
  have fI2 := fcz_t (fc_JS_coder M fu s0 I0 c_1) f0
  cases hf; exact fI2
theorem fc_JS_indexOf_1 (M : Nat → Nat → Prop) (fu : Nat) (s0 : Nat) (a1 : Int) (a2 : Int) (I0 : IMem) {r : Int × IMem} (hf : f_JS_indexOf_1 fu s0 a1 a2 I0 = some r) : ∀ q j, ¬ M q j → r.2 q j = I0 q j := by
  unfold f_JS_indexOf_1 at hf
  obtain ⟨Ib, hIb⟩ : ∃ Ib : IMem, Ib = I0 := ⟨I0, rfl⟩
  rw [← hIb]
  have f0 : ∀ q j, ¬ M q j → I0 q j = Ib q j := fun q j _ => by rw [hIb]
  clear hIb
  obtain ⟨y1, I2, c_1, hf⟩ := of_zb hf
  have fI2 := fcz_t (fc_JS_isLatin1 M fu s0 I0 c_1) f0
  rcases of_ite hf with ⟨_, hf⟩ | ⟨_, hf⟩
  · obtain ⟨y4, I5, c_2, hf⟩ := of_zb hf
    have fI5 := fcz_t (fc_JS_length M fu s0 I2 c_2) fI2
    cases hf
  · obtain ⟨y7, I8, c_3, hf⟩ := of_zb hf
    have fI8 := fcz_t (fc_JS_length M fu s0 I2 c_3) fI2
    obtain ⟨y10, I11, c_4, hf⟩ := of_zb hf
    have fI11 := fcz_t (fc_JL_indexOf M fu s0 a1 a2 y7 I8 c_4) fI8
    cases hf; exact fI11
theorem fc_JS_indexOf (M : Nat → Nat → Prop) (fu : Nat) (s0 : Nat) (a1 : Int) (I0 : IMem) {r : Int × IMem} (hf : f_JS_indexOf fu s0 a1 I0 = some r) : ∀ q j, ¬ M q j → r.2 q j = I0 q j := by
  unfold f_JS_indexOf at hf
  obtain ⟨Ib, hIb⟩ : ∃ Ib : IMem, Ib = I0 := ⟨I0, rfl⟩
  rw [← hIb]
  have f0 : ∀ q j, ¬ M q j → I0 q j = Ib q j := fun q j _ => by rw [hIb]
  clear hIb
  obtain ⟨y1, I2, c_1, hf⟩ := of_zb hf
  have fI2 := fcz_t (fc_JS_indexOf_1 M fu s0 a1 0 I0 c_1) f0
  cases hf; exact fI2
theorem fc_JP_checkIndex (M : Nat → Nat → Prop) (fu : Nat) (a0 : Int) (a1 : Int) (I0 : IMem) {r : Int × IMem} (hf : f_JP_checkIndex fu a0 a1 I0 = some r) : ∀ q j, ¬ M q j → r.2 q j = I0 q j := by
  unfold f_JP_checkIndex at hf
  obtain ⟨Ib, hIb⟩ : ∃ Ib : IMem, Ib = I0 := ⟨I0, rfl⟩
  rw [← hIb]
  have f0 : ∀ q j, ¬ M q j → I0 q j = Ib q j := fun q j _ => by rw [hIb]
  clear hIb
  obtain ⟨k1, ek1, hf⟩ := of_zj hf
  have hk1 : ∀  (I2 : IMem), (∀ q j, ¬ M q j → I2 q j = Ib q j) → k1 I2 = some r → ∀ q j, ¬ M q j → r.2 q j = Ib q j := by
    intro I2 fI2 hf
    subst ek1
    cases hf
  rcases of_ite hf with ⟨_, hf⟩ | ⟨_, hf⟩
  · exact hk1 I0 f0 hf
  · rcases of_ite hf with ⟨_, hf⟩ | ⟨_, hf⟩
    · cases hf; exact f0
    · exact hk1 I0 f0 hf
theorem fc_JS_checkIndex (M : Nat → Nat → Prop) (fu : Nat) (a0 : Int) (a1 : Int) (I0 : IMem) {r : Int × IMem} (hf : f_JS_checkIndex fu a0 a1 I0 = some r) : ∀ q j, ¬ M q j → r.2 q j = I0 q j := by
  unfold f_JS_checkIndex at hf
  obtain ⟨Ib, hIb⟩ : ∃ Ib : IMem, Ib = I0 := ⟨I0, rfl⟩
  rw [← hIb]
  have f0 : ∀ q j, ¬ M q j → I0 q j = Ib q j := fun q j _ => by rw [hIb]
  clear hIb
  obtain ⟨y2, I3, c_1, hf⟩ := of_zb hf
  have fI3 := fcz_t (fc_JP_checkIndex M fu a0 a1 I0 c_1) f0
  cases hf; exact fI3
theorem fc_JL_charAt (M : Nat → Nat → Prop) (fu : Nat) (s0 : Nat) (a1 : Int) (I0 : IMem) {r : Int × IMem} (hf : f_JL_charAt fu s0 a1 I0 = some r) : ∀ q j, ¬ M q j → r.2 q j = I0 q j := by
  unfold f_JL_charAt at hf
  obtain ⟨Ib, hIb⟩ : ∃ Ib : IMem, Ib = I0 := ⟨I0, rfl⟩
  rw [← hIb]
  have f0 : ∀ q j, ¬ M q j → I0 q j = Ib q j := fun q j _ => by rw [hIb]
  clear hIb
  obtain ⟨u_2, I2, c_1, hf⟩ := of_zb hf
  have fI2 := fcz_t (fc_JS_checkIndex M fu a1 ((lenJ.getD s0 0 : Nat)) I0 c_1) f0
  obtain ⟨g_3, hf⟩ := of_zg hf
  obtain ⟨g_4, hf⟩ := of_zg hf
  cases hf; exact fI2
theorem fc_JS_charAt (M : Nat → Nat → Prop) (fu : Nat) (s0 : Nat) (a1 : Int) (I0 : IMem) {r : Int × IMem} (hf : f_JS_charAt fu s0 a1 I0 = some r) : ∀ q j, ¬ M q j → r.2 q j = I0 q j := by
  unfold f_JS_charAt at hf
  obtain ⟨Ib, hIb⟩ : ∃ Ib : IMem, Ib = I0 := ⟨I0, rfl⟩
  rw [← hIb]
  have f0 : ∀ q j, ¬ M q j → I0 q j = Ib q j := fun q j _ => by rw [hIb]
  clear hIb
  obtain ⟨y1, I2, c_1, hf⟩ := of_zb hf
  have fI2 := fcz_t (fc_JS_isLatin1 M fu s0 I0 c_1) f0
  rcases of_ite hf with ⟨_, hf⟩ | ⟨_, hf⟩
  · cases hf
  · obtain ⟨y4, I5, c_2, hf⟩ := of_zb hf
    have fI5 := fcz_t (fc_JL_charAt M fu s0 a1 I2 c_2) fI2
    obtain ⟨g_3, hf⟩ := of_zg hf
    cases hf; exact fI5
theorem fc_JM_floorMod (M : Nat → Nat → Prop) (fu : Nat) (a0 : Int) (a1 : Int) (I0 : IMem) {r : Int × IMem} (hf : f_JM_floorMod fu a0 a1 I0 = some r) : ∀ q j, ¬ M q j → r.2 q j = I0 q j := by
  unfold f_JM_floorMod at hf
  obtain ⟨Ib, hIb⟩ : ∃ Ib : IMem, Ib = I0 := ⟨I0, rfl⟩
  rw [← hIb]
  have f0 : ∀ q j, ¬ M q j → I0 q j = Ib q j := fun q j _ => by rw [hIb]
  clear hIb
  obtain ⟨g_1, hf⟩ := of_zg hf
  obtain ⟨x1, -, hf⟩ := of_zl hf
  rcases of_ite hf with ⟨_, hf⟩ | ⟨_, hf⟩
  · rcases of_ite hf with ⟨_, hf⟩ | ⟨_, hf⟩
    · cases hf; exact f0
    · cases hf; exact f0
  · cases hf; exact f0
theorem fc_X_state (M : Nat → Nat → Prop) (fu : Nat) (o0 : Nat) (a1 : Int) (I0 : IMem) {r : Int × IMem} (m_o0_1c0 : M (o0 + 1) 0) (hf : f_X_state fu o0 a1 I0 = some r) : ∀ q j, ¬ M q j → r.2 q j = I0 q j := by
  unfold f_X_state at hf
  obtain ⟨Ib, hIb⟩ : ∃ Ib : IMem, Ib = I0 := ⟨I0, rfl⟩
  rw [← hIb]
  have f0 : ∀ q j, ¬ M q j → I0 q j = Ib q j := fun q j _ => by rw [hIb]
  clear hIb
  obtain ⟨x1, -, hf⟩ := of_zl hf
  obtain ⟨I2, fI2, hf⟩ := fcz_w m_o0_1c0 f0 hf
  cases hf; exact fI2
theorem fc_X_forgets_2 (M : Nat → Nat → Prop) (fu : Nat) {r : Int × IMem} {Ib : IMem} (k_22 : IMem → Res) (o0 : Nat) (m_o0_13 : ∀ j, M (o0 + 13) j) (hk_22 : ∀ (I9 : IMem), (∀ q j, ¬ M q j → I9 q j = Ib q j) → k_22 I9 = some r → ∀ q j, ¬ M q j → r.2 q j = Ib q j) : ∀ (m : Nat) (w1 : Int) (I0 : IMem), (∀ q j, ¬ M q j → I0 q j = Ib q j) → f_X_forgets_2 fu k_22 o0 m w1 I0 = some r → ∀ q j, ¬ M q j → r.2 q j = Ib q j := by
  intro m
  induction m with
  | zero => intro w1 I0 _ hf; cases hf
  | succ m hR_ =>
    intro w1 I0 fI0 hf
    replace hf : fb_X_forgets_2 fu k_22 o0 (f_X_forgets_2 fu k_22 o0 m) w1 I0 = some r := hf
    unfold fb_X_forgets_2 at hf
    rcases of_ite hf with ⟨_, hf⟩ | ⟨_, hf⟩
    · obtain ⟨g_1, hf⟩ := of_zg hf
      obtain ⟨I1, fI1, hf⟩ := fcz_w (m_o0_13 _) fI0 hf
      obtain ⟨x2, -, hf⟩ := of_zl hf
      exact hR_ x2 I1 fI1 hf
    · exact hk_22 I0 fI0 hf
theorem fc_X_forgets (M : Nat → Nat → Prop) (fu : Nat) (o0 : Nat) (I0 : IMem) {r : Int × IMem} (m_o0_13 : ∀ j, M (o0 + 13) j) (m_o0_0c35 : M o0 35) (hf : f_X_forgets fu o0 I0 = some r) : ∀ q j, ¬ M q j → r.2 q j = I0 q j := by
  unfold f_X_forgets at hf
  obtain ⟨Ib, hIb⟩ : ∃ Ib : IMem, Ib = I0 := ⟨I0, rfl⟩
  rw [← hIb]
  have f0 : ∀ q j, ¬ M q j → I0 q j = Ib q j := fun q j _ => by rw [hIb]
  clear hIb
  refine fc_X_forgets_2 M fu _ o0 m_o0_13 ?_ fu 0 I0 f0 hf
  · intro I3 fI3 hf
    obtain ⟨I4, fI4, hf⟩ := fcz_w m_o0_0c35 fI3 hf
    cases hf; exact fI4
theorem fc_X_isIn (M : Nat → Nat → Prop) (fu : Nat) (a0 : Int) (a1 : Int) (a2 : Int) (I0 : IMem) {r : Int × IMem} (hf : f_X_isIn fu a0 a1 a2 I0 = some r) : ∀ q j, ¬ M q j → r.2 q j = I0 q j := by
  unfold f_X_isIn at hf
  obtain ⟨Ib, hIb⟩ : ∃ Ib : IMem, Ib = I0 := ⟨I0, rfl⟩
  rw [← hIb]
  have f0 : ∀ q j, ¬ M q j → I0 q j = Ib q j := fun q j _ => by rw [hIb]
  clear hIb
  rcases of_ite hf with ⟨_, hf⟩ | ⟨_, hf⟩
  · cases hf; exact f0
  · rcases of_ite hf with ⟨_, hf⟩ | ⟨_, hf⟩
    · cases hf; exact f0
    · cases hf; exact f0
theorem fc_X_set (M : Nat → Nat → Prop) (fu : Nat) (o0 : Nat) (a1 : Int) (a2 : Int) (I0 : IMem) {r : Int × IMem} (m_o0_1 : ∀ j, M (o0 + 1) j) (m_o0_13 : ∀ j, M (o0 + 13) j) (m_o0_0c35 : M o0 35) (hf : f_X_set fu o0 a1 a2 I0 = some r) : ∀ q j, ¬ M q j → r.2 q j = I0 q j := by
  unfold f_X_set at hf
  obtain ⟨Ib, hIb⟩ : ∃ Ib : IMem, Ib = I0 := ⟨I0, rfl⟩
  rw [← hIb]
  have f0 : ∀ q j, ¬ M q j → I0 q j = Ib q j := fun q j _ => by rw [hIb]
  clear hIb
  obtain ⟨k1, ek1, hf⟩ := of_zj hf
  have hk1 : ∀ (x3 : Int) (I2 : IMem), (∀ q j, ¬ M q j → I2 q j = Ib q j) → k1 x3 I2 = some r → ∀ q j, ¬ M q j → r.2 q j = Ib q j := by
    intro x3 I2 fI2 hf
    subst ek1
    rcases of_ite hf with ⟨_, hf⟩ | ⟨_, hf⟩
    · cases hf; exact fI2
    · obtain ⟨x5, -, hf⟩ := of_zl hf
      obtain ⟨g_1, hf⟩ := of_zg hf
      obtain ⟨I4, fI4, hf⟩ := fcz_w (m_o0_1 _) fI2 hf
      rcases of_ite hf with ⟨_, hf⟩ | ⟨_, hf⟩
      · obtain ⟨u_3, I7, c_2, hf⟩ := of_zb hf
        have fI7 := fcz_t (fc_X_forgets M fu o0 I4 m_o0_13 m_o0_0c35 c_2) fI4
        cases hf; exact fI7
      · cases hf; exact fI4
  rcases of_ite hf with ⟨_, hf⟩ | ⟨_, hf⟩
  · obtain ⟨y24, I25, c_4, hf⟩ := of_zb hf
    have fI25 := fcz_t (fc_X_isIn M fu a2 2 8 I0 c_4) f0
    exact hk1 y24 I25 fI25 hf
  · rcases of_ite hf with ⟨_, hf⟩ | ⟨_, hf⟩
    · obtain ⟨y21, I22, c_5, hf⟩ := of_zb hf
      have fI22 := fcz_t (fc_X_isIn M fu a2 1 99 I0 c_5) f0
      exact hk1 y21 I22 fI22 hf
    · rcases of_ite hf with ⟨_, hf⟩ | ⟨_, hf⟩
      · obtain ⟨y18, I19, c_6, hf⟩ := of_zb hf
        have fI19 := fcz_t (fc_X_isIn M fu a2 0 999 I0 c_6) f0
        exact hk1 y18 I19 fI19 hf
      · rcases of_ite hf with ⟨_, hf⟩ | ⟨_, hf⟩
        · obtain ⟨y15, I16, c_7, hf⟩ := of_zb hf
          have fI16 := fcz_t (fc_X_isIn M fu a2 0 1000 I0 c_7) f0
          exact hk1 y15 I16 fI16 hf
        · rcases of_ite hf with ⟨_, hf⟩ | ⟨_, hf⟩
          · obtain ⟨y12, I13, c_8, hf⟩ := of_zb hf
            have fI13 := fcz_t (fc_X_isIn M fu a2 0 99 I0 c_8) f0
            exact hk1 y12 I13 fI13 hf
          · rcases of_ite hf with ⟨_, hf⟩ | ⟨_, hf⟩
            · obtain ⟨y9, I10, c_9, hf⟩ := of_zb hf
              have fI10 := fcz_t (fc_X_isIn M fu a2 0 3 I0 c_9) f0
              rcases of_ite hf with ⟨_, hf⟩ | ⟨_, hf⟩
              · exact hk1 0 I10 fI10 hf
              · exact hk1 1 I10 fI10 hf
            · exact hk1 0 I0 f0 hf
theorem fc_X_isLine (M : Nat → Nat → Prop) (fu : Nat) (a0 : Int) (I0 : IMem) {r : Int × IMem} (hf : f_X_isLine fu a0 I0 = some r) : ∀ q j, ¬ M q j → r.2 q j = I0 q j := by
  unfold f_X_isLine at hf
  obtain ⟨Ib, hIb⟩ : ∃ Ib : IMem, Ib = I0 := ⟨I0, rfl⟩
  rw [← hIb]
  have f0 : ∀ q j, ¬ M q j → I0 q j = Ib q j := fun q j _ => by rw [hIb]
  clear hIb
  obtain ⟨y1, I2, c_1, hf⟩ := of_zb hf
  have fI2 := fcz_t (fc_X_isIn M fu a0 0 5 I0 c_1) f0
  obtain ⟨g_2, hf⟩ := of_zg hf
  cases hf; exact fI2
theorem fc_X_seen (M : Nat → Nat → Prop) (fu : Nat) (o0 : Nat) (a1 : Int) (a2 : Int) (I0 : IMem) {r : Int × IMem} (m_o0_1 : ∀ j, M (o0 + 1) j) (hf : f_X_seen fu o0 a1 a2 I0 = some r) : ∀ q j, ¬ M q j → r.2 q j = I0 q j := by
  unfold f_X_seen at hf
  obtain ⟨Ib, hIb⟩ : ∃ Ib : IMem, Ib = I0 := ⟨I0, rfl⟩
  rw [← hIb]
  have f0 : ∀ q j, ¬ M q j → I0 q j = Ib q j := fun q j _ => by rw [hIb]
  clear hIb
  obtain ⟨y1, I2, c_1, hf⟩ := of_zb hf
  have fI2 := fcz_t (fc_X_isLine M fu a1 I0 c_1) f0
  rcases of_ite hf with ⟨_, hf⟩ | ⟨_, hf⟩
  · cases hf; exact fI2
  · obtain ⟨y4, I5, c_2, hf⟩ := of_zb hf
    have fI5 := fcz_t (fc_X_isIn M fu a2 1 24 I2 c_2) fI2
    rcases of_ite hf with ⟨_, hf⟩ | ⟨_, hf⟩
    · cases hf; exact fI5
    · obtain ⟨x8, -, hf⟩ := of_zl hf
      obtain ⟨g_3, hf⟩ := of_zg hf
      obtain ⟨I7, fI7, hf⟩ := fcz_w (m_o0_1 _) fI5 hf
      cases hf; exact fI7
theorem fc_X_parts (M : Nat → Nat → Prop) (fu : Nat) (o0 : Nat) (a1 : Int) (a2 : Int) (I0 : IMem) {r : Int × IMem} (m_o0_1 : ∀ j, M (o0 + 1) j) (hf : f_X_parts fu o0 a1 a2 I0 = some r) : ∀ q j, ¬ M q j → r.2 q j = I0 q j := by
  unfold f_X_parts at hf
  obtain ⟨Ib, hIb⟩ : ∃ Ib : IMem, Ib = I0 := ⟨I0, rfl⟩
  rw [← hIb]
  have f0 : ∀ q j, ¬ M q j → I0 q j = Ib q j := fun q j _ => by rw [hIb]
  clear hIb
  obtain ⟨y1, I2, c_1, hf⟩ := of_zb hf
  have fI2 := fcz_t (fc_X_isIn M fu a1 2 8 I0 c_1) f0
  rcases of_ite hf with ⟨_, hf⟩ | ⟨_, hf⟩
  · cases hf; exact fI2
  · obtain ⟨y4, I5, c_2, hf⟩ := of_zb hf
    have fI5 := fcz_t (fc_X_isIn M fu a2 0 (wr32 (a1 - 1)) I2 c_2) fI2
    rcases of_ite hf with ⟨_, hf⟩ | ⟨_, hf⟩
    · cases hf; exact fI5
    · obtain ⟨x8, -, hf⟩ := of_zl hf
      obtain ⟨g_3, hf⟩ := of_zg hf
      obtain ⟨I7, fI7, hf⟩ := fcz_w (m_o0_1 _) fI5 hf
      cases hf; exact fI7
theorem fc_X_isGroup (M : Nat → Nat → Prop) (fu : Nat) (a0 : Int) (a1 : Int) (a2 : Int) (I0 : IMem) {r : Int × IMem} (hf : f_X_isGroup fu a0 a1 a2 I0 = some r) : ∀ q j, ¬ M q j → r.2 q j = I0 q j := by
  unfold f_X_isGroup at hf
  obtain ⟨Ib, hIb⟩ : ∃ Ib : IMem, Ib = I0 := ⟨I0, rfl⟩
  rw [← hIb]
  have f0 : ∀ q j, ¬ M q j → I0 q j = Ib q j := fun q j _ => by rw [hIb]
  clear hIb
  obtain ⟨y1, I2, c_1, hf⟩ := of_zb hf
  have fI2 := fcz_t (fc_X_isIn M fu a0 1 8 I0 c_1) f0
  rcases of_ite hf with ⟨_, hf⟩ | ⟨_, hf⟩
  · cases hf; exact fI2
  · obtain ⟨y4, I5, c_2, hf⟩ := of_zb hf
    have fI5 := fcz_t (fc_X_isIn M fu a1 1 a0 I2 c_2) fI2
    rcases of_ite hf with ⟨_, hf⟩ | ⟨_, hf⟩
    · cases hf; exact fI5
    · obtain ⟨y7, I8, c_3, hf⟩ := of_zb hf
      have fI8 := fcz_t (fc_X_isIn M fu a2 0 3 I5 c_3) fI5
      rcases of_ite hf with ⟨_, hf⟩ | ⟨_, hf⟩
      · cases hf; exact fI8
      · cases hf; exact fI8
theorem fc_X_comer (M : Nat → Nat → Prop) (fu : Nat) (o0 : Nat) (a1 : Int) (a2 : Int) (a3 : Int) (a4 : Int) (a5 : Int) (I0 : IMem) {r : Int × IMem} (m_o0_1 : ∀ j, M (o0 + 1) j) (hf : f_X_comer fu o0 a1 a2 a3 a4 a5 I0 = some r) : ∀ q j, ¬ M q j → r.2 q j = I0 q j := by
  unfold f_X_comer at hf
  obtain ⟨Ib, hIb⟩ : ∃ Ib : IMem, Ib = I0 := ⟨I0, rfl⟩
  rw [← hIb]
  have f0 : ∀ q j, ¬ M q j → I0 q j = Ib q j := fun q j _ => by rw [hIb]
  clear hIb
  obtain ⟨y1, I2, c_1, hf⟩ := of_zb hf
  have fI2 := fcz_t (fc_X_isIn M fu a1 0 7 I0 c_1) f0
  rcases of_ite hf with ⟨_, hf⟩ | ⟨_, hf⟩
  · cases hf; exact fI2
  · obtain ⟨y4, I5, c_2, hf⟩ := of_zb hf
    have fI5 := fcz_t (fc_X_isGroup M fu a2 a3 a4 I2 c_2) fI2
    rcases of_ite hf with ⟨_, hf⟩ | ⟨_, hf⟩
    · cases hf; exact fI5
    · obtain ⟨y7, I8, c_3, hf⟩ := of_zb hf
      have fI8 := fcz_t (fc_X_isIn M fu a5 0 1000 I5 c_3) fI5
      rcases of_ite hf with ⟨_, hf⟩ | ⟨_, hf⟩
      · cases hf; exact fI8
      · obtain ⟨x11, -, hf⟩ := of_zl hf
        obtain ⟨g_4, hf⟩ := of_zg hf
        obtain ⟨I10, fI10, hf⟩ := fcz_w (m_o0_1 _) fI8 hf
        obtain ⟨x13, -, hf⟩ := of_zl hf
        obtain ⟨g_5, hf⟩ := of_zg hf
        obtain ⟨I12, fI12, hf⟩ := fcz_w (m_o0_1 _) fI10 hf
        obtain ⟨x15, -, hf⟩ := of_zl hf
        obtain ⟨g_6, hf⟩ := of_zg hf
        obtain ⟨I14, fI14, hf⟩ := fcz_w (m_o0_1 _) fI12 hf
        obtain ⟨x17, -, hf⟩ := of_zl hf
        obtain ⟨g_7, hf⟩ := of_zg hf
        obtain ⟨I16, fI16, hf⟩ := fcz_w (m_o0_1 _) fI14 hf
        cases hf; exact fI16
theorem fc_X_feed_18 (M : Nat → Nat → Prop) (fu : Nat) {r : Int × IMem} {Ib : IMem} (o0 : Nat) (p1 : Int) (p2 : Int) (p3 : Int) (p4 : Int) (p5 : Int) (m_o0_6 : ∀ j, M (o0 + 6) j) (m_o0_0c12 : M o0 12) : ∀ (m : Nat) (w6 : Int) (I0 : IMem), (∀ q j, ¬ M q j → I0 q j = Ib q j) → f_X_feed_18 fu o0 p1 p2 p3 p4 p5 m w6 I0 = some r → ∀ q j, ¬ M q j → r.2 q j = Ib q j := by
  intro m
  induction m with
  | zero => intro w6 I0 _ hf; cases hf
  | succ m hR_ =>
    intro w6 I0 fI0 hf
    replace hf : fb_X_feed_18 fu o0 p1 p2 p3 p4 p5 (f_X_feed_18 fu o0 p1 p2 p3 p4 p5 m) w6 I0 = some r := hf
    unfold fb_X_feed_18 at hf
    rcases of_ite hf with ⟨_, hf⟩ | ⟨_, hf⟩
    · obtain ⟨k1, ek1, hf⟩ := of_zj hf
      have hk1 : ∀ (x3 : Int) (I2 : IMem), (∀ q j, ¬ M q j → I2 q j = Ib q j) → k1 x3 I2 = some r → ∀ q j, ¬ M q j → r.2 q j = Ib q j := by
        intro x3 I2 fI2 hf
        subst ek1
        obtain ⟨x5, -, hf⟩ := of_zl hf
        obtain ⟨g_1, hf⟩ := of_zg hf
        obtain ⟨I4, fI4, hf⟩ := fcz_w (m_o0_6 _) fI2 hf
        obtain ⟨I6, fI6, hf⟩ := fcz_w m_o0_0c12 fI4 hf
        obtain ⟨x7, -, hf⟩ := of_zl hf
        exact hR_ x7 I6 fI6 hf
      rcases of_ite hf with ⟨_, hf⟩ | ⟨_, hf⟩
      · exact hk1 p1 I0 fI0 hf
      · rcases of_ite hf with ⟨_, hf⟩ | ⟨_, hf⟩
        · exact hk1 p2 I0 fI0 hf
        · rcases of_ite hf with ⟨_, hf⟩ | ⟨_, hf⟩
          · exact hk1 p3 I0 fI0 hf
          · rcases of_ite hf with ⟨_, hf⟩ | ⟨_, hf⟩
            · exact hk1 p4 I0 fI0 hf
            · exact hk1 p5 I0 fI0 hf
    · cases hf; exact fI0
theorem fc_X_feed (M : Nat → Nat → Prop) (fu : Nat) (o0 : Nat) (a1 : Int) (a2 : Int) (a3 : Int) (a4 : Int) (a5 : Int) (I0 : IMem) {r : Int × IMem} (m_o0_6 : ∀ j, M (o0 + 6) j) (m_o0_0c12 : M o0 12) (hf : f_X_feed fu o0 a1 a2 a3 a4 a5 I0 = some r) : ∀ q j, ¬ M q j → r.2 q j = I0 q j := by
  unfold f_X_feed at hf
  obtain ⟨Ib, hIb⟩ : ∃ Ib : IMem, Ib = I0 := ⟨I0, rfl⟩
  rw [← hIb]
  have f0 : ∀ q j, ¬ M q j → I0 q j = Ib q j := fun q j _ => by rw [hIb]
  clear hIb
  rcases of_ite hf with ⟨_, hf⟩ | ⟨_, hf⟩
  · cases hf; exact f0
  · refine fc_X_feed_18 M fu o0 a1 a2 a3 a4 a5 m_o0_6 m_o0_0c12 fu 0 I0 f0 hf
theorem fc_X_end (M : Nat → Nat → Prop) (fu : Nat) (o0 : Nat) (a1 : Int) (I0 : IMem) {r : Int × IMem} (m_o0_0c12 : M o0 12) (hf : f_X_end fu o0 a1 I0 = some r) : ∀ q j, ¬ M q j → r.2 q j = I0 q j := by
  unfold f_X_end at hf
  obtain ⟨Ib, hIb⟩ : ∃ Ib : IMem, Ib = I0 := ⟨I0, rfl⟩
  rw [← hIb]
  have f0 : ∀ q j, ¬ M q j → I0 q j = Ib q j := fun q j _ => by rw [hIb]
  clear hIb
  obtain ⟨y1, I2, c_1, hf⟩ := of_zb hf
  have fI2 := fcz_t (fc_X_isIn M fu a1 0 (I0 o0 12) I0 c_1) f0
  rcases of_ite hf with ⟨_, hf⟩ | ⟨_, hf⟩
  · cases hf; exact fI2
  · obtain ⟨I4, fI4, hf⟩ := fcz_w m_o0_0c12 fI2 hf
    cases hf; exact fI4
theorem fc_X_lay (M : Nat → Nat → Prop) (fu : Nat) (o0 : Nat) (a1 : Int) (a2 : Int) (I0 : IMem) {r : Int × IMem} (m_o0_5 : ∀ j, M (o0 + 5) j) (m_o0_0c11 : M o0 11) (hf : f_X_lay fu o0 a1 a2 I0 = some r) : ∀ q j, ¬ M q j → r.2 q j = I0 q j := by
  unfold f_X_lay at hf
  obtain ⟨Ib, hIb⟩ : ∃ Ib : IMem, Ib = I0 := ⟨I0, rfl⟩
  rw [← hIb]
  have f0 : ∀ q j, ¬ M q j → I0 q j = Ib q j := fun q j _ => by rw [hIb]
  clear hIb
  obtain ⟨x2, -, hf⟩ := of_zl hf
  obtain ⟨g_1, hf⟩ := of_zg hf
  obtain ⟨I1, fI1, hf⟩ := fcz_w (m_o0_5 _) f0 hf
  obtain ⟨x4, -, hf⟩ := of_zl hf
  obtain ⟨g_2, hf⟩ := of_zg hf
  obtain ⟨I3, fI3, hf⟩ := fcz_w (m_o0_5 _) fI1 hf
  obtain ⟨I5, fI5, hf⟩ := fcz_w m_o0_0c11 fI3 hf
  cases hf; exact fI5
theorem fc_X_isDigit (M : Nat → Nat → Prop) (fu : Nat) (a0 : Int) (I0 : IMem) {r : Int × IMem} (hf : f_X_isDigit fu a0 I0 = some r) : ∀ q j, ¬ M q j → r.2 q j = I0 q j := by
  unfold f_X_isDigit at hf
  obtain ⟨Ib, hIb⟩ : ∃ Ib : IMem, Ib = I0 := ⟨I0, rfl⟩
  rw [← hIb]
  have f0 : ∀ q j, ¬ M q j → I0 q j = Ib q j := fun q j _ => by rw [hIb]
  clear hIb
  obtain ⟨y1, I2, c_1, hf⟩ := of_zb hf
  have fI2 := fcz_t (fc_X_isIn M fu a0 48 57 I0 c_1) f0
  obtain ⟨g_2, hf⟩ := of_zg hf
  cases hf; exact fI2
theorem fc_X_isLetter (M : Nat → Nat → Prop) (fu : Nat) (a0 : Int) (I0 : IMem) {r : Int × IMem} (hf : f_X_isLetter fu a0 I0 = some r) : ∀ q j, ¬ M q j → r.2 q j = I0 q j := by
  unfold f_X_isLetter at hf
  obtain ⟨Ib, hIb⟩ : ∃ Ib : IMem, Ib = I0 := ⟨I0, rfl⟩
  rw [← hIb]
  have f0 : ∀ q j, ¬ M q j → I0 q j = Ib q j := fun q j _ => by rw [hIb]
  clear hIb
  obtain ⟨y1, I2, c_1, hf⟩ := of_zb hf
  have fI2 := fcz_t (fc_X_isIn M fu a0 97 122 I0 c_1) f0
  rcases of_ite hf with ⟨_, hf⟩ | ⟨_, hf⟩
  · obtain ⟨y4, I5, c_2, hf⟩ := of_zb hf
    have fI5 := fcz_t (fc_X_isIn M fu a0 65 90 I2 c_2) fI2
    rcases of_ite hf with ⟨_, hf⟩ | ⟨_, hf⟩
    · cases hf; exact fI5
    · cases hf; exact fI5
  · cases hf; exact fI2
theorem fc_X_see (M : Nat → Nat → Prop) (fu : Nat) (o0 : Nat) (a1 : Int) (I0 : IMem) {r : Int × IMem} (hf : f_X_see fu o0 a1 I0 = some r) : ∀ q j, ¬ M q j → r.2 q j = I0 q j := by
  unfold f_X_see at hf
  obtain ⟨Ib, hIb⟩ : ∃ Ib : IMem, Ib = I0 := ⟨I0, rfl⟩
  rw [← hIb]
  have f0 : ∀ q j, ¬ M q j → I0 q j = Ib q j := fun q j _ => by rw [hIb]
  clear hIb
  rcases of_ite hf with ⟨_, hf⟩ | ⟨_, hf⟩
  · obtain ⟨g_1, hf⟩ := of_zg hf
    cases hf; exact f0
  · cases hf; exact f0
theorem fc_X_is_24 (M : Nat → Nat → Prop) (fu : Nat) {r : Int × IMem} {Ib : IMem} (o0 : Nat) (s1 : Nat) : ∀ (m : Nat) (w2 : Int) (w3 : Int) (I0 : IMem), (∀ q j, ¬ M q j → I0 q j = Ib q j) → f_X_is_24 fu o0 s1 m w2 w3 I0 = some r → ∀ q j, ¬ M q j → r.2 q j = Ib q j := by
  intro m
  induction m with
  | zero => intro w2 w3 I0 _ hf; cases hf
  | succ m hR_ =>
    intro w2 w3 I0 fI0 hf
    replace hf : fb_X_is_24 fu o0 s1 (f_X_is_24 fu o0 s1 m) w2 w3 I0 = some r := hf
    unfold fb_X_is_24 at hf
    obtain ⟨y7, I8, c_1, hf⟩ := of_zb hf
    have fI8 := fcz_t (fc_JS_length M fu s1 I0 c_1) fI0
    rcases of_ite hf with ⟨_, hf⟩ | ⟨_, hf⟩
    · rcases of_ite hf with ⟨_, hf⟩ | ⟨_, hf⟩
      · obtain ⟨g_2, hf⟩ := of_zg hf
        cases hf; exact fI8
      · obtain ⟨x10, -, hf⟩ := of_zl hf
        obtain ⟨g_3, hf⟩ := of_zg hf
        obtain ⟨y11, I12, c_4, hf⟩ := of_zb hf
        have fI12 := fcz_t (fc_JS_charAt M fu s1 w3 I8 c_4) fI8
        obtain ⟨k14, ek14, hf⟩ := of_zj hf
        have hk14 : ∀ (x16 : Int) (I15 : IMem), (∀ q j, ¬ M q j → I15 q j = Ib q j) → k14 x16 I15 = some r → ∀ q j, ¬ M q j → r.2 q j = Ib q j := by
          intro x16 I15 fI15 hf
          subst ek14
          obtain ⟨x17, -, hf⟩ := of_zl hf
          exact hR_ x16 x17 I15 fI15 hf
        rcases of_ite hf with ⟨_, hf⟩ | ⟨_, hf⟩
        · exact hk14 1 I12 fI12 hf
        · exact hk14 0 I12 fI12 hf
    · obtain ⟨g_5, hf⟩ := of_zg hf
      cases hf; exact fI8
theorem fc_X_is (M : Nat → Nat → Prop) (fu : Nat) (o0 : Nat) (s1 : Nat) (I0 : IMem) {r : Int × IMem} (hf : f_X_is fu o0 s1 I0 = some r) : ∀ q j, ¬ M q j → r.2 q j = I0 q j := by
  unfold f_X_is at hf
  obtain ⟨Ib, hIb⟩ : ∃ Ib : IMem, Ib = I0 := ⟨I0, rfl⟩
  rw [← hIb]
  have f0 : ∀ q j, ¬ M q j → I0 q j = Ib q j := fun q j _ => by rw [hIb]
  clear hIb
  obtain ⟨y1, I2, c_1, hf⟩ := of_zb hf
  have fI2 := fcz_t (fc_JS_length M fu s1 I0 c_1) f0
  obtain ⟨k4, ek4, hf⟩ := of_zj hf
  have hk4 : ∀ (x6 : Int) (I5 : IMem), (∀ q j, ¬ M q j → I5 q j = Ib q j) → k4 x6 I5 = some r → ∀ q j, ¬ M q j → r.2 q j = Ib q j := by
    intro x6 I5 fI5 hf
    subst ek4
    refine fc_X_is_24 M fu o0 s1 fu x6 0 I5 fI5 hf
  rcases of_ite hf with ⟨_, hf⟩ | ⟨_, hf⟩
  · exact hk4 1 I2 fI2 hf
  · exact hk4 0 I2 fI2 hf
theorem fc_X_lineWord (M : Nat → Nat → Prop) (fu : Nat) (o0 : Nat) (I0 : IMem) {r : Int × IMem} (hf : f_X_lineWord fu o0 I0 = some r) : ∀ q j, ¬ M q j → r.2 q j = I0 q j := by
  unfold f_X_lineWord at hf
  obtain ⟨Ib, hIb⟩ : ∃ Ib : IMem, Ib = I0 := ⟨I0, rfl⟩
  rw [← hIb]
  have f0 : ∀ q j, ¬ M q j → I0 q j = Ib q j := fun q j _ => by rw [hIb]
  clear hIb
  obtain ⟨y1, I2, c_1, hf⟩ := of_zb hf
  have fI2 := fcz_t (fc_X_is M fu o0 8 I0 c_1) f0
  rcases of_ite hf with ⟨_, hf⟩ | ⟨_, hf⟩
  · obtain ⟨y4, I5, c_2, hf⟩ := of_zb hf
    have fI5 := fcz_t (fc_X_is M fu o0 9 I2 c_2) fI2
    rcases of_ite hf with ⟨_, hf⟩ | ⟨_, hf⟩
    · obtain ⟨y7, I8, c_3, hf⟩ := of_zb hf
      have fI8 := fcz_t (fc_X_is M fu o0 10 I5 c_3) fI5
      rcases of_ite hf with ⟨_, hf⟩ | ⟨_, hf⟩
      · cases hf; exact fI8
      · cases hf; exact fI8
    · cases hf; exact fI5
  · cases hf; exact fI2
theorem fc_X_ruleWord (M : Nat → Nat → Prop) (fu : Nat) (o0 : Nat) (I0 : IMem) {r : Int × IMem} (hf : f_X_ruleWord fu o0 I0 = some r) : ∀ q j, ¬ M q j → r.2 q j = I0 q j := by
  unfold f_X_ruleWord at hf
  obtain ⟨Ib, hIb⟩ : ∃ Ib : IMem, Ib = I0 := ⟨I0, rfl⟩
  rw [← hIb]
  have f0 : ∀ q j, ¬ M q j → I0 q j = Ib q j := fun q j _ => by rw [hIb]
  clear hIb
  obtain ⟨y1, I2, c_1, hf⟩ := of_zb hf
  have fI2 := fcz_t (fc_X_is M fu o0 11 I0 c_1) f0
  rcases of_ite hf with ⟨_, hf⟩ | ⟨_, hf⟩
  · obtain ⟨y4, I5, c_2, hf⟩ := of_zb hf
    have fI5 := fcz_t (fc_X_is M fu o0 12 I2 c_2) fI2
    rcases of_ite hf with ⟨_, hf⟩ | ⟨_, hf⟩
    · obtain ⟨y7, I8, c_3, hf⟩ := of_zb hf
      have fI8 := fcz_t (fc_X_is M fu o0 13 I5 c_3) fI5
      rcases of_ite hf with ⟨_, hf⟩ | ⟨_, hf⟩
      · obtain ⟨y10, I11, c_4, hf⟩ := of_zb hf
        have fI11 := fcz_t (fc_X_is M fu o0 8 I8 c_4) fI8
        rcases of_ite hf with ⟨_, hf⟩ | ⟨_, hf⟩
        · obtain ⟨y13, I14, c_5, hf⟩ := of_zb hf
          have fI14 := fcz_t (fc_X_is M fu o0 14 I11 c_5) fI11
          rcases of_ite hf with ⟨_, hf⟩ | ⟨_, hf⟩
          · obtain ⟨y16, I17, c_6, hf⟩ := of_zb hf
            have fI17 := fcz_t (fc_X_is M fu o0 15 I14 c_6) fI14
            rcases of_ite hf with ⟨_, hf⟩ | ⟨_, hf⟩
            · obtain ⟨y19, I20, c_7, hf⟩ := of_zb hf
              have fI20 := fcz_t (fc_X_is M fu o0 16 I17 c_7) fI17
              rcases of_ite hf with ⟨_, hf⟩ | ⟨_, hf⟩
              · obtain ⟨y22, I23, c_8, hf⟩ := of_zb hf
                have fI23 := fcz_t (fc_X_is M fu o0 17 I20 c_8) fI20
                rcases of_ite hf with ⟨_, hf⟩ | ⟨_, hf⟩
                · cases hf; exact fI23
                · cases hf; exact fI23
              · cases hf; exact fI20
            · cases hf; exact fI17
          · cases hf; exact fI14
        · cases hf; exact fI11
      · cases hf; exact fI8
    · cases hf; exact fI5
  · cases hf; exact fI2
theorem fc_X_word (M : Nat → Nat → Prop) (fu : Nat) (o0 : Nat) (I0 : IMem) {r : Int × IMem} (hf : f_X_word fu o0 I0 = some r) : ∀ q j, ¬ M q j → r.2 q j = I0 q j := by
  unfold f_X_word at hf
  obtain ⟨Ib, hIb⟩ : ∃ Ib : IMem, Ib = I0 := ⟨I0, rfl⟩
  rw [← hIb]
  have f0 : ∀ q j, ¬ M q j → I0 q j = Ib q j := fun q j _ => by rw [hIb]
  clear hIb
  obtain ⟨y1, I2, c_1, hf⟩ := of_zb hf
  have fI2 := fcz_t (fc_X_is M fu o0 2 I0 c_1) f0
  rcases of_ite hf with ⟨_, hf⟩ | ⟨_, hf⟩
  · obtain ⟨y4, I5, c_2, hf⟩ := of_zb hf
    have fI5 := fcz_t (fc_X_is M fu o0 3 I2 c_2) fI2
    rcases of_ite hf with ⟨_, hf⟩ | ⟨_, hf⟩
    · obtain ⟨y7, I8, c_3, hf⟩ := of_zb hf
      have fI8 := fcz_t (fc_X_is M fu o0 4 I5 c_3) fI5
      rcases of_ite hf with ⟨_, hf⟩ | ⟨_, hf⟩
      · obtain ⟨y10, I11, c_4, hf⟩ := of_zb hf
        have fI11 := fcz_t (fc_X_is M fu o0 5 I8 c_4) fI8
        rcases of_ite hf with ⟨_, hf⟩ | ⟨_, hf⟩
        · obtain ⟨y13, I14, c_5, hf⟩ := of_zb hf
          have fI14 := fcz_t (fc_X_is M fu o0 6 I11 c_5) fI11
          rcases of_ite hf with ⟨_, hf⟩ | ⟨_, hf⟩
          · obtain ⟨y16, I17, c_6, hf⟩ := of_zb hf
            have fI17 := fcz_t (fc_X_is M fu o0 7 I14 c_6) fI14
            rcases of_ite hf with ⟨_, hf⟩ | ⟨_, hf⟩
            · rcases of_ite hf with ⟨_, hf⟩ | ⟨_, hf⟩
              · obtain ⟨y22, I23, c_7, hf⟩ := of_zb hf
                have fI23 := fcz_t (fc_X_lineWord M fu o0 I17 c_7) fI17
                cases hf; exact fI23
              · obtain ⟨y19, I20, c_8, hf⟩ := of_zb hf
                have fI20 := fcz_t (fc_X_ruleWord M fu o0 I17 c_8) fI17
                cases hf; exact fI20
            · cases hf; exact fI17
          · cases hf; exact fI14
        · cases hf; exact fI11
      · cases hf; exact fI8
    · cases hf; exact fI5
  · cases hf; exact fI2
theorem fc_X_next0_0 (M : Nat → Nat → Prop) (fu : Nat) {r : Int × IMem} {Ib : IMem} (k_39 : IMem → Res) (o0 : Nat) (m_o0_0c13 : M o0 13) (hk_39 : ∀ (I9 : IMem), (∀ q j, ¬ M q j → I9 q j = Ib q j) → k_39 I9 = some r → ∀ q j, ¬ M q j → r.2 q j = Ib q j) : ∀ (m : Nat) (I0 : IMem), (∀ q j, ¬ M q j → I0 q j = Ib q j) → f_X_next0_0 fu k_39 o0 m I0 = some r → ∀ q j, ¬ M q j → r.2 q j = Ib q j := by
  intro m
  induction m with
  | zero => intro I0 _ hf; cases hf
  | succ m hR_ =>
    intro  I0 fI0 hf
    replace hf : fb_X_next0_0 fu k_39 o0 (f_X_next0_0 fu k_39 o0 m) I0 = some r := hf
    unfold fb_X_next0_0 at hf
    obtain ⟨y1, I2, c_1, hf⟩ := of_zb hf
    have fI2 := fcz_t (fc_X_see M fu o0 (I0 o0 13) I0 c_1) fI0
    obtain ⟨k4, ek4, hf⟩ := of_zj hf
    have hk4 : ∀  (I5 : IMem), (∀ q j, ¬ M q j → I5 q j = Ib q j) → k4 I5 = some r → ∀ q j, ¬ M q j → r.2 q j = Ib q j := by
      intro I5 fI5 hf
      subst ek4
      obtain ⟨I6, fI6, hf⟩ := fcz_w m_o0_0c13 fI5 hf
      exact hR_ I6 fI6 hf
    rcases of_ite hf with ⟨_, hf⟩ | ⟨_, hf⟩
    · exact hk4 I2 fI2 hf
    · obtain ⟨y7, I8, c_2, hf⟩ := of_zb hf
      have fI8 := fcz_t (fc_X_see M fu o0 (I2 o0 13) I2 c_2) fI2
      rcases of_ite hf with ⟨_, hf⟩ | ⟨_, hf⟩
      · exact hk4 I8 fI8 hf
      · exact hk_39 I8 fI8 hf
theorem fc_X_next0_126 (M : Nat → Nat → Prop) (fu : Nat) {r : Int × IMem} {Ib : IMem} (k_189 : IMem → Res) (o0 : Nat) (m_o0_0c13 : M o0 13) (m_o0_0c16 : M o0 16) (hk_189 : ∀ (I9 : IMem), (∀ q j, ¬ M q j → I9 q j = Ib q j) → k_189 I9 = some r → ∀ q j, ¬ M q j → r.2 q j = Ib q j) : ∀ (m : Nat) (I0 : IMem), (∀ q j, ¬ M q j → I0 q j = Ib q j) → f_X_next0_126 fu k_189 o0 m I0 = some r → ∀ q j, ¬ M q j → r.2 q j = Ib q j := by
  intro m
  induction m with
  | zero => intro I0 _ hf; cases hf
  | succ m hR_ =>
    intro  I0 fI0 hf
    replace hf : fb_X_next0_126 fu k_189 o0 (f_X_next0_126 fu k_189 o0 m) I0 = some r := hf
    unfold fb_X_next0_126 at hf
    obtain ⟨y30, I31, c_1, hf⟩ := of_zb hf
    have fI31 := fcz_t (fc_X_see M fu o0 (I0 o0 13) I0 c_1) fI0
    obtain ⟨y33, I34, c_2, hf⟩ := of_zb hf
    have fI34 := fcz_t (fc_X_isDigit M fu y30 I31 c_2) fI31
    rcases of_ite hf with ⟨_, hf⟩ | ⟨_, hf⟩
    · exact hk_189 I34 fI34 hf
    · obtain ⟨k36, ek36, hf⟩ := of_zj hf
      have hk36 : ∀  (I37 : IMem), (∀ q j, ¬ M q j → I37 q j = Ib q j) → k36 I37 = some r → ∀ q j, ¬ M q j → r.2 q j = Ib q j := by
        intro I37 fI37 hf
        subst ek36
        obtain ⟨I38, fI38, hf⟩ := fcz_w m_o0_0c13 fI37 hf
        exact hR_ I38 fI38 hf
      rcases of_ite hf with ⟨_, hf⟩ | ⟨_, hf⟩
      · obtain ⟨y39, I40, c_3, hf⟩ := of_zb hf
        have fI40 := fcz_t (fc_X_see M fu o0 (I34 o0 13) I34 c_3) fI34
        obtain ⟨I42, fI42, hf⟩ := fcz_w m_o0_0c16 fI40 hf
        exact hk36 I42 fI42 hf
      · exact hk36 I34 fI34 hf
theorem fc_X_next0_76 (M : Nat → Nat → Prop) (fu : Nat) {r : Int × IMem} {Ib : IMem} (k_103 : IMem → Res) (o0 : Nat) (m_o0_0c13 : M o0 13) (hk_103 : ∀ (I9 : IMem), (∀ q j, ¬ M q j → I9 q j = Ib q j) → k_103 I9 = some r → ∀ q j, ¬ M q j → r.2 q j = Ib q j) : ∀ (m : Nat) (I0 : IMem), (∀ q j, ¬ M q j → I0 q j = Ib q j) → f_X_next0_76 fu k_103 o0 m I0 = some r → ∀ q j, ¬ M q j → r.2 q j = Ib q j := by
  intro m
  induction m with
  | zero => intro I0 _ hf; cases hf
  | succ m hR_ =>
    intro  I0 fI0 hf
    replace hf : fb_X_next0_76 fu k_103 o0 (f_X_next0_76 fu k_103 o0 m) I0 = some r := hf
    unfold fb_X_next0_76 at hf
    obtain ⟨y48, I49, c_1, hf⟩ := of_zb hf
    have fI49 := fcz_t (fc_X_see M fu o0 (I0 o0 13) I0 c_1) fI0
    obtain ⟨y51, I52, c_2, hf⟩ := of_zb hf
    have fI52 := fcz_t (fc_X_isLetter M fu y48 I49 c_2) fI49
    rcases of_ite hf with ⟨_, hf⟩ | ⟨_, hf⟩
    · exact hk_103 I52 fI52 hf
    · obtain ⟨I54, fI54, hf⟩ := fcz_w m_o0_0c13 fI52 hf
      exact hR_ I54 fI54 hf
theorem fc_X_next0 (M : Nat → Nat → Prop) (fu : Nat) (o0 : Nat) (I0 : IMem) {r : Int × IMem} (m_o0_0c13 : M o0 13) (m_o0_0c14 : M o0 14) (m_o0_0c15 : M o0 15) (m_o0_0c16 : M o0 16) (hf : f_X_next0 fu o0 I0 = some r) : ∀ q j, ¬ M q j → r.2 q j = I0 q j := by
  unfold f_X_next0 at hf
  obtain ⟨Ib, hIb⟩ : ∃ Ib : IMem, Ib = I0 := ⟨I0, rfl⟩
  rw [← hIb]
  have f0 : ∀ q j, ¬ M q j → I0 q j = Ib q j := fun q j _ => by rw [hIb]
  clear hIb
  refine fc_X_next0_0 M fu _ o0 m_o0_0c13 ?_ fu I0 f0 hf
  · intro I10 fI10 hf
    obtain ⟨I11, fI11, hf⟩ := fcz_w m_o0_0c15 fI10 hf
    obtain ⟨y12, I13, c_1, hf⟩ := of_zb hf
    have fI13 := fcz_t (fc_X_see M fu o0 (I11 o0 13) I11 c_1) fI11
    rcases of_ite hf with ⟨_, hf⟩ | ⟨_, hf⟩
    · obtain ⟨I60, fI60, hf⟩ := fcz_w m_o0_0c14 fI13 hf
      cases hf; exact fI60
    · obtain ⟨y15, I16, c_2, hf⟩ := of_zb hf
      have fI16 := fcz_t (fc_X_isLetter M fu y12 I13 c_2) fI13
      rcases of_ite hf with ⟨_, hf⟩ | ⟨_, hf⟩
      · obtain ⟨y18, I19, c_3, hf⟩ := of_zb hf
        have fI19 := fcz_t (fc_X_isDigit M fu y12 I16 c_3) fI16
        rcases of_ite hf with ⟨_, hf⟩ | ⟨_, hf⟩
        · obtain ⟨I21, fI21, hf⟩ := fcz_w m_o0_0c13 fI19 hf
          obtain ⟨k22, ek22, hf⟩ := of_zj hf
          have hk22 : ∀ (x24 : Int) (I23 : IMem), (∀ q j, ¬ M q j → I23 q j = Ib q j) → k22 x24 I23 = some r → ∀ q j, ¬ M q j → r.2 q j = Ib q j := by
            intro x24 I23 fI23 hf
            subst ek22
            obtain ⟨k25, ek25, hf⟩ := of_zj hf
            have hk25 : ∀ (x27 : Int) (I26 : IMem), (∀ q j, ¬ M q j → I26 q j = Ib q j) → k25 x27 I26 = some r → ∀ q j, ¬ M q j → r.2 q j = Ib q j := by
              intro x27 I26 fI26 hf
              subst ek25
              obtain ⟨I28, fI28, hf⟩ := fcz_w m_o0_0c14 fI26 hf
              cases hf; exact fI28
            rcases of_ite hf with ⟨_, hf⟩ | ⟨_, hf⟩
            · exact hk25 1 I23 fI23 hf
            · exact hk25 (wr32 (100 + y12)) I23 fI23 hf
          rcases of_ite hf with ⟨_, hf⟩ | ⟨_, hf⟩
          · exact hk22 1 I21 fI21 hf
          · rcases of_ite hf with ⟨_, hf⟩ | ⟨_, hf⟩
            · exact hk22 1 I21 fI21 hf
            · rcases of_ite hf with ⟨_, hf⟩ | ⟨_, hf⟩
              · exact hk22 1 I21 fI21 hf
              · rcases of_ite hf with ⟨_, hf⟩ | ⟨_, hf⟩
                · exact hk22 1 I21 fI21 hf
                · rcases of_ite hf with ⟨_, hf⟩ | ⟨_, hf⟩
                  · exact hk22 1 I21 fI21 hf
                  · rcases of_ite hf with ⟨_, hf⟩ | ⟨_, hf⟩
                    · exact hk22 1 I21 fI21 hf
                    · rcases of_ite hf with ⟨_, hf⟩ | ⟨_, hf⟩
                      · exact hk22 1 I21 fI21 hf
                      · rcases of_ite hf with ⟨_, hf⟩ | ⟨_, hf⟩
                        · exact hk22 1 I21 fI21 hf
                        · rcases of_ite hf with ⟨_, hf⟩ | ⟨_, hf⟩
                          · exact hk22 1 I21 fI21 hf
                          · rcases of_ite hf with ⟨_, hf⟩ | ⟨_, hf⟩
                            · exact hk22 1 I21 fI21 hf
                            · exact hk22 0 I21 fI21 hf
        · obtain ⟨I29, fI29, hf⟩ := fcz_w m_o0_0c16 fI19 hf
          refine fc_X_next0_126 M fu _ o0 m_o0_0c13 m_o0_0c16 ?_ fu I29 fI29 hf
          · intro I43 fI43 hf
            obtain ⟨k44, ek44, hf⟩ := of_zj hf
            have hk44 : ∀ (x46 : Int) (I45 : IMem), (∀ q j, ¬ M q j → I45 q j = Ib q j) → k44 x46 I45 = some r → ∀ q j, ¬ M q j → r.2 q j = Ib q j := by
              intro x46 I45 fI45 hf
              subst ek44
              obtain ⟨I47, fI47, hf⟩ := fcz_w m_o0_0c14 fI45 hf
              cases hf; exact fI47
            rcases of_ite hf with ⟨_, hf⟩ | ⟨_, hf⟩
            · exact hk44 2 I43 fI43 hf
            · exact hk44 1 I43 fI43 hf
      · refine fc_X_next0_76 M fu _ o0 m_o0_0c13 ?_ fu I16 fI16 hf
        · intro I55 fI55 hf
          obtain ⟨y56, I57, c_4, hf⟩ := of_zb hf
          have fI57 := fcz_t (fc_X_word M fu o0 I55 c_4) fI55
          obtain ⟨I59, fI59, hf⟩ := fcz_w m_o0_0c14 fI57 hf
          cases hf; exact fI59
theorem fc_X_bad (M : Nat → Nat → Prop) (fu : Nat) (o0 : Nat) (a1 : Int) (I0 : IMem) {r : Int × IMem} (m_o0_0c17 : M o0 17) (m_o0_0c18 : M o0 18) (hf : f_X_bad fu o0 a1 I0 = some r) : ∀ q j, ¬ M q j → r.2 q j = I0 q j := by
  unfold f_X_bad at hf
  obtain ⟨Ib, hIb⟩ : ∃ Ib : IMem, Ib = I0 := ⟨I0, rfl⟩
  rw [← hIb]
  have f0 : ∀ q j, ¬ M q j → I0 q j = Ib q j := fun q j _ => by rw [hIb]
  clear hIb
  obtain ⟨I1, fI1, hf⟩ := fcz_w m_o0_0c17 f0 hf
  obtain ⟨I2, fI2, hf⟩ := fcz_w m_o0_0c18 fI1 hf
  cases hf; exact fI2
theorem fc_X_need (M : Nat → Nat → Prop) (fu : Nat) (o0 : Nat) (a1 : Int) (I0 : IMem) {r : Int × IMem} (m_o0_0c13 : M o0 13) (m_o0_0c14 : M o0 14) (m_o0_0c15 : M o0 15) (m_o0_0c16 : M o0 16) (m_o0_0c17 : M o0 17) (m_o0_0c18 : M o0 18) (hf : f_X_need fu o0 a1 I0 = some r) : ∀ q j, ¬ M q j → r.2 q j = I0 q j := by
  unfold f_X_need at hf
  obtain ⟨Ib, hIb⟩ : ∃ Ib : IMem, Ib = I0 := ⟨I0, rfl⟩
  rw [← hIb]
  have f0 : ∀ q j, ¬ M q j → I0 q j = Ib q j := fun q j _ => by rw [hIb]
  clear hIb
  rcases of_ite hf with ⟨_, hf⟩ | ⟨_, hf⟩
  · obtain ⟨u_2, I2, c_1, hf⟩ := of_zb hf
    have fI2 := fcz_t (fc_X_next0 M fu o0 I0 m_o0_0c13 m_o0_0c14 m_o0_0c15 m_o0_0c16 c_1) f0
    cases hf; exact fI2
  · obtain ⟨y4, I5, c_3, hf⟩ := of_zb hf
    have fI5 := fcz_t (fc_X_bad M fu o0 1 I0 m_o0_0c17 m_o0_0c18 c_3) f0
    obtain ⟨g_4, hf⟩ := of_zg hf
    cases hf; exact fI5
theorem fc_X_opens (M : Nat → Nat → Prop) (fu : Nat) (o0 : Nat) (I0 : IMem) {r : Int × IMem} (m_o0_0c13 : M o0 13) (m_o0_0c14 : M o0 14) (m_o0_0c15 : M o0 15) (m_o0_0c16 : M o0 16) (m_o0_0c17 : M o0 17) (m_o0_0c18 : M o0 18) (m_o0_0c20 : M o0 20) (hf : f_X_opens fu o0 I0 = some r) : ∀ q j, ¬ M q j → r.2 q j = I0 q j := by
  unfold f_X_opens at hf
  obtain ⟨Ib, hIb⟩ : ∃ Ib : IMem, Ib = I0 := ⟨I0, rfl⟩
  rw [← hIb]
  have f0 : ∀ q j, ¬ M q j → I0 q j = Ib q j := fun q j _ => by rw [hIb]
  clear hIb
  rcases of_ite hf with ⟨_, hf⟩ | ⟨_, hf⟩
  · obtain ⟨y5, I6, c_1, hf⟩ := of_zb hf
    have fI6 := fcz_t (fc_X_bad M fu o0 3 I0 m_o0_0c17 m_o0_0c18 c_1) f0
    obtain ⟨g_2, hf⟩ := of_zg hf
    cases hf; exact fI6
  · obtain ⟨I1, fI1, hf⟩ := fcz_w m_o0_0c20 f0 hf
    obtain ⟨u_4, I3, c_3, hf⟩ := of_zb hf
    have fI3 := fcz_t (fc_X_next0 M fu o0 I1 m_o0_0c13 m_o0_0c14 m_o0_0c15 m_o0_0c16 c_3) fI1
    cases hf; exact fI3
theorem fc_X_number (M : Nat → Nat → Prop) (fu : Nat) (o0 : Nat) (a1 : Int) (a2 : Int) (I0 : IMem) {r : Int × IMem} (m_o0_0c13 : M o0 13) (m_o0_0c14 : M o0 14) (m_o0_0c15 : M o0 15) (m_o0_0c16 : M o0 16) (m_o0_0c17 : M o0 17) (m_o0_0c18 : M o0 18) (hf : f_X_number fu o0 a1 a2 I0 = some r) : ∀ q j, ¬ M q j → r.2 q j = I0 q j := by
  unfold f_X_number at hf
  obtain ⟨Ib, hIb⟩ : ∃ Ib : IMem, Ib = I0 := ⟨I0, rfl⟩
  rw [← hIb]
  have f0 : ∀ q j, ¬ M q j → I0 q j = Ib q j := fun q j _ => by rw [hIb]
  clear hIb
  rcases of_ite hf with ⟨_, hf⟩ | ⟨_, hf⟩
  · obtain ⟨y1, I2, c_1, hf⟩ := of_zb hf
    have fI2 := fcz_t (fc_X_isIn M fu (I0 o0 16) a1 a2 I0 c_1) f0
    rcases of_ite hf with ⟨_, hf⟩ | ⟨_, hf⟩
    · obtain ⟨y7, I8, c_2, hf⟩ := of_zb hf
      have fI8 := fcz_t (fc_X_bad M fu o0 2 I2 m_o0_0c17 m_o0_0c18 c_2) fI2
      obtain ⟨g_3, hf⟩ := of_zg hf
      cases hf; exact fI8
    · obtain ⟨u_5, I5, c_4, hf⟩ := of_zb hf
      have fI5 := fcz_t (fc_X_next0 M fu o0 I2 m_o0_0c13 m_o0_0c14 m_o0_0c15 m_o0_0c16 c_4) fI2
      cases hf; exact fI5
  · obtain ⟨y10, I11, c_6, hf⟩ := of_zb hf
    have fI11 := fcz_t (fc_X_bad M fu o0 1 I0 m_o0_0c17 m_o0_0c18 c_6) f0
    obtain ⟨g_7, hf⟩ := of_zg hf
    cases hf; exact fI11
theorem fc_X_unit (M : Nat → Nat → Prop) (fu : Nat) (o0 : Nat) (I0 : IMem) {r : Int × IMem} (m_o0_5 : ∀ j, M (o0 + 5) j) (m_o0_0c11 : M o0 11) (m_o0_0c13 : M o0 13) (m_o0_0c14 : M o0 14) (m_o0_0c15 : M o0 15) (m_o0_0c16 : M o0 16) (m_o0_0c17 : M o0 17) (m_o0_0c18 : M o0 18) (hf : f_X_unit fu o0 I0 = some r) : ∀ q j, ¬ M q j → r.2 q j = I0 q j := by
  unfold f_X_unit at hf
  obtain ⟨Ib, hIb⟩ : ∃ Ib : IMem, Ib = I0 := ⟨I0, rfl⟩
  rw [← hIb]
  have f0 : ∀ q j, ¬ M q j → I0 q j = Ib q j := fun q j _ => by rw [hIb]
  clear hIb
  obtain ⟨y1, I2, c_1, hf⟩ := of_zb hf
  have fI2 := fcz_t (fc_X_isIn M fu (I0 o0 14) 41 51 I0 c_1) f0
  obtain ⟨k4, ek4, hf⟩ := of_zj hf
  have hk4 : ∀  (I5 : IMem), (∀ q j, ¬ M q j → I5 q j = Ib q j) → k4 I5 = some r → ∀ q j, ¬ M q j → r.2 q j = Ib q j := by
    intro I5 fI5 hf
    subst ek4
    obtain ⟨k6, ek6, hf⟩ := of_zj hf
    have hk6 : ∀ (x8 : Int) (I7 : IMem), (∀ q j, ¬ M q j → I7 q j = Ib q j) → k6 x8 I7 = some r → ∀ q j, ¬ M q j → r.2 q j = Ib q j := by
      intro x8 I7 fI7 hf
      subst ek6
      obtain ⟨u_3, I10, c_2, hf⟩ := of_zb hf
      have fI10 := fcz_t (fc_X_lay M fu o0 x8 (I7 o0 16) I7 m_o0_5 m_o0_0c11 c_2) fI7
      obtain ⟨u_5, I13, c_4, hf⟩ := of_zb hf
      have fI13 := fcz_t (fc_X_next0 M fu o0 I10 m_o0_0c13 m_o0_0c14 m_o0_0c15 m_o0_0c16 c_4) fI10
      cases hf; exact fI13
    rcases of_ite hf with ⟨_, hf⟩ | ⟨_, hf⟩
    · exact hk6 0 I5 fI5 hf
    · exact hk6 (wr32 ((I5 o0 14) - 40)) I5 fI5 hf
  rcases of_ite hf with ⟨_, hf⟩ | ⟨_, hf⟩
  · exact hk4 I2 fI2 hf
  · rcases of_ite hf with ⟨_, hf⟩ | ⟨_, hf⟩
    · obtain ⟨y15, I16, c_6, hf⟩ := of_zb hf
      have fI16 := fcz_t (fc_X_bad M fu o0 1 I2 m_o0_0c17 m_o0_0c18 c_6) fI2
      obtain ⟨g_7, hf⟩ := of_zg hf
      cases hf; exact fI16
    · exact hk4 I2 fI2 hf
theorem fc_X_product_9 (M : Nat → Nat → Prop) (fu : Nat) {r : Int × IMem} {Ib : IMem} (o0 : Nat) (m_o0_5 : ∀ j, M (o0 + 5) j) (m_o0_0c11 : M o0 11) (m_o0_0c13 : M o0 13) (m_o0_0c14 : M o0 14) (m_o0_0c15 : M o0 15) (m_o0_0c16 : M o0 16) (m_o0_0c17 : M o0 17) (m_o0_0c18 : M o0 18) : ∀ (m : Nat) (I0 : IMem), (∀ q j, ¬ M q j → I0 q j = Ib q j) → f_X_product_9 fu o0 m I0 = some r → ∀ q j, ¬ M q j → r.2 q j = Ib q j := by
  intro m
  induction m with
  | zero => intro I0 _ hf; cases hf
  | succ m hR_ =>
    intro  I0 fI0 hf
    replace hf : fb_X_product_9 fu o0 (f_X_product_9 fu o0 m) I0 = some r := hf
    unfold fb_X_product_9 at hf
    obtain ⟨k4, ek4, hf⟩ := of_zj hf
    have hk4 : ∀  (I5 : IMem), (∀ q j, ¬ M q j → I5 q j = Ib q j) → k4 I5 = some r → ∀ q j, ¬ M q j → r.2 q j = Ib q j := by
      intro I5 fI5 hf
      subst ek4
      obtain ⟨k6, ek6, hf⟩ := of_zj hf
      have hk6 : ∀ (x8 : Int) (I7 : IMem), (∀ q j, ¬ M q j → I7 q j = Ib q j) → k6 x8 I7 = some r → ∀ q j, ¬ M q j → r.2 q j = Ib q j := by
        intro x8 I7 fI7 hf
        subst ek6
        obtain ⟨u_2, I10, c_1, hf⟩ := of_zb hf
        have fI10 := fcz_t (fc_X_next0 M fu o0 I7 m_o0_0c13 m_o0_0c14 m_o0_0c15 m_o0_0c16 c_1) fI7
        rcases of_ite hf with ⟨_, hf⟩ | ⟨_, hf⟩
        · obtain ⟨y12, I13, c_3, hf⟩ := of_zb hf
          have fI13 := fcz_t (fc_X_unit M fu o0 I10 m_o0_5 m_o0_0c11 m_o0_0c13 m_o0_0c14 m_o0_0c15 m_o0_0c16 m_o0_0c17 m_o0_0c18 c_3) fI10
          rcases of_ite hf with ⟨_, hf⟩ | ⟨_, hf⟩
          · cases hf; exact fI13
          · obtain ⟨u_5, I16, c_4, hf⟩ := of_zb hf
            have fI16 := fcz_t (fc_X_lay M fu o0 14 0 I13 m_o0_5 m_o0_0c11 c_4) fI13
            exact hR_ I16 fI16 hf
        · obtain ⟨x18, -, hf⟩ := of_zl hf
          obtain ⟨y19, I20, c_6, hf⟩ := of_zb hf
          have fI20 := fcz_t (fc_X_number M fu o0 1 9999 I10 m_o0_0c13 m_o0_0c14 m_o0_0c15 m_o0_0c16 m_o0_0c17 m_o0_0c18 c_6) fI10
          rcases of_ite hf with ⟨_, hf⟩ | ⟨_, hf⟩
          · cases hf; exact fI20
          · obtain ⟨u_8, I23, c_7, hf⟩ := of_zb hf
            have fI23 := fcz_t (fc_X_lay M fu o0 15 x18 I20 m_o0_5 m_o0_0c11 c_7) fI20
            exact hR_ I23 fI23 hf
      rcases of_ite hf with ⟨_, hf⟩ | ⟨_, hf⟩
      · exact hk6 1 I5 fI5 hf
      · exact hk6 0 I5 fI5 hf
    rcases of_ite hf with ⟨_, hf⟩ | ⟨_, hf⟩
    · exact hk4 I0 fI0 hf
    · rcases of_ite hf with ⟨_, hf⟩ | ⟨_, hf⟩
      · exact hk4 I0 fI0 hf
      · cases hf; exact fI0
theorem fc_X_product (M : Nat → Nat → Prop) (fu : Nat) (o0 : Nat) (I0 : IMem) {r : Int × IMem} (m_o0_5 : ∀ j, M (o0 + 5) j) (m_o0_0c11 : M o0 11) (m_o0_0c13 : M o0 13) (m_o0_0c14 : M o0 14) (m_o0_0c15 : M o0 15) (m_o0_0c16 : M o0 16) (m_o0_0c17 : M o0 17) (m_o0_0c18 : M o0 18) (hf : f_X_product fu o0 I0 = some r) : ∀ q j, ¬ M q j → r.2 q j = I0 q j := by
  unfold f_X_product at hf
  obtain ⟨Ib, hIb⟩ : ∃ Ib : IMem, Ib = I0 := ⟨I0, rfl⟩
  rw [← hIb]
  have f0 : ∀ q j, ¬ M q j → I0 q j = Ib q j := fun q j _ => by rw [hIb]
  clear hIb
  obtain ⟨y1, I2, c_1, hf⟩ := of_zb hf
  have fI2 := fcz_t (fc_X_unit M fu o0 I0 m_o0_5 m_o0_0c11 m_o0_0c13 m_o0_0c14 m_o0_0c15 m_o0_0c16 m_o0_0c17 m_o0_0c18 c_1) f0
  rcases of_ite hf with ⟨_, hf⟩ | ⟨_, hf⟩
  · cases hf; exact fI2
  · refine fc_X_product_9 M fu o0 m_o0_5 m_o0_0c11 m_o0_0c13 m_o0_0c14 m_o0_0c15 m_o0_0c16 m_o0_0c17 m_o0_0c18 fu I2 fI2 hf
theorem fc_X_sumUp_9 (M : Nat → Nat → Prop) (fu : Nat) {r : Int × IMem} {Ib : IMem} (o0 : Nat) (m_o0_5 : ∀ j, M (o0 + 5) j) (m_o0_0c11 : M o0 11) (m_o0_0c13 : M o0 13) (m_o0_0c14 : M o0 14) (m_o0_0c15 : M o0 15) (m_o0_0c16 : M o0 16) (m_o0_0c17 : M o0 17) (m_o0_0c18 : M o0 18) : ∀ (m : Nat) (I0 : IMem), (∀ q j, ¬ M q j → I0 q j = Ib q j) → f_X_sumUp_9 fu o0 m I0 = some r → ∀ q j, ¬ M q j → r.2 q j = Ib q j := by
  intro m
  induction m with
  | zero => intro I0 _ hf; cases hf
  | succ m hR_ =>
    intro  I0 fI0 hf
    replace hf : fb_X_sumUp_9 fu o0 (f_X_sumUp_9 fu o0 m) I0 = some r := hf
    unfold fb_X_sumUp_9 at hf
    obtain ⟨k4, ek4, hf⟩ := of_zj hf
    have hk4 : ∀  (I5 : IMem), (∀ q j, ¬ M q j → I5 q j = Ib q j) → k4 I5 = some r → ∀ q j, ¬ M q j → r.2 q j = Ib q j := by
      intro I5 fI5 hf
      subst ek4
      obtain ⟨k6, ek6, hf⟩ := of_zj hf
      have hk6 : ∀ (x8 : Int) (I7 : IMem), (∀ q j, ¬ M q j → I7 q j = Ib q j) → k6 x8 I7 = some r → ∀ q j, ¬ M q j → r.2 q j = Ib q j := by
        intro x8 I7 fI7 hf
        subst ek6
        obtain ⟨u_2, I10, c_1, hf⟩ := of_zb hf
        have fI10 := fcz_t (fc_X_next0 M fu o0 I7 m_o0_0c13 m_o0_0c14 m_o0_0c15 m_o0_0c16 c_1) fI7
        obtain ⟨y12, I13, c_3, hf⟩ := of_zb hf
        have fI13 := fcz_t (fc_X_product M fu o0 I10 m_o0_5 m_o0_0c11 m_o0_0c13 m_o0_0c14 m_o0_0c15 m_o0_0c16 m_o0_0c17 m_o0_0c18 c_3) fI10
        rcases of_ite hf with ⟨_, hf⟩ | ⟨_, hf⟩
        · cases hf; exact fI13
        · obtain ⟨u_5, I16, c_4, hf⟩ := of_zb hf
          have fI16 := fcz_t (fc_X_lay M fu o0 x8 0 I13 m_o0_5 m_o0_0c11 c_4) fI13
          exact hR_ I16 fI16 hf
      rcases of_ite hf with ⟨_, hf⟩ | ⟨_, hf⟩
      · exact hk6 12 I5 fI5 hf
      · exact hk6 13 I5 fI5 hf
    rcases of_ite hf with ⟨_, hf⟩ | ⟨_, hf⟩
    · exact hk4 I0 fI0 hf
    · rcases of_ite hf with ⟨_, hf⟩ | ⟨_, hf⟩
      · exact hk4 I0 fI0 hf
      · cases hf; exact fI0
theorem fc_X_sumUp (M : Nat → Nat → Prop) (fu : Nat) (o0 : Nat) (I0 : IMem) {r : Int × IMem} (m_o0_5 : ∀ j, M (o0 + 5) j) (m_o0_0c11 : M o0 11) (m_o0_0c13 : M o0 13) (m_o0_0c14 : M o0 14) (m_o0_0c15 : M o0 15) (m_o0_0c16 : M o0 16) (m_o0_0c17 : M o0 17) (m_o0_0c18 : M o0 18) (hf : f_X_sumUp fu o0 I0 = some r) : ∀ q j, ¬ M q j → r.2 q j = I0 q j := by
  unfold f_X_sumUp at hf
  obtain ⟨Ib, hIb⟩ : ∃ Ib : IMem, Ib = I0 := ⟨I0, rfl⟩
  rw [← hIb]
  have f0 : ∀ q j, ¬ M q j → I0 q j = Ib q j := fun q j _ => by rw [hIb]
  clear hIb
  obtain ⟨y1, I2, c_1, hf⟩ := of_zb hf
  have fI2 := fcz_t (fc_X_product M fu o0 I0 m_o0_5 m_o0_0c11 m_o0_0c13 m_o0_0c14 m_o0_0c15 m_o0_0c16 m_o0_0c17 m_o0_0c18 c_1) f0
  rcases of_ite hf with ⟨_, hf⟩ | ⟨_, hf⟩
  · cases hf; exact fI2
  · refine fc_X_sumUp_9 M fu o0 m_o0_5 m_o0_0c11 m_o0_0c13 m_o0_0c14 m_o0_0c15 m_o0_0c16 m_o0_0c17 m_o0_0c18 fu I2 fI2 hf
theorem fc_X_any_9 (M : Nat → Nat → Prop) (fu : Nat) (R : (Nat → IMem → Res) × (Nat → IMem → Res) × (Nat → IMem → Res)) (hR : (∀ (o0 : Nat) (I0 : IMem) (r : Int × IMem), (∀ j, M (o0 + 5) j) → (M o0 11) → (M o0 13) → (M o0 14) → (M o0 15) → (M o0 16) → (M o0 17) → (M o0 18) → (M o0 20) → R.1 o0 I0 = some r → ∀ q j, ¬ M q j → r.2 q j = I0 q j) ∧ (∀ (o0 : Nat) (I0 : IMem) (r : Int × IMem), (∀ j, M (o0 + 5) j) → (M o0 11) → (M o0 13) → (M o0 14) → (M o0 15) → (M o0 16) → (M o0 17) → (M o0 18) → (M o0 20) → R.2.1 o0 I0 = some r → ∀ q j, ¬ M q j → r.2 q j = I0 q j) ∧ (∀ (o0 : Nat) (I0 : IMem) (r : Int × IMem), (∀ j, M (o0 + 5) j) → (M o0 11) → (M o0 13) → (M o0 14) → (M o0 15) → (M o0 16) → (M o0 17) → (M o0 18) → (M o0 20) → R.2.2 o0 I0 = some r → ∀ q j, ¬ M q j → r.2 q j = I0 q j)) {r : Int × IMem} {Ib : IMem} (o0 : Nat) (m_o0_5 : ∀ j, M (o0 + 5) j) (m_o0_0c11 : M o0 11) (m_o0_0c13 : M o0 13) (m_o0_0c14 : M o0 14) (m_o0_0c15 : M o0 15) (m_o0_0c16 : M o0 16) (m_o0_0c17 : M o0 17) (m_o0_0c18 : M o0 18) (m_o0_0c20 : M o0 20) : ∀ (m : Nat) (I0 : IMem), (∀ q j, ¬ M q j → I0 q j = Ib q j) → f_X_any_9 fu R o0 m I0 = some r → ∀ q j, ¬ M q j → r.2 q j = Ib q j := by
  intro m
  induction m with
  | zero => intro I0 _ hf; cases hf
  | succ m hR_ =>
    intro  I0 fI0 hf
    replace hf : fb_X_any_9 fu R o0 (f_X_any_9 fu R o0 m) I0 = some r := hf
    unfold fb_X_any_9 at hf
    rcases of_ite hf with ⟨_, hf⟩ | ⟨_, hf⟩
    · obtain ⟨u_2, I5, c_1, hf⟩ := of_zb hf
      have fI5 := fcz_t (fc_X_next0 M fu o0 I0 m_o0_0c13 m_o0_0c14 m_o0_0c15 m_o0_0c16 c_1) fI0
      obtain ⟨y7, I8, c_3, hf⟩ := of_zb hf
      have fI8 := fcz_t (hR.2.1 o0 I5 _ m_o0_5 m_o0_0c11 m_o0_0c13 m_o0_0c14 m_o0_0c15 m_o0_0c16 m_o0_0c17 m_o0_0c18 m_o0_0c20 c_3) fI5
      rcases of_ite hf with ⟨_, hf⟩ | ⟨_, hf⟩
      · cases hf; exact fI8
      · obtain ⟨u_5, I11, c_4, hf⟩ := of_zb hf
        have fI11 := fcz_t (fc_X_lay M fu o0 21 0 I8 m_o0_5 m_o0_0c11 c_4) fI8
        exact hR_ I11 fI11 hf
    · cases hf; exact fI0
theorem fc_X_every_9 (M : Nat → Nat → Prop) (fu : Nat) (R : (Nat → IMem → Res) × (Nat → IMem → Res) × (Nat → IMem → Res)) (hR : (∀ (o0 : Nat) (I0 : IMem) (r : Int × IMem), (∀ j, M (o0 + 5) j) → (M o0 11) → (M o0 13) → (M o0 14) → (M o0 15) → (M o0 16) → (M o0 17) → (M o0 18) → (M o0 20) → R.1 o0 I0 = some r → ∀ q j, ¬ M q j → r.2 q j = I0 q j) ∧ (∀ (o0 : Nat) (I0 : IMem) (r : Int × IMem), (∀ j, M (o0 + 5) j) → (M o0 11) → (M o0 13) → (M o0 14) → (M o0 15) → (M o0 16) → (M o0 17) → (M o0 18) → (M o0 20) → R.2.1 o0 I0 = some r → ∀ q j, ¬ M q j → r.2 q j = I0 q j) ∧ (∀ (o0 : Nat) (I0 : IMem) (r : Int × IMem), (∀ j, M (o0 + 5) j) → (M o0 11) → (M o0 13) → (M o0 14) → (M o0 15) → (M o0 16) → (M o0 17) → (M o0 18) → (M o0 20) → R.2.2 o0 I0 = some r → ∀ q j, ¬ M q j → r.2 q j = I0 q j)) {r : Int × IMem} {Ib : IMem} (o0 : Nat) (m_o0_5 : ∀ j, M (o0 + 5) j) (m_o0_0c11 : M o0 11) (m_o0_0c13 : M o0 13) (m_o0_0c14 : M o0 14) (m_o0_0c15 : M o0 15) (m_o0_0c16 : M o0 16) (m_o0_0c17 : M o0 17) (m_o0_0c18 : M o0 18) (m_o0_0c20 : M o0 20) : ∀ (m : Nat) (I0 : IMem), (∀ q j, ¬ M q j → I0 q j = Ib q j) → f_X_every_9 fu R o0 m I0 = some r → ∀ q j, ¬ M q j → r.2 q j = Ib q j := by
  intro m
  induction m with
  | zero => intro I0 _ hf; cases hf
  | succ m hR_ =>
    intro  I0 fI0 hf
    replace hf : fb_X_every_9 fu R o0 (f_X_every_9 fu R o0 m) I0 = some r := hf
    unfold fb_X_every_9 at hf
    rcases of_ite hf with ⟨_, hf⟩ | ⟨_, hf⟩
    · obtain ⟨u_2, I5, c_1, hf⟩ := of_zb hf
      have fI5 := fcz_t (fc_X_next0 M fu o0 I0 m_o0_0c13 m_o0_0c14 m_o0_0c15 m_o0_0c16 c_1) fI0
      obtain ⟨y7, I8, c_3, hf⟩ := of_zb hf
      have fI8 := fcz_t (hR.2.2 o0 I5 _ m_o0_5 m_o0_0c11 m_o0_0c13 m_o0_0c14 m_o0_0c15 m_o0_0c16 m_o0_0c17 m_o0_0c18 m_o0_0c20 c_3) fI5
      rcases of_ite hf with ⟨_, hf⟩ | ⟨_, hf⟩
      · cases hf; exact fI8
      · obtain ⟨u_5, I11, c_4, hf⟩ := of_zb hf
        have fI11 := fcz_t (fc_X_lay M fu o0 20 0 I8 m_o0_5 m_o0_0c11 c_4) fI8
        exact hR_ I11 fI11 hf
    · cases hf; exact fI0
theorem fc_gXA (M : Nat → Nat → Prop) (fu : Nat) : ∀ n : Nat, (∀ (o0 : Nat) (I0 : IMem) (r : Int × IMem), (∀ j, M (o0 + 5) j) → (M o0 11) → (M o0 13) → (M o0 14) → (M o0 15) → (M o0 16) → (M o0 17) → (M o0 18) → (M o0 20) → (gXA fu n).1 o0 I0 = some r → ∀ q j, ¬ M q j → r.2 q j = I0 q j) ∧ (∀ (o0 : Nat) (I0 : IMem) (r : Int × IMem), (∀ j, M (o0 + 5) j) → (M o0 11) → (M o0 13) → (M o0 14) → (M o0 15) → (M o0 16) → (M o0 17) → (M o0 18) → (M o0 20) → (gXA fu n).2.1 o0 I0 = some r → ∀ q j, ¬ M q j → r.2 q j = I0 q j) ∧ (∀ (o0 : Nat) (I0 : IMem) (r : Int × IMem), (∀ j, M (o0 + 5) j) → (M o0 11) → (M o0 13) → (M o0 14) → (M o0 15) → (M o0 16) → (M o0 17) → (M o0 18) → (M o0 20) → (gXA fu n).2.2 o0 I0 = some r → ∀ q j, ¬ M q j → r.2 q j = I0 q j) := by
  intro n
  induction n with
  | zero => exact ⟨(fun _ _ r _ _ _ _ _ _ _ _ _ hf => by cases hf), (fun _ _ r _ _ _ _ _ _ _ _ _ hf => by cases hf), (fun _ _ r _ _ _ _ _ _ _ _ _ hf => by cases hf)⟩
  | succ n hR =>
    refine ⟨?_, ?_, ?_⟩
    · intro o0 I0 r m_o0_5 m_o0_0c11 m_o0_0c13 m_o0_0c14 m_o0_0c15 m_o0_0c16 m_o0_0c17 m_o0_0c18 m_o0_0c20 hf
      replace hf : fb_X_any fu (gXA fu n) o0 I0 = some r := hf
      unfold fb_X_any at hf
      obtain ⟨Ib, hIb⟩ : ∃ Ib : IMem, Ib = I0 := ⟨I0, rfl⟩
      rw [← hIb]
      have f0 : ∀ q j, ¬ M q j → I0 q j = Ib q j := fun q j _ => by rw [hIb]
      clear hIb
      obtain ⟨y1, I2, c_1, hf⟩ := of_zb hf
      have fI2 := fcz_t (hR.2.1 o0 I0 _ m_o0_5 m_o0_0c11 m_o0_0c13 m_o0_0c14 m_o0_0c15 m_o0_0c16 m_o0_0c17 m_o0_0c18 m_o0_0c20 c_1) f0
      rcases of_ite hf with ⟨_, hf⟩ | ⟨_, hf⟩
      · cases hf; exact fI2
      · refine fc_X_any_9 M fu _ hR o0 m_o0_5 m_o0_0c11 m_o0_0c13 m_o0_0c14 m_o0_0c15 m_o0_0c16 m_o0_0c17 m_o0_0c18 m_o0_0c20 fu I2 fI2 hf
    · intro o0 I0 r m_o0_5 m_o0_0c11 m_o0_0c13 m_o0_0c14 m_o0_0c15 m_o0_0c16 m_o0_0c17 m_o0_0c18 m_o0_0c20 hf
      replace hf : fb_X_every fu (gXA fu n) o0 I0 = some r := hf
      unfold fb_X_every at hf
      obtain ⟨Ib, hIb⟩ : ∃ Ib : IMem, Ib = I0 := ⟨I0, rfl⟩
      rw [← hIb]
      have f0 : ∀ q j, ¬ M q j → I0 q j = Ib q j := fun q j _ => by rw [hIb]
      clear hIb
      obtain ⟨y1, I2, c_1, hf⟩ := of_zb hf
      have fI2 := fcz_t (hR.2.2 o0 I0 _ m_o0_5 m_o0_0c11 m_o0_0c13 m_o0_0c14 m_o0_0c15 m_o0_0c16 m_o0_0c17 m_o0_0c18 m_o0_0c20 c_1) f0
      rcases of_ite hf with ⟨_, hf⟩ | ⟨_, hf⟩
      · cases hf; exact fI2
      · refine fc_X_every_9 M fu _ hR o0 m_o0_5 m_o0_0c11 m_o0_0c13 m_o0_0c14 m_o0_0c15 m_o0_0c16 m_o0_0c17 m_o0_0c18 m_o0_0c20 fu I2 fI2 hf
    · intro o0 I0 r m_o0_5 m_o0_0c11 m_o0_0c13 m_o0_0c14 m_o0_0c15 m_o0_0c16 m_o0_0c17 m_o0_0c18 m_o0_0c20 hf
      replace hf : fb_X_one fu (gXA fu n) o0 I0 = some r := hf
      unfold fb_X_one at hf
      obtain ⟨Ib, hIb⟩ : ∃ Ib : IMem, Ib = I0 := ⟨I0, rfl⟩
      rw [← hIb]
      have f0 : ∀ q j, ¬ M q j → I0 q j = Ib q j := fun q j _ => by rw [hIb]
      clear hIb
      rcases of_ite hf with ⟨_, hf⟩ | ⟨_, hf⟩
      · obtain ⟨y29, I30, c_1, hf⟩ := of_zb hf
        have fI30 := fcz_t (fc_X_opens M fu o0 I0 m_o0_0c13 m_o0_0c14 m_o0_0c15 m_o0_0c16 m_o0_0c17 m_o0_0c18 m_o0_0c20 c_1) f0
        rcases of_ite hf with ⟨_, hf⟩ | ⟨_, hf⟩
        · cases hf; exact fI30
        · obtain ⟨y32, I33, c_2, hf⟩ := of_zb hf
          have fI33 := fcz_t (hR.2.2 o0 I30 _ m_o0_5 m_o0_0c11 m_o0_0c13 m_o0_0c14 m_o0_0c15 m_o0_0c16 m_o0_0c17 m_o0_0c18 m_o0_0c20 c_2) fI30
          rcases of_ite hf with ⟨_, hf⟩ | ⟨_, hf⟩
          · cases hf; exact fI33
          · obtain ⟨I35, fI35, hf⟩ := fcz_w m_o0_0c20 fI33 hf
            obtain ⟨u_4, I37, c_3, hf⟩ := of_zb hf
            have fI37 := fcz_t (fc_X_lay M fu o0 19 0 I35 m_o0_5 m_o0_0c11 c_3) fI35
            cases hf; exact fI37
      · rcases of_ite hf with ⟨_, hf⟩ | ⟨_, hf⟩
        · obtain ⟨y19, I20, c_5, hf⟩ := of_zb hf
          have fI20 := fcz_t (fc_X_opens M fu o0 I0 m_o0_0c13 m_o0_0c14 m_o0_0c15 m_o0_0c16 m_o0_0c17 m_o0_0c18 m_o0_0c20 c_5) f0
          rcases of_ite hf with ⟨_, hf⟩ | ⟨_, hf⟩
          · cases hf; exact fI20
          · obtain ⟨y22, I23, c_6, hf⟩ := of_zb hf
            have fI23 := fcz_t (hR.1 o0 I20 _ m_o0_5 m_o0_0c11 m_o0_0c13 m_o0_0c14 m_o0_0c15 m_o0_0c16 m_o0_0c17 m_o0_0c18 m_o0_0c20 c_6) fI20
            rcases of_ite hf with ⟨_, hf⟩ | ⟨_, hf⟩
            · cases hf; exact fI23
            · obtain ⟨y25, I26, c_7, hf⟩ := of_zb hf
              have fI26 := fcz_t (fc_X_need M fu o0 141 I23 m_o0_0c13 m_o0_0c14 m_o0_0c15 m_o0_0c16 m_o0_0c17 m_o0_0c18 c_7) fI23
              rcases of_ite hf with ⟨_, hf⟩ | ⟨_, hf⟩
              · cases hf; exact fI26
              · obtain ⟨I28, fI28, hf⟩ := fcz_w m_o0_0c20 fI26 hf
                cases hf; exact fI28
        · obtain ⟨y1, I2, c_8, hf⟩ := of_zb hf
          have fI2 := fcz_t (fc_X_sumUp M fu o0 I0 m_o0_5 m_o0_0c11 m_o0_0c13 m_o0_0c14 m_o0_0c15 m_o0_0c16 m_o0_0c17 m_o0_0c18 c_8) f0
          rcases of_ite hf with ⟨_, hf⟩ | ⟨_, hf⟩
          · cases hf; exact fI2
          · obtain ⟨k4, ek4, hf⟩ := of_zj hf
            have hk4 : ∀ (x6 : Int) (I5 : IMem), (∀ q j, ¬ M q j → I5 q j = Ib q j) → k4 x6 I5 = some r → ∀ q j, ¬ M q j → r.2 q j = Ib q j := by
              intro x6 I5 fI5 hf
              subst ek4
              rcases of_ite hf with ⟨_, hf⟩ | ⟨_, hf⟩
              · obtain ⟨y16, I17, c_9, hf⟩ := of_zb hf
                have fI17 := fcz_t (fc_X_bad M fu o0 1 I5 m_o0_0c17 m_o0_0c18 c_9) fI5
                obtain ⟨g_10, hf⟩ := of_zg hf
                cases hf; exact fI17
              · obtain ⟨u_12, I8, c_11, hf⟩ := of_zb hf
                have fI8 := fcz_t (fc_X_next0 M fu o0 I5 m_o0_0c13 m_o0_0c14 m_o0_0c15 m_o0_0c16 c_11) fI5
                obtain ⟨y10, I11, c_13, hf⟩ := of_zb hf
                have fI11 := fcz_t (fc_X_sumUp M fu o0 I8 m_o0_5 m_o0_0c11 m_o0_0c13 m_o0_0c14 m_o0_0c15 m_o0_0c16 m_o0_0c17 m_o0_0c18 c_13) fI8
                rcases of_ite hf with ⟨_, hf⟩ | ⟨_, hf⟩
                · cases hf; exact fI11
                · obtain ⟨u_15, I14, c_14, hf⟩ := of_zb hf
                  have fI14 := fcz_t (fc_X_lay M fu o0 x6 0 I11 m_o0_5 m_o0_0c11 c_14) fI11
                  cases hf; exact fI14
            rcases of_ite hf with ⟨_, hf⟩ | ⟨_, hf⟩
            · exact hk4 16 I2 fI2 hf
            · rcases of_ite hf with ⟨_, hf⟩ | ⟨_, hf⟩
              · exact hk4 17 I2 fI2 hf
              · rcases of_ite hf with ⟨_, hf⟩ | ⟨_, hf⟩
                · exact hk4 18 I2 fI2 hf
                · exact hk4 ((-1)) I2 fI2 hf
theorem fc_X_any (M : Nat → Nat → Prop) (fu : Nat) (o0 : Nat) (I0 : IMem) {r : Int × IMem} (m_o0_5 : ∀ j, M (o0 + 5) j) (m_o0_0c11 : M o0 11) (m_o0_0c13 : M o0 13) (m_o0_0c14 : M o0 14) (m_o0_0c15 : M o0 15) (m_o0_0c16 : M o0 16) (m_o0_0c17 : M o0 17) (m_o0_0c18 : M o0 18) (m_o0_0c20 : M o0 20) (hf : f_X_any fu o0 I0 = some r) : ∀ q j, ¬ M q j → r.2 q j = I0 q j := (fc_gXA M fu _).1 o0 I0 r m_o0_5 m_o0_0c11 m_o0_0c13 m_o0_0c14 m_o0_0c15 m_o0_0c16 m_o0_0c17 m_o0_0c18 m_o0_0c20 hf
theorem fc_X_every (M : Nat → Nat → Prop) (fu : Nat) (o0 : Nat) (I0 : IMem) {r : Int × IMem} (m_o0_5 : ∀ j, M (o0 + 5) j) (m_o0_0c11 : M o0 11) (m_o0_0c13 : M o0 13) (m_o0_0c14 : M o0 14) (m_o0_0c15 : M o0 15) (m_o0_0c16 : M o0 16) (m_o0_0c17 : M o0 17) (m_o0_0c18 : M o0 18) (m_o0_0c20 : M o0 20) (hf : f_X_every fu o0 I0 = some r) : ∀ q j, ¬ M q j → r.2 q j = I0 q j := (fc_gXA M fu _).2.1 o0 I0 r m_o0_5 m_o0_0c11 m_o0_0c13 m_o0_0c14 m_o0_0c15 m_o0_0c16 m_o0_0c17 m_o0_0c18 m_o0_0c20 hf
theorem fc_X_one (M : Nat → Nat → Prop) (fu : Nat) (o0 : Nat) (I0 : IMem) {r : Int × IMem} (m_o0_5 : ∀ j, M (o0 + 5) j) (m_o0_0c11 : M o0 11) (m_o0_0c13 : M o0 13) (m_o0_0c14 : M o0 14) (m_o0_0c15 : M o0 15) (m_o0_0c16 : M o0 16) (m_o0_0c17 : M o0 17) (m_o0_0c18 : M o0 18) (m_o0_0c20 : M o0 20) (hf : f_X_one fu o0 I0 = some r) : ∀ q j, ¬ M q j → r.2 q j = I0 q j := (fc_gXA M fu _).2.2 o0 I0 r m_o0_5 m_o0_0c11 m_o0_0c13 m_o0_0c14 m_o0_0c15 m_o0_0c16 m_o0_0c17 m_o0_0c18 m_o0_0c20 hf
theorem fc_X_aLine (M : Nat → Nat → Prop) (fu : Nat) (o0 : Nat) (I0 : IMem) {r : Int × IMem} (m_o0_4 : ∀ j, M (o0 + 4) j) (m_o0_5 : ∀ j, M (o0 + 5) j) (m_o0_0c11 : M o0 11) (m_o0_0c13 : M o0 13) (m_o0_0c14 : M o0 14) (m_o0_0c15 : M o0 15) (m_o0_0c16 : M o0 16) (m_o0_0c17 : M o0 17) (m_o0_0c18 : M o0 18) (m_o0_0c20 : M o0 20) (hf : f_X_aLine fu o0 I0 = some r) : ∀ q j, ¬ M q j → r.2 q j = I0 q j := by
  unfold f_X_aLine at hf
  obtain ⟨Ib, hIb⟩ : ∃ Ib : IMem, Ib = I0 := ⟨I0, rfl⟩
  rw [← hIb]
  have f0 : ∀ q j, ¬ M q j → I0 q j = Ib q j := fun q j _ => by rw [hIb]
  clear hIb
  rcases of_ite hf with ⟨_, hf⟩ | ⟨_, hf⟩
  · rcases of_ite hf with ⟨_, hf⟩ | ⟨_, hf⟩
    · obtain ⟨y37, I38, c_1, hf⟩ := of_zb hf
      have fI38 := fcz_t (fc_X_bad M fu o0 3 I0 m_o0_0c17 m_o0_0c18 c_1) f0
      obtain ⟨g_2, hf⟩ := of_zg hf
      cases hf; exact fI38
    · obtain ⟨k1, ek1, hf⟩ := of_zj hf
      have hk1 : ∀ (x3 : Int) (I2 : IMem), (∀ q j, ¬ M q j → I2 q j = Ib q j) → k1 x3 I2 = some r → ∀ q j, ¬ M q j → r.2 q j = Ib q j := by
        intro x3 I2 fI2 hf
        subst ek1
        obtain ⟨I4, fI4, hf⟩ := fcz_w m_o0_0c20 fI2 hf
        obtain ⟨u_4, I6, c_3, hf⟩ := of_zb hf
        have fI6 := fcz_t (fc_X_next0 M fu o0 I4 m_o0_0c13 m_o0_0c14 m_o0_0c15 m_o0_0c16 c_3) fI4
        obtain ⟨x9, -, hf⟩ := of_zl hf
        obtain ⟨g_5, hf⟩ := of_zg hf
        obtain ⟨I8, fI8, hf⟩ := fcz_w (m_o0_4 _) fI6 hf
        obtain ⟨x11, -, hf⟩ := of_zl hf
        obtain ⟨g_6, hf⟩ := of_zg hf
        obtain ⟨I10, fI10, hf⟩ := fcz_w (m_o0_4 _) fI8 hf
        obtain ⟨k12, ek12, hf⟩ := of_zj hf
        have hk12 : ∀  (I13 : IMem), (∀ q j, ¬ M q j → I13 q j = Ib q j) → k12 I13 = some r → ∀ q j, ¬ M q j → r.2 q j = Ib q j := by
          intro I13 fI13 hf
          subst ek12
          obtain ⟨x15, -, hf⟩ := of_zl hf
          obtain ⟨g_7, hf⟩ := of_zg hf
          obtain ⟨I14, fI14, hf⟩ := fcz_w (m_o0_4 _) fI13 hf
          obtain ⟨k16, ek16, hf⟩ := of_zj hf
          have hk16 : ∀  (I17 : IMem), (∀ q j, ¬ M q j → I17 q j = Ib q j) → k16 I17 = some r → ∀ q j, ¬ M q j → r.2 q j = Ib q j := by
            intro I17 fI17 hf
            subst ek16
            obtain ⟨x19, -, hf⟩ := of_zl hf
            obtain ⟨g_8, hf⟩ := of_zg hf
            obtain ⟨I18, fI18, hf⟩ := fcz_w (m_o0_4 _) fI17 hf
            obtain ⟨y20, I21, c_9, hf⟩ := of_zb hf
            have fI21 := fcz_t (fc_X_need M fu o0 159 I18 m_o0_0c13 m_o0_0c14 m_o0_0c15 m_o0_0c16 m_o0_0c17 m_o0_0c18 c_9) fI18
            obtain ⟨g_10, hf⟩ := of_zg hf
            cases hf; exact fI21
          obtain ⟨k23, ek23, hf⟩ := of_zj hf
          have hk23 : ∀  (I24 : IMem), (∀ q j, ¬ M q j → I24 q j = Ib q j) → k23 I24 = some r → ∀ q j, ¬ M q j → r.2 q j = Ib q j := by
            intro I24 fI24 hf
            subst ek23
            obtain ⟨y25, I26, c_11, hf⟩ := of_zb hf
            have fI26 := fcz_t (fc_X_need M fu o0 3 I24 m_o0_0c13 m_o0_0c14 m_o0_0c15 m_o0_0c16 m_o0_0c17 m_o0_0c18 c_11) fI24
            rcases of_ite hf with ⟨_, hf⟩ | ⟨_, hf⟩
            · cases hf; exact fI26
            · obtain ⟨y28, I29, c_12, hf⟩ := of_zb hf
              have fI29 := fcz_t (fc_X_any M fu o0 I26 m_o0_5 m_o0_0c11 m_o0_0c13 m_o0_0c14 m_o0_0c15 m_o0_0c16 m_o0_0c17 m_o0_0c18 m_o0_0c20 c_12) fI26
              rcases of_ite hf with ⟨_, hf⟩ | ⟨_, hf⟩
              · cases hf; exact fI29
              · exact hk16 I29 fI29 hf
          rcases of_ite hf with ⟨_, hf⟩ | ⟨_, hf⟩
          · rcases of_ite hf with ⟨_, hf⟩ | ⟨_, hf⟩
            · exact hk23 I14 fI14 hf
            · exact hk16 I14 fI14 hf
          · exact hk23 I14 fI14 hf
        rcases of_ite hf with ⟨_, hf⟩ | ⟨_, hf⟩
        · obtain ⟨y31, I32, c_13, hf⟩ := of_zb hf
          have fI32 := fcz_t (fc_X_sumUp M fu o0 I10 m_o0_5 m_o0_0c11 m_o0_0c13 m_o0_0c14 m_o0_0c15 m_o0_0c16 m_o0_0c17 m_o0_0c18 c_13) fI10
          rcases of_ite hf with ⟨_, hf⟩ | ⟨_, hf⟩
          · cases hf; exact fI32
          · exact hk12 I32 fI32 hf
        · obtain ⟨y34, I35, c_14, hf⟩ := of_zb hf
          have fI35 := fcz_t (fc_X_number M fu o0 0 5 I10 m_o0_0c13 m_o0_0c14 m_o0_0c15 m_o0_0c16 m_o0_0c17 m_o0_0c18 c_14) fI10
          rcases of_ite hf with ⟨_, hf⟩ | ⟨_, hf⟩
          · cases hf; exact fI35
          · exact hk12 I35 fI35 hf
      rcases of_ite hf with ⟨_, hf⟩ | ⟨_, hf⟩
      · exact hk1 1 I0 f0 hf
      · exact hk1 0 I0 f0 hf
  · obtain ⟨y40, I41, c_15, hf⟩ := of_zb hf
    have fI41 := fcz_t (fc_X_bad M fu o0 1 I0 m_o0_0c17 m_o0_0c18 c_15) f0
    obtain ⟨g_16, hf⟩ := of_zg hf
    cases hf; exact fI41
theorem fc_X_text_57 (M : Nat → Nat → Prop) (fu : Nat) {r : Int × IMem} {Ib : IMem} (k_94 : Int → IMem → Res) (o0 : Nat) (p1 : Int) (m_o0_4 : ∀ j, M (o0 + 4) j) (m_o0_5 : ∀ j, M (o0 + 5) j) (m_o0_0c10 : M o0 10) (m_o0_0c11 : M o0 11) (m_o0_0c13 : M o0 13) (m_o0_0c14 : M o0 14) (m_o0_0c15 : M o0 15) (m_o0_0c16 : M o0 16) (m_o0_0c17 : M o0 17) (m_o0_0c18 : M o0 18) (m_o0_0c20 : M o0 20) (hk_94 : ∀ (z0 : Int) (I9 : IMem), (∀ q j, ¬ M q j → I9 q j = Ib q j) → k_94 z0 I9 = some r → ∀ q j, ¬ M q j → r.2 q j = Ib q j) : ∀ (m : Nat) (w2 : Int) (I0 : IMem), (∀ q j, ¬ M q j → I0 q j = Ib q j) → f_X_text_57 fu k_94 o0 p1 m w2 I0 = some r → ∀ q j, ¬ M q j → r.2 q j = Ib q j := by
  intro m
  induction m with
  | zero => intro w2 I0 _ hf; cases hf
  | succ m hR_ =>
    intro w2 I0 fI0 hf
    replace hf : fb_X_text_57 fu k_94 o0 p1 (f_X_text_57 fu k_94 o0 p1 m) w2 I0 = some r := hf
    unfold fb_X_text_57 at hf
    rcases of_ite hf with ⟨_, hf⟩ | ⟨_, hf⟩
    · exact hk_94 w2 I0 fI0 hf
    · rcases of_ite hf with ⟨_, hf⟩ | ⟨_, hf⟩
      · exact hk_94 w2 I0 fI0 hf
      · obtain ⟨y12, I13, c_1, hf⟩ := of_zb hf
        have fI13 := fcz_t (fc_X_aLine M fu o0 I0 m_o0_4 m_o0_5 m_o0_0c11 m_o0_0c13 m_o0_0c14 m_o0_0c15 m_o0_0c16 m_o0_0c17 m_o0_0c18 m_o0_0c20 c_1) fI0
        obtain ⟨k15, ek15, hf⟩ := of_zj hf
        have hk15 : ∀ (x17 : Int) (I16 : IMem), (∀ q j, ¬ M q j → I16 q j = Ib q j) → k15 x17 I16 = some r → ∀ q j, ¬ M q j → r.2 q j = Ib q j := by
          intro x17 I16 fI16 hf
          subst ek15
          obtain ⟨I18, fI18, hf⟩ := fcz_w m_o0_0c10 fI16 hf
          exact hR_ y12 I18 fI18 hf
        rcases of_ite hf with ⟨_, hf⟩ | ⟨_, hf⟩
        · exact hk15 0 I13 fI13 hf
        · exact hk15 1 I13 fI13 hf
theorem fc_X_text_145 (M : Nat → Nat → Prop) (fu : Nat) {r : Int × IMem} {Ib : IMem} (k_257 : IMem → Res) (o0 : Nat) (p1 : Int) (m_o0_1 : ∀ j, M (o0 + 1) j) (hk_257 : ∀ (I9 : IMem), (∀ q j, ¬ M q j → I9 q j = Ib q j) → k_257 I9 = some r → ∀ q j, ¬ M q j → r.2 q j = Ib q j) : ∀ (m : Nat) (w3 : Int) (I0 : IMem), (∀ q j, ¬ M q j → I0 q j = Ib q j) → f_X_text_145 fu k_257 o0 p1 m w3 I0 = some r → ∀ q j, ¬ M q j → r.2 q j = Ib q j := by
  intro m
  induction m with
  | zero => intro w3 I0 _ hf; cases hf
  | succ m hR_ =>
    intro w3 I0 fI0 hf
    replace hf : fb_X_text_145 fu k_257 o0 p1 (f_X_text_145 fu k_257 o0 p1 m) w3 I0 = some r := hf
    unfold fb_X_text_145 at hf
    rcases of_ite hf with ⟨_, hf⟩ | ⟨_, hf⟩
    · obtain ⟨x29, -, hf⟩ := of_zl hf
      obtain ⟨g_1, hf⟩ := of_zg hf
      obtain ⟨x31, -, hf⟩ := of_zl hf
      obtain ⟨g_2, hf⟩ := of_zg hf
      obtain ⟨I30, fI30, hf⟩ := fcz_w (m_o0_1 _) fI0 hf
      obtain ⟨x32, -, hf⟩ := of_zl hf
      obtain ⟨g_3, hf⟩ := of_zg hf
      obtain ⟨x34, -, hf⟩ := of_zl hf
      obtain ⟨g_4, hf⟩ := of_zg hf
      obtain ⟨I33, fI33, hf⟩ := fcz_w (m_o0_1 _) fI30 hf
      obtain ⟨x35, -, hf⟩ := of_zl hf
      obtain ⟨g_5, hf⟩ := of_zg hf
      obtain ⟨x37, -, hf⟩ := of_zl hf
      obtain ⟨g_6, hf⟩ := of_zg hf
      obtain ⟨I36, fI36, hf⟩ := fcz_w (m_o0_1 _) fI33 hf
      obtain ⟨x38, -, hf⟩ := of_zl hf
      obtain ⟨g_7, hf⟩ := of_zg hf
      obtain ⟨x40, -, hf⟩ := of_zl hf
      obtain ⟨g_8, hf⟩ := of_zg hf
      obtain ⟨I39, fI39, hf⟩ := fcz_w (m_o0_1 _) fI36 hf
      obtain ⟨x41, -, hf⟩ := of_zl hf
      exact hR_ x41 I39 fI39 hf
    · exact hk_257 I0 fI0 hf
theorem fc_X_text_259 (M : Nat → Nat → Prop) (fu : Nat) {r : Int × IMem} {Ib : IMem} (o0 : Nat) (p1 : Int) (m_o0_1 : ∀ j, M (o0 + 1) j) : ∀ (m : Nat) (w3 : Int) (I0 : IMem), (∀ q j, ¬ M q j → I0 q j = Ib q j) → f_X_text_259 fu o0 p1 m w3 I0 = some r → ∀ q j, ¬ M q j → r.2 q j = Ib q j := by
  intro m
  induction m with
  | zero => intro w3 I0 _ hf; cases hf
  | succ m hR_ =>
    intro w3 I0 fI0 hf
    replace hf : fb_X_text_259 fu o0 p1 (f_X_text_259 fu o0 p1 m) w3 I0 = some r := hf
    unfold fb_X_text_259 at hf
    rcases of_ite hf with ⟨_, hf⟩ | ⟨_, hf⟩
    · obtain ⟨g_1, hf⟩ := of_zg hf
      obtain ⟨x44, -, hf⟩ := of_zl hf
      obtain ⟨g_2, hf⟩ := of_zg hf
      obtain ⟨I43, fI43, hf⟩ := fcz_w (m_o0_1 _) fI0 hf
      obtain ⟨x45, -, hf⟩ := of_zl hf
      exact hR_ x45 I43 fI43 hf
    · cases hf; exact fI0
theorem fc_X_text (M : Nat → Nat → Prop) (fu : Nat) (o0 : Nat) (a1 : Int) (I0 : IMem) {r : Int × IMem} (m_o0_1 : ∀ j, M (o0 + 1) j) (m_o0_4 : ∀ j, M (o0 + 4) j) (m_o0_5 : ∀ j, M (o0 + 5) j) (m_o0_0c9 : M o0 9) (m_o0_0c10 : M o0 10) (m_o0_0c11 : M o0 11) (m_o0_0c12 : M o0 12) (m_o0_0c13 : M o0 13) (m_o0_0c14 : M o0 14) (m_o0_0c15 : M o0 15) (m_o0_0c16 : M o0 16) (m_o0_0c17 : M o0 17) (m_o0_0c18 : M o0 18) (m_o0_0c19 : M o0 19) (m_o0_0c20 : M o0 20) (m_o0_0c21 : M o0 21) (hf : f_X_text fu o0 a1 I0 = some r) : ∀ q j, ¬ M q j → r.2 q j = I0 q j := by
  unfold f_X_text at hf
  obtain ⟨Ib, hIb⟩ : ∃ Ib : IMem, Ib = I0 := ⟨I0, rfl⟩
  rw [← hIb]
  have f0 : ∀ q j, ¬ M q j → I0 q j = Ib q j := fun q j _ => by rw [hIb]
  clear hIb
  obtain ⟨I1, fI1, hf⟩ := fcz_w m_o0_0c17 f0 hf
  obtain ⟨y2, I3, c_1, hf⟩ := of_zb hf
  have fI3 := fcz_t (fc_X_isIn M fu a1 0 4 I1 c_1) fI1
  rcases of_ite hf with ⟨_, hf⟩ | ⟨_, hf⟩
  · obtain ⟨I46, fI46, hf⟩ := fcz_w m_o0_0c12 fI3 hf
    obtain ⟨I47, fI47, hf⟩ := fcz_w m_o0_0c19 fI46 hf
    obtain ⟨I48, fI48, hf⟩ := fcz_w m_o0_0c21 fI47 hf
    cases hf; exact fI48
  · obtain ⟨I5, fI5, hf⟩ := fcz_w m_o0_0c9 fI3 hf
    obtain ⟨I6, fI6, hf⟩ := fcz_w m_o0_0c13 fI5 hf
    obtain ⟨I7, fI7, hf⟩ := fcz_w m_o0_0c10 fI6 hf
    obtain ⟨I8, fI8, hf⟩ := fcz_w m_o0_0c11 fI7 hf
    obtain ⟨u_3, I10, c_2, hf⟩ := of_zb hf
    have fI10 := fcz_t (fc_X_next0 M fu o0 I8 m_o0_0c13 m_o0_0c14 m_o0_0c15 m_o0_0c16 c_2) fI8
    refine fc_X_text_57 M fu _ o0 a1 m_o0_4 m_o0_5 m_o0_0c10 m_o0_0c11 m_o0_0c13 m_o0_0c14 m_o0_0c15 m_o0_0c16 m_o0_0c17 m_o0_0c18 m_o0_0c20 ?_ fu 1 I10 fI10 hf
    · intro x20 I19 fI19 hf
      obtain ⟨I21, fI21, hf⟩ := fcz_w m_o0_0c12 fI19 hf
      obtain ⟨I22, fI22, hf⟩ := fcz_w m_o0_0c19 fI21 hf
      obtain ⟨k23, ek23, hf⟩ := of_zj hf
      have hk23 : ∀ (x25 : Int) (I24 : IMem), (∀ q j, ¬ M q j → I24 q j = Ib q j) → k23 x25 I24 = some r → ∀ q j, ¬ M q j → r.2 q j = Ib q j := by
        intro x25 I24 fI24 hf
        subst ek23
        obtain ⟨I26, fI26, hf⟩ := fcz_w m_o0_0c21 fI24 hf
        rcases of_ite hf with ⟨_, hf⟩ | ⟨_, hf⟩
        · cases hf; exact fI26
        · obtain ⟨x28, -, hf⟩ := of_zl hf
          obtain ⟨g_4, hf⟩ := of_zg hf
          obtain ⟨I27, fI27, hf⟩ := fcz_w (m_o0_1 _) fI26 hf
          refine fc_X_text_145 M fu _ o0 a1 m_o0_1 ?_ fu 0 I27 fI27 hf
          · intro I42 fI42 hf
            refine fc_X_text_259 M fu o0 a1 m_o0_1 fu 0 I42 fI42 hf
      rcases of_ite hf with ⟨_, hf⟩ | ⟨_, hf⟩
      · exact hk23 (I22 o0 18) I22 fI22 hf
      · exact hk23 ((-1)) I22 fI22 hf
theorem fc_X_fault (M : Nat → Nat → Prop) (fu : Nat) (o0 : Nat) (a1 : Int) (I0 : IMem) {r : Int × IMem} (hf : f_X_fault fu o0 a1 I0 = some r) : ∀ q j, ¬ M q j → r.2 q j = I0 q j := by
  unfold f_X_fault at hf
  obtain ⟨Ib, hIb⟩ : ∃ Ib : IMem, Ib = I0 := ⟨I0, rfl⟩
  rw [← hIb]
  have f0 : ∀ q j, ¬ M q j → I0 q j = Ib q j := fun q j _ => by rw [hIb]
  clear hIb
  rcases of_ite hf with ⟨_, hf⟩ | ⟨_, hf⟩
  · cases hf; exact f0
  · rcases of_ite hf with ⟨_, hf⟩ | ⟨_, hf⟩
    · cases hf; exact f0
    · cases hf; exact f0
theorem fc_X_both (M : Nat → Nat → Prop) (fu : Nat) (a0 : Int) (a1 : Int) (a2 : Int) (I0 : IMem) {r : Int × IMem} (hf : f_X_both fu a0 a1 a2 I0 = some r) : ∀ q j, ¬ M q j → r.2 q j = I0 q j := by
  unfold f_X_both at hf
  obtain ⟨Ib, hIb⟩ : ∃ Ib : IMem, Ib = I0 := ⟨I0, rfl⟩
  rw [← hIb]
  have f0 : ∀ q j, ¬ M q j → I0 q j = Ib q j := fun q j _ => by rw [hIb]
  clear hIb
  rcases of_ite hf with ⟨_, hf⟩ | ⟨_, hf⟩
  · cases hf; exact f0
  · rcases of_ite hf with ⟨_, hf⟩ | ⟨_, hf⟩
    · cases hf; exact f0
    · rcases of_ite hf with ⟨_, hf⟩ | ⟨_, hf⟩
      · cases hf; exact f0
      · rcases of_ite hf with ⟨_, hf⟩ | ⟨_, hf⟩
        · rcases of_ite hf with ⟨_, hf⟩ | ⟨_, hf⟩
          · cases hf; exact f0
          · cases hf; exact f0
        · rcases of_ite hf with ⟨_, hf⟩ | ⟨_, hf⟩
          · rcases of_ite hf with ⟨_, hf⟩ | ⟨_, hf⟩
            · cases hf; exact f0
            · cases hf; exact f0
          · rcases of_ite hf with ⟨_, hf⟩ | ⟨_, hf⟩
            · rcases of_ite hf with ⟨_, hf⟩ | ⟨_, hf⟩
              · cases hf; exact f0
              · cases hf; exact f0
            · rcases of_ite hf with ⟨_, hf⟩ | ⟨_, hf⟩
              · cases hf; exact f0
              · cases hf; exact f0
theorem fc_X_comesTo_6 (M : Nat → Nat → Prop) (fu : Nat) {r : Int × IMem} {Ib : IMem} (o0 : Nat) (p1 : Int) (p3 : Int) (m_o0_7 : ∀ j, M (o0 + 7) j) : ∀ (m : Nat) (w4 : Int) (w5 : Int) (I0 : IMem), (∀ q j, ¬ M q j → I0 q j = Ib q j) → f_X_comesTo_6 fu o0 p1 p3 m w4 w5 I0 = some r → ∀ q j, ¬ M q j → r.2 q j = Ib q j := by
  intro m
  induction m with
  | zero => intro w4 w5 I0 _ hf; cases hf
  | succ m hR_ =>
    intro w4 w5 I0 fI0 hf
    replace hf : fb_X_comesTo_6 fu o0 p1 p3 (f_X_comesTo_6 fu o0 p1 p3 m) w4 w5 I0 = some r := hf
    unfold fb_X_comesTo_6 at hf
    rcases of_ite hf with ⟨_, hf⟩ | ⟨_, hf⟩
    · obtain ⟨x1, -, hf⟩ := of_zl hf
      obtain ⟨g_1, hf⟩ := of_zg hf
      obtain ⟨x2, -, hf⟩ := of_zl hf
      obtain ⟨x3, -, hf⟩ := of_zl hf
      obtain ⟨g_2, hf⟩ := of_zg hf
      obtain ⟨x4, -, hf⟩ := of_zl hf
      obtain ⟨k5, ek5, hf⟩ := of_zj hf
      have hk5 : ∀ (x7 : Int) (I6 : IMem), (∀ q j, ¬ M q j → I6 q j = Ib q j) → k5 x7 I6 = some r → ∀ q j, ¬ M q j → r.2 q j = Ib q j := by
        intro x7 I6 fI6 hf
        subst ek5
        obtain ⟨x8, -, hf⟩ := of_zl hf
        exact hR_ x7 x8 I6 fI6 hf
      rcases of_ite hf with ⟨_, hf⟩ | ⟨_, hf⟩
      · obtain ⟨k21, ek21, hf⟩ := of_zj hf
        have hk21 : ∀ (x23 : Int) (I22 : IMem), (∀ q j, ¬ M q j → I22 q j = Ib q j) → k21 x23 I22 = some r → ∀ q j, ¬ M q j → r.2 q j = Ib q j := by
          intro x23 I22 fI22 hf
          subst ek21
          obtain ⟨g_3, hf⟩ := of_zg hf
          obtain ⟨I24, fI24, hf⟩ := fcz_w (m_o0_7 _) fI22 hf
          obtain ⟨x25, -, hf⟩ := of_zl hf
          exact hk5 x25 I24 fI24 hf
        rcases of_ite hf with ⟨_, hf⟩ | ⟨_, hf⟩
        · exact hk21 x4 I0 fI0 hf
        · obtain ⟨g_4, hf⟩ := of_zg hf
          exact hk21 (I0 (o0 + 8) x2.toNat) I0 fI0 hf
      · rcases of_ite hf with ⟨_, hf⟩ | ⟨_, hf⟩
        · obtain ⟨x19, -, hf⟩ := of_zl hf
          obtain ⟨g_5, hf⟩ := of_zg hf
          obtain ⟨g_6, hf⟩ := of_zg hf
          obtain ⟨g_7, hf⟩ := of_zg hf
          obtain ⟨I20, fI20, hf⟩ := fcz_w (m_o0_7 _) fI0 hf
          exact hk5 w4 I20 fI20 hf
        · rcases of_ite hf with ⟨_, hf⟩ | ⟨_, hf⟩
          · obtain ⟨x16, -, hf⟩ := of_zl hf
            obtain ⟨g_8, hf⟩ := of_zg hf
            obtain ⟨x18, -, hf⟩ := of_zl hf
            obtain ⟨g_9, hf⟩ := of_zg hf
            obtain ⟨I17, fI17, hf⟩ := fcz_w (m_o0_7 _) fI0 hf
            exact hk5 w4 I17 fI17 hf
          · obtain ⟨x9, -, hf⟩ := of_zl hf
            obtain ⟨x10, -, hf⟩ := of_zl hf
            obtain ⟨g_10, hf⟩ := of_zg hf
            obtain ⟨g_11, hf⟩ := of_zg hf
            obtain ⟨y11, I12, c_12, hf⟩ := of_zb hf
            have fI12 := fcz_t (fc_X_both M fu x2 (I0 (o0 + 7) x10.toNat) (I0 (o0 + 7) x9.toNat) I0 c_12) fI0
            obtain ⟨x15, -, hf⟩ := of_zl hf
            obtain ⟨g_13, hf⟩ := of_zg hf
            obtain ⟨I14, fI14, hf⟩ := fcz_w (m_o0_7 _) fI12 hf
            exact hk5 x9 I14 fI14 hf
    · cases hf; exact fI0
theorem fc_X_comesTo (M : Nat → Nat → Prop) (fu : Nat) (o0 : Nat) (a1 : Int) (a2 : Int) (a3 : Int) (I0 : IMem) {r : Int × IMem} (m_o0_7 : ∀ j, M (o0 + 7) j) (hf : f_X_comesTo fu o0 a1 a2 a3 I0 = some r) : ∀ q j, ¬ M q j → r.2 q j = I0 q j := by
  unfold f_X_comesTo at hf
  obtain ⟨Ib, hIb⟩ : ∃ Ib : IMem, Ib = I0 := ⟨I0, rfl⟩
  rw [← hIb]
  have f0 : ∀ q j, ¬ M q j → I0 q j = Ib q j := fun q j _ => by rw [hIb]
  clear hIb
  refine fc_X_comesTo_6 M fu o0 a1 a3 m_o0_7 fu 0 a2 I0 f0 hf
theorem fc_X_firstLine_2 (M : Nat → Nat → Prop) (fu : Nat) {r : Int × IMem} {Ib : IMem} (o0 : Nat) (p1 : Int) (m_o0_7 : ∀ j, M (o0 + 7) j) : ∀ (m : Nat) (w2 : Int) (I0 : IMem), (∀ q j, ¬ M q j → I0 q j = Ib q j) → f_X_firstLine_2 fu o0 p1 m w2 I0 = some r → ∀ q j, ¬ M q j → r.2 q j = Ib q j := by
  intro m
  induction m with
  | zero => intro w2 I0 _ hf; cases hf
  | succ m hR_ =>
    intro w2 I0 fI0 hf
    replace hf : fb_X_firstLine_2 fu o0 p1 (f_X_firstLine_2 fu o0 p1 m) w2 I0 = some r := hf
    unfold fb_X_firstLine_2 at hf
    obtain ⟨x1, -, hf⟩ := of_zl hf
    obtain ⟨g_1, hf⟩ := of_zg hf
    rcases of_ite hf with ⟨_, hf⟩ | ⟨_, hf⟩
    · obtain ⟨x2, -, hf⟩ := of_zl hf
      obtain ⟨x3, -, hf⟩ := of_zl hf
      obtain ⟨g_2, hf⟩ := of_zg hf
      obtain ⟨x4, -, hf⟩ := of_zl hf
      obtain ⟨g_3, hf⟩ := of_zg hf
      rcases of_ite hf with ⟨_, hf⟩ | ⟨_, hf⟩
      · cases hf; exact fI0
      · obtain ⟨x5, -, hf⟩ := of_zl hf
        obtain ⟨g_4, hf⟩ := of_zg hf
        obtain ⟨x6, -, hf⟩ := of_zl hf
        obtain ⟨g_5, hf⟩ := of_zg hf
        obtain ⟨y7, I8, c_6, hf⟩ := of_zb hf
        have fI8 := fcz_t (fc_X_comesTo M fu o0 p1 (I0 (o0 + 1) x5.toNat) (I0 (o0 + 1) x6.toNat) I0 m_o0_7 c_6) fI0
        rcases of_ite hf with ⟨_, hf⟩ | ⟨_, hf⟩
        · cases hf; exact fI8
        · obtain ⟨x10, -, hf⟩ := of_zl hf
          exact hR_ x10 I8 fI8 hf
    · cases hf; exact fI0
theorem fc_X_firstLine (M : Nat → Nat → Prop) (fu : Nat) (o0 : Nat) (a1 : Int) (I0 : IMem) {r : Int × IMem} (m_o0_7 : ∀ j, M (o0 + 7) j) (hf : f_X_firstLine fu o0 a1 I0 = some r) : ∀ q j, ¬ M q j → r.2 q j = I0 q j := by
  unfold f_X_firstLine at hf
  obtain ⟨Ib, hIb⟩ : ∃ Ib : IMem, Ib = I0 := ⟨I0, rfl⟩
  rw [← hIb]
  have f0 : ∀ q j, ¬ M q j → I0 q j = Ib q j := fun q j _ => by rw [hIb]
  clear hIb
  refine fc_X_firstLine_2 M fu o0 a1 m_o0_7 fu 0 I0 f0 hf
theorem fc_X_lineFor_38 (M : Nat → Nat → Prop) (fu : Nat) {r : Int × IMem} {Ib : IMem} (k_82 : Int → IMem → Res) (o0 : Nat) (p1 : Int) (p2 : Int) (hk_82 : ∀ (z0 : Int) (I9 : IMem), (∀ q j, ¬ M q j → I9 q j = Ib q j) → k_82 z0 I9 = some r → ∀ q j, ¬ M q j → r.2 q j = Ib q j) : ∀ (m : Nat) (w3 : Int) (w4 : Int) (I0 : IMem), (∀ q j, ¬ M q j → I0 q j = Ib q j) → f_X_lineFor_38 fu k_82 o0 p1 p2 m w3 w4 I0 = some r → ∀ q j, ¬ M q j → r.2 q j = Ib q j := by
  intro m
  induction m with
  | zero => intro w3 w4 I0 _ hf; cases hf
  | succ m hR_ =>
    intro w3 w4 I0 fI0 hf
    replace hf : fb_X_lineFor_38 fu k_82 o0 p1 p2 (f_X_lineFor_38 fu k_82 o0 p1 p2 m) w3 w4 I0 = some r := hf
    unfold fb_X_lineFor_38 at hf
    rcases of_ite hf with ⟨_, hf⟩ | ⟨_, hf⟩
    · obtain ⟨x1, -, hf⟩ := of_zl hf
      obtain ⟨g_1, hf⟩ := of_zg hf
      obtain ⟨x2, -, hf⟩ := of_zl hf
      obtain ⟨g_2, hf⟩ := of_zg hf
      obtain ⟨k3, ek3, hf⟩ := of_zj hf
      have hk3 : ∀ (x5 : Int) (I4 : IMem), (∀ q j, ¬ M q j → I4 q j = Ib q j) → k3 x5 I4 = some r → ∀ q j, ¬ M q j → r.2 q j = Ib q j := by
        intro x5 I4 fI4 hf
        subst ek3
        obtain ⟨x6, -, hf⟩ := of_zl hf
        exact hR_ x5 x6 I4 fI4 hf
      rcases of_ite hf with ⟨_, hf⟩ | ⟨_, hf⟩
      · exact hk3 w4 I0 fI0 hf
      · exact hk3 w3 I0 fI0 hf
    · exact hk_82 w3 I0 fI0 hf
theorem fc_X_lineFor (M : Nat → Nat → Prop) (fu : Nat) (o0 : Nat) (a1 : Int) (a2 : Int) (I0 : IMem) {r : Int × IMem} (m_o0_7 : ∀ j, M (o0 + 7) j) (m_o0_8c1 : M (o0 + 8) 1) (m_o0_8c7 : M (o0 + 8) 7) (m_o0_8c10 : M (o0 + 8) 10) (m_o0_8c11 : M (o0 + 8) 11) (hf : f_X_lineFor fu o0 a1 a2 I0 = some r) : ∀ q j, ¬ M q j → r.2 q j = I0 q j := by
  unfold f_X_lineFor at hf
  obtain ⟨Ib, hIb⟩ : ∃ Ib : IMem, Ib = I0 := ⟨I0, rfl⟩
  rw [← hIb]
  have f0 : ∀ q j, ¬ M q j → I0 q j = Ib q j := fun q j _ => by rw [hIb]
  clear hIb
  rcases of_ite hf with ⟨_, hf⟩ | ⟨_, hf⟩
  · refine fc_X_lineFor_38 M fu _ o0 a1 a2 ?_ fu 0 1 I0 f0 hf
    · intro x8 I7 fI7 hf
      obtain ⟨I9, fI9, hf⟩ := fcz_w m_o0_8c1 fI7 hf
      obtain ⟨I10, fI10, hf⟩ := fcz_w m_o0_8c7 fI9 hf
      obtain ⟨I11, fI11, hf⟩ := fcz_w m_o0_8c10 fI10 hf
      obtain ⟨I12, fI12, hf⟩ := fcz_w m_o0_8c11 fI11 hf
      obtain ⟨y13, I14, c_1, hf⟩ := of_zb hf
      have fI14 := fcz_t (fc_X_firstLine M fu o0 4 I12 m_o0_7 c_1) fI12
      rcases of_ite hf with ⟨_, hf⟩ | ⟨_, hf⟩
      · cases hf; exact fI14
      · obtain ⟨x16, -, hf⟩ := of_zl hf
        obtain ⟨g_2, hf⟩ := of_zg hf
        cases hf; exact fI14
  · rcases of_ite hf with ⟨_, hf⟩ | ⟨_, hf⟩
    · rcases of_ite hf with ⟨_, hf⟩ | ⟨_, hf⟩
      · cases hf; exact f0
      · cases hf; exact f0
    · cases hf; exact f0
theorem fc_X_cell (M : Nat → Nat → Prop) (fu : Nat) (a0 : Int) (a1 : Int) (I0 : IMem) {r : Int × IMem} (hf : f_X_cell fu a0 a1 I0 = some r) : ∀ q j, ¬ M q j → r.2 q j = I0 q j := by
  unfold f_X_cell at hf
  obtain ⟨Ib, hIb⟩ : ∃ Ib : IMem, Ib = I0 := ⟨I0, rfl⟩
  rw [← hIb]
  have f0 : ∀ q j, ¬ M q j → I0 q j = Ib q j := fun q j _ => by rw [hIb]
  clear hIb
  cases hf; exact f0
theorem fc_X_stands (M : Nat → Nat → Prop) (fu : Nat) (o0 : Nat) (a1 : Int) (a2 : Int) (a3 : Int) (a4 : Int) (a5 : Int) (a6 : Int) (a7 : Int) (I0 : IMem) {r : Int × IMem} (m_o0_1 : ∀ j, M (o0 + 1) j) (m_o0_0c24 : M o0 24) (hf : f_X_stands fu o0 a1 a2 a3 a4 a5 a6 a7 I0 = some r) : ∀ q j, ¬ M q j → r.2 q j = I0 q j := by
  unfold f_X_stands at hf
  obtain ⟨Ib, hIb⟩ : ∃ Ib : IMem, Ib = I0 := ⟨I0, rfl⟩
  rw [← hIb]
  have f0 : ∀ q j, ¬ M q j → I0 q j = Ib q j := fun q j _ => by rw [hIb]
  clear hIb
  obtain ⟨x1, -, hf⟩ := of_zl hf
  obtain ⟨g_1, hf⟩ := of_zg hf
  rcases of_ite hf with ⟨_, hf⟩ | ⟨_, hf⟩
  · obtain ⟨I20, fI20, hf⟩ := fcz_w (m_o0_1 76) f0 hf
    obtain ⟨k21, ek21, hf⟩ := of_zj hf
    have hk21 : ∀ (x23 : Int) (I22 : IMem), (∀ q j, ¬ M q j → I22 q j = Ib q j) → k21 x23 I22 = some r → ∀ q j, ¬ M q j → r.2 q j = Ib q j := by
      intro x23 I22 fI22 hf
      subst ek21
      obtain ⟨g_2, hf⟩ := of_zg hf
      obtain ⟨I24, fI24, hf⟩ := fcz_w m_o0_0c24 fI22 hf
      cases hf; exact fI24
    rcases of_ite hf with ⟨_, hf⟩ | ⟨_, hf⟩
    · rcases of_ite hf with ⟨_, hf⟩ | ⟨_, hf⟩
      · exact hk21 1 I20 fI20 hf
      · exact hk21 0 I20 fI20 hf
    · exact hk21 1 I20 fI20 hf
  · obtain ⟨x2, -, hf⟩ := of_zl hf
    obtain ⟨g_3, hf⟩ := of_zg hf
    obtain ⟨y3, I4, c_4, hf⟩ := of_zb hf
    have fI4 := fcz_t (fc_X_cell M fu a1 (I0 (o0 + 1) x2.toNat) I0 c_4) f0
    obtain ⟨x7, -, hf⟩ := of_zl hf
    obtain ⟨g_5, hf⟩ := of_zg hf
    obtain ⟨I6, fI6, hf⟩ := fcz_w (m_o0_1 _) fI4 hf
    obtain ⟨x9, -, hf⟩ := of_zl hf
    obtain ⟨g_6, hf⟩ := of_zg hf
    obtain ⟨I8, fI8, hf⟩ := fcz_w (m_o0_1 _) fI6 hf
    obtain ⟨x11, -, hf⟩ := of_zl hf
    obtain ⟨g_7, hf⟩ := of_zg hf
    obtain ⟨I10, fI10, hf⟩ := fcz_w (m_o0_1 _) fI8 hf
    obtain ⟨x13, -, hf⟩ := of_zl hf
    obtain ⟨g_8, hf⟩ := of_zg hf
    obtain ⟨I12, fI12, hf⟩ := fcz_w (m_o0_1 _) fI10 hf
    obtain ⟨x15, -, hf⟩ := of_zl hf
    obtain ⟨g_9, hf⟩ := of_zg hf
    obtain ⟨I14, fI14, hf⟩ := fcz_w (m_o0_1 _) fI12 hf
    obtain ⟨x17, -, hf⟩ := of_zl hf
    obtain ⟨g_10, hf⟩ := of_zg hf
    obtain ⟨I16, fI16, hf⟩ := fcz_w (m_o0_1 _) fI14 hf
    obtain ⟨x18, -, hf⟩ := of_zl hf
    obtain ⟨g_11, hf⟩ := of_zg hf
    obtain ⟨g_12, hf⟩ := of_zg hf
    obtain ⟨I19, fI19, hf⟩ := fcz_w (m_o0_1 _) fI16 hf
    cases hf; exact fI19
theorem fc_X_comes (M : Nat → Nat → Prop) (fu : Nat) (o0 : Nat) (a1 : Int) (a2 : Int) (a3 : Int) (I0 : IMem) {r : Int × IMem} (m_o0_1 : ∀ j, M (o0 + 1) j) (m_o0_7 : ∀ j, M (o0 + 7) j) (m_o0_0c24 : M o0 24) (m_o0_8c1 : M (o0 + 8) 1) (m_o0_8c7 : M (o0 + 8) 7) (m_o0_8c10 : M (o0 + 8) 10) (m_o0_8c11 : M (o0 + 8) 11) (hf : f_X_comes fu o0 a1 a2 a3 I0 = some r) : ∀ q j, ¬ M q j → r.2 q j = I0 q j := by
  unfold f_X_comes at hf
  obtain ⟨Ib, hIb⟩ : ∃ Ib : IMem, Ib = I0 := ⟨I0, rfl⟩
  rw [← hIb]
  have f0 : ∀ q j, ¬ M q j → I0 q j = Ib q j := fun q j _ => by rw [hIb]
  clear hIb
  obtain ⟨y1, I2, c_1, hf⟩ := of_zb hf
  have fI2 := fcz_t (fc_X_lineFor M fu o0 a2 a3 I0 m_o0_7 m_o0_8c1 m_o0_8c7 m_o0_8c10 m_o0_8c11 c_1) f0
  obtain ⟨I4, fI4, hf⟩ := fcz_w (m_o0_1 7) fI2 hf
  obtain ⟨y5, I6, c_2, hf⟩ := of_zb hf
  have fI6 := fcz_t (fc_X_stands M fu o0 y1 (wr32 ((I4 (o0 + 1) 7) - 1)) a1 a2 a3 0 0 I4 m_o0_1 m_o0_0c24 c_2) fI4
  rcases of_ite hf with ⟨_, hf⟩ | ⟨_, hf⟩
  · cases hf; exact fI6
  · cases hf; exact fI6
theorem fc_X_come (M : Nat → Nat → Prop) (fu : Nat) (o0 : Nat) (a1 : Int) (a2 : Int) (a3 : Int) (I0 : IMem) {r : Int × IMem} (m_o0_1 : ∀ j, M (o0 + 1) j) (m_o0_7 : ∀ j, M (o0 + 7) j) (m_o0_0c24 : M o0 24) (m_o0_8c1 : M (o0 + 8) 1) (m_o0_8c7 : M (o0 + 8) 7) (m_o0_8c10 : M (o0 + 8) 10) (m_o0_8c11 : M (o0 + 8) 11) (hf : f_X_come fu o0 a1 a2 a3 I0 = some r) : ∀ q j, ¬ M q j → r.2 q j = I0 q j := by
  unfold f_X_come at hf
  obtain ⟨Ib, hIb⟩ : ∃ Ib : IMem, Ib = I0 := ⟨I0, rfl⟩
  rw [← hIb]
  have f0 : ∀ q j, ¬ M q j → I0 q j = Ib q j := fun q j _ => by rw [hIb]
  clear hIb
  obtain ⟨y1, I2, c_1, hf⟩ := of_zb hf
  have fI2 := fcz_t (fc_X_isGroup M fu a1 a2 a3 I0 c_1) f0
  rcases of_ite hf with ⟨_, hf⟩ | ⟨_, hf⟩
  · cases hf; exact fI2
  · obtain ⟨y4, I5, c_2, hf⟩ := of_zb hf
    have fI5 := fcz_t (fc_X_comes M fu o0 a1 a2 a3 I2 m_o0_1 m_o0_7 m_o0_0c24 m_o0_8c1 m_o0_8c7 m_o0_8c10 m_o0_8c11 c_2) fI2
    cases hf; exact fI5
theorem fc_X_of (M : Nat → Nat → Prop) (fu : Nat) (o0 : Nat) (a1 : Int) (a2 : Int) (a3 : Int) (I0 : IMem) {r : Int × IMem} (hf : f_X_of fu o0 a1 a2 a3 I0 = some r) : ∀ q j, ¬ M q j → r.2 q j = I0 q j := by
  unfold f_X_of at hf
  obtain ⟨Ib, hIb⟩ : ∃ Ib : IMem, Ib = I0 := ⟨I0, rfl⟩
  rw [← hIb]
  have f0 : ∀ q j, ¬ M q j → I0 q j = Ib q j := fun q j _ => by rw [hIb]
  clear hIb
  obtain ⟨y1, I2, c_1, hf⟩ := of_zb hf
  have fI2 := fcz_t (fc_X_cell M fu a1 a2 I0 c_1) f0
  obtain ⟨x4, -, hf⟩ := of_zl hf
  obtain ⟨g_2, hf⟩ := of_zg hf
  cases hf; exact fI2
theorem fc_X_worth (M : Nat → Nat → Prop) (fu : Nat) (o0 : Nat) (a1 : Int) (a2 : Int) (a3 : Int) (a4 : Int) (I0 : IMem) {r : Int × IMem} (m_o0_7 : ∀ j, M (o0 + 7) j) (m_o0_8c1 : M (o0 + 8) 1) (m_o0_8c2 : M (o0 + 8) 2) (m_o0_8c3 : M (o0 + 8) 3) (m_o0_8c4 : M (o0 + 8) 4) (m_o0_8c5 : M (o0 + 8) 5) (m_o0_8c6 : M (o0 + 8) 6) (m_o0_8c7 : M (o0 + 8) 7) (m_o0_8c8 : M (o0 + 8) 8) (m_o0_8c9 : M (o0 + 8) 9) (hf : f_X_worth fu o0 a1 a2 a3 a4 I0 = some r) : ∀ q j, ¬ M q j → r.2 q j = I0 q j := by
  unfold f_X_worth at hf
  obtain ⟨Ib, hIb⟩ : ∃ Ib : IMem, Ib = I0 := ⟨I0, rfl⟩
  rw [← hIb]
  have f0 : ∀ q j, ¬ M q j → I0 q j = Ib q j := fun q j _ => by rw [hIb]
  clear hIb
  obtain ⟨x1, -, hf⟩ := of_zl hf
  obtain ⟨y2, I3, c_1, hf⟩ := of_zb hf
  have fI3 := fcz_t (fc_X_of M fu o0 a1 a2 2 I0 c_1) f0
  obtain ⟨I5, fI5, hf⟩ := fcz_w m_o0_8c1 fI3 hf
  obtain ⟨I6, fI6, hf⟩ := fcz_w m_o0_8c2 fI5 hf
  obtain ⟨I7, fI7, hf⟩ := fcz_w m_o0_8c3 fI6 hf
  obtain ⟨I8, fI8, hf⟩ := fcz_w m_o0_8c4 fI7 hf
  obtain ⟨y9, I10, c_2, hf⟩ := of_zb hf
  have fI10 := fcz_t (fc_X_of M fu o0 a1 a2 5 I8 c_2) fI8
  obtain ⟨I12, fI12, hf⟩ := fcz_w m_o0_8c5 fI10 hf
  obtain ⟨y13, I14, c_3, hf⟩ := of_zb hf
  have fI14 := fcz_t (fc_X_of M fu o0 a1 a2 4 I12 c_3) fI12
  obtain ⟨I16, fI16, hf⟩ := fcz_w m_o0_8c6 fI14 hf
  obtain ⟨y17, I18, c_4, hf⟩ := of_zb hf
  have fI18 := fcz_t (fc_X_of M fu o0 a1 a2 3 I16 c_4) fI16
  obtain ⟨I20, fI20, hf⟩ := fcz_w m_o0_8c7 fI18 hf
  obtain ⟨I21, fI21, hf⟩ := fcz_w m_o0_8c8 fI20 hf
  obtain ⟨x22, -, hf⟩ := of_zl hf
  obtain ⟨g_5, hf⟩ := of_zg hf
  obtain ⟨I23, fI23, hf⟩ := fcz_w m_o0_8c9 fI21 hf
  obtain ⟨y24, I25, c_6, hf⟩ := of_zb hf
  have fI25 := fcz_t (fc_X_firstLine M fu o0 x1 I23 m_o0_7 c_6) fI23
  rcases of_ite hf with ⟨_, hf⟩ | ⟨_, hf⟩
  · cases hf; exact fI25
  · obtain ⟨x27, -, hf⟩ := of_zl hf
    obtain ⟨g_7, hf⟩ := of_zg hf
    obtain ⟨x28, -, hf⟩ := of_zl hf
    obtain ⟨g_8, hf⟩ := of_zg hf
    obtain ⟨y29, I30, c_9, hf⟩ := of_zb hf
    have fI30 := fcz_t (fc_X_comesTo M fu o0 x1 (I25 (o0 + 1) x27.toNat) (I25 (o0 + 1) x28.toNat) I25 m_o0_7 c_9) fI25
    cases hf; exact fI30
theorem fc_X_group (M : Nat → Nat → Prop) (fu : Nat) (o0 : Nat) (a1 : Int) (a2 : Int) (a3 : Int) (I0 : IMem) {r : Int × IMem} (m_o0_7 : ∀ j, M (o0 + 7) j) (m_o0_8c1 : M (o0 + 8) 1) (m_o0_8c2 : M (o0 + 8) 2) (m_o0_8c3 : M (o0 + 8) 3) (m_o0_8c4 : M (o0 + 8) 4) (m_o0_8c5 : M (o0 + 8) 5) (m_o0_8c6 : M (o0 + 8) 6) (m_o0_8c7 : M (o0 + 8) 7) (m_o0_8c8 : M (o0 + 8) 8) (m_o0_8c9 : M (o0 + 8) 9) (hf : f_X_group fu o0 a1 a2 a3 I0 = some r) : ∀ q j, ¬ M q j → r.2 q j = I0 q j := by
  unfold f_X_group at hf
  obtain ⟨Ib, hIb⟩ : ∃ Ib : IMem, Ib = I0 := ⟨I0, rfl⟩
  rw [← hIb]
  have f0 : ∀ q j, ¬ M q j → I0 q j = Ib q j := fun q j _ => by rw [hIb]
  clear hIb
  obtain ⟨y1, I2, c_1, hf⟩ := of_zb hf
  have fI2 := fcz_t (fc_X_isLine M fu a1 I0 c_1) f0
  rcases of_ite hf with ⟨_, hf⟩ | ⟨_, hf⟩
  · cases hf; exact fI2
  · obtain ⟨y4, I5, c_2, hf⟩ := of_zb hf
    have fI5 := fcz_t (fc_X_isIn M fu a2 0 39 I2 c_2) fI2
    rcases of_ite hf with ⟨_, hf⟩ | ⟨_, hf⟩
    · cases hf; exact fI5
    · obtain ⟨y7, I8, c_3, hf⟩ := of_zb hf
      have fI8 := fcz_t (fc_X_isIn M fu a3 0 6 I5 c_3) fI5
      rcases of_ite hf with ⟨_, hf⟩ | ⟨_, hf⟩
      · cases hf; exact fI8
      · obtain ⟨x10, -, hf⟩ := of_zl hf
        obtain ⟨g_4, hf⟩ := of_zg hf
        rcases of_ite hf with ⟨_, hf⟩ | ⟨_, hf⟩
        · rcases of_ite hf with ⟨_, hf⟩ | ⟨_, hf⟩
          · obtain ⟨y14, I15, c_5, hf⟩ := of_zb hf
            have fI15 := fcz_t (fc_X_worth M fu o0 a1 a2 (I8 (o0 + 1) 1) 0 I8 m_o0_7 m_o0_8c1 m_o0_8c2 m_o0_8c3 m_o0_8c4 m_o0_8c5 m_o0_8c6 m_o0_8c7 m_o0_8c8 m_o0_8c9 c_5) fI8
            cases hf; exact fI15
          · obtain ⟨y11, I12, c_6, hf⟩ := of_zb hf
            have fI12 := fcz_t (fc_X_of M fu o0 a1 a2 a3 I8 c_6) fI8
            cases hf; exact fI12
        · cases hf; exact fI8
theorem fc_X_line_23 (M : Nat → Nat → Prop) (fu : Nat) {r : Int × IMem} {Ib : IMem} (k_55 : Int → IMem → Res) (o0 : Nat) (p1 : Int) (p2 : Int) (hk_55 : ∀ (z0 : Int) (I9 : IMem), (∀ q j, ¬ M q j → I9 q j = Ib q j) → k_55 z0 I9 = some r → ∀ q j, ¬ M q j → r.2 q j = Ib q j) : ∀ (m : Nat) (w3 : Int) (w4 : Int) (I0 : IMem), (∀ q j, ¬ M q j → I0 q j = Ib q j) → f_X_line_23 fu k_55 o0 p1 p2 m w3 w4 I0 = some r → ∀ q j, ¬ M q j → r.2 q j = Ib q j := by
  intro m
  induction m with
  | zero => intro w3 w4 I0 _ hf; cases hf
  | succ m hR_ =>
    intro w3 w4 I0 fI0 hf
    replace hf : fb_X_line_23 fu k_55 o0 p1 p2 (f_X_line_23 fu k_55 o0 p1 p2 m) w3 w4 I0 = some r := hf
    unfold fb_X_line_23 at hf
    obtain ⟨x7, -, hf⟩ := of_zl hf
    obtain ⟨g_1, hf⟩ := of_zg hf
    rcases of_ite hf with ⟨_, hf⟩ | ⟨_, hf⟩
    · obtain ⟨y8, I9, c_2, hf⟩ := of_zb hf
      have fI9 := fcz_t (fc_X_of M fu o0 p1 w4 1 I0 c_2) fI0
      obtain ⟨x11, -, hf⟩ := of_zl hf
      obtain ⟨x12, -, hf⟩ := of_zl hf
      exact hR_ x11 x12 I9 fI9 hf
    · exact hk_55 w3 I0 fI0 hf
theorem fc_X_line (M : Nat → Nat → Prop) (fu : Nat) (o0 : Nat) (a1 : Int) (a2 : Int) (I0 : IMem) {r : Int × IMem} (hf : f_X_line fu o0 a1 a2 I0 = some r) : ∀ q j, ¬ M q j → r.2 q j = I0 q j := by
  unfold f_X_line at hf
  obtain ⟨Ib, hIb⟩ : ∃ Ib : IMem, Ib = I0 := ⟨I0, rfl⟩
  rw [← hIb]
  have f0 : ∀ q j, ¬ M q j → I0 q j = Ib q j := fun q j _ => by rw [hIb]
  clear hIb
  obtain ⟨y1, I2, c_1, hf⟩ := of_zb hf
  have fI2 := fcz_t (fc_X_isLine M fu a1 I0 c_1) f0
  rcases of_ite hf with ⟨_, hf⟩ | ⟨_, hf⟩
  · cases hf; exact fI2
  · obtain ⟨y4, I5, c_2, hf⟩ := of_zb hf
    have fI5 := fcz_t (fc_X_isIn M fu a2 0 1 I2 c_2) fI2
    rcases of_ite hf with ⟨_, hf⟩ | ⟨_, hf⟩
    · cases hf; exact fI5
    · refine fc_X_line_23 M fu _ o0 a1 a2 ?_ fu 0 0 I5 fI5 hf
      · intro x14 I13 fI13 hf
        rcases of_ite hf with ⟨_, hf⟩ | ⟨_, hf⟩
        · obtain ⟨x15, -, hf⟩ := of_zl hf
          obtain ⟨g_3, hf⟩ := of_zg hf
          cases hf; exact fI13
        · cases hf; exact fI13
theorem fc_X_pick_74 (M : Nat → Nat → Prop) (fu : Nat) {r : Int × IMem} {Ib : IMem} (k_180 : Int → Int → Int → IMem → Res) (o0 : Nat) (p1 : Int) (p2 : Int) (hk_180 : ∀ (z0 : Int) (z1 : Int) (z2 : Int) (I9 : IMem), (∀ q j, ¬ M q j → I9 q j = Ib q j) → k_180 z0 z1 z2 I9 = some r → ∀ q j, ¬ M q j → r.2 q j = Ib q j) : ∀ (m : Nat) (w3 : Int) (w4 : Int) (w5 : Int) (w6 : Int) (I0 : IMem), (∀ q j, ¬ M q j → I0 q j = Ib q j) → f_X_pick_74 fu k_180 o0 p1 p2 m w3 w4 w5 w6 I0 = some r → ∀ q j, ¬ M q j → r.2 q j = Ib q j := by
  intro m
  induction m with
  | zero => intro w3 w4 w5 w6 I0 _ hf; cases hf
  | succ m hR_ =>
    intro w3 w4 w5 w6 I0 fI0 hf
    replace hf : fb_X_pick_74 fu k_180 o0 p1 p2 (f_X_pick_74 fu k_180 o0 p1 p2 m) w3 w4 w5 w6 I0 = some r := hf
    unfold fb_X_pick_74 at hf
    rcases of_ite hf with ⟨_, hf⟩ | ⟨_, hf⟩
    · obtain ⟨g_1, hf⟩ := of_zg hf
      obtain ⟨k11, ek11, hf⟩ := of_zj hf
      have hk11 : ∀ (x13 : Int) (x14 : Int) (x15 : Int) (I12 : IMem), (∀ q j, ¬ M q j → I12 q j = Ib q j) → k11 x13 x14 x15 I12 = some r → ∀ q j, ¬ M q j → r.2 q j = Ib q j := by
        intro x13 x14 x15 I12 fI12 hf
        subst ek11
        obtain ⟨x16, -, hf⟩ := of_zl hf
        exact hR_ x13 x14 x15 x16 I12 fI12 hf
      rcases of_ite hf with ⟨_, hf⟩ | ⟨_, hf⟩
      · exact hk11 w3 w4 w5 I0 fI0 hf
      · obtain ⟨x17, -, hf⟩ := of_zl hf
        obtain ⟨g_2, hf⟩ := of_zg hf
        obtain ⟨x18, -, hf⟩ := of_zl hf
        obtain ⟨x19, -, hf⟩ := of_zl hf
        obtain ⟨g_3, hf⟩ := of_zg hf
        obtain ⟨k20, ek20, hf⟩ := of_zj hf
        have hk20 : ∀ (x22 : Int) (I21 : IMem), (∀ q j, ¬ M q j → I21 q j = Ib q j) → k20 x22 I21 = some r → ∀ q j, ¬ M q j → r.2 q j = Ib q j := by
          intro x22 I21 fI21 hf
          subst ek20
          obtain ⟨x23, -, hf⟩ := of_zl hf
          obtain ⟨x24, -, hf⟩ := of_zl hf
          obtain ⟨g_4, hf⟩ := of_zg hf
          rcases of_ite hf with ⟨_, hf⟩ | ⟨_, hf⟩
          · obtain ⟨x25, -, hf⟩ := of_zl hf
            exact hk11 x18 x23 x25 I21 fI21 hf
          · obtain ⟨x26, -, hf⟩ := of_zl hf
            exact hk11 x18 x23 x26 I21 fI21 hf
        rcases of_ite hf with ⟨_, hf⟩ | ⟨_, hf⟩
        · exact hk20 1 I0 fI0 hf
        · exact hk20 0 I0 fI0 hf
    · exact hk_180 w3 w4 w5 I0 fI0 hf
theorem fc_X_pick (M : Nat → Nat → Prop) (fu : Nat) (o0 : Nat) (a1 : Int) (a2 : Int) (I0 : IMem) {r : Int × IMem} (m_o0_13 : ∀ j, M (o0 + 13) j) (m_o0_15 : ∀ j, M (o0 + 15) j) (m_o0_0c35 : M o0 35) (hf : f_X_pick fu o0 a1 a2 I0 = some r) : ∀ q j, ¬ M q j → r.2 q j = I0 q j := by
  unfold f_X_pick at hf
  obtain ⟨Ib, hIb⟩ : ∃ Ib : IMem, Ib = I0 := ⟨I0, rfl⟩
  rw [← hIb]
  have f0 : ∀ q j, ¬ M q j → I0 q j = Ib q j := fun q j _ => by rw [hIb]
  clear hIb
  obtain ⟨y1, I2, c_1, hf⟩ := of_zb hf
  have fI2 := fcz_t (fc_X_isLine M fu a1 I0 c_1) f0
  rcases of_ite hf with ⟨_, hf⟩ | ⟨_, hf⟩
  · cases hf; exact fI2
  · obtain ⟨x4, -, hf⟩ := of_zl hf
    obtain ⟨g_2, hf⟩ := of_zg hf
    obtain ⟨y5, I6, c_3, hf⟩ := of_zb hf
    have fI6 := fcz_t (fc_X_isIn M fu a2 0 (wr32 ((I2 (o0 + 1) x4.toNat) - 1)) I2 c_3) fI2
    rcases of_ite hf with ⟨_, hf⟩ | ⟨_, hf⟩
    · cases hf; exact fI6
    · obtain ⟨x8, -, hf⟩ := of_zl hf
      obtain ⟨g_4, hf⟩ := of_zg hf
      rcases of_ite hf with ⟨_, hf⟩ | ⟨_, hf⟩
      · obtain ⟨x9, -, hf⟩ := of_zl hf
        obtain ⟨g_5, hf⟩ := of_zg hf
        rcases of_ite hf with ⟨_, hf⟩ | ⟨_, hf⟩
        · obtain ⟨x10, -, hf⟩ := of_zl hf
          refine fc_X_pick_74 M fu _ o0 a1 a2 ?_ fu x10 0 0 0 I6 fI6 hf
          · intro x28 x29 x30 I27 fI27 hf
            obtain ⟨y31, I32, c_6, hf⟩ := of_zb hf
            have fI32 := fcz_t (fc_X_of M fu o0 a1 a2 1 I27 c_6) fI27
            rcases of_ite hf with ⟨_, hf⟩ | ⟨_, hf⟩
            · cases hf; exact fI32
            · obtain ⟨y34, I35, c_7, hf⟩ := of_zb hf
              have fI35 := fcz_t (fc_X_of M fu o0 a1 a2 3 I32 c_7) fI32
              obtain ⟨k37, ek37, hf⟩ := of_zj hf
              have hk37 : ∀  (I38 : IMem), (∀ q j, ¬ M q j → I38 q j = Ib q j) → k37 I38 = some r → ∀ q j, ¬ M q j → r.2 q j = Ib q j := by
                intro I38 fI38 hf
                subst ek37
                rcases of_ite hf with ⟨_, hf⟩ | ⟨_, hf⟩
                · cases hf; exact fI38
                · obtain ⟨y39, I40, c_8, hf⟩ := of_zb hf
                  have fI40 := fcz_t (fc_X_of M fu o0 a1 a2 3 I38 c_8) fI38
                  obtain ⟨k42, ek42, hf⟩ := of_zj hf
                  have hk42 : ∀  (I43 : IMem), (∀ q j, ¬ M q j → I43 q j = Ib q j) → k42 I43 = some r → ∀ q j, ¬ M q j → r.2 q j = Ib q j := by
                    intro I43 fI43 hf
                    subst ek42
                    obtain ⟨x45, -, hf⟩ := of_zl hf
                    obtain ⟨g_9, hf⟩ := of_zg hf
                    obtain ⟨I44, fI44, hf⟩ := fcz_w (m_o0_13 _) fI43 hf
                    obtain ⟨x47, -, hf⟩ := of_zl hf
                    obtain ⟨g_10, hf⟩ := of_zg hf
                    obtain ⟨I46, fI46, hf⟩ := fcz_w (m_o0_15 _) fI44 hf
                    obtain ⟨I48, fI48, hf⟩ := fcz_w m_o0_0c35 fI46 hf
                    cases hf; exact fI48
                  rcases of_ite hf with ⟨_, hf⟩ | ⟨_, hf⟩
                  · rcases of_ite hf with ⟨_, hf⟩ | ⟨_, hf⟩
                    · cases hf; exact fI40
                    · exact hk42 I40 fI40 hf
                  · exact hk42 I40 fI40 hf
              rcases of_ite hf with ⟨_, hf⟩ | ⟨_, hf⟩
              · rcases of_ite hf with ⟨_, hf⟩ | ⟨_, hf⟩
                · cases hf; exact fI35
                · exact hk37 I35 fI35 hf
              · exact hk37 I35 fI35 hf
        · cases hf; exact fI6
      · cases hf; exact fI6
theorem fc_X_begins_2 (M : Nat → Nat → Prop) (fu : Nat) {r : Int × IMem} {Ib : IMem} (k_29 : IMem → Res) (o0 : Nat) (m_o0_9 : ∀ j, M (o0 + 9) j) (m_o0_12 : ∀ j, M (o0 + 12) j) (hk_29 : ∀ (I9 : IMem), (∀ q j, ¬ M q j → I9 q j = Ib q j) → k_29 I9 = some r → ∀ q j, ¬ M q j → r.2 q j = Ib q j) : ∀ (m : Nat) (w1 : Int) (I0 : IMem), (∀ q j, ¬ M q j → I0 q j = Ib q j) → f_X_begins_2 fu k_29 o0 m w1 I0 = some r → ∀ q j, ¬ M q j → r.2 q j = Ib q j := by
  intro m
  induction m with
  | zero => intro w1 I0 _ hf; cases hf
  | succ m hR_ =>
    intro w1 I0 fI0 hf
    replace hf : fb_X_begins_2 fu k_29 o0 (f_X_begins_2 fu k_29 o0 m) w1 I0 = some r := hf
    unfold fb_X_begins_2 at hf
    rcases of_ite hf with ⟨_, hf⟩ | ⟨_, hf⟩
    · obtain ⟨g_1, hf⟩ := of_zg hf
      obtain ⟨I1, fI1, hf⟩ := fcz_w (m_o0_9 _) fI0 hf
      obtain ⟨g_2, hf⟩ := of_zg hf
      obtain ⟨I2, fI2, hf⟩ := fcz_w (m_o0_12 _) fI1 hf
      obtain ⟨x3, -, hf⟩ := of_zl hf
      exact hR_ x3 I2 fI2 hf
    · exact hk_29 I0 fI0 hf
theorem fc_X_begins (M : Nat → Nat → Prop) (fu : Nat) (o0 : Nat) (I0 : IMem) {r : Int × IMem} (m_o0_9 : ∀ j, M (o0 + 9) j) (m_o0_12 : ∀ j, M (o0 + 12) j) (m_o0_0c30 : M o0 30) (m_o0_0c31 : M o0 31) (m_o0_0c32 : M o0 32) (m_o0_0c33 : M o0 33) (m_o0_0c34 : M o0 34) (hf : f_X_begins fu o0 I0 = some r) : ∀ q j, ¬ M q j → r.2 q j = I0 q j := by
  unfold f_X_begins at hf
  obtain ⟨Ib, hIb⟩ : ∃ Ib : IMem, Ib = I0 := ⟨I0, rfl⟩
  rw [← hIb]
  have f0 : ∀ q j, ¬ M q j → I0 q j = Ib q j := fun q j _ => by rw [hIb]
  clear hIb
  refine fc_X_begins_2 M fu _ o0 m_o0_9 m_o0_12 ?_ fu 0 I0 f0 hf
  · intro I4 fI4 hf
    obtain ⟨I5, fI5, hf⟩ := fcz_w m_o0_0c30 fI4 hf
    obtain ⟨I6, fI6, hf⟩ := fcz_w m_o0_0c31 fI5 hf
    obtain ⟨I7, fI7, hf⟩ := fcz_w m_o0_0c32 fI6 hf
    obtain ⟨I8, fI8, hf⟩ := fcz_w m_o0_0c33 fI7 hf
    obtain ⟨I9, fI9, hf⟩ := fcz_w m_o0_0c34 fI8 hf
    cases hf; exact fI9
theorem fc_X_draw (M : Nat → Nat → Prop) (fu : Nat) (o0 : Nat) (a1 : Int) (I0 : IMem) {r : Int × IMem} (m_o0_1c0 : M (o0 + 1) 0) (hf : f_X_draw fu o0 a1 I0 = some r) : ∀ q j, ¬ M q j → r.2 q j = I0 q j := by
  unfold f_X_draw at hf
  obtain ⟨Ib, hIb⟩ : ∃ Ib : IMem, Ib = I0 := ⟨I0, rfl⟩
  rw [← hIb]
  have f0 : ∀ q j, ¬ M q j → I0 q j = Ib q j := fun q j _ => by rw [hIb]
  clear hIb
  obtain ⟨I1, fI1, hf⟩ := fcz_w m_o0_1c0 f0 hf
  obtain ⟨g_1, hf⟩ := of_zg hf
  cases hf; exact fI1
theorem fc_X_movesUp_16 (M : Nat → Nat → Prop) (fu : Nat) {r : Int × IMem} {Ib : IMem} (k_51 : Int → IMem → Res) (o0 : Nat) (p1 : Int) (p2 : Int) (hk_51 : ∀ (z0 : Int) (I9 : IMem), (∀ q j, ¬ M q j → I9 q j = Ib q j) → k_51 z0 I9 = some r → ∀ q j, ¬ M q j → r.2 q j = Ib q j) : ∀ (m : Nat) (w3 : Int) (w4 : Int) (I0 : IMem), (∀ q j, ¬ M q j → I0 q j = Ib q j) → f_X_movesUp_16 fu k_51 o0 p1 p2 m w3 w4 I0 = some r → ∀ q j, ¬ M q j → r.2 q j = Ib q j := by
  intro m
  induction m with
  | zero => intro w3 w4 I0 _ hf; cases hf
  | succ m hR_ =>
    intro w3 w4 I0 fI0 hf
    replace hf : fb_X_movesUp_16 fu k_51 o0 p1 p2 (f_X_movesUp_16 fu k_51 o0 p1 p2 m) w3 w4 I0 = some r := hf
    unfold fb_X_movesUp_16 at hf
    rcases of_ite hf with ⟨_, hf⟩ | ⟨_, hf⟩
    · obtain ⟨x3, -, hf⟩ := of_zl hf
      obtain ⟨g_1, hf⟩ := of_zg hf
      obtain ⟨k4, ek4, hf⟩ := of_zj hf
      have hk4 : ∀ (x6 : Int) (I5 : IMem), (∀ q j, ¬ M q j → I5 q j = Ib q j) → k4 x6 I5 = some r → ∀ q j, ¬ M q j → r.2 q j = Ib q j := by
        intro x6 I5 fI5 hf
        subst ek4
        obtain ⟨x7, -, hf⟩ := of_zl hf
        obtain ⟨x8, -, hf⟩ := of_zl hf
        exact hR_ x7 x8 I5 fI5 hf
      rcases of_ite hf with ⟨_, hf⟩ | ⟨_, hf⟩
      · exact hk4 1 I0 fI0 hf
      · exact hk4 0 I0 fI0 hf
    · exact hk_51 w3 I0 fI0 hf
theorem fc_X_movesUp_132 (M : Nat → Nat → Prop) (fu : Nat) {r : Int × IMem} {Ib : IMem} (k_164 : IMem → Res) (o0 : Nat) (p1 : Int) (p2 : Int) (p3 : Int) (p4 : Int) (p5 : Int) (p6 : Int) (p7 : Int) (m_o0_1 : ∀ j, M (o0 + 1) j) (hk_164 : ∀ (I9 : IMem), (∀ q j, ¬ M q j → I9 q j = Ib q j) → k_164 I9 = some r → ∀ q j, ¬ M q j → r.2 q j = Ib q j) : ∀ (m : Nat) (w8 : Int) (I0 : IMem), (∀ q j, ¬ M q j → I0 q j = Ib q j) → f_X_movesUp_132 fu k_164 o0 p1 p2 p3 p4 p5 p6 p7 m w8 I0 = some r → ∀ q j, ¬ M q j → r.2 q j = Ib q j := by
  intro m
  induction m with
  | zero => intro w8 I0 _ hf; cases hf
  | succ m hR_ =>
    intro w8 I0 fI0 hf
    replace hf : fb_X_movesUp_132 fu k_164 o0 p1 p2 p3 p4 p5 p6 p7 (f_X_movesUp_132 fu k_164 o0 p1 p2 p3 p4 p5 p6 p7 m) w8 I0 = some r := hf
    unfold fb_X_movesUp_132 at hf
    rcases of_ite hf with ⟨_, hf⟩ | ⟨_, hf⟩
    · obtain ⟨y26, I27, c_1, hf⟩ := of_zb hf
      have fI27 := fcz_t (fc_X_of M fu o0 p1 p5 w8 I0 c_1) fI0
      obtain ⟨x30, -, hf⟩ := of_zl hf
      obtain ⟨g_2, hf⟩ := of_zg hf
      obtain ⟨I29, fI29, hf⟩ := fcz_w (m_o0_1 _) fI27 hf
      obtain ⟨x31, -, hf⟩ := of_zl hf
      exact hR_ x31 I29 fI29 hf
    · exact hk_164 I0 fI0 hf
theorem fc_X_movesUp_57 (M : Nat → Nat → Prop) (fu : Nat) {r : Int × IMem} {Ib : IMem} (k_254 : Int → IMem → Res) (o0 : Nat) (p1 : Int) (p2 : Int) (m_o0_1 : ∀ j, M (o0 + 1) j) (hk_254 : ∀ (z0 : Int) (I9 : IMem), (∀ q j, ¬ M q j → I9 q j = Ib q j) → k_254 z0 I9 = some r → ∀ q j, ¬ M q j → r.2 q j = Ib q j) : ∀ (m : Nat) (w3 : Int) (w4 : Int) (w5 : Int) (I0 : IMem), (∀ q j, ¬ M q j → I0 q j = Ib q j) → f_X_movesUp_57 fu k_254 o0 p1 p2 m w3 w4 w5 I0 = some r → ∀ q j, ¬ M q j → r.2 q j = Ib q j := by
  intro m
  induction m with
  | zero => intro w3 w4 w5 I0 _ hf; cases hf
  | succ m hR_ =>
    intro w3 w4 w5 I0 fI0 hf
    replace hf : fb_X_movesUp_57 fu k_254 o0 p1 p2 (f_X_movesUp_57 fu k_254 o0 p1 p2 m) w3 w4 w5 I0 = some r := hf
    unfold fb_X_movesUp_57 at hf
    rcases of_ite hf with ⟨_, hf⟩ | ⟨_, hf⟩
    · obtain ⟨x11, -, hf⟩ := of_zl hf
      obtain ⟨g_1, hf⟩ := of_zg hf
      obtain ⟨k12, ek12, hf⟩ := of_zj hf
      have hk12 : ∀ (x14 : Int) (I13 : IMem), (∀ q j, ¬ M q j → I13 q j = Ib q j) → k12 x14 I13 = some r → ∀ q j, ¬ M q j → r.2 q j = Ib q j := by
        intro x14 I13 fI13 hf
        subst ek12
        obtain ⟨x15, -, hf⟩ := of_zl hf
        obtain ⟨g_2, hf⟩ := of_zg hf
        obtain ⟨k16, ek16, hf⟩ := of_zj hf
        have hk16 : ∀ (x18 : Int) (I17 : IMem), (∀ q j, ¬ M q j → I17 q j = Ib q j) → k16 x18 I17 = some r → ∀ q j, ¬ M q j → r.2 q j = Ib q j := by
          intro x18 I17 fI17 hf
          subst ek16
          obtain ⟨x19, -, hf⟩ := of_zl hf
          exact hR_ x15 x18 x19 I17 fI17 hf
        rcases of_ite hf with ⟨_, hf⟩ | ⟨_, hf⟩
        · obtain ⟨g_3, hf⟩ := of_zg hf
          obtain ⟨y20, I21, c_4, hf⟩ := of_zb hf
          have fI21 := fcz_t (fc_X_of M fu o0 p1 w5 1 I13 c_4) fI13
          rcases of_ite hf with ⟨_, hf⟩ | ⟨_, hf⟩
          · exact hk16 w4 I21 fI21 hf
          · obtain ⟨y23, I24, c_5, hf⟩ := of_zb hf
            have fI24 := fcz_t (fc_X_cell M fu p1 w4 I21 c_5) fI21
            refine fc_X_movesUp_132 M fu _ o0 p1 p2 x15 w4 w5 x11 y23 m_o0_1 ?_ fu 0 I24 fI24 hf
            · intro I32 fI32 hf
              obtain ⟨g_6, hf⟩ := of_zg hf
              obtain ⟨k33, ek33, hf⟩ := of_zj hf
              have hk33 : ∀  (I34 : IMem), (∀ q j, ¬ M q j → I34 q j = Ib q j) → k33 I34 = some r → ∀ q j, ¬ M q j → r.2 q j = Ib q j := by
                intro I34 fI34 hf
                subst ek33
                obtain ⟨x35, -, hf⟩ := of_zl hf
                obtain ⟨g_7, hf⟩ := of_zg hf
                obtain ⟨g_8, hf⟩ := of_zg hf
                obtain ⟨I36, fI36, hf⟩ := fcz_w (m_o0_1 _) fI34 hf
                obtain ⟨x37, -, hf⟩ := of_zl hf
                obtain ⟨g_9, hf⟩ := of_zg hf
                obtain ⟨k38, ek38, hf⟩ := of_zj hf
                have hk38 : ∀ (x40 : Int) (I39 : IMem), (∀ q j, ¬ M q j → I39 q j = Ib q j) → k38 x40 I39 = some r → ∀ q j, ¬ M q j → r.2 q j = Ib q j := by
                  intro x40 I39 fI39 hf
                  subst ek38
                  obtain ⟨g_10, hf⟩ := of_zg hf
                  obtain ⟨I41, fI41, hf⟩ := fcz_w (m_o0_1 _) fI39 hf
                  obtain ⟨x42, -, hf⟩ := of_zl hf
                  exact hk16 x42 I41 fI41 hf
                rcases of_ite hf with ⟨_, hf⟩ | ⟨_, hf⟩
                · exact hk38 1 I36 fI36 hf
                · exact hk38 0 I36 fI36 hf
              rcases of_ite hf with ⟨_, hf⟩ | ⟨_, hf⟩
              · obtain ⟨x43, -, hf⟩ := of_zl hf
                obtain ⟨g_11, hf⟩ := of_zg hf
                obtain ⟨g_12, hf⟩ := of_zg hf
                obtain ⟨g_13, hf⟩ := of_zg hf
                obtain ⟨I44, fI44, hf⟩ := fcz_w (m_o0_1 _) fI32 hf
                obtain ⟨x45, -, hf⟩ := of_zl hf
                obtain ⟨g_14, hf⟩ := of_zg hf
                obtain ⟨x47, -, hf⟩ := of_zl hf
                obtain ⟨g_15, hf⟩ := of_zg hf
                obtain ⟨I46, fI46, hf⟩ := fcz_w (m_o0_1 _) fI44 hf
                exact hk33 I46 fI46 hf
              · exact hk33 I32 fI32 hf
        · exact hk16 w4 I13 fI13 hf
      rcases of_ite hf with ⟨_, hf⟩ | ⟨_, hf⟩
      · exact hk12 1 I0 fI0 hf
      · exact hk12 0 I0 fI0 hf
    · exact hk_254 w4 I0 fI0 hf
theorem fc_X_movesUp (M : Nat → Nat → Prop) (fu : Nat) (o0 : Nat) (a1 : Int) (I0 : IMem) {r : Int × IMem} (m_o0_1 : ∀ j, M (o0 + 1) j) (hf : f_X_movesUp fu o0 a1 I0 = some r) : ∀ q j, ¬ M q j → r.2 q j = I0 q j := by
  unfold f_X_movesUp at hf
  obtain ⟨Ib, hIb⟩ : ∃ Ib : IMem, Ib = I0 := ⟨I0, rfl⟩
  rw [← hIb]
  have f0 : ∀ q j, ¬ M q j → I0 q j = Ib q j := fun q j _ => by rw [hIb]
  clear hIb
  obtain ⟨x1, -, hf⟩ := of_zl hf
  obtain ⟨g_1, hf⟩ := of_zg hf
  obtain ⟨x2, -, hf⟩ := of_zl hf
  refine fc_X_movesUp_16 M fu _ o0 a1 x2 ?_ fu 0 0 I0 f0 hf
  · intro x10 I9 fI9 hf
    refine fc_X_movesUp_57 M fu _ o0 a1 x2 m_o0_1 ?_ fu x10 0 0 I9 fI9 hf
    · intro x49 I48 fI48 hf
      obtain ⟨x51, -, hf⟩ := of_zl hf
      obtain ⟨g_2, hf⟩ := of_zg hf
      obtain ⟨I50, fI50, hf⟩ := fcz_w (m_o0_1 _) fI48 hf
      cases hf; exact fI50
theorem fc_X_goesOff_61 (M : Nat → Nat → Prop) (fu : Nat) {r : Int × IMem} {Ib : IMem} (k_203 : IMem → Res) (o0 : Nat) (p1 : Int) (m_o0_1 : ∀ j, M (o0 + 1) j) (hk_203 : ∀ (I9 : IMem), (∀ q j, ¬ M q j → I9 q j = Ib q j) → k_203 I9 = some r → ∀ q j, ¬ M q j → r.2 q j = Ib q j) : ∀ (m : Nat) (w2 : Int) (I0 : IMem), (∀ q j, ¬ M q j → I0 q j = Ib q j) → f_X_goesOff_61 fu k_203 o0 p1 m w2 I0 = some r → ∀ q j, ¬ M q j → r.2 q j = Ib q j := by
  intro m
  induction m with
  | zero => intro w2 I0 _ hf; cases hf
  | succ m hR_ =>
    intro w2 I0 fI0 hf
    replace hf : fb_X_goesOff_61 fu k_203 o0 p1 (f_X_goesOff_61 fu k_203 o0 p1 m) w2 I0 = some r := hf
    unfold fb_X_goesOff_61 at hf
    rcases of_ite hf with ⟨_, hf⟩ | ⟨_, hf⟩
    · obtain ⟨g_1, hf⟩ := of_zg hf
      obtain ⟨x6, -, hf⟩ := of_zl hf
      obtain ⟨g_2, hf⟩ := of_zg hf
      obtain ⟨x7, -, hf⟩ := of_zl hf
      obtain ⟨g_3, hf⟩ := of_zg hf
      obtain ⟨x8, -, hf⟩ := of_zl hf
      obtain ⟨g_4, hf⟩ := of_zg hf
      obtain ⟨x9, -, hf⟩ := of_zl hf
      obtain ⟨y10, I11, c_5, hf⟩ := of_zb hf
      have fI11 := fcz_t (fc_X_of M fu o0 x6 x7 4 I0 c_5) fI0
      obtain ⟨y13, I14, c_6, hf⟩ := of_zb hf
      have fI14 := fcz_t (fc_X_of M fu o0 x6 x7 0 I11 c_6) fI11
      obtain ⟨x17, -, hf⟩ := of_zl hf
      obtain ⟨g_7, hf⟩ := of_zg hf
      obtain ⟨I16, fI16, hf⟩ := fcz_w (m_o0_1 _) fI14 hf
      obtain ⟨x19, -, hf⟩ := of_zl hf
      obtain ⟨g_8, hf⟩ := of_zg hf
      obtain ⟨I18, fI18, hf⟩ := fcz_w (m_o0_1 _) fI16 hf
      obtain ⟨x20, -, hf⟩ := of_zl hf
      obtain ⟨g_9, hf⟩ := of_zg hf
      obtain ⟨g_10, hf⟩ := of_zg hf
      obtain ⟨I21, fI21, hf⟩ := fcz_w (m_o0_1 _) fI18 hf
      obtain ⟨x22, -, hf⟩ := of_zl hf
      obtain ⟨g_11, hf⟩ := of_zg hf
      obtain ⟨g_12, hf⟩ := of_zg hf
      obtain ⟨I23, fI23, hf⟩ := fcz_w (m_o0_1 _) fI21 hf
      obtain ⟨x24, -, hf⟩ := of_zl hf
      obtain ⟨g_13, hf⟩ := of_zg hf
      obtain ⟨k25, ek25, hf⟩ := of_zj hf
      have hk25 : ∀  (I26 : IMem), (∀ q j, ¬ M q j → I26 q j = Ib q j) → k25 I26 = some r → ∀ q j, ¬ M q j → r.2 q j = Ib q j := by
        intro I26 fI26 hf
        subst ek25
        obtain ⟨x27, -, hf⟩ := of_zl hf
        exact hR_ x27 I26 fI26 hf
      rcases of_ite hf with ⟨_, hf⟩ | ⟨_, hf⟩
      · obtain ⟨x29, -, hf⟩ := of_zl hf
        obtain ⟨g_14, hf⟩ := of_zg hf
        obtain ⟨I28, fI28, hf⟩ := fcz_w (m_o0_1 _) fI23 hf
        exact hk25 I28 fI28 hf
      · exact hk25 I23 fI23 hf
    · exact hk_203 I0 fI0 hf
theorem fc_X_goesOff_215 (M : Nat → Nat → Prop) (fu : Nat) {r : Int × IMem} {Ib : IMem} (k_258 : IMem → Res) (o0 : Nat) (p1 : Int) (p2 : Int) (m_o0_14 : ∀ j, M (o0 + 14) j) (hk_258 : ∀ (I9 : IMem), (∀ q j, ¬ M q j → I9 q j = Ib q j) → k_258 I9 = some r → ∀ q j, ¬ M q j → r.2 q j = Ib q j) : ∀ (m : Nat) (w3 : Int) (I0 : IMem), (∀ q j, ¬ M q j → I0 q j = Ib q j) → f_X_goesOff_215 fu k_258 o0 p1 p2 m w3 I0 = some r → ∀ q j, ¬ M q j → r.2 q j = Ib q j := by
  intro m
  induction m with
  | zero => intro w3 I0 _ hf; cases hf
  | succ m hR_ =>
    intro w3 I0 fI0 hf
    replace hf : fb_X_goesOff_215 fu k_258 o0 p1 p2 (f_X_goesOff_215 fu k_258 o0 p1 p2 m) w3 I0 = some r := hf
    unfold fb_X_goesOff_215 at hf
    rcases of_ite hf with ⟨_, hf⟩ | ⟨_, hf⟩
    · obtain ⟨g_1, hf⟩ := of_zg hf
      obtain ⟨x31, -, hf⟩ := of_zl hf
      obtain ⟨g_2, hf⟩ := of_zg hf
      obtain ⟨x33, -, hf⟩ := of_zl hf
      obtain ⟨g_3, hf⟩ := of_zg hf
      obtain ⟨I32, fI32, hf⟩ := fcz_w (m_o0_14 _) fI0 hf
      obtain ⟨x34, -, hf⟩ := of_zl hf
      exact hR_ x34 I32 fI32 hf
    · exact hk_258 I0 fI0 hf
theorem fc_X_goesOff_205 (M : Nat → Nat → Prop) (fu : Nat) {r : Int × IMem} {Ib : IMem} (k_264 : IMem → Res) (o0 : Nat) (p1 : Int) (m_o0_14 : ∀ j, M (o0 + 14) j) (hk_264 : ∀ (I9 : IMem), (∀ q j, ¬ M q j → I9 q j = Ib q j) → k_264 I9 = some r → ∀ q j, ¬ M q j → r.2 q j = Ib q j) : ∀ (m : Nat) (w2 : Int) (I0 : IMem), (∀ q j, ¬ M q j → I0 q j = Ib q j) → f_X_goesOff_205 fu k_264 o0 p1 m w2 I0 = some r → ∀ q j, ¬ M q j → r.2 q j = Ib q j := by
  intro m
  induction m with
  | zero => intro w2 I0 _ hf; cases hf
  | succ m hR_ =>
    intro w2 I0 fI0 hf
    replace hf : fb_X_goesOff_205 fu k_264 o0 p1 (f_X_goesOff_205 fu k_264 o0 p1 m) w2 I0 = some r := hf
    unfold fb_X_goesOff_205 at hf
    rcases of_ite hf with ⟨_, hf⟩ | ⟨_, hf⟩
    · refine fc_X_goesOff_215 M fu _ o0 p1 w2 m_o0_14 ?_ fu 0 I0 fI0 hf
      · intro I35 fI35 hf
        obtain ⟨x36, -, hf⟩ := of_zl hf
        exact hR_ x36 I35 fI35 hf
    · exact hk_264 I0 fI0 hf
theorem fc_X_goesOff_266 (M : Nat → Nat → Prop) (fu : Nat) {r : Int × IMem} {Ib : IMem} (k_283 : IMem → Res) (o0 : Nat) (p1 : Int) (m_o0_1 : ∀ j, M (o0 + 1) j) (hk_283 : ∀ (I9 : IMem), (∀ q j, ¬ M q j → I9 q j = Ib q j) → k_283 I9 = some r → ∀ q j, ¬ M q j → r.2 q j = Ib q j) : ∀ (m : Nat) (w2 : Int) (I0 : IMem), (∀ q j, ¬ M q j → I0 q j = Ib q j) → f_X_goesOff_266 fu k_283 o0 p1 m w2 I0 = some r → ∀ q j, ¬ M q j → r.2 q j = Ib q j := by
  intro m
  induction m with
  | zero => intro w2 I0 _ hf; cases hf
  | succ m hR_ =>
    intro w2 I0 fI0 hf
    replace hf : fb_X_goesOff_266 fu k_283 o0 p1 (f_X_goesOff_266 fu k_283 o0 p1 m) w2 I0 = some r := hf
    unfold fb_X_goesOff_266 at hf
    rcases of_ite hf with ⟨_, hf⟩ | ⟨_, hf⟩
    · obtain ⟨u_2, I39, c_1, hf⟩ := of_zb hf
      have fI39 := fcz_t (fc_X_movesUp M fu o0 w2 I0 m_o0_1 c_1) fI0
      obtain ⟨x41, -, hf⟩ := of_zl hf
      exact hR_ x41 I39 fI39 hf
    · exact hk_283 I0 fI0 hf
theorem fc_X_goesOff_285 (M : Nat → Nat → Prop) (fu : Nat) {r : Int × IMem} {Ib : IMem} (k_369 : IMem → Res) (o0 : Nat) (p1 : Int) (m_o0_1 : ∀ j, M (o0 + 1) j) (m_o0_0c24 : M o0 24) (hk_369 : ∀ (I9 : IMem), (∀ q j, ¬ M q j → I9 q j = Ib q j) → k_369 I9 = some r → ∀ q j, ¬ M q j → r.2 q j = Ib q j) : ∀ (m : Nat) (w2 : Int) (I0 : IMem), (∀ q j, ¬ M q j → I0 q j = Ib q j) → f_X_goesOff_285 fu k_369 o0 p1 m w2 I0 = some r → ∀ q j, ¬ M q j → r.2 q j = Ib q j := by
  intro m
  induction m with
  | zero => intro w2 I0 _ hf; cases hf
  | succ m hR_ =>
    intro w2 I0 fI0 hf
    replace hf : fb_X_goesOff_285 fu k_369 o0 p1 (f_X_goesOff_285 fu k_369 o0 p1 m) w2 I0 = some r := hf
    unfold fb_X_goesOff_285 at hf
    rcases of_ite hf with ⟨_, hf⟩ | ⟨_, hf⟩
    · obtain ⟨x43, -, hf⟩ := of_zl hf
      obtain ⟨g_1, hf⟩ := of_zg hf
      obtain ⟨x44, -, hf⟩ := of_zl hf
      obtain ⟨g_2, hf⟩ := of_zg hf
      obtain ⟨x45, -, hf⟩ := of_zl hf
      obtain ⟨g_3, hf⟩ := of_zg hf
      obtain ⟨x46, -, hf⟩ := of_zl hf
      obtain ⟨g_4, hf⟩ := of_zg hf
      obtain ⟨x47, -, hf⟩ := of_zl hf
      obtain ⟨g_5, hf⟩ := of_zg hf
      obtain ⟨x48, -, hf⟩ := of_zl hf
      obtain ⟨g_6, hf⟩ := of_zg hf
      obtain ⟨y49, I50, c_7, hf⟩ := of_zb hf
      have fI50 := fcz_t (fc_X_stands M fu o0 0 (I0 (o0 + 14) x43.toNat) (I0 (o0 + 14) x44.toNat) (I0 (o0 + 14) x45.toNat) (I0 (o0 + 14) x46.toNat) (I0 (o0 + 14) x47.toNat) (I0 (o0 + 14) x48.toNat) I0 m_o0_1 m_o0_0c24 c_7) fI0
      obtain ⟨x52, -, hf⟩ := of_zl hf
      exact hR_ x52 I50 fI50 hf
    · exact hk_369 I0 fI0 hf
theorem fc_X_goesOff (M : Nat → Nat → Prop) (fu : Nat) (o0 : Nat) (I0 : IMem) {r : Int × IMem} (m_o0_1 : ∀ j, M (o0 + 1) j) (m_o0_13 : ∀ j, M (o0 + 13) j) (m_o0_14 : ∀ j, M (o0 + 14) j) (m_o0_0c24 : M o0 24) (m_o0_0c35 : M o0 35) (hf : f_X_goesOff fu o0 I0 = some r) : ∀ q j, ¬ M q j → r.2 q j = I0 q j := by
  unfold f_X_goesOff at hf
  obtain ⟨Ib, hIb⟩ : ∃ Ib : IMem, Ib = I0 := ⟨I0, rfl⟩
  rw [← hIb]
  have f0 : ∀ q j, ¬ M q j → I0 q j = Ib q j := fun q j _ => by rw [hIb]
  clear hIb
  obtain ⟨x1, -, hf⟩ := of_zl hf
  obtain ⟨I2, fI2, hf⟩ := fcz_w (m_o0_1 71) f0 hf
  obtain ⟨I3, fI3, hf⟩ := fcz_w (m_o0_1 72) fI2 hf
  obtain ⟨I4, fI4, hf⟩ := fcz_w (m_o0_1 110) fI3 hf
  obtain ⟨I5, fI5, hf⟩ := fcz_w (m_o0_1 111) fI4 hf
  refine fc_X_goesOff_61 M fu _ o0 x1 m_o0_1 ?_ fu 0 I5 fI5 hf
  · intro I30 fI30 hf
    refine fc_X_goesOff_205 M fu _ o0 x1 m_o0_14 ?_ fu 0 I30 fI30 hf
    · intro I37 fI37 hf
      refine fc_X_goesOff_266 M fu _ o0 x1 m_o0_1 ?_ fu 0 I37 fI37 hf
      · intro I42 fI42 hf
        refine fc_X_goesOff_285 M fu _ o0 x1 m_o0_1 m_o0_0c24 ?_ fu 0 I42 fI42 hf
        · intro I53 fI53 hf
          obtain ⟨I54, fI54, hf⟩ := fcz_w (m_o0_1 70) fI53 hf
          obtain ⟨I55, fI55, hf⟩ := fcz_w (m_o0_1 73) fI54 hf
          obtain ⟨k56, ek56, hf⟩ := of_zj hf
          have hk56 : ∀  (I57 : IMem), (∀ q j, ¬ M q j → I57 q j = Ib q j) → k56 I57 = some r → ∀ q j, ¬ M q j → r.2 q j = Ib q j := by
            intro I57 fI57 hf
            subst ek56
            obtain ⟨x58, -, hf⟩ := of_zl hf
            obtain ⟨g_1, hf⟩ := of_zg hf
            obtain ⟨I59, fI59, hf⟩ := fcz_w (m_o0_1 _) fI57 hf
            obtain ⟨x61, -, hf⟩ := of_zl hf
            obtain ⟨g_2, hf⟩ := of_zg hf
            obtain ⟨I60, fI60, hf⟩ := fcz_w (m_o0_1 _) fI59 hf
            obtain ⟨x63, -, hf⟩ := of_zl hf
            obtain ⟨g_3, hf⟩ := of_zg hf
            obtain ⟨I62, fI62, hf⟩ := fcz_w (m_o0_1 _) fI60 hf
            obtain ⟨u_5, I65, c_4, hf⟩ := of_zb hf
            have fI65 := fcz_t (fc_X_forgets M fu o0 I62 m_o0_13 m_o0_0c35 c_4) fI62
            cases hf; exact fI65
          rcases of_ite hf with ⟨_, hf⟩ | ⟨_, hf⟩
          · obtain ⟨y67, I68, c_6, hf⟩ := of_zb hf
            have fI68 := fcz_t (fc_X_draw M fu o0 1000 I55 (m_o0_1 0) c_6) fI55
            rcases of_ite hf with ⟨_, hf⟩ | ⟨_, hf⟩
            · obtain ⟨I70, fI70, hf⟩ := fcz_w (m_o0_1 73) fI68 hf
              obtain ⟨I71, fI71, hf⟩ := fcz_w (m_o0_1 74) fI70 hf
              exact hk56 I71 fI71 hf
            · exact hk56 I68 fI68 hf
          · exact hk56 I55 fI55 hf
theorem fc_X_takes (M : Nat → Nat → Prop) (fu : Nat) (o0 : Nat) (a1 : Int) (a2 : Int) (a3 : Int) (I0 : IMem) {r : Int × IMem} (m_o0_9 : ∀ j, M (o0 + 9) j) (m_o0_11 : ∀ j, M (o0 + 11) j) (m_o0_0c30 : M o0 30) (m_o0_0c31 : M o0 31) (m_o0_0c33 : M o0 33) (m_o0_0c34 : M o0 34) (hf : f_X_takes fu o0 a1 a2 a3 I0 = some r) : ∀ q j, ¬ M q j → r.2 q j = I0 q j := by
  unfold f_X_takes at hf
  obtain ⟨Ib, hIb⟩ : ∃ Ib : IMem, Ib = I0 := ⟨I0, rfl⟩
  rw [← hIb]
  have f0 : ∀ q j, ¬ M q j → I0 q j = Ib q j := fun q j _ => by rw [hIb]
  clear hIb
  obtain ⟨x2, -, hf⟩ := of_zl hf
  obtain ⟨g_1, hf⟩ := of_zg hf
  obtain ⟨I1, fI1, hf⟩ := fcz_w (m_o0_9 _) f0 hf
  obtain ⟨x4, -, hf⟩ := of_zl hf
  obtain ⟨g_2, hf⟩ := of_zg hf
  obtain ⟨I3, fI3, hf⟩ := fcz_w (m_o0_11 _) fI1 hf
  obtain ⟨I5, fI5, hf⟩ := fcz_w m_o0_0c31 fI3 hf
  obtain ⟨I6, fI6, hf⟩ := fcz_w m_o0_0c30 fI5 hf
  obtain ⟨y7, I8, c_3, hf⟩ := of_zb hf
  have fI8 := fcz_t (fc_X_of M fu o0 a1 a2 3 I6 c_3) fI6
  obtain ⟨k10, ek10, hf⟩ := of_zj hf
  have hk10 : ∀ (x12 : Int) (I11 : IMem), (∀ q j, ¬ M q j → I11 q j = Ib q j) → k10 x12 I11 = some r → ∀ q j, ¬ M q j → r.2 q j = Ib q j := by
    intro x12 I11 fI11 hf
    subst ek10
    obtain ⟨I13, fI13, hf⟩ := fcz_w m_o0_0c33 fI11 hf
    obtain ⟨y14, I15, c_4, hf⟩ := of_zb hf
    have fI15 := fcz_t (fc_X_of M fu o0 a1 a2 3 I13 c_4) fI13
    obtain ⟨k17, ek17, hf⟩ := of_zj hf
    have hk17 : ∀ (x19 : Int) (I18 : IMem), (∀ q j, ¬ M q j → I18 q j = Ib q j) → k17 x19 I18 = some r → ∀ q j, ¬ M q j → r.2 q j = Ib q j := by
      intro x19 I18 fI18 hf
      subst ek17
      obtain ⟨I20, fI20, hf⟩ := fcz_w m_o0_0c34 fI18 hf
      cases hf; exact fI20
    rcases of_ite hf with ⟨_, hf⟩ | ⟨_, hf⟩
    · exact hk17 0 I15 fI15 hf
    · exact hk17 1 I15 fI15 hf
  rcases of_ite hf with ⟨_, hf⟩ | ⟨_, hf⟩
  · exact hk10 1 I8 fI8 hf
  · exact hk10 0 I8 fI8 hf
theorem fc_X_send_6 (M : Nat → Nat → Prop) (fu : Nat) {r : Int × IMem} {Ib : IMem} (k_62 : IMem → Res) (o0 : Nat) (m_o0_9 : ∀ j, M (o0 + 9) j) (m_o0_11 : ∀ j, M (o0 + 11) j) (m_o0_0c30 : M o0 30) (m_o0_0c31 : M o0 31) (m_o0_0c33 : M o0 33) (m_o0_0c34 : M o0 34) (hk_62 : ∀ (I9 : IMem), (∀ q j, ¬ M q j → I9 q j = Ib q j) → k_62 I9 = some r → ∀ q j, ¬ M q j → r.2 q j = Ib q j) : ∀ (m : Nat) (w1 : Int) (I0 : IMem), (∀ q j, ¬ M q j → I0 q j = Ib q j) → f_X_send_6 fu k_62 o0 m w1 I0 = some r → ∀ q j, ¬ M q j → r.2 q j = Ib q j := by
  intro m
  induction m with
  | zero => intro w1 I0 _ hf; cases hf
  | succ m hR_ =>
    intro w1 I0 fI0 hf
    replace hf : fb_X_send_6 fu k_62 o0 (f_X_send_6 fu k_62 o0 m) w1 I0 = some r := hf
    unfold fb_X_send_6 at hf
    rcases of_ite hf with ⟨_, hf⟩ | ⟨_, hf⟩
    · obtain ⟨g_1, hf⟩ := of_zg hf
      obtain ⟨g_2, hf⟩ := of_zg hf
      obtain ⟨g_3, hf⟩ := of_zg hf
      obtain ⟨x4, -, hf⟩ := of_zl hf
      obtain ⟨g_4, hf⟩ := of_zg hf
      obtain ⟨u_6, I6, c_5, hf⟩ := of_zb hf
      have fI6 := fcz_t (fc_X_takes M fu o0 (wdiv (I0 (o0 + 15) w1.toNat) 40) (wrem (I0 (o0 + 15) w1.toNat) 40) (I0 (o0 + 1) x4.toNat) I0 m_o0_9 m_o0_11 m_o0_0c30 m_o0_0c31 m_o0_0c33 m_o0_0c34 c_5) fI0
      obtain ⟨x8, -, hf⟩ := of_zl hf
      exact hR_ x8 I6 fI6 hf
    · exact hk_62 I0 fI0 hf
theorem fc_X_send (M : Nat → Nat → Prop) (fu : Nat) (o0 : Nat) (I0 : IMem) {r : Int × IMem} (m_o0_1 : ∀ j, M (o0 + 1) j) (m_o0_9 : ∀ j, M (o0 + 9) j) (m_o0_11 : ∀ j, M (o0 + 11) j) (m_o0_12 : ∀ j, M (o0 + 12) j) (m_o0_13 : ∀ j, M (o0 + 13) j) (m_o0_14 : ∀ j, M (o0 + 14) j) (m_o0_0c24 : M o0 24) (m_o0_0c30 : M o0 30) (m_o0_0c31 : M o0 31) (m_o0_0c32 : M o0 32) (m_o0_0c33 : M o0 33) (m_o0_0c34 : M o0 34) (m_o0_0c35 : M o0 35) (hf : f_X_send fu o0 I0 = some r) : ∀ q j, ¬ M q j → r.2 q j = I0 q j := by
  unfold f_X_send at hf
  obtain ⟨Ib, hIb⟩ : ∃ Ib : IMem, Ib = I0 := ⟨I0, rfl⟩
  rw [← hIb]
  have f0 : ∀ q j, ¬ M q j → I0 q j = Ib q j := fun q j _ => by rw [hIb]
  clear hIb
  obtain ⟨u_2, I2, c_1, hf⟩ := of_zb hf
  have fI2 := fcz_t (fc_X_begins M fu o0 I0 m_o0_9 m_o0_12 m_o0_0c30 m_o0_0c31 m_o0_0c32 m_o0_0c33 m_o0_0c34 c_1) f0
  refine fc_X_send_6 M fu _ o0 m_o0_9 m_o0_11 m_o0_0c30 m_o0_0c31 m_o0_0c33 m_o0_0c34 ?_ fu 0 I2 fI2 hf
  · intro I9 fI9 hf
    obtain ⟨y10, I11, c_3, hf⟩ := of_zb hf
    have fI11 := fcz_t (fc_X_goesOff M fu o0 I9 m_o0_1 m_o0_13 m_o0_14 m_o0_0c24 m_o0_0c35 c_3) fI9
    cases hf; exact fI11
theorem fc_X_isOpen (M : Nat → Nat → Prop) (fu : Nat) (o0 : Nat) (a1 : Int) (a2 : Int) (I0 : IMem) {r : Int × IMem} (hf : f_X_isOpen fu o0 a1 a2 I0 = some r) : ∀ q j, ¬ M q j → r.2 q j = I0 q j := by
  unfold f_X_isOpen at hf
  obtain ⟨Ib, hIb⟩ : ∃ Ib : IMem, Ib = I0 := ⟨I0, rfl⟩
  rw [← hIb]
  have f0 : ∀ q j, ¬ M q j → I0 q j = Ib q j := fun q j _ => by rw [hIb]
  clear hIb
  obtain ⟨x1, -, hf⟩ := of_zl hf
  obtain ⟨g_1, hf⟩ := of_zg hf
  rcases of_ite hf with ⟨_, hf⟩ | ⟨_, hf⟩
  · obtain ⟨x2, -, hf⟩ := of_zl hf
    obtain ⟨g_2, hf⟩ := of_zg hf
    rcases of_ite hf with ⟨_, hf⟩ | ⟨_, hf⟩
    · obtain ⟨x3, -, hf⟩ := of_zl hf
      obtain ⟨g_3, hf⟩ := of_zg hf
      rcases of_ite hf with ⟨_, hf⟩ | ⟨_, hf⟩
      · cases hf; exact f0
      · cases hf; exact f0
    · cases hf; exact f0
  · cases hf; exact f0
theorem fc_X_fits (M : Nat → Nat → Prop) (fu : Nat) (o0 : Nat) (a1 : Int) (a2 : Int) (I0 : IMem) {r : Int × IMem} (hf : f_X_fits fu o0 a1 a2 I0 = some r) : ∀ q j, ¬ M q j → r.2 q j = I0 q j := by
  unfold f_X_fits at hf
  obtain ⟨Ib, hIb⟩ : ∃ Ib : IMem, Ib = I0 := ⟨I0, rfl⟩
  rw [← hIb]
  have f0 : ∀ q j, ¬ M q j → I0 q j = Ib q j := fun q j _ => by rw [hIb]
  clear hIb
  obtain ⟨y1, I2, c_1, hf⟩ := of_zb hf
  have fI2 := fcz_t (fc_X_isOpen M fu o0 a1 a2 I0 c_1) f0
  rcases of_ite hf with ⟨_, hf⟩ | ⟨_, hf⟩
  · cases hf; exact fI2
  · obtain ⟨y4, I5, c_2, hf⟩ := of_zb hf
    have fI5 := fcz_t (fc_X_of M fu o0 a1 a2 2 I2 c_2) fI2
    rcases of_ite hf with ⟨_, hf⟩ | ⟨_, hf⟩
    · cases hf; exact fI5
    · rcases of_ite hf with ⟨_, hf⟩ | ⟨_, hf⟩
      · cases hf; exact fI5
      · obtain ⟨y7, I8, c_3, hf⟩ := of_zb hf
        have fI8 := fcz_t (fc_X_of M fu o0 a1 a2 3 I5 c_3) fI5
        rcases of_ite hf with ⟨_, hf⟩ | ⟨_, hf⟩
        · rcases of_ite hf with ⟨_, hf⟩ | ⟨_, hf⟩
          · cases hf; exact fI8
          · cases hf; exact fI8
        · rcases of_ite hf with ⟨_, hf⟩ | ⟨_, hf⟩
          · rcases of_ite hf with ⟨_, hf⟩ | ⟨_, hf⟩
            · cases hf; exact fI8
            · cases hf; exact fI8
          · cases hf; exact fI8
theorem fc_X_finds_17 (M : Nat → Nat → Prop) (fu : Nat) {r : Int × IMem} {Ib : IMem} (k_140 : Int → Int → IMem → Res) (o0 : Nat) (p1 : Int) (p4 : Int) (m_o0_7 : ∀ j, M (o0 + 7) j) (m_o0_8c1 : M (o0 + 8) 1) (m_o0_8c2 : M (o0 + 8) 2) (m_o0_8c3 : M (o0 + 8) 3) (m_o0_8c4 : M (o0 + 8) 4) (m_o0_8c5 : M (o0 + 8) 5) (m_o0_8c6 : M (o0 + 8) 6) (m_o0_8c7 : M (o0 + 8) 7) (m_o0_8c8 : M (o0 + 8) 8) (m_o0_8c9 : M (o0 + 8) 9) (hk_140 : ∀ (z0 : Int) (z1 : Int) (I9 : IMem), (∀ q j, ¬ M q j → I9 q j = Ib q j) → k_140 z0 z1 I9 = some r → ∀ q j, ¬ M q j → r.2 q j = Ib q j) : ∀ (m : Nat) (w2 : Int) (w3 : Int) (w5 : Int) (I0 : IMem), (∀ q j, ¬ M q j → I0 q j = Ib q j) → f_X_finds_17 fu k_140 o0 p1 p4 m w2 w3 w5 I0 = some r → ∀ q j, ¬ M q j → r.2 q j = Ib q j := by
  intro m
  induction m with
  | zero => intro w2 w3 w5 I0 _ hf; cases hf
  | succ m hR_ =>
    intro w2 w3 w5 I0 fI0 hf
    replace hf : fb_X_finds_17 fu k_140 o0 p1 p4 (f_X_finds_17 fu k_140 o0 p1 p4 m) w2 w3 w5 I0 = some r := hf
    unfold fb_X_finds_17 at hf
    obtain ⟨x1, -, hf⟩ := of_zl hf
    obtain ⟨g_1, hf⟩ := of_zg hf
    rcases of_ite hf with ⟨_, hf⟩ | ⟨_, hf⟩
    · obtain ⟨y2, I3, c_2, hf⟩ := of_zb hf
      have fI3 := fcz_t (fc_X_fits M fu o0 p4 w5 I0 c_2) fI0
      obtain ⟨k5, ek5, hf⟩ := of_zj hf
      have hk5 : ∀ (x7 : Int) (x8 : Int) (I6 : IMem), (∀ q j, ¬ M q j → I6 q j = Ib q j) → k5 x7 x8 I6 = some r → ∀ q j, ¬ M q j → r.2 q j = Ib q j := by
        intro x7 x8 I6 fI6 hf
        subst ek5
        obtain ⟨x9, -, hf⟩ := of_zl hf
        exact hR_ x7 x8 x9 I6 fI6 hf
      rcases of_ite hf with ⟨_, hf⟩ | ⟨_, hf⟩
      · exact hk5 w2 w3 I3 fI3 hf
      · obtain ⟨k10, ek10, hf⟩ := of_zj hf
        have hk10 : ∀ (x12 : Int) (I11 : IMem), (∀ q j, ¬ M q j → I11 q j = Ib q j) → k10 x12 I11 = some r → ∀ q j, ¬ M q j → r.2 q j = Ib q j := by
          intro x12 I11 fI11 hf
          subst ek10
          obtain ⟨k13, ek13, hf⟩ := of_zj hf
          have hk13 : ∀  (I14 : IMem), (∀ q j, ¬ M q j → I14 q j = Ib q j) → k13 I14 = some r → ∀ q j, ¬ M q j → r.2 q j = Ib q j := by
            intro I14 fI14 hf
            subst ek13
            obtain ⟨k15, ek15, hf⟩ := of_zj hf
            have hk15 : ∀  (I16 : IMem), (∀ q j, ¬ M q j → I16 q j = Ib q j) → k15 I16 = some r → ∀ q j, ¬ M q j → r.2 q j = Ib q j := by
              intro I16 fI16 hf
              subst ek15
              obtain ⟨x17, -, hf⟩ := of_zl hf
              exact hk5 x17 x12 I16 fI16 hf
            rcases of_ite hf with ⟨_, hf⟩ | ⟨_, hf⟩
            · exact hk15 I14 fI14 hf
            · rcases of_ite hf with ⟨_, hf⟩ | ⟨_, hf⟩
              · exact hk15 I14 fI14 hf
              · exact hk5 w2 w3 I14 fI14 hf
          rcases of_ite hf with ⟨_, hf⟩ | ⟨_, hf⟩
          · rcases of_ite hf with ⟨_, hf⟩ | ⟨_, hf⟩
            · exact hk5 w2 w3 I11 fI11 hf
            · exact hk13 I11 fI11 hf
          · rcases of_ite hf with ⟨_, hf⟩ | ⟨_, hf⟩
            · exact hk5 w2 w3 I11 fI11 hf
            · exact hk13 I11 fI11 hf
        rcases of_ite hf with ⟨_, hf⟩ | ⟨_, hf⟩
        · obtain ⟨y18, I19, c_3, hf⟩ := of_zb hf
          have fI19 := fcz_t (fc_X_worth M fu o0 p4 w5 (I3 o0 30) (I3 o0 31) I3 m_o0_7 m_o0_8c1 m_o0_8c2 m_o0_8c3 m_o0_8c4 m_o0_8c5 m_o0_8c6 m_o0_8c7 m_o0_8c8 m_o0_8c9 c_3) fI3
          exact hk10 y18 I19 fI19 hf
        · obtain ⟨y21, I22, c_4, hf⟩ := of_zb hf
          have fI22 := fcz_t (fc_X_of M fu o0 p4 w5 5 I3 c_4) fI3
          exact hk10 y21 I22 fI22 hf
    · exact hk_140 w2 w3 I0 fI0 hf
