/-! frames: what a shallow function may change (by program out of the functions' own texts) -/
theorem of_zl {v : Int} {k : Int → Res} {r : Int × IMem} (h : zl v k = some r) : ∃ x, x = v ∧ k x = some r := ⟨v, rfl, h⟩
theorem fr_zw {M : Nat → Prop} {I Ib : IMem} {o j : Nat} {v : Int} {k : IMem → Res} {r : Int × IMem} (hM : M o) (hI : ∀ q, ¬ M q → I q = Ib q) (h : zw I o j v k = some r) : ∃ I1 : IMem, (∀ q, ¬ M q → I1 q = Ib q) ∧ k I1 = some r := by
  refine ⟨up I o j v, fun q hq => ?_, h⟩
  rw [← hI q hq]
  funext i
  exact if_neg (fun (e : q = o ∧ i = j) => hq (e.1 ▸ hM))
theorem fr_zc {M : Nat → Prop} {I Ib : IMem} {o0 o1 : Nat} {sp dp n : Int} {k : IMem → Res} {r : Int × IMem} (hM : M o1) (hI : ∀ q, ¬ M q → I q = Ib q) (h : zc I o0 sp o1 dp n k = some r) : ∃ I1 : IMem, (∀ q, ¬ M q → I1 q = Ib q) ∧ k I1 = some r := by
  refine ⟨_, fun q hq => ?_, h⟩
  rw [← hI q hq]
  funext i
  exact if_neg (fun (e : q = o1 ∧ dp.toNat ≤ i ∧ i < dp.toNat + n.toNat) => hq (e.1 ▸ hM))
theorem fr_tr {M : Nat → Prop} {I1 I Ib : IMem} (h1 : ∀ q, ¬ M q → I1 q = I q) (h : ∀ q, ¬ M q → I q = Ib q) : ∀ q, ¬ M q → I1 q = Ib q := fun q hq => (h1 q hq).trans (h q hq)
theorem fr_JA_fill_5 (M : Nat → Prop) (fu : Nat) {r : Int × IMem} {Ib : IMem} (o0 : Nat) (n0 : Nat) (p1 : Int) (p3 : Int) (m_o0_0 : M o0) : ∀ (m : Nat) (w2 : Int) (I0 : IMem), (∀ q, ¬ M q → I0 q = Ib q) → f_JA_fill_5 fu o0 n0 p1 p3 m w2 I0 = some r → ∀ q, ¬ M q → r.2 q = Ib q := by
  intro m
  induction m with
  | zero => intro w2 I0 _ hf; cases hf
  | succ m hR_ =>
    intro w2 I0 fI0 hf
    replace hf : fb_JA_fill_5 fu o0 n0 p1 p3 (f_JA_fill_5 fu o0 n0 p1 p3 m) w2 I0 = some r := hf
    unfold fb_JA_fill_5 at hf
    rcases of_ite hf with ⟨_, hf⟩ | ⟨_, hf⟩
    · obtain ⟨g_1, hf⟩ := of_zg hf
      obtain ⟨I2, fI2, hf⟩ := fr_zw m_o0_0 fI0 hf
      obtain ⟨x3, -, hf⟩ := of_zl hf
      exact hR_ x3 I2 fI2 hf
    · cases hf; exact fI0
theorem fr_JA_fill (M : Nat → Prop) (fu : Nat) (o0 n0 : Nat) (a1 : Int) (I0 : IMem) {r : Int × IMem} (m_o0_0 : M o0) (hf : f_JA_fill fu o0 n0 a1 I0 = some r) : ∀ q, ¬ M q → r.2 q = I0 q := by
  unfold f_JA_fill at hf
  obtain ⟨Ib, hIb⟩ : ∃ Ib : IMem, Ib = I0 := ⟨I0, rfl⟩
  rw [← hIb]
  have f0 : ∀ q, ¬ M q → I0 q = Ib q := fun q _ => by rw [hIb]
  clear hIb
  obtain ⟨x1, -, hf⟩ := of_zl hf
  refine fr_JA_fill_5 M fu o0 n0 a1 x1 m_o0_0 fu 0 I0 f0 hf
theorem fr_JL_canEncode (M : Nat → Prop) (fu : Nat) (a0 : Int) (I0 : IMem) {r : Int × IMem} (hf : f_JL_canEncode fu a0 I0 = some r) : ∀ q, ¬ M q → r.2 q = I0 q := by
  unfold f_JL_canEncode at hf
  obtain ⟨Ib, hIb⟩ : ∃ Ib : IMem, Ib = I0 := ⟨I0, rfl⟩
  rw [← hIb]
  have f0 : ∀ q, ¬ M q → I0 q = Ib q := fun q _ => by rw [hIb]
  clear hIb
  rcases of_ite hf with ⟨_, hf⟩ | ⟨_, hf⟩
  · cases hf; exact f0
  · rcases of_ite hf with ⟨_, hf⟩ | ⟨_, hf⟩
    · cases hf; exact f0
    · cases hf; exact f0
theorem fr_JL_indexOfChar_7 (M : Nat → Prop) (fu : Nat) {r : Int × IMem} {Ib : IMem} (s0 : Nat) (p3 : Int) (p4 : Int) : ∀ (m : Nat) (w5 : Int) (I0 : IMem), (∀ q, ¬ M q → I0 q = Ib q) → f_JL_indexOfChar_7 fu s0 p3 p4 m w5 I0 = some r → ∀ q, ¬ M q → r.2 q = Ib q := by
  intro m
  induction m with
  | zero => intro w5 I0 _ hf; cases hf
  | succ m hR_ =>
    intro w5 I0 fI0 hf
    replace hf : fb_JL_indexOfChar_7 fu s0 p3 p4 (f_JL_indexOfChar_7 fu s0 p3 p4 m) w5 I0 = some r := hf
    unfold fb_JL_indexOfChar_7 at hf
    rcases of_ite hf with ⟨_, hf⟩ | ⟨_, hf⟩
    · obtain ⟨g_1, hf⟩ := of_zg hf
      rcases of_ite hf with ⟨_, hf⟩ | ⟨_, hf⟩
      · cases hf; exact fI0
      · obtain ⟨x2, -, hf⟩ := of_zl hf
        exact hR_ x2 I0 fI0 hf
    · cases hf; exact fI0
theorem fr_JL_indexOfChar (M : Nat → Prop) (fu : Nat) (s0 : Nat) (a1 : Int) (a2 : Int) (a3 : Int) (I0 : IMem) {r : Int × IMem} (hf : f_JL_indexOfChar fu s0 a1 a2 a3 I0 = some r) : ∀ q, ¬ M q → r.2 q = I0 q := by
  unfold f_JL_indexOfChar at hf
  obtain ⟨Ib, hIb⟩ : ∃ Ib : IMem, Ib = I0 := ⟨I0, rfl⟩
  rw [← hIb]
  have f0 : ∀ q, ¬ M q → I0 q = Ib q := fun q _ => by rw [hIb]
  clear hIb
  obtain ⟨x1, -, hf⟩ := of_zl hf
  refine fr_JL_indexOfChar_7 M fu s0 a3 x1 fu a2 I0 f0 hf
theorem fr_JM_max (M : Nat → Prop) (fu : Nat) (a0 : Int) (a1 : Int) (I0 : IMem) {r : Int × IMem} (hf : f_JM_max fu a0 a1 I0 = some r) : ∀ q, ¬ M q → r.2 q = I0 q := by
  unfold f_JM_max at hf
  obtain ⟨Ib, hIb⟩ : ∃ Ib : IMem, Ib = I0 := ⟨I0, rfl⟩
  rw [← hIb]
  have f0 : ∀ q, ¬ M q → I0 q = Ib q := fun q _ => by rw [hIb]
  clear hIb
  rcases of_ite hf with ⟨_, hf⟩ | ⟨_, hf⟩
  · cases hf; exact f0
  · cases hf; exact f0
theorem fr_JM_min (M : Nat → Prop) (fu : Nat) (a0 : Int) (a1 : Int) (I0 : IMem) {r : Int × IMem} (hf : f_JM_min fu a0 a1 I0 = some r) : ∀ q, ¬ M q → r.2 q = I0 q := by
  unfold f_JM_min at hf
  obtain ⟨Ib, hIb⟩ : ∃ Ib : IMem, Ib = I0 := ⟨I0, rfl⟩
  rw [← hIb]
  have f0 : ∀ q, ¬ M q → I0 q = Ib q := fun q _ => by rw [hIb]
  clear hIb
  rcases of_ite hf with ⟨_, hf⟩ | ⟨_, hf⟩
  · cases hf; exact f0
  · cases hf; exact f0
theorem fr_JL_indexOf (M : Nat → Prop) (fu : Nat) (s0 : Nat) (a1 : Int) (a2 : Int) (a3 : Int) (I0 : IMem) {r : Int × IMem} (hf : f_JL_indexOf fu s0 a1 a2 a3 I0 = some r) : ∀ q, ¬ M q → r.2 q = I0 q := by
  unfold f_JL_indexOf at hf
  obtain ⟨Ib, hIb⟩ : ∃ Ib : IMem, Ib = I0 := ⟨I0, rfl⟩
  rw [← hIb]
  have f0 : ∀ q, ¬ M q → I0 q = Ib q := fun q _ => by rw [hIb]
  clear hIb
  obtain ⟨y1, I2, c_1, hf⟩ := of_zb hf
  have fI2 := fr_tr (fr_JL_canEncode M fu a1 I0 c_1) f0
  rcases of_ite hf with ⟨_, hf⟩ | ⟨_, hf⟩
  · cases hf; exact fI2
  · obtain ⟨y4, I5, c_2, hf⟩ := of_zb hf
    have fI5 := fr_tr (fr_JM_max M fu a2 0 I2 c_2) fI2
    obtain ⟨y7, I8, c_3, hf⟩ := of_zb hf
    have fI8 := fr_tr (fr_JM_min M fu a3 ((lenJ.getD s0 0 : Nat)) I5 c_3) fI5
    rcases of_ite hf with ⟨_, hf⟩ | ⟨_, hf⟩
    · obtain ⟨y10, I11, c_4, hf⟩ := of_zb hf
      have fI11 := fr_tr (fr_JL_indexOfChar M fu s0 a1 y4 y7 I8 c_4) fI8
      cases hf; exact fI11
    · cases hf; exact fI8
theorem fr_JS_isLatin1 (M : Nat → Prop) (fu : Nat) (s0 : Nat) (I0 : IMem) {r : Int × IMem} (hf : f_JS_isLatin1 fu s0 I0 = some r) : ∀ q, ¬ M q → r.2 q = I0 q := by
  unfold f_JS_isLatin1 at hf
  obtain ⟨Ib, hIb⟩ : ∃ Ib : IMem, Ib = I0 := ⟨I0, rfl⟩
  rw [← hIb]
  have f0 : ∀ q, ¬ M q → I0 q = Ib q := fun q _ => by rw [hIb]
  clear hIb
  cases hf; exact f0
theorem fr_JS_coder (M : Nat → Prop) (fu : Nat) (s0 : Nat) (I0 : IMem) {r : Int × IMem} (hf : f_JS_coder fu s0 I0 = some r) : ∀ q, ¬ M q → r.2 q = I0 q := by
  unfold f_JS_coder at hf
  obtain ⟨Ib, hIb⟩ : ∃ Ib : IMem, Ib = I0 := ⟨I0, rfl⟩
  rw [← hIb]
  have f0 : ∀ q, ¬ M q → I0 q = Ib q := fun q _ => by rw [hIb]
  clear hIb
  cases hf; exact f0
theorem fr_JS_length (M : Nat → Prop) (fu : Nat) (s0 : Nat) (I0 : IMem) {r : Int × IMem} (hf : f_JS_length fu s0 I0 = some r) : ∀ q, ¬ M q → r.2 q = I0 q := by
  unfold f_JS_length at hf
  obtain ⟨Ib, hIb⟩ : ∃ Ib : IMem, Ib = I0 := ⟨I0, rfl⟩
  rw [← hIb]
  have f0 : ∀ q, ¬ M q → I0 q = Ib q := fun q _ => by rw [hIb]
  clear hIb
  obtain ⟨y1, I2, c_1, hf⟩ := of_zb hf
  have fI2 := fr_tr (fr_JS_coder M fu s0 I0 c_1) f0
  cases hf; exact fI2
theorem fr_JS_indexOf_1 (M : Nat → Prop) (fu : Nat) (s0 : Nat) (a1 : Int) (a2 : Int) (I0 : IMem) {r : Int × IMem} (hf : f_JS_indexOf_1 fu s0 a1 a2 I0 = some r) : ∀ q, ¬ M q → r.2 q = I0 q := by
  unfold f_JS_indexOf_1 at hf
  obtain ⟨Ib, hIb⟩ : ∃ Ib : IMem, Ib = I0 := ⟨I0, rfl⟩
  rw [← hIb]
  have f0 : ∀ q, ¬ M q → I0 q = Ib q := fun q _ => by rw [hIb]
  clear hIb
  obtain ⟨y1, I2, c_1, hf⟩ := of_zb hf
  have fI2 := fr_tr (fr_JS_isLatin1 M fu s0 I0 c_1) f0
  rcases of_ite hf with ⟨_, hf⟩ | ⟨_, hf⟩
  · obtain ⟨y4, I5, c_2, hf⟩ := of_zb hf
    have fI5 := fr_tr (fr_JS_length M fu s0 I2 c_2) fI2
    cases hf
  · obtain ⟨y7, I8, c_3, hf⟩ := of_zb hf
    have fI8 := fr_tr (fr_JS_length M fu s0 I2 c_3) fI2
    obtain ⟨y10, I11, c_4, hf⟩ := of_zb hf
    have fI11 := fr_tr (fr_JL_indexOf M fu s0 a1 a2 y7 I8 c_4) fI8
    cases hf; exact fI11
theorem fr_JS_indexOf (M : Nat → Prop) (fu : Nat) (s0 : Nat) (a1 : Int) (I0 : IMem) {r : Int × IMem} (hf : f_JS_indexOf fu s0 a1 I0 = some r) : ∀ q, ¬ M q → r.2 q = I0 q := by
  unfold f_JS_indexOf at hf
  obtain ⟨Ib, hIb⟩ : ∃ Ib : IMem, Ib = I0 := ⟨I0, rfl⟩
  rw [← hIb]
  have f0 : ∀ q, ¬ M q → I0 q = Ib q := fun q _ => by rw [hIb]
  clear hIb
  obtain ⟨y1, I2, c_1, hf⟩ := of_zb hf
  have fI2 := fr_tr (fr_JS_indexOf_1 M fu s0 a1 0 I0 c_1) f0
  cases hf; exact fI2
theorem fr_JP_checkIndex (M : Nat → Prop) (fu : Nat) (a0 : Int) (a1 : Int) (I0 : IMem) {r : Int × IMem} (hf : f_JP_checkIndex fu a0 a1 I0 = some r) : ∀ q, ¬ M q → r.2 q = I0 q := by
  unfold f_JP_checkIndex at hf
  obtain ⟨Ib, hIb⟩ : ∃ Ib : IMem, Ib = I0 := ⟨I0, rfl⟩
  rw [← hIb]
  have f0 : ∀ q, ¬ M q → I0 q = Ib q := fun q _ => by rw [hIb]
  clear hIb
  obtain ⟨k1, ek1, hf⟩ := of_zj hf
  have hk1 : ∀  (I2 : IMem), (∀ q, ¬ M q → I2 q = Ib q) → k1 I2 = some r → ∀ q, ¬ M q → r.2 q = Ib q := by
    intro I2 fI2 hf
    subst ek1
    cases hf
  rcases of_ite hf with ⟨_, hf⟩ | ⟨_, hf⟩
  · exact hk1 I0 f0 hf
  · rcases of_ite hf with ⟨_, hf⟩ | ⟨_, hf⟩
    · cases hf; exact f0
    · exact hk1 I0 f0 hf
theorem fr_JS_checkIndex (M : Nat → Prop) (fu : Nat) (a0 : Int) (a1 : Int) (I0 : IMem) {r : Int × IMem} (hf : f_JS_checkIndex fu a0 a1 I0 = some r) : ∀ q, ¬ M q → r.2 q = I0 q := by
  unfold f_JS_checkIndex at hf
  obtain ⟨Ib, hIb⟩ : ∃ Ib : IMem, Ib = I0 := ⟨I0, rfl⟩
  rw [← hIb]
  have f0 : ∀ q, ¬ M q → I0 q = Ib q := fun q _ => by rw [hIb]
  clear hIb
  obtain ⟨y2, I3, c_1, hf⟩ := of_zb hf
  have fI3 := fr_tr (fr_JP_checkIndex M fu a0 a1 I0 c_1) f0
  cases hf; exact fI3
theorem fr_JL_charAt (M : Nat → Prop) (fu : Nat) (s0 : Nat) (a1 : Int) (I0 : IMem) {r : Int × IMem} (hf : f_JL_charAt fu s0 a1 I0 = some r) : ∀ q, ¬ M q → r.2 q = I0 q := by
  unfold f_JL_charAt at hf
  obtain ⟨Ib, hIb⟩ : ∃ Ib : IMem, Ib = I0 := ⟨I0, rfl⟩
  rw [← hIb]
  have f0 : ∀ q, ¬ M q → I0 q = Ib q := fun q _ => by rw [hIb]
  clear hIb
  obtain ⟨u_2, I2, c_1, hf⟩ := of_zb hf
  have fI2 := fr_tr (fr_JS_checkIndex M fu a1 ((lenJ.getD s0 0 : Nat)) I0 c_1) f0
  obtain ⟨g_3, hf⟩ := of_zg hf
  obtain ⟨g_4, hf⟩ := of_zg hf
  cases hf; exact fI2
theorem fr_JS_charAt (M : Nat → Prop) (fu : Nat) (s0 : Nat) (a1 : Int) (I0 : IMem) {r : Int × IMem} (hf : f_JS_charAt fu s0 a1 I0 = some r) : ∀ q, ¬ M q → r.2 q = I0 q := by
  unfold f_JS_charAt at hf
  obtain ⟨Ib, hIb⟩ : ∃ Ib : IMem, Ib = I0 := ⟨I0, rfl⟩
  rw [← hIb]
  have f0 : ∀ q, ¬ M q → I0 q = Ib q := fun q _ => by rw [hIb]
  clear hIb
  obtain ⟨y1, I2, c_1, hf⟩ := of_zb hf
  have fI2 := fr_tr (fr_JS_isLatin1 M fu s0 I0 c_1) f0
  rcases of_ite hf with ⟨_, hf⟩ | ⟨_, hf⟩
  · cases hf
  · obtain ⟨y4, I5, c_2, hf⟩ := of_zb hf
    have fI5 := fr_tr (fr_JL_charAt M fu s0 a1 I2 c_2) fI2
    obtain ⟨g_3, hf⟩ := of_zg hf
    cases hf; exact fI5
theorem fr_JM_floorMod (M : Nat → Prop) (fu : Nat) (a0 : Int) (a1 : Int) (I0 : IMem) {r : Int × IMem} (hf : f_JM_floorMod fu a0 a1 I0 = some r) : ∀ q, ¬ M q → r.2 q = I0 q := by
  unfold f_JM_floorMod at hf
  obtain ⟨Ib, hIb⟩ : ∃ Ib : IMem, Ib = I0 := ⟨I0, rfl⟩
  rw [← hIb]
  have f0 : ∀ q, ¬ M q → I0 q = Ib q := fun q _ => by rw [hIb]
  clear hIb
  obtain ⟨g_1, hf⟩ := of_zg hf
  obtain ⟨x1, -, hf⟩ := of_zl hf
  rcases of_ite hf with ⟨_, hf⟩ | ⟨_, hf⟩
  · rcases of_ite hf with ⟨_, hf⟩ | ⟨_, hf⟩
    · cases hf; exact f0
    · cases hf; exact f0
  · cases hf; exact f0
theorem fr_S_state (M : Nat → Prop) (fu : Nat) (o0 : Nat) (a1 : Int) (I0 : IMem) {r : Int × IMem} (m_o0_1 : M (o0 + 1)) (hf : f_S_state fu o0 a1 I0 = some r) : ∀ q, ¬ M q → r.2 q = I0 q := by
  unfold f_S_state at hf
  obtain ⟨Ib, hIb⟩ : ∃ Ib : IMem, Ib = I0 := ⟨I0, rfl⟩
  rw [← hIb]
  have f0 : ∀ q, ¬ M q → I0 q = Ib q := fun q _ => by rw [hIb]
  clear hIb
  obtain ⟨x1, -, hf⟩ := of_zl hf
  obtain ⟨I2, fI2, hf⟩ := fr_zw m_o0_1 f0 hf
  cases hf; exact fI2
theorem fr_C_clear (M : Nat → Prop) (fu : Nat) (o0 : Nat) (a1 : Int) (I0 : IMem) {r : Int × IMem} (m_o0_0 : M o0) (m_o0_1 : M (o0 + 1)) (hf : f_C_clear fu o0 a1 I0 = some r) : ∀ q, ¬ M q → r.2 q = I0 q := by
  unfold f_C_clear at hf
  obtain ⟨Ib, hIb⟩ : ∃ Ib : IMem, Ib = I0 := ⟨I0, rfl⟩
  rw [← hIb]
  have f0 : ∀ q, ¬ M q → I0 q = Ib q := fun q _ => by rw [hIb]
  clear hIb
  obtain ⟨u_2, I2, c_1, hf⟩ := of_zb hf
  have fI2 := fr_tr (fr_JA_fill M fu (o0 + 1) 240 0 I0 m_o0_1 c_1) f0
  obtain ⟨I4, fI4, hf⟩ := fr_zw m_o0_0 fI2 hf
  obtain ⟨I5, fI5, hf⟩ := fr_zw m_o0_0 fI4 hf
  obtain ⟨I6, fI6, hf⟩ := fr_zw m_o0_0 fI5 hf
  obtain ⟨I7, fI7, hf⟩ := fr_zw m_o0_0 fI6 hf
  obtain ⟨I8, fI8, hf⟩ := fr_zw m_o0_0 fI7 hf
  cases hf; exact fI8
theorem fr_S_canTell (M : Nat → Prop) (fu : Nat) (a0 : Int) (a1 : Int) (I0 : IMem) {r : Int × IMem} (hf : f_S_canTell fu a0 a1 I0 = some r) : ∀ q, ¬ M q → r.2 q = I0 q := by
  unfold f_S_canTell at hf
  obtain ⟨Ib, hIb⟩ : ∃ Ib : IMem, Ib = I0 := ⟨I0, rfl⟩
  rw [← hIb]
  have f0 : ∀ q, ¬ M q → I0 q = Ib q := fun q _ => by rw [hIb]
  clear hIb
  rcases of_ite hf with ⟨_, hf⟩ | ⟨_, hf⟩
  · cases hf; exact f0
  · rcases of_ite hf with ⟨_, hf⟩ | ⟨_, hf⟩
    · cases hf; exact f0
    · obtain ⟨g_1, hf⟩ := of_zg hf
      rcases of_ite hf with ⟨_, hf⟩ | ⟨_, hf⟩
      · cases hf; exact f0
      · obtain ⟨g_2, hf⟩ := of_zg hf
        rcases of_ite hf with ⟨_, hf⟩ | ⟨_, hf⟩
        · cases hf; exact f0
        · cases hf; exact f0
theorem fr_S_set (M : Nat → Prop) (fu : Nat) (o0 : Nat) (a1 : Int) (a2 : Int) (I0 : IMem) {r : Int × IMem} (m_o0_2 : M (o0 + 2)) (m_o0_137 : M (o0 + 137)) (m_o0_138 : M (o0 + 138)) (hf : f_S_set fu o0 a1 a2 I0 = some r) : ∀ q, ¬ M q → r.2 q = I0 q := by
  unfold f_S_set at hf
  obtain ⟨Ib, hIb⟩ : ∃ Ib : IMem, Ib = I0 := ⟨I0, rfl⟩
  rw [← hIb]
  have f0 : ∀ q, ¬ M q → I0 q = Ib q := fun q _ => by rw [hIb]
  clear hIb
  obtain ⟨y1, I2, c_1, hf⟩ := of_zb hf
  have fI2 := fr_tr (fr_S_canTell M fu a1 a2 I0 c_1) f0
  rcases of_ite hf with ⟨_, hf⟩ | ⟨_, hf⟩
  · cases hf; exact fI2
  · obtain ⟨g_2, hf⟩ := of_zg hf
    obtain ⟨I4, fI4, hf⟩ := fr_zw m_o0_2 fI2 hf
    rcases of_ite hf with ⟨_, hf⟩ | ⟨_, hf⟩
    · obtain ⟨u_4, I6, c_3, hf⟩ := of_zb hf
      have fI6 := fr_tr (fr_C_clear M fu (o0 + 137) a2 I4 m_o0_137 m_o0_138 c_3) fI4
      cases hf; exact fI6
    · cases hf; exact fI4
theorem fr_S_isLine (M : Nat → Prop) (fu : Nat) (a0 : Int) (I0 : IMem) {r : Int × IMem} (hf : f_S_isLine fu a0 I0 = some r) : ∀ q, ¬ M q → r.2 q = I0 q := by
  unfold f_S_isLine at hf
  obtain ⟨Ib, hIb⟩ : ∃ Ib : IMem, Ib = I0 := ⟨I0, rfl⟩
  rw [← hIb]
  have f0 : ∀ q, ¬ M q → I0 q = Ib q := fun q _ => by rw [hIb]
  clear hIb
  rcases of_ite hf with ⟨_, hf⟩ | ⟨_, hf⟩
  · cases hf; exact f0
  · rcases of_ite hf with ⟨_, hf⟩ | ⟨_, hf⟩
    · cases hf; exact f0
    · cases hf; exact f0
theorem fr_S_seen (M : Nat → Prop) (fu : Nat) (o0 : Nat) (a1 : Int) (a2 : Int) (I0 : IMem) {r : Int × IMem} (m_o0_10 : M (o0 + 10)) (hf : f_S_seen fu o0 a1 a2 I0 = some r) : ∀ q, ¬ M q → r.2 q = I0 q := by
  unfold f_S_seen at hf
  obtain ⟨Ib, hIb⟩ : ∃ Ib : IMem, Ib = I0 := ⟨I0, rfl⟩
  rw [← hIb]
  have f0 : ∀ q, ¬ M q → I0 q = Ib q := fun q _ => by rw [hIb]
  clear hIb
  obtain ⟨y1, I2, c_1, hf⟩ := of_zb hf
  have fI2 := fr_tr (fr_S_isLine M fu a1 I0 c_1) f0
  rcases of_ite hf with ⟨_, hf⟩ | ⟨_, hf⟩
  · cases hf; exact fI2
  · rcases of_ite hf with ⟨_, hf⟩ | ⟨_, hf⟩
    · cases hf; exact fI2
    · rcases of_ite hf with ⟨_, hf⟩ | ⟨_, hf⟩
      · cases hf; exact fI2
      · obtain ⟨g_2, hf⟩ := of_zg hf
        obtain ⟨I4, fI4, hf⟩ := fr_zw m_o0_10 fI2 hf
        cases hf; exact fI4
theorem fr_S_parts (M : Nat → Prop) (fu : Nat) (o0 : Nat) (a1 : Int) (a2 : Int) (I0 : IMem) {r : Int × IMem} (m_o0_4 : M (o0 + 4)) (hf : f_S_parts fu o0 a1 a2 I0 = some r) : ∀ q, ¬ M q → r.2 q = I0 q := by
  unfold f_S_parts at hf
  obtain ⟨Ib, hIb⟩ : ∃ Ib : IMem, Ib = I0 := ⟨I0, rfl⟩
  rw [← hIb]
  have f0 : ∀ q, ¬ M q → I0 q = Ib q := fun q _ => by rw [hIb]
  clear hIb
  rcases of_ite hf with ⟨_, hf⟩ | ⟨_, hf⟩
  · cases hf; exact f0
  · rcases of_ite hf with ⟨_, hf⟩ | ⟨_, hf⟩
    · cases hf; exact f0
    · rcases of_ite hf with ⟨_, hf⟩ | ⟨_, hf⟩
      · cases hf; exact f0
      · rcases of_ite hf with ⟨_, hf⟩ | ⟨_, hf⟩
        · obtain ⟨g_1, hf⟩ := of_zg hf
          obtain ⟨I1, fI1, hf⟩ := fr_zw m_o0_4 f0 hf
          cases hf; exact fI1
        · cases hf; exact f0
theorem fr_H_tellComer (M : Nat → Prop) (fu : Nat) (o0 : Nat) (a1 : Int) (a2 : Int) (a3 : Int) (a4 : Int) (a5 : Int) (I0 : IMem) {r : Int × IMem} (m_o0_4 : M (o0 + 4)) (hf : f_H_tellComer fu o0 a1 a2 a3 a4 a5 I0 = some r) : ∀ q, ¬ M q → r.2 q = I0 q := by
  unfold f_H_tellComer at hf
  obtain ⟨Ib, hIb⟩ : ∃ Ib : IMem, Ib = I0 := ⟨I0, rfl⟩
  rw [← hIb]
  have f0 : ∀ q, ¬ M q → I0 q = Ib q := fun q _ => by rw [hIb]
  clear hIb
  rcases of_ite hf with ⟨_, hf⟩ | ⟨_, hf⟩
  · cases hf; exact f0
  · rcases of_ite hf with ⟨_, hf⟩ | ⟨_, hf⟩
    · obtain ⟨x2, -, hf⟩ := of_zl hf
      obtain ⟨g_1, hf⟩ := of_zg hf
      obtain ⟨I1, fI1, hf⟩ := fr_zw m_o0_4 f0 hf
      obtain ⟨x4, -, hf⟩ := of_zl hf
      obtain ⟨g_2, hf⟩ := of_zg hf
      obtain ⟨I3, fI3, hf⟩ := fr_zw m_o0_4 fI1 hf
      obtain ⟨x6, -, hf⟩ := of_zl hf
      obtain ⟨g_3, hf⟩ := of_zg hf
      obtain ⟨I5, fI5, hf⟩ := fr_zw m_o0_4 fI3 hf
      obtain ⟨x8, -, hf⟩ := of_zl hf
      obtain ⟨g_4, hf⟩ := of_zg hf
      obtain ⟨I7, fI7, hf⟩ := fr_zw m_o0_4 fI5 hf
      cases hf; exact fI7
    · cases hf; exact f0
theorem fr_S_canBe (M : Nat → Prop) (fu : Nat) (a0 : Int) (a1 : Int) (a2 : Int) (I0 : IMem) {r : Int × IMem} (hf : f_S_canBe fu a0 a1 a2 I0 = some r) : ∀ q, ¬ M q → r.2 q = I0 q := by
  unfold f_S_canBe at hf
  obtain ⟨Ib, hIb⟩ : ∃ Ib : IMem, Ib = I0 := ⟨I0, rfl⟩
  rw [← hIb]
  have f0 : ∀ q, ¬ M q → I0 q = Ib q := fun q _ => by rw [hIb]
  clear hIb
  rcases of_ite hf with ⟨_, hf⟩ | ⟨_, hf⟩
  · cases hf; exact f0
  · rcases of_ite hf with ⟨_, hf⟩ | ⟨_, hf⟩
    · cases hf; exact f0
    · rcases of_ite hf with ⟨_, hf⟩ | ⟨_, hf⟩
      · cases hf; exact f0
      · rcases of_ite hf with ⟨_, hf⟩ | ⟨_, hf⟩
        · cases hf; exact f0
        · rcases of_ite hf with ⟨_, hf⟩ | ⟨_, hf⟩
          · cases hf; exact f0
          · rcases of_ite hf with ⟨_, hf⟩ | ⟨_, hf⟩
            · cases hf; exact f0
            · cases hf; exact f0
theorem fr_S_comer (M : Nat → Prop) (fu : Nat) (o0 : Nat) (a1 : Int) (a2 : Int) (a3 : Int) (a4 : Int) (a5 : Int) (I0 : IMem) {r : Int × IMem} (m_o0_5 : M (o0 + 5)) (hf : f_S_comer fu o0 a1 a2 a3 a4 a5 I0 = some r) : ∀ q, ¬ M q → r.2 q = I0 q := by
  unfold f_S_comer at hf
  obtain ⟨Ib, hIb⟩ : ∃ Ib : IMem, Ib = I0 := ⟨I0, rfl⟩
  rw [← hIb]
  have f0 : ∀ q, ¬ M q → I0 q = Ib q := fun q _ => by rw [hIb]
  clear hIb
  rcases of_ite hf with ⟨_, hf⟩ | ⟨_, hf⟩
  · cases hf; exact f0
  · rcases of_ite hf with ⟨_, hf⟩ | ⟨_, hf⟩
    · obtain ⟨y1, I2, c_1, hf⟩ := of_zb hf
      have fI2 := fr_tr (fr_S_canBe M fu a2 a3 a4 I0 c_1) f0
      rcases of_ite hf with ⟨_, hf⟩ | ⟨_, hf⟩
      · cases hf; exact fI2
      · rcases of_ite hf with ⟨_, hf⟩ | ⟨_, hf⟩
        · cases hf; exact fI2
        · rcases of_ite hf with ⟨_, hf⟩ | ⟨_, hf⟩
          · cases hf; exact fI2
          · obtain ⟨u_3, I5, c_2, hf⟩ := of_zb hf
            have fI5 := fr_tr (fr_H_tellComer M fu (o0 + 1) a1 a2 a3 a4 a5 I2 m_o0_5 c_2) fI2
            cases hf; exact fI5
    · cases hf; exact f0
theorem fr_R_hasRoomForFive (M : Nat → Prop) (fu : Nat) (o0 : Nat) (I0 : IMem) {r : Int × IMem} (hf : f_R_hasRoomForFive fu o0 I0 = some r) : ∀ q, ¬ M q → r.2 q = I0 q := by
  unfold f_R_hasRoomForFive at hf
  obtain ⟨Ib, hIb⟩ : ∃ Ib : IMem, Ib = I0 := ⟨I0, rfl⟩
  rw [← hIb]
  have f0 : ∀ q, ¬ M q → I0 q = Ib q := fun q _ => by rw [hIb]
  clear hIb
  rcases of_ite hf with ⟨_, hf⟩ | ⟨_, hf⟩
  · cases hf; exact f0
  · cases hf; exact f0
theorem fr_R_take_3 (M : Nat → Prop) (fu : Nat) {r : Int × IMem} {Ib : IMem} (o0 : Nat) (p1 : Int) (m_o0_0 : M o0) (m_o0_1 : M (o0 + 1)) : ∀ (m : Nat) (w2 : Int) (I0 : IMem), (∀ q, ¬ M q → I0 q = Ib q) → f_R_take_3 fu o0 p1 m w2 I0 = some r → ∀ q, ¬ M q → r.2 q = Ib q := by
  intro m
  induction m with
  | zero => intro w2 I0 _ hf; cases hf
  | succ m hR_ =>
    intro w2 I0 fI0 hf
    replace hf : fb_R_take_3 fu o0 p1 (f_R_take_3 fu o0 p1 m) w2 I0 = some r := hf
    unfold fb_R_take_3 at hf
    rcases of_ite hf with ⟨_, hf⟩ | ⟨_, hf⟩
    · cases hf; exact fI0
    · obtain ⟨k1, ek1, hf⟩ := of_zj hf
      have hk1 : ∀  (I2 : IMem), (∀ q, ¬ M q → I2 q = Ib q) → k1 I2 = some r → ∀ q, ¬ M q → r.2 q = Ib q := by
        intro I2 fI2 hf
        subst ek1
        obtain ⟨x3, -, hf⟩ := of_zl hf
        exact hR_ x3 I2 fI2 hf
      rcases of_ite hf with ⟨_, hf⟩ | ⟨_, hf⟩
      · exact hk1 I0 fI0 hf
      · rcases of_ite hf with ⟨_, hf⟩ | ⟨_, hf⟩
        · obtain ⟨x5, -, hf⟩ := of_zl hf
          obtain ⟨g_1, hf⟩ := of_zg hf
          obtain ⟨I4, fI4, hf⟩ := fr_zw m_o0_1 fI0 hf
          obtain ⟨I6, fI6, hf⟩ := fr_zw m_o0_0 fI4 hf
          exact hk1 I6 fI6 hf
        · exact hk1 I0 fI0 hf
theorem fr_R_take (M : Nat → Prop) (fu : Nat) (o0 : Nat) (a1 : Int) (I0 : IMem) {r : Int × IMem} (m_o0_0 : M o0) (m_o0_1 : M (o0 + 1)) (hf : f_R_take fu o0 a1 I0 = some r) : ∀ q, ¬ M q → r.2 q = I0 q := by
  unfold f_R_take at hf
  obtain ⟨Ib, hIb⟩ : ∃ Ib : IMem, Ib = I0 := ⟨I0, rfl⟩
  rw [← hIb]
  have f0 : ∀ q, ¬ M q → I0 q = Ib q := fun q _ => by rw [hIb]
  clear hIb
  refine fr_R_take_3 M fu o0 a1 m_o0_0 m_o0_1 fu 24 I0 f0 hf
theorem fr_S_feed (M : Nat → Prop) (fu : Nat) (o0 : Nat) (a1 : Int) (a2 : Int) (a3 : Int) (a4 : Int) (a5 : Int) (I0 : IMem) {r : Int × IMem} (m_o0_144 : M (o0 + 144)) (m_o0_145 : M (o0 + 145)) (hf : f_S_feed fu o0 a1 a2 a3 a4 a5 I0 = some r) : ∀ q, ¬ M q → r.2 q = I0 q := by
  unfold f_S_feed at hf
  obtain ⟨Ib, hIb⟩ : ∃ Ib : IMem, Ib = I0 := ⟨I0, rfl⟩
  rw [← hIb]
  have f0 : ∀ q, ¬ M q → I0 q = Ib q := fun q _ => by rw [hIb]
  clear hIb
  obtain ⟨y1, I2, c_1, hf⟩ := of_zb hf
  have fI2 := fr_tr (fr_R_hasRoomForFive M fu (o0 + 144) I0 c_1) f0
  rcases of_ite hf with ⟨_, hf⟩ | ⟨_, hf⟩
  · cases hf; exact fI2
  · obtain ⟨u_3, I5, c_2, hf⟩ := of_zb hf
    have fI5 := fr_tr (fr_R_take M fu (o0 + 144) a1 I2 m_o0_144 m_o0_145 c_2) fI2
    obtain ⟨u_5, I8, c_4, hf⟩ := of_zb hf
    have fI8 := fr_tr (fr_R_take M fu (o0 + 144) a2 I5 m_o0_144 m_o0_145 c_4) fI5
    obtain ⟨u_7, I11, c_6, hf⟩ := of_zb hf
    have fI11 := fr_tr (fr_R_take M fu (o0 + 144) a3 I8 m_o0_144 m_o0_145 c_6) fI8
    obtain ⟨u_9, I14, c_8, hf⟩ := of_zb hf
    have fI14 := fr_tr (fr_R_take M fu (o0 + 144) a4 I11 m_o0_144 m_o0_145 c_8) fI11
    obtain ⟨u_11, I17, c_10, hf⟩ := of_zb hf
    have fI17 := fr_tr (fr_R_take M fu (o0 + 144) a5 I14 m_o0_144 m_o0_145 c_10) fI14
    cases hf; exact fI17
theorem fr_R_cut (M : Nat → Prop) (fu : Nat) (o0 : Nat) (a1 : Int) (I0 : IMem) {r : Int × IMem} (m_o0_0 : M o0) (hf : f_R_cut fu o0 a1 I0 = some r) : ∀ q, ¬ M q → r.2 q = I0 q := by
  unfold f_R_cut at hf
  obtain ⟨Ib, hIb⟩ : ∃ Ib : IMem, Ib = I0 := ⟨I0, rfl⟩
  rw [← hIb]
  have f0 : ∀ q, ¬ M q → I0 q = Ib q := fun q _ => by rw [hIb]
  clear hIb
  rcases of_ite hf with ⟨_, hf⟩ | ⟨_, hf⟩
  · cases hf; exact f0
  · rcases of_ite hf with ⟨_, hf⟩ | ⟨_, hf⟩
    · cases hf; exact f0
    · obtain ⟨I1, fI1, hf⟩ := fr_zw m_o0_0 f0 hf
      cases hf; exact fI1
theorem fr_S_end (M : Nat → Prop) (fu : Nat) (o0 : Nat) (a1 : Int) (I0 : IMem) {r : Int × IMem} (m_o0_144 : M (o0 + 144)) (hf : f_S_end fu o0 a1 I0 = some r) : ∀ q, ¬ M q → r.2 q = I0 q := by
  unfold f_S_end at hf
  obtain ⟨Ib, hIb⟩ : ∃ Ib : IMem, Ib = I0 := ⟨I0, rfl⟩
  rw [← hIb]
  have f0 : ∀ q, ¬ M q → I0 q = Ib q := fun q _ => by rw [hIb]
  clear hIb
  obtain ⟨y1, I2, c_1, hf⟩ := of_zb hf
  have fI2 := fr_tr (fr_R_cut M fu (o0 + 144) a1 I0 m_o0_144 c_1) f0
  obtain ⟨g_2, hf⟩ := of_zg hf
  cases hf; exact fI2
theorem fr_R_forget (M : Nat → Prop) (fu : Nat) (o0 : Nat) (I0 : IMem) {r : Int × IMem} (m_o0_0 : M o0) (hf : f_R_forget fu o0 I0 = some r) : ∀ q, ¬ M q → r.2 q = I0 q := by
  unfold f_R_forget at hf
  obtain ⟨Ib, hIb⟩ : ∃ Ib : IMem, Ib = I0 := ⟨I0, rfl⟩
  rw [← hIb]
  have f0 : ∀ q, ¬ M q → I0 q = Ib q := fun q _ => by rw [hIb]
  clear hIb
  obtain ⟨I1, fI1, hf⟩ := fr_zw m_o0_0 f0 hf
  obtain ⟨I2, fI2, hf⟩ := fr_zw m_o0_0 fI1 hf
  obtain ⟨I3, fI3, hf⟩ := fr_zw m_o0_0 fI2 hf
  cases hf; exact fI3
theorem fr_R_advance (M : Nat → Prop) (fu : Nat) (o0 : Nat) (I0 : IMem) {r : Int × IMem} (m_o0_0 : M o0) (hf : f_R_advance fu o0 I0 = some r) : ∀ q, ¬ M q → r.2 q = I0 q := by
  unfold f_R_advance at hf
  obtain ⟨Ib, hIb⟩ : ∃ Ib : IMem, Ib = I0 := ⟨I0, rfl⟩
  rw [← hIb]
  have f0 : ∀ q, ¬ M q → I0 q = Ib q := fun q _ => by rw [hIb]
  clear hIb
  obtain ⟨x1, -, hf⟩ := of_zl hf
  rcases of_ite hf with ⟨_, hf⟩ | ⟨_, hf⟩
  · rcases of_ite hf with ⟨_, hf⟩ | ⟨_, hf⟩
    · cases hf; exact f0
    · rcases of_ite hf with ⟨_, hf⟩ | ⟨_, hf⟩
      · cases hf; exact f0
      · rcases of_ite hf with ⟨_, hf⟩ | ⟨_, hf⟩
        · obtain ⟨I2, fI2, hf⟩ := fr_zw m_o0_0 f0 hf
          obtain ⟨g_1, hf⟩ := of_zg hf
          obtain ⟨I3, fI3, hf⟩ := fr_zw m_o0_0 fI2 hf
          obtain ⟨g_2, hf⟩ := of_zg hf
          obtain ⟨I4, fI4, hf⟩ := fr_zw m_o0_0 fI3 hf
          cases hf; exact fI4
        · cases hf; exact f0
  · cases hf; exact f0
theorem fr_R_fail (M : Nat → Prop) (fu : Nat) (o0 : Nat) (a1 : Int) (I0 : IMem) {r : Int × IMem} (m_o0_0 : M o0) (hf : f_R_fail fu o0 a1 I0 = some r) : ∀ q, ¬ M q → r.2 q = I0 q := by
  unfold f_R_fail at hf
  obtain ⟨Ib, hIb⟩ : ∃ Ib : IMem, Ib = I0 := ⟨I0, rfl⟩
  rw [← hIb]
  have f0 : ∀ q, ¬ M q → I0 q = Ib q := fun q _ => by rw [hIb]
  clear hIb
  rcases of_ite hf with ⟨_, hf⟩ | ⟨_, hf⟩
  · rcases of_ite hf with ⟨_, hf⟩ | ⟨_, hf⟩
    · cases hf; exact f0
    · rcases of_ite hf with ⟨_, hf⟩ | ⟨_, hf⟩
      · cases hf; exact f0
      · obtain ⟨I1, fI1, hf⟩ := fr_zw m_o0_0 f0 hf
        obtain ⟨x2, -, hf⟩ := of_zl hf
        obtain ⟨g_1, hf⟩ := of_zg hf
        obtain ⟨I3, fI3, hf⟩ := fr_zw m_o0_0 fI1 hf
        cases hf; exact fI3
  · cases hf; exact f0
theorem fr_R_expect (M : Nat → Prop) (fu : Nat) (o0 : Nat) (a1 : Int) (I0 : IMem) {r : Int × IMem} (m_o0_0 : M o0) (hf : f_R_expect fu o0 a1 I0 = some r) : ∀ q, ¬ M q → r.2 q = I0 q := by
  unfold f_R_expect at hf
  obtain ⟨Ib, hIb⟩ : ∃ Ib : IMem, Ib = I0 := ⟨I0, rfl⟩
  rw [← hIb]
  have f0 : ∀ q, ¬ M q → I0 q = Ib q := fun q _ => by rw [hIb]
  clear hIb
  rcases of_ite hf with ⟨_, hf⟩ | ⟨_, hf⟩
  · obtain ⟨u_2, I5, c_1, hf⟩ := of_zb hf
    have fI5 := fr_tr (fr_R_advance M fu o0 I0 m_o0_0 c_1) f0
    cases hf; exact fI5
  · obtain ⟨u_4, I2, c_3, hf⟩ := of_zb hf
    have fI2 := fr_tr (fr_R_fail M fu o0 1 I0 m_o0_0 c_3) f0
    cases hf; exact fI2
theorem fr_W_addStep (M : Nat → Prop) (fu : Nat) (o0 : Nat) (a1 : Int) (I0 : IMem) {r : Int × IMem} (m_o0_0 : M o0) (m_o0_1 : M (o0 + 1)) (hf : f_W_addStep fu o0 a1 I0 = some r) : ∀ q, ¬ M q → r.2 q = I0 q := by
  unfold f_W_addStep at hf
  obtain ⟨Ib, hIb⟩ : ∃ Ib : IMem, Ib = I0 := ⟨I0, rfl⟩
  rw [← hIb]
  have f0 : ∀ q, ¬ M q → I0 q = Ib q := fun q _ => by rw [hIb]
  clear hIb
  rcases of_ite hf with ⟨_, hf⟩ | ⟨_, hf⟩
  · cases hf; exact f0
  · rcases of_ite hf with ⟨_, hf⟩ | ⟨_, hf⟩
    · obtain ⟨x2, -, hf⟩ := of_zl hf
      obtain ⟨g_1, hf⟩ := of_zg hf
      obtain ⟨I1, fI1, hf⟩ := fr_zw m_o0_1 f0 hf
      obtain ⟨I3, fI3, hf⟩ := fr_zw m_o0_0 fI1 hf
      cases hf; exact fI3
    · cases hf; exact f0
theorem fr_R_readDivisor (M : Nat → Prop) (fu : Nat) (o0 : Nat) (I0 : IMem) {r : Int × IMem} (m_o0_0 : M o0) (m_o0_5 : M (o0 + 5)) (m_o0_6 : M (o0 + 6)) (hf : f_R_readDivisor fu o0 I0 = some r) : ∀ q, ¬ M q → r.2 q = I0 q := by
  unfold f_R_readDivisor at hf
  obtain ⟨Ib, hIb⟩ : ∃ Ib : IMem, Ib = I0 := ⟨I0, rfl⟩
  rw [← hIb]
  have f0 : ∀ q, ¬ M q → I0 q = Ib q := fun q _ => by rw [hIb]
  clear hIb
  rcases of_ite hf with ⟨_, hf⟩ | ⟨_, hf⟩
  · rcases of_ite hf with ⟨_, hf⟩ | ⟨_, hf⟩
    · obtain ⟨u_2, I11, c_1, hf⟩ := of_zb hf
      have fI11 := fr_tr (fr_R_fail M fu o0 2 I0 m_o0_0 c_1) f0
      cases hf; exact fI11
    · obtain ⟨u_4, I2, c_3, hf⟩ := of_zb hf
      have fI2 := fr_tr (fr_W_addStep M fu (o0 + 5) (I0 o0 8) I0 m_o0_5 m_o0_6 c_3) f0
      obtain ⟨u_6, I5, c_5, hf⟩ := of_zb hf
      have fI5 := fr_tr (fr_W_addStep M fu (o0 + 5) ((-4)) I2 m_o0_5 m_o0_6 c_5) fI2
      obtain ⟨u_8, I8, c_7, hf⟩ := of_zb hf
      have fI8 := fr_tr (fr_R_advance M fu o0 I5 m_o0_0 c_7) fI5
      cases hf; exact fI8
  · obtain ⟨u_10, I14, c_9, hf⟩ := of_zb hf
    have fI14 := fr_tr (fr_R_fail M fu o0 1 I0 m_o0_0 c_9) f0
    cases hf; exact fI14
theorem fr_R_readUnit (M : Nat → Prop) (fu : Nat) (o0 : Nat) (I0 : IMem) {r : Int × IMem} (m_o0_0 : M o0) (m_o0_5 : M (o0 + 5)) (m_o0_6 : M (o0 + 6)) (hf : f_R_readUnit fu o0 I0 = some r) : ∀ q, ¬ M q → r.2 q = I0 q := by
  unfold f_R_readUnit at hf
  obtain ⟨Ib, hIb⟩ : ∃ Ib : IMem, Ib = I0 := ⟨I0, rfl⟩
  rw [← hIb]
  have f0 : ∀ q, ¬ M q → I0 q = Ib q := fun q _ => by rw [hIb]
  clear hIb
  obtain ⟨k1, ek1, hf⟩ := of_zj hf
  have hk1 : ∀ (x3 : Int) (I2 : IMem), (∀ q, ¬ M q → I2 q = Ib q) → k1 x3 I2 = some r → ∀ q, ¬ M q → r.2 q = Ib q := by
    intro x3 I2 fI2 hf
    subst ek1
    obtain ⟨k4, ek4, hf⟩ := of_zj hf
    have hk4 : ∀ (x6 : Int) (I5 : IMem), (∀ q, ¬ M q → I5 q = Ib q) → k4 x6 I5 = some r → ∀ q, ¬ M q → r.2 q = Ib q := by
      intro x6 I5 fI5 hf
      subst ek4
      rcases of_ite hf with ⟨_, hf⟩ | ⟨_, hf⟩
      · obtain ⟨u_2, I19, c_1, hf⟩ := of_zb hf
        have fI19 := fr_tr (fr_W_addStep M fu (o0 + 5) (I5 o0 8) I5 m_o0_5 m_o0_6 c_1) fI5
        obtain ⟨u_4, I22, c_3, hf⟩ := of_zb hf
        have fI22 := fr_tr (fr_R_advance M fu o0 I19 m_o0_0 c_3) fI19
        cases hf; exact fI22
      · obtain ⟨k7, ek7, hf⟩ := of_zj hf
        have hk7 : ∀  (I8 : IMem), (∀ q, ¬ M q → I8 q = Ib q) → k7 I8 = some r → ∀ q, ¬ M q → r.2 q = Ib q := by
          intro I8 fI8 hf
          subst ek7
          obtain ⟨u_6, I10, c_5, hf⟩ := of_zb hf
          have fI10 := fr_tr (fr_R_fail M fu o0 1 I8 m_o0_0 c_5) fI8
          cases hf; exact fI10
        rcases of_ite hf with ⟨_, hf⟩ | ⟨_, hf⟩
        · exact hk7 I5 fI5 hf
        · rcases of_ite hf with ⟨_, hf⟩ | ⟨_, hf⟩
          · exact hk7 I5 fI5 hf
          · obtain ⟨u_8, I13, c_7, hf⟩ := of_zb hf
            have fI13 := fr_tr (fr_W_addStep M fu (o0 + 5) (wr32 (10000 + (I5 o0 7))) I5 m_o0_5 m_o0_6 c_7) fI5
            obtain ⟨u_10, I16, c_9, hf⟩ := of_zb hf
            have fI16 := fr_tr (fr_R_advance M fu o0 I13 m_o0_0 c_9) fI13
            cases hf; exact fI16
    rcases of_ite hf with ⟨_, hf⟩ | ⟨_, hf⟩
    · exact hk4 15 I2 fI2 hf
    · exact hk4 8 I2 fI2 hf
  rcases of_ite hf with ⟨_, hf⟩ | ⟨_, hf⟩
  · exact hk1 7 I0 f0 hf
  · exact hk1 5 I0 f0 hf
theorem fr_R_readSum_8 (M : Nat → Prop) (fu : Nat) {r : Int × IMem} {Ib : IMem} (k_121 : Int → IMem → Res) (o0 : Nat) (m_o0_0 : M o0) (m_o0_5 : M (o0 + 5)) (m_o0_6 : M (o0 + 6)) (hk_121 : ∀ (z0 : Int) (I9 : IMem), (∀ q, ¬ M q → I9 q = Ib q) → k_121 z0 I9 = some r → ∀ q, ¬ M q → r.2 q = Ib q) : ∀ (m : Nat) (w1 : Int) (w2 : Int) (I0 : IMem), (∀ q, ¬ M q → I0 q = Ib q) → f_R_readSum_8 fu k_121 o0 m w1 w2 I0 = some r → ∀ q, ¬ M q → r.2 q = Ib q := by
  intro m
  induction m with
  | zero => intro w1 w2 I0 _ hf; cases hf
  | succ m hR_ =>
    intro w1 w2 I0 fI0 hf
    replace hf : fb_R_readSum_8 fu k_121 o0 (f_R_readSum_8 fu k_121 o0 m) w1 w2 I0 = some r := hf
    unfold fb_R_readSum_8 at hf
    rcases of_ite hf with ⟨_, hf⟩ | ⟨_, hf⟩
    · rcases of_ite hf with ⟨_, hf⟩ | ⟨_, hf⟩
      · obtain ⟨x4, -, hf⟩ := of_zl hf
        obtain ⟨k5, ek5, hf⟩ := of_zj hf
        have hk5 : ∀ (x7 : Int) (I6 : IMem), (∀ q, ¬ M q → I6 q = Ib q) → k5 x7 I6 = some r → ∀ q, ¬ M q → r.2 q = Ib q := by
          intro x7 I6 fI6 hf
          subst ek5
          obtain ⟨x8, -, hf⟩ := of_zl hf
          exact hR_ x7 x8 I6 fI6 hf
        rcases of_ite hf with ⟨_, hf⟩ | ⟨_, hf⟩
        · obtain ⟨u_2, I32, c_1, hf⟩ := of_zb hf
          have fI32 := fr_tr (fr_R_advance M fu o0 I0 m_o0_0 c_1) fI0
          obtain ⟨u_4, I35, c_3, hf⟩ := of_zb hf
          have fI35 := fr_tr (fr_R_readUnit M fu o0 I32 m_o0_0 m_o0_5 m_o0_6 c_3) fI32
          obtain ⟨u_6, I38, c_5, hf⟩ := of_zb hf
          have fI38 := fr_tr (fr_W_addStep M fu (o0 + 5) ((-3)) I35 m_o0_5 m_o0_6 c_5) fI35
          exact hk5 w1 I38 fI38 hf
        · rcases of_ite hf with ⟨_, hf⟩ | ⟨_, hf⟩
          · obtain ⟨u_8, I26, c_7, hf⟩ := of_zb hf
            have fI26 := fr_tr (fr_R_advance M fu o0 I0 m_o0_0 c_7) fI0
            obtain ⟨u_10, I29, c_9, hf⟩ := of_zb hf
            have fI29 := fr_tr (fr_R_readDivisor M fu o0 I26 m_o0_0 m_o0_5 m_o0_6 c_9) fI26
            exact hk5 w1 I29 fI29 hf
          · obtain ⟨k9, ek9, hf⟩ := of_zj hf
            have hk9 : ∀  (I10 : IMem), (∀ q, ¬ M q → I10 q = Ib q) → k9 I10 = some r → ∀ q, ¬ M q → r.2 q = Ib q := by
              intro I10 fI10 hf
              subst ek9
              obtain ⟨u_12, I12, c_11, hf⟩ := of_zb hf
              have fI12 := fr_tr (fr_R_advance M fu o0 I10 m_o0_0 c_11) fI10
              obtain ⟨k14, ek14, hf⟩ := of_zj hf
              have hk14 : ∀  (I15 : IMem), (∀ q, ¬ M q → I15 q = Ib q) → k14 I15 = some r → ∀ q, ¬ M q → r.2 q = Ib q := by
                intro I15 fI15 hf
                subst ek14
                obtain ⟨k16, ek16, hf⟩ := of_zj hf
                have hk16 : ∀ (x18 : Int) (I17 : IMem), (∀ q, ¬ M q → I17 q = Ib q) → k16 x18 I17 = some r → ∀ q, ¬ M q → r.2 q = Ib q := by
                  intro x18 I17 fI17 hf
                  subst ek16
                  obtain ⟨u_14, I20, c_13, hf⟩ := of_zb hf
                  have fI20 := fr_tr (fr_R_readUnit M fu o0 I17 m_o0_0 m_o0_5 m_o0_6 c_13) fI17
                  exact hk5 x18 I20 fI20 hf
                rcases of_ite hf with ⟨_, hf⟩ | ⟨_, hf⟩
                · exact hk16 ((-1)) I15 fI15 hf
                · exact hk16 ((-2)) I15 fI15 hf
              rcases of_ite hf with ⟨_, hf⟩ | ⟨_, hf⟩
              · exact hk14 I12 fI12 hf
              · obtain ⟨u_16, I23, c_15, hf⟩ := of_zb hf
                have fI23 := fr_tr (fr_W_addStep M fu (o0 + 5) w1 I12 m_o0_5 m_o0_6 c_15) fI12
                exact hk14 I23 fI23 hf
            rcases of_ite hf with ⟨_, hf⟩ | ⟨_, hf⟩
            · exact hk9 I0 fI0 hf
            · rcases of_ite hf with ⟨_, hf⟩ | ⟨_, hf⟩
              · exact hk9 I0 fI0 hf
              · exact hk_121 w1 I0 fI0 hf
      · exact hk_121 w1 I0 fI0 hf
    · exact hk_121 w1 I0 fI0 hf
theorem fr_R_readSum (M : Nat → Prop) (fu : Nat) (o0 : Nat) (I0 : IMem) {r : Int × IMem} (m_o0_0 : M o0) (m_o0_5 : M (o0 + 5)) (m_o0_6 : M (o0 + 6)) (hf : f_R_readSum fu o0 I0 = some r) : ∀ q, ¬ M q → r.2 q = I0 q := by
  unfold f_R_readSum at hf
  obtain ⟨Ib, hIb⟩ : ∃ Ib : IMem, Ib = I0 := ⟨I0, rfl⟩
  rw [← hIb]
  have f0 : ∀ q, ¬ M q → I0 q = Ib q := fun q _ => by rw [hIb]
  clear hIb
  obtain ⟨u_2, I2, c_1, hf⟩ := of_zb hf
  have fI2 := fr_tr (fr_R_readUnit M fu o0 I0 m_o0_0 m_o0_5 m_o0_6 c_1) f0
  refine fr_R_readSum_8 M fu _ o0 m_o0_0 m_o0_5 m_o0_6 ?_ fu 0 0 I2 fI2 hf
  · intro x41 I40 fI40 hf
    rcases of_ite hf with ⟨_, hf⟩ | ⟨_, hf⟩
    · cases hf; exact fI40
    · obtain ⟨u_4, I43, c_3, hf⟩ := of_zb hf
      have fI43 := fr_tr (fr_W_addStep M fu (o0 + 5) x41 I40 m_o0_5 m_o0_6 c_3) fI40
      cases hf; exact fI43
theorem fr_R_readEither_9 (M : Nat → Prop) (fu : Nat) (R : (Nat → Int → IMem → Res) × (Nat → Int → IMem → Res)) (hR : (∀ (o0 : Nat) (a1 : Int) (I0 : IMem) (r : Int × IMem), M o0 → M (o0 + 5) → M (o0 + 6) → R.1 o0 a1 I0 = some r → ∀ q, ¬ M q → r.2 q = I0 q) ∧ (∀ (o0 : Nat) (a1 : Int) (I0 : IMem) (r : Int × IMem), M o0 → M (o0 + 5) → M (o0 + 6) → R.2 o0 a1 I0 = some r → ∀ q, ¬ M q → r.2 q = I0 q)) {r : Int × IMem} {Ib : IMem} (k_106 : Int → IMem → Res) (o0 : Nat) (p1 : Int) (m_o0_0 : M o0) (m_o0_5 : M (o0 + 5)) (m_o0_6 : M (o0 + 6)) (hk_106 : ∀ (z0 : Int) (I9 : IMem), (∀ q, ¬ M q → I9 q = Ib q) → k_106 z0 I9 = some r → ∀ q, ¬ M q → r.2 q = Ib q) : ∀ (m : Nat) (w2 : Int) (w3 : Int) (I0 : IMem), (∀ q, ¬ M q → I0 q = Ib q) → f_R_readEither_9 fu R k_106 o0 p1 m w2 w3 I0 = some r → ∀ q, ¬ M q → r.2 q = Ib q := by
  intro m
  induction m with
  | zero => intro w2 w3 I0 _ hf; cases hf
  | succ m hR_ =>
    intro w2 w3 I0 fI0 hf
    replace hf : fb_R_readEither_9 fu R k_106 o0 p1 (f_R_readEither_9 fu R k_106 o0 p1 m) w2 w3 I0 = some r := hf
    unfold fb_R_readEither_9 at hf
    rcases of_ite hf with ⟨_, hf⟩ | ⟨_, hf⟩
    · rcases of_ite hf with ⟨_, hf⟩ | ⟨_, hf⟩
      · obtain ⟨k4, ek4, hf⟩ := of_zj hf
        have hk4 : ∀  (I5 : IMem), (∀ q, ¬ M q → I5 q = Ib q) → k4 I5 = some r → ∀ q, ¬ M q → r.2 q = Ib q := by
          intro I5 fI5 hf
          subst ek4
          obtain ⟨k6, ek6, hf⟩ := of_zj hf
          have hk6 : ∀ (x8 : Int) (I7 : IMem), (∀ q, ¬ M q → I7 q = Ib q) → k6 x8 I7 = some r → ∀ q, ¬ M q → r.2 q = Ib q := by
            intro x8 I7 fI7 hf
            subst ek6
            obtain ⟨u_2, I10, c_1, hf⟩ := of_zb hf
            have fI10 := fr_tr (fr_R_advance M fu o0 I7 m_o0_0 c_1) fI7
            obtain ⟨k12, ek12, hf⟩ := of_zj hf
            have hk12 : ∀  (I13 : IMem), (∀ q, ¬ M q → I13 q = Ib q) → k12 I13 = some r → ∀ q, ¬ M q → r.2 q = Ib q := by
              intro I13 fI13 hf
              subst ek12
              obtain ⟨u_4, I15, c_3, hf⟩ := of_zb hf
              have fI15 := fr_tr (hR.2 o0 p1 I13 _ m_o0_0 m_o0_5 m_o0_6 c_3) fI13
              obtain ⟨k17, ek17, hf⟩ := of_zj hf
              have hk17 : ∀ (x19 : Int) (I18 : IMem), (∀ q, ¬ M q → I18 q = Ib q) → k17 x19 I18 = some r → ∀ q, ¬ M q → r.2 q = Ib q := by
                intro x19 I18 fI18 hf
                subst ek17
                obtain ⟨x20, -, hf⟩ := of_zl hf
                exact hR_ x19 x20 I18 fI18 hf
              rcases of_ite hf with ⟨_, hf⟩ | ⟨_, hf⟩
              · exact hk17 1 I15 fI15 hf
              · obtain ⟨u_6, I22, c_5, hf⟩ := of_zb hf
                have fI22 := fr_tr (fr_W_addStep M fu (o0 + 5) ((-8)) I15 m_o0_5 m_o0_6 c_5) fI15
                exact hk17 w2 I22 fI22 hf
            rcases of_ite hf with ⟨_, hf⟩ | ⟨_, hf⟩
            · exact hk12 I10 fI10 hf
            · rcases of_ite hf with ⟨_, hf⟩ | ⟨_, hf⟩
              · obtain ⟨u_8, I25, c_7, hf⟩ := of_zb hf
                have fI25 := fr_tr (fr_W_addStep M fu (o0 + 5) ((-9)) I10 m_o0_5 m_o0_6 c_7) fI10
                exact hk12 I25 fI25 hf
              · exact hk12 I10 fI10 hf
          rcases of_ite hf with ⟨_, hf⟩ | ⟨_, hf⟩
          · exact hk6 1 I5 fI5 hf
          · exact hk6 0 I5 fI5 hf
        rcases of_ite hf with ⟨_, hf⟩ | ⟨_, hf⟩
        · exact hk4 I0 fI0 hf
        · rcases of_ite hf with ⟨_, hf⟩ | ⟨_, hf⟩
          · exact hk4 I0 fI0 hf
          · exact hk_106 w2 I0 fI0 hf
      · exact hk_106 w2 I0 fI0 hf
    · exact hk_106 w2 I0 fI0 hf
theorem fr_gRD (M : Nat → Prop) (fu : Nat) : ∀ n : Nat, (∀ (o0 : Nat) (a1 : Int) (I0 : IMem) (r : Int × IMem), M o0 → M (o0 + 5) → M (o0 + 6) → (gRD fu n).1 o0 a1 I0 = some r → ∀ q, ¬ M q → r.2 q = I0 q) ∧ (∀ (o0 : Nat) (a1 : Int) (I0 : IMem) (r : Int × IMem), M o0 → M (o0 + 5) → M (o0 + 6) → (gRD fu n).2 o0 a1 I0 = some r → ∀ q, ¬ M q → r.2 q = I0 q) := by
  intro n
  induction n with
  | zero => exact ⟨(fun _ _ _ r _ _ _ hf => by cases hf), (fun _ _ _ r _ _ _ hf => by cases hf)⟩
  | succ n hR =>
    refine ⟨?_, ?_⟩
    · intro o0 a1 I0 r m_o0_0 m_o0_5 m_o0_6 hf
      replace hf : fb_R_readEither fu (gRD fu n) o0 a1 I0 = some r := hf
      unfold fb_R_readEither at hf
      obtain ⟨Ib, hIb⟩ : ∃ Ib : IMem, Ib = I0 := ⟨I0, rfl⟩
      rw [← hIb]
      have f0 : ∀ q, ¬ M q → I0 q = Ib q := fun q _ => by rw [hIb]
      clear hIb
      obtain ⟨u_2, I2, c_1, hf⟩ := of_zb hf
      have fI2 := fr_tr (hR.2 o0 a1 I0 _ m_o0_0 m_o0_5 m_o0_6 c_1) f0
      refine fr_R_readEither_9 M fu _ hR _ o0 a1 m_o0_0 m_o0_5 m_o0_6 ?_ fu 0 0 I2 fI2 hf
      · intro x28 I27 fI27 hf
        rcases of_ite hf with ⟨_, hf⟩ | ⟨_, hf⟩
        · cases hf; exact fI27
        · obtain ⟨u_4, I30, c_3, hf⟩ := of_zb hf
          have fI30 := fr_tr (fr_W_addStep M fu (o0 + 5) ((-9)) I27 m_o0_5 m_o0_6 c_3) fI27
          cases hf; exact fI30
    · intro o0 a1 I0 r m_o0_0 m_o0_5 m_o0_6 hf
      replace hf : fb_R_readTest fu (gRD fu n) o0 a1 I0 = some r := hf
      unfold fb_R_readTest at hf
      obtain ⟨Ib, hIb⟩ : ∃ Ib : IMem, Ib = I0 := ⟨I0, rfl⟩
      rw [← hIb]
      have f0 : ∀ q, ¬ M q → I0 q = Ib q := fun q _ => by rw [hIb]
      clear hIb
      rcases of_ite hf with ⟨_, hf⟩ | ⟨_, hf⟩
      · obtain ⟨k1, ek1, hf⟩ := of_zj hf
        have hk1 : ∀ (x3 : Int) (I2 : IMem), (∀ q, ¬ M q → I2 q = Ib q) → k1 x3 I2 = some r → ∀ q, ¬ M q → r.2 q = Ib q := by
          intro x3 I2 fI2 hf
          subst ek1
          obtain ⟨k4, ek4, hf⟩ := of_zj hf
          have hk4 : ∀  (I5 : IMem), (∀ q, ¬ M q → I5 q = Ib q) → k4 I5 = some r → ∀ q, ¬ M q → r.2 q = Ib q := by
            intro I5 fI5 hf
            subst ek4
            rcases of_ite hf with ⟨_, hf⟩ | ⟨_, hf⟩
            · obtain ⟨u_2, I35, c_1, hf⟩ := of_zb hf
              have fI35 := fr_tr (fr_R_advance M fu o0 I5 m_o0_0 c_1) fI5
              obtain ⟨u_4, I38, c_3, hf⟩ := of_zb hf
              have fI38 := fr_tr (hR.2 o0 (wr32 (a1 + 1)) I35 _ m_o0_0 m_o0_5 m_o0_6 c_3) fI35
              obtain ⟨u_6, I41, c_5, hf⟩ := of_zb hf
              have fI41 := fr_tr (fr_W_addStep M fu (o0 + 5) ((-10)) I38 m_o0_5 m_o0_6 c_5) fI38
              cases hf; exact fI41
            · rcases of_ite hf with ⟨_, hf⟩ | ⟨_, hf⟩
              · obtain ⟨u_8, I7, c_7, hf⟩ := of_zb hf
                have fI7 := fr_tr (fr_R_readSum M fu o0 I5 m_o0_0 m_o0_5 m_o0_6 c_7) fI5
                obtain ⟨x9, -, hf⟩ := of_zl hf
                obtain ⟨k10, ek10, hf⟩ := of_zj hf
                have hk10 : ∀ (x12 : Int) (I11 : IMem), (∀ q, ¬ M q → I11 q = Ib q) → k10 x12 I11 = some r → ∀ q, ¬ M q → r.2 q = Ib q := by
                  intro x12 I11 fI11 hf
                  subst ek10
                  obtain ⟨u_10, I14, c_9, hf⟩ := of_zb hf
                  have fI14 := fr_tr (fr_R_expect M fu o0 x12 I11 m_o0_0 c_9) fI11
                  obtain ⟨u_12, I17, c_11, hf⟩ := of_zb hf
                  have fI17 := fr_tr (fr_R_readSum M fu o0 I14 m_o0_0 m_o0_5 m_o0_6 c_11) fI14
                  obtain ⟨k19, ek19, hf⟩ := of_zj hf
                  have hk19 : ∀ (x21 : Int) (I20 : IMem), (∀ q, ¬ M q → I20 q = Ib q) → k19 x21 I20 = some r → ∀ q, ¬ M q → r.2 q = Ib q := by
                    intro x21 I20 fI20 hf
                    subst ek19
                    obtain ⟨u_14, I23, c_13, hf⟩ := of_zb hf
                    have fI23 := fr_tr (fr_W_addStep M fu (o0 + 5) x21 I20 m_o0_5 m_o0_6 c_13) fI20
                    cases hf; exact fI23
                  rcases of_ite hf with ⟨_, hf⟩ | ⟨_, hf⟩
                  · exact hk19 ((-5)) I17 fI17 hf
                  · rcases of_ite hf with ⟨_, hf⟩ | ⟨_, hf⟩
                    · exact hk19 ((-7)) I17 fI17 hf
                    · exact hk19 ((-6)) I17 fI17 hf
                rcases of_ite hf with ⟨_, hf⟩ | ⟨_, hf⟩
                · exact hk10 x9 I7 fI7 hf
                · rcases of_ite hf with ⟨_, hf⟩ | ⟨_, hf⟩
                  · exact hk10 x9 I7 fI7 hf
                  · exact hk10 61 I7 fI7 hf
              · obtain ⟨u_16, I26, c_15, hf⟩ := of_zb hf
                have fI26 := fr_tr (fr_R_advance M fu o0 I5 m_o0_0 c_15) fI5
                obtain ⟨u_18, I29, c_17, hf⟩ := of_zb hf
                have fI29 := fr_tr (hR.1 o0 (wr32 (a1 + 1)) I26 _ m_o0_0 m_o0_5 m_o0_6 c_17) fI26
                obtain ⟨u_20, I32, c_19, hf⟩ := of_zb hf
                have fI32 := fr_tr (fr_R_expect M fu o0 41 I29 m_o0_0 c_19) fI29
                cases hf; exact fI32
          rcases of_ite hf with ⟨_, hf⟩ | ⟨_, hf⟩
          · exact hk4 I2 fI2 hf
          · rcases of_ite hf with ⟨_, hf⟩ | ⟨_, hf⟩
            · exact hk4 I2 fI2 hf
            · obtain ⟨u_22, I44, c_21, hf⟩ := of_zb hf
              have fI44 := fr_tr (fr_R_fail M fu o0 3 I2 m_o0_0 c_21) fI2
              cases hf; exact fI44
        rcases of_ite hf with ⟨_, hf⟩ | ⟨_, hf⟩
        · exact hk1 1 I0 f0 hf
        · rcases of_ite hf with ⟨_, hf⟩ | ⟨_, hf⟩
          · exact hk1 1 I0 f0 hf
          · exact hk1 0 I0 f0 hf
      · cases hf; exact f0
theorem fr_R_readEither (M : Nat → Prop) (fu : Nat) (o0 : Nat) (a1 : Int) (I0 : IMem) {r : Int × IMem} (m_o0_0 : M o0) (m_o0_5 : M (o0 + 5)) (m_o0_6 : M (o0 + 6)) (hf : f_R_readEither fu o0 a1 I0 = some r) : ∀ q, ¬ M q → r.2 q = I0 q := (fr_gRD M fu _).1 o0 a1 I0 r m_o0_0 m_o0_5 m_o0_6 hf
theorem fr_R_readTest (M : Nat → Prop) (fu : Nat) (o0 : Nat) (a1 : Int) (I0 : IMem) {r : Int × IMem} (m_o0_0 : M o0) (m_o0_5 : M (o0 + 5)) (m_o0_6 : M (o0 + 6)) (hf : f_R_readTest fu o0 a1 I0 = some r) : ∀ q, ¬ M q → r.2 q = I0 q := (fr_gRD M fu _).2 o0 a1 I0 r m_o0_0 m_o0_5 m_o0_6 hf
theorem fr_R_readTarget (M : Nat → Prop) (fu : Nat) (o0 : Nat) (I0 : IMem) {r : Int × IMem} (m_o0_0 : M o0) (m_o0_5 : M (o0 + 5)) (m_o0_6 : M (o0 + 6)) (hf : f_R_readTarget fu o0 I0 = some r) : ∀ q, ¬ M q → r.2 q = I0 q := by
  unfold f_R_readTarget at hf
  obtain ⟨Ib, hIb⟩ : ∃ Ib : IMem, Ib = I0 := ⟨I0, rfl⟩
  rw [← hIb]
  have f0 : ∀ q, ¬ M q → I0 q = Ib q := fun q _ => by rw [hIb]
  clear hIb
  obtain ⟨k1, ek1, hf⟩ := of_zj hf
  have hk1 : ∀  (I2 : IMem), (∀ q, ¬ M q → I2 q = Ib q) → k1 I2 = some r → ∀ q, ¬ M q → r.2 q = Ib q := by
    intro I2 fI2 hf
    subst ek1
    obtain ⟨u_2, I4, c_1, hf⟩ := of_zb hf
    have fI4 := fr_tr (fr_W_addStep M fu (o0 + 5) (I2 o0 8) I2 m_o0_5 m_o0_6 c_1) fI2
    obtain ⟨u_4, I7, c_3, hf⟩ := of_zb hf
    have fI7 := fr_tr (fr_R_expect M fu o0 16 I4 m_o0_0 c_3) fI4
    cases hf; exact fI7
  rcases of_ite hf with ⟨_, hf⟩ | ⟨_, hf⟩
  · rcases of_ite hf with ⟨_, hf⟩ | ⟨_, hf⟩
    · exact hk1 I0 f0 hf
    · obtain ⟨u_6, I10, c_5, hf⟩ := of_zb hf
      have fI10 := fr_tr (fr_R_fail M fu o0 2 I0 m_o0_0 c_5) f0
      exact hk1 I10 fI10 hf
  · exact hk1 I0 f0 hf
theorem fr_W_closeLine (M : Nat → Prop) (fu : Nat) (o0 : Nat) (I0 : IMem) {r : Int × IMem} (m_o0_0 : M o0) (m_o0_2 : M (o0 + 2)) (hf : f_W_closeLine fu o0 I0 = some r) : ∀ q, ¬ M q → r.2 q = I0 q := by
  unfold f_W_closeLine at hf
  obtain ⟨Ib, hIb⟩ : ∃ Ib : IMem, Ib = I0 := ⟨I0, rfl⟩
  rw [← hIb]
  have f0 : ∀ q, ¬ M q → I0 q = Ib q := fun q _ => by rw [hIb]
  clear hIb
  rcases of_ite hf with ⟨_, hf⟩ | ⟨_, hf⟩
  · cases hf; exact f0
  · rcases of_ite hf with ⟨_, hf⟩ | ⟨_, hf⟩
    · obtain ⟨I1, fI1, hf⟩ := fr_zw m_o0_0 f0 hf
      obtain ⟨x3, -, hf⟩ := of_zl hf
      obtain ⟨g_1, hf⟩ := of_zg hf
      obtain ⟨I2, fI2, hf⟩ := fr_zw m_o0_2 fI1 hf
      cases hf; exact fI2
    · cases hf; exact f0
theorem fr_W_isFull (M : Nat → Prop) (fu : Nat) (o0 : Nat) (I0 : IMem) {r : Int × IMem} (hf : f_W_isFull fu o0 I0 = some r) : ∀ q, ¬ M q → r.2 q = I0 q := by
  unfold f_W_isFull at hf
  obtain ⟨Ib, hIb⟩ : ∃ Ib : IMem, Ib = I0 := ⟨I0, rfl⟩
  rw [← hIb]
  have f0 : ∀ q, ¬ M q → I0 q = Ib q := fun q _ => by rw [hIb]
  clear hIb
  rcases of_ite hf with ⟨_, hf⟩ | ⟨_, hf⟩
  · cases hf; exact f0
  · cases hf; exact f0
theorem fr_W_startWhen (M : Nat → Prop) (fu : Nat) (o0 : Nat) (I0 : IMem) {r : Int × IMem} (m_o0_3 : M (o0 + 3)) (hf : f_W_startWhen fu o0 I0 = some r) : ∀ q, ¬ M q → r.2 q = I0 q := by
  unfold f_W_startWhen at hf
  obtain ⟨Ib, hIb⟩ : ∃ Ib : IMem, Ib = I0 := ⟨I0, rfl⟩
  rw [← hIb]
  have f0 : ∀ q, ¬ M q → I0 q = Ib q := fun q _ => by rw [hIb]
  clear hIb
  rcases of_ite hf with ⟨_, hf⟩ | ⟨_, hf⟩
  · cases hf; exact f0
  · rcases of_ite hf with ⟨_, hf⟩ | ⟨_, hf⟩
    · obtain ⟨x2, -, hf⟩ := of_zl hf
      obtain ⟨g_1, hf⟩ := of_zg hf
      obtain ⟨I1, fI1, hf⟩ := fr_zw m_o0_3 f0 hf
      cases hf; exact fI1
    · cases hf; exact f0
theorem fr_R_readLine (M : Nat → Prop) (fu : Nat) (o0 : Nat) (I0 : IMem) {r : Int × IMem} (m_o0_0 : M o0) (m_o0_5 : M (o0 + 5)) (m_o0_6 : M (o0 + 6)) (m_o0_7 : M (o0 + 7)) (m_o0_8 : M (o0 + 8)) (hf : f_R_readLine fu o0 I0 = some r) : ∀ q, ¬ M q → r.2 q = I0 q := by
  unfold f_R_readLine at hf
  obtain ⟨Ib, hIb⟩ : ∃ Ib : IMem, Ib = I0 := ⟨I0, rfl⟩
  rw [← hIb]
  have f0 : ∀ q, ¬ M q → I0 q = Ib q := fun q _ => by rw [hIb]
  clear hIb
  obtain ⟨k1, ek1, hf⟩ := of_zj hf
  have hk1 : ∀ (x3 : Int) (I2 : IMem), (∀ q, ¬ M q → I2 q = Ib q) → k1 x3 I2 = some r → ∀ q, ¬ M q → r.2 q = Ib q := by
    intro x3 I2 fI2 hf
    subst ek1
    obtain ⟨k4, ek4, hf⟩ := of_zj hf
    have hk4 : ∀  (I5 : IMem), (∀ q, ¬ M q → I5 q = Ib q) → k4 I5 = some r → ∀ q, ¬ M q → r.2 q = Ib q := by
      intro I5 fI5 hf
      subst ek4
      obtain ⟨u_2, I7, c_1, hf⟩ := of_zb hf
      have fI7 := fr_tr (fr_R_expect M fu o0 x3 I5 m_o0_0 c_1) fI5
      obtain ⟨k9, ek9, hf⟩ := of_zj hf
      have hk9 : ∀  (I10 : IMem), (∀ q, ¬ M q → I10 q = Ib q) → k9 I10 = some r → ∀ q, ¬ M q → r.2 q = Ib q := by
        intro I10 fI10 hf
        subst ek9
        obtain ⟨u_4, I12, c_3, hf⟩ := of_zb hf
        have fI12 := fr_tr (fr_W_startWhen M fu (o0 + 5) I10 m_o0_8 c_3) fI10
        obtain ⟨k14, ek14, hf⟩ := of_zj hf
        have hk14 : ∀  (I15 : IMem), (∀ q, ¬ M q → I15 q = Ib q) → k14 I15 = some r → ∀ q, ¬ M q → r.2 q = Ib q := by
          intro I15 fI15 hf
          subst ek14
          obtain ⟨u_6, I17, c_5, hf⟩ := of_zb hf
          have fI17 := fr_tr (fr_R_expect M fu o0 59 I15 m_o0_0 c_5) fI15
          obtain ⟨u_8, I20, c_7, hf⟩ := of_zb hf
          have fI20 := fr_tr (fr_W_closeLine M fu (o0 + 5) I17 m_o0_5 m_o0_7 c_7) fI17
          cases hf; exact fI20
        obtain ⟨k22, ek22, hf⟩ := of_zj hf
        have hk22 : ∀  (I23 : IMem), (∀ q, ¬ M q → I23 q = Ib q) → k22 I23 = some r → ∀ q, ¬ M q → r.2 q = Ib q := by
          intro I23 fI23 hf
          subst ek22
          obtain ⟨u_10, I25, c_9, hf⟩ := of_zb hf
          have fI25 := fr_tr (fr_R_expect M fu o0 1 I23 m_o0_0 c_9) fI23
          obtain ⟨u_12, I28, c_11, hf⟩ := of_zb hf
          have fI28 := fr_tr (fr_R_readEither M fu o0 0 I25 m_o0_0 m_o0_5 m_o0_6 c_11) fI25
          exact hk14 I28 fI28 hf
        rcases of_ite hf with ⟨_, hf⟩ | ⟨_, hf⟩
        · rcases of_ite hf with ⟨_, hf⟩ | ⟨_, hf⟩
          · exact hk22 I12 fI12 hf
          · exact hk14 I12 fI12 hf
        · exact hk22 I12 fI12 hf
      rcases of_ite hf with ⟨_, hf⟩ | ⟨_, hf⟩
      · obtain ⟨u_14, I31, c_13, hf⟩ := of_zb hf
        have fI31 := fr_tr (fr_R_readSum M fu o0 I7 m_o0_0 m_o0_5 m_o0_6 c_13) fI7
        exact hk9 I31 fI31 hf
      · obtain ⟨u_16, I34, c_15, hf⟩ := of_zb hf
        have fI34 := fr_tr (fr_R_readTarget M fu o0 I7 m_o0_0 m_o0_5 m_o0_6 c_15) fI7
        exact hk9 I34 fI34 hf
    rcases of_ite hf with ⟨_, hf⟩ | ⟨_, hf⟩
    · obtain ⟨y36, I37, c_17, hf⟩ := of_zb hf
      have fI37 := fr_tr (fr_W_isFull M fu (o0 + 5) I2 c_17) fI2
      rcases of_ite hf with ⟨_, hf⟩ | ⟨_, hf⟩
      · exact hk4 I37 fI37 hf
      · obtain ⟨u_19, I40, c_18, hf⟩ := of_zb hf
        have fI40 := fr_tr (fr_R_fail M fu o0 3 I37 m_o0_0 c_18) fI37
        exact hk4 I40 fI40 hf
    · exact hk4 I2 fI2 hf
  rcases of_ite hf with ⟨_, hf⟩ | ⟨_, hf⟩
  · exact hk1 0 I0 f0 hf
  · exact hk1 11 I0 f0 hf
theorem fr_R_addToken (M : Nat → Prop) (fu : Nat) (o0 : Nat) (a1 : Int) (a2 : Int) (a3 : Int) (I0 : IMem) {r : Int × IMem} (m_o0_0 : M o0) (m_o0_2 : M (o0 + 2)) (m_o0_3 : M (o0 + 3)) (m_o0_4 : M (o0 + 4)) (hf : f_R_addToken fu o0 a1 a2 a3 I0 = some r) : ∀ q, ¬ M q → r.2 q = I0 q := by
  unfold f_R_addToken at hf
  obtain ⟨Ib, hIb⟩ : ∃ Ib : IMem, Ib = I0 := ⟨I0, rfl⟩
  rw [← hIb]
  have f0 : ∀ q, ¬ M q → I0 q = Ib q := fun q _ => by rw [hIb]
  clear hIb
  rcases of_ite hf with ⟨_, hf⟩ | ⟨_, hf⟩
  · cases hf; exact f0
  · rcases of_ite hf with ⟨_, hf⟩ | ⟨_, hf⟩
    · cases hf; exact f0
    · obtain ⟨x2, -, hf⟩ := of_zl hf
      obtain ⟨g_1, hf⟩ := of_zg hf
      obtain ⟨I1, fI1, hf⟩ := fr_zw m_o0_2 f0 hf
      obtain ⟨x4, -, hf⟩ := of_zl hf
      obtain ⟨g_2, hf⟩ := of_zg hf
      obtain ⟨I3, fI3, hf⟩ := fr_zw m_o0_3 fI1 hf
      obtain ⟨x6, -, hf⟩ := of_zl hf
      obtain ⟨g_3, hf⟩ := of_zg hf
      obtain ⟨I5, fI5, hf⟩ := fr_zw m_o0_4 fI3 hf
      obtain ⟨I7, fI7, hf⟩ := fr_zw m_o0_0 fI5 hf
      cases hf; exact fI7
theorem fr_R_isDigit (M : Nat → Prop) (fu : Nat) (a0 : Int) (I0 : IMem) {r : Int × IMem} (hf : f_R_isDigit fu a0 I0 = some r) : ∀ q, ¬ M q → r.2 q = I0 q := by
  unfold f_R_isDigit at hf
  obtain ⟨Ib, hIb⟩ : ∃ Ib : IMem, Ib = I0 := ⟨I0, rfl⟩
  rw [← hIb]
  have f0 : ∀ q, ¬ M q → I0 q = Ib q := fun q _ => by rw [hIb]
  clear hIb
  rcases of_ite hf with ⟨_, hf⟩ | ⟨_, hf⟩
  · cases hf; exact f0
  · rcases of_ite hf with ⟨_, hf⟩ | ⟨_, hf⟩
    · cases hf; exact f0
    · cases hf; exact f0
theorem fr_R_isLetter (M : Nat → Prop) (fu : Nat) (a0 : Int) (I0 : IMem) {r : Int × IMem} (hf : f_R_isLetter fu a0 I0 = some r) : ∀ q, ¬ M q → r.2 q = I0 q := by
  unfold f_R_isLetter at hf
  obtain ⟨Ib, hIb⟩ : ∃ Ib : IMem, Ib = I0 := ⟨I0, rfl⟩
  rw [← hIb]
  have f0 : ∀ q, ¬ M q → I0 q = Ib q := fun q _ => by rw [hIb]
  clear hIb
  obtain ⟨k1, ek1, hf⟩ := of_zj hf
  have hk1 : ∀  (I2 : IMem), (∀ q, ¬ M q → I2 q = Ib q) → k1 I2 = some r → ∀ q, ¬ M q → r.2 q = Ib q := by
    intro I2 fI2 hf
    subst ek1
    rcases of_ite hf with ⟨_, hf⟩ | ⟨_, hf⟩
    · cases hf; exact fI2
    · rcases of_ite hf with ⟨_, hf⟩ | ⟨_, hf⟩
      · cases hf; exact fI2
      · cases hf; exact fI2
  rcases of_ite hf with ⟨_, hf⟩ | ⟨_, hf⟩
  · exact hk1 I0 f0 hf
  · rcases of_ite hf with ⟨_, hf⟩ | ⟨_, hf⟩
    · exact hk1 I0 f0 hf
    · cases hf; exact f0
theorem fr_R_numberAt_9 (M : Nat → Prop) (fu : Nat) {r : Int × IMem} {Ib : IMem} (o0 : Nat) (p2 : Int) : ∀ (m : Nat) (w3 : Int) (w4 : Int) (I0 : IMem), (∀ q, ¬ M q → I0 q = Ib q) → f_R_numberAt_9 fu o0 p2 m w3 w4 I0 = some r → ∀ q, ¬ M q → r.2 q = Ib q := by
  intro m
  induction m with
  | zero => intro w3 w4 I0 _ hf; cases hf
  | succ m hR_ =>
    intro w3 w4 I0 fI0 hf
    replace hf : fb_R_numberAt_9 fu o0 p2 (f_R_numberAt_9 fu o0 p2 m) w3 w4 I0 = some r := hf
    unfold fb_R_numberAt_9 at hf
    rcases of_ite hf with ⟨_, hf⟩ | ⟨_, hf⟩
    · rcases of_ite hf with ⟨_, hf⟩ | ⟨_, hf⟩
      · obtain ⟨g_1, hf⟩ := of_zg hf
        obtain ⟨x4, -, hf⟩ := of_zl hf
        obtain ⟨x5, -, hf⟩ := of_zl hf
        exact hR_ x4 x5 I0 fI0 hf
      · cases hf; exact fI0
    · cases hf; exact fI0
theorem fr_R_numberAt (M : Nat → Prop) (fu : Nat) (o0 : Nat) (a1 : Int) (a2 : Int) (I0 : IMem) {r : Int × IMem} (hf : f_R_numberAt fu o0 a1 a2 I0 = some r) : ∀ q, ¬ M q → r.2 q = I0 q := by
  unfold f_R_numberAt at hf
  obtain ⟨Ib, hIb⟩ : ∃ Ib : IMem, Ib = I0 := ⟨I0, rfl⟩
  rw [← hIb]
  have f0 : ∀ q, ¬ M q → I0 q = Ib q := fun q _ => by rw [hIb]
  clear hIb
  obtain ⟨y1, I2, c_1, hf⟩ := of_zb hf
  have fI2 := fr_tr (fr_JM_max M fu a1 0 I0 c_1) f0
  refine fr_R_numberAt_9 M fu o0 a2 fu 0 y1 I2 fI2 hf
theorem fr_R_wordAt_11 (M : Nat → Prop) (fu : Nat) {r : Int × IMem} {Ib : IMem} (o0 : Nat) (p1 : Int) (p2 : Int) : ∀ (m : Nat) (w3 : Int) (w4 : Int) (w5 : Int) (w6 : Int) (I0 : IMem), (∀ q, ¬ M q → I0 q = Ib q) → f_R_wordAt_11 fu o0 p1 p2 m w3 w4 w5 w6 I0 = some r → ∀ q, ¬ M q → r.2 q = Ib q := by
  intro m
  induction m with
  | zero => intro w3 w4 w5 w6 I0 _ hf; cases hf
  | succ m hR_ =>
    intro w3 w4 w5 w6 I0 fI0 hf
    replace hf : fb_R_wordAt_11 fu o0 p1 p2 (f_R_wordAt_11 fu o0 p1 p2 m) w3 w4 w5 w6 I0 = some r := hf
    unfold fb_R_wordAt_11 at hf
    obtain ⟨y1, I2, c_1, hf⟩ := of_zb hf
    have fI2 := fr_tr (fr_JS_length M fu 0 I0 c_1) fI0
    rcases of_ite hf with ⟨_, hf⟩ | ⟨_, hf⟩
    · obtain ⟨y4, I5, c_2, hf⟩ := of_zb hf
      have fI5 := fr_tr (fr_JS_charAt M fu 0 w6 I2 c_2) fI2
      obtain ⟨k7, ek7, hf⟩ := of_zj hf
      have hk7 : ∀ (x9 : Int) (x10 : Int) (x11 : Int) (I8 : IMem), (∀ q, ¬ M q → I8 q = Ib q) → k7 x9 x10 x11 I8 = some r → ∀ q, ¬ M q → r.2 q = Ib q := by
        intro x9 x10 x11 I8 fI8 hf
        subst ek7
        obtain ⟨x12, -, hf⟩ := of_zl hf
        exact hR_ x9 x10 x11 x12 I8 fI8 hf
      rcases of_ite hf with ⟨_, hf⟩ | ⟨_, hf⟩
      · obtain ⟨k14, ek14, hf⟩ := of_zj hf
        have hk14 : ∀  (I15 : IMem), (∀ q, ¬ M q → I15 q = Ib q) → k14 I15 = some r → ∀ q, ¬ M q → r.2 q = Ib q := by
          intro I15 fI15 hf
          subst ek14
          obtain ⟨x16, -, hf⟩ := of_zl hf
          exact hk7 x16 p1 1 I15 fI15 hf
        rcases of_ite hf with ⟨_, hf⟩ | ⟨_, hf⟩
        · exact hk14 I5 fI5 hf
        · rcases of_ite hf with ⟨_, hf⟩ | ⟨_, hf⟩
          · cases hf; exact fI5
          · exact hk14 I5 fI5 hf
      · rcases of_ite hf with ⟨_, hf⟩ | ⟨_, hf⟩
        · exact hk7 w3 w4 0 I5 fI5 hf
        · rcases of_ite hf with ⟨_, hf⟩ | ⟨_, hf⟩
          · exact hk7 w3 w4 0 I5 fI5 hf
          · rcases of_ite hf with ⟨_, hf⟩ | ⟨_, hf⟩
            · rcases of_ite hf with ⟨_, hf⟩ | ⟨_, hf⟩
              · obtain ⟨g_3, hf⟩ := of_zg hf
                rcases of_ite hf with ⟨_, hf⟩ | ⟨_, hf⟩
                · obtain ⟨x13, -, hf⟩ := of_zl hf
                  exact hk7 w3 x13 w5 I5 fI5 hf
                · exact hk7 w3 w4 0 I5 fI5 hf
              · exact hk7 w3 w4 0 I5 fI5 hf
            · exact hk7 w3 w4 0 I5 fI5 hf
    · cases hf; exact fI2
theorem fr_R_wordAt (M : Nat → Prop) (fu : Nat) (o0 : Nat) (a1 : Int) (a2 : Int) (I0 : IMem) {r : Int × IMem} (hf : f_R_wordAt fu o0 a1 a2 I0 = some r) : ∀ q, ¬ M q → r.2 q = I0 q := by
  unfold f_R_wordAt at hf
  obtain ⟨Ib, hIb⟩ : ∃ Ib : IMem, Ib = I0 := ⟨I0, rfl⟩
  rw [← hIb]
  have f0 : ∀ q, ¬ M q → I0 q = Ib q := fun q _ => by rw [hIb]
  clear hIb
  refine fr_R_wordAt_11 M fu o0 a1 a2 fu 0 a1 1 0 I0 f0 hf
theorem fr_R_scan_96 (M : Nat → Prop) (fu : Nat) {r : Int × IMem} {Ib : IMem} (k_129 : Int → IMem → Res) (o0 : Nat) (p2 : Int) (hk_129 : ∀ (z0 : Int) (I9 : IMem), (∀ q, ¬ M q → I9 q = Ib q) → k_129 z0 I9 = some r → ∀ q, ¬ M q → r.2 q = Ib q) : ∀ (m : Nat) (w1 : Int) (I0 : IMem), (∀ q, ¬ M q → I0 q = Ib q) → f_R_scan_96 fu k_129 o0 p2 m w1 I0 = some r → ∀ q, ¬ M q → r.2 q = Ib q := by
  intro m
  induction m with
  | zero => intro w1 I0 _ hf; cases hf
  | succ m hR_ =>
    intro w1 I0 fI0 hf
    replace hf : fb_R_scan_96 fu k_129 o0 p2 (f_R_scan_96 fu k_129 o0 p2 m) w1 I0 = some r := hf
    unfold fb_R_scan_96 at hf
    rcases of_ite hf with ⟨_, hf⟩ | ⟨_, hf⟩
    · rcases of_ite hf with ⟨_, hf⟩ | ⟨_, hf⟩
      · obtain ⟨g_1, hf⟩ := of_zg hf
        obtain ⟨y19, I20, c_2, hf⟩ := of_zb hf
        have fI20 := fr_tr (fr_R_isDigit M fu (I0 (o0 + 1) w1.toNat) I0 c_2) fI0
        rcases of_ite hf with ⟨_, hf⟩ | ⟨_, hf⟩
        · exact hk_129 w1 I20 fI20 hf
        · obtain ⟨x22, -, hf⟩ := of_zl hf
          exact hR_ x22 I20 fI20 hf
      · exact hk_129 w1 I0 fI0 hf
    · exact hk_129 w1 I0 fI0 hf
theorem fr_R_scan_41 (M : Nat → Prop) (fu : Nat) {r : Int × IMem} {Ib : IMem} (k_74 : Int → IMem → Res) (o0 : Nat) (p2 : Int) (hk_74 : ∀ (z0 : Int) (I9 : IMem), (∀ q, ¬ M q → I9 q = Ib q) → k_74 z0 I9 = some r → ∀ q, ¬ M q → r.2 q = Ib q) : ∀ (m : Nat) (w1 : Int) (I0 : IMem), (∀ q, ¬ M q → I0 q = Ib q) → f_R_scan_41 fu k_74 o0 p2 m w1 I0 = some r → ∀ q, ¬ M q → r.2 q = Ib q := by
  intro m
  induction m with
  | zero => intro w1 I0 _ hf; cases hf
  | succ m hR_ =>
    intro w1 I0 fI0 hf
    replace hf : fb_R_scan_41 fu k_74 o0 p2 (f_R_scan_41 fu k_74 o0 p2 m) w1 I0 = some r := hf
    unfold fb_R_scan_41 at hf
    rcases of_ite hf with ⟨_, hf⟩ | ⟨_, hf⟩
    · rcases of_ite hf with ⟨_, hf⟩ | ⟨_, hf⟩
      · obtain ⟨g_1, hf⟩ := of_zg hf
        obtain ⟨y34, I35, c_2, hf⟩ := of_zb hf
        have fI35 := fr_tr (fr_R_isLetter M fu (I0 (o0 + 1) w1.toNat) I0 c_2) fI0
        rcases of_ite hf with ⟨_, hf⟩ | ⟨_, hf⟩
        · exact hk_74 w1 I35 fI35 hf
        · obtain ⟨x37, -, hf⟩ := of_zl hf
          exact hR_ x37 I35 fI35 hf
      · exact hk_74 w1 I0 fI0 hf
    · exact hk_74 w1 I0 fI0 hf
theorem fr_R_scan_7 (M : Nat → Prop) (fu : Nat) {r : Int × IMem} {Ib : IMem} (k_194 : IMem → Res) (o0 : Nat) (m_o0_0 : M o0) (m_o0_2 : M (o0 + 2)) (m_o0_3 : M (o0 + 3)) (m_o0_4 : M (o0 + 4)) (hk_194 : ∀ (I9 : IMem), (∀ q, ¬ M q → I9 q = Ib q) → k_194 I9 = some r → ∀ q, ¬ M q → r.2 q = Ib q) : ∀ (m : Nat) (w1 : Int) (I0 : IMem), (∀ q, ¬ M q → I0 q = Ib q) → f_R_scan_7 fu k_194 o0 m w1 I0 = some r → ∀ q, ¬ M q → r.2 q = Ib q := by
  intro m
  induction m with
  | zero => intro w1 I0 _ hf; cases hf
  | succ m hR_ =>
    intro w1 I0 fI0 hf
    replace hf : fb_R_scan_7 fu k_194 o0 (f_R_scan_7 fu k_194 o0 m) w1 I0 = some r := hf
    unfold fb_R_scan_7 at hf
    rcases of_ite hf with ⟨_, hf⟩ | ⟨_, hf⟩
    · rcases of_ite hf with ⟨_, hf⟩ | ⟨_, hf⟩
      · obtain ⟨g_1, hf⟩ := of_zg hf
        obtain ⟨x2, -, hf⟩ := of_zl hf
        obtain ⟨x3, -, hf⟩ := of_zl hf
        obtain ⟨y4, I5, c_2, hf⟩ := of_zb hf
        have fI5 := fr_tr (fr_R_isLetter M fu x2 I0 c_2) fI0
        rcases of_ite hf with ⟨_, hf⟩ | ⟨_, hf⟩
        · obtain ⟨y7, I8, c_3, hf⟩ := of_zb hf
          have fI8 := fr_tr (fr_R_isDigit M fu x2 I5 c_3) fI5
          rcases of_ite hf with ⟨_, hf⟩ | ⟨_, hf⟩
          · rcases of_ite hf with ⟨_, hf⟩ | ⟨_, hf⟩
            · exact hR_ x3 I8 fI8 hf
            · rcases of_ite hf with ⟨_, hf⟩ | ⟨_, hf⟩
              · exact hR_ x3 I8 fI8 hf
              · obtain ⟨y10, I11, c_4, hf⟩ := of_zb hf
                have fI11 := fr_tr (fr_JS_indexOf M fu 1 (wi2c x2) I8 c_4) fI8
                obtain ⟨k13, ek13, hf⟩ := of_zj hf
                have hk13 : ∀ (x15 : Int) (I14 : IMem), (∀ q, ¬ M q → I14 q = Ib q) → k13 x15 I14 = some r → ∀ q, ¬ M q → r.2 q = Ib q := by
                  intro x15 I14 fI14 hf
                  subst ek13
                  obtain ⟨u_6, I17, c_5, hf⟩ := of_zb hf
                  have fI17 := fr_tr (fr_R_addToken M fu o0 x15 w1 0 I14 m_o0_0 m_o0_2 m_o0_3 m_o0_4 c_5) fI14
                  exact hR_ x3 I17 fI17 hf
                rcases of_ite hf with ⟨_, hf⟩ | ⟨_, hf⟩
                · exact hk13 18 I11 fI11 hf
                · exact hk13 x2 I11 fI11 hf
          · refine fr_R_scan_96 M fu _ o0 w1 ?_ fu x3 I8 fI8 hf
            · intro x24 I23 fI23 hf
              obtain ⟨k25, ek25, hf⟩ := of_zj hf
              have hk25 : ∀ (x27 : Int) (I26 : IMem), (∀ q, ¬ M q → I26 q = Ib q) → k25 x27 I26 = some r → ∀ q, ¬ M q → r.2 q = Ib q := by
                intro x27 I26 fI26 hf
                subst ek25
                obtain ⟨y28, I29, c_7, hf⟩ := of_zb hf
                have fI29 := fr_tr (fr_R_numberAt M fu o0 w1 x24 I26 c_7) fI26
                obtain ⟨u_9, I32, c_8, hf⟩ := of_zb hf
                have fI32 := fr_tr (fr_R_addToken M fu o0 x27 w1 y28 I29 m_o0_0 m_o0_2 m_o0_3 m_o0_4 c_8) fI29
                exact hR_ x24 I32 fI32 hf
              rcases of_ite hf with ⟨_, hf⟩ | ⟨_, hf⟩
              · exact hk25 18 I23 fI23 hf
              · exact hk25 16 I23 fI23 hf
        · refine fr_R_scan_41 M fu _ o0 w1 ?_ fu x3 I5 fI5 hf
          · intro x39 I38 fI38 hf
            obtain ⟨y40, I41, c_10, hf⟩ := of_zb hf
            have fI41 := fr_tr (fr_R_wordAt M fu o0 w1 x39 I38 c_10) fI38
            obtain ⟨u_12, I44, c_11, hf⟩ := of_zb hf
            have fI44 := fr_tr (fr_R_addToken M fu o0 y40 w1 0 I41 m_o0_0 m_o0_2 m_o0_3 m_o0_4 c_11) fI41
            exact hR_ x39 I44 fI44 hf
      · exact hk_194 I0 fI0 hf
    · exact hk_194 I0 fI0 hf
theorem fr_R_scan (M : Nat → Prop) (fu : Nat) (o0 : Nat) (I0 : IMem) {r : Int × IMem} (m_o0_0 : M o0) (m_o0_2 : M (o0 + 2)) (m_o0_3 : M (o0 + 3)) (m_o0_4 : M (o0 + 4)) (hf : f_R_scan fu o0 I0 = some r) : ∀ q, ¬ M q → r.2 q = I0 q := by
  unfold f_R_scan at hf
  obtain ⟨Ib, hIb⟩ : ∃ Ib : IMem, Ib = I0 := ⟨I0, rfl⟩
  rw [← hIb]
  have f0 : ∀ q, ¬ M q → I0 q = Ib q := fun q _ => by rw [hIb]
  clear hIb
  obtain ⟨I1, fI1, hf⟩ := fr_zw m_o0_0 f0 hf
  refine fr_R_scan_7 M fu _ o0 m_o0_0 m_o0_2 m_o0_3 m_o0_4 ?_ fu 0 I1 fI1 hf
  · intro I46 fI46 hf
    obtain ⟨u_2, I48, c_1, hf⟩ := of_zb hf
    have fI48 := fr_tr (fr_R_addToken M fu o0 17 (I46 o0 1) 0 I46 m_o0_0 m_o0_2 m_o0_3 m_o0_4 c_1) fI46
    cases hf; exact fI48
theorem fr_W_clear (M : Nat → Prop) (fu : Nat) (o0 : Nat) (I0 : IMem) {r : Int × IMem} (m_o0_0 : M o0) (hf : f_W_clear fu o0 I0 = some r) : ∀ q, ¬ M q → r.2 q = I0 q := by
  unfold f_W_clear at hf
  obtain ⟨Ib, hIb⟩ : ∃ Ib : IMem, Ib = I0 := ⟨I0, rfl⟩
  rw [← hIb]
  have f0 : ∀ q, ¬ M q → I0 q = Ib q := fun q _ => by rw [hIb]
  clear hIb
  obtain ⟨I1, fI1, hf⟩ := fr_zw m_o0_0 f0 hf
  obtain ⟨I2, fI2, hf⟩ := fr_zw m_o0_0 fI1 hf
  cases hf; exact fI2
theorem fr_R_understand_31 (M : Nat → Prop) (fu : Nat) {r : Int × IMem} {Ib : IMem} (k_64 : IMem → Res) (o0 : Nat) (m_o0_0 : M o0) (m_o0_5 : M (o0 + 5)) (m_o0_6 : M (o0 + 6)) (m_o0_7 : M (o0 + 7)) (m_o0_8 : M (o0 + 8)) (hk_64 : ∀ (I9 : IMem), (∀ q, ¬ M q → I9 q = Ib q) → k_64 I9 = some r → ∀ q, ¬ M q → r.2 q = Ib q) : ∀ (m : Nat) (w2 : Int) (I0 : IMem), (∀ q, ¬ M q → I0 q = Ib q) → f_R_understand_31 fu k_64 o0 m w2 I0 = some r → ∀ q, ¬ M q → r.2 q = Ib q := by
  intro m
  induction m with
  | zero => intro w2 I0 _ hf; cases hf
  | succ m hR_ =>
    intro w2 I0 fI0 hf
    replace hf : fb_R_understand_31 fu k_64 o0 (f_R_understand_31 fu k_64 o0 m) w2 I0 = some r := hf
    unfold fb_R_understand_31 at hf
    rcases of_ite hf with ⟨_, hf⟩ | ⟨_, hf⟩
    · rcases of_ite hf with ⟨_, hf⟩ | ⟨_, hf⟩
      · rcases of_ite hf with ⟨_, hf⟩ | ⟨_, hf⟩
        · exact hk_64 I0 fI0 hf
        · obtain ⟨u_2, I17, c_1, hf⟩ := of_zb hf
          have fI17 := fr_tr (fr_R_readLine M fu o0 I0 m_o0_0 m_o0_5 m_o0_6 m_o0_7 m_o0_8 c_1) fI0
          obtain ⟨x19, -, hf⟩ := of_zl hf
          exact hR_ x19 I17 fI17 hf
      · exact hk_64 I0 fI0 hf
    · exact hk_64 I0 fI0 hf
theorem fr_R_understand (M : Nat → Prop) (fu : Nat) (o0 : Nat) (a1 : Int) (I0 : IMem) {r : Int × IMem} (m_o0_0 : M o0) (m_o0_2 : M (o0 + 2)) (m_o0_3 : M (o0 + 3)) (m_o0_4 : M (o0 + 4)) (m_o0_5 : M (o0 + 5)) (m_o0_6 : M (o0 + 6)) (m_o0_7 : M (o0 + 7)) (m_o0_8 : M (o0 + 8)) (hf : f_R_understand fu o0 a1 I0 = some r) : ∀ q, ¬ M q → r.2 q = I0 q := by
  unfold f_R_understand at hf
  obtain ⟨Ib, hIb⟩ : ∃ Ib : IMem, Ib = I0 := ⟨I0, rfl⟩
  rw [← hIb]
  have f0 : ∀ q, ¬ M q → I0 q = Ib q := fun q _ => by rw [hIb]
  clear hIb
  obtain ⟨u_2, I2, c_1, hf⟩ := of_zb hf
  have fI2 := fr_tr (fr_R_scan M fu o0 I0 m_o0_0 m_o0_2 m_o0_3 m_o0_4 c_1) f0
  obtain ⟨u_4, I5, c_3, hf⟩ := of_zb hf
  have fI5 := fr_tr (fr_R_forget M fu o0 I2 m_o0_0 c_3) fI2
  obtain ⟨g_5, hf⟩ := of_zg hf
  obtain ⟨I7, fI7, hf⟩ := fr_zw m_o0_0 fI5 hf
  obtain ⟨u_7, I10, c_6, hf⟩ := of_zb hf
  have fI10 := fr_tr (fr_W_clear M fu (o0 + 5) I7 m_o0_5 c_6) fI7
  obtain ⟨I12, fI12, hf⟩ := fr_zw m_o0_0 fI10 hf
  obtain ⟨u_9, I14, c_8, hf⟩ := of_zb hf
  have fI14 := fr_tr (fr_R_advance M fu o0 I12 m_o0_0 c_8) fI12
  refine fr_R_understand_31 M fu _ o0 m_o0_0 m_o0_5 m_o0_6 m_o0_7 m_o0_8 ?_ fu 0 I14 fI14 hf
  · intro I20 fI20 hf
    rcases of_ite hf with ⟨_, hf⟩ | ⟨_, hf⟩
    · cases hf; exact fI20
    · cases hf; exact fI20
theorem fr_W_copyFrom (M : Nat → Prop) (fu : Nat) (o0 : Nat) (o1 : Nat) (I0 : IMem) {r : Int × IMem} (m_o0_0 : M o0) (m_o0_1 : M (o0 + 1)) (m_o0_2 : M (o0 + 2)) (m_o0_3 : M (o0 + 3)) (hf : f_W_copyFrom fu o0 o1 I0 = some r) : ∀ q, ¬ M q → r.2 q = I0 q := by
  unfold f_W_copyFrom at hf
  obtain ⟨Ib, hIb⟩ : ∃ Ib : IMem, Ib = I0 := ⟨I0, rfl⟩
  rw [← hIb]
  have f0 : ∀ q, ¬ M q → I0 q = Ib q := fun q _ => by rw [hIb]
  clear hIb
  obtain ⟨I1, fI1, hf⟩ := fr_zw m_o0_0 f0 hf
  obtain ⟨I2, fI2, hf⟩ := fr_zw m_o0_0 fI1 hf
  obtain ⟨g_1, hf⟩ := of_zg hf
  obtain ⟨I3, fI3, hf⟩ := fr_zc m_o0_1 fI2 hf
  obtain ⟨g_2, hf⟩ := of_zg hf
  obtain ⟨I4, fI4, hf⟩ := fr_zc m_o0_2 fI3 hf
  obtain ⟨g_3, hf⟩ := of_zg hf
  obtain ⟨I5, fI5, hf⟩ := fr_zc m_o0_3 fI4 hf
  cases hf; exact fI5
theorem fr_S_text (M : Nat → Prop) (fu : Nat) (o0 : Nat) (a1 : Int) (I0 : IMem) {r : Int × IMem} (m_o0_16_41 : ∀ q, o0 + 16 ≤ q → q < o0 + 41 → M q) (m_o0_144 : M (o0 + 144)) (m_o0_146 : M (o0 + 146)) (m_o0_147 : M (o0 + 147)) (m_o0_148 : M (o0 + 148)) (m_o0_149 : M (o0 + 149)) (m_o0_150 : M (o0 + 150)) (m_o0_151 : M (o0 + 151)) (m_o0_152 : M (o0 + 152)) (hf : f_S_text fu o0 a1 I0 = some r) : ∀ q, ¬ M q → r.2 q = I0 q := by
  unfold f_S_text at hf
  obtain ⟨Ib, hIb⟩ : ∃ Ib : IMem, Ib = I0 := ⟨I0, rfl⟩
  rw [← hIb]
  have f0 : ∀ q, ¬ M q → I0 q = Ib q := fun q _ => by rw [hIb]
  clear hIb
  obtain ⟨k1, ek1, hf⟩ := of_zj hf
  have hk1 : ∀  (I2 : IMem), (∀ q, ¬ M q → I2 q = Ib q) → k1 I2 = some r → ∀ q, ¬ M q → r.2 q = Ib q := by
    intro I2 fI2 hf
    subst ek1
    obtain ⟨u_2, I4, c_1, hf⟩ := of_zb hf
    have fI4 := fr_tr (fr_R_forget M fu (o0 + 144) I2 m_o0_144 c_1) fI2
    cases hf; exact fI4
  rcases of_ite hf with ⟨_, hf⟩ | ⟨_, hf⟩
  · exact hk1 I0 f0 hf
  · rcases of_ite hf with ⟨_, hf⟩ | ⟨_, hf⟩
    · exact hk1 I0 f0 hf
    · obtain ⟨k6, ek6, hf⟩ := of_zj hf
      have hk6 : ∀ (x8 : Int) (I7 : IMem), (∀ q, ¬ M q → I7 q = Ib q) → k6 x8 I7 = some r → ∀ q, ¬ M q → r.2 q = Ib q := by
        intro x8 I7 fI7 hf
        subst ek6
        obtain ⟨y9, I10, c_3, hf⟩ := of_zb hf
        have fI10 := fr_tr (fr_R_understand M fu (o0 + 144) x8 I7 m_o0_144 m_o0_146 m_o0_147 m_o0_148 m_o0_149 m_o0_150 m_o0_151 m_o0_152 c_3) fI7
        rcases of_ite hf with ⟨_, hf⟩ | ⟨_, hf⟩
        · cases hf; exact fI10
        · obtain ⟨g_4, hf⟩ := of_zg hf
          obtain ⟨u_6, I14, c_5, hf⟩ := of_zb hf
          have fI14 := fr_tr (fr_W_copyFrom M fu (o0 + 16 + 5 * a1.toNat) (o0 + 149) I10 (m_o0_16_41 _ (by omega) (by omega)) (m_o0_16_41 _ (by omega) (by omega)) (m_o0_16_41 _ (by omega) (by omega)) (m_o0_16_41 _ (by omega) (by omega)) c_5) fI10
          cases hf; exact fI14
      rcases of_ite hf with ⟨_, hf⟩ | ⟨_, hf⟩
      · exact hk6 1 I0 f0 hf
      · exact hk6 0 I0 f0 hf
theorem fr_S_fault (M : Nat → Prop) (fu : Nat) (o0 : Nat) (a1 : Int) (I0 : IMem) {r : Int × IMem} (hf : f_S_fault fu o0 a1 I0 = some r) : ∀ q, ¬ M q → r.2 q = I0 q := by
  unfold f_S_fault at hf
  obtain ⟨Ib, hIb⟩ : ∃ Ib : IMem, Ib = I0 := ⟨I0, rfl⟩
  rw [← hIb]
  have f0 : ∀ q, ¬ M q → I0 q = Ib q := fun q _ => by rw [hIb]
  clear hIb
  rcases of_ite hf with ⟨_, hf⟩ | ⟨_, hf⟩
  · cases hf; exact f0
  · rcases of_ite hf with ⟨_, hf⟩ | ⟨_, hf⟩
    · cases hf; exact f0
    · cases hf; exact f0
theorem fr_L_shortest_4 (M : Nat → Prop) (fu : Nat) {r : Int × IMem} {Ib : IMem} (o0 : Nat) : ∀ (m : Nat) (w1 : Int) (w2 : Int) (I0 : IMem), (∀ q, ¬ M q → I0 q = Ib q) → f_L_shortest_4 fu o0 m w1 w2 I0 = some r → ∀ q, ¬ M q → r.2 q = Ib q := by
  intro m
  induction m with
  | zero => intro w1 w2 I0 _ hf; cases hf
  | succ m hR_ =>
    intro w1 w2 I0 fI0 hf
    replace hf : fb_L_shortest_4 fu o0 (f_L_shortest_4 fu o0 m) w1 w2 I0 = some r := hf
    unfold fb_L_shortest_4 at hf
    rcases of_ite hf with ⟨_, hf⟩ | ⟨_, hf⟩
    · obtain ⟨g_1, hf⟩ := of_zg hf
      obtain ⟨g_2, hf⟩ := of_zg hf
      obtain ⟨k1, ek1, hf⟩ := of_zj hf
      have hk1 : ∀ (x3 : Int) (I2 : IMem), (∀ q, ¬ M q → I2 q = Ib q) → k1 x3 I2 = some r → ∀ q, ¬ M q → r.2 q = Ib q := by
        intro x3 I2 fI2 hf
        subst ek1
        obtain ⟨x4, -, hf⟩ := of_zl hf
        exact hR_ x3 x4 I2 fI2 hf
      rcases of_ite hf with ⟨_, hf⟩ | ⟨_, hf⟩
      · exact hk1 w2 I0 fI0 hf
      · exact hk1 w1 I0 fI0 hf
    · cases hf; exact fI0
theorem fr_L_shortest (M : Nat → Prop) (fu : Nat) (o0 : Nat) (I0 : IMem) {r : Int × IMem} (hf : f_L_shortest fu o0 I0 = some r) : ∀ q, ¬ M q → r.2 q = I0 q := by
  unfold f_L_shortest at hf
  obtain ⟨Ib, hIb⟩ : ∃ Ib : IMem, Ib = I0 := ⟨I0, rfl⟩
  rw [← hIb]
  have f0 : ∀ q, ¬ M q → I0 q = Ib q := fun q _ => by rw [hIb]
  clear hIb
  refine fr_L_shortest_4 M fu o0 fu 0 1 I0 f0 hf
theorem fr_W_reckon_6 (M : Nat → Prop) (fu : Nat) {r : Int × IMem} {Ib : IMem} (k_378 : Int → IMem → Res) (o0 : Nat) (p2 : Int) (o3 : Nat) (n3 : Nat) (m_o0_4 : M (o0 + 4)) (hk_378 : ∀ (z0 : Int) (I9 : IMem), (∀ q, ¬ M q → I9 q = Ib q) → k_378 z0 I9 = some r → ∀ q, ¬ M q → r.2 q = Ib q) : ∀ (m : Nat) (w4 : Int) (w5 : Int) (I0 : IMem), (∀ q, ¬ M q → I0 q = Ib q) → f_W_reckon_6 fu k_378 o0 p2 o3 n3 m w4 w5 I0 = some r → ∀ q, ¬ M q → r.2 q = Ib q := by
  intro m
  induction m with
  | zero => intro w4 w5 I0 _ hf; cases hf
  | succ m hR_ =>
    intro w4 w5 I0 fI0 hf
    replace hf : fb_W_reckon_6 fu k_378 o0 p2 o3 n3 (f_W_reckon_6 fu k_378 o0 p2 o3 n3 m) w4 w5 I0 = some r := hf
    unfold fb_W_reckon_6 at hf
    rcases of_ite hf with ⟨_, hf⟩ | ⟨_, hf⟩
    · exact hk_378 w4 I0 fI0 hf
    · rcases of_ite hf with ⟨_, hf⟩ | ⟨_, hf⟩
      · rcases of_ite hf with ⟨_, hf⟩ | ⟨_, hf⟩
        · obtain ⟨g_1, hf⟩ := of_zg hf
          obtain ⟨x1, -, hf⟩ := of_zl hf
          obtain ⟨x2, -, hf⟩ := of_zl hf
          obtain ⟨k3, ek3, hf⟩ := of_zj hf
          have hk3 : ∀ (x5 : Int) (I4 : IMem), (∀ q, ¬ M q → I4 q = Ib q) → k3 x5 I4 = some r → ∀ q, ¬ M q → r.2 q = Ib q := by
            intro x5 I4 fI4 hf
            subst ek3
            obtain ⟨x6, -, hf⟩ := of_zl hf
            rcases of_ite hf with ⟨_, hf⟩ | ⟨_, hf⟩
            · cases hf; exact fI4
            · rcases of_ite hf with ⟨_, hf⟩ | ⟨_, hf⟩
              · rcases of_ite hf with ⟨_, hf⟩ | ⟨_, hf⟩
                · obtain ⟨g_2, hf⟩ := of_zg hf
                  obtain ⟨x7, -, hf⟩ := of_zl hf
                  obtain ⟨x8, -, hf⟩ := of_zl hf
                  obtain ⟨g_3, hf⟩ := of_zg hf
                  obtain ⟨x9, -, hf⟩ := of_zl hf
                  obtain ⟨k10, ek10, hf⟩ := of_zj hf
                  have hk10 : ∀  (I11 : IMem), (∀ q, ¬ M q → I11 q = Ib q) → k10 I11 = some r → ∀ q, ¬ M q → r.2 q = Ib q := by
                    intro I11 fI11 hf
                    subst ek10
                    obtain ⟨x12, -, hf⟩ := of_zl hf
                    exact hR_ x6 x12 I11 fI11 hf
                  rcases of_ite hf with ⟨_, hf⟩ | ⟨_, hf⟩
                  · obtain ⟨g_4, hf⟩ := of_zg hf
                    obtain ⟨I14, fI14, hf⟩ := fr_zw m_o0_4 fI4 hf
                    exact hk10 I14 fI14 hf
                  · rcases of_ite hf with ⟨_, hf⟩ | ⟨_, hf⟩
                    · obtain ⟨g_5, hf⟩ := of_zg hf
                      obtain ⟨I16, fI16, hf⟩ := fr_zw m_o0_4 fI4 hf
                      exact hk10 I16 fI16 hf
                    · rcases of_ite hf with ⟨_, hf⟩ | ⟨_, hf⟩
                      · obtain ⟨g_6, hf⟩ := of_zg hf
                        obtain ⟨I18, fI18, hf⟩ := fr_zw m_o0_4 fI4 hf
                        exact hk10 I18 fI18 hf
                      · rcases of_ite hf with ⟨_, hf⟩ | ⟨_, hf⟩
                        · obtain ⟨k20, ek20, hf⟩ := of_zj hf
                          have hk20 : ∀ (x22 : Int) (I21 : IMem), (∀ q, ¬ M q → I21 q = Ib q) → k20 x22 I21 = some r → ∀ q, ¬ M q → r.2 q = Ib q := by
                            intro x22 I21 fI21 hf
                            subst ek20
                            obtain ⟨g_7, hf⟩ := of_zg hf
                            obtain ⟨I23, fI23, hf⟩ := fr_zw m_o0_4 fI21 hf
                            exact hk10 I23 fI23 hf
                          rcases of_ite hf with ⟨_, hf⟩ | ⟨_, hf⟩
                          · exact hk20 1 I4 fI4 hf
                          · exact hk20 0 I4 fI4 hf
                        · rcases of_ite hf with ⟨_, hf⟩ | ⟨_, hf⟩
                          · obtain ⟨k25, ek25, hf⟩ := of_zj hf
                            have hk25 : ∀ (x27 : Int) (I26 : IMem), (∀ q, ¬ M q → I26 q = Ib q) → k25 x27 I26 = some r → ∀ q, ¬ M q → r.2 q = Ib q := by
                              intro x27 I26 fI26 hf
                              subst ek25
                              obtain ⟨g_8, hf⟩ := of_zg hf
                              obtain ⟨I28, fI28, hf⟩ := fr_zw m_o0_4 fI26 hf
                              exact hk10 I28 fI28 hf
                            rcases of_ite hf with ⟨_, hf⟩ | ⟨_, hf⟩
                            · exact hk25 1 I4 fI4 hf
                            · exact hk25 0 I4 fI4 hf
                          · rcases of_ite hf with ⟨_, hf⟩ | ⟨_, hf⟩
                            · obtain ⟨k30, ek30, hf⟩ := of_zj hf
                              have hk30 : ∀ (x32 : Int) (I31 : IMem), (∀ q, ¬ M q → I31 q = Ib q) → k30 x32 I31 = some r → ∀ q, ¬ M q → r.2 q = Ib q := by
                                intro x32 I31 fI31 hf
                                subst ek30
                                obtain ⟨g_9, hf⟩ := of_zg hf
                                obtain ⟨I33, fI33, hf⟩ := fr_zw m_o0_4 fI31 hf
                                exact hk10 I33 fI33 hf
                              rcases of_ite hf with ⟨_, hf⟩ | ⟨_, hf⟩
                              · exact hk30 1 I4 fI4 hf
                              · exact hk30 0 I4 fI4 hf
                            · rcases of_ite hf with ⟨_, hf⟩ | ⟨_, hf⟩
                              · obtain ⟨k35, ek35, hf⟩ := of_zj hf
                                have hk35 : ∀ (x37 : Int) (I36 : IMem), (∀ q, ¬ M q → I36 q = Ib q) → k35 x37 I36 = some r → ∀ q, ¬ M q → r.2 q = Ib q := by
                                  intro x37 I36 fI36 hf
                                  subst ek35
                                  obtain ⟨g_10, hf⟩ := of_zg hf
                                  obtain ⟨I38, fI38, hf⟩ := fr_zw m_o0_4 fI36 hf
                                  exact hk10 I38 fI38 hf
                                rcases of_ite hf with ⟨_, hf⟩ | ⟨_, hf⟩
                                · exact hk35 0 I4 fI4 hf
                                · obtain ⟨g_11, hf⟩ := of_zg hf
                                  exact hk35 (wdiv x7 x9) I4 fI4 hf
                              · rcases of_ite hf with ⟨_, hf⟩ | ⟨_, hf⟩
                                · obtain ⟨g_12, hf⟩ := of_zg hf
                                  obtain ⟨I40, fI40, hf⟩ := fr_zw m_o0_4 fI4 hf
                                  exact hk10 I40 fI40 hf
                                · rcases of_ite hf with ⟨_, hf⟩ | ⟨_, hf⟩
                                  · obtain ⟨g_13, hf⟩ := of_zg hf
                                    obtain ⟨I42, fI42, hf⟩ := fr_zw m_o0_4 fI4 hf
                                    exact hk10 I42 fI42 hf
                                  · rcases of_ite hf with ⟨_, hf⟩ | ⟨_, hf⟩
                                    · obtain ⟨g_14, hf⟩ := of_zg hf
                                      obtain ⟨I44, fI44, hf⟩ := fr_zw m_o0_4 fI4 hf
                                      exact hk10 I44 fI44 hf
                                    · obtain ⟨k45, ek45, hf⟩ := of_zj hf
                                      have hk45 : ∀ (x47 : Int) (I46 : IMem), (∀ q, ¬ M q → I46 q = Ib q) → k45 x47 I46 = some r → ∀ q, ¬ M q → r.2 q = Ib q := by
                                        intro x47 I46 fI46 hf
                                        subst ek45
                                        obtain ⟨g_15, hf⟩ := of_zg hf
                                        obtain ⟨I48, fI48, hf⟩ := fr_zw m_o0_4 fI46 hf
                                        exact hk10 I48 fI48 hf
                                      rcases of_ite hf with ⟨_, hf⟩ | ⟨_, hf⟩
                                      · exact hk45 x1 I4 fI4 hf
                                      · obtain ⟨g_16, hf⟩ := of_zg hf
                                        exact hk45 (I4 o3 x2.toNat) I4 fI4 hf
                · cases hf; exact fI4
              · cases hf; exact fI4
          rcases of_ite hf with ⟨_, hf⟩ | ⟨_, hf⟩
          · rcases of_ite hf with ⟨_, hf⟩ | ⟨_, hf⟩
            · exact hk3 0 I0 fI0 hf
            · exact hk3 ((-1)) I0 fI0 hf
          · exact hk3 1 I0 fI0 hf
        · exact hk_378 w4 I0 fI0 hf
      · exact hk_378 w4 I0 fI0 hf
theorem fr_W_reckon (M : Nat → Prop) (fu : Nat) (o0 : Nat) (a1 : Int) (a2 : Int) (o3 n3 : Nat) (I0 : IMem) {r : Int × IMem} (m_o0_4 : M (o0 + 4)) (hf : f_W_reckon fu o0 a1 a2 o3 n3 I0 = some r) : ∀ q, ¬ M q → r.2 q = I0 q := by
  unfold f_W_reckon at hf
  obtain ⟨Ib, hIb⟩ : ∃ Ib : IMem, Ib = I0 := ⟨I0, rfl⟩
  rw [← hIb]
  have f0 : ∀ q, ¬ M q → I0 q = Ib q := fun q _ => by rw [hIb]
  clear hIb
  refine fr_W_reckon_6 M fu _ o0 a2 o3 n3 m_o0_4 ?_ fu ((-1)) a1 I0 f0 hf
  · intro x50 I49 fI49 hf
    rcases of_ite hf with ⟨_, hf⟩ | ⟨_, hf⟩
    · cases hf; exact fI49
    · obtain ⟨g_1, hf⟩ := of_zg hf
      cases hf; exact fI49
theorem fr_W_value_2 (M : Nat → Prop) (fu : Nat) {r : Int × IMem} {Ib : IMem} (k_50 : Int → Int → IMem → Res) (o0 : Nat) (o1 : Nat) (n1 : Nat) (m_o0_4 : M (o0 + 4)) (hk_50 : ∀ (z0 : Int) (z1 : Int) (I9 : IMem), (∀ q, ¬ M q → I9 q = Ib q) → k_50 z0 z1 I9 = some r → ∀ q, ¬ M q → r.2 q = Ib q) : ∀ (m : Nat) (w2 : Int) (I0 : IMem), (∀ q, ¬ M q → I0 q = Ib q) → f_W_value_2 fu k_50 o0 o1 n1 m w2 I0 = some r → ∀ q, ¬ M q → r.2 q = Ib q := by
  intro m
  induction m with
  | zero => intro w2 I0 _ hf; cases hf
  | succ m hR_ =>
    intro w2 I0 fI0 hf
    replace hf : fb_W_value_2 fu k_50 o0 o1 n1 (f_W_value_2 fu k_50 o0 o1 n1 m) w2 I0 = some r := hf
    unfold fb_W_value_2 at hf
    rcases of_ite hf with ⟨_, hf⟩ | ⟨_, hf⟩
    · rcases of_ite hf with ⟨_, hf⟩ | ⟨_, hf⟩
      · obtain ⟨g_1, hf⟩ := of_zg hf
        obtain ⟨x1, -, hf⟩ := of_zl hf
        obtain ⟨x2, -, hf⟩ := of_zl hf
        obtain ⟨g_2, hf⟩ := of_zg hf
        obtain ⟨x3, -, hf⟩ := of_zl hf
        rcases of_ite hf with ⟨_, hf⟩ | ⟨_, hf⟩
        · exact hk_50 w2 x1 I0 fI0 hf
        · obtain ⟨y4, I5, c_3, hf⟩ := of_zb hf
          have fI5 := fr_tr (fr_W_reckon M fu o0 x1 x3 o1 n1 I0 m_o0_4 c_3) fI0
          rcases of_ite hf with ⟨_, hf⟩ | ⟨_, hf⟩
          · obtain ⟨x7, -, hf⟩ := of_zl hf
            exact hR_ x7 I5 fI5 hf
          · exact hk_50 w2 x1 I5 fI5 hf
      · cases hf; exact fI0
    · cases hf; exact fI0
theorem fr_W_value (M : Nat → Prop) (fu : Nat) (o0 : Nat) (o1 n1 : Nat) (I0 : IMem) {r : Int × IMem} (m_o0_4 : M (o0 + 4)) (hf : f_W_value fu o0 o1 n1 I0 = some r) : ∀ q, ¬ M q → r.2 q = I0 q := by
  unfold f_W_value at hf
  obtain ⟨Ib, hIb⟩ : ∃ Ib : IMem, Ib = I0 := ⟨I0, rfl⟩
  rw [← hIb]
  have f0 : ∀ q, ¬ M q → I0 q = Ib q := fun q _ => by rw [hIb]
  clear hIb
  refine fr_W_value_2 M fu _ o0 o1 n1 m_o0_4 ?_ fu 0 I0 f0 hf
  · intro x9 x10 I8 fI8 hf
    obtain ⟨g_1, hf⟩ := of_zg hf
    obtain ⟨y11, I12, c_2, hf⟩ := of_zb hf
    have fI12 := fr_tr (fr_W_reckon M fu o0 (I8 (o0 + 2) x9.toNat) x10 o1 n1 I8 m_o0_4 c_2) fI8
    cases hf; exact fI12
theorem fr_H_lineFor (M : Nat → Prop) (fu : Nat) (o0 : Nat) (a1 : Int) (a2 : Int) (I0 : IMem) {r : Int × IMem} (m_o0_13 : M (o0 + 13)) (m_o0_39 : M (o0 + 39)) (hf : f_H_lineFor fu o0 a1 a2 I0 = some r) : ∀ q, ¬ M q → r.2 q = I0 q := by
  unfold f_H_lineFor at hf
  obtain ⟨Ib, hIb⟩ : ∃ Ib : IMem, Ib = I0 := ⟨I0, rfl⟩
  rw [← hIb]
  have f0 : ∀ q, ¬ M q → I0 q = Ib q := fun q _ => by rw [hIb]
  clear hIb
  rcases of_ite hf with ⟨_, hf⟩ | ⟨_, hf⟩
  · obtain ⟨I1, fI1, hf⟩ := fr_zw m_o0_13 f0 hf
    obtain ⟨I2, fI2, hf⟩ := fr_zw m_o0_13 fI1 hf
    obtain ⟨y3, I4, c_1, hf⟩ := of_zb hf
    have fI4 := fr_tr (fr_L_shortest M fu (o0 + 6) I2 c_1) fI2
    obtain ⟨I6, fI6, hf⟩ := fr_zw m_o0_13 fI4 hf
    obtain ⟨I7, fI7, hf⟩ := fr_zw m_o0_13 fI6 hf
    obtain ⟨y8, I9, c_2, hf⟩ := of_zb hf
    have fI9 := fr_tr (fr_W_value M fu (o0 + 35) (o0 + 13) 16 I7 m_o0_39 c_2) fI7
    cases hf; exact fI9
  · rcases of_ite hf with ⟨_, hf⟩ | ⟨_, hf⟩
    · cases hf; exact f0
    · cases hf; exact f0
theorem fr_L_append (M : Nat → Prop) (fu : Nat) (o0 : Nat) (a1 : Int) (o2 n2 : Nat) (a3 : Int) (I0 : IMem) {r : Int × IMem} (m_o0_1 : M (o0 + 1)) (m_o0_2 : M (o0 + 2)) (hf : f_L_append fu o0 a1 o2 n2 a3 I0 = some r) : ∀ q, ¬ M q → r.2 q = I0 q := by
  unfold f_L_append at hf
  obtain ⟨Ib, hIb⟩ : ∃ Ib : IMem, Ib = I0 := ⟨I0, rfl⟩
  rw [← hIb]
  have f0 : ∀ q, ¬ M q → I0 q = Ib q := fun q _ => by rw [hIb]
  clear hIb
  obtain ⟨y1, I2, c_1, hf⟩ := of_zb hf
  have fI2 := fr_tr (fr_S_isLine M fu a1 I0 c_1) f0
  rcases of_ite hf with ⟨_, hf⟩ | ⟨_, hf⟩
  · cases hf; exact fI2
  · obtain ⟨g_2, hf⟩ := of_zg hf
    rcases of_ite hf with ⟨_, hf⟩ | ⟨_, hf⟩
    · rcases of_ite hf with ⟨_, hf⟩ | ⟨_, hf⟩
      · cases hf; exact fI2
      · rcases of_ite hf with ⟨_, hf⟩ | ⟨_, hf⟩
        · cases hf; exact fI2
        · obtain ⟨g_3, hf⟩ := of_zg hf
          obtain ⟨x4, -, hf⟩ := of_zl hf
          obtain ⟨g_4, hf⟩ := of_zg hf
          obtain ⟨I5, fI5, hf⟩ := fr_zc m_o0_1 fI2 hf
          obtain ⟨g_5, hf⟩ := of_zg hf
          obtain ⟨g_6, hf⟩ := of_zg hf
          obtain ⟨I6, fI6, hf⟩ := fr_zw m_o0_2 fI5 hf
          cases hf; exact fI6
    · cases hf; exact fI2
theorem fr_H_enter (M : Nat → Prop) (fu : Nat) (o0 : Nat) (a1 : Int) (a2 : Int) (a3 : Int) (I0 : IMem) {r : Int × IMem} (m_o0_0 : M o0) (m_o0_7 : M (o0 + 7)) (m_o0_8 : M (o0 + 8)) (m_o0_10 : M (o0 + 10)) (m_o0_13 : M (o0 + 13)) (m_o0_14 : M (o0 + 14)) (m_o0_39 : M (o0 + 39)) (hf : f_H_enter fu o0 a1 a2 a3 I0 = some r) : ∀ q, ¬ M q → r.2 q = I0 q := by
  unfold f_H_enter at hf
  obtain ⟨Ib, hIb⟩ : ∃ Ib : IMem, Ib = I0 := ⟨I0, rfl⟩
  rw [← hIb]
  have f0 : ∀ q, ¬ M q → I0 q = Ib q := fun q _ => by rw [hIb]
  clear hIb
  obtain ⟨I1, fI1, hf⟩ := fr_zw m_o0_14 f0 hf
  obtain ⟨I2, fI2, hf⟩ := fr_zw m_o0_14 fI1 hf
  obtain ⟨I3, fI3, hf⟩ := fr_zw m_o0_14 fI2 hf
  obtain ⟨I4, fI4, hf⟩ := fr_zw m_o0_14 fI3 hf
  obtain ⟨I5, fI5, hf⟩ := fr_zw m_o0_0 fI4 hf
  obtain ⟨y6, I7, c_1, hf⟩ := of_zb hf
  have fI7 := fr_tr (fr_H_lineFor M fu o0 a2 a3 I5 m_o0_13 m_o0_39 c_1) fI5
  obtain ⟨y9, I10, c_2, hf⟩ := of_zb hf
  have fI10 := fr_tr (fr_L_append M fu (o0 + 6) y6 (o0 + 14) 6 0 I7 m_o0_7 m_o0_8 c_2) fI7
  rcases of_ite hf with ⟨_, hf⟩ | ⟨_, hf⟩
  · obtain ⟨I12, fI12, hf⟩ := fr_zw m_o0_10 fI10 hf
    cases hf; exact fI12
  · cases hf; exact fI10
theorem fr_S_come (M : Nat → Prop) (fu : Nat) (o0 : Nat) (a1 : Int) (a2 : Int) (a3 : Int) (I0 : IMem) {r : Int × IMem} (m_o0_1 : M (o0 + 1)) (m_o0_8 : M (o0 + 8)) (m_o0_9 : M (o0 + 9)) (m_o0_11 : M (o0 + 11)) (m_o0_14 : M (o0 + 14)) (m_o0_15 : M (o0 + 15)) (m_o0_40 : M (o0 + 40)) (hf : f_S_come fu o0 a1 a2 a3 I0 = some r) : ∀ q, ¬ M q → r.2 q = I0 q := by
  unfold f_S_come at hf
  obtain ⟨Ib, hIb⟩ : ∃ Ib : IMem, Ib = I0 := ⟨I0, rfl⟩
  rw [← hIb]
  have f0 : ∀ q, ¬ M q → I0 q = Ib q := fun q _ => by rw [hIb]
  clear hIb
  obtain ⟨y1, I2, c_1, hf⟩ := of_zb hf
  have fI2 := fr_tr (fr_S_canBe M fu a1 a2 a3 I0 c_1) f0
  rcases of_ite hf with ⟨_, hf⟩ | ⟨_, hf⟩
  · cases hf; exact fI2
  · obtain ⟨y4, I5, c_2, hf⟩ := of_zb hf
    have fI5 := fr_tr (fr_H_enter M fu (o0 + 1) a1 a2 a3 I2 m_o0_1 m_o0_8 m_o0_9 m_o0_11 m_o0_14 m_o0_15 m_o0_40 c_2) fI2
    cases hf; exact fI5
theorem lif_at {fu o : Nat} {I0 I1 : IMem} {v : Int} (hf : f_H_lawInForce fu o I0 = some (v, I1)) : o + 15 ≤ v.toNat ∧ v.toNat + 4 < o + 40 ∧ I1 = I0 := by
  unfold f_H_lawInForce at hf
  obtain ⟨x1, -, hf⟩ := of_zl hf
  have hk : ∀ k : Nat, k < 5 → zr ((o + 15 + 5 * k : Nat) : Int) I0 = some (v, I1) → o + 15 ≤ v.toNat ∧ v.toNat + 4 < o + 40 ∧ I1 = I0 := by
    intro k h5 hf
    cases hf
    rw [Int.toNat_natCast]
    exact ⟨by omega, by omega, rfl⟩
  rcases of_ite hf with ⟨_, hf⟩ | ⟨_, hf⟩
  · exact hk 0 (by decide) hf
  · rcases of_ite hf with ⟨_, hf⟩ | ⟨_, hf⟩
    · obtain ⟨g, hf⟩ := of_zg hf
      exact hk _ (by omega) hf
    · exact hk 0 (by decide) hf
theorem fr_H_lawInForce (M : Nat → Prop) (fu : Nat) (o0 : Nat) (I0 : IMem) {r : Int × IMem} (hf : f_H_lawInForce fu o0 I0 = some r) : ∀ q, ¬ M q → r.2 q = I0 q := by
  unfold f_H_lawInForce at hf
  obtain ⟨Ib, hIb⟩ : ∃ Ib : IMem, Ib = I0 := ⟨I0, rfl⟩
  rw [← hIb]
  have f0 : ∀ q, ¬ M q → I0 q = Ib q := fun q _ => by rw [hIb]
  clear hIb
  obtain ⟨x1, -, hf⟩ := of_zl hf
  rcases of_ite hf with ⟨_, hf⟩ | ⟨_, hf⟩
  · cases hf; exact f0
  · rcases of_ite hf with ⟨_, hf⟩ | ⟨_, hf⟩
    · obtain ⟨g_1, hf⟩ := of_zg hf
      cases hf; exact f0
    · cases hf; exact f0
theorem fr_L_countOf (M : Nat → Prop) (fu : Nat) (o0 : Nat) (a1 : Int) (I0 : IMem) {r : Int × IMem} (hf : f_L_countOf fu o0 a1 I0 = some r) : ∀ q, ¬ M q → r.2 q = I0 q := by
  unfold f_L_countOf at hf
  obtain ⟨Ib, hIb⟩ : ∃ Ib : IMem, Ib = I0 := ⟨I0, rfl⟩
  rw [← hIb]
  have f0 : ∀ q, ¬ M q → I0 q = Ib q := fun q _ => by rw [hIb]
  clear hIb
  obtain ⟨y1, I2, c_1, hf⟩ := of_zb hf
  have fI2 := fr_tr (fr_S_isLine M fu a1 I0 c_1) f0
  rcases of_ite hf with ⟨_, hf⟩ | ⟨_, hf⟩
  · cases hf; exact fI2
  · obtain ⟨g_2, hf⟩ := of_zg hf
    obtain ⟨y4, I5, c_3, hf⟩ := of_zb hf
    have fI5 := fr_tr (fr_JM_min M fu (I2 (o0 + 2) a1.toNat) 40 I2 c_3) fI2
    cases hf; exact fI5
theorem fr_L_get (M : Nat → Prop) (fu : Nat) (o0 : Nat) (a1 : Int) (a2 : Int) (I0 : IMem) {r : Int × IMem} (hf : f_L_get fu o0 a1 a2 I0 = some r) : ∀ q, ¬ M q → r.2 q = I0 q := by
  unfold f_L_get at hf
  obtain ⟨Ib, hIb⟩ : ∃ Ib : IMem, Ib = I0 := ⟨I0, rfl⟩
  rw [← hIb]
  have f0 : ∀ q, ¬ M q → I0 q = Ib q := fun q _ => by rw [hIb]
  clear hIb
  obtain ⟨x1, -, hf⟩ := of_zl hf
  rcases of_ite hf with ⟨_, hf⟩ | ⟨_, hf⟩
  · cases hf; exact f0
  · rcases of_ite hf with ⟨_, hf⟩ | ⟨_, hf⟩
    · obtain ⟨g_1, hf⟩ := of_zg hf
      cases hf; exact f0
    · cases hf; exact f0
theorem fr_H_weigh (M : Nat → Prop) (fu : Nat) (o0 : Nat) (a1 : Int) (a2 : Int) (a3 : Int) (I0 : IMem) {r : Int × IMem} (m_o0_13 : M (o0 + 13)) (hf : f_H_weigh fu o0 a1 a2 a3 I0 = some r) : ∀ q, ¬ M q → r.2 q = I0 q := by
  unfold f_H_weigh at hf
  obtain ⟨Ib, hIb⟩ : ∃ Ib : IMem, Ib = I0 := ⟨I0, rfl⟩
  rw [← hIb]
  have f0 : ∀ q, ¬ M q → I0 q = Ib q := fun q _ => by rw [hIb]
  clear hIb
  obtain ⟨x1, -, hf⟩ := of_zl hf
  obtain ⟨x2, -, hf⟩ := of_zl hf
  obtain ⟨y3, I4, c_1, hf⟩ := of_zb hf
  have fI4 := fr_tr (fr_L_get M fu (o0 + 6) a1 2 I0 c_1) f0
  obtain ⟨I6, fI6, hf⟩ := fr_zw m_o0_13 fI4 hf
  obtain ⟨I7, fI7, hf⟩ := fr_zw m_o0_13 fI6 hf
  obtain ⟨I8, fI8, hf⟩ := fr_zw m_o0_13 fI7 hf
  obtain ⟨I9, fI9, hf⟩ := fr_zw m_o0_13 fI8 hf
  obtain ⟨y10, I11, c_2, hf⟩ := of_zb hf
  have fI11 := fr_tr (fr_L_get M fu (o0 + 6) a1 5 I9 c_2) fI9
  obtain ⟨I13, fI13, hf⟩ := fr_zw m_o0_13 fI11 hf
  obtain ⟨y14, I15, c_3, hf⟩ := of_zb hf
  have fI15 := fr_tr (fr_L_get M fu (o0 + 6) a1 4 I13 c_3) fI13
  obtain ⟨I17, fI17, hf⟩ := fr_zw m_o0_13 fI15 hf
  obtain ⟨y18, I19, c_4, hf⟩ := of_zb hf
  have fI19 := fr_tr (fr_L_get M fu (o0 + 6) a1 3 I17 c_4) fI17
  obtain ⟨I21, fI21, hf⟩ := fr_zw m_o0_13 fI19 hf
  obtain ⟨I22, fI22, hf⟩ := fr_zw m_o0_13 fI21 hf
  obtain ⟨y23, I24, c_5, hf⟩ := of_zb hf
  have fI24 := fr_tr (fr_L_countOf M fu (o0 + 6) x1 I22 c_5) fI22
  obtain ⟨I26, fI26, hf⟩ := fr_zw m_o0_13 fI24 hf
  cases hf; exact fI26
theorem fr_L_has (M : Nat → Prop) (fu : Nat) (o0 : Nat) (a1 : Int) (a2 : Int) (I0 : IMem) {r : Int × IMem} (hf : f_L_has fu o0 a1 a2 I0 = some r) : ∀ q, ¬ M q → r.2 q = I0 q := by
  unfold f_L_has at hf
  obtain ⟨Ib, hIb⟩ : ∃ Ib : IMem, Ib = I0 := ⟨I0, rfl⟩
  rw [← hIb]
  have f0 : ∀ q, ¬ M q → I0 q = Ib q := fun q _ => by rw [hIb]
  clear hIb
  obtain ⟨y1, I2, c_1, hf⟩ := of_zb hf
  have fI2 := fr_tr (fr_S_isLine M fu a1 I0 c_1) f0
  rcases of_ite hf with ⟨_, hf⟩ | ⟨_, hf⟩
  · cases hf; exact fI2
  · rcases of_ite hf with ⟨_, hf⟩ | ⟨_, hf⟩
    · cases hf; exact fI2
    · obtain ⟨g_2, hf⟩ := of_zg hf
      rcases of_ite hf with ⟨_, hf⟩ | ⟨_, hf⟩
      · cases hf; exact fI2
      · cases hf; exact fI2
theorem fr_S_group (M : Nat → Prop) (fu : Nat) (o0 : Nat) (a1 : Int) (a2 : Int) (a3 : Int) (I0 : IMem) {r : Int × IMem} (m_o0_16_41 : ∀ q, o0 + 16 ≤ q → q < o0 + 41 → M q) (m_o0_14 : M (o0 + 14)) (hf : f_S_group fu o0 a1 a2 a3 I0 = some r) : ∀ q, ¬ M q → r.2 q = I0 q := by
  unfold f_S_group at hf
  obtain ⟨Ib, hIb⟩ : ∃ Ib : IMem, Ib = I0 := ⟨I0, rfl⟩
  rw [← hIb]
  have f0 : ∀ q, ¬ M q → I0 q = Ib q := fun q _ => by rw [hIb]
  clear hIb
  obtain ⟨y1, I2, c_1, hf⟩ := of_zb hf
  have fI2 := fr_tr (fr_S_isLine M fu a1 I0 c_1) f0
  rcases of_ite hf with ⟨_, hf⟩ | ⟨_, hf⟩
  · cases hf; exact fI2
  · rcases of_ite hf with ⟨_, hf⟩ | ⟨_, hf⟩
    · cases hf; exact fI2
    · rcases of_ite hf with ⟨_, hf⟩ | ⟨_, hf⟩
      · rcases of_ite hf with ⟨_, hf⟩ | ⟨_, hf⟩
        · cases hf; exact fI2
        · rcases of_ite hf with ⟨_, hf⟩ | ⟨_, hf⟩
          · cases hf; exact fI2
          · obtain ⟨y4, I5, c_2, hf⟩ := of_zb hf
            have fI5 := fr_tr (fr_L_has M fu (o0 + 7) a1 a2 I2 c_2) fI2
            rcases of_ite hf with ⟨_, hf⟩ | ⟨_, hf⟩
            · cases hf; exact fI5
            · obtain ⟨x7, -, hf⟩ := of_zl hf
              rcases of_ite hf with ⟨_, hf⟩ | ⟨_, hf⟩
              · obtain ⟨u_4, I9, c_3, hf⟩ := of_zb hf
                have fI9 := fr_tr (fr_H_weigh M fu (o0 + 1) x7 (I5 (o0 + 2) 0) 0 I5 m_o0_14 c_3) fI5
                obtain ⟨y11, I12, c_5, hf⟩ := of_zb hf
                have ly11 := lif_at c_5
                have fI12 := fr_tr (fr_H_lawInForce M fu (o0 + 1) I9 c_5) fI9
                obtain ⟨y14, I15, c_6, hf⟩ := of_zb hf
                have fI15 := fr_tr (fr_W_value M fu (y11.toNat) (o0 + 14) 16 I12 (m_o0_16_41 _ (by omega) (by omega)) c_6) fI12
                cases hf; exact fI15
              · obtain ⟨y17, I18, c_7, hf⟩ := of_zb hf
                have fI18 := fr_tr (fr_L_get M fu (o0 + 7) x7 a3 I5 c_7) fI5
                cases hf; exact fI18
      · cases hf; exact fI2
theorem fr_L_people_11 (M : Nat → Prop) (fu : Nat) {r : Int × IMem} {Ib : IMem} (o0 : Nat) (p1 : Int) (p3 : Int) : ∀ (m : Nat) (w2 : Int) (w4 : Int) (I0 : IMem), (∀ q, ¬ M q → I0 q = Ib q) → f_L_people_11 fu o0 p1 p3 m w2 w4 I0 = some r → ∀ q, ¬ M q → r.2 q = Ib q := by
  intro m
  induction m with
  | zero => intro w2 w4 I0 _ hf; cases hf
  | succ m hR_ =>
    intro w2 w4 I0 fI0 hf
    replace hf : fb_L_people_11 fu o0 p1 p3 (f_L_people_11 fu o0 p1 p3 m) w2 w4 I0 = some r := hf
    unfold fb_L_people_11 at hf
    rcases of_ite hf with ⟨_, hf⟩ | ⟨_, hf⟩
    · obtain ⟨y4, I5, c_1, hf⟩ := of_zb hf
      have fI5 := fr_tr (fr_L_get M fu o0 (wr32 ((wr32 (p1 * 40)) + w4)) 1 I0 c_1) fI0
      obtain ⟨x7, -, hf⟩ := of_zl hf
      obtain ⟨x8, -, hf⟩ := of_zl hf
      exact hR_ x7 x8 I5 fI5 hf
    · cases hf; exact fI0
theorem fr_L_people (M : Nat → Prop) (fu : Nat) (o0 : Nat) (a1 : Int) (I0 : IMem) {r : Int × IMem} (hf : f_L_people fu o0 a1 I0 = some r) : ∀ q, ¬ M q → r.2 q = I0 q := by
  unfold f_L_people at hf
  obtain ⟨Ib, hIb⟩ : ∃ Ib : IMem, Ib = I0 := ⟨I0, rfl⟩
  rw [← hIb]
  have f0 : ∀ q, ¬ M q → I0 q = Ib q := fun q _ => by rw [hIb]
  clear hIb
  obtain ⟨y1, I2, c_1, hf⟩ := of_zb hf
  have fI2 := fr_tr (fr_L_countOf M fu o0 a1 I0 c_1) f0
  refine fr_L_people_11 M fu o0 a1 y1 fu 0 0 I2 fI2 hf
theorem fr_S_line (M : Nat → Prop) (fu : Nat) (o0 : Nat) (a1 : Int) (a2 : Int) (I0 : IMem) {r : Int × IMem} (hf : f_S_line fu o0 a1 a2 I0 = some r) : ∀ q, ¬ M q → r.2 q = I0 q := by
  unfold f_S_line at hf
  obtain ⟨Ib, hIb⟩ : ∃ Ib : IMem, Ib = I0 := ⟨I0, rfl⟩
  rw [← hIb]
  have f0 : ∀ q, ¬ M q → I0 q = Ib q := fun q _ => by rw [hIb]
  clear hIb
  obtain ⟨y1, I2, c_1, hf⟩ := of_zb hf
  have fI2 := fr_tr (fr_S_isLine M fu a1 I0 c_1) f0
  rcases of_ite hf with ⟨_, hf⟩ | ⟨_, hf⟩
  · cases hf; exact fI2
  · rcases of_ite hf with ⟨_, hf⟩ | ⟨_, hf⟩
    · cases hf; exact fI2
    · rcases of_ite hf with ⟨_, hf⟩ | ⟨_, hf⟩
      · cases hf; exact fI2
      · rcases of_ite hf with ⟨_, hf⟩ | ⟨_, hf⟩
        · obtain ⟨g_2, hf⟩ := of_zg hf
          cases hf; exact fI2
        · obtain ⟨y4, I5, c_3, hf⟩ := of_zb hf
          have fI5 := fr_tr (fr_L_people M fu (o0 + 7) a1 I2 c_3) fI2
          cases hf; exact fI5
theorem fr_C_sit (M : Nat → Prop) (fu : Nat) (o0 : Nat) (a1 : Int) (a2 : Int) (a3 : Int) (a4 : Int) (I0 : IMem) {r : Int × IMem} (m_o0_0 : M o0) (m_o0_1 : M (o0 + 1)) (m_o0_2 : M (o0 + 2)) (m_o0_3 : M (o0 + 3)) (hf : f_C_sit fu o0 a1 a2 a3 a4 I0 = some r) : ∀ q, ¬ M q → r.2 q = I0 q := by
  unfold f_C_sit at hf
  obtain ⟨Ib, hIb⟩ : ∃ Ib : IMem, Ib = I0 := ⟨I0, rfl⟩
  rw [← hIb]
  have f0 : ∀ q, ¬ M q → I0 q = Ib q := fun q _ => by rw [hIb]
  clear hIb
  rcases of_ite hf with ⟨_, hf⟩ | ⟨_, hf⟩
  · cases hf; exact f0
  · rcases of_ite hf with ⟨_, hf⟩ | ⟨_, hf⟩
    · rcases of_ite hf with ⟨_, hf⟩ | ⟨_, hf⟩
      · cases hf; exact f0
      · rcases of_ite hf with ⟨_, hf⟩ | ⟨_, hf⟩
        · obtain ⟨g_1, hf⟩ := of_zg hf
          obtain ⟨I1, fI1, hf⟩ := fr_zw m_o0_1 f0 hf
          obtain ⟨x3, -, hf⟩ := of_zl hf
          obtain ⟨g_2, hf⟩ := of_zg hf
          obtain ⟨I2, fI2, hf⟩ := fr_zw m_o0_2 fI1 hf
          obtain ⟨x5, -, hf⟩ := of_zl hf
          obtain ⟨g_3, hf⟩ := of_zg hf
          obtain ⟨I4, fI4, hf⟩ := fr_zw m_o0_3 fI2 hf
          obtain ⟨I6, fI6, hf⟩ := fr_zw m_o0_0 fI4 hf
          obtain ⟨I7, fI7, hf⟩ := fr_zw m_o0_0 fI6 hf
          obtain ⟨k8, ek8, hf⟩ := of_zj hf
          have hk8 : ∀ (x10 : Int) (I9 : IMem), (∀ q, ¬ M q → I9 q = Ib q) → k8 x10 I9 = some r → ∀ q, ¬ M q → r.2 q = Ib q := by
            intro x10 I9 fI9 hf
            subst ek8
            obtain ⟨g_4, hf⟩ := of_zg hf
            obtain ⟨I11, fI11, hf⟩ := fr_zw m_o0_0 fI9 hf
            obtain ⟨k13, ek13, hf⟩ := of_zj hf
            have hk13 : ∀ (x15 : Int) (I14 : IMem), (∀ q, ¬ M q → I14 q = Ib q) → k13 x15 I14 = some r → ∀ q, ¬ M q → r.2 q = Ib q := by
              intro x15 I14 fI14 hf
              subst ek13
              obtain ⟨g_5, hf⟩ := of_zg hf
              obtain ⟨I16, fI16, hf⟩ := fr_zw m_o0_0 fI14 hf
              cases hf; exact fI16
            rcases of_ite hf with ⟨_, hf⟩ | ⟨_, hf⟩
            · rcases of_ite hf with ⟨_, hf⟩ | ⟨_, hf⟩
              · exact hk13 0 I11 fI11 hf
              · exact hk13 1 I11 fI11 hf
            · exact hk13 1 I11 fI11 hf
          rcases of_ite hf with ⟨_, hf⟩ | ⟨_, hf⟩
          · rcases of_ite hf with ⟨_, hf⟩ | ⟨_, hf⟩
            · exact hk8 1 I7 fI7 hf
            · exact hk8 0 I7 fI7 hf
          · exact hk8 1 I7 fI7 hf
        · cases hf; exact f0
    · cases hf; exact f0
theorem fr_C_stands (M : Nat → Prop) (fu : Nat) (o0 : Nat) (a1 : Int) (I0 : IMem) {r : Int × IMem} (hf : f_C_stands fu o0 a1 I0 = some r) : ∀ q, ¬ M q → r.2 q = I0 q := by
  unfold f_C_stands at hf
  obtain ⟨Ib, hIb⟩ : ∃ Ib : IMem, Ib = I0 := ⟨I0, rfl⟩
  rw [← hIb]
  have f0 : ∀ q, ¬ M q → I0 q = Ib q := fun q _ => by rw [hIb]
  clear hIb
  rcases of_ite hf with ⟨_, hf⟩ | ⟨_, hf⟩
  · cases hf; exact f0
  · rcases of_ite hf with ⟨_, hf⟩ | ⟨_, hf⟩
    · obtain ⟨g_1, hf⟩ := of_zg hf
      rcases of_ite hf with ⟨_, hf⟩ | ⟨_, hf⟩
      · cases hf; exact f0
      · cases hf; exact f0
    · cases hf; exact f0
theorem fr_L_isSeen (M : Nat → Prop) (fu : Nat) (o0 : Nat) (a1 : Int) (a2 : Int) (I0 : IMem) {r : Int × IMem} (hf : f_L_isSeen fu o0 a1 a2 I0 = some r) : ∀ q, ¬ M q → r.2 q = I0 q := by
  unfold f_L_isSeen at hf
  obtain ⟨Ib, hIb⟩ : ∃ Ib : IMem, Ib = I0 := ⟨I0, rfl⟩
  rw [← hIb]
  have f0 : ∀ q, ¬ M q → I0 q = Ib q := fun q _ => by rw [hIb]
  clear hIb
  obtain ⟨y1, I2, c_1, hf⟩ := of_zb hf
  have fI2 := fr_tr (fr_L_has M fu o0 a1 a2 I0 c_1) f0
  rcases of_ite hf with ⟨_, hf⟩ | ⟨_, hf⟩
  · cases hf; exact fI2
  · obtain ⟨g_2, hf⟩ := of_zg hf
    rcases of_ite hf with ⟨_, hf⟩ | ⟨_, hf⟩
    · cases hf; exact fI2
    · cases hf; exact fI2
theorem fr_C_judge (M : Nat → Prop) (fu : Nat) (o0 : Nat) (o1 : Nat) (a2 : Int) (a3 : Int) (I0 : IMem) {r : Int × IMem} (m_o0_0 : M o0) (m_o0_1 : M (o0 + 1)) (m_o0_2 : M (o0 + 2)) (m_o0_3 : M (o0 + 3)) (hf : f_C_judge fu o0 o1 a2 a3 I0 = some r) : ∀ q, ¬ M q → r.2 q = I0 q := by
  unfold f_C_judge at hf
  obtain ⟨Ib, hIb⟩ : ∃ Ib : IMem, Ib = I0 := ⟨I0, rfl⟩
  rw [← hIb]
  have f0 : ∀ q, ¬ M q → I0 q = Ib q := fun q _ => by rw [hIb]
  clear hIb
  obtain ⟨x1, -, hf⟩ := of_zl hf
  obtain ⟨y2, I3, c_1, hf⟩ := of_zb hf
  have fI3 := fr_tr (fr_L_has M fu (o1 + 6) a2 a3 I0 c_1) f0
  rcases of_ite hf with ⟨_, hf⟩ | ⟨_, hf⟩
  · cases hf; exact fI3
  · obtain ⟨y5, I6, c_2, hf⟩ := of_zb hf
    have fI6 := fr_tr (fr_C_stands M fu o0 x1 I3 c_2) fI3
    rcases of_ite hf with ⟨_, hf⟩ | ⟨_, hf⟩
    · cases hf; exact fI6
    · obtain ⟨y8, I9, c_3, hf⟩ := of_zb hf
      have fI9 := fr_tr (fr_L_get M fu (o1 + 6) x1 1 I6 c_3) fI6
      obtain ⟨y11, I12, c_4, hf⟩ := of_zb hf
      have fI12 := fr_tr (fr_L_get M fu (o1 + 6) x1 3 I9 c_4) fI9
      obtain ⟨y14, I15, c_5, hf⟩ := of_zb hf
      have fI15 := fr_tr (fr_L_isSeen M fu (o1 + 6) a2 a3 I12 c_5) fI12
      rcases of_ite hf with ⟨_, hf⟩ | ⟨_, hf⟩
      · cases hf; exact fI15
      · rcases of_ite hf with ⟨_, hf⟩ | ⟨_, hf⟩
        · cases hf; exact fI15
        · obtain ⟨k17, ek17, hf⟩ := of_zj hf
          have hk17 : ∀  (I18 : IMem), (∀ q, ¬ M q → I18 q = Ib q) → k17 I18 = some r → ∀ q, ¬ M q → r.2 q = Ib q := by
            intro I18 fI18 hf
            subst ek17
            rcases of_ite hf with ⟨_, hf⟩ | ⟨_, hf⟩
            · obtain ⟨k19, ek19, hf⟩ := of_zj hf
              have hk19 : ∀  (I20 : IMem), (∀ q, ¬ M q → I20 q = Ib q) → k19 I20 = some r → ∀ q, ¬ M q → r.2 q = Ib q := by
                intro I20 fI20 hf
                subst ek19
                obtain ⟨u_7, I22, c_6, hf⟩ := of_zb hf
                have fI22 := fr_tr (fr_C_sit M fu o0 x1 y8 y11 1 I20 m_o0_0 m_o0_1 m_o0_2 m_o0_3 c_6) fI20
                cases hf; exact fI22
              rcases of_ite hf with ⟨_, hf⟩ | ⟨_, hf⟩
              · rcases of_ite hf with ⟨_, hf⟩ | ⟨_, hf⟩
                · cases hf; exact fI18
                · exact hk19 I18 fI18 hf
              · exact hk19 I18 fI18 hf
            · cases hf; exact fI18
          rcases of_ite hf with ⟨_, hf⟩ | ⟨_, hf⟩
          · rcases of_ite hf with ⟨_, hf⟩ | ⟨_, hf⟩
            · cases hf; exact fI15
            · exact hk17 I15 fI15 hf
          · exact hk17 I15 fI15 hf
theorem fr_S_pick (M : Nat → Prop) (fu : Nat) (o0 : Nat) (a1 : Int) (a2 : Int) (I0 : IMem) {r : Int × IMem} (m_o0_137 : M (o0 + 137)) (m_o0_138 : M (o0 + 138)) (m_o0_139 : M (o0 + 139)) (m_o0_140 : M (o0 + 140)) (hf : f_S_pick fu o0 a1 a2 I0 = some r) : ∀ q, ¬ M q → r.2 q = I0 q := by
  unfold f_S_pick at hf
  obtain ⟨Ib, hIb⟩ : ∃ Ib : IMem, Ib = I0 := ⟨I0, rfl⟩
  rw [← hIb]
  have f0 : ∀ q, ¬ M q → I0 q = Ib q := fun q _ => by rw [hIb]
  clear hIb
  obtain ⟨y1, I2, c_1, hf⟩ := of_zb hf
  have fI2 := fr_tr (fr_C_judge M fu (o0 + 137) (o0 + 1) a1 a2 I0 m_o0_137 m_o0_138 m_o0_139 m_o0_140 c_1) f0
  cases hf; exact fI2
theorem fr_H_draw (M : Nat → Prop) (fu : Nat) (o0 : Nat) (a1 : Int) (I0 : IMem) {r : Int × IMem} (m_o0_0 : M o0) (hf : f_H_draw fu o0 a1 I0 = some r) : ∀ q, ¬ M q → r.2 q = I0 q := by
  unfold f_H_draw at hf
  obtain ⟨Ib, hIb⟩ : ∃ Ib : IMem, Ib = I0 := ⟨I0, rfl⟩
  rw [← hIb]
  have f0 : ∀ q, ¬ M q → I0 q = Ib q := fun q _ => by rw [hIb]
  clear hIb
  obtain ⟨I1, fI1, hf⟩ := fr_zw m_o0_0 f0 hf
  rcases of_ite hf with ⟨_, hf⟩ | ⟨_, hf⟩
  · obtain ⟨g_1, hf⟩ := of_zg hf
    cases hf; exact fI1
  · cases hf; exact fI1
theorem fr_H_pastAt (M : Nat → Prop) (fu : Nat) (a0 : Int) (I0 : IMem) {r : Int × IMem} (hf : f_H_pastAt fu a0 I0 = some r) : ∀ q, ¬ M q → r.2 q = I0 q := by
  unfold f_H_pastAt at hf
  obtain ⟨Ib, hIb⟩ : ∃ Ib : IMem, Ib = I0 := ⟨I0, rfl⟩
  rw [← hIb]
  have f0 : ∀ q, ¬ M q → I0 q = Ib q := fun q _ => by rw [hIb]
  clear hIb
  obtain ⟨y1, I2, c_1, hf⟩ := of_zb hf
  have fI2 := fr_tr (fr_JM_floorMod M fu a0 60 I0 c_1) f0
  cases hf; exact fI2
theorem fr_H_close (M : Nat → Prop) (fu : Nat) (o0 : Nat) (a1 : Int) (a2 : Int) (I0 : IMem) {r : Int × IMem} (m_o0_0 : M o0) (m_o0_10 : M (o0 + 10)) (m_o0_11 : M (o0 + 11)) (m_o0_12 : M (o0 + 12)) (hf : f_H_close fu o0 a1 a2 I0 = some r) : ∀ q, ¬ M q → r.2 q = I0 q := by
  unfold f_H_close at hf
  obtain ⟨Ib, hIb⟩ : ∃ Ib : IMem, Ib = I0 := ⟨I0, rfl⟩
  rw [← hIb]
  have f0 : ∀ q, ¬ M q → I0 q = Ib q := fun q _ => by rw [hIb]
  clear hIb
  obtain ⟨I1, fI1, hf⟩ := fr_zw m_o0_10 f0 hf
  obtain ⟨I2, fI2, hf⟩ := fr_zw m_o0_10 fI1 hf
  obtain ⟨k3, ek3, hf⟩ := of_zj hf
  have hk3 : ∀  (I4 : IMem), (∀ q, ¬ M q → I4 q = Ib q) → k3 I4 = some r → ∀ q, ¬ M q → r.2 q = Ib q := by
    intro I4 fI4 hf
    subst ek3
    obtain ⟨I5, fI5, hf⟩ := fr_zw m_o0_11 fI4 hf
    obtain ⟨I6, fI6, hf⟩ := fr_zw m_o0_11 fI5 hf
    obtain ⟨y7, I8, c_1, hf⟩ := of_zb hf
    have fI8 := fr_tr (fr_H_pastAt M fu (I6 (o0 + 10) 0) I6 c_1) fI6
    obtain ⟨g_2, hf⟩ := of_zg hf
    obtain ⟨I10, fI10, hf⟩ := fr_zw m_o0_12 fI8 hf
    obtain ⟨x12, -, hf⟩ := of_zl hf
    obtain ⟨g_3, hf⟩ := of_zg hf
    obtain ⟨I11, fI11, hf⟩ := fr_zw m_o0_12 fI10 hf
    obtain ⟨x14, -, hf⟩ := of_zl hf
    obtain ⟨g_4, hf⟩ := of_zg hf
    obtain ⟨I13, fI13, hf⟩ := fr_zw m_o0_12 fI11 hf
    obtain ⟨I15, fI15, hf⟩ := fr_zw m_o0_10 fI13 hf
    cases hf; exact fI15
  rcases of_ite hf with ⟨_, hf⟩ | ⟨_, hf⟩
  · obtain ⟨y16, I17, c_5, hf⟩ := of_zb hf
    have fI17 := fr_tr (fr_H_draw M fu o0 1000 I2 m_o0_0 c_5) fI2
    rcases of_ite hf with ⟨_, hf⟩ | ⟨_, hf⟩
    · obtain ⟨I19, fI19, hf⟩ := fr_zw m_o0_10 fI17 hf
      obtain ⟨I20, fI20, hf⟩ := fr_zw m_o0_10 fI19 hf
      exact hk3 I20 fI20 hf
    · exact hk3 I17 fI17 hf
  · exact hk3 I2 fI2 hf
theorem fr_H_note (M : Nat → Prop) (fu : Nat) (o0 : Nat) (a1 : Int) (a2 : Int) (a3 : Int) (I0 : IMem) {r : Int × IMem} (m_o0_10 : M (o0 + 10)) (m_o0_11 : M (o0 + 11)) (hf : f_H_note fu o0 a1 a2 a3 I0 = some r) : ∀ q, ¬ M q → r.2 q = I0 q := by
  unfold f_H_note at hf
  obtain ⟨Ib, hIb⟩ : ∃ Ib : IMem, Ib = I0 := ⟨I0, rfl⟩
  rw [← hIb]
  have f0 : ∀ q, ¬ M q → I0 q = Ib q := fun q _ => by rw [hIb]
  clear hIb
  rcases of_ite hf with ⟨_, hf⟩ | ⟨_, hf⟩
  · cases hf; exact f0
  · rcases of_ite hf with ⟨_, hf⟩ | ⟨_, hf⟩
    · rcases of_ite hf with ⟨_, hf⟩ | ⟨_, hf⟩
      · cases hf; exact f0
      · rcases of_ite hf with ⟨_, hf⟩ | ⟨_, hf⟩
        · cases hf; exact f0
        · obtain ⟨y1, I2, c_1, hf⟩ := of_zb hf
          have fI2 := fr_tr (fr_L_get M fu (o0 + 6) a2 4 I0 c_1) f0
          obtain ⟨x4, -, hf⟩ := of_zl hf
          obtain ⟨g_2, hf⟩ := of_zg hf
          obtain ⟨g_3, hf⟩ := of_zg hf
          obtain ⟨I5, fI5, hf⟩ := fr_zw m_o0_10 fI2 hf
          obtain ⟨x6, -, hf⟩ := of_zl hf
          obtain ⟨g_4, hf⟩ := of_zg hf
          obtain ⟨g_5, hf⟩ := of_zg hf
          obtain ⟨I7, fI7, hf⟩ := fr_zw m_o0_10 fI5 hf
          obtain ⟨x8, -, hf⟩ := of_zl hf
          obtain ⟨g_6, hf⟩ := of_zg hf
          obtain ⟨y9, I10, c_7, hf⟩ := of_zb hf
          have fI10 := fr_tr (fr_JM_max M fu (I7 (o0 + 10) x8.toNat) y1 I7 c_7) fI7
          obtain ⟨x13, -, hf⟩ := of_zl hf
          obtain ⟨g_8, hf⟩ := of_zg hf
          obtain ⟨I12, fI12, hf⟩ := fr_zw m_o0_10 fI10 hf
          obtain ⟨I14, fI14, hf⟩ := fr_zw m_o0_10 fI12 hf
          obtain ⟨y15, I16, c_9, hf⟩ := of_zb hf
          have fI16 := fr_tr (fr_L_get M fu (o0 + 6) a2 0 I14 c_9) fI14
          obtain ⟨x19, -, hf⟩ := of_zl hf
          obtain ⟨g_10, hf⟩ := of_zg hf
          obtain ⟨I18, fI18, hf⟩ := fr_zw m_o0_11 fI16 hf
          obtain ⟨x21, -, hf⟩ := of_zl hf
          obtain ⟨g_11, hf⟩ := of_zg hf
          obtain ⟨I20, fI20, hf⟩ := fr_zw m_o0_11 fI18 hf
          cases hf; exact fI20
    · cases hf; exact f0
theorem fr_L_put (M : Nat → Prop) (fu : Nat) (o0 : Nat) (a1 : Int) (a2 : Int) (a3 : Int) (I0 : IMem) {r : Int × IMem} (m_o0_1 : M (o0 + 1)) (hf : f_L_put fu o0 a1 a2 a3 I0 = some r) : ∀ q, ¬ M q → r.2 q = I0 q := by
  unfold f_L_put at hf
  obtain ⟨Ib, hIb⟩ : ∃ Ib : IMem, Ib = I0 := ⟨I0, rfl⟩
  rw [← hIb]
  have f0 : ∀ q, ¬ M q → I0 q = Ib q := fun q _ => by rw [hIb]
  clear hIb
  obtain ⟨x1, -, hf⟩ := of_zl hf
  rcases of_ite hf with ⟨_, hf⟩ | ⟨_, hf⟩
  · cases hf; exact f0
  · rcases of_ite hf with ⟨_, hf⟩ | ⟨_, hf⟩
    · obtain ⟨g_1, hf⟩ := of_zg hf
      obtain ⟨I2, fI2, hf⟩ := fr_zw m_o0_1 f0 hf
      cases hf; exact fI2
    · cases hf; exact f0
theorem fr_L_rearmostSitting_9 (M : Nat → Prop) (fu : Nat) {r : Int × IMem} {Ib : IMem} (o1 : Nat) (n1 : Nat) (p2 : Int) : ∀ (m : Nat) (w3 : Int) (I0 : IMem), (∀ q, ¬ M q → I0 q = Ib q) → f_L_rearmostSitting_9 fu o1 n1 p2 m w3 I0 = some r → ∀ q, ¬ M q → r.2 q = Ib q := by
  intro m
  induction m with
  | zero => intro w3 I0 _ hf; cases hf
  | succ m hR_ =>
    intro w3 I0 fI0 hf
    replace hf : fb_L_rearmostSitting_9 fu o1 n1 p2 (f_L_rearmostSitting_9 fu o1 n1 p2 m) w3 I0 = some r := hf
    unfold fb_L_rearmostSitting_9 at hf
    rcases of_ite hf with ⟨_, hf⟩ | ⟨_, hf⟩
    · cases hf; exact fI0
    · obtain ⟨x2, -, hf⟩ := of_zl hf
      obtain ⟨k3, ek3, hf⟩ := of_zj hf
      have hk3 : ∀  (I4 : IMem), (∀ q, ¬ M q → I4 q = Ib q) → k3 I4 = some r → ∀ q, ¬ M q → r.2 q = Ib q := by
        intro I4 fI4 hf
        subst ek3
        obtain ⟨x5, -, hf⟩ := of_zl hf
        exact hR_ x5 I4 fI4 hf
      rcases of_ite hf with ⟨_, hf⟩ | ⟨_, hf⟩
      · obtain ⟨g_1, hf⟩ := of_zg hf
        rcases of_ite hf with ⟨_, hf⟩ | ⟨_, hf⟩
        · cases hf; exact fI0
        · obtain ⟨g_2, hf⟩ := of_zg hf
          rcases of_ite hf with ⟨_, hf⟩ | ⟨_, hf⟩
          · cases hf; exact fI0
          · exact hk3 I0 fI0 hf
      · exact hk3 I0 fI0 hf
theorem fr_L_rearmostSitting (M : Nat → Prop) (fu : Nat) (o0 : Nat) (o1 n1 : Nat) (a2 : Int) (I0 : IMem) {r : Int × IMem} (hf : f_L_rearmostSitting fu o0 o1 n1 a2 I0 = some r) : ∀ q, ¬ M q → r.2 q = I0 q := by
  unfold f_L_rearmostSitting at hf
  obtain ⟨Ib, hIb⟩ : ∃ Ib : IMem, Ib = I0 := ⟨I0, rfl⟩
  rw [← hIb]
  have f0 : ∀ q, ¬ M q → I0 q = Ib q := fun q _ => by rw [hIb]
  clear hIb
  obtain ⟨g_1, hf⟩ := of_zg hf
  obtain ⟨x1, -, hf⟩ := of_zl hf
  refine fr_L_rearmostSitting_9 M fu o1 n1 a2 fu x1 I0 f0 hf
theorem fr_L_depart_21 (M : Nat → Prop) (fu : Nat) {r : Int × IMem} {Ib : IMem} (k_159 : Int → IMem → Res) (o0 : Nat) (o1 : Nat) (n1 : Nat) (p2 : Int) (p3 : Int) (m_o0_1 : M (o0 + 1)) (hk_159 : ∀ (z0 : Int) (I9 : IMem), (∀ q, ¬ M q → I9 q = Ib q) → k_159 z0 I9 = some r → ∀ q, ¬ M q → r.2 q = Ib q) : ∀ (m : Nat) (w4 : Int) (w5 : Int) (I0 : IMem), (∀ q, ¬ M q → I0 q = Ib q) → f_L_depart_21 fu k_159 o0 o1 n1 p2 p3 m w4 w5 I0 = some r → ∀ q, ¬ M q → r.2 q = Ib q := by
  intro m
  induction m with
  | zero => intro w4 w5 I0 _ hf; cases hf
  | succ m hR_ =>
    intro w4 w5 I0 fI0 hf
    replace hf : fb_L_depart_21 fu k_159 o0 o1 n1 p2 p3 (f_L_depart_21 fu k_159 o0 o1 n1 p2 p3 m) w4 w5 I0 = some r := hf
    unfold fb_L_depart_21 at hf
    obtain ⟨g_1, hf⟩ := of_zg hf
    rcases of_ite hf with ⟨_, hf⟩ | ⟨_, hf⟩
    · rcases of_ite hf with ⟨_, hf⟩ | ⟨_, hf⟩
      · obtain ⟨x4, -, hf⟩ := of_zl hf
        obtain ⟨k5, ek5, hf⟩ := of_zj hf
        have hk5 : ∀ (x7 : Int) (I6 : IMem), (∀ q, ¬ M q → I6 q = Ib q) → k5 x7 I6 = some r → ∀ q, ¬ M q → r.2 q = Ib q := by
          intro x7 I6 fI6 hf
          subst ek5
          obtain ⟨k8, ek8, hf⟩ := of_zj hf
          have hk8 : ∀ (x10 : Int) (I9 : IMem), (∀ q, ¬ M q → I9 q = Ib q) → k8 x10 I9 = some r → ∀ q, ¬ M q → r.2 q = Ib q := by
            intro x10 I9 fI9 hf
            subst ek8
            obtain ⟨x11, -, hf⟩ := of_zl hf
            exact hR_ x10 x11 I9 fI9 hf
          obtain ⟨k12, ek12, hf⟩ := of_zj hf
          have hk12 : ∀  (I13 : IMem), (∀ q, ¬ M q → I13 q = Ib q) → k12 I13 = some r → ∀ q, ¬ M q → r.2 q = Ib q := by
            intro I13 fI13 hf
            subst ek12
            obtain ⟨x14, -, hf⟩ := of_zl hf
            obtain ⟨g_2, hf⟩ := of_zg hf
            obtain ⟨I15, fI15, hf⟩ := fr_zc m_o0_1 fI13 hf
            obtain ⟨y16, I17, c_3, hf⟩ := of_zb hf
            have fI17 := fr_tr (fr_L_get M fu o0 x14 4 I15 c_3) fI15
            obtain ⟨u_5, I20, c_4, hf⟩ := of_zb hf
            have fI20 := fr_tr (fr_L_put M fu o0 x14 4 (wr32 (y16 + 1)) I17 m_o0_1 c_4) fI17
            obtain ⟨y22, I23, c_6, hf⟩ := of_zb hf
            have fI23 := fr_tr (fr_L_get M fu o0 x14 5 I20 c_6) fI20
            obtain ⟨k25, ek25, hf⟩ := of_zj hf
            have hk25 : ∀ (x27 : Int) (I26 : IMem), (∀ q, ¬ M q → I26 q = Ib q) → k25 x27 I26 = some r → ∀ q, ¬ M q → r.2 q = Ib q := by
              intro x27 I26 fI26 hf
              subst ek25
              obtain ⟨u_8, I29, c_7, hf⟩ := of_zb hf
              have fI29 := fr_tr (fr_L_put M fu o0 x14 5 (wr32 (y22 + x27)) I26 m_o0_1 c_7) fI26
              obtain ⟨x31, -, hf⟩ := of_zl hf
              exact hk8 x31 I29 fI29 hf
            rcases of_ite hf with ⟨_, hf⟩ | ⟨_, hf⟩
            · exact hk25 1 I23 fI23 hf
            · exact hk25 0 I23 fI23 hf
          rcases of_ite hf with ⟨_, hf⟩ | ⟨_, hf⟩
          · exact hk12 I6 fI6 hf
          · rcases of_ite hf with ⟨_, hf⟩ | ⟨_, hf⟩
            · exact hk12 I6 fI6 hf
            · exact hk8 w4 I6 fI6 hf
        rcases of_ite hf with ⟨_, hf⟩ | ⟨_, hf⟩
        · obtain ⟨g_9, hf⟩ := of_zg hf
          exact hk5 (I0 o1 x4.toNat) I0 fI0 hf
        · exact hk5 0 I0 fI0 hf
      · exact hk_159 w4 I0 fI0 hf
    · exact hk_159 w4 I0 fI0 hf
theorem fr_L_depart_2 (M : Nat → Prop) (fu : Nat) {r : Int × IMem} {Ib : IMem} (o0 : Nat) (o1 : Nat) (n1 : Nat) (m_o0_1 : M (o0 + 1)) (m_o0_2 : M (o0 + 2)) : ∀ (m : Nat) (w2 : Int) (I0 : IMem), (∀ q, ¬ M q → I0 q = Ib q) → f_L_depart_2 fu o0 o1 n1 m w2 I0 = some r → ∀ q, ¬ M q → r.2 q = Ib q := by
  intro m
  induction m with
  | zero => intro w2 I0 _ hf; cases hf
  | succ m hR_ =>
    intro w2 I0 fI0 hf
    replace hf : fb_L_depart_2 fu o0 o1 n1 (f_L_depart_2 fu o0 o1 n1 m) w2 I0 = some r := hf
    unfold fb_L_depart_2 at hf
    rcases of_ite hf with ⟨_, hf⟩ | ⟨_, hf⟩
    · obtain ⟨y1, I2, c_1, hf⟩ := of_zb hf
      have fI2 := fr_tr (fr_L_rearmostSitting M fu o0 o1 n1 w2 I0 c_1) fI0
      refine fr_L_depart_21 M fu _ o0 o1 n1 w2 y1 m_o0_1 ?_ fu 0 0 I2 fI2 hf
      · intro x33 I32 fI32 hf
        obtain ⟨g_2, hf⟩ := of_zg hf
        obtain ⟨I34, fI34, hf⟩ := fr_zw m_o0_2 fI32 hf
        obtain ⟨x35, -, hf⟩ := of_zl hf
        exact hR_ x35 I34 fI34 hf
    · cases hf; exact fI0
theorem fr_L_depart (M : Nat → Prop) (fu : Nat) (o0 : Nat) (o1 n1 : Nat) (I0 : IMem) {r : Int × IMem} (m_o0_1 : M (o0 + 1)) (m_o0_2 : M (o0 + 2)) (hf : f_L_depart fu o0 o1 n1 I0 = some r) : ∀ q, ¬ M q → r.2 q = I0 q := by
  unfold f_L_depart at hf
  obtain ⟨Ib, hIb⟩ : ∃ Ib : IMem, Ib = I0 := ⟨I0, rfl⟩
  rw [← hIb]
  have f0 : ∀ q, ¬ M q → I0 q = Ib q := fun q _ => by rw [hIb]
  clear hIb
  refine fr_L_depart_2 M fu o0 o1 n1 m_o0_1 m_o0_2 fu 0 I0 f0 hf
theorem fr_C_leave_9 (M : Nat → Prop) (fu : Nat) {r : Int × IMem} {Ib : IMem} (k_46 : IMem → Res) (o0 : Nat) (o1 : Nat) (p2 : Int) (m_o1_10 : M (o1 + 10)) (m_o1_11 : M (o1 + 11)) (hk_46 : ∀ (I9 : IMem), (∀ q, ¬ M q → I9 q = Ib q) → k_46 I9 = some r → ∀ q, ¬ M q → r.2 q = Ib q) : ∀ (m : Nat) (w3 : Int) (I0 : IMem), (∀ q, ¬ M q → I0 q = Ib q) → f_C_leave_9 fu k_46 o0 o1 p2 m w3 I0 = some r → ∀ q, ¬ M q → r.2 q = Ib q := by
  intro m
  induction m with
  | zero => intro w3 I0 _ hf; cases hf
  | succ m hR_ =>
    intro w3 I0 fI0 hf
    replace hf : fb_C_leave_9 fu k_46 o0 o1 p2 (f_C_leave_9 fu k_46 o0 o1 p2 m) w3 I0 = some r := hf
    unfold fb_C_leave_9 at hf
    rcases of_ite hf with ⟨_, hf⟩ | ⟨_, hf⟩
    · rcases of_ite hf with ⟨_, hf⟩ | ⟨_, hf⟩
      · obtain ⟨g_1, hf⟩ := of_zg hf
        obtain ⟨g_2, hf⟩ := of_zg hf
        obtain ⟨u_4, I3, c_3, hf⟩ := of_zb hf
        have fI3 := fr_tr (fr_H_note M fu o1 w3 (I0 (o0 + 2) w3.toNat) (I0 (o0 + 3) w3.toNat) I0 m_o1_10 m_o1_11 c_3) fI0
        obtain ⟨x5, -, hf⟩ := of_zl hf
        exact hR_ x5 I3 fI3 hf
      · exact hk_46 I0 fI0 hf
    · exact hk_46 I0 fI0 hf
theorem fr_C_leave_59 (M : Nat → Prop) (fu : Nat) {r : Int × IMem} {Ib : IMem} (k_103 : IMem → Res) (o0 : Nat) (o1 : Nat) (p2 : Int) (m_o1_7 : M (o1 + 7)) (m_o1_8 : M (o1 + 8)) (m_o1_10 : M (o1 + 10)) (hk_103 : ∀ (I9 : IMem), (∀ q, ¬ M q → I9 q = Ib q) → k_103 I9 = some r → ∀ q, ¬ M q → r.2 q = Ib q) : ∀ (m : Nat) (w3 : Int) (I0 : IMem), (∀ q, ¬ M q → I0 q = Ib q) → f_C_leave_59 fu k_103 o0 o1 p2 m w3 I0 = some r → ∀ q, ¬ M q → r.2 q = Ib q := by
  intro m
  induction m with
  | zero => intro w3 I0 _ hf; cases hf
  | succ m hR_ =>
    intro w3 I0 fI0 hf
    replace hf : fb_C_leave_59 fu k_103 o0 o1 p2 (f_C_leave_59 fu k_103 o0 o1 p2 m) w3 I0 = some r := hf
    unfold fb_C_leave_59 at hf
    rcases of_ite hf with ⟨_, hf⟩ | ⟨_, hf⟩
    · obtain ⟨y10, I11, c_1, hf⟩ := of_zb hf
      have fI11 := fr_tr (fr_L_append M fu (o1 + 6) 0 (o0 + 4) 864 (wr32 (w3 * 6)) I0 m_o1_7 m_o1_8 c_1) fI0
      obtain ⟨k13, ek13, hf⟩ := of_zj hf
      have hk13 : ∀  (I14 : IMem), (∀ q, ¬ M q → I14 q = Ib q) → k13 I14 = some r → ∀ q, ¬ M q → r.2 q = Ib q := by
        intro I14 fI14 hf
        subst ek13
        obtain ⟨x15, -, hf⟩ := of_zl hf
        exact hR_ x15 I14 fI14 hf
      rcases of_ite hf with ⟨_, hf⟩ | ⟨_, hf⟩
      · obtain ⟨I16, fI16, hf⟩ := fr_zw m_o1_10 fI11 hf
        exact hk13 I16 fI16 hf
      · exact hk13 I11 fI11 hf
    · exact hk_103 I0 fI0 hf
theorem fr_C_leave (M : Nat → Prop) (fu : Nat) (o0 : Nat) (o1 : Nat) (I0 : IMem) {r : Int × IMem} (m_o1_0 : M o1) (m_o1_7 : M (o1 + 7)) (m_o1_8 : M (o1 + 8)) (m_o1_10 : M (o1 + 10)) (m_o1_11 : M (o1 + 11)) (m_o1_12 : M (o1 + 12)) (hf : f_C_leave fu o0 o1 I0 = some r) : ∀ q, ¬ M q → r.2 q = I0 q := by
  unfold f_C_leave at hf
  obtain ⟨Ib, hIb⟩ : ∃ Ib : IMem, Ib = I0 := ⟨I0, rfl⟩
  rw [← hIb]
  have f0 : ∀ q, ¬ M q → I0 q = Ib q := fun q _ => by rw [hIb]
  clear hIb
  obtain ⟨x1, -, hf⟩ := of_zl hf
  refine fr_C_leave_9 M fu _ o0 o1 x1 m_o1_10 m_o1_11 ?_ fu 0 I0 f0 hf
  · intro I6 fI6 hf
    obtain ⟨u_2, I8, c_1, hf⟩ := of_zb hf
    have fI8 := fr_tr (fr_L_depart M fu (o1 + 6) (o0 + 1) 240 I6 m_o1_7 m_o1_8 c_1) fI6
    refine fr_C_leave_59 M fu _ o0 o1 x1 m_o1_7 m_o1_8 m_o1_10 ?_ fu 0 I8 fI8 hf
    · intro I17 fI17 hf
      obtain ⟨u_4, I19, c_3, hf⟩ := of_zb hf
      have fI19 := fr_tr (fr_H_close M fu o1 (I17 o0 7) (I17 o0 8) I17 m_o1_0 m_o1_10 m_o1_11 m_o1_12 c_3) fI17
      cases hf; exact fI19
theorem fr_S_dropPicked (M : Nat → Prop) (fu : Nat) (o0 : Nat) (I0 : IMem) {r : Int × IMem} (m_o0_137 : M (o0 + 137)) (m_o0_138 : M (o0 + 138)) (hf : f_S_dropPicked fu o0 I0 = some r) : ∀ q, ¬ M q → r.2 q = I0 q := by
  unfold f_S_dropPicked at hf
  obtain ⟨Ib, hIb⟩ : ∃ Ib : IMem, Ib = I0 := ⟨I0, rfl⟩
  rw [← hIb]
  have f0 : ∀ q, ¬ M q → I0 q = Ib q := fun q _ => by rw [hIb]
  clear hIb
  obtain ⟨u_2, I2, c_1, hf⟩ := of_zb hf
  have fI2 := fr_tr (fr_C_clear M fu (o0 + 137) (I0 (o0 + 2) 0) I0 m_o0_137 m_o0_138 c_1) f0
  cases hf; exact fI2
theorem fr_S_send (M : Nat → Prop) (fu : Nat) (o0 : Nat) (I0 : IMem) {r : Int × IMem} (m_o0_1 : M (o0 + 1)) (m_o0_8 : M (o0 + 8)) (m_o0_9 : M (o0 + 9)) (m_o0_11 : M (o0 + 11)) (m_o0_12 : M (o0 + 12)) (m_o0_13 : M (o0 + 13)) (m_o0_137 : M (o0 + 137)) (m_o0_138 : M (o0 + 138)) (hf : f_S_send fu o0 I0 = some r) : ∀ q, ¬ M q → r.2 q = I0 q := by
  unfold f_S_send at hf
  obtain ⟨Ib, hIb⟩ : ∃ Ib : IMem, Ib = I0 := ⟨I0, rfl⟩
  rw [← hIb]
  have f0 : ∀ q, ¬ M q → I0 q = Ib q := fun q _ => by rw [hIb]
  clear hIb
  obtain ⟨y1, I2, c_1, hf⟩ := of_zb hf
  have fI2 := fr_tr (fr_C_leave M fu (o0 + 137) (o0 + 1) I0 m_o0_1 m_o0_8 m_o0_9 m_o0_11 m_o0_12 m_o0_13 c_1) f0
  obtain ⟨u_3, I5, c_2, hf⟩ := of_zb hf
  have fI5 := fr_tr (fr_S_dropPicked M fu o0 I2 m_o0_137 m_o0_138 c_2) fI2
  cases hf; exact fI5
theorem fr_C_findOut (M : Nat → Prop) (fu : Nat) (o0 : Nat) (o1 : Nat) (a2 : Int) (I0 : IMem) {r : Int × IMem} (m_o0_0 : M o0) (m_o0_1 : M (o0 + 1)) (m_o0_4 : M (o0 + 4)) (m_o1_10 : M (o1 + 10)) (hf : f_C_findOut fu o0 o1 a2 I0 = some r) : ∀ q, ¬ M q → r.2 q = I0 q := by
  unfold f_C_findOut at hf
  obtain ⟨Ib, hIb⟩ : ∃ Ib : IMem, Ib = I0 := ⟨I0, rfl⟩
  rw [← hIb]
  have f0 : ∀ q, ¬ M q → I0 q = Ib q := fun q _ => by rw [hIb]
  clear hIb
  obtain ⟨x1, -, hf⟩ := of_zl hf
  rcases of_ite hf with ⟨_, hf⟩ | ⟨_, hf⟩
  · cases hf; exact f0
  · rcases of_ite hf with ⟨_, hf⟩ | ⟨_, hf⟩
    · rcases of_ite hf with ⟨_, hf⟩ | ⟨_, hf⟩
      · cases hf; exact f0
      · rcases of_ite hf with ⟨_, hf⟩ | ⟨_, hf⟩
        · cases hf; exact f0
        · obtain ⟨g_1, hf⟩ := of_zg hf
          obtain ⟨I2, fI2, hf⟩ := fr_zw m_o0_1 f0 hf
          obtain ⟨g_2, hf⟩ := of_zg hf
          obtain ⟨I3, fI3, hf⟩ := fr_zc m_o0_4 fI2 hf
          obtain ⟨x4, -, hf⟩ := of_zl hf
          obtain ⟨g_3, hf⟩ := of_zg hf
          obtain ⟨x6, -, hf⟩ := of_zl hf
          obtain ⟨g_4, hf⟩ := of_zg hf
          obtain ⟨I5, fI5, hf⟩ := fr_zw m_o0_4 fI3 hf
          obtain ⟨I7, fI7, hf⟩ := fr_zw m_o0_0 fI5 hf
          obtain ⟨I8, fI8, hf⟩ := fr_zw m_o1_10 fI7 hf
          cases hf; exact fI8
    · cases hf; exact f0
theorem fr_C_fits (M : Nat → Prop) (fu : Nat) (o0 : Nat) (o1 : Nat) (a2 : Int) (I0 : IMem) {r : Int × IMem} (hf : f_C_fits fu o0 o1 a2 I0 = some r) : ∀ q, ¬ M q → r.2 q = I0 q := by
  unfold f_C_fits at hf
  obtain ⟨Ib, hIb⟩ : ∃ Ib : IMem, Ib = I0 := ⟨I0, rfl⟩
  rw [← hIb]
  have f0 : ∀ q, ¬ M q → I0 q = Ib q := fun q _ => by rw [hIb]
  clear hIb
  obtain ⟨y1, I2, c_1, hf⟩ := of_zb hf
  have fI2 := fr_tr (fr_C_stands M fu o0 a2 I0 c_1) f0
  rcases of_ite hf with ⟨_, hf⟩ | ⟨_, hf⟩
  · cases hf; exact fI2
  · rcases of_ite hf with ⟨_, hf⟩ | ⟨_, hf⟩
    · obtain ⟨y4, I5, c_2, hf⟩ := of_zb hf
      have fI5 := fr_tr (fr_L_get M fu (o1 + 6) a2 2 I2 c_2) fI2
      rcases of_ite hf with ⟨_, hf⟩ | ⟨_, hf⟩
      · cases hf; exact fI5
      · obtain ⟨y7, I8, c_3, hf⟩ := of_zb hf
        have fI8 := fr_tr (fr_L_get M fu (o1 + 6) a2 3 I5 c_3) fI5
        obtain ⟨k10, ek10, hf⟩ := of_zj hf
        have hk10 : ∀  (I11 : IMem), (∀ q, ¬ M q → I11 q = Ib q) → k10 I11 = some r → ∀ q, ¬ M q → r.2 q = Ib q := by
          intro I11 fI11 hf
          subst ek10
          rcases of_ite hf with ⟨_, hf⟩ | ⟨_, hf⟩
          · rcases of_ite hf with ⟨_, hf⟩ | ⟨_, hf⟩
            · cases hf; exact fI11
            · cases hf; exact fI11
          · cases hf; exact fI11
        rcases of_ite hf with ⟨_, hf⟩ | ⟨_, hf⟩
        · rcases of_ite hf with ⟨_, hf⟩ | ⟨_, hf⟩
          · cases hf; exact fI8
          · exact hk10 I8 fI8 hf
        · exact hk10 I8 fI8 hf
    · cases hf; exact fI2
