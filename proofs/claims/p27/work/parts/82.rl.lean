/-! what the parser lays -/
def TK (o : Nat) (I : IMem) : Prop := 0 ≤ I o 15 ∧ I o 15 ≤ I o 13 ∧ I o 13 ≤ I o 12 ∧ (I o 14 ≠ 0 → I o 15 + 1 ≤ I o 13)
theorem rn_app (c : Nat → Int) : ∀ (a b i : Nat) (h : Int), rn c (a + b) i h = (rn c a i h).bind (rn c b (i + a)) := by
  intro a
  induction a with
  | zero => intro b i h; rw [Nat.zero_add]; rfl
  | succ a ih =>
    intro b i h
    rw [show a + 1 + b = (a + b) + 1 by omega]
    show (st1 (c (2 * i)) (c (2 * i + 1)) h).bind (rn c (a + b) (i + 1)) = ((st1 (c (2 * i)) (c (2 * i + 1)) h).bind (rn c a (i + 1))).bind (rn c b (i + (a + 1)))
    cases st1 (c (2 * i)) (c (2 * i + 1)) h with
    | none => rfl
    | some h1 =>
      show rn c (a + b) (i + 1) h1 = (rn c a (i + 1) h1).bind (rn c b (i + (a + 1)))
      rw [ih b (i + 1) h1, show i + 1 + a = i + (a + 1) by omega]
theorem rn_eq {c c1 : Nat → Int} : ∀ (n i : Nat) (h : Int), (∀ j, 2 * i ≤ j → j < 2 * (i + n) → c1 j = c j) → rn c1 n i h = rn c n i h := by
  intro n
  induction n with
  | zero => intro i h _; rfl
  | succ n ih =>
    intro i h hj
    show (st1 (c1 (2 * i)) (c1 (2 * i + 1)) h).bind (rn c1 n (i + 1)) = (st1 (c (2 * i)) (c (2 * i + 1)) h).bind (rn c n (i + 1))
    rw [hj (2 * i) (by omega) (by omega), hj (2 * i + 1) (by omega) (by omega)]
    congr 1
    funext x
    exact ih (i + 1) x (fun j a b => hj j (by omega) (by omega))
/-- between I0 and I the code grew: from a values on the pile to b; e tokens more than steps -/
def RL (o : Nat) (e a b : Int) (I0 I : IMem) : Prop := 0 ≤ I0 o 11 ∧ I0 o 11 ≤ I o 11 ∧ I o 11 ≤ 410 ∧ I0 o 15 - I0 o 11 + e ≤ I o 15 - I o 11 ∧ (∀ j : Nat, (j : Int) < 2 * I0 o 11 → I (o + 5) j = I0 (o + 5) j) ∧ ∀ h, 0 ≤ h → rn (I (o + 5)) (I o 11 - I0 o 11).toNat (I0 o 11).toNat (h + a) = some (h + b)
theorem rl_t {o : Nat} {e f a b c : Int} {I0 I1 I2 : IMem} (h1 : RL o e a b I0 I1) (h2 : RL o f b c I1 I2) : RL o (e + f) a c I0 I2 := by
  obtain ⟨p1, p2, p3, p4, p5, p6⟩ := h1
  obtain ⟨q1, q2, q3, q4, q5, q6⟩ := h2
  refine ⟨p1, by omega, q3, by omega, fun j hj => (q5 j (by omega)).trans (p5 j hj), fun h hh => ?_⟩
  rw [show (I2 o 11 - I0 o 11).toNat = (I1 o 11 - I0 o 11).toNat + (I2 o 11 - I1 o 11).toNat by omega, rn_app, rn_eq (c := I1 (o + 5)) _ _ _ (fun j a b => q5 j (by omega)), p6 h hh]
  show rn (I2 (o + 5)) (I2 o 11 - I1 o 11).toNat ((I0 o 11).toNat + (I1 o 11 - I0 o 11).toNat) (h + b) = _
  rw [show (I0 o 11).toNat + (I1 o 11 - I0 o 11).toNat = (I1 o 11).toNat by omega]
  exact q6 h hh
theorem rl_up {o : Nat} {e a b : Int} {I0 I1 : IMem} (h : RL o e a b I0 I1) (k : Int) (hk : 0 ≤ k) : RL o e (k + a) (k + b) I0 I1 := by
  obtain ⟨p1, p2, p3, p4, p5, p6⟩ := h
  refine ⟨p1, p2, p3, p4, p5, fun h hh => ?_⟩
  have := p6 (h + k) (by omega)
  rw [show h + (k + a) = h + k + a by omega, show h + (k + b) = h + k + b by omega]
  exact this
theorem rl_wk {o : Nat} {e f a b : Int} {I0 I1 : IMem} (h : RL o e a b I0 I1) (hf : f ≤ e) : RL o f a b I0 I1 := ⟨h.1, h.2.1, h.2.2.1, by have := h.2.2.2.1; omega, h.2.2.2.2⟩
/-- nothing laid -/
theorem rl_same {o : Nat} {e a : Int} {I0 I : IMem} (h11 : I o 11 = I0 o 11) (hb : 0 ≤ I0 o 11 ∧ I0 o 11 ≤ 410) (h15 : I0 o 15 + e ≤ I o 15) (h5 : ∀ j, I (o + 5) j = I0 (o + 5) j) : RL o e a a I0 I := by
  refine ⟨hb.1, by omega, by omega, by omega, fun j _ => h5 j, fun h _ => ?_⟩
  rw [show (I o 11 - I0 o 11).toNat = 0 by omega]; rfl
/-- one step laid -/
theorem rl_lay {o : Nat} {e a b s v : Int} {I0 I : IMem} (h11 : I o 11 = I0 o 11 + 1) (hb : 0 ≤ I0 o 11 ∧ I0 o 11 ≤ 409) (h15 : I0 o 15 + e + 1 ≤ I o 15) (h5 : ∀ j, I (o + 5) j = if j = (2 * I0 o 11 + 1).toNat then v else if j = (2 * I0 o 11).toNat then s else I0 (o + 5) j) (hs : ∀ h, 0 ≤ h → st1 s v (h + a) = some (h + b)) : RL o e a b I0 I := by
  refine ⟨hb.1, by omega, by omega, by omega, fun j hj => by rw [h5, if_neg (by omega), if_neg (by omega)], fun h hh => ?_⟩
  rw [show (I o 11 - I0 o 11).toNat = 1 by omega]
  show (st1 (I (o + 5) (2 * (I0 o 11).toNat)) (I (o + 5) (2 * (I0 o 11).toNat + 1)) (h + a)).bind (rn (I (o + 5)) 0 ((I0 o 11).toNat + 1)) = _
  rw [h5, if_neg (by omega), if_pos (by omega), h5, if_pos (by omega), hs h hh]
  rfl
theorem st_unit {s v : Int} (h : 0 ≤ s ∧ s < 12) : ∀ h, 0 ≤ h → st1 s v (h + 0) = some (h + 1) := by
  intro k hk
  unfold st1
  rw [if_pos h.2, if_pos h.1]
  rw [show k + 0 + 1 = k + 1 by omega]
theorem st_op {s v : Int} (h : 12 ≤ s ∧ s ≠ 15 ∧ s ≠ 19) : ∀ h, 0 ≤ h → st1 s v (h + 2) = some (h + 1) := by
  intro k hk
  unfold st1
  rw [if_neg (by omega), if_neg h.2.1, if_neg h.2.2, if_pos (by omega)]
  rw [show k + 2 - 1 = k + 1 by omega]
theorem st_div {v : Int} (h : v ≠ 0) : ∀ h, 0 ≤ h → st1 15 v (h + 1) = some (h + 1) := by
  intro k hk
  unfold st1
  rw [if_neg (by decide), if_pos rfl, if_pos ⟨by omega, h⟩]
theorem st_not {v : Int} : ∀ h, 0 ≤ h → st1 19 v (h + 1) = some (h + 1) := by
  intro k hk
  unfold st1
  rw [if_neg (by decide), if_neg (by decide), if_pos rfl, if_pos (by omega)]
theorem ok_X_lay (fu : Nat) (o0 : Nat) (a1 a2 : Int) (I0 : IMem) (hRI0 : GX o0 I0) (qa1 : inr a1) (qa2 : inr a2) (h0 : 0 ≤ I0 o0 11 ∧ I0 o0 11 ≤ 408) : sat (f_X_lay fu o0 a1 a2 I0) (fun v I => inr v ∧ GX o0 I ∧ I o0 11 = I0 o0 11 + 1 ∧ (∀ j, I (o0 + 5) j = if j = (2 * I0 o0 11 + 1).toNat then a2 else if j = (2 * I0 o0 11).toNat then a1 else I0 (o0 + 5) j) ∧ ∀ q j, q ≠ o0 + 5 → ¬ (q = o0 ∧ j = 11) → I q j = I0 q j) := by
  unfold f_X_lay
  refine sat_zl (wr32_in _) (fun x2 hx2 ax2 bx2 => ?_)
  rw [wr32_i2 (by omega) (by omega)] at hx2
  refine sat_zg (by omega) (fun _ => ?_)
  refine sat_zwXn (c := 5) hRI0 qa1 (by decide) (Or.inl (by decide)) (fun I1 e1 hRI1 => ?_)
  have h11 : I1 o0 11 = I0 o0 11 := by rw [e1, if_neg (by omega)]
  rw [h11]
  refine sat_zl (wr32_in _) (fun x4 hx4 ax4 bx4 => ?_)
  rw [wr32_i2 (x := 2 * I0 o0 11) (by omega) (by omega), wr32_i2 (by omega) (by omega)] at hx4
  refine sat_zg (by omega) (fun _ => ?_)
  refine sat_zwXn (c := 5) hRI1 qa2 (by decide) (Or.inl (by decide)) (fun I3 e3 hRI3 => ?_)
  have h113 : I3 o0 11 = I0 o0 11 := by rw [e3, if_neg (by omega), h11]
  refine sat_zwX0 hRI3 (wr32_in _) (by omega) (fun I5 e5 hRI5 => ?_)
  refine sat_zr ⟨lit_in rfl, hRI5, ?_, fun j => ?_, fun q j hq hj => ?_⟩
  · rw [e5, if_pos ⟨rfl, rfl⟩, h113]; exact wr32_i2 (by omega) (by omega)
  · rw [e5, if_neg (by omega), e3]
    by_cases z : j = (2 * I0 o0 11 + 1).toNat
    · rw [if_pos ⟨rfl, by omega⟩, if_pos z]
    · rw [if_neg (by omega), if_neg z, e1]
      by_cases y : j = (2 * I0 o0 11).toNat
      · rw [if_pos ⟨rfl, by omega⟩, if_pos y]
      · rw [if_neg (by omega), if_neg y]
  · rw [e5, if_neg (by omega), e3, if_neg (by omega), e1, if_neg (by omega)]
