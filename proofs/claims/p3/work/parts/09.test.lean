/-! tries -/
theorem tt_1 (l p : Int) (h1 : 0 ≤ l) (h2 : l < 6) (h3 : 0 ≤ p) (h4 : p < 40) : 0 ≤ wr32 (wr32 (l * 40) + p) ∧ wr32 (wr32 (l * 40) + p) < 240 := by
  simp only [wr32]; omega
theorem tt_2 (l p x y : Int) (h1 : 0 ≤ l) (h2 : l < 6) (h3 : 0 ≤ p) (h4 : p < 40) (hx : x = wr32 (l * 40)) (hy : y = wr32 (x + p)) : 0 ≤ y ∧ y < 240 := by
  simp only [wr32] at *; omega
theorem tt_3 (l p x y : Int) (h1 : 0 ≤ l) (h2 : l < 6) (h3 : 0 ≤ p) (h4 : p < 40) (hx : x = wr32 (l * 40)) (hy : y = wr32 (x + p)) : 0 ≤ y ∧ y < 240 := by
  unfold wr32 at *; grind
theorem tt_4 (l p x y : Int) (c : Prop) [Decidable c] (h1 : 0 ≤ l) (h2 : l < 6) (h3 : 0 ≤ p) (h4 : p < 40) (hx : x = if c then l else p) : 0 ≤ x ∧ x < 40 := by omega
theorem tt_5 (I I1 : IMem) (o : Nat) (x : Int) (h : I1 = up I (o + 2) 5 x) (h0 : ∀ l, l < 6 → 0 ≤ I (o + 8) l ∧ I (o + 8) l ≤ 40) : ∀ l, l < 6 → 0 ≤ I1 (o + 8) l ∧ I1 (o + 8) l ≤ 40 := by
  subst h; unfold up; grind
theorem tt_6 (I I1 : IMem) (o : Nat) (x : Int) (hx : 0 ≤ x ∧ x < 40) (h : I1 = up I (o + 8) 5 (x + 1)) (h0 : ∀ l, l < 6 → 0 ≤ I (o + 8) l ∧ I (o + 8) l ≤ 40) : ∀ l, l < 6 → 0 ≤ I1 (o + 8) l ∧ I1 (o + 8) l ≤ 40 := by
  subst h; unfold up; grind
