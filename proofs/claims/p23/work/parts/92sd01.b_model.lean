/-! FEWEST: how few chairs a heap needs, by the table of ways -/
def fwY (r k : Nat) : Int := (WYT.getD r []).getD k 0
def fwG (r : Nat) : Int := WGT.getD r 0
/-- the seats, the count, the greatest SIZE, the order from the greatest SIZE down -/
def fwS (f : Nat → Int) : Nat → Int
  | 0 => 0
  | n + 1 => fwS f n + ((n + 1 : Nat) : Int) * f (n + 1)
def fwT (f : Nat → Int) : Nat → Int
  | 0 => 0
  | n + 1 => fwT f n + f (n + 1)
def fwQ (f : Nat → Int) : Nat → Nat
  | 0 => 0
  | n + 1 => if 0 < f (n + 1) then n + 1 else fwQ f n
def fwL (f g : Nat → Int) : Nat → Bool
  | 0 => true
  | n + 1 => decide (f (n + 1) < g (n + 1)) || (decide (f (n + 1) = g (n + 1)) && fwL f g n)
theorem fwL_s (f g : Nat → Int) (n : Nat) : fwL f g (n + 1) = true ↔ f (n + 1) < g (n + 1) ∨ (f (n + 1) = g (n + 1) ∧ fwL f g n = true) := by
  show (decide (f (n + 1) < g (n + 1)) || (decide (f (n + 1) = g (n + 1)) && fwL f g n)) = true ↔ _
  rw [Bool.or_eq_true, Bool.and_eq_true, decide_eq_true_iff, decide_eq_true_iff]
/-- one more, or less, of a SIZE -/
def fw1 (f : Nat → Int) (g : Nat) (d : Int) : Nat → Int := fun k => if k = g then f k + d else f k
theorem fw1_at (f : Nat → Int) (g : Nat) (d : Int) : fw1 f g d g = f g + d := if_pos rfl
theorem fw1_ne (f : Nat → Int) {g k : Nat} (d : Int) (h : k ≠ g) : fw1 f g d k = f k := if_neg h
theorem fw_row : ∀ r, r < 67 → (∀ k, k < 9 → 0 ≤ fwY r k) ∧ fwY r 0 = fwS (fwY r) 8 ∧ fwY r 0 ≤ 8 ∧ fwG r = ((fwQ (fwY r) 8 : Nat) : Int) := by decide +kernel
theorem fw_ord : ∀ r, r < 67 → ∀ s, s < r → fwL (fwY s) (fwY r) 8 = false := by decide +kernel
def fwIt (r a1 a2 a3 a4 a5 a6 a7 a8 : Nat) : Bool := fwY r 1 == (a1 : Int) && fwY r 2 == (a2 : Int) && fwY r 3 == (a3 : Int) && fwY r 4 == (a4 : Int) && fwY r 5 == (a5 : Int) && fwY r 6 == (a6 : Int) && fwY r 7 == (a7 : Int) && fwY r 8 == (a8 : Int)
theorem fw_all : ((List.range 2).all fun a8 => (List.range 2).all fun a7 => (List.range 2).all fun a6 => (List.range 2).all fun a5 => (List.range 3).all fun a4 => (List.range 3).all fun a3 => (List.range 5).all fun a2 => (List.range 9).all fun a1 => Nat.blt 8 (a1 + 2 * a2 + 3 * a3 + 4 * a4 + 5 * a5 + 6 * a6 + 7 * a7 + 8 * a8) || (List.range 67).any fun r => fwIt r a1 a2 a3 a4 a5 a6 a7 a8) = true := by decide +kernel
theorem fw_all_at {a1 a2 a3 a4 a5 a6 a7 a8 : Nat} (h : a1 + 2 * a2 + 3 * a3 + 4 * a4 + 5 * a5 + 6 * a6 + 7 * a7 + 8 * a8 ≤ 8) : ∃ r, r < 67 ∧ (fwY r 1 = (a1 : Int) ∧ fwY r 2 = (a2 : Int) ∧ fwY r 3 = (a3 : Int) ∧ fwY r 4 = (a4 : Int) ∧ fwY r 5 = (a5 : Int) ∧ fwY r 6 = (a6 : Int) ∧ fwY r 7 = (a7 : Int) ∧ fwY r 8 = (a8 : Int)) := by
  have e8 := List.all_eq_true.mp fw_all a8 (List.mem_range.mpr (by omega))
  have e7 := List.all_eq_true.mp e8 a7 (List.mem_range.mpr (by omega))
  have e6 := List.all_eq_true.mp e7 a6 (List.mem_range.mpr (by omega))
  have e5 := List.all_eq_true.mp e6 a5 (List.mem_range.mpr (by omega))
  have e4 := List.all_eq_true.mp e5 a4 (List.mem_range.mpr (by omega))
  have e3 := List.all_eq_true.mp e4 a3 (List.mem_range.mpr (by omega))
  have e2 := List.all_eq_true.mp e3 a2 (List.mem_range.mpr (by omega))
  have e1 := List.all_eq_true.mp e2 a1 (List.mem_range.mpr (by omega))
  rw [Bool.or_eq_true] at e1
  rcases e1 with e1 | e1
  · exfalso
    have := Nat.le_of_ble_eq_true e1
    omega
  · obtain ⟨r, hr, e⟩ := List.any_eq_true.mp e1
    unfold fwIt at e
    simp only [Bool.and_eq_true, beq_iff_eq] at e
    obtain ⟨⟨⟨⟨⟨⟨⟨b1, b2⟩, b3⟩, b4⟩, b5⟩, b6⟩, b7⟩, b8⟩ := e
    exact ⟨r, List.mem_range.mp hr, b1, b2, b3, b4, b5, b6, b7, b8⟩
theorem fwS_8 (f : Nat → Int) : fwS f 8 = f 1 + 2 * f 2 + 3 * f 3 + 4 * f 4 + 5 * f 5 + 6 * f 6 + 7 * f 7 + 8 * f 8 := by
  have e : fwS f 8 = 0 + ((1 : Nat) : Int) * f 1 + ((2 : Nat) : Int) * f 2 + ((3 : Nat) : Int) * f 3 + ((4 : Nat) : Int) * f 4 + ((5 : Nat) : Int) * f 5 + ((6 : Nat) : Int) * f 6 + ((7 : Nat) : Int) * f 7 + ((8 : Nat) : Int) * f 8 := rfl
  rw [e]
  omega
theorem k18 {k : Nat} (h1 : 1 ≤ k) (h2 : k ≤ 8) : k = 1 ∨ k = 2 ∨ k = 3 ∨ k = 4 ∨ k = 5 ∨ k = 6 ∨ k = 7 ∨ k = 8 := by omega
theorem fw_find {f : Nat → Int} (h : ∀ k, 1 ≤ k → k ≤ 8 → 0 ≤ f k) (hs : fwS f 8 ≤ 8) : ∃ r, r < 67 ∧ ∀ k, 1 ≤ k → k ≤ 8 → fwY r k = f k := by
  rw [fwS_8] at hs
  have h1 := h 1 (by decide) (by decide)
  have h2 := h 2 (by decide) (by decide)
  have h3 := h 3 (by decide) (by decide)
  have h4 := h 4 (by decide) (by decide)
  have h5 := h 5 (by decide) (by decide)
  have h6 := h 6 (by decide) (by decide)
  have h7 := h 7 (by decide) (by decide)
  have h8 := h 8 (by decide) (by decide)
  obtain ⟨r, hr, e1, e2, e3, e4, e5, e6, e7, e8⟩ := fw_all_at (a1 := (f 1).toNat) (a2 := (f 2).toNat) (a3 := (f 3).toNat) (a4 := (f 4).toNat) (a5 := (f 5).toNat) (a6 := (f 6).toNat) (a7 := (f 7).toNat) (a8 := (f 8).toNat) (by omega)
  refine ⟨r, hr, fun k a b => ?_⟩
  rcases k18 a b with q | q | q | q | q | q | q | q <;> subst q
  · exact e1.trans (Int.toNat_of_nonneg h1)
  · exact e2.trans (Int.toNat_of_nonneg h2)
  · exact e3.trans (Int.toNat_of_nonneg h3)
  · exact e4.trans (Int.toNat_of_nonneg h4)
  · exact e5.trans (Int.toNat_of_nonneg h5)
  · exact e6.trans (Int.toNat_of_nonneg h6)
  · exact e7.trans (Int.toNat_of_nonneg h7)
  · exact e8.trans (Int.toNat_of_nonneg h8)
/-! pointwise -/
theorem fwS_ext {f g : Nat → Int} : ∀ n, (∀ k, 1 ≤ k → k ≤ n → f k = g k) → fwS f n = fwS g n := by
  intro n
  induction n with
  | zero => intro _; rfl
  | succ n ih =>
    intro h
    show fwS f n + ((n + 1 : Nat) : Int) * f (n + 1) = fwS g n + ((n + 1 : Nat) : Int) * g (n + 1)
    rw [ih (fun k a b => h k a (by omega)), h (n + 1) (by omega) (Nat.le_refl _)]
theorem fwQ_ext {f g : Nat → Int} : ∀ n, (∀ k, 1 ≤ k → k ≤ n → f k = g k) → fwQ f n = fwQ g n := by
  intro n
  induction n with
  | zero => intro _; rfl
  | succ n ih =>
    intro h
    show (if 0 < f (n + 1) then n + 1 else fwQ f n) = (if 0 < g (n + 1) then n + 1 else fwQ g n)
    rw [ih (fun k a b => h k a (by omega)), h (n + 1) (by omega) (Nat.le_refl _)]
theorem fwL_ext {f g f2 g2 : Nat → Int} : ∀ n, (∀ k, 1 ≤ k → k ≤ n → f k = f2 k) → (∀ k, 1 ≤ k → k ≤ n → g k = g2 k) → fwL f g n = fwL f2 g2 n := by
  intro n
  induction n with
  | zero => intro _ _; rfl
  | succ n ih =>
    intro h1 h2
    show (decide (f (n + 1) < g (n + 1)) || (decide (f (n + 1) = g (n + 1)) && fwL f g n)) = (decide (f2 (n + 1) < g2 (n + 1)) || (decide (f2 (n + 1) = g2 (n + 1)) && fwL f2 g2 n))
    rw [ih (fun k a b => h1 k a (by omega)) (fun k a b => h2 k a (by omega)), h1 (n + 1) (by omega) (Nat.le_refl _), h2 (n + 1) (by omega) (Nat.le_refl _)]
theorem fwL_d (f g : Nat → Int) (q : Nat) (d : Int) : ∀ n, fwL f g n = true → fwL (fw1 f q d) (fw1 g q d) n = true := by
  intro n
  induction n with
  | zero => intro _; rfl
  | succ n ih =>
    intro h
    rw [fwL_s] at h ⊢
    have e1 : fw1 f q d (n + 1) = f (n + 1) + (if n + 1 = q then d else 0) := by
      unfold fw1
      split <;> omega
    have e2 : fw1 g q d (n + 1) = g (n + 1) + (if n + 1 = q then d else 0) := by
      unfold fw1
      split <;> omega
    rw [e1, e2]
    rcases h with h | ⟨h1, h2⟩
    · exact Or.inl (by omega)
    · exact Or.inr ⟨by omega, ih h2⟩
theorem fwL_1 (f g : Nat → Int) (q : Nat) (n : Nat) (h : fwL f g n = true) : fwL (fw1 f q 1) (fw1 g q 1) n = true := fwL_d f g q 1 n h
theorem fwL_refl (f : Nat → Int) : ∀ n, fwL f f n = true := by
  intro n
  induction n with
  | zero => rfl
  | succ n ih =>
    rw [fwL_s]
    exact Or.inr ⟨rfl, ih⟩
theorem fwL_lt {f g : Nat → Int} {q : Nat} (hq : 1 ≤ q) (h : f q < g q) : ∀ n, q ≤ n → (∀ k, q < k → k ≤ n → f k = g k) → fwL f g n = true := by
  intro n
  induction n with
  | zero => intro h1; omega
  | succ n ih =>
    intro h1 h2
    rw [fwL_s]
    by_cases y : n + 1 = q
    · rw [y]; exact Or.inl h
    · exact Or.inr ⟨h2 (n + 1) (by omega) (Nat.le_refl _), ih (by omega) (fun k a b => h2 k a (by omega))⟩
theorem fwQ_spec (c : Nat → Int) : ∀ n, fwQ c n ≤ n ∧ (fwQ c n ≠ 0 → 0 < c (fwQ c n)) ∧ ∀ k, fwQ c n < k → k ≤ n → ¬ 0 < c k := by
  intro n
  induction n with
  | zero => exact ⟨Nat.le_refl _, fun h => absurd rfl h, fun k h1 h2 => by exfalso; have : fwQ c 0 = 0 := rfl; omega⟩
  | succ n ih =>
    by_cases h : 0 < c (n + 1)
    · have e : fwQ c (n + 1) = n + 1 := if_pos h
      rw [e]
      exact ⟨Nat.le_refl _, fun _ => h, fun k h1 h2 => by omega⟩
    · have e : fwQ c (n + 1) = fwQ c n := if_neg h
      rw [e]
      refine ⟨by omega, ih.2.1, fun k h1 h2 => ?_⟩
      by_cases y : k = n + 1
      · rw [y]; exact h
      · exact ih.2.2 k h1 (by omega)
theorem fwQ_of {c : Nat → Int} {n g : Nat} (h1 : g ≤ n) (h2 : g ≠ 0 → 0 < c g) (h3 : ∀ k, g < k → k ≤ n → ¬ 0 < c k) : fwQ c n = g := by
  obtain ⟨a1, a2, a3⟩ := fwQ_spec c n
  rcases Nat.lt_trichotomy (fwQ c n) g with y | y | y
  · exact absurd (h2 (by omega)) (a3 g y h1)
  · exact y
  · exact absurd (a2 (by omega)) (h3 _ y a1)
theorem fwT_sub (c d : Nat → Int) : ∀ n, fwT (fun k => c k - d k) n = fwT c n - fwT d n := by
  intro n
  induction n with
  | zero => rfl
  | succ n ih =>
    show fwT (fun k => c k - d k) n + (c (n + 1) - d (n + 1)) = fwT c n + c (n + 1) - (fwT d n + d (n + 1))
    omega
theorem fwT_ge {f : Nat → Int} : ∀ n, (∀ k, 1 ≤ k → k ≤ n → 0 ≤ f k) → 0 ≤ fwT f n ∧ ∀ k, 1 ≤ k → k ≤ n → f k ≤ fwT f n := by
  intro n
  induction n with
  | zero => intro _; exact ⟨Int.le_refl _, fun k a b => by omega⟩
  | succ n ih =>
    intro h
    obtain ⟨a, b⟩ := ih (fun k x y => h k x (by omega))
    have c := h (n + 1) (by omega) (Nat.le_refl _)
    have e : fwT f (n + 1) = fwT f n + f (n + 1) := rfl
    rw [e]
    refine ⟨by omega, fun k x y => ?_⟩
    by_cases z : k = n + 1
    · rw [z]; omega
    · have := b k x (by omega)
      omega
theorem fwS_d (f : Nat → Int) {g : Nat} (d : Int) (hg : 1 ≤ g) : ∀ n, fwS (fw1 f g d) n = fwS f n + if g ≤ n then (g : Int) * d else 0 := by
  intro n
  induction n with
  | zero => rw [if_neg (by omega)]; rfl
  | succ n ih =>
    show fwS (fw1 f g d) n + ((n + 1 : Nat) : Int) * fw1 f g d (n + 1) = fwS f n + ((n + 1 : Nat) : Int) * f (n + 1) + _
    rw [ih]
    by_cases e : n + 1 = g
    · subst e
      rw [fw1_at, Int.mul_add, if_neg (by omega), if_pos (Nat.le_refl _)]
      omega
    · rw [fw1_ne f d e]
      by_cases y : g ≤ n
      · rw [if_pos y, if_pos (by omega)]; omega
      · rw [if_neg y, if_neg (by omega)]; omega
theorem fwS_1 (f : Nat → Int) {g : Nat} (hg : 1 ≤ g) (n : Nat) : fwS (fw1 f g 1) n = fwS f n + if g ≤ n then (g : Int) else 0 := by
  rw [fwS_d f 1 hg n, Int.mul_one]
theorem fwS_nn {f : Nat → Int} : ∀ n, (∀ k, 1 ≤ k → k ≤ n → 0 ≤ f k) → 0 ≤ fwS f n ∧ ∀ k, 1 ≤ k → k ≤ n → (k : Int) * f k ≤ fwS f n := by
  intro n
  induction n with
  | zero => intro _; exact ⟨Int.le_refl _, fun k a b => by omega⟩
  | succ n ih =>
    intro h
    obtain ⟨a, b⟩ := ih (fun k x y => h k x (by omega))
    have c : 0 ≤ ((n + 1 : Nat) : Int) * f (n + 1) := Int.mul_nonneg (by omega) (h (n + 1) (by omega) (Nat.le_refl _))
    have e : fwS f (n + 1) = fwS f n + ((n + 1 : Nat) : Int) * f (n + 1) := rfl
    rw [e]
    refine ⟨by omega, fun k x y => ?_⟩
    by_cases z : k = n + 1
    · rw [z]; omega
    · have := b k x (by omega)
      omega
/-- a way that can go -/
def fwU (r : Nat) (c : Nat → Int) : Nat → Bool
  | 0 => true
  | n + 1 => decide (fwY r (n + 1) ≤ c (n + 1)) && fwU r c n
theorem fwU_iff (r : Nat) (c : Nat → Int) : ∀ n, fwU r c n = true ↔ ∀ k, 1 ≤ k → k ≤ n → fwY r k ≤ c k := by
  intro n
  induction n with
  | zero => exact ⟨fun _ k a b => by omega, fun _ => rfl⟩
  | succ n ih =>
    show (decide (fwY r (n + 1) ≤ c (n + 1)) && fwU r c n) = true ↔ _
    rw [Bool.and_eq_true, decide_eq_true_iff, ih]
    refine ⟨fun ⟨a, b⟩ k k1 k2 => ?_, fun h => ⟨h (n + 1) (by omega) (Nat.le_refl _), fun k k1 k2 => h k k1 (by omega)⟩⟩
    by_cases y : k = n + 1
    · rw [y]; exact a
    · exact b k k1 (by omega)
def fwP (S : Int) (c : Nat → Int) (r : Nat) : Bool := decide (fwG r = ((fwQ c 8 : Nat) : Int)) && (decide (fwY r 0 ≤ S) && fwU r c 8)
theorem fwP_iff {S : Int} {c : Nat → Int} {r : Nat} : fwP S c r = true ↔ fwG r = ((fwQ c 8 : Nat) : Int) ∧ fwY r 0 ≤ S ∧ ∀ k, 1 ≤ k → k ≤ 8 → fwY r k ≤ c k := by
  unfold fwP
  rw [Bool.and_eq_true, Bool.and_eq_true, decide_eq_true_iff, decide_eq_true_iff, fwU_iff]
/-- the least of those that can go -/
def fwM (P : Nat → Bool) (v : Nat → Int) : Nat → Option Int
  | 0 => none
  | n + 1 => match fwM P v n with
    | none => if P n = true then some (v n) else none
    | some m => if P n = true ∧ v n < m then some (v n) else some m
theorem fwM_none {P : Nat → Bool} {v : Nat → Int} {n : Nat} (h : fwM P v n = none) : fwM P v (n + 1) = if P n = true then some (v n) else none := by
  show (match fwM P v n with | none => if P n = true then some (v n) else none | some m => if P n = true ∧ v n < m then some (v n) else some m) = _
  rw [h]
theorem fwM_some {P : Nat → Bool} {v : Nat → Int} {n : Nat} {m : Int} (h : fwM P v n = some m) : fwM P v (n + 1) = if P n = true ∧ v n < m then some (v n) else some m := by
  show (match fwM P v n with | none => if P n = true then some (v n) else none | some m => if P n = true ∧ v n < m then some (v n) else some m) = _
  rw [h]
theorem fwM_spec (P : Nat → Bool) (v : Nat → Int) : ∀ n, (∀ m, fwM P v n = some m → (∃ r, r < n ∧ P r = true ∧ v r = m) ∧ ∀ r, r < n → P r = true → m ≤ v r) ∧ (fwM P v n = none → ∀ r, r < n → ¬ P r = true) := by
  intro n
  induction n with
  | zero => exact ⟨fun m h => (nomatch (show (none : Option Int) = some m from h)), fun _ r h => absurd h (Nat.not_lt_zero _)⟩
  | succ n ih =>
    obtain ⟨ih1, ih2⟩ := ih
    cases hq : fwM P v n with
    | none =>
      have e := fwM_none hq
      have a := ih2 hq
      by_cases hp : P n = true
      · rw [if_pos hp] at e
        rw [e]
        refine ⟨fun m h => ?_, fun h => (nomatch h)⟩
        have hm : v n = m := Option.some.inj h
        refine ⟨⟨n, Nat.lt_succ_self _, hp, hm⟩, fun r hr h2 => ?_⟩
        by_cases y : r = n
        · rw [y, hm]; exact Int.le_refl _
        · exact absurd h2 (a r (by omega))
      · rw [if_neg hp] at e
        rw [e]
        refine ⟨fun m h => (nomatch h), fun _ r hr => ?_⟩
        by_cases y : r = n
        · rw [y]; exact hp
        · exact a r (by omega)
    | some m0 =>
      have e := fwM_some hq
      obtain ⟨⟨r0, b1, b2, b3⟩, a⟩ := ih1 m0 hq
      by_cases hp : P n = true ∧ v n < m0
      · rw [if_pos hp] at e
        rw [e]
        refine ⟨fun m h => ?_, fun h => (nomatch h)⟩
        have hm : v n = m := Option.some.inj h
        refine ⟨⟨n, Nat.lt_succ_self _, hp.1, hm⟩, fun r hr h2 => ?_⟩
        by_cases y : r = n
        · rw [y, hm]; exact Int.le_refl _
        · have := a r (by omega) h2
          omega
      · rw [if_neg hp] at e
        rw [e]
        refine ⟨fun m h => ?_, fun h => (nomatch h)⟩
        have hm : m0 = m := Option.some.inj h
        subst hm
        refine ⟨⟨r0, by omega, b2, b3⟩, fun r hr h2 => ?_⟩
        by_cases y : r = n
        · rw [y] at h2 ⊢
          exact Int.not_lt.mp (fun z => hp ⟨h2, z⟩)
        · exact a r (by omega) h2
theorem fwM_congr {P P2 : Nat → Bool} {v v2 : Nat → Int} : ∀ n, (∀ r, r < n → P r = P2 r) → (∀ r, r < n → P r = true → v r = v2 r) → fwM P v n = fwM P2 v2 n := by
  intro n
  induction n with
  | zero => intro _ _; rfl
  | succ n ih =>
    intro h1 h2
    have e := ih (fun r hr => h1 r (by omega)) (fun r hr => h2 r (by omega))
    have p := h1 n (Nat.lt_succ_self _)
    cases hq : fwM P v n with
    | none =>
      rw [fwM_none hq, fwM_none (e ▸ hq), ← p]
      by_cases hp : P n = true
      · rw [if_pos hp, if_pos hp, h2 n (Nat.lt_succ_self _) hp]
      · rw [if_neg hp, if_neg hp]
    | some m =>
      rw [fwM_some hq, fwM_some (e ▸ hq), ← p]
      by_cases hp : P n = true
      · rw [h2 n (Nat.lt_succ_self _) hp]
      · rw [if_neg (fun z => hp z.1), if_neg (fun z => hp z.1)]
/-- how few chairs -/
def fwN (S : Int) : Nat → (Nat → Int) → Int
  | 0, _ => 0
  | f + 1, c => if fwQ c 8 = 0 then 0 else 1 + (fwM (fwP S c) (fun r => fwN S f (fun k => c k - fwY r k)) 67).getD 0
theorem fwN_s (S : Int) (f : Nat) (c : Nat → Int) : fwN S (f + 1) c = if fwQ c 8 = 0 then 0 else 1 + (fwM (fwP S c) (fun r => fwN S f (fun k => c k - fwY r k)) 67).getD 0 := rfl
theorem fwN_rng (S : Int) : ∀ (f : Nat) (c : Nat → Int), 0 ≤ fwN S f c ∧ fwN S f c ≤ (f : Int) := by
  intro f
  induction f with
  | zero => intro c; exact ⟨Int.le_refl _, Int.le_refl _⟩
  | succ f ih =>
    intro c
    rw [fwN_s]
    by_cases h : fwQ c 8 = 0
    · rw [if_pos h]; exact ⟨Int.le_refl _, by omega⟩
    · rw [if_neg h]
      cases hq : fwM (fwP S c) (fun r => fwN S f (fun k => c k - fwY r k)) 67 with
      | none => show 0 ≤ 1 + (0 : Int) ∧ 1 + (0 : Int) ≤ ((f + 1 : Nat) : Int); omega
      | some m =>
        show 0 ≤ 1 + m ∧ 1 + m ≤ ((f + 1 : Nat) : Int)
        obtain ⟨⟨r, _, _, e⟩, _⟩ := (fwM_spec _ _ 67).1 m hq
        have a := ih (fun k => c k - fwY r k)
        have e' : fwN S f (fun k => c k - fwY r k) = m := e
        rw [e'] at a
        omega
theorem fwP_ext {S : Int} {c d : Nat → Int} (h : ∀ k, 1 ≤ k → k ≤ 8 → c k = d k) (r : Nat) : fwP S c r = fwP S d r := by
  rw [Bool.eq_iff_iff, fwP_iff, fwP_iff, fwQ_ext 8 h]
  refine ⟨fun ⟨a, b, e⟩ => ⟨a, b, fun k h1 h2 => ?_⟩, fun ⟨a, b, e⟩ => ⟨a, b, fun k h1 h2 => ?_⟩⟩
  · rw [← h k h1 h2]; exact e k h1 h2
  · rw [h k h1 h2]; exact e k h1 h2
theorem fwN_ext (S : Int) : ∀ (f : Nat) (c d : Nat → Int), (∀ k, 1 ≤ k → k ≤ 8 → c k = d k) → fwN S f c = fwN S f d := by
  intro f
  induction f with
  | zero => intro c d _; rfl
  | succ f ih =>
    intro c d h
    rw [fwN_s, fwN_s, fwQ_ext 8 h]
    rw [fwM_congr (P := fwP S c) (P2 := fwP S d) (v := fun r => fwN S f (fun k => c k - fwY r k)) (v2 := fun r => fwN S f (fun k => d k - fwY r k)) 67 (fun r _ => fwP_ext h r) (fun r _ _ => ih _ _ (fun k h1 h2 => by rw [h k h1 h2]))]
/-- what is left when a way has gone -/
theorem fw_rest {S : Int} {c : Nat → Int} {r : Nat} (hr : r < 67) (hp : fwP S c r = true) (hg : fwQ c 8 ≠ 0) : (∀ k, 1 ≤ k → k ≤ 8 → 0 ≤ c k - fwY r k) ∧ fwT (fun k => c k - fwY r k) 8 + 1 ≤ fwT c 8 := by
  obtain ⟨p1, p2, p3⟩ := fwP_iff.mp hp
  obtain ⟨q1, q2, q3, q4⟩ := fw_row r hr
  refine ⟨fun k h1 h2 => by have := p3 k h1 h2; omega, ?_⟩
  rw [fwT_sub]
  have e : fwQ (fwY r) 8 = fwQ c 8 := by rw [q4] at p1; omega
  have a := (fwQ_spec (fwY r) 8).2.1 (by omega)
  have b := (fwQ_spec (fwY r) 8).1
  have d := (fwT_ge (f := fwY r) 8 (fun k _ h2 => q1 k (by omega))).2 (fwQ (fwY r) 8) (by omega) b
  omega
theorem fwN_fuel (S : Int) : ∀ (f : Nat) (c : Nat → Int), (∀ k, 1 ≤ k → k ≤ 8 → 0 ≤ c k) → fwT c 8 ≤ (f : Int) → fwN S f c = fwN S (f + 1) c := by
  intro f
  induction f with
  | zero =>
    intro c h ht
    have e : fwQ c 8 = 0 := by
      refine fwQ_of (Nat.zero_le _) (fun h => absurd rfl h) (fun k h1 h2 h3 => ?_)
      have := (fwT_ge (f := c) 8 h).2 k h1 h2
      have z : ((0 : Nat) : Int) = 0 := rfl
      omega
    rw [fwN_s, if_pos e]
    rfl
  | succ f ih =>
    intro c h ht
    rw [fwN_s, fwN_s S (f + 1)]
    by_cases hg : fwQ c 8 = 0
    · rw [if_pos hg, if_pos hg]
    · rw [if_neg hg, if_neg hg]
      rw [fwM_congr (P := fwP S c) (P2 := fwP S c) (v := fun r => fwN S f (fun k => c k - fwY r k)) (v2 := fun r => fwN S (f + 1) (fun k => c k - fwY r k)) 67 (fun r _ => rfl) (fun r hr hp => ?_)]
      obtain ⟨a, b⟩ := fw_rest hr hp hg
      exact ih _ a (by omega)
def fwV (S : Int) (c : Nat → Int) : Int := fwN S 13 c
theorem fwV_rng (S : Int) (c : Nat → Int) : 0 ≤ fwV S c ∧ fwV S c ≤ 13 := fwN_rng S 13 c
theorem fwV_ext (S : Int) {c d : Nat → Int} (h : ∀ k, 1 ≤ k → k ≤ 8 → c k = d k) : fwV S c = fwV S d := fwN_ext S 13 c d h
theorem fwV_0 {S : Int} {c : Nat → Int} (h : fwQ c 8 = 0) : fwV S c = 0 := by
  unfold fwV
  rw [fwN_s, if_pos h]
theorem fwV_eq {S : Int} {c : Nat → Int} (hc : ∀ k, 1 ≤ k → k ≤ 8 → 0 ≤ c k) (ht : fwT c 8 ≤ 12) (hg : fwQ c 8 ≠ 0) {r0 : Nat} (h0 : r0 < 67) (hp : fwP S c r0 = true) : ∃ m, fwV S c = 1 + m ∧ (∃ r, r < 67 ∧ fwP S c r = true ∧ fwV S (fun k => c k - fwY r k) = m) ∧ ∀ r, r < 67 → fwP S c r = true → m ≤ fwV S (fun k => c k - fwY r k) := by
  have e : fwV S c = 1 + (fwM (fwP S c) (fun r => fwV S (fun k => c k - fwY r k)) 67).getD 0 := by
    show fwN S (12 + 1) c = _
    rw [fwN_s, if_neg hg]
    rw [fwM_congr (P := fwP S c) (P2 := fwP S c) (v := fun r => fwN S 12 (fun k => c k - fwY r k)) (v2 := fun r => fwV S (fun k => c k - fwY r k)) 67 (fun r _ => rfl) (fun r hr hq => ?_)]
    obtain ⟨a, b⟩ := fw_rest hr hq hg
    exact fwN_fuel S 12 _ a (by have z : ((12 : Nat) : Int) = 12 := rfl; omega)
  obtain ⟨s1, s2⟩ := fwM_spec (fwP S c) (fun r => fwV S (fun k => c k - fwY r k)) 67
  cases hq : fwM (fwP S c) (fun r => fwV S (fun k => c k - fwY r k)) 67 with
  | none => exact absurd hp (s2 hq r0 h0)
  | some m =>
    rw [hq] at e
    exact ⟨m, e, (s1 m hq).1, (s1 m hq).2⟩
/-- groups of SIZES up to n that sit on s seats -/
def fwF (c : Nat → Int) (n : Nat) (s : Int) (f : Nat → Int) : Prop := (∀ k, 1 ≤ k → k ≤ 8 → 0 ≤ f k ∧ f k ≤ c k) ∧ (∀ k, n < k → k ≤ 8 → f k = 0) ∧ fwS f 8 ≤ s
theorem fw_fill {S : Int} {c f : Nat → Int} (hS : S ≤ 8) (hg : fwQ c 8 ≠ 0) (hf : fwF (fw1 c (fwQ c 8) (-1)) (fwQ c 8) (S - (fwQ c 8 : Nat)) f) : ∃ r, r < 67 ∧ fwP S c r = true ∧ ∀ k, 1 ≤ k → k ≤ 8 → fwY r k = fw1 f (fwQ c 8) 1 k := by
  obtain ⟨a1, a2, a3⟩ := fwQ_spec c 8
  obtain ⟨f1, f2, f3⟩ := hf
  have es := fwS_1 f (g := fwQ c 8) (by omega) 8
  rw [if_pos a1] at es
  have nn : ∀ k, 1 ≤ k → k ≤ 8 → 0 ≤ fw1 f (fwQ c 8) 1 k := fun k h1 h2 => by
    have := (f1 k h1 h2).1
    unfold fw1
    split <;> omega
  obtain ⟨r, hr, e⟩ := fw_find nn (by rw [es]; omega)
  refine ⟨r, hr, fwP_iff.mpr ⟨?_, ?_, fun k h1 h2 => ?_⟩, e⟩
  · rw [(fw_row r hr).2.2.2]
    have : fwQ (fwY r) 8 = fwQ c 8 := by
      refine fwQ_of a1 (fun _ => ?_) (fun k h1 h2 => ?_)
      · rw [e _ (by omega) a1, fw1_at]
        have := (f1 (fwQ c 8) (by omega) a1).1
        omega
      · rw [e k (by omega) h2, fw1_ne f 1 (by omega), f2 k h1 h2]
        decide
    rw [this]
  · rw [(fw_row r hr).2.1, fwS_ext 8 e, es]
    omega
  · rw [e k h1 h2]
    have y := (f1 k h1 h2).2
    unfold fw1 at y ⊢
    split at y
    · rename_i z
      rw [if_pos z]; omega
    · rename_i z
      rw [if_neg z]; exact y
theorem fw_unfill {S : Int} {c : Nat → Int} {r : Nat} (hr : r < 67) (hp : fwP S c r = true) (hg : fwQ c 8 ≠ 0) : fwF (fw1 c (fwQ c 8) (-1)) (fwQ c 8) (S - (fwQ c 8 : Nat)) (fw1 (fwY r) (fwQ c 8) (-1)) := by
  obtain ⟨p1, p2, p3⟩ := fwP_iff.mp hp
  obtain ⟨q1, q2, q3, q4⟩ := fw_row r hr
  have e : fwQ (fwY r) 8 = fwQ c 8 := by rw [q4] at p1; omega
  obtain ⟨b1, b2, b3⟩ := fwQ_spec (fwY r) 8
  rw [e] at b1 b2 b3
  have b2' := b2 hg
  have es := fwS_1 (fw1 (fwY r) (fwQ c 8) (-1)) (g := fwQ c 8) (by omega) 8
  rw [if_pos b1] at es
  have ee : fwS (fw1 (fw1 (fwY r) (fwQ c 8) (-1)) (fwQ c 8) 1) 8 = fwS (fwY r) 8 := fwS_ext 8 (fun k _ _ => by
    unfold fw1
    split
    · omega
    · rfl)
  refine ⟨fun k h1 h2 => ?_, fun k h1 h2 => ?_, ?_⟩
  · have y := p3 k h1 h2
    have z := q1 k (by omega)
    unfold fw1
    split
    · rename_i w
      rw [w] at y ⊢
      omega
    · exact ⟨z, y⟩
  · rw [fw1_ne _ _ (by omega)]
    have y := b3 k h1 h2
    have z := q1 k (by omega)
    omega
  · rw [ee] at es
    omega
theorem fw_less (c f : Nat → Int) (g k : Nat) : fw1 c g (-1) k - f k = c k - fw1 f g 1 k := by
  unfold fw1
  split <;> omega
theorem fwV_min {S : Int} {c : Nat → Int} {y : Int} (hS : S ≤ 8) (hc : ∀ k, 1 ≤ k → k ≤ 8 → 0 ≤ c k) (ht : fwT c 8 ≤ 12) (hg : fwQ c 8 ≠ 0) (h1 : ∃ f, fwF (fw1 c (fwQ c 8) (-1)) (fwQ c 8) (S - (fwQ c 8 : Nat)) f ∧ fwV S (fun k => fw1 c (fwQ c 8) (-1) k - f k) = y) (h2 : ∀ f, fwF (fw1 c (fwQ c 8) (-1)) (fwQ c 8) (S - (fwQ c 8 : Nat)) f → y ≤ fwV S (fun k => fw1 c (fwQ c 8) (-1) k - f k)) : fwV S c = 1 + y := by
  obtain ⟨f, hf, ef⟩ := h1
  obtain ⟨r0, hr0, hp0, er0⟩ := fw_fill hS hg hf
  obtain ⟨m, em, ⟨r, hr, hp, er⟩, hm⟩ := fwV_eq hc ht hg hr0 hp0
  have a := hm r0 hr0 hp0
  have a2 : fwV S (fun k => c k - fwY r0 k) = y := by
    rw [← ef]
    exact fwV_ext S (fun k k1 k2 => by rw [fw_less, er0 k k1 k2])
  have b := h2 _ (fw_unfill hr hp hg)
  have b2 : fwV S (fun k => fw1 c (fwQ c 8) (-1) k - fw1 (fwY r) (fwQ c 8) (-1) k) = m := by
    rw [← er]
    exact fwV_ext S (fun k k1 k2 => by
      unfold fw1
      split <;> omega)
  rw [a2] at a
  rw [b2] at b
  rw [em]
  omega
/-- FIRST, both ways -/
theorem fw_first {S : Int} {c f : Nat → Int} {r : Nat} (hS : S ≤ 8) (hg : fwQ c 8 ≠ 0) (hr : r < 67) (hp : fwP S c r = true) (hv : fwV S (fun k => c k - fwY r k) = fwV S c - 1) (hfirst : ∀ s, s < r → fwP S c s = true → fwV S c - 1 < fwV S (fun k => c k - fwY s k)) (hf : fwF (fw1 c (fwQ c 8) (-1)) (fwQ c 8) (S - (fwQ c 8 : Nat)) f) (ef : fwV S (fun k => fw1 c (fwQ c 8) (-1) k - f k) = fwV S c - 1) (hmost : ∀ f2, fwF (fw1 c (fwQ c 8) (-1)) (fwQ c 8) (S - (fwQ c 8 : Nat)) f2 → fwV S (fun k => fw1 c (fwQ c 8) (-1) k - f2 k) = fwV S c - 1 → fwL f2 f 8 = true) : ∀ k, 1 ≤ k → k ≤ 8 → fwY r k = fw1 f (fwQ c 8) 1 k := by
  obtain ⟨s, hs, hps, es⟩ := fw_fill hS hg hf
  have vs : fwV S (fun k => c k - fwY s k) = fwV S c - 1 := by
    rw [← ef]
    exact fwV_ext S (fun k k1 k2 => by rw [fw_less, es k k1 k2])
  have h1 : ¬ s < r := fun z => by
    have := hfirst s z hps
    omega
  have h2 : ¬ r < s := fun z => by
    have a := hmost _ (fw_unfill hr hp hg) (by
      rw [← hv]
      exact fwV_ext S (fun k k1 k2 => by
        unfold fw1
        split <;> omega))
    have b := fwL_1 _ _ (fwQ c 8) 8 a
    rw [fwL_ext (f2 := fwY r) (g2 := fwY s) 8 (fun k _ _ => by
      unfold fw1
      split
      · omega
      · rfl) (fun k k1 k2 => (es k k1 k2).symm), fw_ord s hs r z] at b
    exact absurd b (by decide)
  have e : s = r := by omega
  rw [← e]
  exact es
theorem fw_row8 : ∀ r, r < 67 → ∀ k, k < 9 → fwY r k ≤ 8 := by decide +kernel
