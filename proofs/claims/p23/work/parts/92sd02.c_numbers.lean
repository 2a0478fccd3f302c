/-! FEWEST: heaps within a heap have numbers -/
def fwR (h : Nat → Int) : Nat → Int
  | 0 => 1
  | 1 => 1
  | n + 2 => fwR h (n + 1) * (h (n + 1) + 1)
def fwB (h c : Nat → Int) : Prop := ∀ k, 1 ≤ k → k ≤ 8 → 0 ≤ c k ∧ c k ≤ h k
def fwH (h : Nat → Int) : Prop := ∀ k, 1 ≤ k → k ≤ 8 → 0 ≤ h k
theorem fwR_s (h : Nat → Int) {n : Nat} (hn : 1 ≤ n) : fwR h (n + 1) = fwR h n * (h n + 1) := by
  cases n with
  | zero => omega
  | succ n => rfl
theorem fwR_pos {h : Nat → Int} (hh : fwH h) : ∀ n, n ≤ 8 → 1 ≤ fwR h (n + 1) := by
  intro n
  induction n with
  | zero => intro _; exact Int.le_refl _
  | succ n ih =>
    intro hn
    have a := ih (by omega)
    have b := hh (n + 1) (by omega) hn
    have d : 0 ≤ fwR h (n + 1) * h (n + 1) := Int.mul_nonneg (by omega) b
    show 1 ≤ fwR h (n + 1) * (h (n + 1) + 1)
    rw [Int.mul_add, Int.mul_one]
    omega
theorem nr_s (r f : Nat → Int) (n : Nat) : nr r f (n + 1) = nr r f n + r (n + 1) * f (n + 1) := rfl
theorem nr_ext {r f r2 f2 : Nat → Int} : ∀ n, (∀ k, 1 ≤ k → k ≤ n → r k = r2 k ∧ f k = f2 k) → nr r f n = nr r2 f2 n := by
  intro n
  induction n with
  | zero => intro _; rfl
  | succ n ih =>
    intro h
    rw [nr_s, nr_s, ih (fun k a b => h k a (by omega)), (h (n + 1) (by omega) (Nat.le_refl _)).1, (h (n + 1) (by omega) (Nat.le_refl _)).2]
theorem nr_rng {h c : Nat → Int} (hh : fwH h) (hc : fwB h c) : ∀ n, n ≤ 8 → 0 ≤ nr (fwR h) c n ∧ nr (fwR h) c n < fwR h (n + 1) := by
  intro n
  induction n with
  | zero => intro _; exact ⟨Int.le_refl _, (by decide : (0 : Int) < 1)⟩
  | succ n ih =>
    intro hn
    obtain ⟨a, b⟩ := ih (by omega)
    obtain ⟨d, e⟩ := hc (n + 1) (by omega) hn
    have p := fwR_pos hh n (by omega)
    have m0 : 0 ≤ fwR h (n + 1) * c (n + 1) := Int.mul_nonneg (by omega) d
    have m1 : fwR h (n + 1) * c (n + 1) ≤ fwR h (n + 1) * h (n + 1) := Int.mul_le_mul_of_nonneg_left e (by omega)
    rw [nr_s, fwR_s h (n := n + 1) (by omega), Int.mul_add, Int.mul_one]
    exact ⟨by omega, by omega⟩
theorem nr_inj {h c d : Nat → Int} (hh : fwH h) (hc : fwB h c) (hd : fwB h d) : ∀ n, n ≤ 8 → nr (fwR h) c n = nr (fwR h) d n → ∀ k, 1 ≤ k → k ≤ n → c k = d k := by
  intro n
  induction n with
  | zero => intro _ _ k a b; omega
  | succ n ih =>
    intro hn e k k1 k2
    obtain ⟨a, b⟩ := nr_rng hh hc n (by omega)
    obtain ⟨a2, b2⟩ := nr_rng hh hd n (by omega)
    have p := fwR_pos hh n (by omega)
    rw [nr_s, nr_s] at e
    have top : c (n + 1) = d (n + 1) := by
      rcases Int.lt_trichotomy (c (n + 1)) (d (n + 1)) with y | y | y
      · exfalso
        have m := Int.mul_le_mul_of_nonneg_left (show c (n + 1) + 1 ≤ d (n + 1) by omega) (show 0 ≤ fwR h (n + 1) by omega)
        rw [Int.mul_add, Int.mul_one] at m
        omega
      · exact y
      · exfalso
        have m := Int.mul_le_mul_of_nonneg_left (show d (n + 1) + 1 ≤ c (n + 1) by omega) (show 0 ≤ fwR h (n + 1) by omega)
        rw [Int.mul_add, Int.mul_one] at m
        omega
    by_cases z : k = n + 1
    · rw [z]; exact top
    · refine ih (by omega) ?_ k k1 (by omega)
      rw [top] at e
      omega
theorem nr_sub (r c d : Nat → Int) : ∀ n, nr r (fun k => c k - d k) n = nr r c n - nr r d n := by
  intro n
  induction n with
  | zero => rfl
  | succ n ih =>
    rw [nr_s, nr_s, nr_s, ih, Int.mul_sub]
    omega
theorem nr_top (h : Nat → Int) : ∀ n, nr (fwR h) h n = fwR h (n + 1) - 1 := by
  intro n
  induction n with
  | zero => rfl
  | succ n ih =>
    rw [nr_s, ih, fwR_s h (n := n + 1) (by omega), Int.mul_add, Int.mul_one]
    omega
theorem nr_zero {r f : Nat → Int} : ∀ n, (∀ k, 1 ≤ k → k ≤ n → f k = 0) → nr r f n = 0 := by
  intro n
  induction n with
  | zero => intro _; rfl
  | succ n ih =>
    intro h
    rw [nr_s, ih (fun k a b => h k a (by omega)), h (n + 1) (by omega) (Nat.le_refl _), Int.mul_zero]
    rfl
/-- the next number's counts -/
theorem nr_next {h c d : Nat → Int} {w : Nat} (h1 : 1 ≤ w) (hm : ∀ k, 1 ≤ k → k < w → c k = h k ∧ d k = 0) (hw : d w = c w + 1) (ha : ∀ k, w < k → k ≤ 8 → d k = c k) : ∀ n, w + n ≤ 8 → nr (fwR h) d (w + n) = nr (fwR h) c (w + n) + 1 := by
  intro n
  induction n with
  | zero =>
    intro _
    obtain ⟨v, rfl⟩ : ∃ v, w = v + 1 := ⟨w - 1, by omega⟩
    have e1 : nr (fwR h) d v = 0 := nr_zero v (fun k a b => (hm k a (by omega)).2)
    have e2 : nr (fwR h) c v = fwR h (v + 1) - 1 := by
      rw [← nr_top h v]
      exact nr_ext v (fun k a b => ⟨rfl, (hm k a (by omega)).1⟩)
    rw [Nat.add_zero, nr_s, nr_s, e1, e2, hw, Int.mul_add, Int.mul_one]
    omega
  | succ n ih =>
    intro hn
    have e := ih (by omega)
    rw [show w + (n + 1) = w + n + 1 by omega, nr_s, nr_s, e, ha (w + n + 1) (by omega) (by omega)]
    omega
/-! how many heaps there are within one -/
def fwX (F : Nat → Nat) (s : Nat) : Nat → Nat
  | 0 => F s
  | a + 1 => max (fwX F s a) ((a + 2) * F (s - (a + 1)))
def fwZ : Nat → Nat → Nat
  | 0 => fun _ => 1
  | n + 1 => fun s => fwX (fwZ n) s s
theorem fwX_le (F : Nat → Nat) (s : Nat) : ∀ j a, a ≤ j → (a + 1) * F (s - a) ≤ fwX F s j := by
  intro j
  induction j with
  | zero =>
    intro a ha
    have : a = 0 := by omega
    subst this
    show (0 + 1) * F (s - 0) ≤ F s
    rw [Nat.zero_add, Nat.one_mul, Nat.sub_zero]
    exact Nat.le_refl _
  | succ j ih =>
    intro a ha
    show (a + 1) * F (s - a) ≤ max (fwX F s j) ((j + 2) * F (s - (j + 1)))
    by_cases y : a = j + 1
    · rw [y]
      exact Nat.le_max_right _ _
    · exact Nat.le_trans (ih a (by omega)) (Nat.le_max_left _ _)
theorem fwR_bnd {h : Nat → Int} (hh : fwH h) : ∀ n s : Nat, n ≤ 8 → fwT h n ≤ (s : Int) → fwR h (n + 1) ≤ ((fwZ n s : Nat) : Int) := by
  intro n
  induction n with
  | zero => intro s _ _; exact Int.le_refl _
  | succ n ih =>
    intro s hn ht
    have a := hh (n + 1) (by omega) hn
    have t0 := (fwT_ge (f := h) n (fun k k1 k2 => hh k k1 (by omega))).1
    have et : fwT h (n + 1) = fwT h n + h (n + 1) := rfl
    obtain ⟨x, hx⟩ : ∃ x : Nat, h (n + 1) = (x : Int) := ⟨(h (n + 1)).toNat, (Int.toNat_of_nonneg a).symm⟩
    have b := ih (s - x) (by omega) (by omega)
    have l := fwX_le (fwZ n) s s x (by omega)
    rw [fwR_s h (n := n + 1) (by omega), hx]
    have m := Int.mul_le_mul_of_nonneg_right b (show 0 ≤ ((x : Int) + 1) by omega)
    refine Int.le_trans m ?_
    have e : ((fwZ n (s - x) : Nat) : Int) * ((x : Int) + 1) = (((x + 1) * fwZ n (s - x) : Nat) : Int) := by
      rw [Nat.mul_comm, Int.natCast_mul]
      rfl
    rw [e]
    exact Int.ofNat_le.mpr l
theorem fwZ_12 : fwZ 8 12 ≤ 1296 := by decide +kernel
theorem fwR_1296 {h : Nat → Int} (hh : fwH h) (ht : fwT h 8 ≤ 12) : fwR h 9 ≤ 1296 := by
  have a : fwR h 9 ≤ ((fwZ 8 12 : Nat) : Int) := fwR_bnd hh 8 12 (Nat.le_refl _) ht
  have b := fwZ_12
  omega
theorem fwR_mono {h : Nat → Int} (hh : fwH h) : ∀ m n, n + m ≤ 8 → fwR h (n + 1) ≤ fwR h (n + m + 1) := by
  intro m
  induction m with
  | zero => intro n _; exact Int.le_refl _
  | succ m ih =>
    intro n hn
    have a := ih n (by omega)
    have p := fwR_pos hh (n + m) (by omega)
    have b := hh (n + m + 1) (by omega) (by omega)
    have d : 0 ≤ fwR h (n + m + 1) * h (n + m + 1) := Int.mul_nonneg (by omega) b
    rw [show n + (m + 1) + 1 = (n + m + 1) + 1 by omega, fwR_s h (n := n + m + 1) (by omega), Int.mul_add, Int.mul_one]
    omega
theorem fwR_le {h : Nat → Int} (hh : fwH h) (ht : fwT h 8 ≤ 12) {k : Nat} (h1 : 1 ≤ k) (h2 : k ≤ 9) : 1 ≤ fwR h k ∧ fwR h k ≤ 1296 := by
  obtain ⟨n, rfl⟩ : ∃ n, k = n + 1 := ⟨k - 1, by omega⟩
  have a := fwR_pos hh n (by omega)
  have b := fwR_mono hh (8 - n) n (by omega)
  rw [show n + (8 - n) + 1 = 9 by omega] at b
  exact ⟨a, Int.le_trans b (fwR_1296 hh ht)⟩
theorem fwT_le {c h : Nat → Int} : ∀ n, (∀ k, 1 ≤ k → k ≤ n → c k ≤ h k) → fwT c n ≤ fwT h n := by
  intro n
  induction n with
  | zero => intro _; exact Int.le_refl _
  | succ n ih =>
    intro hk
    have a := ih (fun k a b => hk k a (by omega))
    have b := hk (n + 1) (by omega) (Nat.le_refl _)
    show fwT c n + c (n + 1) ≤ fwT h n + h (n + 1)
    omega
/-- all SIZES of the heap sit on one chair -/
def fwO (h : Nat → Int) (S : Int) : Prop := ∀ k : Nat, 1 ≤ k → k ≤ 8 → 0 < h k → (k : Int) ≤ S
theorem fw_gS {h c : Nat → Int} {S : Int} (ho : fwO h S) (hc : fwB h c) (hg : fwQ c 8 ≠ 0) : ((fwQ c 8 : Nat) : Int) ≤ S := by
  obtain ⟨a1, a2, a3⟩ := fwQ_spec c 8
  have a := a2 hg
  exact ho _ (by omega) a1 (by have := (hc _ (by omega) a1).2; omega)
theorem fwB_1 {h c : Nat → Int} {g : Nat} (hc : fwB h c) (h0 : 0 < c g) : fwB h (fw1 c g (-1)) := by
  intro k k1 k2
  have a := hc k k1 k2
  unfold fw1
  split
  · rename_i z
    rw [z] at a ⊢
    omega
  · exact a
