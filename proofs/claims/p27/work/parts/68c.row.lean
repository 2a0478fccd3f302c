/-! the row laid, the heap's sum -/
def RW (o : Nat) (I : IMem) : Prop := 0 ≤ I o 40 ∧ I o 40 ≤ 144 ∧ ∀ i : Nat, (i : Int) < I o 40 → 0 ≤ I (o + 16) i ∧ I (o + 16) i < 240
theorem rw_fr {o : Nat} {I I1 : IMem} (h : RW o I) (h16 : ∀ j, I1 (o + 16) j = I (o + 16) j) (h40 : I1 o 40 = I o 40) : RW o I1 := by
  refine ⟨by rw [h40]; exact h.1, by rw [h40]; exact h.2.1, fun i hi => ?_⟩
  rw [h16]; rw [h40] at hi; exact h.2.2 i hi
theorem rw_0 {o : Nat} {I : IMem} (h : I o 40 = 0) : RW o I := ⟨by omega, by omega, fun i hi => by omega⟩
theorem rw_push {o : Nat} {I I1 I2 : IMem} {x v : Int} (h : RW o I) (hl : I o 40 < 144) (hx : x = I o 40) (hv : 0 ≤ v ∧ v < 240) (e1 : ∀ p i, I1 p i = if p = o + 16 ∧ i = x.toNat then v else I p i) (e2 : ∀ p i, I2 p i = if p = o ∧ i = 40 then wr32 (I1 o 40 + 1) else I1 p i) : RW o I2 ∧ I2 o 40 = I o 40 + 1 := by
  have h0 := h.1
  have h40 : I2 o 40 = I o 40 + 1 := by
    rw [e2, if_pos ⟨rfl, rfl⟩, e1, if_neg (by omega)]; exact wr32_i2 (by omega) (by omega)
  refine ⟨⟨by omega, by omega, fun i hi => ?_⟩, h40⟩
  rw [e2, if_neg (by omega), e1]
  by_cases q : i = x.toNat
  · rw [if_pos ⟨rfl, q⟩]; exact hv
  · rw [if_neg (fun z => q z.2)]; exact h.2.2 i (by omega)
theorem wor_3 (a : Int) (h : 0 ≤ a ∧ a ≤ 3) : (0 ≤ wor a 1 ∧ wor a 1 ≤ 3) ∧ (0 ≤ wor a 2 ∧ wor a 2 ≤ 3) := by
  have : a = 0 ∨ a = 1 ∨ a = 2 ∨ a = 3 := by omega
  rcases this with e | e | e | e <;> subst e <;> decide
def ps (I : IMem) (a : Nat) : Nat → Int
  | 0 => 0
  | n + 1 => ps I a n + I a (61 + n)
theorem ps_8 (I : IMem) (a : Nat) : ps I a 8 = hsum I a := by unfold hsum; simp only [ps, Nat.add_zero, Nat.reduceAdd]; omega
theorem ps_s (I : IMem) (a : Nat) (w : Int) (h : 1 ≤ w) : ps I a (w + 1 - 1).toNat = ps I a (w - 1).toNat + I a (60 + w).toNat := by
  rw [show (w + 1 - 1).toNat = (w - 1).toNat + 1 by omega, show (60 + w).toNat = 61 + (w - 1).toNat by omega]; rfl
theorem hp_nn {o : Nat} {I : IMem} (h : GX o I) (k : Nat) (hk : k < 8) : 0 ≤ I (o + 1) (61 + k) := by
  have := h.2.1.2.2.2.2.1.1 (k + 1) (by omega) (by omega)
  rw [show 60 + (k + 1) = 61 + k by omega] at this; exact this
theorem hp_12 {o : Nat} {I : IMem} (h : GX o I) : hsum I (o + 1) ≤ 12 := h.2.1.2.2.2.2.1.2
theorem ps_b {o : Nat} {I : IMem} (h : GX o I) (k n : Nat) (hn : n ≤ 8) : 0 ≤ ps I (o + 1) n ∧ ps I (o + 1) n ≤ 12 ∧ (k < n → I (o + 1) (61 + k) ≤ ps I (o + 1) n) ∧ (n ≤ k → k < 8 → ps I (o + 1) n + I (o + 1) (61 + k) ≤ 12) := by
  have h8 := hp_12 h
  unfold hsum at h8
  have a0 := hp_nn h 0 (by decide)
  have a1 := hp_nn h 1 (by decide)
  have a2 := hp_nn h 2 (by decide)
  have a3 := hp_nn h 3 (by decide)
  have a4 := hp_nn h 4 (by decide)
  have a5 := hp_nn h 5 (by decide)
  have a6 := hp_nn h 6 (by decide)
  have a7 := hp_nn h 7 (by decide)
  simp only [Nat.add_zero, Nat.reduceAdd] at a0 a1 a2 a3 a4 a5 a6 a7
  have hk : 8 ≤ k ∨ k = 0 ∨ k = 1 ∨ k = 2 ∨ k = 3 ∨ k = 4 ∨ k = 5 ∨ k = 6 ∨ k = 7 := by omega
  have hn : n = 0 ∨ n = 1 ∨ n = 2 ∨ n = 3 ∨ n = 4 ∨ n = 5 ∨ n = 6 ∨ n = 7 ∨ n = 8 := by omega
  rcases hn with e | e | e | e | e | e | e | e | e <;> subst e <;> (simp only [ps, Nat.add_zero, Nat.reduceAdd]; rcases hk with q | q | q | q | q | q | q | q | q <;> (try subst q) <;> refine ⟨?_, ?_, ?_, ?_⟩ <;> intros <;> (try simp only [Nat.add_zero, Nat.reduceAdd]) <;> omega)
