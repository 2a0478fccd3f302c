/-! numbers in a mixed radix -/
def nr (r f : Nat → Int) : Nat → Int
  | 0 => 0
  | n + 1 => nr r f n + r (n + 1) * f (n + 1)
def NQ (o : Nat) (I : IMem) : Prop := (∀ k, 1 ≤ k → k ≤ 8 → 0 ≤ I (o + 19) k ∧ I (o + 19) k ≤ I (o + 1) (60 + k) ∧ I (o + 1) (60 + k) ≤ 12 ∧ 0 ≤ I (o + 20) k) ∧ nr (I (o + 20)) (fun k => I (o + 1) (60 + k)) 8 ≤ 4095
theorem nr_up {r f g : Nat → Int} (h : ∀ k, 1 ≤ k → k ≤ 8 → 0 ≤ r k ∧ 0 ≤ f k ∧ f k ≤ g k) : ∀ n, n ≤ 8 → 0 ≤ nr r f n ∧ nr r f n ≤ nr r g n := by
  intro n
  induction n with
  | zero => intro _; exact ⟨Int.le_refl _, Int.le_refl _⟩
  | succ n ih =>
    intro hn
    have h1 := ih (by omega)
    have h2 := h (n + 1) (by omega) hn
    have h3 := Int.mul_nonneg h2.1 h2.2.1
    have h4 := Int.mul_le_mul_of_nonneg_left h2.2.2 h2.1
    show 0 ≤ nr r f n + r (n + 1) * f (n + 1) ∧ nr r f n + r (n + 1) * f (n + 1) ≤ nr r g n + r (n + 1) * g (n + 1)
    omega
theorem nr_le {r f : Nat → Int} (h : ∀ k, 1 ≤ k → k ≤ 8 → 0 ≤ r k ∧ 0 ≤ f k) : ∀ m n, n + m ≤ 8 → nr r f n ≤ nr r f (n + m) := by
  intro m
  induction m with
  | zero => intro n _; exact Int.le_refl _
  | succ m ih =>
    intro n hn
    have h1 := ih n (by omega)
    have h2 := h (n + m + 1) (by omega) (by omega)
    have h3 := Int.mul_nonneg h2.1 h2.2
    show nr r f n ≤ nr r f (n + m) + r (n + m + 1) * f (n + m + 1)
    omega
theorem nw_step {o : Nat} {I : IMem} (h : NQ o I) (w : Int) (h1 : 1 ≤ w) (h2 : w ≤ 9) : 0 ≤ nr (I (o + 20)) (I (o + 19)) (w - 1).toNat ∧ nr (I (o + 20)) (I (o + 19)) (w - 1).toNat ≤ 4095 ∧ (w ≤ 8 → nr (I (o + 20)) (I (o + 19)) (w + 1 - 1).toNat = nr (I (o + 20)) (I (o + 19)) (w - 1).toNat + I (o + 20) w.toNat * I (o + 19) w.toNat ∧ 0 ≤ I (o + 20) w.toNat * I (o + 19) w.toNat ∧ nr (I (o + 20)) (I (o + 19)) (w - 1).toNat + I (o + 20) w.toNat * I (o + 19) w.toNat ≤ 4095) := by
  have hu := nr_up (r := I (o + 20)) (f := I (o + 19)) (g := fun k => I (o + 1) (60 + k)) (fun k a b => ⟨(h.1 k a b).2.2.2, (h.1 k a b).1, (h.1 k a b).2.1⟩)
  have hl := nr_le (r := I (o + 20)) (f := I (o + 19)) (fun k a b => ⟨(h.1 k a b).2.2.2, (h.1 k a b).1⟩)
  have h8 := hu 8 (Nat.le_refl _)
  have hh := h.2
  have b : ∀ n, n ≤ 8 → nr (I (o + 20)) (I (o + 19)) n ≤ 4095 := fun n hn => by
    have e := hl (8 - n) n (by omega)
    rw [show n + (8 - n) = 8 by omega] at e
    omega
  refine ⟨(hu _ (by omega)).1, b _ (by omega), fun hw => ?_⟩
  have hk := h.1 w.toNat (by omega) (by omega)
  have hm := Int.mul_nonneg hk.2.2.2 hk.1
  have e : nr (I (o + 20)) (I (o + 19)) (w + 1 - 1).toNat = nr (I (o + 20)) (I (o + 19)) (w - 1).toNat + I (o + 20) w.toNat * I (o + 19) w.toNat := by
    rw [show (w + 1 - 1).toNat = (w - 1).toNat + 1 by omega, show w.toNat = (w - 1).toNat + 1 by omega]; rfl
  refine ⟨e, hm, ?_⟩
  rw [← e]; exact b _ (by omega)
theorem nw_fr {o : Nat} {I I1 : IMem} (h : NQ o I) (h1 : ∀ j, I1 (o + 1) j = I (o + 1) j) (h19 : ∀ j, I1 (o + 19) j = I (o + 19) j) (h20 : ∀ j, I1 (o + 20) j = I (o + 20) j) : NQ o I1 := by
  have e1 : I1 (o + 1) = I (o + 1) := funext h1
  have e19 : I1 (o + 19) = I (o + 19) := funext h19
  have e20 : I1 (o + 20) = I (o + 20) := funext h20
  unfold NQ
  rw [e1, e19, e20]; exact h
def nsum (I : IMem) (o : Nat) : Int := I (o + 19) 1 + I (o + 19) 2 + I (o + 19) 3 + I (o + 19) 4 + I (o + 19) 5 + I (o + 19) 6 + I (o + 19) 7 + I (o + 19) 8
theorem nsum_fr {o : Nat} {I I1 : IMem} (h19 : ∀ j, I1 (o + 19) j = I (o + 19) j) : nsum I1 o = nsum I o := by unfold nsum; simp only [h19]
theorem nsum_b {o : Nat} {I : IMem} (hg : GX o I) (h : NQ o I) : 0 ≤ nsum I o ∧ nsum I o ≤ 12 := by
  have h12 := hp_12 hg
  have a1 := h.1 1 (by decide) (by decide)
  have a2 := h.1 2 (by decide) (by decide)
  have a3 := h.1 3 (by decide) (by decide)
  have a4 := h.1 4 (by decide) (by decide)
  have a5 := h.1 5 (by decide) (by decide)
  have a6 := h.1 6 (by decide) (by decide)
  have a7 := h.1 7 (by decide) (by decide)
  have a8 := h.1 8 (by decide) (by decide)
  simp only [Nat.reduceAdd] at a1 a2 a3 a4 a5 a6 a7 a8
  unfold hsum at h12
  unfold nsum
  omega
/-- now[g] takes a lesser number -/
theorem nw_set {o : Nat} {I I1 : IMem} {g : Nat} {v : Int} (h : NQ o I) (hg : 1 ≤ g ∧ g ≤ 8) (hv : 0 ≤ v ∧ v ≤ I (o + 1) (60 + g)) (e19 : ∀ k, I1 (o + 19) k = if k = g then v else I (o + 19) k) (h1 : ∀ j, I1 (o + 1) j = I (o + 1) j) (h20 : ∀ j, I1 (o + 20) j = I (o + 20) j) : NQ o I1 ∧ nsum I1 o = nsum I o - I (o + 19) g + v := by
  have e1 : I1 (o + 1) = I (o + 1) := funext h1
  have e20 : I1 (o + 20) = I (o + 20) := funext h20
  refine ⟨⟨fun k a b => ?_, by rw [e1, e20]; exact h.2⟩, ?_⟩
  · have hk := h.1 k a b
    rw [e19, e1, e20]
    split
    · rename_i q; subst q; exact ⟨hv.1, hv.2, hk.2.2.1, hk.2.2.2⟩
    · exact hk
  · have hc : g = 1 ∨ g = 2 ∨ g = 3 ∨ g = 4 ∨ g = 5 ∨ g = 6 ∨ g = 7 ∨ g = 8 := by omega
    unfold nsum
    rcases hc with q | q | q | q | q | q | q | q <;> subst q <;> simp [e19] <;> omega
theorem nw_back {o : Nat} {I I7 I9 I12 : IMem} {g : Nat} (e7 : ∀ p i, I7 p i = if p = o + 19 ∧ i = g then wr32 (I (o + 19) g - 1) else I p i) (h9 : ∀ q j, q ≠ o + 18 → I9 q j = I7 q j) (e12 : ∀ p i, I12 p i = if p = o + 19 ∧ i = g then wr32 (I9 (o + 19) g + 1) else I9 p i) (hb : 0 ≤ I (o + 19) g ∧ I (o + 19) g ≤ 12) : ∀ q j, q ≠ o + 18 → I12 q j = I q j := by
  intro q j hq
  rw [e12]
  by_cases c : q = o + 19 ∧ j = g
  · rw [if_pos c, h9 _ _ (by omega), e7, if_pos ⟨rfl, rfl⟩, c.1, c.2, wr32_i2 (x := I (o + 19) g - 1) (by omega) (by omega), wr32_i2 (by omega) (by omega)]
    omega
  · rw [if_neg c, h9 _ _ hq, e7, if_neg c]
theorem pw_12 (h : Int) (hh : 0 ≤ h ∧ h ≤ 12) : h + 1 ≤ 2 ^ h.toNat := by
  have : ∀ n : Nat, n ≤ 12 → (n : Int) + 1 ≤ 2 ^ n := by decide
  have e := this h.toNat (by omega)
  omega
