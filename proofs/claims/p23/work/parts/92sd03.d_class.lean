/-! FEWEST in the class -/
section
variable {fu : Nat} {Q : Int → IMem → Prop}
theorem par_zle {v : Int} {k : Int → Res} (h : ∀ x, Wq x v → par (k x) Q) : par (zl v k) Q := h v rfl
theorem nr_ge {r f : Nat → Int} (hr : ∀ k, 1 ≤ k → k ≤ 8 → 1 ≤ r k) (hf : ∀ k, 1 ≤ k → k ≤ 8 → 0 ≤ f k) : ∀ n, n ≤ 8 → 0 ≤ nr r f n ∧ ∀ k, 1 ≤ k → k ≤ n → f k ≤ nr r f n := by
  intro n
  induction n with
  | zero => intro _; exact ⟨Int.le_refl _, fun k a b => by omega⟩
  | succ n ih =>
    intro hn
    obtain ⟨a, b⟩ := ih (by omega)
    have f1 := hf (n + 1) (by omega) hn
    have m0 := Int.mul_le_mul_of_nonneg_right (hr (n + 1) (by omega) hn) f1
    rw [Int.one_mul] at m0
    rw [nr_s]
    refine ⟨by omega, fun k k1 k2 => ?_⟩
    by_cases z : k = n + 1
    · rw [z]; omega
    · have := b k k1 (by omega)
      omega
theorem nr_up8 {r f : Nat → Int} (hr : ∀ k, 1 ≤ k → k ≤ 8 → 1 ≤ r k ∧ r k ≤ 1296) (hf : ∀ k, 1 ≤ k → k ≤ 8 → 0 ≤ f k ∧ f k ≤ 8) : ∀ n : Nat, n ≤ 8 → 0 ≤ nr r f n ∧ nr r f n ≤ 10368 * (n : Int) := by
  intro n
  induction n with
  | zero => intro _; exact ⟨Int.le_refl _, Int.le_refl _⟩
  | succ n ih =>
    intro hn
    obtain ⟨a, b⟩ := ih (by omega)
    obtain ⟨f1, f2⟩ := hf (n + 1) (by omega) hn
    obtain ⟨r1, r2⟩ := hr (n + 1) (by omega) hn
    have m0 : 0 ≤ r (n + 1) * f (n + 1) := Int.mul_nonneg (by omega) f1
    have m1 : r (n + 1) * f (n + 1) ≤ 1296 * f (n + 1) := Int.mul_le_mul_of_nonneg_right r2 f1
    rw [nr_s]
    exact ⟨by omega, by omega⟩
/-- the packer's table, and no chair for nobody -/
def fwK (I : IMem) : Prop := (∀ r k : Nat, r < 67 → k < 9 → I 161 (9 * r + k) = fwY r k) ∧ (∀ r, r < 67 → I 162 r = fwG r) ∧ I 160 2 = 67 ∧ I 164 0 = 0
theorem fwK_mv {I I2 : IMem} (h : fwK I) (h1 : ∀ j, I2 161 j = I 161 j) (h2 : ∀ j, I2 162 j = I 162 j) (h3 : I2 160 2 = I 160 2) (h4 : I2 164 0 = I 164 0) : fwK I2 := ⟨fun r k a b => (h1 _).trans (h.1 r k a b), fun r a => (h2 r).trans (h.2.1 r a), h3.trans h.2.2.1, h4.trans h.2.2.2⟩
theorem fp_can17 {r : Nat} {I : IMem} (hr : r < 67) (hK : fwK I) : ∀ (m w : Nat), 1 ≤ w → w ≤ 9 → (∀ k, 1 ≤ k → k < w → fwY r k ≤ I 165 k) → par (f_P_canGo_17 fu 160 (r : Int) m (w : Int) I) (fun y I2 => I2 = I ∧ (y = 0 ↔ ¬ ∀ k, 1 ≤ k → k ≤ 8 → fwY r k ≤ I 165 k)) := by
  intro m
  induction m with
  | zero => intro _ _ _ _; exact par_none
  | succ m ih =>
    intro w h1 h9 hw
    show par (fb_P_canGo_17 fu 160 (r : Int) (f_P_canGo_17 fu 160 (r : Int) m) (w : Int) I) _
    unfold fb_P_canGo_17
    by_cases h : w ≤ 8
    · rw [if_neg (show ¬ 8 < (w : Int) by omega)]
      have e1 : Wq (wr32 (wr32 ((r : Int) * 9) + (w : Int))) (((9 * r + w : Nat) : Int)) := by
        show wr32 (wr32 ((r : Int) * 9) + (w : Int)) = ((9 * r + w : Nat) : Int)
        rw [wr32_i2 (x := (r : Int) * 9) (by omega) (by omega), wr32_i2 (by omega) (by omega)]; omega
      have e2 : Wq (wr32 ((w : Int) + 1)) (((w + 1 : Nat) : Int)) := by show wr32 ((w : Int) + 1) = ((w + 1 : Nat) : Int); rw [wr32_i2 (by omega) (by omega)]; rfl
      simp only [zl_e]
      rw [e1.e, e2.e]
      refine par_zg (fun _ => par_zg (fun _ => ?_))
      have ey : I (160 + 1) ((9 * r + w : Nat) : Int).toNat = fwY r w := hK.1 r w hr (by omega)
      have ec : I (160 + 5) ((w : Nat) : Int).toNat = I 165 w := rfl
      rw [ey, ec]
      refine par_ite (fun q => par_zr ⟨rfl, ⟨fun _ z => ?_, fun _ => rfl⟩⟩) (fun q => ih (w + 1) (by omega) (by omega) (fun k k1 k2 => ?_))
      · have := z w h1 h
        omega
      · by_cases y : k = w
        · rw [y]; omega
        · exact hw k k1 (by omega)
    · rw [if_pos (show 8 < (w : Int) by omega)]
      exact par_zr ⟨rfl, ⟨fun z => absurd z (by decide), fun z => absurd (fun k k1 k2 => hw k k1 (by omega)) z⟩⟩
theorem fp_can {r : Nat} {S : Int} {I : IMem} (hr : r < 67) (hK : fwK I) (hg : fwG r = ((fwQ (I 165) 8 : Nat) : Int)) : par (f_P_canGo fu 160 (r : Int) S I) (fun y I2 => I2 = I ∧ (y = 0 ↔ ¬ fwP S (I 165) r = true)) := by
  unfold f_P_canGo
  have e1 : Wq (wr32 ((r : Int) * 9)) (((9 * r : Nat) : Int)) := by
    show wr32 ((r : Int) * 9) = ((9 * r : Nat) : Int)
    rw [wr32_i2 (by omega) (by omega)]; omega
  simp only [zl_e]
  rw [e1.e]
  refine par_zg (fun _ => ?_)
  have ey : I (160 + 1) ((9 * r : Nat) : Int).toNat = fwY r 0 := hK.1 r 0 hr (by decide)
  rw [ey]
  refine par_ite (fun q => par_zr ⟨rfl, ⟨fun _ z => ?_, fun _ => rfl⟩⟩) (fun q => par_mono (fp_can17 hr hK fu 1 (Nat.le_refl _) (by decide) (fun k a b => by omega)) (fun y I2 ⟨a, b⟩ => ⟨a, ?_⟩))
  · have := (fwP_iff.mp z).2.1
    omega
  · rw [b, fwP_iff]
    exact ⟨fun z y2 => z y2.2.2, fun z y2 => z ⟨hg, by omega, y2⟩⟩
theorem fp_way3 (kk : Int → IMem → Res) (p1 p2 : Int) {I : IMem} (hn : ∀ k, 1 ≤ k → k ≤ 8 → 0 ≤ I 165 k) (hk : par (kk ((fwQ (I 165) 8 : Nat) : Int) I) Q) : ∀ (m w : Nat), w ≤ 8 → (∀ k, w < k → k ≤ 8 → ¬ 0 < I 165 k) → par (f_P_firstWay_3 fu kk 160 p1 p2 m (w : Int) I) Q := by
  intro m
  induction m with
  | zero => intro _ _ _; exact par_none
  | succ m ih =>
    intro w h8 hw
    show par (fb_P_firstWay_3 fu kk 160 p1 p2 (f_P_firstWay_3 fu kk 160 p1 p2 m) (w : Int) I) Q
    unfold fb_P_firstWay_3
    by_cases h : w = 0
    · subst h
      rw [if_neg (show ¬ 0 < ((0 : Nat) : Int) by omega)]
      have e : fwQ (I 165) 8 = 0 := fwQ_of (by decide) (fun z => absurd rfl z) hw
      rw [e] at hk
      exact hk
    · rw [if_pos (show 0 < (w : Int) by omega)]
      refine par_zg (fun _ => ?_)
      have ec : I (160 + 5) ((w : Nat) : Int).toNat = I 165 w := rfl
      rw [ec]
      refine par_ite (fun q => ?_) (fun q => ?_)
      · have e2 : Wq (wr32 ((w : Int) + (-1))) (((w - 1 : Nat) : Int)) := by show wr32 ((w : Int) + (-1)) = ((w - 1 : Nat) : Int); rw [wr32_i2 (by omega) (by omega)]; omega
        simp only [zl_e]
        rw [e2.e]
        refine ih (w - 1) (by omega) (fun k k1 k2 => ?_)
        by_cases y : k = w
        · rw [y, q]; decide
        · exact hw k (by omega) k2
      · have a := hn w (by omega) h8
        have e : fwQ (I 165) 8 = w := fwQ_of h8 (fun _ => by omega) hw
        rw [e] at hk
        exact hk
/-- the first of the best ways so far -/
def fwC (S : Int) (c : Nat → Int) (n : Nat) (w4 w5 : Int) : Prop := (w4 = -1 ∧ ∀ s, s < n → ¬ fwP S c s = true) ∨ ∃ r, r < n ∧ w4 = ((r : Nat) : Int) ∧ fwP S c r = true ∧ w5 = fwV S (fun k => c k - fwY r k) ∧ ∀ s, s < n → fwP S c s = true → fwV S (fun k => c k - fwY r k) ≤ fwV S (fun k => c k - fwY s k) ∧ (s < r → fwV S (fun k => c k - fwY r k) < fwV S (fun k => c k - fwY s k))
/-- the numbers of the ways, the chairs of the heaps before -/
def fwW (h : Nat → Int) (S : Int) (I : IMem) : Prop := fwH h ∧ fwT h 8 ≤ 12 ∧ fwK I ∧ (∀ r, r < 67 → I 163 r = nr (fwR h) (fwY r) 8) ∧ fwB h (I 165)
def fwE (h : Nat → Int) (S : Int) (n : Int) (I : IMem) : Prop := ∀ d, fwB h d → nr (fwR h) d 8 < n → I 164 (nr (fwR h) d 8).toNat = fwV S d
theorem fw_go {h : Nat → Int} {S : Int} {c : Nat → Int} {r : Nat} (hh : fwH h) (ht : fwT h 8 ≤ 12) (hc : fwB h c) (hg : fwQ c 8 ≠ 0) (hr : r < 67) (hp : fwP S c r = true) : fwB h (fun k => c k - fwY r k) ∧ nr (fwR h) (fun k => c k - fwY r k) 8 = nr (fwR h) c 8 - nr (fwR h) (fwY r) 8 ∧ 0 ≤ nr (fwR h) (fun k => c k - fwY r k) 8 ∧ nr (fwR h) (fun k => c k - fwY r k) 8 < nr (fwR h) c 8 ∧ nr (fwR h) c 8 < 1296 := by
  obtain ⟨p1, p2, p3⟩ := fwP_iff.mp hp
  obtain ⟨q1, q2, q3, q4⟩ := fw_row r hr
  have e : fwQ (fwY r) 8 = fwQ c 8 := by rw [q4] at p1; omega
  have a := (fwQ_spec (fwY r) 8).2.1 (by omega)
  have b := (fwQ_spec (fwY r) 8).1
  have b1 : fwB h (fun k => c k - fwY r k) := fun k k1 k2 => by
    have x := hc k k1 k2
    have y := q1 k (by omega)
    have z := p3 k k1 k2
    show 0 ≤ c k - fwY r k ∧ c k - fwY r k ≤ h k
    omega
  have b2 := nr_sub (fwR h) c (fwY r) 8
  have b3 := nr_rng hh b1 8 (Nat.le_refl _)
  have b4 := nr_rng hh hc 8 (Nat.le_refl _)
  have b5 := fwR_1296 hh ht
  have b6 := (nr_ge (r := fwR h) (f := fwY r) (fun k k1 k2 => (fwR_le hh ht k1 (by omega)).1) (fun k _ k2 => q1 k (by omega)) 8 (Nat.le_refl _)).2 (fwQ (fwY r) 8) (by omega) b
  have b5' : fwR h (8 + 1) ≤ 1296 := b5
  refine ⟨b1, b2, b3.1, by omega, by omega⟩
theorem fp_way31 {h : Nat → Int} {S : Int} {I : IMem} (hW : fwW h S I) (hE : fwE h S (nr (fwR h) (I 165) 8) I) (hg : fwQ (I 165) 8 ≠ 0) : ∀ (m i : Nat) (w4 w5 : Int), i ≤ 67 → fwC S (I 165) i w4 w5 → par (f_P_firstWay_31 fu 160 (nr (fwR h) (I 165) 8) S ((fwQ (I 165) 8 : Nat) : Int) m w4 w5 (i : Int) I) (fun y I2 => I2 = I ∧ ∃ x, fwC S (I 165) 67 y x) := by
  obtain ⟨hh, ht, hK, hN, hB⟩ := hW
  intro m
  induction m with
  | zero => intro _ _ _ _ _; exact par_none
  | succ m ih =>
    intro i w4 w5 hi hC
    show par (fb_P_firstWay_31 fu 160 (nr (fwR h) (I 165) 8) S ((fwQ (I 165) 8 : Nat) : Int) (f_P_firstWay_31 fu 160 (nr (fwR h) (I 165) 8) S ((fwQ (I 165) 8 : Nat) : Int) m) w4 w5 (i : Int) I) _
    unfold fb_P_firstWay_31
    rw [hK.2.2.1]
    by_cases hin : i < 67
    · rw [if_pos (show (i : Int) < 67 by omega), if_pos (show (i : Int) < 67 by omega)]
      refine par_zg (fun _ => par_zle (fun x4 hx4 => par_zg (fun _ => par_zj (fun k5 e5 => ?_))))
      have e2 : Wq (wr32 ((i : Int) + 1)) (((i + 1 : Nat) : Int)) := by show wr32 ((i : Int) + 1) = ((i + 1 : Nat) : Int); rw [wr32_i2 (by omega) (by omega)]; rfl
      have hk5 : ∀ a b, fwC S (I 165) (i + 1) a b → par (k5 a b I) (fun y I2 => I2 = I ∧ ∃ x, fwC S (I 165) 67 y x) := fun a b hab => by
        subst e5
        show par (zl (wr32 ((i : Int) + 1)) fun x9 => f_P_firstWay_31 fu 160 (nr (fwR h) (I 165) 8) S ((fwQ (I 165) 8 : Nat) : Int) m a b x9 I) _
        simp only [zl_e]
        rw [e2.e]
        exact ih (i + 1) a b hin hab
      have skip : ¬ fwP S (I 165) i = true → par (k5 w4 w5 I) (fun y I2 => I2 = I ∧ ∃ x, fwC S (I 165) 67 y x) := fun hp => by
        refine hk5 _ _ ?_
        rcases hC with ⟨c1, c2⟩ | ⟨r, r1, r2, r3, r4, r5⟩
        · exact Or.inl ⟨c1, fun s hs => by
            by_cases y : s = i
            · rw [y]; exact hp
            · exact c2 s (by omega)⟩
        · exact Or.inr ⟨r, by omega, r2, r3, r4, fun s hs hs2 => by
            by_cases y : s = i
            · rw [y] at hs2; exact absurd hs2 hp
            · exact r5 s (by omega) hs2⟩
      have eg : I (160 + 2) ((i : Nat) : Int).toNat = fwG i := hK.2.1 i hin
      rw [eg]
      refine par_ite (fun q => ?_) (fun q => skip (fun z => q (fwP_iff.mp z).1))
      refine par_zb (fp_can hin hK q) (fun y I2 ⟨ei, ey⟩ => ?_)
      subst ei
      refine par_ite (fun z => skip (ey.mp z)) (fun z => ?_)
      have hp : fwP S (I2 165) i = true := by
        cases hb : fwP S (I2 165) i with
        | true => rfl
        | false => exact absurd (ey.mpr (by rw [hb]; decide)) z
      obtain ⟨g1, g2, g3, g4, g5⟩ := fw_go hh ht hB hg hin hp
      have en : I2 (160 + 3) ((i : Nat) : Int).toNat = nr (fwR h) (fwY i) 8 := hN i hin
      have hx : x4 = nr (fwR h) (fun k => I2 165 k - fwY i k) 8 := by
        have := hx4.e
        rw [this, en, wr32_i2 (by omega) (by omega), g2]
      clear hx4
      subst hx
      have ev : I2 (160 + 4) (nr (fwR h) (fun k => I2 165 k - fwY i k) 8).toNat = fwV S (fun k => I2 165 k - fwY i k) := hE _ g1 g4
      refine par_ite (fun z2 => absurd z2 (by omega)) (fun _ => par_ite (fun _ => ?_) (fun z2 => absurd (by omega) z2))
      refine par_zj (fun k13 e13 => ?_)
      have take : fwC S (I2 165) (i + 1) (i : Int) (fwV S (fun k => I2 165 k - fwY i k)) → par (k13 I2) (fun y I3 => I3 = I2 ∧ ∃ x, fwC S (I2 165) 67 y x) := fun hc => by
        subst e13
        refine par_zg (fun _ => ?_)
        show par (k5 (i : Int) (I2 (160 + 4) (nr (fwR h) (fun k => I2 165 k - fwY i k) 8).toNat) I2) _
        rw [ev]
        exact hk5 _ _ hc
      refine par_ite (fun z2 => take ?_) (fun z2 => par_zg (fun _ => ?_))
      · rcases hC with ⟨c1, c2⟩ | ⟨r, r1, r2, r3, r4, r5⟩
        · refine Or.inr ⟨i, Nat.lt_succ_self _, rfl, hp, rfl, fun s hs hs2 => ?_⟩
          by_cases y : s = i
          · rw [y]; exact ⟨Int.le_refl _, fun z3 => absurd z3 (Nat.lt_irrefl _)⟩
          · exact absurd hs2 (c2 s (by omega))
        · omega
      · rw [ev]
        rcases hC with ⟨c1, c2⟩ | ⟨r, r1, r2, r3, r4, r5⟩
        · exact absurd c1 z2
        refine par_ite (fun z3 => take ?_) (fun z3 => hk5 _ _ ?_)
        · refine Or.inr ⟨i, Nat.lt_succ_self _, rfl, hp, rfl, fun s hs hs2 => ?_⟩
          by_cases y : s = i
          · rw [y]; exact ⟨Int.le_refl _, fun z3 => absurd z3 (Nat.lt_irrefl _)⟩
          · have := (r5 s (by omega) hs2).1
            rw [r4] at z3
            exact ⟨by omega, fun _ => by omega⟩
        · refine Or.inr ⟨r, by omega, r2, r3, r4, fun s hs hs2 => ?_⟩
          by_cases y : s = i
          · rw [y]
            rw [r4] at z3
            exact ⟨by omega, fun z4 => by omega⟩
          · exact r5 s (by omega) hs2
    · have e67 : i = 67 := by omega
      subst e67
      rw [if_neg (show ¬ ((67 : Nat) : Int) < 67 by omega)]
      exact par_zr ⟨rfl, w5, hC⟩
theorem fp_way {h : Nat → Int} {S : Int} {I : IMem} (hW : fwW h S I) (hE : fwE h S (nr (fwR h) (I 165) 8) I) (hg : fwQ (I 165) 8 ≠ 0) : par (f_P_firstWay fu 160 (nr (fwR h) (I 165) 8) S I) (fun y I2 => I2 = I ∧ ∃ x, fwC S (I 165) 67 y x) := by
  unfold f_P_firstWay
  refine fp_way3 _ _ _ (fun k k1 k2 => (hW.2.2.2.2 k k1 k2).1) ?_ fu 8 (Nat.le_refl _) (fun k k1 k2 => by omega)
  exact fp_way31 hW hE hg fu 0 (-1) 0 (by decide) (Or.inl ⟨rfl, fun s hs => absurd hs (Nat.not_lt_zero _)⟩)
/-- FIRST, as the class has it -/
def fwI (S : Int) (c : Nat → Int) (y : Int) : Prop := (fwQ c 8 = 0 ∧ y = -1) ∨ (fwQ c 8 ≠ 0 ∧ ∃ r, r < 67 ∧ y = ((r : Nat) : Int) ∧ fwP S c r = true ∧ fwV S (fun k => c k - fwY r k) = fwV S c - 1 ∧ ∀ s, s < r → fwP S c s = true → fwV S c - 1 < fwV S (fun k => c k - fwY s k))
theorem fwI_ext {S : Int} {c d : Nat → Int} {y : Int} (h : ∀ k, 1 ≤ k → k ≤ 8 → c k = d k) (hi : fwI S c y) : fwI S d y := by
  have eq := fwQ_ext 8 h
  have ev : ∀ s, fwV S (fun k => d k - fwY s k) = fwV S (fun k => c k - fwY s k) := fun s => fwV_ext S (fun k a b => by rw [h k a b])
  rcases hi with ⟨a, b⟩ | ⟨a, r, r1, r2, r3, r4, r5⟩
  · exact Or.inl ⟨by rw [← eq]; exact a, b⟩
  · refine Or.inr ⟨by rw [← eq]; exact a, r, r1, r2, (fwP_ext h r) ▸ r3, by rw [ev, ← fwV_ext S h]; exact r4, fun s hs hs2 => ?_⟩
    rw [ev, ← fwV_ext S h]
    exact r5 s hs ((fwP_ext h s).trans hs2)
theorem fw_some {h : Nat → Int} {S : Int} {c : Nat → Int} (hS : S ≤ 8) (hc : fwB h c) (ht : fwT h 8 ≤ 12) (hg : fwQ c 8 ≠ 0) {y x : Int} (hC : fwC S c 67 y x) : (y = -1 ∧ ¬ fwO h S) ∨ fwI S c y := by
  obtain ⟨a1, a2, a3⟩ := fwQ_spec c 8
  have tc : fwT c 8 ≤ 12 := Int.le_trans (fwT_le 8 (fun k k1 k2 => (hc k k1 k2).2)) ht
  rcases hC with ⟨c1, c2⟩ | ⟨r, r1, r2, r3, r4, r5⟩
  · refine Or.inl ⟨c1, fun ho => ?_⟩
    have gs := fw_gS ho hc hg
    obtain ⟨s, hs, hp, _⟩ := fw_fill (f := fun _ => 0) hS hg ⟨fun k k1 k2 => ⟨Int.le_refl _, by
      have := (fwB_1 hc (a2 hg) k k1 k2).1
      exact this⟩, fun k _ _ => rfl, by
      have e : fwS (fun _ => 0) 8 = 0 := rfl
      rw [e]; omega⟩
    exact c2 s hs hp
  · refine Or.inr (Or.inr ⟨hg, r, r1, r2, r3, ?_⟩)
    obtain ⟨m, em, ⟨s, hs, hp, es⟩, hm⟩ := fwV_eq (fun k k1 k2 => (hc k k1 k2).1) tc hg r1 r3
    have x1 := hm r r1 r3
    have x2 := (r5 s hs hp).1
    have em2 : fwV S (fun k => c k - fwY r k) = fwV S c - 1 := by rw [es] at x2; omega
    refine ⟨em2, fun s2 h1 h2 => ?_⟩
    rw [← em2]
    exact (r5 s2 (by omega) h2).2 h1
/-- the counts of the heap with the next number -/
theorem fp_goOn {h : Nat → Int} {I0 : IMem} (hh : fwH h) (ht : fwT h 8 ≤ 12) (hH : ∀ k, 1 ≤ k → k ≤ 8 → I0 6 k = h k) (hB : fwB h (I0 165)) (hl : nr (fwR h) (I0 165) 8 + 1 < fwR h 9) : ∀ (m w : Nat) (I : IMem), 1 ≤ w → w ≤ 9 → (∀ k, 1 ≤ k → k < w → I0 165 k = h k ∧ I 165 k = 0) → (∀ k, w ≤ k → I 165 k = I0 165 k) → (∀ q j, q ≠ 165 → I q j = I0 q j) → par (f_P_goOn_2 fu (fun (x4 : Int) (I3 : IMem) => zg (0 ≤ x4 ∧ x4 < 9) (zg (0 ≤ x4 ∧ x4 < 9) (zw I3 (160 + 5) x4.toNat (wr32 ((I3 (160 + 5) x4.toNat) + 1)) fun I5 => zr 0 I5))) 160 6 9 m (w : Int) I) (fun _ I2 => fwB h (I2 165) ∧ nr (fwR h) (I2 165) 8 = nr (fwR h) (I0 165) 8 + 1 ∧ ∀ q j, q ≠ 165 → I2 q j = I0 q j) := by
  intro m
  induction m with
  | zero => intro _ _ _ _ _ _ _; exact par_none
  | succ m ih =>
    intro w I h1 h9 hm ha hf
    show par (fb_P_goOn_2 fu _ 160 6 9 (f_P_goOn_2 fu _ 160 6 9 m) (w : Int) I) _
    unfold fb_P_goOn_2
    by_cases h8 : w ≤ 8
    · rw [if_neg (show ¬ 8 < (w : Int) by omega), if_pos (show (w : Int) < ((9 : Nat) : Int) by omega)]
      refine par_zg (fun _ => par_zg (fun _ => ?_))
      have ec : I (160 + 5) ((w : Nat) : Int).toNat = I0 165 w := ha w (Nat.le_refl _)
      have eh : I 6 ((w : Nat) : Int).toNat = h w := (hf 6 w (by decide)).trans (hH w h1 h8)
      obtain ⟨b1, b2⟩ := hB w h1 h8
      rw [eh, ec]
      refine par_ite (fun q => ?_) (fun q => ?_)
      · refine par_zg (fun _ => par_zg (fun _ => par_zw' (fun I5 e5 => par_zr ?_)))
        have hb9 : h w ≤ fwT h 8 := (fwT_ge (f := h) 8 hh).2 w h1 h8
        have e5' : ∀ k, I5 165 k = if k = w then wr32 (I0 165 w + 1) else I 165 k := fun k => by
          have a := e5 165 k
          by_cases y : k = w
          · rw [if_pos y]
            refine a.trans ((if_pos ⟨rfl, y⟩).trans ?_)
            first
              | rfl
              | exact congrArg (fun t => wr32 (t + 1)) ec
          · rw [if_neg y]
            exact a.trans (if_neg (fun z => y z.2))
        have ew : wr32 (I0 165 w + 1) = I0 165 w + 1 := wr32_i2 (by omega) (by omega)
        have en := nr_next (h := h) (c := I0 165) (d := I5 165) (w := w) h1 (fun k k1 k2 => ⟨(hm k k1 k2).1, by rw [e5', if_neg (by omega)]; exact (hm k k1 k2).2⟩) (by rw [e5', if_pos rfl, ew]) (fun k k1 k2 => by rw [e5', if_neg (by omega)]; exact ha k (by omega)) (8 - w) (by omega)
        rw [show w + (8 - w) = 8 by omega] at en
        refine ⟨fun k k1 k2 => ?_, en, fun q j hq => by rw [e5, if_neg (fun z => hq z.1)]; exact hf q j hq⟩
        rw [e5']
        split
        · rename_i y
          rw [ew, y]; omega
        · rename_i y
          by_cases z : k < w
          · rw [(hm k k1 z).2]
            exact ⟨Int.le_refl _, hh k k1 k2⟩
          · rw [ha k (by omega)]
            exact hB k k1 k2
      · have e2 : Wq (wr32 ((w : Int) + 1)) (((w + 1 : Nat) : Int)) := by show wr32 ((w : Int) + 1) = ((w + 1 : Nat) : Int); rw [wr32_i2 (by omega) (by omega)]; rfl
        refine par_zg (fun _ => par_zw' (fun I1 e1 => ?_))
        simp only [zl_e]
        rw [e2.e]
        refine ih (w + 1) I1 (by omega) (by omega) (fun k k1 k2 => ?_) (fun k k1 => ?_) (fun q j hq => ?_)
        · by_cases y : k = w
          · rw [y]
            exact ⟨by omega, by rw [e1]; exact if_pos ⟨rfl, rfl⟩⟩
          · refine ⟨(hm k k1 (by omega)).1, ?_⟩
            rw [e1, if_neg (fun z => y z.2)]
            exact (hm k k1 (by omega)).2
        · rw [e1, if_neg (fun z => absurd (show k = w from z.2) (by omega))]
          exact ha k (by omega)
        · rw [e1, if_neg (fun z => hq z.1)]
          exact hf q j hq
    · exfalso
      have e : nr (fwR h) (I0 165) 8 = nr (fwR h) h 8 := nr_ext 8 (fun k k1 k2 => ⟨rfl, (hm k k1 (by omega)).1⟩)
      rw [nr_top] at e
      have e9 : fwR h (8 + 1) = fwR h 9 := rfl
      omega
theorem fp_goOn0 {h : Nat → Int} {I0 : IMem} (hh : fwH h) (ht : fwT h 8 ≤ 12) (hH : ∀ k, 1 ≤ k → k ≤ 8 → I0 6 k = h k) (hB : fwB h (I0 165)) (hl : nr (fwR h) (I0 165) 8 + 1 < fwR h 9) : par (f_P_goOn fu 160 6 9 I0) (fun _ I2 => fwB h (I2 165) ∧ nr (fwR h) (I2 165) 8 = nr (fwR h) (I0 165) 8 + 1 ∧ ∀ q j, q ≠ 165 → I2 q j = I0 q j) := by
  unfold f_P_goOn
  exact fp_goOn hh ht hH hB hl fu 1 I0 (Nat.le_refl _) (by decide) (fun k a b => by omega) (fun _ _ => rfl) (fun _ _ _ => rfl)
/-- ways have numbers -/
theorem fp_fill5 (o n : Nat) (hn : n ≤ 100) : ∀ (m i : Nat) (I : IMem), i ≤ n → (∀ j, j < i → I o j = 0) → par (f_JA_fill_5 fu o n 0 (n : Int) m (i : Int) I) (fun _ I2 => (∀ j, j < n → I2 o j = 0) ∧ ∀ q j, q ≠ o → I2 q j = I q j) := by
  intro m
  induction m with
  | zero => intro _ _ _ _; exact par_none
  | succ m ih =>
    intro i I hi hz
    show par (fb_JA_fill_5 fu o n 0 (n : Int) (f_JA_fill_5 fu o n 0 (n : Int) m) (i : Int) I) _
    unfold fb_JA_fill_5
    by_cases h : i < n
    · rw [if_pos (show (i : Int) < (n : Int) by omega)]
      refine par_zg (fun _ => par_zw' (fun I1 e1 => ?_))
      rw [tn] at e1
      simp only [zl_e]
      have wn : Wq (wr32 ((i : Int) + 1)) (((i + 1 : Nat) : Int)) := by show wr32 ((i : Int) + 1) = ((i + 1 : Nat) : Int); rw [wr32_i2 (by omega) (by omega)]; rfl
      rw [wn.e]
      refine par_mono (ih (i + 1) I1 h (fun j hj => ?_)) (fun _ I2 ⟨g1, g2⟩ => ⟨g1, fun q j hq => ?_⟩)
      · rw [e1]
        by_cases z : j = i
        · rw [if_pos ⟨rfl, z⟩]
        · rw [if_neg (fun y => z y.2)]; exact hz j (by omega)
      · rw [g2 q j hq, e1, if_neg (fun y => hq y.1)]
    · rw [if_neg (show ¬ (i : Int) < (n : Int) by omega)]
      exact par_zr ⟨fun j hj => hz j (by omega), fun _ _ _ => rfl⟩
theorem fp_fill (o n : Nat) (hn : n ≤ 100) (I : IMem) : par (f_JA_fill fu o n 0 I) (fun _ I2 => (∀ j, j < n → I2 o j = 0) ∧ ∀ q j, q ≠ o → I2 q j = I q j) := by
  unfold f_JA_fill
  exact fp_fill5 o n hn fu 0 I (Nat.zero_le _) (fun j hj => absurd hj (Nat.not_lt_zero _))
theorem fp_num27 {h : Nat → Int} (hh : fwH h) (ht : fwT h 8 ≤ 12) {v : Nat} (hv : v + 1 ≤ 8) (kk : IMem → Res) (I0 : IMem) (hK : fwK I0) (hk : ∀ I : IMem, (∀ r, r < 67 → I 163 r = nr (fwR h) (fwY r) (v + 1)) → (∀ q j, q ≠ 163 → I q j = I0 q j) → par (kk I) Q) : ∀ (m i : Nat) (I : IMem), i ≤ 67 → (∀ r, r < 67 → I 163 r = if r < i then nr (fwR h) (fwY r) (v + 1) else nr (fwR h) (fwY r) v) → (∀ q j, q ≠ 163 → I q j = I0 q j) → par (f_P_numberAll_27 fu kk 160 6 9 (fwR h (v + 1)) ((v + 1 : Nat) : Int) m (i : Int) I) Q := by
  intro m
  induction m with
  | zero => intro _ _ _ _ _; exact par_none
  | succ m ih =>
    intro i I hi hN hf
    show par (fb_P_numberAll_27 fu kk 160 6 9 (fwR h (v + 1)) ((v + 1 : Nat) : Int) (f_P_numberAll_27 fu kk 160 6 9 (fwR h (v + 1)) ((v + 1 : Nat) : Int) m) (i : Int) I) Q
    unfold fb_P_numberAll_27
    by_cases h67 : i < 67
    · rw [if_pos (show (i : Int) < 67 by omega)]
      have e1 : Wq (wr32 (wr32 ((i : Int) * 9) + ((v + 1 : Nat) : Int))) (((9 * i + (v + 1) : Nat) : Int)) := by
        show wr32 (wr32 ((i : Int) * 9) + ((v + 1 : Nat) : Int)) = ((9 * i + (v + 1) : Nat) : Int)
        rw [wr32_i2 (x := (i : Int) * 9) (by omega) (by omega), wr32_i2 (by omega) (by omega)]; omega
      have e2 : Wq (wr32 ((i : Int) + 1)) (((i + 1 : Nat) : Int)) := by show wr32 ((i : Int) + 1) = ((i + 1 : Nat) : Int); rw [wr32_i2 (by omega) (by omega)]; rfl
      simp only [zl_e]
      rw [e1.e, e2.e]
      have ey : I (160 + 1) ((9 * i + (v + 1) : Nat) : Int).toNat = fwY i (v + 1) := (hf 161 _ (by decide)).trans (hK.1 i (v + 1) h67 (by omega))
      have en : I (160 + 3) ((i : Nat) : Int).toNat = nr (fwR h) (fwY i) v := by
        have := hN i h67
        rw [if_neg (Nat.lt_irrefl _)] at this
        exact this
      refine par_zg (fun _ => par_zg (fun _ => par_zg (fun _ => par_zw' (fun I1 ew => ?_))))
      rw [ey, en] at ew
      have hr := fun k (k1 : 1 ≤ k) (k2 : k ≤ 8) => fwR_le hh ht (k := k) k1 (by omega)
      have hy := fun k (_ : 1 ≤ k) (k2 : k ≤ 8) => And.intro ((fw_row i h67).1 k (by omega)) (fw_row8 i h67 k (by omega))
      obtain ⟨n1, n2⟩ := nr_up8 hr hy v (by omega)
      obtain ⟨n3, n4⟩ := nr_up8 hr hy (v + 1) (by omega)
      rw [nr_s] at n3 n4
      obtain ⟨y1, y2⟩ := hy (v + 1) (by omega) hv
      obtain ⟨r1, r2⟩ := hr (v + 1) (by omega) hv
      have p0 : 0 ≤ fwR h (v + 1) * fwY i (v + 1) := Int.mul_nonneg (by omega) y1
      rw [wr32_i2 (x := fwR h (v + 1) * fwY i (v + 1)) (by omega) (by omega), wr32_i2 (by omega) (by omega)] at ew
      refine ih (i + 1) I1 h67 (fun r hr2 => ?_) (fun q j hq => ?_)
      · by_cases y : r = i
        · subst y
          rw [if_pos (Nat.lt_succ_self _), nr_s]
          exact (ew 163 r).trans (if_pos ⟨rfl, rfl⟩)
        · rw [(ew 163 r).trans (if_neg (fun z => y z.2)), hN r hr2]
          by_cases y2 : r < i
          · rw [if_pos y2, if_pos (by omega)]
          · rw [if_neg y2, if_neg (by omega)]
      · rw [(ew q j).trans (if_neg (fun z => hq z.1))]
        exact hf q j hq
    · have e67 : i = 67 := by omega
      subst e67
      rw [if_neg (show ¬ ((67 : Nat) : Int) < 67 by omega)]
      exact hk I (fun r hr => by rw [hN r hr, if_pos hr]) hf
theorem fp_num12 {h : Nat → Int} (hh : fwH h) (ht : fwT h 8 ≤ 12) (I0 : IMem) (hK : fwK I0) (hH : ∀ k, 1 ≤ k → k ≤ 8 → I0 6 k = h k) : ∀ (m v : Nat) (I : IMem), v ≤ 8 → (∀ r, r < 67 → I 163 r = nr (fwR h) (fwY r) v) → (∀ q j, q ≠ 163 → I q j = I0 q j) → par (f_P_numberAll_12 fu 160 6 9 m (fwR h (v + 1)) ((v + 1 : Nat) : Int) I) (fun y I2 => y = fwR h 9 ∧ (∀ r, r < 67 → I2 163 r = nr (fwR h) (fwY r) 8) ∧ ∀ q j, q ≠ 163 → I2 q j = I0 q j) := by
  intro m
  induction m with
  | zero => intro _ _ _ _ _; exact par_none
  | succ m ih =>
    intro v I hv hN hf
    show par (fb_P_numberAll_12 fu 160 6 9 (f_P_numberAll_12 fu 160 6 9 m) (fwR h (v + 1)) ((v + 1 : Nat) : Int) I) _
    unfold fb_P_numberAll_12
    by_cases h8 : v < 8
    · rw [if_neg (show ¬ 8 < ((v + 1 : Nat) : Int) by omega), if_pos (show ((v + 1 : Nat) : Int) < ((9 : Nat) : Int) by omega)]
      have hK1 : fwK I := fwK_mv hK (fun j => hf 161 j (by decide)) (fun j => hf 162 j (by decide)) (hf 160 2 (by decide)) (hf 164 0 (by decide))
      refine fp_num27 hh ht (v := v) (by omega) _ I hK1 (fun I7 h7 f7 => ?_) fu 0 I (by decide) (fun r hr => by rw [if_neg (Nat.not_lt_zero _)]; exact hN r hr) (fun _ _ _ => rfl)
      refine par_zg (fun _ => ?_)
      have eh : I7 6 (((v + 1 : Nat) : Int)).toNat = h (v + 1) := (f7 6 _ (by decide)).trans ((hf 6 _ (by decide)).trans (hH (v + 1) (by omega) (by omega)))
      obtain ⟨r1, r2⟩ := fwR_le hh ht (k := v + 1) (by omega) (by omega)
      obtain ⟨s1, s2⟩ := fwR_le hh ht (k := v + 1 + 1) (by omega) (by omega)
      rw [fwR_s h (n := v + 1) (by omega)] at s1 s2
      have hb := hh (v + 1) (by omega) (by omega)
      have hb9 := (fwT_ge (f := h) 8 hh).2 (v + 1) (by omega) (by omega)
      have e2 : Wq (wr32 (((v + 1 : Nat) : Int) + 1)) (((v + 1 + 1 : Nat) : Int)) := by show wr32 (((v + 1 : Nat) : Int) + 1) = ((v + 1 + 1 : Nat) : Int); rw [wr32_i2 (by omega) (by omega)]; rfl
      have e3 : Wq (wr32 (fwR h (v + 1) * wr32 (h (v + 1) + 1))) (fwR h (v + 1 + 1)) := by
        show wr32 (fwR h (v + 1) * wr32 (h (v + 1) + 1)) = fwR h (v + 1 + 1)
        rw [wr32_i2 (x := h (v + 1) + 1) (by omega) (by omega), fwR_s h (n := v + 1) (by omega), wr32_i2 (by omega) (by omega)]
      simp only [zl_e]
      rw [eh, e2.e, e3.e]
      exact ih (v + 1) I7 (by omega) h7 (fun q j hq => (f7 q j hq).trans (hf q j hq))
    · have e8 : v = 8 := by omega
      subst e8
      rw [if_pos (show 8 < ((8 + 1 : Nat) : Int) by omega)]
      exact par_zr ⟨rfl, hN, hf⟩
theorem fp_numAll {h : Nat → Int} (hh : fwH h) (ht : fwT h 8 ≤ 12) (I0 : IMem) (hK : fwK I0) (hH : ∀ k, 1 ≤ k → k ≤ 8 → I0 6 k = h k) : par (f_P_numberAll fu 160 6 9 I0) (fun y I2 => y = fwR h 9 ∧ (∀ r, r < 67 → I2 163 r = nr (fwR h) (fwY r) 8) ∧ ∀ q j, q ≠ 163 → I2 q j = I0 q j) := by
  unfold f_P_numberAll
  refine par_zb (fp_fill (160 + 3) 67 (by decide) I0) (fun _ I2 ⟨z1, z2⟩ => ?_)
  have hK2 : fwK I2 := fwK_mv hK (fun j => z2 161 j (by decide)) (fun j => z2 162 j (by decide)) (z2 160 2 (by decide)) (z2 164 0 (by decide))
  refine par_mono (fp_num12 hh ht I2 hK2 (fun k k1 k2 => (z2 6 k (by decide)).trans (hH k k1 k2)) fu 0 I2 (Nat.zero_le _) (fun r hr => z1 r hr) (fun _ _ _ => rfl)) (fun y I3 ⟨a, b, d⟩ => ⟨a, b, fun q j hq => (d q j hq).trans (z2 q j hq)⟩)
/-- the packer, heap by heap -/
def fwJ (h : Nat → Int) (S : Int) (n : Nat) (I : IMem) : Prop := fwW h S I ∧ (∀ k, 1 ≤ k → k ≤ 8 → I 6 k = h k) ∧ nr (fwR h) (I 165) 8 + 1 = (n : Int) ∧ fwE h S (n : Int) I ∧ fwI S (I 165) (I 160 6)
def fwO2 (h : Nat → Int) (S : Int) (y : Int) (I : IMem) : Prop := fwK I ∧ ((fwO h S ∧ y = fwV S h ∧ fwI S h (I 160 6)) ∨ (¬ fwO h S ∧ y = -1))
theorem fw_full {h : Nat → Int} {S : Int} {y : Int} (hI : fwI S h y) : fwO h S := by
  intro k k1 k2 k3
  obtain ⟨a1, a2, a3⟩ := fwQ_spec h 8
  rcases hI with ⟨a, _⟩ | ⟨a, r, r1, r2, r3, _⟩
  · exact absurd k3 (a3 k (by omega) k2)
  · obtain ⟨p1, p2, p3⟩ := fwP_iff.mp r3
    obtain ⟨q1, q2, q3, q4⟩ := fw_row r r1
    have e : fwQ (fwY r) 8 = fwQ h 8 := by rw [q4] at p1; omega
    have b1 := (fwQ_spec (fwY r) 8).2.1 (by omega)
    have b2 := (fwS_nn (f := fwY r) 8 (fun k _ k2 => q1 k (by omega))).2 (fwQ (fwY r) 8) (by omega) (fwQ_spec (fwY r) 8).1
    have b3 := Int.mul_le_mul_of_nonneg_left (show 1 ≤ fwY r (fwQ (fwY r) 8) by omega) (show 0 ≤ ((fwQ (fwY r) 8 : Nat) : Int) by omega)
    have kg : k ≤ fwQ h 8 := by
      rcases Nat.lt_or_ge (fwQ h 8) k with z | z
      · exact absurd k3 (a3 k z k2)
      · exact z
    omega
theorem fp_pack22 {h : Nat → Int} {S : Int} (hS : S ≤ 8) (kk : IMem → Res) (hk : ∀ I : IMem, ∀ n : Nat, fwR h 9 = (n : Int) → fwJ h S n I → par (kk I) (fwO2 h S)) : ∀ (m n : Nat) (I : IMem), 1 ≤ n → (n : Int) ≤ fwR h 9 → fwJ h S n I → par (f_P_pack_22 fu kk 160 6 9 S (fwR h 9) m (n : Int) I) (fwO2 h S) := by
  intro m
  induction m with
  | zero => intro _ _ _ _ _; exact par_none
  | succ m ih =>
    intro n I h1 hle hJ
    show par (fb_P_pack_22 fu kk 160 6 9 S (fwR h 9) (f_P_pack_22 fu kk 160 6 9 S (fwR h 9) m) (n : Int) I) _
    unfold fb_P_pack_22
    obtain ⟨⟨hh, ht, hK, hN, hB⟩, hH, hn, hE, hI⟩ := hJ
    have b96 := fwR_1296 hh ht
    by_cases hlt : (n : Int) < fwR h 9
    · rw [if_pos hlt, if_pos (show (n : Int) < 1296 by omega)]
      refine par_zb (fp_goOn0 hh ht hH hB (by omega)) (fun _ I9 ⟨g1, g2, g3⟩ => ?_)
      have hn9 : nr (fwR h) (I9 165) 8 = (n : Int) := by omega
      have hW9 : fwW h S I9 := ⟨hh, ht, fwK_mv hK (fun j => g3 161 j (by decide)) (fun j => g3 162 j (by decide)) (g3 160 2 (by decide)) (g3 164 0 (by decide)), fun r hr => (g3 163 r (by decide)).trans (hN r hr), g1⟩
      have hE9 : fwE h S (n : Int) I9 := fun d d1 d2 => (g3 164 _ (by decide)).trans (hE d d1 d2)
      have hg : fwQ (I9 165) 8 ≠ 0 := fun z => by
        have e0 : nr (fwR h) (I9 165) 8 = 0 := nr_zero 8 (fun k k1 k2 => by
          have a := (fwQ_spec (I9 165) 8).2.2 k (by omega) k2
          have b := (g1 k k1 k2).1
          omega)
        omega
      have hway := fp_way (fu := fu) hW9 (by rw [hn9]; exact hE9) hg
      rw [hn9] at hway
      refine par_zb hway (fun y11 I12 ⟨ei, x, hC⟩ => ?_)
      subst ei
      refine par_zw' (fun I14 e14 => ?_)
      have f14 : ∀ q j, ¬ (q = 160 ∧ j = 6) → I14 q j = I12 q j := fun q j z => by rw [e14, if_neg (by omega)]
      have v14 : I14 160 6 = y11 := by rw [e14]; exact if_pos ⟨rfl, rfl⟩
      have hK14 : fwK I14 := fwK_mv hW9.2.2.1 (fun j => f14 161 j (by omega)) (fun j => f14 162 j (by omega)) (f14 160 2 (by omega)) (f14 164 0 (by omega))
      rw [v14]
      rcases fw_some hS g1 ht hg hC with ⟨c1, c2⟩ | hI2
      · rw [if_pos c1]
        exact par_zr ⟨hK14, Or.inr ⟨c2, rfl⟩⟩
      · have hI2' := hI2
        rcases hI2 with ⟨c1, _⟩ | ⟨_, r, r1, r2, r3, r4, r5⟩
        · exact absurd c1 hg
        rw [if_neg (by rw [r2]; omega), r2]
        obtain ⟨w1, w2, w3, w4, w5⟩ := fw_go hh ht g1 hg r1 r3
        rw [hn9] at w2 w4
        have en : I14 (160 + 3) ((r : Nat) : Int).toNat = nr (fwR h) (fwY r) 8 := (f14 163 r (by omega)).trans (hW9.2.2.2.1 r r1)
        have ex : Wq (wr32 ((n : Int) - I14 (160 + 3) ((r : Nat) : Int).toNat)) (nr (fwR h) (fun k => I12 165 k - fwY r k) 8) := by
          show wr32 ((n : Int) - I14 (160 + 3) ((r : Nat) : Int).toNat) = nr (fwR h) (fun k => I12 165 k - fwY r k) 8
          rw [en, wr32_i2 (by omega) (by omega), w2]
        simp only [zl_e]
        rw [ex.e]
        refine par_zg (fun _ => par_zj (fun k17 e17 => ?_))
        refine par_ite (fun z => absurd z (by omega)) (fun _ => par_ite (fun _ => par_zg (fun _ => ?_)) (fun z => absurd (by omega) z))
        have ev : I14 (160 + 4) (nr (fwR h) (fun k => I12 165 k - fwY r k) 8).toNat = fwV S (fun k => I12 165 k - fwY r k) := (f14 164 _ (by omega)).trans (hE9 _ w1 w4)
        have vr := fwV_rng S (I12 165)
        rw [ev, r4, wr32_i2 (by omega) (by omega), show 1 + (fwV S (I12 165) - 1) = fwV S (I12 165) by omega]
        subst e17
        have e2 : Wq (wr32 ((n : Int) + 1)) (((n + 1 : Nat) : Int)) := by show wr32 ((n : Int) + 1) = ((n + 1 : Nat) : Int); rw [wr32_i2 (by omega) (by omega)]; rfl
        refine par_zg (fun _ => par_zw' (fun I20 e20 => ?_))
        rw [e2.e]
        rw [tn] at e20
        have f20 : ∀ q j, ¬ (q = 164 ∧ j = n) → I20 q j = I14 q j := fun q j z => by rw [e20, if_neg (by omega)]
        have ec : I20 165 = I12 165 := funext fun k => (f20 165 k (by omega)).trans (f14 165 k (by omega))
        refine ih (n + 1) I20 (by omega) (by omega) ⟨⟨hh, ht, fwK_mv hK14 (fun j => f20 161 j (by omega)) (fun j => f20 162 j (by omega)) (f20 160 2 (by omega)) (f20 164 0 (by omega)), fun s hs => (f20 163 s (by omega)).trans ((f14 163 s (by omega)).trans (hW9.2.2.2.1 s hs)), by rw [ec]; exact g1⟩, fun k k1 k2 => (f20 6 k (by omega)).trans ((f14 6 k (by omega)).trans ((g3 6 k (by decide)).trans (hH k k1 k2))), by rw [ec, hn9]; rfl, fun d d1 d2 => ?_, ?_⟩
        · have dr := nr_rng hh d1 8 (Nat.le_refl _)
          by_cases y : nr (fwR h) d 8 = (n : Int)
          · have ed := nr_inj hh d1 g1 8 (Nat.le_refl _) (by rw [y, hn9])
            rw [y, tn, fwV_ext S ed]
            exact (e20 164 n).trans (if_pos ⟨rfl, rfl⟩)
          · rw [f20 164 _ (by omega), f14 164 _ (by omega)]
            exact hE9 d d1 (by omega)
        · rw [ec, f20 160 6 (by omega), v14]
          exact hI2'
    · rw [if_neg hlt]
      exact hk I n (by omega) ⟨⟨hh, ht, hK, hN, hB⟩, hH, hn, hE, hI⟩
theorem fp_pack {h : Nat → Int} {S : Int} (hS : S ≤ 8) (hh : fwH h) (ht : fwT h 8 ≤ 12) (I0 : IMem) (hK : fwK I0) (hH : ∀ k, 1 ≤ k → k ≤ 8 → I0 6 k = h k) : par (f_P_pack fu 160 6 9 S I0) (fwO2 h S) := by
  unfold f_P_pack
  refine par_zb (fp_numAll hh ht I0 hK hH) (fun y1 I2 ⟨a1, a2, a3⟩ => ?_)
  refine par_zb (fp_fill (160 + 5) 9 (by decide) I2) (fun _ I5 ⟨z1, z2⟩ => ?_)
  refine par_zw' (fun I7 e7 => ?_)
  subst a1
  have f7 : ∀ q j, ¬ (q = 160 ∧ j = 6) → I7 q j = I5 q j := fun q j z => by rw [e7, if_neg (by omega)]
  have hK7 : fwK I7 := fwK_mv hK (fun j => (f7 161 j (by omega)).trans ((z2 161 j (by decide)).trans (a3 161 j (by decide)))) (fun j => (f7 162 j (by omega)).trans ((z2 162 j (by decide)).trans (a3 162 j (by decide)))) ((f7 160 2 (by omega)).trans ((z2 160 2 (by decide)).trans (a3 160 2 (by decide)))) ((f7 164 0 (by omega)).trans ((z2 164 0 (by decide)).trans (a3 164 0 (by decide))))
  have c0 : ∀ k, k < 9 → I7 165 k = 0 := fun k hk => (f7 165 k (by omega)).trans (z1 k hk)
  have n0 : nr (fwR h) (I7 165) 8 = 0 := nr_zero 8 (fun k _ k2 => c0 k (by omega))
  have q0 : fwQ (I7 165) 8 = 0 := fwQ_of (Nat.zero_le _) (fun z => absurd rfl z) (fun k _ k2 => by rw [c0 k (by omega)]; decide)
  have hB7 : fwB h (I7 165) := fun k k1 k2 => by rw [c0 k (by omega)]; exact ⟨Int.le_refl _, hh k k1 k2⟩
  refine fp_pack22 hS _ (fun I n en hJ => ?_) fu 1 I7 (Nat.le_refl _) (fwR_pos hh 8 (Nat.le_refl _)) ⟨⟨hh, ht, hK7, fun r hr => (f7 163 r (by omega)).trans ((z2 163 r (by decide)).trans (a2 r hr)), hB7⟩, fun k k1 k2 => (f7 6 k (by omega)).trans ((z2 6 k (by decide)).trans ((a3 6 k (by decide)).trans (hH k k1 k2))), by rw [n0]; rfl, fun d d1 d2 => ?_, Or.inl ⟨q0, ?_⟩⟩
  · obtain ⟨⟨_, _, jK, jN, jB⟩, jH, jn, jE, jI⟩ := hJ
    have b96 := fwR_1296 hh ht
    have b1 := fwR_pos hh 8 (Nat.le_refl _)
    have et := nr_top h 8
    have e9 : fwR h (8 + 1) = fwR h 9 := rfl
    have b1' : 1 ≤ fwR h 9 := b1
    have eh := nr_inj hh jB (fun k k1 k2 => ⟨hh k k1 k2, Int.le_refl _⟩) 8 (Nat.le_refl _) (show nr (fwR h) (I 165) 8 = nr (fwR h) h 8 by omega)
    have jI2 := fwI_ext eh jI
    have ev : I 164 (fwR h 9 - 1).toNat = fwV S h := by
      have := jE h (fun k k1 k2 => ⟨hh k k1 k2, Int.le_refl _⟩) (by omega)
      rw [et] at this
      exact this
    refine par_ite (fun z => absurd z (by omega)) (fun _ => par_ite (fun z => absurd z (by omega)) (fun _ => ?_))
    have ex : Wq (wr32 (fwR h 9 - 1)) (fwR h 9 - 1) := wr32_i2 (by omega) (by omega)
    simp only [zl_e]
    rw [ex.e]
    refine par_zg (fun _ => par_zr ⟨jK, Or.inl ⟨fw_full jI2, ev, jI2⟩⟩)
  · have dr := nr_rng hh d1 8 (Nat.le_refl _)
    have d0 : nr (fwR h) d 8 = 0 := by
      have z : ((1 : Nat) : Int) = 1 := rfl
      omega
    have ed := nr_inj hh d1 hB7 8 (Nat.le_refl _) (by rw [d0, n0])
    have qd : fwQ d 8 = 0 := by rw [fwQ_ext 8 ed]; exact q0
    rw [d0, fwV_0 qd]
    exact hK7.2.2.2
  · rw [e7]
    exact if_pos ⟨rfl, rfl⟩
/-- the class's answer -/
def fwA (h : Nat → Int) (S a y : Int) : Prop := (¬ (0 ≤ a ∧ a ≤ 8) ∧ y = -1) ∨ ((0 ≤ a ∧ a ≤ 8) ∧ ((¬ fwO h S ∧ y = -1) ∨ (fwO h S ∧ ((a = 0 ∧ y = fwV S h) ∨ (a ≠ 0 ∧ ((fwQ h 8 = 0 ∧ y = 0) ∨ (fwQ h 8 ≠ 0 ∧ ∃ r, r < 67 ∧ fwP S h r = true ∧ fwV S (fun k => h k - fwY r k) = fwV S h - 1 ∧ (∀ s, s < r → fwP S h s = true → fwV S h - 1 < fwV S (fun k => h k - fwY s k)) ∧ y = fwY r a.toNat)))))))
theorem fp_fewest {h : Nat → Int} {S : Int} (a : Int) (hS : S ≤ 8) (hh : fwH h) (ht : fwT h 8 ≤ 12) (I0 : IMem) (hK : fwK I0) (hH : ∀ k, 1 ≤ k → k ≤ 8 → I0 6 k = h k) (h2 : I0 2 0 = S) : par (f_S_fewest fu 0 a I0) (fun y I => fwK I ∧ fwA h S a y) := by
  unfold f_S_fewest
  refine par_ite (fun z => par_zr ⟨hK, Or.inl ⟨by omega, rfl⟩⟩) (fun z => par_ite (fun z2 => par_zr ⟨hK, Or.inl ⟨by omega, rfl⟩⟩) (fun z2 => ?_))
  have e2 : I0 (0 + 2) 0 = S := h2
  rw [e2]
  refine par_zb (fp_pack hS hh ht I0 hK hH) (fun y1 I2 ⟨k2, hy⟩ => ?_)
  have vr := fwV_rng S h
  refine par_ite (fun z3 => par_zr ⟨k2, Or.inr ⟨by omega, ?_⟩⟩) (fun z3 => par_ite (fun z4 => par_zr ⟨k2, Or.inr ⟨by omega, ?_⟩⟩) (fun z4 => ?_))
  · rcases hy with ⟨y1, y2, _⟩ | ⟨y1, y2⟩
    · exact Or.inr ⟨y1, Or.inl ⟨z3, y2⟩⟩
    · exact Or.inl ⟨y1, y2⟩
  · rcases hy with ⟨y1, y2, _⟩ | ⟨y1, y2⟩
    · omega
    · exact Or.inl ⟨y1, y2⟩
  · rcases hy with ⟨y1, y2, y3⟩ | ⟨y1, y2⟩
    · refine par_zb (Q1 := fun y I => I = I2 ∧ ((fwQ h 8 = 0 ∧ y = 0) ∨ (fwQ h 8 ≠ 0 ∧ ∃ r, r < 67 ∧ fwP S h r = true ∧ fwV S (fun k => h k - fwY r k) = fwV S h - 1 ∧ (∀ s, s < r → fwP S h s = true → fwV S h - 1 < fwV S (fun k => h k - fwY s k)) ∧ y = fwY r a.toNat))) ?_ (fun y I ⟨ei, q⟩ => par_zr ⟨by rw [ei]; exact k2, Or.inr ⟨by omega, Or.inr ⟨y1, Or.inr ⟨z3, q⟩⟩⟩⟩)
      unfold f_P_inFirst
      have e6 : I2 (0 + 160) 6 = I2 160 6 := rfl
      rcases y3 with ⟨c1, c2⟩ | ⟨c1, r, r1, r2, r3, r4, r5⟩
      · simp only [zj_e]
        rw [e6, c2, if_pos (by decide), if_pos trivial]
        exact par_zr ⟨rfl, Or.inl ⟨c1, rfl⟩⟩
      · have e1 : Wq (wr32 (wr32 (((r : Nat) : Int) * 9) + a)) (((9 * r + a.toNat : Nat) : Int)) := by
          show wr32 (wr32 (((r : Nat) : Int) * 9) + a) = ((9 * r + a.toNat : Nat) : Int)
          rw [wr32_i2 (x := ((r : Nat) : Int) * 9) (by omega) (by omega), wr32_i2 (by omega) (by omega)]; omega
        simp only [zj_e, zl_e]
        rw [e6, r2, if_neg (by omega), if_pos (show ((r : Nat) : Int) < 67 by omega), if_neg (by omega), if_neg (by omega), if_neg ne10, e1.e]
        refine par_zg (fun _ => par_zr ⟨rfl, Or.inr ⟨c1, r, r1, r3, r4, r5, ?_⟩⟩)
        exact k2.1 r a.toNat r1 (by omega)
    · exact absurd y2 z4
end
