/-! the image: both sides -/
section
variable {fu : Nat} {I J : IMem}
/-- a law's text, copied -/
theorem cv_wcopy (a b : Nat) (hab : a + 5 ≤ b ∨ b + 5 ≤ a) (I : IMem) : par (f_W_copyFrom fu a b I) (fun _ I' => (I' a 4 = I b 4 ∧ (∀ j, j < 400 → I' (a + 1) j = I (b + 1) j) ∧ (∀ j, j < 17 → I' (a + 2) j = I (b + 2) j) ∧ (∀ j, j < 16 → I' (a + 3) j = I (b + 3) j)) ∧ ∀ q j, ¬ (a ≤ q ∧ q < a + 4) → I' q j = I q j) := by
  unfold f_W_copyFrom
  refine par_zw' (fun I1 e1 => par_zw' (fun I2 e2 => par_zg (fun _ => par_zc' (fun I3 e3 => par_zg (fun _ => par_zc' (fun I4 e4 => par_zg (fun _ => par_zc' (fun I5 e5 => par_zr ⟨⟨?_, fun j hj => ?_, fun j hj => ?_, fun j hj => ?_⟩, fun q j hq => ?_⟩))))))))
  · rw [e5, if_neg (by omega), e4, if_neg (by omega), e3, if_neg (by omega), e2, if_pos ⟨rfl, rfl⟩, e1, if_neg (by omega)]
  · rw [e5, if_neg (by omega), e4, if_neg (by omega), e3, if_pos (show a + 1 = a + 1 ∧ (0 : Int).toNat ≤ j ∧ j < (0 : Int).toNat + (400 : Int).toNat from ⟨rfl, Nat.zero_le _, by show j < 0 + 400; omega⟩), e2, if_neg (by omega), e1, if_neg (by omega)]
    exact congrArg (I (b + 1)) (show 0 + (j - 0) = j by omega)
  · rw [e5, if_neg (by omega), e4, if_pos (show a + 2 = a + 2 ∧ (0 : Int).toNat ≤ j ∧ j < (0 : Int).toNat + (17 : Int).toNat from ⟨rfl, Nat.zero_le _, by show j < 0 + 17; omega⟩), e3, if_neg (by omega), e2, if_neg (by omega), e1, if_neg (by omega)]
    exact congrArg (I (b + 2)) (show 0 + (j - 0) = j by omega)
  · rw [e5, if_pos (show a + 3 = a + 3 ∧ (0 : Int).toNat ≤ j ∧ j < (0 : Int).toNat + (16 : Int).toNat from ⟨rfl, Nat.zero_le _, by show j < 0 + 16; omega⟩), e4, if_neg (by omega), e3, if_neg (by omega), e2, if_neg (by omega), e1, if_neg (by omega)]
    exact congrArg (I (b + 3)) (show 0 + (j - 0) = j by omega)
  · rw [e5, if_neg (by omega), e4, if_neg (by omega), e3, if_neg (by omega), e2, if_neg (by omega), e1, if_neg (by omega)]
/-- a law's cells that are read -/
def LCP (a b : Nat) (I' I : IMem) : Prop := I' a 4 = I b 4 ∧ (∀ j, j < 400 → I' (a + 1) j = I (b + 1) j) ∧ (∀ j, j < 17 → I' (a + 2) j = I (b + 2) j) ∧ (∀ j, j < 16 → I' (a + 3) j = I (b + 3) j)
theorem lwr_cp {hb hb2 wo wo2 k : Nat} {I' J' : IMem} (hk : k < 5) (h : LWR hb wo k I J) (h1 : LCP (hb2 + 15 + 5 * k) (hb + 15 + 5 * k) I' I) (h2 : ∀ j, j < 6190 → J' wo2 j = J wo j) : LWR hb2 wo2 k I' J' := by
  obtain ⟨l, ⟨a1, a2, a3, a4⟩, b, c⟩ := h
  obtain ⟨g1, g2, g3, g4⟩ := h1
  have cl := c.1
  have cx := c.2.1
  refine ⟨l, ⟨?_, fun i hi => ?_, ?_, fun i r hr => ?_⟩, lx_mv hk c b (fun j _ h => h2 j (by omega)), c⟩
  · rw [g1]; exact a1
  · rw [g2 i (by omega)]; exact a2 i hi
  · rw [g3 0 (by decide)]; exact a3
  · have hi := lt_of_get hr
    obtain ⟨x1, x2⟩ := a4 i r hr
    refine ⟨?_, ?_⟩
    · rw [g3 _ (by omega)]; exact x1
    · rw [g4 _ (by omega)]; exact x2
/-- the hill's copy, all that is read -/
def HCP (a b : Nat) (I' I : IMem) : Prop := (I' a 6 = I b 6 ∧ I' a 7 = I b 7 ∧ I' a 11 = I b 11) ∧ (∀ j, j < 6 → I' (a + 1) j = I (b + 1) j) ∧ (∀ j, j < 9 → I' (a + 3) j = I (b + 3) j) ∧ (∀ j, j < 32 → I' (a + 4) j = I (b + 4) j) ∧ (∀ j, j < 9 → I' (a + 5) j = I (b + 5) j) ∧ (∀ j, j < 1440 → I' (a + 7) j = I (b + 7) j) ∧ (∀ j, j < 6 → I' (a + 8) j = I (b + 8) j) ∧ (∀ j, j < 6 → I' (a + 9) j = I (b + 9) j) ∧ (∀ j, j < 40 → I' (a + 10) j = I (b + 10) j) ∧ (∀ j, j < 30 → I' (a + 11) j = I (b + 11) j) ∧ (∀ j, j < 180 → I' (a + 12) j = I (b + 12) j) ∧ ∀ k, k < 5 → LCP (a + 15 + 5 * k) (b + 15 + 5 * k) I' I
theorem hr_cp {a b wo wo2 : Nat} {I' J' : IMem} (h : HR b wo I J) (hc : HCP a b I' I) (h2 : ∀ j, j < 6190 → J' wo2 j = J wo j) : HR a wo2 I' J' := by
  obtain ⟨⟨s1, s2, s3, s4, s5, s6, s7⟩, ⟨y1, y2⟩, ⟨p1, p2, p3, p4, p5⟩, hL, hW⟩ := h
  obtain ⟨⟨c1, c2, c3⟩, d1, d3, d4, d5, d7, d8, d9, d10, d11, d12, dl⟩ := hc
  refine ⟨⟨fun k hk => ?_, ?_, ?_, fun l hl => ?_, fun s g1 g2 => ?_, fun k hk => ?_, fun s g1 g2 => ?_⟩, ⟨fun k hk => ?_, fun s g1 g2 => ⟨?_, ?_, ?_⟩⟩, ⟨?_, ?_, ?_, fun i hi => ⟨?_, ?_⟩, fun k hk => ?_⟩, fun l hl => ?_, fun k hk => lwr_cp hk (hW k hk) (dl k hk) h2⟩
  · rw [d1 _ hk, h2 _ (by omega)]; exact s1 k hk
  · rw [c1, h2 _ (by omega)]; exact s2
  · rw [c2, h2 _ (by omega)]; exact s3
  · rw [d9 _ hl, h2 _ (by omega)]; exact s4 l hl
  · rw [d3 _ (by omega), h2 _ (by omega)]; exact s5 s g1 g2
  · rw [d4 _ hk, h2 _ (by omega)]; exact s6 k hk
  · rw [d5 _ (by omega), h2 _ (by omega)]; exact s7 s g1 g2
  · rw [d10 _ (by omega), h2 _ (by omega)]; exact y1 k hk
  · rw [d10 _ (by omega), h2 _ (by omega)]; exact (y2 s g1 g2).1
  · rw [d10 _ (by omega), h2 _ (by omega)]; exact (y2 s g1 g2).2.1
  · rw [d10 _ (by omega), h2 _ (by omega)]; exact (y2 s g1 g2).2.2
  · rw [h2 110 (by omega), h2 70 (by omega)]; exact p1
  · rw [h2 110 (by omega), d11 _ (by omega)]; exact p2
  · rw [h2 111 (by omega), d11 _ (by omega)]; exact p3
  · rw [h2 _ (by omega), d11 _ (by omega)]; exact (p4 i hi).1
  · rw [h2 _ (by omega), d11 _ (by omega)]; exact (p4 i hi).2
  · rw [h2 _ (by omega), d12 _ hk]; exact p5 k hk
  · obtain ⟨x1, x2, x3⟩ := hL l hl
    refine ⟨by rw [d8 _ hl, h2 _ (by omega)]; exact x1, by rw [h2 _ (by omega)]; exact x2, fun p f hp hf => ?_⟩
    rw [h2 _ (by omega)] at hp
    rw [d7 _ (by omega), h2 _ (by omega)]; exact x3 p f hp hf
theorem cv_hcopy2 {Q : Int → IMem → Prop} (kk : IMem → Res) (a b : Nat) (hab : a + 40 ≤ b ∨ b + 40 ≤ a) (I0 : IMem) (hend : ∀ I : IMem, (∀ k, k < 5 → LCP (a + 15 + 5 * k) (b + 15 + 5 * k) I I0) → (∀ q j, ¬ (a + 15 ≤ q ∧ q < a + 40) → I q j = I0 q j) → par (kk I) Q) : ∀ (m i : Nat) (I : IMem), i ≤ 5 → (∀ k, k < i → LCP (a + 15 + 5 * k) (b + 15 + 5 * k) I I0) → (∀ q j, ¬ (a + 15 ≤ q ∧ q < a + 40) → I q j = I0 q j) → par (f_H_copyFrom_2 fu kk a b m (i : Int) I) Q := by
  intro m
  induction m with
  | zero => intro _ _ _ _ _; exact par_none
  | succ m ih =>
    intro i I hi h1 h2
    show par (fb_H_copyFrom_2 fu kk a b (f_H_copyFrom_2 fu kk a b m) (i : Int) I) _
    unfold fb_H_copyFrom_2
    by_cases q : i < 5
    · rw [if_pos (show (i : Int) < 5 by omega), if_pos (show (i : Int) < 5 by omega)]
      refine par_zg (fun _ => par_zg (fun _ => ?_))
      rw [show ((i : Nat) : Int).toNat = i from rfl]
      refine par_zb (cv_wcopy (fu := fu) (a + 15 + 5 * i) (b + 15 + 5 * i) (by omega) I) (fun _ I1 ⟨⟨g1, g2, g3, g4⟩, g5⟩ => ?_)
      simp only [zl_e]
      rw [w_nx i (by omega)]
      refine ih (i + 1) I1 q (fun k hk => ?_) (fun q' j hq => ?_)
      · by_cases y : k = i
        · subst y
          refine ⟨?_, fun j hj => ?_, fun j hj => ?_, fun j hj => ?_⟩
          · rw [g1, h2 _ _ (by omega)]
          · rw [g2 j hj, h2 _ _ (by omega)]
          · rw [g3 j hj, h2 _ _ (by omega)]
          · rw [g4 j hj, h2 _ _ (by omega)]
        · obtain ⟨x1, x2, x3, x4⟩ := h1 k (by omega)
          refine ⟨?_, fun j hj => ?_, fun j hj => ?_, fun j hj => ?_⟩
          · rw [g5 _ _ (by omega)]; exact x1
          · rw [g5 _ _ (by omega)]; exact x2 j hj
          · rw [g5 _ _ (by omega)]; exact x3 j hj
          · rw [g5 _ _ (by omega)]; exact x4 j hj
      · rw [g5 _ _ (by omega)]; exact h2 q' j hq
    · rw [if_neg (show ¬ (i : Int) < 5 by omega)]
      have : i = 5 := by omega
      subst this
      exact hend I h1 h2
theorem cv_hcopy (a b : Nat) (hab : a + 40 ≤ b ∨ b + 40 ≤ a) (I : IMem) : par (f_H_copyFrom fu a b I) (fun _ I' => HCP a b I' I) := by
  unfold f_H_copyFrom
  refine cv_hcopy2 _ a b hab I (fun I1 h1 h2 => ?_) fu 0 I (by decide) (fun k hk => absurd hk (Nat.not_lt_zero _)) (fun _ _ _ => rfl)
  refine par_zb (Q1 := fun _ I2 => (∀ j, j < 1440 → I2 (a + 7) j = I (b + 7) j) ∧ (∀ j, j < 6 → I2 (a + 8) j = I (b + 8) j) ∧ (∀ j, j < 6 → I2 (a + 9) j = I (b + 9) j) ∧ ∀ q j, ¬ (a + 7 ≤ q ∧ q ≤ a + 9) → I2 q j = I1 q j) ?_ (fun _ I2 ⟨g7, g8, g9, g0⟩ => ?_)
  · unfold f_L_copyFrom
    refine par_zg (fun _ => par_zc' (fun I3 e3 => par_zg (fun _ => par_zc' (fun I4 e4 => par_zg (fun _ => par_zc' (fun I5 e5 => par_zr ⟨fun j hj => ?_, fun j hj => ?_, fun j hj => ?_, fun q j hq => ?_⟩))))))
    · rw [e5, if_neg (by omega), e4, if_neg (by omega), e3, if_pos (show a + 7 = a + 6 + 1 ∧ (0 : Int).toNat ≤ j ∧ j < (0 : Int).toNat + (1440 : Int).toNat from ⟨rfl, Nat.zero_le _, by show j < 0 + 1440; omega⟩), h2 _ _ (by omega)]
      exact congrArg (I (b + 7)) (show 0 + (j - 0) = j by omega)
    · rw [e5, if_neg (by omega), e4, if_pos (show a + 8 = a + 6 + 2 ∧ (0 : Int).toNat ≤ j ∧ j < (0 : Int).toNat + (6 : Int).toNat from ⟨rfl, Nat.zero_le _, by show j < 0 + 6; omega⟩), e3, if_neg (by omega), h2 _ _ (by omega)]
      exact congrArg (I (b + 8)) (show 0 + (j - 0) = j by omega)
    · rw [e5, if_pos (show a + 9 = a + 6 + 3 ∧ (0 : Int).toNat ≤ j ∧ j < (0 : Int).toNat + (6 : Int).toNat from ⟨rfl, Nat.zero_le _, by show j < 0 + 6; omega⟩), e4, if_neg (by omega), e3, if_neg (by omega), h2 _ _ (by omega)]
      exact congrArg (I (b + 9)) (show 0 + (j - 0) = j by omega)
    · rw [e5, if_neg (by omega), e4, if_neg (by omega), e3, if_neg (by omega)]
  have old : ∀ q j, ¬ (a + 15 ≤ q ∧ q < a + 40) → ¬ (a + 7 ≤ q ∧ q ≤ a + 9) → I2 q j = I q j := fun q j y1 y2 => (g0 q j y2).trans (h2 q j y1)
  refine par_zg (fun _ => par_zc' (fun I3 e3 => par_zg (fun _ => par_zc' (fun I4 e4 => par_zg (fun _ => par_zc' (fun I5 e5 => par_zg (fun _ => par_zc' (fun I6 e6 => par_zg (fun _ => par_zc' (fun I7 e7 => par_zg (fun _ => par_zc' (fun I8 e8 => par_zg (fun _ => par_zc' (fun I9 e9 => par_zw' (fun I10 e10 => par_zw' (fun I11 e11 => par_zw' (fun I12 e12 => par_zr ?_)))))))))))))))))
  have far : ∀ q j, ¬ (q = a ∧ (j = 6 ∨ j = 7 ∨ j = 11)) → q ≠ a + 1 → q ≠ a + 3 → q ≠ a + 4 → q ≠ a + 5 → q ≠ a + 10 → q ≠ a + 11 → q ≠ a + 12 → I12 q j = I2 q j := fun q j y0 y1 y3 y4 y5 y10 y11 y12 => by rw [e12, if_neg (by omega), e11, if_neg (by omega), e10, if_neg (by omega), e9, if_neg (by omega), e8, if_neg (by omega), e7, if_neg (by omega), e6, if_neg (by omega), e5, if_neg (by omega), e4, if_neg (by omega), e3, if_neg (by omega)]
  refine ⟨⟨?_, ?_, ?_⟩, fun j hj => ?_, fun j hj => ?_, fun j hj => ?_, fun j hj => ?_, fun j hj => ?_, fun j hj => ?_, fun j hj => ?_, fun j hj => ?_, fun j hj => ?_, fun j hj => ?_, fun k hk => ?_⟩
  · rw [e12, if_neg (by omega), e11, if_neg (by omega), e10, if_pos ⟨rfl, rfl⟩, e9, if_neg (by omega), e8, if_neg (by omega), e7, if_neg (by omega), e6, if_neg (by omega), e5, if_neg (by omega), e4, if_neg (by omega), e3, if_neg (by omega)]; exact old _ _ (by omega) (by omega)
  · rw [e12, if_neg (by omega), e11, if_pos ⟨rfl, rfl⟩, e10, if_neg (by omega), e9, if_neg (by omega), e8, if_neg (by omega), e7, if_neg (by omega), e6, if_neg (by omega), e5, if_neg (by omega), e4, if_neg (by omega), e3, if_neg (by omega)]; exact old _ _ (by omega) (by omega)
  · rw [e12, if_pos ⟨rfl, rfl⟩, e11, if_neg (by omega), e10, if_neg (by omega), e9, if_neg (by omega), e8, if_neg (by omega), e7, if_neg (by omega), e6, if_neg (by omega), e5, if_neg (by omega), e4, if_neg (by omega), e3, if_neg (by omega)]; exact old _ _ (by omega) (by omega)
  · rw [e12, if_neg (by omega), e11, if_neg (by omega), e10, if_neg (by omega), e9, if_neg (by omega), e8, if_neg (by omega), e7, if_neg (by omega), e6, if_neg (by omega), e5, if_neg (by omega), e4, if_neg (by omega), e3, if_pos (show a + 1 = a + 1 ∧ (0 : Int).toNat ≤ j ∧ j < (0 : Int).toNat + (6 : Int).toNat from ⟨rfl, Nat.zero_le _, by show j < 0 + 6; omega⟩), old _ _ (by omega) (by omega)]
    exact congrArg (I (b + 1)) (show 0 + (j - 0) = j by omega)
  · rw [e12, if_neg (by omega), e11, if_neg (by omega), e10, if_neg (by omega), e9, if_neg (by omega), e8, if_neg (by omega), e7, if_neg (by omega), e6, if_neg (by omega), e5, if_neg (by omega), e4, if_pos (show a + 3 = a + 3 ∧ (0 : Int).toNat ≤ j ∧ j < (0 : Int).toNat + (9 : Int).toNat from ⟨rfl, Nat.zero_le _, by show j < 0 + 9; omega⟩), e3, if_neg (by omega), old _ _ (by omega) (by omega)]
    exact congrArg (I (b + 3)) (show 0 + (j - 0) = j by omega)
  · rw [e12, if_neg (by omega), e11, if_neg (by omega), e10, if_neg (by omega), e9, if_neg (by omega), e8, if_neg (by omega), e7, if_neg (by omega), e6, if_neg (by omega), e5, if_pos (show a + 4 = a + 4 ∧ (0 : Int).toNat ≤ j ∧ j < (0 : Int).toNat + (32 : Int).toNat from ⟨rfl, Nat.zero_le _, by show j < 0 + 32; omega⟩), e4, if_neg (by omega), e3, if_neg (by omega), old _ _ (by omega) (by omega)]
    exact congrArg (I (b + 4)) (show 0 + (j - 0) = j by omega)
  · rw [e12, if_neg (by omega), e11, if_neg (by omega), e10, if_neg (by omega), e9, if_neg (by omega), e8, if_neg (by omega), e7, if_neg (by omega), e6, if_pos (show a + 5 = a + 5 ∧ (0 : Int).toNat ≤ j ∧ j < (0 : Int).toNat + (9 : Int).toNat from ⟨rfl, Nat.zero_le _, by show j < 0 + 9; omega⟩), e5, if_neg (by omega), e4, if_neg (by omega), e3, if_neg (by omega), old _ _ (by omega) (by omega)]
    exact congrArg (I (b + 5)) (show 0 + (j - 0) = j by omega)
  · rw [far _ _ (by omega) (by omega) (by omega) (by omega) (by omega) (by omega) (by omega) (by omega)]; exact g7 j hj
  · rw [far _ _ (by omega) (by omega) (by omega) (by omega) (by omega) (by omega) (by omega) (by omega)]; exact g8 j hj
  · rw [far _ _ (by omega) (by omega) (by omega) (by omega) (by omega) (by omega) (by omega) (by omega)]; exact g9 j hj
  · rw [e12, if_neg (by omega), e11, if_neg (by omega), e10, if_neg (by omega), e9, if_neg (by omega), e8, if_neg (by omega), e7, if_pos (show a + 10 = a + 10 ∧ (0 : Int).toNat ≤ j ∧ j < (0 : Int).toNat + (40 : Int).toNat from ⟨rfl, Nat.zero_le _, by show j < 0 + 40; omega⟩), e6, if_neg (by omega), e5, if_neg (by omega), e4, if_neg (by omega), e3, if_neg (by omega), old _ _ (by omega) (by omega)]
    exact congrArg (I (b + 10)) (show 0 + (j - 0) = j by omega)
  · rw [e12, if_neg (by omega), e11, if_neg (by omega), e10, if_neg (by omega), e9, if_neg (by omega), e8, if_pos (show a + 11 = a + 11 ∧ (0 : Int).toNat ≤ j ∧ j < (0 : Int).toNat + (30 : Int).toNat from ⟨rfl, Nat.zero_le _, by show j < 0 + 30; omega⟩), e7, if_neg (by omega), e6, if_neg (by omega), e5, if_neg (by omega), e4, if_neg (by omega), e3, if_neg (by omega), old _ _ (by omega) (by omega)]
    exact congrArg (I (b + 11)) (show 0 + (j - 0) = j by omega)
  · rw [e12, if_neg (by omega), e11, if_neg (by omega), e10, if_neg (by omega), e9, if_pos (show a + 12 = a + 12 ∧ (0 : Int).toNat ≤ j ∧ j < (0 : Int).toNat + (180 : Int).toNat from ⟨rfl, Nat.zero_le _, by show j < 0 + 180; omega⟩), e8, if_neg (by omega), e7, if_neg (by omega), e6, if_neg (by omega), e5, if_neg (by omega), e4, if_neg (by omega), e3, if_neg (by omega), old _ _ (by omega) (by omega)]
    exact congrArg (I (b + 12)) (show 0 + (j - 0) = j by omega)
  · obtain ⟨x1, x2, x3, x4⟩ := h1 k hk
    have w : ∀ d j, d < 4 → I12 (a + 15 + 5 * k + d) j = I1 (a + 15 + 5 * k + d) j := fun d j hd => by rw [far _ _ (by omega) (by omega) (by omega) (by omega) (by omega) (by omega) (by omega) (by omega), g0 _ _ (by omega)]
    exact ⟨(w 0 4 (by omega)).trans x1, fun j hj => (w 1 j (by omega)).trans (x2 j hj), fun j hj => (w 2 j (by omega)).trans (x3 j hj), fun j hj => (w 3 j (by omega)).trans (x4 j hj)⟩
/-- the reference's copy, one way or the other -/
theorem xv_img {Q : Int → IMem → Prop} (kk : IMem → Res) (p1 : Int) (J0 : IMem) (hend : ∀ J : IMem, (∀ j, j < 6190 → J (if p1 = 0 then 1 else 2) j = J0 (if p1 = 0 then 2 else 1) j) → (∀ q j, q ≠ (if p1 = 0 then 1 else 2) → J q j = J0 q j) → par (kk J) Q) : ∀ (m i : Nat) (J : IMem), i ≤ 6190 → (∀ j, j < i → J (if p1 = 0 then 1 else 2) j = J0 (if p1 = 0 then 2 else 1) j) → (∀ q j, q ≠ (if p1 = 0 then 1 else 2) → J q j = J0 q j) → par (f_X_image_15 fu kk 0 p1 m (i : Int) J) Q := by
  intro m
  induction m with
  | zero => intro _ _ _ _ _; exact par_none
  | succ m ih =>
    intro i J hi h1 h2
    show par (fb_X_image_15 fu kk 0 p1 (f_X_image_15 fu kk 0 p1 m) (i : Int) J) _
    unfold fb_X_image_15
    by_cases q : i < 6190
    · rw [if_pos (show (i : Int) < 6190 by omega)]
      have w1 : Wq (wr32 ((i : Int) + 1)) (((i + 1 : Nat) : Int)) := by show wr32 ((i : Int) + 1) = ((i + 1 : Nat) : Int); rw [wr32_i2 (by omega) (by omega)]; omega
      simp only [zl_e, zj_e]
      rw [w1.e]
      by_cases z : p1 = 0
      · rw [if_pos z]
        simp only [if_pos z] at h1 h2 ih
        refine par_zg (fun _ => par_zg (fun _ => par_zw' (fun J1 e1 => ih (i + 1) J1 q (fun j hj => ?_) (fun q' j hq => ?_))))
        · by_cases y : j = i
          · rw [e1, if_pos ⟨rfl, y⟩, y]
            exact h2 2 i (by decide)
          · rw [e1, if_neg (fun x => y x.2)]; exact h1 j (by omega)
        · rw [e1, if_neg (fun x => hq x.1)]; exact h2 q' j hq
      · rw [if_neg z]
        simp only [if_neg z] at h1 h2 ih
        refine par_zg (fun _ => par_zg (fun _ => par_zw' (fun J1 e1 => ih (i + 1) J1 q (fun j hj => ?_) (fun q' j hq => ?_))))
        · by_cases y : j = i
          · rw [e1, if_pos ⟨rfl, y⟩, y]
            exact h2 1 i (by decide)
          · rw [e1, if_neg (fun x => y x.2)]; exact h1 j (by omega)
        · rw [e1, if_neg (fun x => hq x.1)]; exact h2 q' j hq
    · rw [if_neg (show ¬ (i : Int) < 6190 by omega)]
      have : i = 6190 := by omega
      subst this
      exact hend J h1 h2
/-- the reference's image call -/
theorem xv_image0 (a : Int) (ha : a = 0) (J : IMem) (h : J 0 3 ≠ 0) : par (f_X_image fu 0 a J) (fun y J' => y = 1 ∧ (∀ j, j < 6190 → J' 1 j = J 2 j) ∧ (∀ j, j < 240 → J' 13 j = 0) ∧ J' 0 35 = 0 ∧ J' 0 3 = 1 ∧ ∀ q j, q ≠ 1 → q ≠ 13 → ¬ (q = 0 ∧ (j = 35 ∨ j = 3)) → J' q j = J q j) := by
  unfold f_X_image
  simp only [zj_e]
  rw [if_pos ha, if_neg h]
  refine xv_img _ a J (fun J1 h1 h2 => ?_) fu 0 J (by decide) (fun j hj => absurd hj (Nat.not_lt_zero _)) (fun _ _ _ => rfl)
  rw [if_pos ha] at h2
  simp only [if_pos ha] at h1
  rw [if_pos ha]
  refine par_zb (xv_forgets J1) (fun _ J2 ⟨g1, g2, g3⟩ => par_zw' (fun J3 e3 => par_zr ⟨rfl, fun j hj => ?_, fun j hj => ?_, ?_, ?_, fun q j a1 a2 a3 => ?_⟩))
  · rw [e3, if_neg (by omega), g3 _ _ (by omega) (by omega)]; exact h1 j hj
  · rw [e3, if_neg (by omega)]; exact g1 j hj
  · rw [e3, if_neg (by omega)]; exact g2
  · rw [e3, if_pos ⟨rfl, rfl⟩]
  · rw [e3, if_neg (by omega), g3 _ _ (by omega) (by omega)]; exact h2 q j a1
theorem xv_image1 (a : Int) (ha : a ≠ 0) (J : IMem) : par (f_X_image fu 0 a J) (fun y J' => y = 1 ∧ (∀ j, j < 6190 → J' 2 j = J 1 j) ∧ J' 0 3 = 1 ∧ ∀ q j, q ≠ 2 → ¬ (q = 0 ∧ j = 3) → J' q j = J q j) := by
  unfold f_X_image
  simp only [zj_e]
  rw [if_neg ha]
  refine xv_img _ a J (fun J1 h1 h2 => ?_) fu 0 J (by decide) (fun j hj => absurd hj (Nat.not_lt_zero _)) (fun _ _ _ => rfl)
  rw [if_neg ha] at h2
  simp only [if_neg ha] at h1
  rw [if_neg ha]
  refine par_zw' (fun J3 e3 => par_zr ⟨rfl, fun j hj => ?_, ?_, fun q j a1 a2 => ?_⟩)
  · rw [e3, if_neg (by omega)]; exact h1 j hj
  · rw [e3, if_pos ⟨rfl, rfl⟩]
  · rw [e3, if_neg a2]; exact h2 q j a1
theorem pj_image (a : Int) (h : RJ I J) (hg : GX 0 J) : pq (f_S_image fu 0 a I) (f_X_image fu 0 a J) EQJ := by
  have h' := h
  obtain ⟨hX, z11, b, c, d, e, ⟨L, t1, t2, t3, t4⟩, f⟩ := h'
  have g3 : J 0 3 = 0 ∨ J 0 3 = 1 := by
    obtain ⟨_, _, _, w, _⟩ := hg
    obtain ⟨_, _, _, _, _, _, _, _, w⟩ := w
    exact w
  by_cases ha : a = 0
  · by_cases h3 : J 0 3 = 0
    · have i8 : I 0 8 = 0 := b.trans h3
      unfold f_S_image f_X_image
      simp only [zj_e]
      rw [if_pos ha, if_pos i8, if_pos ha, if_pos h3]
      exact pq_gl (fun _ => pq_end ⟨h, i8⟩)
    · obtain ⟨c1, c2⟩ := c h3
      have j3 : J 0 3 = 1 := g3.resolve_left h3
      have i8 : I 0 8 = 1 := b.trans j3
      intro x I' y J' e1 e2
      obtain ⟨k1, k2, k3, k4, k5, k6⟩ := xv_image0 (fu := fu) a ha J h3 y J' e2
      unfold f_S_image at e1
      rw [if_pos ha, if_neg (by rw [i8]; decide)] at e1
      obtain ⟨x1, I1, a1, a2⟩ := of_zb e1
      obtain ⟨x2, I2, b1, b2⟩ := of_zb a2
      obtain ⟨_, b3⟩ := of_zg b2
      cases b3
      have hc := cv_hcopy (fu := fu) (0 + 1) (0 + 41) (by omega) I x1 I1 a1
      have fI : ∀ q j, ¬ ((16 ≤ q ∧ q < 41) ∨ (1 ≤ q ∧ q ≤ 13 ∧ q ≠ 3 ∧ q ≠ 7)) → I1 q j = I q j := fun q j hq => congrFun (fr_H_copyFrom (fun q => (16 ≤ q ∧ q < 41) ∨ (1 ≤ q ∧ q ≤ 13 ∧ q ≠ 3 ∧ q ≠ 7)) fu (0 + 1) (0 + 41) I (fun q a b => by omega) (by omega) (by omega) (by omega) (by omega) (by omega) (by omega) (by omega) (by omega) (by omega) (by omega) (by omega) a1 q hq) j
      have b1' : zb (f_C_clear fu (0 + 137) (I1 (0 + 2) 0) I1) (fun _ I2 => zr 0 I2) = some (x2, I') := b1
      obtain ⟨x3, I3, d1, d2⟩ := of_zb b1'
      cases d2
      obtain ⟨w1, w2, w3⟩ := cv_clear (fu := fu) (0 + 137) (I1 (0 + 2) 0) I1 x3 I' d1
      have fI' : ∀ q j, ¬ ((16 ≤ q ∧ q < 41) ∨ (1 ≤ q ∧ q ≤ 13) ∨ q = 138 ∨ (q = 137 ∧ 7 ≤ j ∧ j ≤ 11)) → I' q j = I q j := fun q j hq => (w3 q j (by omega) (by omega)).trans (fI q j (by omega))
      have hR : HR 1 1 I1 J' := hr_cp c1 hc k2
      have hR' : HR 1 1 I' J' := hr_mv hR (fun d j q => w3 _ _ (by unfold CH at q; omega) (by unfold CH at q; omega)) (fun _ _ => rfl)
      have n11 : I' 1 11 = -1 := ((w3 1 11 (by omega) (by omega)).trans hc.1.2.2).trans c2
      have j22 : J' 0 22 = J 0 22 := k6 0 22 (by omega) (by omega) (by omega)
      have i20 : I1 2 0 = J' 1 1 := hR.1.1 0 (by decide)
      have gs : 2 ≤ J' 1 1 ∧ J' 1 1 ≤ 8 := by
        rw [k2 1 (by decide)]
        obtain ⟨_, _, w, _⟩ := hg
        have w' := (w h3).1
        exact ⟨w'.1, w'.2.1⟩
      refine ⟨⟨⟨hR', ?_, ?_, ?_⟩, n11, ?_, fun _ => ⟨?_, ?_⟩, ⟨?_, ?_, ?_⟩, pk_zero k3 k4 gs w1 ⟨w2.1.trans i20, w2.2⟩, ⟨L, t1, ?_, ?_, fun j hj => ?_⟩, ⟨?_, ?_⟩⟩, ?_⟩
      · rw [n11, j22, ← hX.2.1, z11]
      · rw [fI' _ _ (by omega)]; exact hX.2.2.1
      · rw [fI' _ _ (by omega)]; exact hX.2.2.2
      · rw [fI' _ _ (by omega), i8, k5]
      · exact hr_mv c1 (fun d j q => fI' _ _ (by unfold CH at q; omega)) (fun j _ => k6 _ _ (by omega) (by omega) (by omega))
      · rw [fI' _ _ (by omega)]; exact c2
      · rw [fI' _ _ (by omega)]; exact d.1
      · rw [fI' _ _ (by omega)]; exact d.2.1
      · rw [fI' _ _ (by omega)]; exact d.2.2
      · rw [fI' _ _ (by omega)]; exact t2
      · rw [k6 _ _ (by omega) (by omega) (by omega)]; exact t3
      · rw [fI' _ _ (by omega), k6 _ _ (by omega) (by omega) (by omega)]; exact t4 j hj
      · rw [fI' _ _ (by omega), k6 _ _ (by omega) (by omega) (by omega)]; exact f.1
      · rw [fI' _ _ (by omega), k6 _ _ (by omega) (by omega) (by omega)]; exact f.2
      · rw [k1]; exact (fI' _ _ (by omega)).trans i8
  · intro x I' y J' e1 e2
    obtain ⟨k1, k2, k5, k6⟩ := xv_image1 (fu := fu) a ha J y J' e2
    unfold f_S_image at e1
    rw [if_neg ha] at e1
    obtain ⟨x1, I1, a1, a2⟩ := of_zb e1
    have hc := cv_hcopy (fu := fu) (0 + 41) (0 + 1) (by omega) I x1 I1 a1
    have fI : ∀ q j, ¬ ((56 ≤ q ∧ q < 81) ∨ (41 ≤ q ∧ q ≤ 53)) → I1 q j = I q j := fun q j hq => congrFun (fr_H_copyFrom (fun q => (56 ≤ q ∧ q < 81) ∨ (41 ≤ q ∧ q ≤ 53)) fu (0 + 41) (0 + 1) I (fun q a b => by omega) (by omega) (by omega) (by omega) (by omega) (by omega) (by omega) (by omega) (by omega) (by omega) (by omega) (by omega) a1 q hq) j
    have fin : par (zw I1 0 8 1 fun I10 => zg (I10 0 8 = 0 ∨ I10 0 8 = 1) (zr (I10 0 8) I10)) (fun x I' => x = 1 ∧ ∀ q j, I' q j = if q = 0 ∧ j = 8 then 1 else I1 q j) := par_zw' (fun I2 e2 => par_zg (fun _ => par_zr ⟨by rw [e2, if_pos ⟨rfl, rfl⟩], e2⟩))
    obtain ⟨g1, g2⟩ := fin x I' a2
    have fI' : ∀ q j, ¬ ((41 ≤ q ∧ q < 81) ∨ (q = 0 ∧ j = 8)) → I' q j = I q j := fun q j hq => by rw [g2, if_neg (by omega)]; exact fI q j (by omega)
    have hR : HR 41 2 I1 J' := hr_cp hX.1 hc k2
    refine ⟨⟨⟨hr_mv hX.1 (fun d j q => fI' _ _ (by unfold CH at q; omega)) (fun j _ => k6 _ _ (by omega) (by omega)), ?_, ?_, ?_⟩, ?_, ?_, fun _ => ⟨hr_mv hR (fun d j q => ?_) (fun _ _ => rfl), ?_⟩, ⟨?_, ?_, ?_⟩, pk_mv e (fun q j hq => fI' _ _ (by omega)) (fun q j hq => k6 _ _ (by omega) (by omega)) (fun k hk => ⟨⟨hk.1, by rw [k6 _ _ (by omega) (by omega)]; exact hk.2⟩, k6 _ _ (by omega) (by omega), k6 _ _ (by omega) (by omega)⟩), ⟨L, t1, ?_, ?_, fun j hj => ?_⟩, ⟨?_, ?_⟩⟩, ?_⟩
    · rw [fI' _ _ (by omega), k6 _ _ (by omega) (by omega)]; exact hX.2.1
    · rw [fI' _ _ (by omega)]; exact hX.2.2.1
    · rw [fI' _ _ (by omega)]; exact hX.2.2.2
    · rw [fI' _ _ (by omega)]; exact z11
    · rw [g2, if_pos ⟨rfl, rfl⟩, k5]
    · unfold CH at q
      rw [g2, if_neg (by omega)]
    · rw [g2, if_neg (by omega)]
      exact hc.1.2.2.trans z11
    · rw [fI' _ _ (by omega)]; exact d.1
    · rw [fI' _ _ (by omega)]; exact d.2.1
    · rw [fI' _ _ (by omega)]; exact d.2.2
    · rw [fI' _ _ (by omega)]; exact t2
    · rw [k6 _ _ (by omega) (by omega)]; exact t3
    · rw [fI' _ _ (by omega), k6 _ _ (by omega) (by omega)]; exact t4 j hj
    · rw [fI' _ _ (by omega), k6 _ _ (by omega) (by omega)]; exact f.1
    · rw [fI' _ _ (by omega), k6 _ _ (by omega) (by omega)]; exact f.2
    · rw [g1, k1]
end
