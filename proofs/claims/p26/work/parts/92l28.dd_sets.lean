/-! calls that set: both sides -/
section
variable {fu : Nat} {I J : IMem}
theorem ev_canTell (a b : Int) (I : IMem) : ∃ v, f_S_canTell fu a b I = zr v I ∧ ((v = 0 ∧ ¬ CSet a b) ∨ (v = 1 ∧ CSet a b)) := by
  unfold f_S_canTell
  by_cases h : 0 ≤ a ∧ a ≤ 5
  · have hl : (a = 0 → leastZ a.toNat = 2 ∧ mostZ a.toNat = 8) ∧ (a = 1 → leastZ a.toNat = 1 ∧ mostZ a.toNat = 99) ∧ (a = 2 → leastZ a.toNat = 0 ∧ mostZ a.toNat = 999) ∧ (a = 3 → leastZ a.toNat = 0 ∧ mostZ a.toNat = 1000) ∧ (a = 4 → leastZ a.toNat = 0 ∧ mostZ a.toNat = 99) ∧ (a = 5 → leastZ a.toNat = 0 ∧ mostZ a.toNat = 3) := by
      refine ⟨?_, ?_, ?_, ?_, ?_, ?_⟩ <;> (intro e; subst e; decide)
    rw [if_neg (show ¬ a < 0 by omega), if_neg (show ¬ 5 < a by omega), zg_t (show 0 ≤ a ∧ a < 6 by omega)]
    by_cases h1 : b < leastZ a.toNat
    · rw [if_pos h1]
      exact ⟨0, rfl, Or.inl ⟨rfl, by unfold CSet; omega⟩⟩
    · rw [if_neg h1, zg_t (show 0 ≤ a ∧ a < 6 by omega)]
      by_cases h2 : mostZ a.toNat < b
      · rw [if_pos h2]
        exact ⟨0, rfl, Or.inl ⟨rfl, by unfold CSet; omega⟩⟩
      · rw [if_neg h2]
        exact ⟨1, rfl, Or.inr ⟨rfl, by unfold CSet; omega⟩⟩
  · rw [out2 (a := a < 0) (b := 5 < a) (by omega)]
    exact ⟨0, rfl, Or.inl ⟨rfl, by unfold CSet; omega⟩⟩
def XSW (fu : Nat) (a b : Int) (J : IMem) : Res := zl (wr32 (1 + a)) fun x5 => zg (0 ≤ x5 ∧ x5 < 6190) (zw J (0 + 1) x5.toNat b fun I4 => if a = 0 then zb (f_X_forgets fu 0 I4) fun _ I7 => zr 1 I7 else zr 1 I4)
theorem xe_set1 {a b : Int} (hc : CSet a b) (J : IMem) : f_X_set fu 0 a b J = XSW fu a b J := by
  unfold CSet at hc
  unfold f_X_set XSW
  simp only [zj_e]
  rcases hc with ⟨e, c1, c2⟩ | ⟨e, c1, c2⟩ | ⟨e, c1, c2⟩ | ⟨e, c1, c2⟩ | ⟨e, c1, c2⟩ | ⟨e, c1, c2⟩
  · rw [if_pos e, ev_isIn, zb_zr, if_pos (show 2 ≤ b ∧ b ≤ 8 from ⟨c1, c2⟩), if_neg ne10]
  · rw [if_neg (show ¬ a = 0 by omega), if_pos e, ev_isIn, zb_zr, if_pos (show 1 ≤ b ∧ b ≤ 99 from ⟨c1, c2⟩), if_neg ne10]
  · rw [if_neg (show ¬ a = 0 by omega), if_neg (show ¬ a = 1 by omega), if_pos e, ev_isIn, zb_zr, if_pos (show 0 ≤ b ∧ b ≤ 999 from ⟨c1, c2⟩), if_neg ne10]
  · rw [if_neg (show ¬ a = 0 by omega), if_neg (show ¬ a = 1 by omega), if_neg (show ¬ a = 2 by omega), if_pos e, ev_isIn, zb_zr, if_pos (show 0 ≤ b ∧ b ≤ 1000 from ⟨c1, c2⟩), if_neg ne10]
  · rw [if_neg (show ¬ a = 0 by omega), if_neg (show ¬ a = 1 by omega), if_neg (show ¬ a = 2 by omega), if_neg (show ¬ a = 3 by omega), if_pos e, ev_isIn, zb_zr, if_pos (show 0 ≤ b ∧ b ≤ 99 from ⟨c1, c2⟩), if_neg ne10]
  · rw [if_neg (show ¬ a = 0 by omega), if_neg (show ¬ a = 1 by omega), if_neg (show ¬ a = 2 by omega), if_neg (show ¬ a = 3 by omega), if_neg (show ¬ a = 4 by omega), if_pos e, ev_isIn, zb_zr, if_pos (show 0 ≤ b ∧ b ≤ 3 from ⟨c1, c2⟩), if_neg ne10, if_neg ne10]
theorem xe_set0 {a b : Int} (hc : ¬ CSet a b) (J : IMem) : f_X_set fu 0 a b J = zr 0 J := by
  unfold CSet at hc
  unfold f_X_set
  simp only [zj_e]
  by_cases h0 : a = 0
  · rw [if_pos h0, ev_isIn, zb_zr, if_neg (show ¬ (2 ≤ b ∧ b ≤ 8) by omega), if_pos eq00]
  rw [if_neg h0]
  by_cases h1 : a = 1
  · rw [if_pos h1, ev_isIn, zb_zr, if_neg (show ¬ (1 ≤ b ∧ b ≤ 99) by omega), if_pos eq00]
  rw [if_neg h1]
  by_cases h2 : a = 2
  · rw [if_pos h2, ev_isIn, zb_zr, if_neg (show ¬ (0 ≤ b ∧ b ≤ 999) by omega), if_pos eq00]
  rw [if_neg h2]
  by_cases h3 : a = 3
  · rw [if_pos h3, ev_isIn, zb_zr, if_neg (show ¬ (0 ≤ b ∧ b ≤ 1000) by omega), if_pos eq00]
  rw [if_neg h3]
  by_cases h4 : a = 4
  · rw [if_pos h4, ev_isIn, zb_zr, if_neg (show ¬ (0 ≤ b ∧ b ≤ 99) by omega), if_pos eq00]
  rw [if_neg h4]
  by_cases h5 : a = 5
  · rw [if_pos h5, ev_isIn, zb_zr, if_neg (show ¬ (0 ≤ b ∧ b ≤ 3) by omega), if_pos eq00, if_pos trivial]
  rw [if_neg h5, if_pos trivial]
theorem pj_set (a b : Int) (h : RJ I J) : pq (f_S_set fu 0 a b I) (f_X_set fu 0 a b J) EQJ := by
  obtain ⟨v, ev, hv⟩ := ev_canTell (fu := fu) a b I
  unfold f_S_set
  rw [ev, zb_zr]
  rcases hv with ⟨v0, hc⟩ | ⟨v1, hc⟩
  · rw [v0, if_pos eq00, xe_set0 hc J]
    exact pq_end ⟨h, rfl⟩
  · rw [v1, if_neg ne10, xe_set1 hc J]
    unfold CSet at hc
    unfold XSW
    simp only [zl_e]
    rw [wr32_i2 (x := 1 + a) (by omega) (by omega)]
    refine pq_gl (fun _ => pq_zwl' (fun I1 e1 => pq_gr (fun _ => pq_zwr' (fun J1 e2 => ?_))))
    by_cases z : a = 0
    · rw [if_pos z, if_pos z]
      rw [z] at e1 e2
      have hb : 2 ≤ b ∧ b ≤ 8 := by omega
      refine pq_of (P1 := fun x I2 => x = 1 ∧ (∀ j, j < 240 → I2 138 j = 0) ∧ (I2 137 7 = b ∧ I2 137 8 = 0 ∧ I2 137 9 = 0 ∧ I2 137 10 = 0 ∧ I2 137 11 = 0) ∧ ∀ q j, q ≠ 138 → ¬ (q = 137 ∧ 7 ≤ j ∧ j ≤ 11) → I2 q j = I1 q j) (P2 := fun y J2 => y = 1 ∧ (∀ j, j < 240 → J2 13 j = 0) ∧ J2 0 35 = 0 ∧ ∀ q j, q ≠ 13 → ¬ (q = 0 ∧ j = 35) → J2 q j = J1 q j) ?_ ?_ ?_
      · exact par_zb (cv_clear (0 + 137) b I1) (fun _ I2 ⟨g1, g2, g3⟩ => par_zr ⟨rfl, g1, g2, g3⟩)
      · exact par_zb (xv_forgets J1) (fun _ J2 ⟨g1, g2, g3⟩ => par_zr ⟨rfl, g1, g2, g3⟩)
      · intro x I2 y J2 ⟨g0, g1, g2, g3⟩ ⟨k0, k1, k2, k3⟩
        have io : ∀ q j, q ≠ 138 → ¬ (q = 137 ∧ 7 ≤ j ∧ j ≤ 11) → ¬ (q = 2 ∧ j = 0) → I2 q j = I q j := fun q j a1 a2 a3 => by rw [g3 q j a1 a2, e1, if_neg (show ¬ (q = 0 + 2 ∧ j = (0 : Int).toNat) from a3)]
        have jo : ∀ q j, q ≠ 13 → ¬ (q = 0 ∧ j = 35) → ¬ (q = 1 ∧ j = 1) → J2 q j = J q j := fun q j a1 a2 a3 => by rw [k3 q j a1 a2, e2, if_neg (show ¬ (q = 0 + 1 ∧ j = (1 + (0 : Int)).toNat) from a3)]
        have i20 : I2 2 0 = b := by rw [g3 _ _ (by omega) (by omega), e1, if_pos ⟨rfl, rfl⟩]
        have j11 : J2 1 1 = b := by rw [k3 _ _ (by omega) (by omega), e2, if_pos ⟨rfl, rfl⟩]
        have h' := h
        obtain ⟨⟨⟨hS, hY, hP, hL, hW⟩, hz, hA⟩, a2, b2, cc, d, e, ⟨L, t1, t2, t3, t4⟩, f⟩ := h'
        refine ⟨rj_mv h ⟨⟨hs_cell (o := 2) (j := 0) (c := 1) (v := b) hS (Or.inr ⟨rfl, rfl, rfl⟩) (fun q i hq => ?_) (fun i hi => ?_), hy_mv hY (fun j => io _ _ (by omega) (by omega) (by omega)) (fun j _ _ => jo _ _ (by omega) (by omega) (by omega)), hp_mv hP (fun j => ⟨io _ _ (by omega) (by omega) (by omega), io _ _ (by omega) (by omega) (by omega)⟩) (fun j _ => jo _ _ (by omega) (by omega) (by omega)), hl_mv hL (fun j => ⟨io _ _ (by omega) (by omega) (by omega), io _ _ (by omega) (by omega) (by omega)⟩) (fun j _ _ => jo _ _ (by omega) (by omega) (by omega)), hw_mv hW (fun d j _ _ _ => io _ _ (by omega) (by omega) (by omega)) (fun j _ _ => jo _ _ (by omega) (by omega) (by omega))⟩, ?_, ?_, ?_⟩ (io _ _ (by omega) (by omega) (by omega)) (fun q j _ => io _ _ (by omega) (by omega) (by omega)) (fun q j _ => jo _ _ (by omega) (by omega) (by omega)) (pk_zero k1 k2 (by rw [j11]; exact hb) g1 ⟨by rw [g2.1, j11], g2.2⟩) ⟨L, t1, ?_, ?_, fun i hi => ?_⟩ ⟨?_, ?_⟩, by rw [g0, k0]⟩
        · by_cases y1 : q = 2 ∧ i = 0
          · rw [if_pos y1, y1.1, y1.2]; exact i20
          · rw [if_neg y1]; exact io _ _ (by omega) (by omega) y1
        · by_cases y1 : i = 1
          · rw [if_pos y1, y1]; exact j11
          · rw [if_neg y1]; exact jo _ _ (by omega) (by omega) (by omega)
        · rw [io _ _ (by omega) (by omega) (by omega), jo _ _ (by omega) (by omega) (by omega)]; exact hz
        · rw [io _ _ (by omega) (by omega) (by omega)]; exact hA.1
        · rw [io _ _ (by omega) (by omega) (by omega)]; exact hA.2
        · rw [io _ _ (by omega) (by omega) (by omega)]; exact t2
        · rw [jo _ _ (by omega) (by omega) (by omega)]; exact t3
        · rw [io _ _ (by omega) (by omega) (by omega), jo _ _ (by omega) (by omega) (by omega)]; exact t4 i hi
        · rw [io _ _ (by omega) (by omega) (by omega), jo _ _ (by omega) (by omega) (by omega)]; exact f.1
        · rw [io _ _ (by omega) (by omega) (by omega), jo _ _ (by omega) (by omega) (by omega)]; exact f.2
    · rw [if_neg z, if_neg z]
      exact pq_end ⟨rj_cell (o := 2) (j := a.toNat) (c := (1 + a).toNat) h (Or.inr (Or.inl ⟨rfl, by omega, by omega, by omega⟩)) e1 e2, rfl⟩
theorem cv_tell {k : Nat} {a b c d : Int} (hk : k < 8) : par (f_H_tellComer fu 1 (k : Int) a b c d I) (fun _ I' => ∀ q j, I' q j = if q = 5 ∧ j = 4 * k + 3 then d else if q = 5 ∧ j = 4 * k + 2 then c else if q = 5 ∧ j = 4 * k + 1 then b else if q = 5 ∧ j = 4 * k then a else I q j) := by
  unfold f_H_tellComer
  have s0 : Wq (wr32 (4 * (k : Int))) (((4 * k : Nat) : Int)) := by show wr32 (4 * (k : Int)) = ((4 * k : Nat) : Int); rw [wr32_i2 (by omega) (by omega)]; omega
  have s1 : Wq (wr32 (((4 * k : Nat) : Int) + 1)) (((4 * k + 1 : Nat) : Int)) := by show wr32 (((4 * k : Nat) : Int) + 1) = ((4 * k + 1 : Nat) : Int); rw [wr32_i2 (by omega) (by omega)]; omega
  have s2 : Wq (wr32 (((4 * k : Nat) : Int) + 2)) (((4 * k + 2 : Nat) : Int)) := by show wr32 (((4 * k : Nat) : Int) + 2) = ((4 * k + 2 : Nat) : Int); rw [wr32_i2 (by omega) (by omega)]; omega
  have s3 : Wq (wr32 (((4 * k : Nat) : Int) + 3)) (((4 * k + 3 : Nat) : Int)) := by show wr32 (((4 * k : Nat) : Int) + 3) = ((4 * k + 3 : Nat) : Int); rw [wr32_i2 (by omega) (by omega)]; omega
  simp only [zl_e]
  rw [if_neg (show ¬ (k : Int) < 0 by omega), if_pos (show (k : Int) < 8 by omega), s0.e, s1.e, s2.e, s3.e]
  refine par_zg (fun _ => par_zw' (fun I1 e1 => par_zg (fun _ => par_zw' (fun I2 e2 => par_zg (fun _ => par_zw' (fun I3 e3 => par_zg (fun _ => par_zw' (fun I4 e4 => par_zr (fun q j => ?_)))))))))
  rw [e4, e3, e2, e1]
  rfl
theorem pj_comer (a1 a2 a3 a4 a5 : Int) (h : RJ I J) : pq (f_S_comer fu 0 a1 a2 a3 a4 a5 I) (f_X_comer fu 0 a1 a2 a3 a4 a5 J) EQJ := by
  unfold f_S_comer f_X_comer
  rw [ev_isIn, zb_zr, ev_canBe, zb_zr]
  by_cases h1 : 0 ≤ a1 ∧ a1 ≤ 7
  · rw [if_neg (show ¬ a1 < 0 by omega), if_pos (show a1 < 8 by omega), if_pos h1, if_neg ne10, ev_isGroup, zb_zr]
    by_cases h2 : 1 ≤ a2 ∧ a2 ≤ 8 ∧ 1 ≤ a3 ∧ a3 ≤ a2 ∧ 0 ≤ a4 ∧ a4 ≤ 3
    · rw [if_pos h2, if_neg ne10, if_neg ne10, ev_isIn, zb_zr]
      by_cases h3 : 0 ≤ a5 ∧ a5 ≤ 1000
      · rw [if_neg (show ¬ a5 < 0 by omega), if_neg (show ¬ 1000 < a5 by omega), if_pos h3, if_neg ne10]
        obtain ⟨k, rfl⟩ : ∃ k : Nat, a1 = (k : Int) := ⟨a1.toNat, by omega⟩
        have hk : k < 8 := by omega
        have s0 : Wq (wr32 (4 * (k : Int))) (((4 * k : Nat) : Int)) := by show wr32 (4 * (k : Int)) = ((4 * k : Nat) : Int); rw [wr32_i2 (by omega) (by omega)]; omega
        have r0 : Wq (wr32 (26 + ((4 * k : Nat) : Int))) (((26 + 4 * k : Nat) : Int)) := by show wr32 (26 + ((4 * k : Nat) : Int)) = ((26 + 4 * k : Nat) : Int); rw [wr32_i2 (by omega) (by omega)]; omega
        have r1 : Wq (wr32 (((26 + 4 * k : Nat) : Int) + 1)) (((26 + (4 * k + 1) : Nat) : Int)) := by show wr32 (((26 + 4 * k : Nat) : Int) + 1) = ((26 + (4 * k + 1) : Nat) : Int); rw [wr32_i2 (by omega) (by omega)]; omega
        have r2 : Wq (wr32 (((26 + 4 * k : Nat) : Int) + 2)) (((26 + (4 * k + 2) : Nat) : Int)) := by show wr32 (((26 + 4 * k : Nat) : Int) + 2) = ((26 + (4 * k + 2) : Nat) : Int); rw [wr32_i2 (by omega) (by omega)]; omega
        have r3 : Wq (wr32 (((26 + 4 * k : Nat) : Int) + 3)) (((26 + (4 * k + 3) : Nat) : Int)) := by show wr32 (((26 + 4 * k : Nat) : Int) + 3) = ((26 + (4 * k + 3) : Nat) : Int); rw [wr32_i2 (by omega) (by omega)]; omega
        simp only [zl_e]
        rw [s0.e, r0.e, r1.e, r2.e, r3.e]
        refine pq_gr (fun _ => pq_zwr' (fun J1 e1 => pq_gr (fun _ => pq_zwr' (fun J2 e2 => pq_gr (fun _ => pq_zwr' (fun J3 e3 => pq_gr (fun _ => pq_zwr' (fun J4 e4 => pq_l ?_))))))))
        refine par_zb (cv_tell hk) (fun _ I' g => par_zr ⟨?_, rfl⟩)
        have m : ∀ f : Nat, f < 4 → MTC 5 (4 * k + f) (26 + (4 * k + f)) := fun f hf => Or.inr (Or.inr (Or.inr (Or.inr (Or.inl ⟨rfl, by omega, rfl⟩))))
        have x1 : RJ (up I 5 (4 * k) a2) J1 := rj_cell (o := 5) (j := 4 * k) (c := 26 + 4 * k) h (m 0 (by decide)) (fun _ _ => rfl) e1
        have x2 : RJ (up (up I 5 (4 * k) a2) 5 (4 * k + 1) a3) J2 := rj_cell (o := 5) (j := 4 * k + 1) (c := 26 + (4 * k + 1)) x1 (m 1 (by decide)) (fun _ _ => rfl) e2
        have x3 : RJ (up (up (up I 5 (4 * k) a2) 5 (4 * k + 1) a3) 5 (4 * k + 2) a4) J3 := rj_cell (o := 5) (j := 4 * k + 2) (c := 26 + (4 * k + 2)) x2 (m 2 (by decide)) (fun _ _ => rfl) e3
        have x4 : RJ (up (up (up (up I 5 (4 * k) a2) 5 (4 * k + 1) a3) 5 (4 * k + 2) a4) 5 (4 * k + 3) a5) J4 := rj_cell (o := 5) (j := 4 * k + 3) (c := 26 + (4 * k + 3)) x3 (m 3 (by decide)) (fun _ _ => rfl) e4
        have e : I' = up (up (up (up I 5 (4 * k) a2) 5 (4 * k + 1) a3) 5 (4 * k + 2) a4) 5 (4 * k + 3) a5 := funext fun q => funext fun j => g q j
        rw [e]; exact x4
      · rw [if_neg h3, if_pos eq00, out2 (a := a5 < 0) (b := 1000 < a5) (by omega)]
        exact pq_end ⟨h, rfl⟩
    · rw [if_neg h2, if_pos eq00, if_pos eq00]
      exact pq_end ⟨h, rfl⟩
  · rw [if_neg h1, if_pos eq00]
    by_cases h3 : a1 < 0
    · rw [if_pos h3]; exact pq_end ⟨h, rfl⟩
    · rw [if_neg h3, if_neg (show ¬ a1 < 8 by omega)]; exact pq_end ⟨h, rfl⟩
/-- the heap's first n, and without a -/
def hpS (J : IMem) : Nat → Int
  | 0 => 0
  | n + 1 => hpS J n + J 1 (60 + (n + 1))
def hpX (J : IMem) (a : Nat) : Nat → Int
  | 0 => 0
  | n + 1 => hpX J a n + if n + 1 = a then 0 else J 1 (60 + (n + 1))
theorem hpX_e (a : Nat) (ha : 1 ≤ a) : ∀ n : Nat, hpX J a n = hpS J n - if a ≤ n then J 1 (60 + a) else 0 := by
  intro n
  induction n with
  | zero => rw [if_neg (show ¬ a ≤ 0 by omega)]; rfl
  | succ n ih =>
    show hpX J a n + (if n + 1 = a then 0 else J 1 (60 + (n + 1))) = hpS J n + J 1 (60 + (n + 1)) - _
    rw [ih]
    by_cases q : n + 1 = a
    · rw [if_pos q, if_neg (show ¬ a ≤ n by omega), if_pos (show a ≤ n + 1 by omega), ← q]; omega
    · rw [if_neg q]
      by_cases q2 : a ≤ n
      · rw [if_pos q2, if_pos (show a ≤ n + 1 by omega)]; omega
      · rw [if_neg q2, if_neg (show ¬ a ≤ n + 1 by omega)]; omega
theorem hp_b (hh : ∀ s : Nat, 1 ≤ s → s ≤ 8 → 0 ≤ J 1 (60 + s) ∧ J 1 (60 + s) ≤ 12) (a : Nat) : ∀ n : Nat, n ≤ 8 → (0 ≤ hpS J n ∧ hpS J n ≤ 12 * (n : Int)) ∧ (0 ≤ hpX J a n ∧ hpX J a n ≤ 12 * (n : Int)) := by
  intro n
  induction n with
  | zero => intro _; exact ⟨⟨Int.le_refl _, Int.le_refl _⟩, ⟨Int.le_refl _, Int.le_refl _⟩⟩
  | succ n ih =>
    intro hn
    obtain ⟨⟨i1, i2⟩, i3, i4⟩ := ih (by omega)
    obtain ⟨z1, z2⟩ := hh (n + 1) (by omega) hn
    have e : hpS J (n + 1) = hpS J n + J 1 (60 + (n + 1)) := rfl
    have e2 : hpX J a (n + 1) = hpX J a n + if n + 1 = a then 0 else J 1 (60 + (n + 1)) := rfl
    refine ⟨by omega, ?_⟩
    rw [e2]
    by_cases q : n + 1 = a
    · rw [if_pos q]; omega
    · rw [if_neg q]; omega
theorem cv_heap {Q : Int → IMem → Prop} (kk : Int → IMem → Res) (p1 p2 : Int) (x : Int) (hx : -1000 ≤ x ∧ x ≤ 1000) (hI : ∀ s : Nat, 1 ≤ s → s ≤ 8 → I 6 s = J 1 (60 + s)) (hh : ∀ s : Nat, 1 ≤ s → s ≤ 8 → 0 ≤ J 1 (60 + s) ∧ J 1 (60 + s) ≤ 12) (hend : par (kk (x + hpS J 8) I) Q) : ∀ (m n : Nat), n ≤ 8 → par (f_S_heap_38 fu kk 0 p1 p2 m (x + hpS J n) ((n + 1 : Nat) : Int) I) Q := by
  intro m
  induction m with
  | zero => intro _ _; exact par_none
  | succ m ih =>
    intro n hn
    show par (fb_S_heap_38 fu kk 0 p1 p2 (f_S_heap_38 fu kk 0 p1 p2 m) (x + hpS J n) ((n + 1 : Nat) : Int) I) _
    unfold fb_S_heap_38
    by_cases q : n < 8
    · rw [if_pos (show ((n + 1 : Nat) : Int) < 9 by omega)]
      refine par_zg (fun _ => ?_)
      obtain ⟨⟨b1, b2⟩, _⟩ := hp_b hh 0 n hn
      obtain ⟨z1, z2⟩ := hh (n + 1) (by omega) q
      simp only [zl_e]
      rw [show I (0 + 6) ((n + 1 : Nat) : Int).toNat = J 1 (60 + (n + 1)) from hI (n + 1) (by omega) q, w_nx (n + 1) (by omega), wr32_i2 (x := x + hpS J n + J 1 (60 + (n + 1))) (by omega) (by omega), show x + hpS J n + J 1 (60 + (n + 1)) = x + hpS J (n + 1) from Int.add_assoc _ _ _]
      exact ih (n + 1) q
    · rw [if_neg (show ¬ ((n + 1 : Nat) : Int) < 9 by omega)]
      have : n = 8 := by omega
      subst this
      exact hend
theorem xv_heap {Q : Int → IMem → Prop} (kk : Int → IMem → Res) (a : Nat) (p2 : Int) (x : Int) (hx : -1000 ≤ x ∧ x ≤ 1000) (hh : ∀ s : Nat, 1 ≤ s → s ≤ 8 → 0 ≤ J 1 (60 + s) ∧ J 1 (60 + s) ≤ 12) (hend : par (kk (x + hpX J a 8) J) Q) : ∀ (m n : Nat), n ≤ 8 → par (f_X_heap_27 fu kk 0 (a : Int) p2 m (x + hpX J a n) ((n + 1 : Nat) : Int) J) Q := by
  intro m
  induction m with
  | zero => intro _ _; exact par_none
  | succ m ih =>
    intro n hn
    show par (fb_X_heap_27 fu kk 0 (a : Int) p2 (f_X_heap_27 fu kk 0 (a : Int) p2 m) (x + hpX J a n) ((n + 1 : Nat) : Int) J) _
    unfold fb_X_heap_27
    by_cases q : n < 8
    · rw [if_neg (show ¬ 8 < ((n + 1 : Nat) : Int) by omega)]
      obtain ⟨_, b1, b2⟩ := hp_b hh a n hn
      obtain ⟨z1, z2⟩ := hh (n + 1) (by omega) q
      have e2 : hpX J a (n + 1) = hpX J a n + if n + 1 = a then 0 else J 1 (60 + (n + 1)) := rfl
      simp only [zl_e, zj_e]
      rw [w_nx (n + 1) (by omega)]
      by_cases q2 : n + 1 = a
      · rw [if_pos (show ((n + 1 : Nat) : Int) = (a : Int) by omega), wr32_i2 (x := x + hpX J a n + 0) (by omega) (by omega)]
        rw [if_pos q2] at e2
        rw [show x + hpX J a n + 0 = x + hpX J a (n + 1) by omega]
        exact ih (n + 1) q
      · rw [if_neg (show ¬ ((n + 1 : Nat) : Int) = (a : Int) by omega)]
        rw [if_neg q2] at e2
        rw [show wr32 (60 + ((n + 1 : Nat) : Int)) = ((60 + (n + 1) : Nat) : Int) by rw [wr32_i2 (by omega) (by omega)]; omega]
        refine par_zg (fun _ => ?_)
        rw [show J (0 + 1) ((60 + (n + 1) : Nat) : Int).toNat = J 1 (60 + (n + 1)) from rfl, wr32_i2 (x := x + hpX J a n + J 1 (60 + (n + 1))) (by omega) (by omega), show x + hpX J a n + J 1 (60 + (n + 1)) = x + hpX J a (n + 1) by omega]
        exact ih (n + 1) q
    · rw [if_pos (show 8 < ((n + 1 : Nat) : Int) by omega)]
      have : n = 8 := by omega
      subst this
      exact hend
theorem pj_heap (a b : Int) (h : RJ I J) (hg : GX 0 J) : pq (f_S_heap fu 0 a b I) (f_X_heap fu 0 a b J) EQJ := by
  have hS : HS 1 1 I J := h.1.1.1
  have hh : ∀ s : Nat, 1 ≤ s → s ≤ 8 → 0 ≤ J 1 (60 + s) ∧ J 1 (60 + s) ≤ 12 := by
    have w := hg.2.1.2.2.2.2.1
    obtain ⟨w1, w2⟩ := w
    unfold hsum at w2
    have y : ∀ k : Nat, 1 ≤ k → k ≤ 8 → 0 ≤ J 1 (60 + k) := w1
    have y1 : 0 ≤ J 1 61 := y 1 (by decide) (by decide)
    have y2 : 0 ≤ J 1 62 := y 2 (by decide) (by decide)
    have y3 : 0 ≤ J 1 63 := y 3 (by decide) (by decide)
    have y4 : 0 ≤ J 1 64 := y 4 (by decide) (by decide)
    have y5 : 0 ≤ J 1 65 := y 5 (by decide) (by decide)
    have y6 : 0 ≤ J 1 66 := y 6 (by decide) (by decide)
    have y7 : 0 ≤ J 1 67 := y 7 (by decide) (by decide)
    have y8 : 0 ≤ J 1 68 := y 8 (by decide) (by decide)
    have w3 : J 1 61 + J 1 62 + J 1 63 + J 1 64 + J 1 65 + J 1 66 + J 1 67 + J 1 68 ≤ 12 := w2
    intro s s1 s2
    rcases (show s = 1 ∨ s = 2 ∨ s = 3 ∨ s = 4 ∨ s = 5 ∨ s = 6 ∨ s = 7 ∨ s = 8 by omega) with e | e | e | e | e | e | e | e <;> subst e <;> constructor
    · exact y1
    · show J 1 61 ≤ 12; omega
    · exact y2
    · show J 1 62 ≤ 12; omega
    · exact y3
    · show J 1 63 ≤ 12; omega
    · exact y4
    · show J 1 64 ≤ 12; omega
    · exact y5
    · show J 1 65 ≤ 12; omega
    · exact y6
    · show J 1 66 ≤ 12; omega
    · exact y7
    · show J 1 67 ≤ 12; omega
    · exact y8
    · show J 1 68 ≤ 12; omega
  have hI : ∀ s : Nat, 1 ≤ s → s ≤ 8 → I 6 s = J 1 (60 + s) := fun s s1 s2 => hS.2.2.2.2.2.2 s s1 s2
  unfold f_S_heap f_X_heap
  rw [ev_isIn, zb_zr]
  by_cases h1 : 1 ≤ a ∧ a ≤ 8
  · rw [if_neg (show ¬ a < 1 by omega), if_neg (show ¬ 8 < a by omega), if_pos h1, if_neg ne10, ev_isIn, zb_zr]
    by_cases h2 : 0 ≤ b ∧ b ≤ 9
    · rw [if_neg (show ¬ b < 0 by omega), if_neg (show ¬ 9 < b by omega), if_pos h2, if_neg ne10]
      obtain ⟨k, rfl⟩ : ∃ k : Nat, a = (k : Int) := ⟨a.toNat, by omega⟩
      have hk := hh k (by omega) (by omega)
      simp only [zl_e]
      refine pq_gl (fun _ => ?_)
      rw [show I (0 + 6) ((k : Nat) : Int).toNat = J 1 (60 + k) from hI k (by omega) (by omega), wr32_i2 (x := b - J 1 (60 + k)) (by omega) (by omega)]
      have e8 := hpX_e (J := J) k (by omega) 8
      rw [if_pos (show k ≤ 8 by omega)] at e8
      have w60 : Wq (wr32 (60 + (k : Int))) (((60 + k : Nat) : Int)) := by show wr32 (60 + (k : Int)) = ((60 + k : Nat) : Int); rw [wr32_i2 (by omega) (by omega)]; omega
      have fin : pq (if 12 < b + hpX J k 8 then zr 0 I else zg (0 ≤ (k : Int) ∧ (k : Int) < 9) (zw I (0 + 6) ((k : Nat) : Int).toNat b fun I6 => zr 1 I6)) (if 12 < b + hpX J k 8 then zr 0 J else zg (0 ≤ ((60 + k : Nat) : Int) ∧ ((60 + k : Nat) : Int) < 6190) (zw J (0 + 1) ((60 + k : Nat) : Int).toNat b fun I15 => zr 1 I15)) EQJ := by
        refine pq_ii Iff.rfl (fun _ _ => pq_end ⟨h, rfl⟩) (fun _ _ => pq_gl (fun _ => pq_zwl' (fun I1 e1 => pq_gr (fun _ => pq_zwr' (fun J1 e2 => pq_end ⟨?_, rfl⟩)))))
        exact rj_cell (o := 6) (j := k) (c := 60 + k) h (Or.inr (Or.inr (Or.inr (Or.inr (Or.inr ⟨rfl, by omega, by omega, rfl⟩))))) e1 e2
      intro x I' y J' q1 q2
      have p2 := xv_heap (fu := fu) (J := J) (Q := fun y J' => (if 12 < b + hpX J k 8 then zr 0 J else zg (0 ≤ ((60 + k : Nat) : Int) ∧ ((60 + k : Nat) : Int) < 6190) (zw J (0 + 1) ((60 + k : Nat) : Int).toNat b fun I15 => zr 1 I15)) = some (y, J')) (fun (x14 : Int) (I13 : IMem) => if 12 < x14 then zr 0 I13 else zg (0 ≤ wr32 (60 + (k : Int)) ∧ wr32 (60 + (k : Int)) < 6190) (zw I13 (0 + 1) (wr32 (60 + (k : Int))).toNat b fun I15 => zr 1 I15)) k b b (by omega) hh (fun y J' e => by rw [w60.e] at e; exact e) fu 0 (by decide)
      have p1 := cv_heap (fu := fu) (I := I) (J := J) (Q := fun x I' => (if 12 < b + hpX J k 8 then zr 0 I else zg (0 ≤ (k : Int) ∧ (k : Int) < 9) (zw I (0 + 6) ((k : Nat) : Int).toNat b fun I6 => zr 1 I6)) = some (x, I')) (fun (x5 : Int) (I4 : IMem) => if 12 < x5 then zr 0 I4 else zg (0 ≤ (k : Int) ∧ (k : Int) < 9) (zw I4 (0 + 6) ((k : Nat) : Int).toNat b fun I6 => zr 1 I6)) k b (b - J 1 (60 + k)) (by omega) hI hh (fun x I' e => by rw [show b - J 1 (60 + k) + hpS J 8 = b + hpX J k 8 by omega] at e; exact e) fu 0 (by decide)
      rw [show b + hpX J k 0 = b from Int.add_zero b] at p2
      rw [show b - J 1 (60 + k) + hpS J 0 = b - J 1 (60 + k) from Int.add_zero _] at p1
      exact fin x I' y J' (p1 x I' q1) (p2 y J' q2)
    · rw [if_neg h2, if_pos eq00, out2 (a := b < 0) (b := 9 < b) (by omega)]
      exact pq_end ⟨h, rfl⟩
  · rw [if_neg h1, if_pos eq00, out2 (a := a < 1) (b := 8 < a) (by omega)]
    exact pq_end ⟨h, rfl⟩
end
