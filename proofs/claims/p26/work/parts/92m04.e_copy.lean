/-! the reference's copy of a TEXT into the hill -/
def TR (k j : Nat) : Prop := (1590 + 16 * k ≤ j ∧ j < 1606 + 16 * k) ∨ (1670 + 16 * k ≤ j ∧ j < 1686 + 16 * k) ∨ (1750 + 16 * k ≤ j ∧ j < 1766 + 16 * k) ∨ (1830 + 16 * k ≤ j ∧ j < 1846 + 16 * k)
def TC (k j : Nat) : Prop := j = 1580 + k ∨ TR k j ∨ (1910 + 820 * k ≤ j ∧ j < 2730 + 820 * k)
section
variable {fu : Nat}
theorem xc_145 {Q : Int → IMem → Prop} (kk : IMem → Res) (k : Nat) (hk : k < 5) (n : Nat) (hn : n ≤ 16) (J0 : IMem) (h10 : J0 0 10 = n) (hend : ∀ J : IMem, (∀ i, i < n → J 1 (1590 + 16 * k + i) = J0 4 (4 * i) ∧ J 1 (1670 + 16 * k + i) = J0 4 (4 * i + 1) ∧ J 1 (1750 + 16 * k + i) = J0 4 (4 * i + 2) ∧ J 1 (1830 + 16 * k + i) = J0 4 (4 * i + 3)) → (∀ q j, ¬ (q = 1 ∧ TR k j) → J q j = J0 q j) → par (kk J) Q) : ∀ (m i : Nat) (J : IMem), i ≤ n → (∀ t, t < i → J 1 (1590 + 16 * k + t) = J0 4 (4 * t) ∧ J 1 (1670 + 16 * k + t) = J0 4 (4 * t + 1) ∧ J 1 (1750 + 16 * k + t) = J0 4 (4 * t + 2) ∧ J 1 (1830 + 16 * k + t) = J0 4 (4 * t + 3)) → (∀ q j, ¬ (q = 1 ∧ TR k j) → J q j = J0 q j) → par (f_X_text_145 fu kk 0 (k : Int) m (i : Int) J) Q := by
  intro m
  induction m with
  | zero => intro _ _ _ _ _; exact par_none
  | succ m ih =>
    intro i J hi h1 h2
    show par (fb_X_text_145 fu kk 0 (k : Int) (f_X_text_145 fu kk 0 (k : Int) m) (i : Int) J) Q
    unfold fb_X_text_145
    have e10 : J 0 10 = n := (h2 0 10 (fun z => absurd z.1 (by decide))).trans h10
    rw [e10]
    by_cases q : i < n
    · rw [if_pos (show (i : Int) < (n : Int) by omega)]
      have a4 : Wq (wr32 (4 * (i : Int))) (((4 * i : Nat) : Int)) := by show wr32 (4 * (i : Int)) = ((4 * i : Nat) : Int); rw [wr32_i2 (by omega) (by omega)]; omega
      have a5 : Wq (wr32 (((4 * i : Nat) : Int) + 1)) (((4 * i + 1 : Nat) : Int)) := by show wr32 (((4 * i : Nat) : Int) + 1) = ((4 * i + 1 : Nat) : Int); rw [wr32_i2 (by omega) (by omega)]; omega
      have a6 : Wq (wr32 (((4 * i : Nat) : Int) + 2)) (((4 * i + 2 : Nat) : Int)) := by show wr32 (((4 * i : Nat) : Int) + 2) = ((4 * i + 2 : Nat) : Int); rw [wr32_i2 (by omega) (by omega)]; omega
      have a7 : Wq (wr32 (((4 * i : Nat) : Int) + 3)) (((4 * i + 3 : Nat) : Int)) := by show wr32 (((4 * i : Nat) : Int) + 3) = ((4 * i + 3 : Nat) : Int); rw [wr32_i2 (by omega) (by omega)]; omega
      have a0 : Wq (wr32 (16 * (k : Int))) (((16 * k : Nat) : Int)) := by show wr32 (16 * (k : Int)) = ((16 * k : Nat) : Int); rw [wr32_i2 (by omega) (by omega)]; omega
      have b1 : Wq (wr32 (1590 + ((16 * k : Nat) : Int))) (((1590 + 16 * k : Nat) : Int)) := by show wr32 (1590 + ((16 * k : Nat) : Int)) = ((1590 + 16 * k : Nat) : Int); rw [wr32_i2 (by omega) (by omega)]; omega
      have b2 : Wq (wr32 (1670 + ((16 * k : Nat) : Int))) (((1670 + 16 * k : Nat) : Int)) := by show wr32 (1670 + ((16 * k : Nat) : Int)) = ((1670 + 16 * k : Nat) : Int); rw [wr32_i2 (by omega) (by omega)]; omega
      have b3 : Wq (wr32 (1750 + ((16 * k : Nat) : Int))) (((1750 + 16 * k : Nat) : Int)) := by show wr32 (1750 + ((16 * k : Nat) : Int)) = ((1750 + 16 * k : Nat) : Int); rw [wr32_i2 (by omega) (by omega)]; omega
      have b4 : Wq (wr32 (1830 + ((16 * k : Nat) : Int))) (((1830 + 16 * k : Nat) : Int)) := by show wr32 (1830 + ((16 * k : Nat) : Int)) = ((1830 + 16 * k : Nat) : Int); rw [wr32_i2 (by omega) (by omega)]; omega
      have c1 : Wq (wr32 (((1590 + 16 * k : Nat) : Int) + (i : Int))) (((1590 + 16 * k + i : Nat) : Int)) := by show wr32 (((1590 + 16 * k : Nat) : Int) + (i : Int)) = ((1590 + 16 * k + i : Nat) : Int); rw [wr32_i2 (by omega) (by omega)]; omega
      have c2 : Wq (wr32 (((1670 + 16 * k : Nat) : Int) + (i : Int))) (((1670 + 16 * k + i : Nat) : Int)) := by show wr32 (((1670 + 16 * k : Nat) : Int) + (i : Int)) = ((1670 + 16 * k + i : Nat) : Int); rw [wr32_i2 (by omega) (by omega)]; omega
      have c3 : Wq (wr32 (((1750 + 16 * k : Nat) : Int) + (i : Int))) (((1750 + 16 * k + i : Nat) : Int)) := by show wr32 (((1750 + 16 * k : Nat) : Int) + (i : Int)) = ((1750 + 16 * k + i : Nat) : Int); rw [wr32_i2 (by omega) (by omega)]; omega
      have c4 : Wq (wr32 (((1830 + 16 * k : Nat) : Int) + (i : Int))) (((1830 + 16 * k + i : Nat) : Int)) := by show wr32 (((1830 + 16 * k : Nat) : Int) + (i : Int)) = ((1830 + 16 * k + i : Nat) : Int); rw [wr32_i2 (by omega) (by omega)]; omega
      simp only [zl_e]
      rw [a4.e, a5.e, a6.e, a7.e, a0.e, b1.e, b2.e, b3.e, b4.e, c1.e, c2.e, c3.e, c4.e, w_nx i (by omega)]
      simp only [tn]
      refine par_zg (fun _ => par_zg (fun _ => par_zw' (fun I1 e1 => par_zg (fun _ => par_zg (fun _ => par_zw' (fun I2 e2 => par_zg (fun _ => par_zg (fun _ => par_zw' (fun I3 e3 => par_zg (fun _ => par_zg (fun _ => par_zw' (fun I4 e4 => ?_))))))))))))
      refine ih (i + 1) I4 q (fun t ht => ?_) (fun q' j hq => ?_)
      · by_cases y : t = i
        · subst y
          refine ⟨?_, ?_, ?_, ?_⟩
          · rw [e4, if_neg (by omega), e3, if_neg (by omega), e2, if_neg (by omega), e1, if_pos (by omega)]
            exact h2 4 _ (fun z => absurd z.1 (by decide))
          · rw [e4, if_neg (by omega), e3, if_neg (by omega), e2, if_pos (by omega), e1, if_neg (by omega)]
            exact h2 4 _ (fun z => absurd z.1 (by decide))
          · rw [e4, if_neg (by omega), e3, if_pos (by omega), e2, if_neg (by omega), e1, if_neg (by omega)]
            exact h2 4 _ (fun z => absurd z.1 (by decide))
          · rw [e4, if_pos (by omega), e3, if_neg (by omega), e2, if_neg (by omega), e1, if_neg (by omega)]
            exact h2 4 _ (fun z => absurd z.1 (by decide))
        · obtain ⟨x1, x2, x3, x4⟩ := h1 t (by omega)
          refine ⟨?_, ?_, ?_, ?_⟩
          · rw [e4, if_neg (by omega), e3, if_neg (by omega), e2, if_neg (by omega), e1, if_neg (by omega)]; exact x1
          · rw [e4, if_neg (by omega), e3, if_neg (by omega), e2, if_neg (by omega), e1, if_neg (by omega)]; exact x2
          · rw [e4, if_neg (by omega), e3, if_neg (by omega), e2, if_neg (by omega), e1, if_neg (by omega)]; exact x3
          · rw [e4, if_neg (by omega), e3, if_neg (by omega), e2, if_neg (by omega), e1, if_neg (by omega)]; exact x4
      · have hq' := hq
        unfold TR at hq'
        rw [e4, if_neg (by omega), e3, if_neg (by omega), e2, if_neg (by omega), e1, if_neg (by omega)]
        exact h2 q' j hq
    · rw [if_neg (show ¬ (i : Int) < (n : Int) by omega)]
      have e : i = n := by omega
      subst e
      exact hend J h1 h2
theorem xc_259 (k : Nat) (hk : k < 5) (s : Nat) (hs : s ≤ 410) (J0 : IMem) (h11 : J0 0 11 = s) : ∀ (m i : Nat) (J : IMem), i ≤ 2 * s → (∀ j, j < i → J 1 (1910 + 820 * k + j) = J0 5 j) → (∀ q j, ¬ (q = 1 ∧ 1910 + 820 * k ≤ j ∧ j < 2730 + 820 * k) → J q j = J0 q j) → par (f_X_text_259 fu 0 (k : Int) m (i : Int) J) (fun _ J' => (∀ j, j < 2 * s → J' 1 (1910 + 820 * k + j) = J0 5 j) ∧ ∀ q j, ¬ (q = 1 ∧ 1910 + 820 * k ≤ j ∧ j < 2730 + 820 * k) → J' q j = J0 q j) := by
  intro m
  induction m with
  | zero => intro _ _ _ _ _; exact par_none
  | succ m ih =>
    intro i J hi h1 h2
    show par (fb_X_text_259 fu 0 (k : Int) (f_X_text_259 fu 0 (k : Int) m) (i : Int) J) _
    unfold fb_X_text_259
    have e11 : J 0 11 = s := (h2 0 11 (by omega)).trans h11
    have w0 : Wq (wr32 (2 * (s : Int))) (((2 * s : Nat) : Int)) := by show wr32 (2 * (s : Int)) = ((2 * s : Nat) : Int); rw [wr32_i2 (by omega) (by omega)]; omega
    rw [e11, w0.e]
    by_cases q : i < 2 * s
    · rw [if_pos (show (i : Int) < ((2 * s : Nat) : Int) by omega)]
      have a0 : Wq (wr32 (820 * (k : Int))) (((820 * k : Nat) : Int)) := by show wr32 (820 * (k : Int)) = ((820 * k : Nat) : Int); rw [wr32_i2 (by omega) (by omega)]; omega
      have b0 : Wq (wr32 (1910 + ((820 * k : Nat) : Int))) (((1910 + 820 * k : Nat) : Int)) := by show wr32 (1910 + ((820 * k : Nat) : Int)) = ((1910 + 820 * k : Nat) : Int); rw [wr32_i2 (by omega) (by omega)]; omega
      have c0 : Wq (wr32 (((1910 + 820 * k : Nat) : Int) + (i : Int))) (((1910 + 820 * k + i : Nat) : Int)) := by show wr32 (((1910 + 820 * k : Nat) : Int) + (i : Int)) = ((1910 + 820 * k + i : Nat) : Int); rw [wr32_i2 (by omega) (by omega)]; omega
      simp only [zl_e]
      rw [a0.e, b0.e, c0.e, w_nx i (by omega)]
      simp only [tn]
      refine par_zg (fun _ => par_zg (fun _ => par_zw' (fun I1 e1 => ih (i + 1) I1 q (fun j hj => ?_) (fun q' j hq => ?_))))
      · by_cases y : j = i
        · subst y
          rw [e1, if_pos (by omega)]
          exact h2 5 _ (by omega)
        · rw [e1, if_neg (by omega)]; exact h1 j (by omega)
      · rw [e1, if_neg (by omega)]; exact h2 q' j hq
    · rw [if_neg (show ¬ (i : Int) < ((2 * s : Nat) : Int) by omega)]
      have e : i = 2 * s := by omega
      subst e
      exact par_zr ⟨h1, h2⟩
/-- the TEXT lies in the hill -/
theorem xc_all {T : TXT} {d : Int} {t : Nat} {l : List LRec} {I J J' : IMem} (k : Nat) (hk : k < 5) (hs : T.s = (k : Int)) (h : INV T d t l I J) (g : ∀ q j, q ≠ 0 → J' q j = J q j) (g10 : J' 0 10 = J 0 10) (g11 : J' 0 11 = J 0 11) : par (zl (wr32 (1580 + (k : Int))) fun x28 => zg (0 ≤ x28 ∧ x28 < 6190) (zw J' (0 + 1) x28.toNat (J' 0 10) fun I27 => f_X_text_145 fu (fun (I42 : IMem) => f_X_text_259 fu 0 (k : Int) fu 0 I42) 0 (k : Int) fu 0 I27)) (fun _ J2 => LX 1 k l J2 ∧ ∀ j, ¬ TC k j → J2 1 j = J 1 j) := by
  obtain ⟨⟨ho, hc, hj, ht, hx, hp⟩, la, l2, l3, l4⟩ := h
  have hn := ho.1.2.1
  have hL := ho.2.1
  have h11 := hj.2.2.2.2.2.2.2.1
  have hcode := hj.2.2.2.2.2.2.2.2.1
  have hpl : (PX l).length ≤ 400 := by omega
  have w0 : Wq (wr32 (1580 + (k : Int))) (((1580 + k : Nat) : Int)) := by show wr32 (1580 + (k : Int)) = ((1580 + k : Nat) : Int); rw [wr32_i2 (by omega) (by omega)]; omega
  simp only [zl_e]
  rw [w0.e]
  simp only [tn]
  refine par_zg (fun _ => par_zw' (fun J1 e1 => ?_))
  have q4 : ∀ j, J1 4 j = J 4 j := fun j => by rw [e1, if_neg (by omega)]; exact g 4 j (by decide)
  have q5 : ∀ j, J1 5 j = J 5 j := fun j => by rw [e1, if_neg (by omega)]; exact g 5 j (by decide)
  refine xc_145 (fu := fu) _ k hk l.length l4 J1 (by rw [e1, if_neg (by omega), g10, l3]) (fun J2 r1 r2 => ?_) fu 0 J1 (Nat.zero_le _) (fun t ht => absurd ht (Nat.not_lt_zero _)) (fun _ _ _ => rfl)
  refine par_mono (xc_259 (fu := fu) k hk (PX l).length (by omega) J2 ?_ fu 0 J2 (Nat.zero_le _) (fun t ht => absurd ht (Nat.not_lt_zero _)) (fun _ _ _ => rfl)) (fun _ J3 ⟨s1, s2⟩ => ⟨⟨?_, fun i hi => ⟨?_, ?_⟩, fun i r hr => ?_⟩, fun j hj => ?_⟩)
  · rw [r2 0 11 (fun z => absurd z.1 (by decide)), e1, if_neg (by omega), g11, h11]
  · rw [s2 _ _ (by omega), r2 _ _ (fun z => by have := z.2; unfold TR at this; omega), e1, if_pos (by omega), g10, l3]
  · rw [s1 (2 * i) (by omega), r2 _ _ (fun z => absurd z.1 (by decide)), q5]
    exact (hcode i hi).1
  · have z := s1 (2 * i + 1) (by omega)
    rw [show 1910 + 820 * k + (2 * i + 1) = 1910 + 820 * k + 2 * i + 1 by omega] at z
    rw [z, r2 _ _ (fun z => absurd z.1 (by decide)), q5]
    exact (hcode i hi).2
  · have hi := lt_of_get hr
    obtain ⟨x0, x1, x2, x3⟩ := r1 i hi
    obtain ⟨_, _, k3, k4, k5, k6⟩ := la i r hr
    refine ⟨?_, ?_, ?_, fun z => ?_⟩
    · rw [s2 _ _ (by omega), x1, q4]; exact k3
    · rw [s2 _ _ (by omega), x2, q4]; exact k4
    · rw [s2 _ _ (by omega), x3, q4]; exact k5
    · obtain ⟨y1, y2⟩ := k6 (by rw [hs, z]; rfl)
      refine ⟨y1, ?_⟩
      rw [s2 _ _ (by omega), x0, q4]; exact y2
  · have hj' := hj
    unfold TC at hj'
    rw [s2 _ _ (by omega), r2 _ _ (fun z => hj' (Or.inr (Or.inl z.2))), e1, if_neg (by omega)]
    exact g 1 j (by decide)
end
/-! the first start of the reader's draft stays -/
section
variable {fu : Nat}
theorem z_close (I : IMem) : par (f_W_closeLine fu 149 I) (fun _ I' => I' 151 0 = I 151 0) := by
  unfold f_W_closeLine
  refine par_ite (fun _ => par_zr rfl) (fun c => par_ite (fun c2 => ?_) (fun _ => par_zr rfl))
  refine par_zw' (fun I1 e1 => par_zl (par_zg (fun _ => par_zw' (fun I2 e2 => par_zr ?_))))
  have h4 : I1 149 4 = I 149 4 + 1 := by rw [e1, if_pos ⟨rfl, rfl⟩, wr32_i2 (by omega) (by omega)]
  rw [e2, if_neg (by rw [h4]; omega), e1, if_neg (by omega)]
theorem z_exp (d : Int) (I : IMem) : par (f_R_expect fu 144 d I) (fun _ I' => I' 151 0 = I 151 0) := fun v I' e => congrFun (fr_R_expect (fun q => q ≠ 151) fu 144 d I (by omega) e 151 (by omega)) 0
theorem z_sum (I : IMem) : par (f_R_readSum fu 144 I) (fun _ I' => I' 151 0 = I 151 0) := fun v I' e => congrFun (fr_R_readSum (fun q => q ≠ 151) fu 144 I (by omega) (by omega) (by omega) e 151 (by omega)) 0
theorem z_target (I : IMem) : par (f_R_readTarget fu 144 I) (fun _ I' => I' 151 0 = I 151 0) := fun v I' e => congrFun (fr_R_readTarget (fun q => q ≠ 151) fu 144 I (by omega) (by omega) (by omega) e 151 (by omega)) 0
theorem z_ei (a : Int) (I : IMem) : par (f_R_readEither fu 144 a I) (fun _ I' => I' 151 0 = I 151 0) := fun v I' e => congrFun (fr_R_readEither (fun q => q ≠ 151) fu 144 a I (by omega) (by omega) (by omega) e 151 (by omega)) 0
theorem z_when (I : IMem) : par (f_W_startWhen fu 149 I) (fun _ I' => I' 151 0 = I 151 0) := fun v I' e => congrFun (fr_W_startWhen (fun q => q ≠ 151) fu 149 I (by omega) e 151 (by omega)) 0
theorem z_full (I : IMem) : par (f_W_isFull fu 149 I) (fun _ I' => I' 151 0 = I 151 0) := fun v I' e => congrFun (fr_W_isFull (fun q => q ≠ 151) fu 149 I e 151 (by omega)) 0
theorem z_fail (a : Int) (I : IMem) : par (f_R_fail fu 144 a I) (fun _ I' => I' 151 0 = I 151 0) := fun v I' e => congrFun (fr_R_fail (fun q => q ≠ 151) fu 144 a I (by omega) e 151 (by omega)) 0
theorem z_scan (I : IMem) : par (f_R_scan fu 144 I) (fun _ I' => I' 151 0 = I 151 0) := fun v I' e => congrFun (fr_R_scan (fun q => q ≠ 151) fu 144 I (by omega) (by omega) (by omega) (by omega) e 151 (by omega)) 0
theorem z_forget (I : IMem) : par (f_R_forget fu 144 I) (fun _ I' => I' 151 0 = I 151 0) := fun v I' e => congrFun (fr_R_forget (fun q => q ≠ 151) fu 144 I (by omega) e 151 (by omega)) 0
theorem z_clear (I : IMem) : par (f_W_clear fu 149 I) (fun _ I' => I' 151 0 = I 151 0) := fun v I' e => congrFun (fr_W_clear (fun q => q ≠ 151) fu 149 I (by omega) e 151 (by omega)) 0
theorem z_adv (I : IMem) : par (f_R_advance fu 144 I) (fun _ I' => I' 151 0 = I 151 0) := fun v I' e => congrFun (fr_R_advance (fun q => q ≠ 151) fu 144 I (by omega) e 151 (by omega)) 0
theorem z_K14 (I : IMem) : par (cK14 fu I) (fun _ I' => I' 151 0 = I 151 0) := by
  unfold cK14
  exact par_zb (z_exp 59 I) (fun _ I1 g1 => par_zb (z_close I1) (fun _ I2 g2 => par_zr (g2.trans g1)))
theorem z_K22 (I : IMem) : par (cK22 fu I) (fun _ I' => I' 151 0 = I 151 0) := by
  unfold cK22
  exact par_zb (z_exp 1 I) (fun _ I1 g1 => par_zb (z_ei 0 I1) (fun _ I2 g2 => par_mono (z_K14 I2) (fun _ _ g => g.trans (g2.trans g1))))
theorem z_K9 (I : IMem) : par (cK9 fu I) (fun _ I' => I' 151 0 = I 151 0) := by
  unfold cK9
  refine par_zb (z_when I) (fun _ I1 g1 => ?_)
  have g14 := par_mono (z_K14 (fu := fu) I1) (fun _ _ g => g.trans g1)
  have g22 := par_mono (z_K22 (fu := fu) I1) (fun _ _ g => g.trans g1)
  exact par_ite (fun _ => par_ite (fun _ => g22) (fun _ => g14)) (fun _ => g22)
theorem z_K4 (x : Int) (I : IMem) : par (cK4 fu x I) (fun _ I' => I' 151 0 = I 151 0) := by
  unfold cK4
  refine par_zb (z_exp x I) (fun _ I1 g1 => par_ite (fun _ => par_zb (z_sum I1) (fun _ I2 g2 => par_mono (z_K9 I2) (fun _ _ g => g.trans (g2.trans g1)))) (fun _ => par_zb (z_target I1) (fun _ I2 g2 => par_mono (z_K9 I2) (fun _ _ g => g.trans (g2.trans g1)))))
theorem z_line (I : IMem) : par (f_R_readLine fu 144 I) (fun _ I' => I' 151 0 = I 151 0) := by
  obtain ⟨kw, hk⟩ : ∃ kw : Int, (I 144 9 = 0 ∧ kw = 0) ∨ (I 144 9 ≠ 0 ∧ kw = 11) := by
    by_cases h : I 144 9 = 0
    · exact ⟨0, Or.inl ⟨h, rfl⟩⟩
    · exact ⟨11, Or.inr ⟨h, rfl⟩⟩
  rw [line_eq fu kw I hk]
  refine par_ite (fun _ => par_zb (z_full I) (fun _ I1 g1 => par_ite (fun _ => par_mono (z_K4 kw I1) (fun _ _ g => g.trans g1)) (fun _ => par_zb (z_fail 3 I1) (fun _ I2 g2 => par_mono (z_K4 kw I2) (fun _ _ g => g.trans (g2.trans g1)))))) (fun _ => z_K4 kw I)
theorem z_31 : ∀ (m : Nat) (w : Int) (I : IMem), par (f_R_understand_31 fu kUn 144 m w I) (fun _ I' => I' 151 0 = I 151 0) := by
  intro m
  induction m with
  | zero => intro _ _; exact par_none
  | succ m ih =>
    intro w I
    show par (fb_R_understand_31 fu kUn 144 (f_R_understand_31 fu kUn 144 m) w I) _
    unfold fb_R_understand_31
    have hk : par (kUn I) (fun _ I' => I' 151 0 = I 151 0) := by
      unfold kUn
      exact par_ite (fun _ => par_zr rfl) (fun _ => par_zr rfl)
    refine par_ite (fun _ => par_ite (fun _ => par_ite (fun _ => hk) (fun _ => ?_)) (fun _ => hk)) (fun _ => hk)
    exact par_zb (z_line I) (fun _ I1 g => par_zl (par_mono (ih _ I1) (fun _ _ g2 => g2.trans g)))
theorem z_und (x : Int) (I : IMem) : par (f_R_understand fu 144 x I) (fun _ I' => I' 151 0 = I 151 0) := by
  unfold f_R_understand
  refine par_zb (z_scan I) (fun _ I1 g1 => par_zb (z_forget I1) (fun _ I2 g2 => par_zg (fun _ => par_zw' (fun I3 e3 => par_zb (z_clear I3) (fun _ I4 g4 => par_zw' (fun I5 e5 => par_zb (z_adv I5) (fun _ I6 g6 => par_mono (z_31 fu 0 I6) (fun _ _ g => ?_))))))))
  have h5 : I5 151 0 = I4 151 0 := by rw [e5, if_neg (by omega)]
  have h3 : I3 151 0 = I2 151 0 := by rw [e3, if_neg (by omega)]
  exact g.trans (g6.trans (h5.trans (g4.trans (h3.trans (g2.trans g1)))))
end
