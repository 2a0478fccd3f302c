/-! NUMBERS through a whole chair: the reference -/
section
variable {fu : Nat} {Q : Int → IMem → Prop}
/-- the numbers of those who sit are written down -/
def NMV (J0 : IMem) (i : Nat) (J : IMem) : Prop := (∀ q j, ¬ (q = 1 ∧ ((81 ≤ j ∧ j ≤ 108) ∨ (112 ≤ j ∧ j ≤ 127))) → J q j = J0 q j) ∧ ∀ i' k : Nat, i' < i → J0 11 i' = (k : Int) → J 1 (112 + i') = J0 1 (140 + 6 * k)
theorem xn_61 (kk : IMem → Res) (p1 : Int) (J0 : IMem) (n : Nat) (hn : J0 0 31 = (n : Int)) (hn8 : n ≤ 8) (ho : ∀ i : Nat, i < n → ∃ k z : Nat, k < 240 ∧ J0 11 i = (k : Int) ∧ J0 9 k = (z : Int) ∧ 1 ≤ z ∧ z ≤ 8) (hend : ∀ J, NMV J0 n J → par (kk J) Q) : ∀ (m i : Nat) (J : IMem), i ≤ n → NMV J0 i J → par (f_X_goesOff_61 fu kk 0 p1 m (i : Int) J) Q := by
  intro m
  induction m with
  | zero => intro _ _ _ _; exact par_none
  | succ m ih =>
    intro i J hi hV
    have hV' := hV
    obtain ⟨v1, v2⟩ := hV'
    show par (fb_X_goesOff_61 fu kk 0 p1 (f_X_goesOff_61 fu kk 0 p1 m) (i : Int) J) Q
    unfold fb_X_goesOff_61
    have j31 : J 0 31 = (n : Int) := (v1 _ _ (by omega)).trans hn
    rw [j31]
    by_cases h : i < n
    · rw [if_pos (show (i : Int) < (n : Int) by omega)]
      obtain ⟨k, z, hk, k2, k3, z1, z8⟩ := ho i h
      have t1 : J 11 i = (k : Int) := (v1 _ _ (by omega)).trans k2
      have t2 : J 9 k = (z : Int) := (v1 _ _ (by omega)).trans k3
      have wn : Wq (wr32 ((i : Int) + 1)) (((i + 1 : Nat) : Int)) := by show wr32 ((i : Int) + 1) = ((i + 1 : Nat) : Int); rw [wr32_i2 (by omega) (by omega)]; rfl
      simp only [zl_e, zj_e, Nat.zero_add]
      rw [wn.e, show ((i : Nat) : Int).toNat = i from rfl, t1, wd40 k hk, wr40 k hk]
      refine par_zg (fun _ => par_zg (fun _ => par_zg (fun _ => par_zg (fun _ => ?_))))
      rw [show ((k : Nat) : Int).toNat = k from rfl, t2, ev_of4 fu 0 (k / 40) (k % 40) J (by omega) (by omega), zb_zr, ev_of0 fu 0 (k / 40) (k % 40) J (by omega) (by omega), zb_zr, show 40 * (k / 40) + k % 40 = k by omega]
      have w1 : Wq (wr32 (112 + (i : Int))) (((112 + i : Nat) : Int)) := by show wr32 (112 + (i : Int)) = ((112 + i : Nat) : Int); rw [wr32_i2 (by omega) (by omega)]; omega
      have w2 : Wq (wr32 (120 + (i : Int))) (((120 + i : Nat) : Int)) := by show wr32 (120 + (i : Int)) = ((120 + i : Nat) : Int); rw [wr32_i2 (by omega) (by omega)]; omega
      have w3 : Wq (wr32 (80 + (z : Int))) (((80 + z : Nat) : Int)) := by show wr32 (80 + (z : Int)) = ((80 + z : Nat) : Int); rw [wr32_i2 (by omega) (by omega)]; omega
      have w4 : Wq (wr32 (90 + (z : Int))) (((90 + z : Nat) : Int)) := by show wr32 (90 + (z : Int)) = ((90 + z : Nat) : Int); rw [wr32_i2 (by omega) (by omega)]; omega
      have w5 : Wq (wr32 (100 + (z : Int))) (((100 + z : Nat) : Int)) := by show wr32 (100 + (z : Int)) = ((100 + z : Nat) : Int); rw [wr32_i2 (by omega) (by omega)]; omega
      rw [w1.e, w2.e, w3.e, w4.e, w5.e]
      have y0 : J (0 + 1) (140 + 6 * k + 0) = J0 1 (140 + 6 * k) := v1 1 (140 + 6 * k) (by omega)
      rw [y0]
      refine par_zg (fun _ => par_zw' (fun J1 e1 => par_zg (fun _ => par_zw' (fun J2 e2 => par_zg (fun _ => par_zg (fun _ => par_zw' (fun J3 e3 => par_zg (fun _ => par_zg (fun _ => par_zw' (fun J4 e4 => par_zg (fun _ => ?_)))))))))))
      rw [show ((112 + i : Nat) : Int).toNat = 112 + i from rfl] at e1
      rw [show ((120 + i : Nat) : Int).toNat = 120 + i from rfl] at e2
      rw [show ((80 + z : Nat) : Int).toNat = 80 + z from rfl] at e3
      rw [show ((90 + z : Nat) : Int).toNat = 90 + z from rfl] at e4
      have b4 : ∀ q j, ¬ (q = 1 ∧ (j = 80 + z ∨ j = 90 + z ∨ j = 100 + z ∨ j = 120 + i)) → J4 q j = if q = 1 ∧ j = 112 + i then J0 1 (140 + 6 * k) else J q j := fun q j hq => by
        rw [e4, if_neg (by omega), e3, if_neg (by omega), e2, if_neg (by omega), e1]
      clear e4 e3 e2 e1
      have fin : ∀ J5 : IMem, (∀ q j, ¬ (q = 1 ∧ (j = 80 + z ∨ j = 90 + z ∨ j = 100 + z ∨ j = 120 + i)) → J5 q j = if q = 1 ∧ j = 112 + i then J0 1 (140 + 6 * k) else J q j) → NMV J0 (i + 1) J5 := by
        intro J5 e5
        refine ⟨fun q j hq => ?_, fun i' k' hi' hk' => ?_⟩
        · rw [e5 q j (by omega), if_neg (by omega)]; exact v1 q j hq
        · by_cases y : i' = i
          · have e : k' = k := by rw [y] at hk'; omega
            rw [y, e5 1 _ (by omega), if_pos ⟨rfl, rfl⟩, e]
          · rw [e5 1 _ (by omega), if_neg (by omega)]; exact v2 i' k' (by omega) hk'
      refine par_ite (fun _ => par_zg (fun _ => par_zw' (fun J5 e5 => ih (i + 1) J5 h (fin J5 (fun q j hq => ?_))))) (fun _ => ih (i + 1) J4 h (fin J4 b4))
      rw [show ((100 + z : Nat) : Int).toNat = 100 + z from rfl] at e5
      rw [e5, if_neg (by omega)]
      exact b4 q j hq
    · rw [if_neg (show ¬ (i : Int) < (n : Int) by omega)]
      have : i = n := by omega
      subst this
      exact hend J hV
/-- what a chair that goes does to the NUMBERS that stand -/
def NGO (J J' : IMem) : Prop := NUQ J' ∧ (∀ N, STD N J' → STD N J) ∧ J' 0 23 = J 0 23 ∧ (∀ j, (j < 70 ∧ j ≠ 0) ∨ (1580 ≤ j ∧ j < 6010) → J' 1 j = J 1 j) ∧ (J 0 24 = 0 → STD (J 0 23) J → (STD (J 0 23) J' → J' 0 24 = 0) ∧ (¬ STD (J 0 23) J' → (J' 0 24 = 0 ↔ ∃ i : Nat, (i : Int) < J' 1 110 ∧ i < 8 ∧ J' 1 (112 + i) = J 0 23)))
theorem xn_goes {J : IMem} (t8 : J 0 31 ≤ 8) (n240 : J 0 32 ≤ 240) (h9 : ∀ k, INL J k → 0 ≤ J 9 k ∧ J 9 k ≤ J 1 (141 + 6 * k)) (hS : CVS J) (hU : NUQ J) (hc : ∀ l, l < 6 → 0 ≤ J 1 (130 + l) ∧ J 1 (130 + l) ≤ 40) (hz : ∀ k, INL J k → 1 ≤ J 1 (141 + 6 * k) ∧ J 1 (141 + 6 * k) ≤ 8) (h70 : 0 ≤ J 1 70 ∧ J 1 70 < 2000000000) : par (f_X_goesOff fu 0 J) (fun _ J' => NGO J J') := by
  obtain ⟨b2, b4⟩ := hS.1
  obtain ⟨n, hnn⟩ : ∃ n : Nat, J 0 32 = (n : Int) := ⟨(J 0 32).toNat, by omega⟩
  obtain ⟨t, htt⟩ : ∃ t : Nat, J 0 31 = (t : Int) := ⟨(J 0 31).toNat, by omega⟩
  obtain ⟨c, hcc⟩ : ∃ c : Nat, J 1 70 = (c : Int) := ⟨(J 1 70).toNat, by omega⟩
  rw [goes_eq]
  simp only [zl_e, Nat.zero_add]
  refine par_zw' (fun J1 e1 => par_zw' (fun J2 e2 => par_zw' (fun J3 e3 => par_zw' (fun J5 e5 => ?_))))
  have s5 : ∀ q j, ¬ (q = 1 ∧ (j = 71 ∨ j = 72 ∨ j = 110 ∨ j = 111)) → J5 q j = J q j := fun q j hq => by
    rw [e5, if_neg (by omega), e3, if_neg (by omega), e2, if_neg (by omega), e1, if_neg (by omega)]
  have j110 : J5 1 110 = J 0 31 := by
    rw [e5, if_neg (by omega), e3, if_pos ⟨rfl, rfl⟩, e2, if_neg (by omega), e1, if_neg (by omega)]
  clear e5 e3 e2 e1
  refine xn_61 _ _ J5 t ((s5 _ _ (by omega)).trans htt) (by omega) (fun i hi => ?_) (fun J6 hN => ?_) fu 0 J5 (Nat.zero_le _) ⟨fun _ _ _ => rfl, fun i' _ hi' => absurd hi' (Nat.not_lt_zero _)⟩
  · obtain ⟨k, k1, k2, k5⟩ := hS.2.2.2.1 i (by omega)
    have k6 := h9 k k1
    have k7 := hz k k1
    refine ⟨k, (J 9 k).toNat, k1.1, (s5 _ _ (by omega)).trans k2, ?_, by omega, by omega⟩
    rw [s5 9 k (by omega)]; omega
  obtain ⟨n1, n2⟩ := hN
  have s6 : ∀ q j, ¬ (q = 1 ∧ (j = 71 ∨ j = 72 ∨ j = 110 ∨ j = 111 ∨ (81 ≤ j ∧ j ≤ 108) ∨ (112 ≤ j ∧ j ≤ 127))) → J6 q j = J q j := fun q j hq => (n1 q j (by omega)).trans (s5 q j (by omega))
  refine xv_outs (fu := fu) _ _ J6 n ((s6 _ _ (by omega)).trans hnn) (by omega) (fun i hi => ?_) (fun J7 o1 o2 => ?_) fu 0 J6 (Nat.zero_le _) (fun _ _ _ => rfl) (fun i' _ _ hi' => absurd hi' (Nat.not_lt_zero _))
  · obtain ⟨k, k1, k2, _⟩ := hS.2.2.2.2.1 i (by omega)
    exact ⟨k, k1.1, (s6 _ _ (by omega)).trans k2⟩
  have s7 : ∀ q j, q ≠ 14 → ¬ (q = 1 ∧ (j = 71 ∨ j = 72 ∨ j = 110 ∨ j = 111 ∨ (81 ≤ j ∧ j ≤ 108) ∨ (112 ≤ j ∧ j ≤ 127))) → J7 q j = J q j := fun q j h1 h2 => (o1 q j h1).trans (s6 q j h2)
  have c7 : ∀ l, l < 6 → J7 1 (130 + l) = J 1 (130 + l) := fun l hl => s7 1 _ (by decide) (by omega)
  have hc7 : ∀ l, l < 6 → 0 ≤ J7 1 (130 + l) ∧ J7 1 (130 + l) ≤ 40 := fun l hl => by rw [c7 l hl]; exact hc l hl
  have inl7 : ∀ k, INL J7 k ↔ INL J k := fun k => ⟨inl_to (fun l hl => (c7 l hl).symm), inl_to c7⟩
  have num7 : ∀ k, J7 1 (140 + 6 * k) = J 1 (140 + 6 * k) := fun k => s7 1 _ (by decide) (by omega)
  have hU7 : NUQ J7 := fun k k' a b e => hU k k' ((inl7 k).mp a) ((inl7 k').mp b) (by rw [← num7 k, ← num7 k']; exact e)
  have hS7 : CVS J7 := cvs_fr hS c7 (fun q j hq => s7 q j (by omega) (by omega))
  refine xn_266 _ _ J7 hc7 (fun k hk => ?_) (fun J8 hM => ?_) fu 0 J7 (Nat.zero_le _) ⟨fun _ _ _ => rfl, fun _ _ _ => ⟨rfl, fun _ _ _ => rfl⟩, fun l' hl' => absurd hl' (Nat.not_lt_zero _)⟩
  · have z := hz k ((inl7 k).mp hk)
    have m := h9 k ((inl7 k).mp hk)
    rw [s7 9 k (by decide) (by omega), s7 1 (140 + 6 * k + 1) (by decide) (by omega), show 140 + 6 * k + 1 = 141 + 6 * k by omega]
    omega
  have hM' := hM
  obtain ⟨m1, _, m3⟩ := hM'
  obtain ⟨x1, x2⟩ := xm_src hc7 hM
  have hc8 : ∀ l, l < 6 → 0 ≤ J8 1 (130 + l) ∧ J8 1 (130 + l) ≤ 40 := fun l hl => by
    have a := (m3 l hl).1
    have b := cnB_lek (P := KPb J7 l) (J7 1 (130 + l)).toNat
    have d := hc7 l hl
    omega
  have hG0 : GNV J7 J8 0 J8 := by
    refine ⟨fun _ _ _ _ => rfl, hc8, fun k hk => ?_, fun k k' a b e => ?_, x2, fun i' _ hi' => absurd hi' (Nat.not_lt_zero _), fun hne => ?_⟩
    · obtain ⟨k0, a, b, d, _, _⟩ := x1 k hk
      exact ⟨k0, a, d, Or.inl b⟩
    · obtain ⟨k0, a1, a2, a3, a4, a5⟩ := x1 k a
      obtain ⟨k0', d1, d2, d3, d4, d5⟩ := x1 k' b
      have q : k0 = k0' := hU7 k0 k0' a1 d1 (a3.symm.trans (e.trans d3))
      rw [← q] at d4 d5
      omega
    · exact Or.inl (by rw [← m1 0 24 (by omega)]; exact hne)
  refine xn_285 _ _ hS7 hU7 ((s7 0 32 (by decide) (by omega)).trans hnn) (by omega) ((m1 0 32 (by omega)).trans ((s7 0 32 (by decide) (by omega)).trans hnn)) (m1 0 23 (by omega)) (fun i k hi hk => ?_) (fun J9 hV => ?_) fu 0 J8 (Nat.zero_le _) hG0
  · have a : J6 10 i = (k : Int) := (o1 10 i (by decide)).symm.trans hk
    have g : J7 14 (6 * i) = J6 1 (140 + 6 * k) := o2 i k 0 hi a (by decide)
    exact ((m1 14 (6 * i) (by omega)).trans g).trans (o1 1 (140 + 6 * k) (by decide)).symm
  obtain ⟨v1, v2, va, vb, vc, vd, ve⟩ := hV
  have s9 : ∀ q j, q ≠ 14 → ¬ (q = 1 ∧ (j = 71 ∨ j = 72 ∨ j = 76 ∨ j = 110 ∨ j = 111 ∨ (81 ≤ j ∧ j ≤ 108) ∨ (112 ≤ j ∧ j ≤ 127) ∨ (130 ≤ j ∧ j < 1580))) → ¬ (q = 0 ∧ j = 24) → J9 q j = J q j := fun q j h1 h2 h3 => ((v1 q j (by omega) h3).trans (m1 q j (by omega))).trans (s7 q j h1 (by omega))
  have u9 : ∀ j, 110 ≤ j → j < 130 → J9 1 j = J6 1 j := fun j h1 h2 => ((v1 1 j (by omega) (by omega)).trans (m1 1 j (by omega))).trans (o1 1 j (by decide))
  refine par_mono (xv_tail (fu := fu) _ J9 c ((s9 1 70 (by decide) (by omega) (by omega)).trans hcc) (by omega)) (fun _ J' ⟨_, _, _, h4⟩ => ?_)
  have k1 : ∀ j, 110 ≤ j → j < 1580 → J' 1 j = J9 1 j := fun j a b => by
    rw [h4 _ _ (by omega) (by omega), if_neg (by omega), if_neg (by omega), if_neg (by omega), if_neg (by omega), if_neg (by omega), if_neg (by omega), if_neg (by omega)]
  have k0 : ∀ j, j ≠ 35 → J' 0 j = J9 0 j := fun j a => by
    rw [h4 _ _ (by omega) (by omega), if_neg (by omega), if_neg (by omega), if_neg (by omega), if_neg (by omega), if_neg (by omega), if_neg (by omega), if_neg (by omega)]
  have k7 : ∀ j, (j < 70 ∧ j ≠ 0) ∨ (1580 ≤ j ∧ j < 6010) → J' 1 j = J9 1 j := fun j hj => by
    rw [h4 _ _ (by omega) (by omega), if_neg (by omega), if_neg (by omega), if_neg (by omega), if_neg (by omega), if_neg (by omega), if_neg (by omega), if_neg (by omega)]
  clear h4
  have ci : ∀ l, l < 6 → J' 1 (130 + l) = J9 1 (130 + l) := fun l hl => k1 _ (by omega) (by omega)
  have ci' : ∀ l, l < 6 → J9 1 (130 + l) = J' 1 (130 + l) := fun l hl => (ci l hl).symm
  have st : ∀ N, STD N J' ↔ STD N J9 := fun N => ⟨fun ⟨k, a, b⟩ => ⟨k, inl_to ci' a, by rw [← b]; exact (k1 _ (by omega) (by have := a.1; omega)).symm⟩, fun ⟨k, a, b⟩ => ⟨k, inl_to ci a, by rw [← b]; exact k1 _ (by omega) (by have := a.1; omega)⟩⟩
  have n9 : J7 0 23 = J 0 23 := s7 0 23 (by decide) (by omega)
  refine ⟨fun k k' a b e => ?_, fun N hN => ?_, ?_, ?_, fun h24 hst => ⟨fun z => ?_, fun z => ⟨fun y => ?_, ?_⟩⟩⟩
  · rw [k1 _ (by omega) (by have := a.1; omega), k1 _ (by omega) (by have := b.1; omega)] at e
    exact vb k k' (inl_to ci' a) (inl_to ci' b) e
  · obtain ⟨k, a, b⟩ := (st N).mp hN
    obtain ⟨k0', r1, r2, _⟩ := va k a
    exact ⟨k0', (inl7 k0').mp r1, by rw [← num7 k0', ← r2]; exact b⟩
  · rw [k0 23 (by decide)]; exact s9 0 23 (by decide) (by omega) (by omega)
  · exact fun j hj => (k7 j hj).trans (s9 1 j (by decide) (by omega) (by omega))
  · rw [k0 24 (by decide)]
    refine Classical.byContradiction (fun q => ?_)
    rcases ve q with x | ⟨i', k', _, _, _, x⟩
    · exact x ((s7 0 24 (by decide) (by omega)).trans h24)
    · rw [n9] at x
      exact x ((st _).mp z)
  · -- it is not lost: it sits
    rw [k0 24 (by decide)] at y
    obtain ⟨k, a, b⟩ := hst
    have a7 := (inl7 k).mpr a
    have b7 : J7 1 (140 + 6 * k) = J 0 23 := (num7 k).trans b
    have dk : 40 * (k / 40) + k % 40 = k := by omega
    by_cases hk : KPb J7 (k / 40) (k % 40) = true
    · have g := vc k a7 hk
      rw [b7] at g
      exact absurd ((st _).mpr g) z
    · by_cases h12 : J7 12 k = 0
      · have h9 : J7 9 k ≠ 0 := fun q => hk (kp_iff.mpr ⟨by rw [dk]; exact h12, by
          rw [dk, q, s7 1 _ (by decide) (by omega), show 140 + 6 * k + 1 = 141 + 6 * k by omega]
          have := (hz k a).1
          omega⟩)
        obtain ⟨_, _, i, i1, i2⟩ := hS7.2.1 k a.1 h9
        rw [s7 0 31 (by decide) (by omega)] at i1
        rw [s7 11 i (by decide) (by omega)] at i2
        refine ⟨i, ?_, by omega, ?_⟩
        · rw [k1 110 (by decide) (by decide), u9 110 (by decide) (by decide), n1 1 110 (by omega), j110]; exact i1
        · rw [k1 _ (by omega) (by omega), u9 _ (by omega) (by omega), n2 i k (by omega) ((s5 11 i (by omega)).trans i2), s5 1 _ (by omega)]; exact b
      · obtain ⟨_, _, i, i1, i2⟩ := hS7.2.2.1 k a.1 h12
        rw [s7 0 32 (by decide) (by omega), hnn] at i1
        rcases vd i k (by omega) i2 with x | x
        · rw [b7] at x; exact absurd ((st _).mpr x) z
        · exact absurd y (x (b7.trans n9.symm))
  · -- it sits: it is not lost
    rintro ⟨i, i1, i8, i2⟩
    rw [k1 110 (by decide) (by decide), u9 110 (by decide) (by decide), n1 1 110 (by omega), j110] at i1
    obtain ⟨k, y1, y2, y3⟩ := hS.2.2.2.1 i i1
    rw [k1 _ (by omega) (by omega), u9 _ (by omega) (by omega), n2 i k (by omega) ((s5 11 i (by omega)).trans y2), s5 1 _ (by omega)] at i2
    rw [k0 24 (by decide)]
    refine Classical.byContradiction (fun q => ?_)
    rcases ve q with x | ⟨i', k', x1, x2, x3, _⟩
    · exact x ((s7 0 24 (by decide) (by omega)).trans h24)
    · rw [n9] at x3
      obtain ⟨k2, r1, r2, r3⟩ := hS7.2.2.2.2.1 i' (by rw [s7 0 32 (by decide) (by omega), hnn]; omega)
      have e1 : k2 = k' := by omega
      subst e1
      have e2 : k2 = k := hU k2 k ((inl7 k2).mp r1) y1 (((num7 k2).symm.trans x3).trans i2.symm)
      subst e2
      rw [s7 12 k2 (by decide) (by omega)] at r3
      exact r3 (hS.2.1 k2 y1.1 y3).2.1
end
