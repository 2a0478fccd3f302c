/-! NUMBERS through a whole chair: the reference -/
section
variable {fu : Nat} {Q : Int → IMem → Prop}
/-- the numbers of those who sit are written down -/
def NMV (J0 : IMem) (i : Nat) (J : IMem) : Prop := (∀ q j, ¬ (q = 1 ∧ ((81 ≤ j ∧ j ≤ 108) ∨ (112 ≤ j ∧ j ≤ 127))) → J q j = J0 q j) ∧ ∀ i' k : Nat, i' < i → J0 11 i' = (k : Int) → J 1 (112 + i') = J0 1 (140 + 6 * k)
theorem xn_61 (kk : IMem → Res) (p1 : Int) (J0 : IMem) (n : Nat) (hn : J0 0 31 = (n : Int)) (hn8 : n ≤ 8) (ho : ∀ i : Nat, i < n → ∃ k z : Nat, k < 240 ∧ J0 11 i = (k : Int) ∧ J0 9 k = (z : Int) ∧ 1 ≤ z ∧ z ≤ 8) (hend : ∀ J, NMV J0 n J → par (kk J) Q) : ∀ (m i : Nat) (J : IMem), i ≤ n → NMV J0 i J → par (f_X_goesOff_61 fu kk 0 p1 m (i : Int) J) Q := by
  intro m
  induction m with
  | zero => intro _ _ _ _; exact par_none
  | succ m ih =>
    intro i J hi hV
    have hV' := hV
    obtain ⟨v1, v2⟩ := hV'
    show par (fb_X_goesOff_61 fu kk 0 p1 (f_X_goesOff_61 fu kk 0 p1 m) (i : Int) J) Q
    unfold fb_X_goesOff_61
    have j31 : J 0 31 = (n : Int) := (v1 _ _ (by omega)).trans hn
    rw [j31]
    by_cases h : i < n
    · rw [if_pos (show (i : Int) < (n : Int) by omega)]
      obtain ⟨k, z, hk, k2, k3, z1, z8⟩ := ho i h
      have t1 : J 11 i = (k : Int) := (v1 _ _ (by omega)).trans k2
      have t2 : J 9 k = (z : Int) := (v1 _ _ (by omega)).trans k3
      have wn : Wq (wr32 ((i : Int) + 1)) (((i + 1 : Nat) : Int)) := by show wr32 ((i : Int) + 1) = ((i + 1 : Nat) : Int); rw [wr32_i2 (by omega) (by omega)]; rfl
      simp only [zl_e, zj_e, Nat.zero_add]
      rw [wn.e, show ((i : Nat) : Int).toNat = i from rfl, t1, wd40 k hk, wr40 k hk]
      refine par_zg (fun _ => par_zg (fun _ => par_zg (fun _ => par_zg (fun _ => ?_))))
      rw [show ((k : Nat) : Int).toNat = k from rfl, t2, ev_of4 fu 0 (k / 40) (k % 40) J (by omega) (by omega), zb_zr, ev_of0 fu 0 (k / 40) (k % 40) J (by omega) (by omega), zb_zr, show 40 * (k / 40) + k % 40 = k by omega]
      have w1 : Wq (wr32 (112 + (i : Int))) (((112 + i : Nat) : Int)) := by show wr32 (112 + (i : Int)) = ((112 + i : Nat) : Int); rw [wr32_i2 (by omega) (by omega)]; omega
      have w2 : Wq (wr32 (120 + (i : Int))) (((120 + i : Nat) : Int)) := by show wr32 (120 + (i : Int)) = ((120 + i : Nat) : Int); rw [wr32_i2 (by omega) (by omega)]; omega
      have w3 : Wq (wr32 (80 + (z : Int))) (((80 + z : Nat) : Int)) := by show wr32 (80 + (z : Int)) = ((80 + z : Nat) : Int); rw [wr32_i2 (by omega) (by omega)]; omega
      have w4 : Wq (wr32 (90 + (z : Int))) (((90 + z : Nat) : Int)) := by show wr32 (90 + (z : Int)) = ((90 + z : Nat) : Int); rw [wr32_i2 (by omega) (by omega)]; omega
      have w5 : Wq (wr32 (100 + (z : Int))) (((100 + z : Nat) : Int)) := by show wr32 (100 + (z : Int)) = ((100 + z : Nat) : Int); rw [wr32_i2 (by omega) (by omega)]; omega
      rw [w1.e, w2.e, w3.e, w4.e, w5.e]
      have y0 : J (0 + 1) (140 + 6 * k + 0) = J0 1 (140 + 6 * k) := v1 1 (140 + 6 * k) (by omega)
      rw [y0]
      refine par_zg (fun _ => par_zw' (fun J1 e1 => par_zg (fun _ => par_zw' (fun J2 e2 => par_zg (fun _ => par_zg (fun _ => par_zw' (fun J3 e3 => par_zg (fun _ => par_zg (fun _ => par_zw' (fun J4 e4 => par_zg (fun _ => ?_)))))))))))
      rw [show ((112 + i : Nat) : Int).toNat = 112 + i from rfl] at e1
      rw [show ((120 + i : Nat) : Int).toNat = 120 + i from rfl] at e2
      rw [show ((80 + z : Nat) : Int).toNat = 80 + z from rfl] at e3
      rw [show ((90 + z : Nat) : Int).toNat = 90 + z from rfl] at e4
      have b4 : ∀ q j, ¬ (q = 1 ∧ (j = 80 + z ∨ j = 90 + z ∨ j = 100 + z ∨ j = 120 + i)) → J4 q j = if q = 1 ∧ j = 112 + i then J0 1 (140 + 6 * k) else J q j := fun q j hq => by
        rw [e4, if_neg (by omega), e3, if_neg (by omega), e2, if_neg (by omega), e1]
      clear e4 e3 e2 e1
      have fin : ∀ J5 : IMem, (∀ q j, ¬ (q = 1 ∧ (j = 80 + z ∨ j = 90 + z ∨ j = 100 + z ∨ j = 120 + i)) → J5 q j = if q = 1 ∧ j = 112 + i then J0 1 (140 + 6 * k) else J q j) → NMV J0 (i + 1) J5 := by
        intro J5 e5
        refine ⟨fun q j hq => ?_, fun i' k' hi' hk' => ?_⟩
        · rw [e5 q j (by omega), if_neg (by omega)]; exact v1 q j hq
        · by_cases y : i' = i
          · have e : k' = k := by rw [y] at hk'; omega
            rw [y, e5 1 _ (by omega), if_pos ⟨rfl, rfl⟩, e]
          · rw [e5 1 _ (by omega), if_neg (by omega)]; exact v2 i' k' (by omega) hk'
      refine par_ite (fun _ => par_zg (fun _ => par_zw' (fun J5 e5 => ih (i + 1) J5 h (fin J5 (fun q j hq => ?_))))) (fun _ => ih (i + 1) J4 h (fin J4 b4))
      rw [show ((100 + z : Nat) : Int).toNat = 100 + z from rfl] at e5
      rw [e5, if_neg (by omega)]
      exact b4 q j hq
    · rw [if_neg (show ¬ (i : Int) < (n : Int) by omega)]
      have : i = n := by omega
      subst this
      exact hend J hV
/-- what a chair that goes does to the NUMBERS that stand -/
def NGO (J J' : IMem) : Prop := NUQ J' ∧ (∀ N, STD N J' → STD N J) ∧ J' 0 23 = J 0 23 ∧ (∀ j, (j < 70 ∧ j ≠ 0) ∨ (1580 ≤ j ∧ j < 6010) → J' 1 j = J 1 j) ∧ (J 0 24 = 0 → STD (J 0 23) J → (STD (J 0 23) J' → J' 0 24 = 0) ∧ (¬ STD (J 0 23) J' → (J' 0 24 = 0 ↔ ∃ i : Nat, (i : Int) < J' 1 110 ∧ i < 8 ∧ J' 1 (112 + i) = J 0 23)))
theorem xn_goes {J : IMem} (t8 : J 0 31 ≤ 8) (n240 : J 0 32 ≤ 240) (h9 : ∀ k, INL J k → 0 ≤ J 9 k ∧ J 9 k ≤ J 1 (141 + 6 * k)) (hS : CVS J) (hU : NUQ J) (hc : ∀ l, l < 6 → 0 ≤ J 1 (130 + l) ∧ J 1 (130 + l) ≤ 40) (hz : ∀ k, INL J k → 1 ≤ J 1 (141 + 6 * k) ∧ J 1 (141 + 6 * k) ≤ 8) (h70 : 0 ≤ J 1 70 ∧ J 1 70 < 2000000000) : par (f_X_goesOff fu 0 J) (fun _ J' => NGO J J') := by
  obtain ⟨b2, b4⟩ := hS.1
  obtain ⟨n, hnn⟩ : ∃ n : Nat, J 0 32 = (n : Int) := ⟨(J 0 32).toNat, by omega⟩
  obtain ⟨t, htt⟩ : ∃ t : Nat, J 0 31 = (t : Int) := ⟨(J 0 31).toNat, by omega⟩
  obtain ⟨c, hcc⟩ : ∃ c : Nat, J 1 70 = (c : Int) := ⟨(J 1 70).toNat, by omega⟩
  rw [goes_eq]
  simp only [zl_e, Nat.zero_add]
  refine par_zw' (fun J1 e1 => par_zw' (fun J2 e2 => par_zw' (fun J3 e3 => par_zw' (fun J5 e5 => ?_))))
  have s5 : ∀ q j, ¬ (q = 1 ∧ (j = 71 ∨ j = 72 ∨ j = 110 ∨ j = 111)) → J5 q j = J q j := fun q j hq => by
    rw [e5, if_neg (by omega), e3, if_neg (by omega), e2, if_neg (by omega), e1, if_neg (by omega)]
  have j110 : J5 1 110 = J 0 31 := by
    rw [e5, if_neg (by omega), e3, if_pos ⟨rfl, rfl⟩, e2, if_neg (by omega), e1, if_neg (by omega)]
  clear e5 e3 e2 e1
  refine xn_61 _ _ J5 t ((s5 _ _ (by omega)).trans htt) (by omega) (fun i hi => ?_) (fun J6 hN => ?_) fu 0 J5 (Nat.zero_le _) ⟨fun _ _ _ => rfl, fun i' _ hi' => absurd hi' (Nat.not_lt_zero _)⟩
  · obtain ⟨k, k1, k2, k5⟩ := hS.2.2.2.1 i (by omega)
    have k6 := h9 k k1
    have k7 := hz k k1
    refine ⟨k, (J 9 k).toNat, k1.1, (s5 _ _ (by omega)).trans k2, ?_, by omega, by omega⟩
    rw [s5 9 k (by omega)]; omega
  obtain ⟨n1, n2⟩ := hN
  have s6 : ∀ q j, ¬ (q = 1 ∧ (j = 71 ∨ j = 72 ∨ j = 110 ∨ j = 111 ∨ (81 ≤ j ∧ j ≤ 108) ∨ (112 ≤ j ∧ j ≤ 127))) → J6 q j = J q j := fun q j hq => (n1 q j (by omega)).trans (s5 q j (by omega))
  refine xv_outs (fu := fu) _ _ J6 n ((s6 _ _ (by omega)).trans hnn) (by omega) (fun i hi => ?_) (fun J7 o1 o2 => ?_) fu 0 J6 (Nat.zero_le _) (fun _ _ _ => rfl) (fun i' _ _ hi' => absurd hi' (Nat.not_lt_zero _))
  · obtain ⟨k, k1, k2, _⟩ := hS.2.2.2.2.1 i (by omega)
    exact ⟨k, k1.1, (s6 _ _ (by omega)).trans k2⟩
  have s7 : ∀ q j, q ≠ 14 → ¬ (q = 1 ∧ (j = 71 ∨ j = 72 ∨ j = 110 ∨ j = 111 ∨ (81 ≤ j ∧ j ≤ 108) ∨ (112 ≤ j ∧ j ≤ 127))) → J7 q j = J q j := fun q j h1 h2 => (o1 q j h1).trans (s6 q j h2)
  have c7 : ∀ l, l < 6 → J7 1 (130 + l) = J 1 (130 + l) := fun l hl => s7 1 _ (by decide) (by omega)
  have hc7 : ∀ l, l < 6 → 0 ≤ J7 1 (130 + l) ∧ J7 1 (130 + l) ≤ 40 := fun l hl => by rw [c7 l hl]; exact hc l hl
  have inl7 : ∀ k, INL J7 k ↔ INL J k := fun k => ⟨inl_to (fun l hl => (c7 l hl).symm), inl_to c7⟩
  have num7 : ∀ k, J7 1 (140 + 6 * k) = J 1 (140 + 6 * k) := fun k => s7 1 _ (by decide) (by omega)
  have hU7 : NUQ J7 := fun k k' a b e => hU k k' ((inl7 k).mp a) ((inl7 k').mp b) (by rw [← num7 k, ← num7 k']; exact e)
  have hS7 : CVS J7 := cvs_fr hS c7 (fun q j hq => s7 q j (by omega) (by omega))
  refine xn_266 _ _ J7 hc7 (fun k hk => ?_) (fun J8 hM => ?_) fu 0 J7 (Nat.zero_le _) ⟨fun _ _ _ => rfl, fun _ _ _ => ⟨rfl, fun _ _ _ => rfl⟩, fun l' hl' => absurd hl' (Nat.not_lt_zero _)⟩
  · have z := hz k ((inl7 k).mp hk)
    have m := h9 k ((inl7 k).mp hk)
    rw [s7 9 k (by decide) (by omega), s7 1 (140 + 6 * k + 1) (by decide) (by omega), show 140 + 6 * k + 1 = 141 + 6 * k by omega]
    omega
  have hM' := hM
  obtain ⟨m1, _, m3⟩ := hM'
  obtain ⟨x1, x2⟩ := xm_src hc7 hM
  have hc8 : ∀ l, l < 6 → 0 ≤ J8 1 (130 + l) ∧ J8 1 (130 + l) ≤ 40 := fun l hl => by
    have a := (m3 l hl).1
    have b := cnB_lek (P := KPb J7 l) (J7 1 (130 + l)).toNat
    have d := hc7 l hl
    omega
  have hG0 : GNV J7 J8 0 J8 := by
    refine ⟨fun _ _ _ _ => rfl, hc8, fun k hk => ?_, fun k k' a b e => ?_, x2, fun i' _ hi' => absurd hi' (Nat.not_lt_zero _), fun hne => ?_⟩
    · obtain ⟨k0, a, b, d, _, _⟩ := x1 k hk
      exact ⟨k0, a, d, Or.inl b⟩
    · obtain ⟨k0, a1, a2, a3, a4, a5⟩ := x1 k a
      obtain ⟨k0', d1, d2, d3, d4, d5⟩ := x1 k' b
      have q : k0 = k0' := hU7 k0 k0' a1 d1 (a3.symm.trans (e.trans d3))
      rw [← q] at d4 d5
      omega
    · exact Or.inl (by rw [← m1 0 24 (by omega)]; exact hne)
  refine xn_285 _ _ hS7 hU7 ((s7 0 32 (by decide) (by omega)).trans hnn) (by omega) ((m1 0 32 (by omega)).trans ((s7 0 32 (by decide) (by omega)).trans hnn)) (m1 0 23 (by omega)) (fun i k hi hk => ?_) (fun J9 hV => ?_) fu 0 J8 (Nat.zero_le _) hG0
  · have a : J6 10 i = (k : Int) := (o1 10 i (by decide)).symm.trans hk
    have g : J7 14 (6 * i) = J6 1 (140 + 6 * k) := o2 i k 0 hi a (by decide)
    exact ((m1 14 (6 * i) (by omega)).trans g).trans (o1 1 (140 + 6 * k) (by decide)).symm
  obtain ⟨v1, v2, va, vb, vc, vd, ve⟩ := hV
  have s9 : ∀ q j, q ≠ 14 → ¬ (q = 1 ∧ (j = 71 ∨ j = 72 ∨ j = 76 ∨ j = 110 ∨ j = 111 ∨ (81 ≤ j ∧ j ≤ 108) ∨ (112 ≤ j ∧ j ≤ 127) ∨ (130 ≤ j ∧ j < 1580))) → ¬ (q = 0 ∧ j = 24) → J9 q j = J q j := fun q j h1 h2 h3 => ((v1 q j (by omega) h3).trans (m1 q j (by omega))).trans (s7 q j h1 (by omega))
  have u9 : ∀ j, 110 ≤ j → j < 130 → J9 1 j = J6 1 j := fun j h1 h2 => ((v1 1 j (by omega) (by omega)).trans (m1 1 j (by omega))).trans (o1 1 j (by decide))
  refine par_mono (xv_tail (fu := fu) _ J9 c ((s9 1 70 (by decide) (by omega) (by omega)).trans hcc) (by omega)) (fun _ J' ⟨_, _, _, h4⟩ => ?_)
  have k1 : ∀ j, 110 ≤ j → j < 1580 → J' 1 j = J9 1 j := fun j a b => by
    rw [h4 _ _ (by omega) (by omega), if_neg (by omega), if_neg (by omega), if_neg (by omega), if_neg (by omega), if_neg (by omega), if_neg (by omega), if_neg (by omega)]
  have k0 : ∀ j, j ≠ 35 → J' 0 j = J9 0 j := fun j a => by
    rw [h4 _ _ (by omega) (by omega), if_neg (by omega), if_neg (by omega), if_neg (by omega), if_neg (by omega), if_neg (by omega), if_neg (by omega), if_neg (by omega)]
  have k7 : ∀ j, (j < 70 ∧ j ≠ 0) ∨ (1580 ≤ j ∧ j < 6010) → J' 1 j = J9 1 j := fun j hj => by
    rw [h4 _ _ (by omega) (by omega), if_neg (by omega), if_neg (by omega), if_neg (by omega), if_neg (by omega), if_neg (by omega), if_neg (by omega), if_neg (by omega)]
  clear h4
  have ci : ∀ l, l < 6 → J' 1 (130 + l) = J9 1 (130 + l) := fun l hl => k1 _ (by omega) (by omega)
  have ci' : ∀ l, l < 6 → J9 1 (130 + l) = J' 1 (130 + l) := fun l hl => (ci l hl).symm
  have st : ∀ N, STD N J' ↔ STD N J9 := fun N => ⟨fun ⟨k, a, b⟩ => ⟨k, inl_to ci' a, by rw [← b]; exact (k1 _ (by omega) (by have := a.1; omega)).symm⟩, fun ⟨k, a, b⟩ => ⟨k, inl_to ci a, by rw [← b]; exact k1 _ (by omega) (by have := a.1; omega)⟩⟩
  have n9 : J7 0 23 = J 0 23 := s7 0 23 (by decide) (by omega)
  refine ⟨fun k k' a b e => ?_, fun N hN => ?_, ?_, ?_, fun h24 hst => ⟨fun z => ?_, fun z => ⟨fun y => ?_, ?_⟩⟩⟩
  · rw [k1 _ (by omega) (by have := a.1; omega), k1 _ (by omega) (by have := b.1; omega)] at e
    exact vb k k' (inl_to ci' a) (inl_to ci' b) e
  · obtain ⟨k, a, b⟩ := (st N).mp hN
    obtain ⟨k0', r1, r2, _⟩ := va k a
    exact ⟨k0', (inl7 k0').mp r1, by rw [← num7 k0', ← r2]; exact b⟩
  · rw [k0 23 (by decide)]; exact s9 0 23 (by decide) (by omega) (by omega)
  · exact fun j hj => (k7 j hj).trans (s9 1 j (by decide) (by omega) (by omega))
  · rw [k0 24 (by decide)]
    refine Classical.byContradiction (fun q => ?_)
    rcases ve q with x | ⟨i', k', _, _, _, x⟩
    · exact x ((s7 0 24 (by decide) (by omega)).trans h24)
    · rw [n9] at x
      exact x ((st _).mp z)
  · -- it is not lost: it sits
    rw [k0 24 (by decide)] at y
    obtain ⟨k, a, b⟩ := hst
    have a7 := (inl7 k).mpr a
    have b7 : J7 1 (140 + 6 * k) = J 0 23 := (num7 k).trans b
    have dk : 40 * (k / 40) + k % 40 = k := by omega
    by_cases hk : KPb J7 (k / 40) (k % 40) = true
    · have g := vc k a7 hk
      rw [b7] at g
      exact absurd ((st _).mpr g) z
    · by_cases h12 : J7 12 k = 0
      · have h9 : J7 9 k ≠ 0 := fun q => hk (kp_iff.mpr ⟨by rw [dk]; exact h12, by
          rw [dk, q, s7 1 _ (by decide) (by omega), show 140 + 6 * k + 1 = 141 + 6 * k by omega]
          have := (hz k a).1
          omega⟩)
        obtain ⟨_, _, i, i1, i2⟩ := hS7.2.1 k a.1 h9
        rw [s7 0 31 (by decide) (by omega)] at i1
        rw [s7 11 i (by decide) (by omega)] at i2
        refine ⟨i, ?_, by omega, ?_⟩
        · rw [k1 110 (by decide) (by decide), u9 110 (by decide) (by decide), n1 1 110 (by omega), j110]; exact i1
        · rw [k1 _ (by omega) (by omega), u9 _ (by omega) (by omega), n2 i k (by omega) ((s5 11 i (by omega)).trans i2), s5 1 _ (by omega)]; exact b
      · obtain ⟨_, _, i, i1, i2⟩ := hS7.2.2.1 k a.1 h12
        rw [s7 0 32 (by decide) (by omega), hnn] at i1
        rcases vd i k (by omega) i2 with x | x
        · rw [b7] at x; exact absurd ((st _).mpr x) z
        · exact absurd y (x (b7.trans n9.symm))
  · -- it sits: it is not lost
    rintro ⟨i, i1, i8, i2⟩
    rw [k1 110 (by decide) (by decide), u9 110 (by decide) (by decide), n1 1 110 (by omega), j110] at i1
    obtain ⟨k, y1, y2, y3⟩ := hS.2.2.2.1 i i1
    rw [k1 _ (by omega) (by omega), u9 _ (by omega) (by omega), n2 i k (by omega) ((s5 11 i (by omega)).trans y2), s5 1 _ (by omega)] at i2
    rw [k0 24 (by decide)]
    refine Classical.byContradiction (fun q => ?_)
    rcases ve q with x | ⟨i', k', x1, x2, x3, _⟩
    · exact x ((s7 0 24 (by decide) (by omega)).trans h24)
    · rw [n9] at x3
      obtain ⟨k2, r1, r2, r3⟩ := hS7.2.2.2.2.1 i' (by rw [s7 0 32 (by decide) (by omega), hnn]; omega)
      have e1 : k2 = k' := by omega
      subst e1
      have e2 : k2 = k := hU k2 k ((inl7 k2).mp r1) y1 (((num7 k2).symm.trans x3).trans i2.symm)
      subst e2
      rw [s7 12 k2 (by decide) (by omega)] at r3
      exact r3 (hS.2.1 k2 y1.1 y3).2.1
end
/-! who stands, who sat last: both sides -/
section
variable {fu : Nat} {Q : Int → IMem → Prop}
theorem std_at {N : Int} {J : IMem} {l p : Nat} (hl : l < 6) (hp : p < 40) (h : (p : Int) < J 1 (130 + l)) (e : J 1 (140 + 6 * (40 * l + p)) = N) : STD N J := ⟨40 * l + p, ⟨by omega, by rw [show (40 * l + p) % 40 = p by omega, show (40 * l + p) / 40 = l by omega]; exact h⟩, e⟩
/-- N does not stand before line l -/
def NSB (N : Int) (J : IMem) (l : Nat) : Prop := ∀ k, k < 40 * l → INL J k → J 1 (140 + 6 * k) ≠ N
theorem nsb_s {N : Int} {J : IMem} {l : Nat} (h : NSB N J l) (h2 : ∀ p : Nat, (p : Int) < J 1 (130 + l) → p < 40 → J 1 (140 + 6 * (40 * l + p)) ≠ N) : NSB N J (l + 1) := fun k hk hi => by
  by_cases y : k < 40 * l
  · exact h k y hi
  · have d : k / 40 = l := by omega
    have h3 := hi.2
    rw [d] at h3
    have g := h2 (k % 40) h3 (by omega)
    rw [show 40 * l + k % 40 = k by omega] at g
    exact g
theorem nsb_6 {N : Int} {J : IMem} (h : NSB N J 6) : ¬ STD N J := fun ⟨k, a, b⟩ => h k a.1 a b
theorem xv_still10 (kk : IMem → Res) (N : Int) {l c : Nat} (hl : l < 6) (hc : c ≤ 40) {J : IMem} (hcJ : J 1 (130 + l) = (c : Int)) (hy : STD N J → Q 1 J) (hend : (∀ p : Nat, p < c → J 1 (140 + 6 * (40 * l + p)) ≠ N) → par (kk J) Q) : ∀ (m p : Nat), p ≤ c → (∀ p' : Nat, p' < p → J 1 (140 + 6 * (40 * l + p')) ≠ N) → par (f_X_stillStands_10 fu kk 0 N (l : Int) m (p : Int) J) Q := by
  intro m
  induction m with
  | zero => intro _ _ _; exact par_none
  | succ m ih =>
    intro p hp hn
    show par (fb_X_stillStands_10 fu kk 0 N (l : Int) (f_X_stillStands_10 fu kk 0 N (l : Int) m) (p : Int) J) Q
    unfold fb_X_stillStands_10
    have w1 : Wq (wr32 (130 + (l : Int))) (((130 + l : Nat) : Int)) := by show wr32 (130 + (l : Int)) = ((130 + l : Nat) : Int); rw [wr32_i2 (by omega) (by omega)]; omega
    have w2 : Wq (wr32 ((p : Int) + 1)) (((p + 1 : Nat) : Int)) := by show wr32 ((p : Int) + 1) = ((p + 1 : Nat) : Int); rw [wr32_i2 (by omega) (by omega)]; rfl
    simp only [zl_e]
    rw [w1.e, w2.e]
    have a1 : J (0 + 1) ((130 + l : Nat) : Int).toNat = (c : Int) := hcJ
    rw [a1]
    refine par_zg (fun _ => ?_)
    by_cases h : p < c
    · rw [if_pos (show (p : Int) < (c : Int) by omega), ev_of0 fu 0 l p J hl (by omega), zb_zr]
      have a2 : J (0 + 1) (140 + 6 * (40 * l + p) + 0) = J 1 (140 + 6 * (40 * l + p)) := rfl
      rw [a2]
      refine par_ite (fun q => par_zr (hy (std_at hl (by omega) (by rw [hcJ]; omega) q))) (fun q => ih (p + 1) h (fun p' hp' => ?_))
      by_cases y : p' = p
      · rw [y]; exact q
      · exact hn p' (by omega)
    · rw [if_neg (show ¬ (p : Int) < (c : Int) by omega)]
      have : p = c := by omega
      subst this
      exact hend hn
theorem xv_still2 (N : Int) {J : IMem} (hc : ∀ l, l < 6 → 0 ≤ J 1 (130 + l) ∧ J 1 (130 + l) ≤ 40) (hy : STD N J → Q 1 J) (hn : ¬ STD N J → Q 0 J) : ∀ (m l : Nat), l ≤ 6 → NSB N J l → par (f_X_stillStands_2 fu 0 N m (l : Int) J) Q := by
  intro m
  induction m with
  | zero => intro _ _ _; exact par_none
  | succ m ih =>
    intro l hl hb
    show par (fb_X_stillStands_2 fu 0 N (f_X_stillStands_2 fu 0 N m) (l : Int) J) Q
    unfold fb_X_stillStands_2
    by_cases h : l < 6
    · rw [if_pos (show (l : Int) < 6 by omega)]
      obtain ⟨c, hcc⟩ : ∃ c : Nat, J 1 (130 + l) = (c : Int) := ⟨(J 1 (130 + l)).toNat, by have := hc l h; omega⟩
      have hc40 : c ≤ 40 := by have := hc l h; omega
      refine xv_still10 _ N h hc40 hcc hy (fun g => ?_) fu 0 (Nat.zero_le _) (fun p' hp' => absurd hp' (Nat.not_lt_zero _))
      have w1 : Wq (wr32 ((l : Int) + 1)) ((l + 1 : Nat) : Int) := by show wr32 ((l : Int) + 1) = ((l + 1 : Nat) : Int); rw [wr32_i2 (by omega) (by omega)]; rfl
      simp only [zl_e]
      rw [w1.e]
      exact ih (l + 1) h (nsb_s hb (fun p hp _ => g p (by omega)))
    · rw [if_neg (show ¬ (l : Int) < 6 by omega)]
      have : l = 6 := by omega
      subst this
      exact par_zr (hn (nsb_6 hb))
theorem xv_still (N : Int) (J : IMem) (hc : ∀ l, l < 6 → 0 ≤ J 1 (130 + l) ∧ J 1 (130 + l) ≤ 40) : par (f_X_stillStands fu 0 N J) (fun y J' => J' = J ∧ ((y = 1 ∧ STD N J) ∨ (y = 0 ∧ ¬ STD N J))) := by
  unfold f_X_stillStands
  exact xv_still2 N hc (fun h => ⟨rfl, Or.inl ⟨rfl, h⟩⟩) (fun h => ⟨rfl, Or.inr ⟨rfl, h⟩⟩) fu 0 (by decide) (fun k hk => absurd hk (by omega))
theorem cv_has10 (kk : IMem → Res) (N : Int) {hb l c : Nat} (hl : l < 6) (hc : c ≤ 40) {I J : IMem} (hL : HL hb 1 I J) (hcJ : J 1 (130 + l) = (c : Int)) (hy : STD N J → Q 1 I) (hend : (∀ p : Nat, p < c → J 1 (140 + 6 * (40 * l + p)) ≠ N) → par (kk I) Q) : ∀ (m p : Nat), p ≤ c → (∀ p' : Nat, p' < p → J 1 (140 + 6 * (40 * l + p')) ≠ N) → par (f_L_hasNumber_10 fu kk (hb + 6) N (l : Int) m (p : Int) I) Q := by
  intro m
  induction m with
  | zero => intro _ _ _; exact par_none
  | succ m ih =>
    intro p hp hn
    show par (fb_L_hasNumber_10 fu kk (hb + 6) N (l : Int) (f_L_hasNumber_10 fu kk (hb + 6) N (l : Int) m) (p : Int) I) Q
    unfold fb_L_hasNumber_10
    have w1 : Wq (wr32 (wr32 ((l : Int) * 40) + (p : Int))) (((40 * l + p : Nat) : Int)) := by show wr32 (wr32 ((l : Int) * 40) + (p : Int)) = ((40 * l + p : Nat) : Int); rw [wr32_i2 (x := (l : Int) * 40) (by omega) (by omega), wr32_i2 (by omega) (by omega)]; omega
    have w2 : Wq (wr32 ((p : Int) + 1)) (((p + 1 : Nat) : Int)) := by show wr32 ((p : Int) + 1) = ((p + 1 : Nat) : Int); rw [wr32_i2 (by omega) (by omega)]; rfl
    simp only [zl_e]
    rw [w1.e, w2.e]
    have a1 : I (hb + 6 + 2) ((l : Nat) : Int).toNat = (c : Int) := (hl_c hL hl).1.trans hcJ
    rw [a1]
    refine par_zg (fun _ => ?_)
    by_cases h : p < c
    · rw [if_pos (show (p : Int) < (c : Int) by omega), ev_get0 fu (hb + 6) (40 * l + p) I (by omega), zb_zr]
      have a2 : I (hb + 6 + 1) (6 * (40 * l + p) + 0) = J 1 (140 + 6 * (40 * l + p)) := hl_r (l := l) (p := p) (f := 0) hL hl (by rw [hcJ]; omega) (by decide)
      rw [a2]
      refine par_ite (fun q => par_zr (hy (std_at hl (by omega) (by rw [hcJ]; omega) q))) (fun q => ih (p + 1) h (fun p' hp' => ?_))
      by_cases y : p' = p
      · rw [y]; exact q
      · exact hn p' (by omega)
    · rw [if_neg (show ¬ (p : Int) < (c : Int) by omega)]
      have : p = c := by omega
      subst this
      exact hend hn
theorem cv_has2 (N : Int) {hb : Nat} {I J : IMem} (hL : HL hb 1 I J) (hy : STD N J → Q 1 I) (hn : ¬ STD N J → Q 0 I) : ∀ (m l : Nat), l ≤ 6 → NSB N J l → par (f_L_hasNumber_2 fu (hb + 6) N m (l : Int) I) Q := by
  intro m
  induction m with
  | zero => intro _ _ _; exact par_none
  | succ m ih =>
    intro l hl hs
    show par (fb_L_hasNumber_2 fu (hb + 6) N (f_L_hasNumber_2 fu (hb + 6) N m) (l : Int) I) Q
    unfold fb_L_hasNumber_2
    by_cases h : l < 6
    · rw [if_pos (show (l : Int) < 6 by omega)]
      have hc := (hl_c hL h).2
      obtain ⟨c, hcc⟩ : ∃ c : Nat, J 1 (130 + l) = (c : Int) := ⟨(J 1 (130 + l)).toNat, by omega⟩
      have hc40 : c ≤ 40 := by omega
      refine cv_has10 _ N h hc40 hL hcc hy (fun g => ?_) fu 0 (Nat.zero_le _) (fun p' hp' => absurd hp' (Nat.not_lt_zero _))
      have w1 : Wq (wr32 ((l : Int) + 1)) ((l + 1 : Nat) : Int) := by show wr32 ((l : Int) + 1) = ((l + 1 : Nat) : Int); rw [wr32_i2 (by omega) (by omega)]; rfl
      simp only [zl_e]
      rw [w1.e]
      exact ih (l + 1) h (nsb_s hs (fun p hp _ => g p (by omega)))
    · rw [if_neg (show ¬ (l : Int) < 6 by omega)]
      have : l = 6 := by omega
      subst this
      exact par_zr (hn (nsb_6 hs))
theorem cv_has (N : Int) {hb : Nat} {I J : IMem} (hL : HL hb 1 I J) : par (f_L_hasNumber fu (hb + 6) N I) (fun y I' => I' = I ∧ ((y = 1 ∧ STD N J) ∨ (y = 0 ∧ ¬ STD N J))) := by
  unfold f_L_hasNumber
  exact cv_has2 N hL (fun h => ⟨rfl, Or.inl ⟨rfl, h⟩⟩) (fun h => ⟨rfl, Or.inr ⟨rfl, h⟩⟩) fu 0 (by decide) (fun k hk => absurd hk (by omega))
/-- N sat last, by the class's memory -/
def SLN (N : Int) (hb : Nat) (I : IMem) : Prop := ∃ i : Nat, (i : Int) < I (hb + 11) 0 ∧ i < 8 ∧ I (hb + 11) (10 + i) = N
theorem cv_last2 (N : Int) {hb : Nat} {I : IMem} (hy : SLN N hb I → Q 1 I) (hn : ¬ SLN N hb I → Q 0 I) : ∀ (m i : Nat), i ≤ 8 → (∀ i' : Nat, i' < i → (i' : Int) < I (hb + 11) 0 → I (hb + 11) (10 + i') ≠ N) → par (f_H_satLast_2 fu hb N m (i : Int) I) Q := by
  intro m
  induction m with
  | zero => intro _ _ _; exact par_none
  | succ m ih =>
    intro i hi hs
    show par (fb_H_satLast_2 fu hb N (f_H_satLast_2 fu hb N m) (i : Int) I) Q
    unfold fb_H_satLast_2
    have w1 : Wq (wr32 (10 + (i : Int))) (((10 + i : Nat) : Int)) := by show wr32 (10 + (i : Int)) = ((10 + i : Nat) : Int); rw [wr32_i2 (by omega) (by omega)]; omega
    have w2 : Wq (wr32 ((i : Int) + 1)) (((i + 1 : Nat) : Int)) := by show wr32 ((i : Int) + 1) = ((i + 1 : Nat) : Int); rw [wr32_i2 (by omega) (by omega)]; rfl
    simp only [zl_e]
    rw [w1.e, w2.e, show ((10 + i : Nat) : Int).toNat = 10 + i from rfl]
    refine par_ite (fun a => par_ite (fun b => par_zg (fun _ => par_ite (fun q => ?_) (fun q => ?_))) (fun b => ?_)) (fun a => ?_)
    · exact par_zr (hy ⟨i, a, by omega, q⟩)
    · refine ih (i + 1) (by omega) (fun i' hi' hl => ?_)
      by_cases y : i' = i
      · rw [y]; exact q
      · exact hs i' (by omega) hl
    · refine par_zr (hn (fun ⟨i', x1, x2, x3⟩ => hs i' (by omega) x1 x3))
    · refine par_zr (hn (fun ⟨i', x1, x2, x3⟩ => hs i' (by omega) x1 x3))
theorem cv_last (N : Int) {hb : Nat} {I : IMem} : par (f_H_satLast fu hb N I) (fun y I' => I' = I ∧ ((y = 1 ∧ SLN N hb I) ∨ (y = 0 ∧ ¬ SLN N hb I))) := by
  unfold f_H_satLast
  exact cv_last2 N (fun h => ⟨rfl, Or.inl ⟨rfl, h⟩⟩) (fun h => ⟨rfl, Or.inr ⟨rfl, h⟩⟩) fu 0 (by decide) (fun i' hi' => absurd hi' (Nat.not_lt_zero _))
end
/-! NUMBERS through a chair, both sides; till -/
theorem inl_mv {J J' : IMem} (h : ∀ j, 130 ≤ j → j < 1580 → J' 1 j = J 1 j) (k : Nat) : INL J' k ↔ INL J k := ⟨inl_to (fun l hl => (h _ (by omega) (by omega)).symm), inl_to (fun l hl => h _ (by omega) (by omega))⟩
theorem std_mv {J J' : IMem} (h : ∀ j, 130 ≤ j → j < 1580 → J' 1 j = J 1 j) (N : Int) : STD N J' ↔ STD N J := ⟨fun ⟨k, a, b⟩ => ⟨k, (inl_mv h k).mp a, (h _ (by omega) (by have := a.1; omega)).symm.trans b⟩, fun ⟨k, a, b⟩ => ⟨k, (inl_mv h k).mpr a, (h _ (by omega) (by have := a.1; omega)).trans b⟩⟩
theorem nuq_mv {J J' : IMem} (h : ∀ j, 130 ≤ j → j < 1580 → J' 1 j = J 1 j) (hU : NUQ J) : NUQ J' := fun k k' a b e => hU k k' ((inl_mv h k).mp a) ((inl_mv h k').mp b) (((h _ (by omega) (by have := a.1; omega)).symm.trans e).trans (h _ (by omega) (by have := b.1; omega)))
section
variable {fu oc hb : Nat} {I J : IMem}
theorem par_t {Q : Int → IMem → Prop} {c : Prop} [Decidable c] {A B : Res} (hc : c) (h : par A Q) : par (if c then A else B) Q := by rw [if_pos hc]; exact h
theorem par_f {Q : Int → IMem → Prop} {c : Prop} [Decidable c] {A B : Res} (hc : ¬ c) (h : par B Q) : par (if c then A else B) Q := by rw [if_neg hc]; exact h
theorem hw_law (h : HR hb 1 I J) (hg : GX 0 J) : ∃ (kl : Nat) (law : List LRec), LWX J kl law := by
  obtain ⟨_, ⟨f1, f2⟩, _⟩ := gx_facts hg
  obtain ⟨kl, hkl, hk6⟩ : ∃ kl : Nat, kl < 4 ∧ J 1 6 = (kl : Int) := ⟨(J 1 6).toNat, by omega, by omega⟩
  obtain ⟨law, lc, lx, lo⟩ := h.2.2.2.2 kl (by omega)
  exact ⟨kl, law, hkl, hk6, lo, lx⟩
theorem gx_cnt (hg : GX 0 J) : ∀ l, l < 6 → 0 ≤ J 1 (130 + l) ∧ J 1 (130 + l) ≤ 40 := fun l hl => hg.2.1.2.2.2.2.2.1 l hl
theorem chair_n {kl : Nat} {law : List LRec} (hfu : 5000000000 < fu) (hw : LWX J kl law) (hG : GX 0 J) (hU : NUQ J) (hc : J 1 70 < 2000000000) : par (f_X_chair fu 0 J) (fun _ J' => NGO J J') := by
  have hcs := gx_cnt hG
  unfold f_X_chair
  intro y J' e2
  obtain ⟨v1, J1, a1, a2⟩ := of_zb e2
  refine par_zb (Q := fun _ J2 => NGO J J2) (Q1 := fun _ J2 => NGO J1 J2) ?_ (fun v J2 g => par_zr ?_) y J' a2
  · obtain ⟨kS, kj⟩ := xg_fills (fu := fu) J hw hG hcs v1 J1 a1
    obtain ⟨_, hG1, ⟨⟨f1, f2, f3, f4⟩, _, _, f7⟩, _⟩ := par_sat (ok_X_fills fu 0 J hfu hG) v1 J1 a1
    have gf1 := gx_facts hG1
    exact xn_goes (fu := fu) f2 f4 (fun k hk => ⟨(f7 k hk.1).1, (f7 k hk.1).2.1⟩) kS (nuq_mv (fun j a _ => kj j (by omega)) hU) (fun l hl => by rw [kj _ (by omega)]; exact hcs l hl) gf1.2.2.2.2.1 ⟨gf1.2.2.2.2.2.2, by rw [kj 70 (by decide)]; exact hc⟩
  · obtain ⟨_, kj⟩ := xg_fills (fu := fu) J hw hG hcs v1 J1 a1
    have b := fc_X_fills (fun q j => ¬ (q = 0 ∧ (j = 23 ∨ j = 24))) fu 0 J (fun _ => by omega) (fun _ => by omega) (fun _ => by omega) (fun _ => by omega) (fun _ => by omega) (by omega) (by omega) (by omega) (by omega) (by omega) (by omega) (by omega) (by omega) (by omega) (by omega) (by omega) (by omega) (by omega) (by omega) (by omega) a1
    have n23 : J1 0 23 = J 0 23 := b 0 23 (by omega)
    have n24 : J1 0 24 = J 0 24 := b 0 24 (by omega)
    have st := std_mv (J := J) (J' := J1) (fun j a _ => kj j (by omega))
    obtain ⟨g1, g2, g3, g4, g5⟩ := g
    refine ⟨g1, fun N z => (st N).mp (g2 N z), g3.trans n23, fun j hj => (g4 j hj).trans (kj j (by omega)), fun z24 zs => ?_⟩
    have q := g5 (n24.trans z24) (by rw [n23]; exact (st _).mpr zs)
    rw [n23] at q
    exact q
/-- one chair of TILL -/
theorem chair_t {Q : Int → IMem → Int → IMem → Prop} {kC kX : Int → IMem → Res} (hfu : 5000000000 < fu) (h : HG 82 I J) (hU : NUQ J) (hc : J 1 70 < 2000000000) (hk : ∀ x I' y J', HG 82 I' J' → NGO J J' → J' 1 70 = J 1 70 + 1 → pq (kC x I') (kX y J') Q) : pq (zb (f_C_fill fu 122 82 I) fun _ I2 => zb (f_C_leave fu 122 82 I2) kC) (zb (f_X_chair fu 0 J) kX) Q := by
  intro x I' y J' e1 e2
  obtain ⟨v1, I1, a1, a2⟩ := of_zb e1
  obtain ⟨v2, I2, b1, b2⟩ := of_zb a2
  obtain ⟨y1, J1, c1, c2⟩ := of_zb e2
  have er : f_C_ride fu 122 82 I = some (v2, I2) := by
    unfold f_C_ride
    rw [a1]
    show zb (f_C_leave fu 122 82 I1) (fun y I => zr y I) = _
    rw [b1]
    rfl
  obtain ⟨_, g2, _, _, g5, _⟩ := ride2 (fu := fu) (oc := 122) (hb := 82) (Or.inl ⟨rfl, rfl⟩) hfu h hc v2 I2 y1 J1 er c1
  obtain ⟨kl, law, hw⟩ := hw_law h.1.1 h.2.1
  have n := chair_n (fu := fu) hfu hw h.2.1 hU hc y1 J1 c1
  exact hk v2 I2 y1 J1 g2 n g5 x I' y J' b2 c2
def kcT (fu : Nat) (N : Int) : Int → IMem → Res := fun (x12 : Int) (I11 : IMem) =>
      zb (f_H_satLast fu (81 + 1) N I11) fun y13 I14 =>
      if y13 = 0 then (
        zr ((-1)) I14)
      else (
        zr x12 I14)
def kxT (fu : Nat) (N : Int) : Int → IMem → Res := fun (x11 : Int) (I10 : IMem) =>
      zj (fun (x14 : Int) (I13 : IMem) =>
          zw I13 0 23 ((-1)) fun I15 =>
          if x14 = 0 then (
            zr x11 I15)
          else (
            zr ((-1)) I15)) fun k12 =>
        if I10 0 24 = 0 then (
          zb (f_X_stillStands fu 0 N I10) fun y16 I17 =>
          if y16 = 0 then (
            k12 0 I17)
          else (
            k12 1 I17))
        else (
          k12 1 I10)
theorem count_eq (fu : Nat) (N : Int) (I : IMem) : f_M_countTill fu 81 N I = f_M_countTill_2 fu (kcT fu N) 81 N fu 1 I := rfl
theorem sits_eq (fu : Nat) (N : Int) (J : IMem) : f_X_sitsAfter fu 0 N J = zw J 0 23 N fun I1 => zw I1 0 24 0 fun I2 => f_X_sitsAfter_12 fu (kxT fu N) 0 N fu 0 I2 := rfl
theorem cv_kc (N v : Int) (I : IMem) : par (kcT fu N v I) (fun x _ => (SLN N 82 I → x = v) ∧ (¬ SLN N 82 I → x = -1)) := by
  unfold kcT
  refine par_zb (cv_last (fu := fu) N (hb := 82) (I := I)) (fun y I2 ⟨_, g⟩ => ?_)
  rcases g with ⟨e, s⟩ | ⟨e, s⟩
  · rw [if_neg (show ¬ y = 0 by omega)]
    exact par_zr ⟨fun _ => rfl, fun z => absurd s z⟩
  · rw [if_pos e]
    exact par_zr ⟨fun z => absurd z s, fun _ => rfl⟩
theorem xv_kx (N v : Int) (J : IMem) (hc : ∀ l, l < 6 → 0 ≤ J 1 (130 + l) ∧ J 1 (130 + l) ≤ 40) : par (kxT fu N v J) (fun y _ => (J 0 24 = 0 → ¬ STD N J → y = v) ∧ (J 0 24 ≠ 0 ∨ STD N J → y = -1)) := by
  unfold kxT
  rw [zj_e]
  refine par_ite (fun a => par_zb (xv_still (fu := fu) N J hc) (fun y J2 ⟨_, g⟩ => ?_)) (fun a => ?_)
  · rcases g with ⟨e, s⟩ | ⟨e, s⟩
    · refine par_f (show ¬ y = 0 by omega) ?_
      refine par_zw' (fun J3 _ => par_f (by decide) (par_zr ⟨fun _ z => absurd s z, fun _ => rfl⟩))
    · refine par_t e ?_
      refine par_zw' (fun J3 _ => par_t (by decide) (par_zr ⟨fun _ _ => rfl, fun z => ?_⟩))
      rcases z with z | z
      · exact absurd a z
      · exact absurd z s
  · refine par_zw' (fun J3 _ => par_f (by decide) (par_zr ⟨fun z => absurd z a, fun _ => rfl⟩))
theorem xv_out (N : Int) (J : IMem) (hc : ∀ l, l < 6 → 0 ≤ J 1 (130 + l) ∧ J 1 (130 + l) ≤ 40) (hs : ¬ STD N J) (v : Int) (m2 : Nat) : par (f_X_sitsAfter_12 fu (kxT fu N) 0 N m2 v J) (fun y _ => (J 0 24 = 0 → y = v) ∧ (J 0 24 ≠ 0 → y = -1)) := by
  have fin : par (kxT fu N v J) (fun y _ => (J 0 24 = 0 → y = v) ∧ (J 0 24 ≠ 0 → y = -1)) := par_mono (xv_kx (fu := fu) N v J hc) (fun _ _ ⟨a, b⟩ => ⟨fun z => a z hs, fun z => b (Or.inl z)⟩)
  cases m2 with
  | zero => exact par_none
  | succ m2 =>
    show par (fb_X_sitsAfter_12 fu (kxT fu N) 0 N (f_X_sitsAfter_12 fu (kxT fu N) 0 N m2) v J) _
    unfold fb_X_sitsAfter_12
    refine par_ite (fun _ => par_zb (xv_still (fu := fu) N J hc) (fun y J2 ⟨g1, g2⟩ => ?_)) (fun _ => fin)
    rcases g2 with ⟨_, s⟩ | ⟨e, _⟩
    · exact absurd s hs
    · rw [if_pos e, g1]
      exact fin
theorem till12 (hfu : 5000000000 < fu) (N : Int) : ∀ (m m2 n : Nat) (I J : IMem), n ≤ 40 → HG 82 I J → NUQ J → STD N J → J 0 24 = 0 → J 0 23 = N → J 1 70 + 40 < 2000000000 + n → pq (f_M_countTill_2 fu (kcT fu N) 81 N m ((n + 1 : Nat) : Int) I) (f_X_sitsAfter_12 fu (kxT fu N) 0 N m2 (n : Int) J) (fun x _ y _ => x = y) := by
  intro m
  induction m with
  | zero => intro _ _ _ _ _ _ _ _ _ _ _; exact pq_nl
  | succ m ih =>
    intro m2 n I J hn h hU hst h24 h23 hc
    cases m2 with
    | zero => exact pq_nr
    | succ m2 =>
      show pq (fb_M_countTill_2 fu (kcT fu N) 81 N (f_M_countTill_2 fu (kcT fu N) 81 N m) ((n + 1 : Nat) : Int) I) (fb_X_sitsAfter_12 fu (kxT fu N) 0 N (f_X_sitsAfter_12 fu (kxT fu N) 0 N m2) (n : Int) J) _
      unfold fb_M_countTill_2 fb_X_sitsAfter_12
      have hcs : ∀ l, l < 6 → 0 ≤ J 1 (130 + l) ∧ J 1 (130 + l) ≤ 40 := fun l hl => (hl_c h.1.1.2.2.2.1 hl).2
      by_cases q : n < 40
      · rw [if_neg (show ¬ (40 : Int) < ((n + 1 : Nat) : Int) by omega), if_pos (show (n : Int) < 40 by omega)]
        refine pq_br (xv_still (fu := fu) N J hcs) (fun y3 J3 _ ⟨g1, g2⟩ => ?_)
        rcases g2 with ⟨e, _⟩ | ⟨_, s⟩
        · rw [if_neg (show ¬ y3 = 0 by omega), g1]
          refine chair_t hfu h hU (by omega) (fun x4 I5 y6 J7 hG hN c70 => ?_)
          have hR : HR 82 1 I5 J7 := hG.1.1
          refine pq_bl (cv_has (fu := fu) N hR.2.2.2.1) (fun y7 I8 _ ⟨k1, k2⟩ => ?_)
          rw [k1]
          have w1 : Wq (wr32 ((n : Int) + 1)) (((n + 1 : Nat) : Int)) := by show wr32 ((n : Int) + 1) = ((n + 1 : Nat) : Int); rw [wr32_i2 (by omega) (by omega)]; rfl
          have w2 : Wq (wr32 (((n + 1 : Nat) : Int) + 1)) (((n + 1 + 1 : Nat) : Int)) := by show wr32 (((n + 1 : Nat) : Int) + 1) = ((n + 1 + 1 : Nat) : Int); rw [wr32_i2 (by omega) (by omega)]; rfl
          simp only [zl_e]
          rw [w2.e, w1.e]
          have c70' : 0 ≤ J 1 70 := (gx_facts h.2.1).2.2.2.2.2.2
          obtain ⟨a1, a2, a3, a4, a5⟩ := hN
          rw [h23] at a5
          obtain ⟨p1, p2⟩ := a5 h24 hst
          rcases k2 with ⟨e7, s7⟩ | ⟨e7, s7⟩
          · rw [if_neg (show ¬ y7 = 0 by omega)]
            exact ih m2 (n + 1) I5 J7 q hG a1 s7 (p1 s7) (a3.trans h23) (by omega)
          · rw [if_pos e7]
            have hcs7 : ∀ l, l < 6 → 0 ≤ J7 1 (130 + l) ∧ J7 1 (130 + l) ≤ 40 := fun l hl => (hl_c hR.2.2.2.1 hl).2
            have hP : HP 82 1 I5 J7 := hR.2.2.1
            have n110 : J7 1 110 ≠ -1 := fun z => by have := hP.1.mp z; omega
            have sli : SLN N 82 I5 ↔ J7 0 24 = 0 := by
              have t := p2 s7
              refine ⟨fun ⟨i, x1, x2, x3⟩ => t.mpr ⟨i, ?_, x2, ?_⟩, fun z => ?_⟩
              · rw [← hP.2.1 n110]; exact x1
              · rw [← (hP.2.2.2.1 i x2).1]; exact x3
              · obtain ⟨i, x1, x2, x3⟩ := t.mp z
                refine ⟨i, ?_, x2, ?_⟩
                · rw [hP.2.1 n110]; exact x1
                · rw [(hP.2.2.2.1 i x2).1]; exact x3
            refine pq_of (cv_kc (fu := fu) N (((n + 1 : Nat) : Int)) I5) (xv_out (fu := fu) N J7 hcs7 s7 (((n + 1 : Nat) : Int)) m2) (fun x _ y _ ⟨c1, c2⟩ ⟨d1, d2⟩ => ?_)
            by_cases z : J7 0 24 = 0
            · exact (c1 (sli.mpr z)).trans (d1 z).symm
            · exact (c2 (fun s => z (sli.mp s))).trans (d2 z).symm
        · exact absurd hst s
      · rw [if_pos (show (40 : Int) < ((n + 1 : Nat) : Int) by omega), if_neg (show ¬ (n : Int) < 40 by omega)]
        exact pq_r (par_mono (xv_kx (fu := fu) N (n : Int) J hcs) (fun _ _ ⟨_, z⟩ => (z (Or.inr hst)).symm))
theorem till3 {N : Int} (hfu : 5000000000 < fu) (hN : inr N) (h : HG 82 I J) (hU : NUQ J) (hst : STD N J) (hc : J 1 70 + 60 < 1900000000) : pq (f_M_countTill fu 81 N I) (f_X_sitsAfter fu 0 N J) (fun x _ y _ => x = y) := by
  obtain ⟨hX, hG, hC⟩ := h
  have g4 : GX 0 (up (up J 0 23 N) 0 24 0) := GX_up0 (GX_up0 hG hN (Or.inl (by decide))) (lit_in rfl) (Or.inl (by decide))
  have e4 : ∀ q j, up (up J 0 23 N) 0 24 0 q j = if q = 0 ∧ j = 24 then 0 else if q = 0 ∧ j = 23 then N else J q j := fun q j => rfl
  rw [count_eq, sits_eq]
  refine pq_zwr (pq_zwr ?_)
  obtain ⟨J4, hJ4⟩ : ∃ J4, J4 = up (up J 0 23 N) 0 24 0 := ⟨_, rfl⟩
  rw [← hJ4]
  rw [← hJ4] at g4 e4
  have w : ∀ q j, ¬ (q = 0 ∧ (j = 23 ∨ j = 24)) → J4 q j = J q j := fun q j a => by rw [e4, if_neg (by omega), if_neg (by omega)]
  have w1 : ∀ j, 130 ≤ j → j < 1580 → J4 1 j = J 1 j := fun j _ _ => w 1 j (by omega)
  exact till12 hfu N fu fu 0 I J4 (by decide) ⟨⟨hr_mv hX.1 (fun _ _ _ => rfl) (fun j _ => w _ _ (by omega)), by rw [w 0 22 (by omega)]; exact hX.2.1, hX.2.2⟩, g4, hC⟩ (nuq_mv w1 hU) ((std_mv w1 N).mpr hst) (by rw [e4, if_pos ⟨rfl, rfl⟩]) (by rw [e4, if_neg (by omega), if_pos ⟨rfl, rfl⟩]) (by rw [w 1 70 (by omega)]; omega)
theorem hx_copy3 {I2 J2 : IMem} (h : HR 1 1 I J) (h11 : I 1 11 = J 0 22) (hA : HA 82 I) (hc : HCP 82 1 I2 I) (f2 : ∀ q j, (q < 82 ∨ q = 96 ∨ 122 ≤ q) → I2 q j = I q j) (so : ∀ q j, q ≠ 3 → q ≠ 23 → q ≠ 24 → ¬ (q = 0 ∧ j = 50) → J2 q j = J q j) : HX 82 I2 J2 := by
  refine ⟨hr_cp h hc (fun j _ => so 1 j (by decide) (by decide) (by decide) (by omega)), ?_, ?_, ?_⟩
  · rw [so 0 22 (by decide) (by decide) (by decide) (by decide), ← h11]
    exact hc.1.2.2
  · exact (f2 _ _ (Or.inr (Or.inl rfl))).trans hA.1
  · exact (f2 _ _ (Or.inr (Or.inl rfl))).trans hA.2
theorem ev_isTh (fu l : Nat) (p : Int) (J : IMem) (hl : l < 6) (hc : 0 ≤ J 1 (130 + l) ∧ J 1 (130 + l) ≤ 40) : f_X_isThere fu 0 (l : Int) p J = zr (if 0 ≤ p ∧ p < J 1 (130 + l) then 1 else 0) J := by
  unfold f_X_isThere
  simp only [zl_e]
  rw [ev_xLine, zb_zr, if_pos (show 0 ≤ (l : Int) ∧ (l : Int) < 6 by omega), if_neg ne10, w_130 l hl, zg_t (show 0 ≤ ((130 + l : Nat) : Int) ∧ ((130 + l : Nat) : Int) < 6190 by omega), show J (0 + 1) ((130 + l : Nat) : Int).toNat = J 1 (130 + l) from rfl, wr32_i2 (x := J 1 (130 + l) - 1) (by omega) (by omega), ev_isIn, zb_zr]
  by_cases q : 0 ≤ p ∧ p < J 1 (130 + l)
  · rw [if_pos q, if_pos (show 0 ≤ p ∧ p ≤ J 1 (130 + l) - 1 by omega), if_neg ne10]
  · rw [if_neg q, if_neg (show ¬ (0 ≤ p ∧ p ≤ J 1 (130 + l) - 1) by omega), if_pos eq00]
theorem ev_isTh0 (fu : Nat) (a p : Int) (J : IMem) (h : ¬ (0 ≤ a ∧ a < 6)) : f_X_isThere fu 0 a p J = zr 0 J := by
  unfold f_X_isThere
  rw [ev_xLine, zb_zr, if_neg h, if_pos eq00]
theorem ev_has0 (fu o : Nat) (a p : Int) (I : IMem) (h : ¬ (0 ≤ a ∧ a < 6)) : f_L_has fu o a p I = zr 0 I := by
  unfold f_L_has
  rw [ev_isLine, if_neg h, zb_zr, if_pos eq00]
theorem till2 (hfu : 5000000000 < fu) (h : HR 1 1 I J) (h11 : I 1 11 = J 0 22) (hA : HA 82 I) (hg : GX 0 J) (hC : GC I) (hU : NUQ J) (hc : J 1 70 + 60 < 1900000000) {l p : Nat} (hl : l < 6) (hp : (p : Int) < J 1 (130 + l)) : pq (f_M_tillSits fu 81 1 ((40 * l + p : Nat) : Int) I) (f_X_till fu 0 (l : Int) (p : Int) J) (fun x _ y _ => x = y) := by
  have hL : HL 1 1 I J := h.2.2.2.1
  obtain ⟨c1, c2⟩ := hl_c hL hl
  have p40 : p < 40 := by omega
  unfold f_M_tillSits f_X_till
  rw [ev_isTh fu l p J hl c2, zb_zr, if_pos (show 0 ≤ (p : Int) ∧ (p : Int) < J 1 (130 + l) by omega), if_neg ne10, ev_of0 fu 0 l p J hl p40, zb_zr]
  refine pq_bl (par_and (cv_hcopy (fu := fu) (81 + 1) 1 (by omega) I) (par_sat (ok_H_copyFrom fu (81 + 1) 1 I hfu hC (by omega) (by omega)))) (fun _ I2 e ⟨hc2, _, hC2, _⟩ => ?_)
  have f2 := fr_dcopy (fu := fu) (I := I) e
  rw [ev_get0 fu (1 + 6) (40 * l + p) I2 (by omega), zb_zr]
  have n1 : I2 (1 + 6 + 1) (6 * (40 * l + p) + 0) = J (0 + 1) (140 + 6 * (40 * l + p) + 0) := (f2 _ _ (by omega)).trans (hl_r (l := l) (p := p) (f := 0) hL hl hp (by decide))
  rw [n1]
  obtain ⟨N, hNe⟩ : ∃ N, N = J (0 + 1) (140 + 6 * (40 * l + p) + 0) := ⟨_, rfl⟩
  rw [← hNe]
  have hst : STD N J := std_at hl p40 hp hNe.symm
  have hN : inr N := by rw [hNe]; exact hg.1 _ _
  refine pq_br (par_sat (ok_X_setsOut fu 0 J hfu hg)) (fun _ J2 _ ⟨_, hG2, so⟩ => ?_)
  have so' : ∀ q j, q ≠ 3 → q ≠ 23 → q ≠ 24 → ¬ (q = 0 ∧ j = 50) → J2 q j = J q j := fun q j a b c d => so.2.2.2.2 q j (by omega) (by omega) (by omega) (by omega)
  have w1 : ∀ j, 130 ≤ j → j < 1580 → J2 1 j = J 1 j := fun j _ _ => so' 1 j (by decide) (by decide) (by decide) (by omega)
  refine pq_b (Q1 := fun x _ y _ => x = y) ?_ (fun x I' y J' _ _ e => pq_br (P := fun _ _ => True) (fun _ _ _ => trivial) (fun _ _ _ _ => pq_end e))
  exact till3 hfu hN ⟨hx_copy3 h h11 hA hc2 f2 so', hG2, hC2⟩ (nuq_mv w1 hU) ((std_mv w1 N).mpr hst) (by rw [so' 1 70 (by decide) (by decide) (by decide) (by decide)]; exact hc)
theorem pj_till (a b : Int) (hfu : 5000000000 < fu) (h : RJ I J) (hg : GX 0 J) (hC : GC I) (hU : NUQ J) (hc : J 1 70 + 60 < 1900000000) : pq (f_S_till fu 0 a b I) (f_X_till fu 0 a b J) (fun x _ y _ => x = y) := by
  unfold f_S_till
  have hL : HL 1 1 I J := h.1.1.2.2.2.1
  by_cases h1 : 0 ≤ a ∧ a < 6
  · obtain ⟨l, rfl⟩ : ∃ l : Nat, a = (l : Int) := ⟨a.toNat, by omega⟩
    have hl : l < 6 := by omega
    obtain ⟨c1, c2⟩ := hl_c hL hl
    rw [ev_has fu (0 + 7) l b I hl, zb_zr, show I (0 + 7 + 2) l = J 1 (130 + l) from c1]
    by_cases h2 : 0 ≤ b ∧ b < J 1 (130 + l)
    · obtain ⟨p, rfl⟩ : ∃ p : Nat, b = (p : Int) := ⟨b.toNat, by omega⟩
      have wk : Wq (wr32 (wr32 ((l : Int) * 40) + (p : Int))) (((40 * l + p : Nat) : Int)) := by show wr32 (wr32 ((l : Int) * 40) + (p : Int)) = ((40 * l + p : Nat) : Int); rw [wr32_i2 (x := (l : Int) * 40) (by omega) (by omega), wr32_i2 (by omega) (by omega)]; omega
      rw [if_pos h2, if_neg ne10, wk.e, zb_idq]
      exact till2 hfu h.1.1 h.1.2.1 (rj_ha h) hg hC hU hc hl h2.2
    · rw [if_neg h2, if_pos eq00]
      unfold f_X_till
      rw [ev_isTh fu l b J hl c2, zb_zr, if_neg h2, if_pos eq00]
      exact pq_end rfl
  · rw [ev_has0 fu (0 + 7) a b I h1, zb_zr, if_pos eq00]
    unfold f_X_till
    rw [ev_isTh0 fu a b J h1, zb_zr, if_pos eq00]
    exact pq_end rfl
end
/-! two groups joined: both sides -/
/-- joined, by the reference's memory: line l has c, its group p goes into spot k2, which then has s -/
def JOI (l p c k2 : Nat) (s : Int) (J J' : IMem) : Prop := ∀ q j, J' q j = if q = 1 ∧ j = 130 + l then (c : Int) - 1 else if q = 1 ∧ 140 + 6 * (40 * l + p) ≤ j ∧ j < 140 + 6 * (40 * l + c - 1) then (if j + 6 = 140 + 6 * k2 + 1 ∨ j + 6 = 140 + 6 * k2 + 2 then s else J 1 (j + 6)) else if q = 1 ∧ (j = 140 + 6 * k2 + 1 ∨ j = 140 + 6 * k2 + 2) then s else J q j
/-- joined, by the dream's -/
def JOC (l p c k2 : Nat) (s : Int) (I I' : IMem) : Prop := ∀ q j, I' q j = if q = 90 ∧ j = l then (c : Int) - 1 else if q = 89 ∧ 6 * (40 * l + p) ≤ j ∧ j < 6 * (40 * l + c - 1) then (if j + 6 = 6 * k2 + 1 ∨ j + 6 = 6 * k2 + 2 then s else I 89 (j + 6)) else if q = 89 ∧ (j = 6 * k2 + 1 ∨ j = 6 * k2 + 2) then s else I q j
section
variable {fu : Nat} {I J I' J' : IMem} {l p c k2 : Nat} {s : Int}
theorem joi_o (h : JOI l p c k2 s J J') (hl : l < 6) (hk : k2 < 240) (hc : c ≤ 40) (q j : Nat) (hq : ¬ (q = 1 ∧ 130 ≤ j ∧ j < 1580)) : J' q j = J q j := by
  unfold JOI at h
  rw [h, if_neg (by omega), if_neg (by omega), if_neg (by omega)]
theorem joc_o (h : JOC l p c k2 s I I') (q j : Nat) (hq : q ≠ 89 ∧ q ≠ 90) : I' q j = I q j := by
  unfold JOC at h
  rw [h, if_neg (by omega), if_neg (by omega), if_neg (by omega)]
theorem joi_c (h : JOI l p c k2 s J J') (hl : l < 6) (hcJ : J 1 (130 + l) = (c : Int)) {l' : Nat} (hl' : l' < 6) : J' 1 (130 + l') = if l' = l then (c : Int) - 1 else J 1 (130 + l') := by
  unfold JOI at h
  rw [h]
  by_cases y : l' = l
  · rw [if_pos (by omega), if_pos y]
  · rw [if_neg (by omega), if_neg (by omega), if_neg (by omega), if_neg y]
theorem hl_join (hL : HL 82 1 I J) (hl : l < 6) (hp : p < c) (hc : c ≤ 40) (hcJ : J 1 (130 + l) = (c : Int)) (hi : JOC l p c k2 s I I') (hj : JOI l p c k2 s J J') : HL 82 1 I' J' := by
  intro l' hl'
  obtain ⟨b1, b2, b3⟩ := hL l' hl'
  have e := joi_c hj hl hcJ hl'
  unfold JOC at hi
  unfold JOI at hj
  have ei : I' (82 + 8) l' = if l' = l then (c : Int) - 1 else J 1 (130 + l') := by
    rw [hi]
    by_cases y : l' = l
    · rw [if_pos ⟨rfl, y⟩, if_pos y]
    · rw [if_neg (by omega), if_neg (by omega), if_neg (by omega), if_neg y]; exact b1
  refine ⟨ei.trans e.symm, ?_, fun p' f hp' hf => ?_⟩
  · rw [e]
    by_cases y : l' = l
    · rw [if_pos y]; omega
    · rw [if_neg y]; exact b2
  · have lt : (p' : Int) < J 1 (130 + l') := by
      rw [e] at hp'
      by_cases y : l' = l
      · rw [if_pos y] at hp'; rw [y, hcJ]; omega
      · rw [if_neg y] at hp'; exact hp'
    have p40 : p' < 40 := by omega
    rw [hi, hj, if_neg (show ¬ (82 + 7 = 90 ∧ 6 * (40 * l' + p') + f = l) by omega), if_neg (show ¬ (1 = 1 ∧ 140 + 6 * (40 * l' + p') + f = 130 + l) by omega)]
    by_cases y : 6 * (40 * l + p) ≤ 6 * (40 * l' + p') + f ∧ 6 * (40 * l' + p') + f < 6 * (40 * l + c - 1)
    · rw [if_pos (show 82 + 7 = 89 ∧ 6 * (40 * l + p) ≤ 6 * (40 * l' + p') + f ∧ 6 * (40 * l' + p') + f < 6 * (40 * l + c - 1) from ⟨rfl, y⟩), if_pos (show 1 = 1 ∧ 140 + 6 * (40 * l + p) ≤ 140 + 6 * (40 * l' + p') + f ∧ 140 + 6 * (40 * l' + p') + f < 140 + 6 * (40 * l + c - 1) by omega)]
      have ll : l' = l := by omega
      have g := hl_r (l := l) (p := p' + 1) (f := f) hL hl (by rw [hcJ]; omega) hf
      by_cases z : 6 * (40 * l' + p') + f + 6 = 6 * k2 + 1 ∨ 6 * (40 * l' + p') + f + 6 = 6 * k2 + 2
      · rw [if_pos z, if_pos (by omega)]
      · rw [if_neg z, if_neg (by omega)]
        rw [ll]
        rw [show 6 * (40 * l + p') + f + 6 = 6 * (40 * l + (p' + 1)) + f by omega, show 140 + 6 * (40 * l + p') + f + 6 = 140 + 6 * (40 * l + (p' + 1)) + f by omega]
        exact g
    · rw [if_neg (fun x => y x.2), if_neg (show ¬ (1 = 1 ∧ 140 + 6 * (40 * l + p) ≤ 140 + 6 * (40 * l' + p') + f ∧ 140 + 6 * (40 * l' + p') + f < 140 + 6 * (40 * l + c - 1)) by omega)]
      by_cases z : 6 * (40 * l' + p') + f = 6 * k2 + 1 ∨ 6 * (40 * l' + p') + f = 6 * k2 + 2
      · rw [if_pos (show 82 + 7 = 89 ∧ (6 * (40 * l' + p') + f = 6 * k2 + 1 ∨ 6 * (40 * l' + p') + f = 6 * k2 + 2) from ⟨rfl, z⟩), if_pos (show 1 = 1 ∧ (140 + 6 * (40 * l' + p') + f = 140 + 6 * k2 + 1 ∨ 140 + 6 * (40 * l' + p') + f = 140 + 6 * k2 + 2) by omega)]
      · rw [if_neg (fun x => z x.2), if_neg (show ¬ (1 = 1 ∧ (140 + 6 * (40 * l' + p') + f = 140 + 6 * k2 + 1 ∨ 140 + 6 * (40 * l' + p') + f = 140 + 6 * k2 + 2)) by omega)]
        exact b3 p' f lt hf
theorem hx_join (h : HX 82 I J) (hl : l < 6) (hk : k2 < 240) (hp : p < c) (hc : c ≤ 40) (hcJ : J 1 (130 + l) = (c : Int)) (hi : JOC l p c k2 s I I') (hj : JOI l p c k2 s J J') : HX 82 I' J' := by
  obtain ⟨⟨hS, hY, hP, hL, hW⟩, h11, hA⟩ := h
  have io := joc_o hi
  have jo := joi_o hj hl hk hc
  refine ⟨⟨hs_mv hS (fun d j q => io _ _ (by omega)) (fun j q => jo _ _ (by omega)), hy_mv hY (fun j => io _ _ (by omega)) (fun j a b => jo _ _ (by omega)), hp_mv hP (fun j => ⟨io _ _ (by omega), io _ _ (by omega)⟩) (fun j q => jo _ _ (by omega)), hl_join hL hl hp hc hcJ hi hj, hw_mv hW (fun d j a b q => io _ _ (by omega)) (fun j a b => jo _ _ (by omega))⟩, ?_, ?_, ?_⟩
  · rw [io _ _ (by omega), jo _ _ (by omega)]; exact h11
  · rw [io _ _ (by omega)]; exact hA.1
  · rw [io _ _ (by omega)]; exact hA.2
/-- where a group stood before two joined -/
def srcJ (l p k : Nat) : Nat := if k / 40 = l ∧ p ≤ k % 40 then k + 1 else k
theorem joi_src (hl : l < 6) (hp : p < c) (hc : c ≤ 40) (hcJ : J 1 (130 + l) = (c : Int)) (hj : JOI l p c k2 s J J') {k : Nat} (hk : INL J' k) : INL J (srcJ l p k) ∧ srcJ l p k ≠ 40 * l + p ∧ J' 1 (140 + 6 * k) = J 1 (140 + 6 * srcJ l p k) ∧ (k / 40 = l → k % 40 < 39) := by
  obtain ⟨k1, k3⟩ := hk
  have e := joi_c hj hl hcJ (show k / 40 < 6 by omega)
  rw [e] at k3
  unfold JOI at hj
  unfold srcJ
  by_cases y : k / 40 = l
  · rw [if_pos y] at k3
    by_cases z : p ≤ k % 40
    · rw [if_pos ⟨y, z⟩]
      refine ⟨⟨by omega, ?_⟩, by omega, ?_, fun _ => by omega⟩
      · rw [show (k + 1) / 40 = l by omega, hcJ]; omega
      · rw [hj, if_neg (by omega), if_pos (by omega), if_neg (by omega)]
        exact congrArg (J 1) (by omega)
    · rw [if_neg (fun x => z x.2)]
      refine ⟨⟨k1, by rw [y, hcJ]; omega⟩, by omega, ?_, fun _ => by omega⟩
      rw [hj, if_neg (by omega), if_neg (by omega), if_neg (by omega)]
  · rw [if_neg y] at k3
    rw [if_neg (fun x => y x.1)]
    refine ⟨⟨k1, k3⟩, by omega, ?_, fun z => absurd z y⟩
    rw [hj, if_neg (by omega), if_neg (by omega), if_neg (by omega)]
theorem src_inj {l p a b : Nat} (h : srcJ l p a = srcJ l p b) (ha : a < 240) (hb : b < 240) (ha2 : srcJ l p a < 240) (hb2 : srcJ l p b < 240) (hna : srcJ l p a ≠ 40 * l + p) (hnb : srcJ l p b ≠ 40 * l + p) (hla : a / 40 = l → a % 40 < 39) (hlb : b / 40 = l → b % 40 < 39) (hp : p < 40) : a = b := by
  unfold srcJ at *
  by_cases x : a / 40 = l ∧ p ≤ a % 40
  · rw [if_pos x] at h ha2 hna
    have xa := hla x.1
    by_cases y : b / 40 = l ∧ p ≤ b % 40
    · rw [if_pos y] at h hb2 hnb; omega
    · rw [if_neg y] at h hb2 hnb; omega
  · rw [if_neg x] at h ha2 hna
    by_cases y : b / 40 = l ∧ p ≤ b % 40
    · have yb := hlb y.1
      rw [if_pos y] at h hb2 hnb; omega
    · rw [if_neg y] at h hb2 hnb; exact h
theorem nuq_join (hU : NUQ J) (hl : l < 6) (hp : p < c) (hc : c ≤ 40) (hcJ : J 1 (130 + l) = (c : Int)) (hj : JOI l p c k2 s J J') : NUQ J' := by
  intro a b ha hb e
  obtain ⟨a1, a2, a3, a4⟩ := joi_src hl hp hc hcJ hj ha
  obtain ⟨b1, b2, b3, b4⟩ := joi_src hl hp hc hcJ hj hb
  exact src_inj (hU _ _ a1 b1 (a3.symm.trans (e.trans b3))) ha.1 hb.1 a1.1 b1.1 a2 b2 a4 b4 (by omega)
theorem std_join {N : Int} (hl : l < 6) (hp : p < c) (hc : c ≤ 40) (hcJ : J 1 (130 + l) = (c : Int)) (hj : JOI l p c k2 s J J') (hin : INL J k2) (hne : k2 ≠ 40 * l + p) (e : J 1 (140 + 6 * k2) = N) : STD N J' := by
  have jc := fun (l' : Nat) (hl' : l' < 6) => joi_c hj hl hcJ hl'
  unfold JOI at hj
  obtain ⟨k1, k3⟩ := hin
  by_cases y : k2 / 40 = l
  · rw [y, hcJ] at k3
    by_cases z : p < k2 % 40
    · refine ⟨k2 - 1, ⟨by omega, ?_⟩, ?_⟩
      · rw [show (k2 - 1) / 40 = l by omega, jc l hl, if_pos rfl]; omega
      · rw [hj, if_neg (by omega), if_pos (by omega), if_neg (by omega), ← e]
        exact congrArg (J 1) (by omega)
    · refine ⟨k2, ⟨k1, ?_⟩, ?_⟩
      · rw [y, jc l hl, if_pos rfl]; omega
      · rw [hj, if_neg (by omega), if_neg (by omega), if_neg (by omega)]; exact e
  · refine ⟨k2, ⟨k1, ?_⟩, ?_⟩
    · rw [jc (k2 / 40) (by omega), if_neg y]; exact k3
    · rw [hj, if_neg (by omega), if_neg (by omega), if_neg (by omega)]; exact e
end
section
variable {fu : Nat} {Q : Int → IMem → Prop}
theorem par_zwu {I : IMem} {o j : Nat} {v : Int} {k : IMem → Res} (h : par (k (up I o j v)) Q) : par (zw I o j v k) Q := h
theorem xv_j85 (kk : IMem → Res) {l p : Nat} (hl : l < 6) (hp : p + 1 < 40) (p5 : Int) {J0 : IMem} (hz : 1 ≤ J0 1 (141 + 6 * (40 * l + p + 1)) ∧ J0 1 (141 + 6 * (40 * l + p + 1)) ≤ 8) (hk : ∀ J, GX 0 J → (∀ q j, J q j = if q = 1 ∧ 140 + 6 * (40 * l + p) ≤ j ∧ j < 140 + 6 * (40 * l + p) + 6 then J0 1 (j + 6) else J0 q j) → par (kk J) Q) : ∀ (m f : Nat) (J : IMem), f ≤ 6 → GX 0 J → (∀ q j, J q j = if q = 1 ∧ 140 + 6 * (40 * l + p) ≤ j ∧ j < 140 + 6 * (40 * l + p) + f then J0 1 (j + 6) else J0 q j) → par (f_X_joined_85 fu kk 0 (l : Int) p5 (p : Int) m (f : Int) J) Q := by
  intro m
  induction m with
  | zero => intro _ _ _ _ _; exact par_none
  | succ m ih =>
    intro f J hf hG hJ
    show par (fb_X_joined_85 fu kk 0 (l : Int) p5 (p : Int) (f_X_joined_85 fu kk 0 (l : Int) p5 (p : Int) m) (f : Int) J) Q
    unfold fb_X_joined_85
    by_cases h : f < 6
    · have w1 : Wq (wr32 ((p : Int) + 1)) (((p + 1 : Nat) : Int)) := by show wr32 ((p : Int) + 1) = ((p + 1 : Nat) : Int); rw [wr32_i2 (by omega) (by omega)]; rfl
      have w2 : Wq (wr32 (((140 + 6 * (40 * l + p) : Nat) : Int) + (f : Int))) (((140 + 6 * (40 * l + p) + f : Nat) : Int)) := by show wr32 (((140 + 6 * (40 * l + p) : Nat) : Int) + (f : Int)) = ((140 + 6 * (40 * l + p) + f : Nat) : Int); rw [wr32_i2 (by omega) (by omega)]; omega
      have w3 : Wq (wr32 ((f : Int) + 1)) (((f + 1 : Nat) : Int)) := by show wr32 ((f : Int) + 1) = ((f + 1 : Nat) : Int); rw [wr32_i2 (by omega) (by omega)]; rfl
      rw [if_pos (show (f : Int) < 6 by omega), ev_cell fu l p J hl (by omega), zb_zr, w1.e, ev_of fu 0 l (p + 1) f J hl hp h, zb_zr]
      simp only [zl_e]
      rw [w2.e, w3.e]
      refine par_zg (fun _ => ?_)
      have v : J (0 + 1) (140 + 6 * (40 * l + (p + 1)) + f) = J0 1 (140 + 6 * (40 * l + p) + f + 6) := by
        rw [hJ, if_neg (by omega)]
        exact congrArg (J0 1) (by omega)
      have iv1 : inr (J0 1 (140 + 6 * (40 * l + p) + f + 6)) := by rw [← v]; exact hG.1 _ _
      rw [v]
      have cw : CW J (0 + 1) ((140 + 6 * (40 * l + p) + f : Nat) : Int).toNat (J0 1 (140 + 6 * (40 * l + p) + f + 6)) := by
        rw [show ((140 + 6 * (40 * l + p) + f : Nat) : Int).toNat = 140 + 6 * (40 * l + p) + f from rfl]
        by_cases y : f = 1
        · rw [y, show 140 + 6 * (40 * l + p) + 1 + 6 = 141 + 6 * (40 * l + p + 1) by omega]
          exact cw_sz (by omega)
        · exact cw_grp (by omega)
      refine par_zwu (ih (f + 1) _ h (GX_up1 hG iv1 cw) (fun q j => ?_))
      show (if q = 0 + 1 ∧ j = 140 + 6 * (40 * l + p) + f then J0 1 (140 + 6 * (40 * l + p) + f + 6) else J q j) = _
      by_cases y : q = 0 + 1 ∧ j = 140 + 6 * (40 * l + p) + f
      · rw [if_pos y, if_pos (by omega), y.2]
      · rw [if_neg y, hJ]
        by_cases z : q = 1 ∧ 140 + 6 * (40 * l + p) ≤ j ∧ j < 140 + 6 * (40 * l + p) + f
        · rw [if_pos z, if_pos (by omega)]
        · rw [if_neg z, if_neg (by omega)]
    · rw [if_neg (show ¬ (f : Int) < 6 by omega)]
      have : f = 6 := by omega
      subst this
      exact hk J hG hJ
theorem xv_j65 (kk : IMem → Res) {l p c : Nat} (hl : l < 6) (hc : c ≤ 40) (p5 : Int) {J0 : IMem} (hcJ : J0 1 (130 + l) = (c : Int)) (hz : ∀ p' : Nat, p' < c → 1 ≤ J0 1 (141 + 6 * (40 * l + p')) ∧ J0 1 (141 + 6 * (40 * l + p')) ≤ 8) (hk : ∀ J, GX 0 J → (∀ q j, J q j = if q = 1 ∧ 140 + 6 * (40 * l + p) ≤ j ∧ j < 140 + 6 * (40 * l + c - 1) then J0 1 (j + 6) else J0 q j) → par (kk J) Q) : ∀ (m i : Nat) (J : IMem), p ≤ i → i + 1 ≤ c → GX 0 J → (∀ q j, J q j = if q = 1 ∧ 140 + 6 * (40 * l + p) ≤ j ∧ j < 140 + 6 * (40 * l + i) then J0 1 (j + 6) else J0 q j) → par (f_X_joined_65 fu kk 0 (l : Int) p5 m (i : Int) J) Q := by
  intro m
  induction m with
  | zero => intro _ _ _ _ _ _; exact par_none
  | succ m ih =>
    intro i J hi hic hG hJ
    show par (fb_X_joined_65 fu kk 0 (l : Int) p5 (f_X_joined_65 fu kk 0 (l : Int) p5 m) (i : Int) J) Q
    unfold fb_X_joined_65
    have w1 : Wq (wr32 ((i : Int) + 1)) (((i + 1 : Nat) : Int)) := by show wr32 ((i : Int) + 1) = ((i + 1 : Nat) : Int); rw [wr32_i2 (by omega) (by omega)]; rfl
    simp only [zl_e]
    rw [w1.e, w_130 l hl]
    have a1 : J (0 + 1) ((130 + l : Nat) : Int).toNat = (c : Int) := by
      show J 1 (130 + l) = _
      rw [hJ, if_neg (by omega)]; exact hcJ
    rw [a1]
    refine par_zg (fun _ => ?_)
    by_cases h : i + 1 < c
    · rw [if_pos (show ((i + 1 : Nat) : Int) < (c : Int) by omega)]
      have sz : J 1 (141 + 6 * (40 * l + i + 1)) = J0 1 (141 + 6 * (40 * l + (i + 1))) := by
        rw [hJ, if_neg (by omega)]
        exact congrArg (J0 1) (by omega)
      refine xv_j85 _ hl (by omega) p5 (J0 := J) (by rw [sz]; exact hz (i + 1) h) (fun J1 hG1 e1 => ?_) fu 0 J (by decide) hG (fun q j => by rw [if_neg (by omega)])
      refine ih (i + 1) J1 (by omega) (by omega) hG1 (fun q j => ?_)
      rw [e1]
      by_cases y : q = 1 ∧ 140 + 6 * (40 * l + i) ≤ j ∧ j < 140 + 6 * (40 * l + i) + 6
      · rw [if_pos y, if_pos (by omega), hJ, if_neg (by omega)]
      · rw [if_neg y, hJ]
        by_cases z : q = 1 ∧ 140 + 6 * (40 * l + p) ≤ j ∧ j < 140 + 6 * (40 * l + i)
        · rw [if_pos z, if_pos (by omega)]
        · rw [if_neg z, if_neg (by omega)]
    · rw [if_neg (show ¬ ((i + 1 : Nat) : Int) < (c : Int) by omega)]
      have e : 40 * l + c - 1 = 40 * l + i := by omega
      rw [e] at hk
      exact hk J hG hJ
/-- the class's two joined in the dream -/
theorem cv_put (o k f : Nat) (v : Int) (I : IMem) (hk : k < 240) (hf : f < 6) (fi : Int) (hfi : fi = (f : Int)) : par (f_L_put fu o (k : Int) fi v I) (fun _ I' => ∀ q j, I' q j = if q = o + 1 ∧ j = 6 * k + f then v else I q j) := by
  unfold f_L_put
  have w1 : Wq (wr32 (wr32 ((k : Int) * 6) + fi)) (((6 * k + f : Nat) : Int)) := by show wr32 (wr32 ((k : Int) * 6) + fi) = ((6 * k + f : Nat) : Int); rw [wr32_i2 (x := (k : Int) * 6) (by omega) (by omega), wr32_i2 (by omega) (by omega)]; omega
  rw [zl_e, w1.e, if_neg (show ¬ ((6 * k + f : Nat) : Int) < 0 by omega), if_pos (show ((6 * k + f : Nat) : Int) < 1440 by omega)]
  exact par_zg (fun _ => par_zw' (fun I1 e1 => par_zr e1))
theorem cv_join {l p c k2 : Nat} {s : Int} (I : IMem) (hl : l < 6) (hp : p < c) (hc : c ≤ 40) (hcI : I 90 l = (c : Int)) (hk2 : k2 < 240) (hs : Wq (wr32 (I 89 (6 * (40 * l + p) + 1) + I 89 (6 * k2 + 1))) s) : par (f_L_join fu 88 ((40 * l + p : Nat) : Int) (k2 : Int) I) (fun _ I' => JOC l p c k2 s I I') := by
  unfold f_L_join
  rw [ev_get1 fu 88 (40 * l + p) I (by omega), zb_zr, ev_get1 fu 88 k2 I hk2, zb_zr, zl_e]
  have hs' : Wq (wr32 (I (88 + 1) (6 * (40 * l + p) + 1) + I (88 + 1) (6 * k2 + 1))) s := hs
  rw [hs'.e]
  refine par_zb (cv_put (fu := fu) 88 k2 1 s I hk2 (by decide) 1 rfl) (fun _ I1 e1 => par_zb (cv_put (fu := fu) 88 k2 2 s I1 hk2 (by decide) 2 rfl) (fun _ I2 e2 => ?_))
  have f2 : ∀ q j, I2 q j = if q = 89 ∧ (j = 6 * k2 + 1 ∨ j = 6 * k2 + 2) then s else I q j := fun q j => by
    rw [e2]
    by_cases y : q = 88 + 1 ∧ j = 6 * k2 + 2
    · rw [if_pos y, if_pos (by omega)]
    · rw [if_neg y, e1]
      by_cases z : q = 88 + 1 ∧ j = 6 * k2 + 1
      · rw [if_pos z, if_pos (by omega)]
      · rw [if_neg z, if_neg (by omega)]
  clear e1 e2
  have c90 : I2 (88 + 2) l = (c : Int) := by rw [f2, if_neg (by omega)]; exact hcI
  refine par_zb (Q1 := fun _ I' => JOC l p c k2 s I I') ?_ (fun _ _ g => par_zr g)
  unfold f_L_remove
  simp only [zl_e]
  rw [wd40 (40 * l + p) (by omega), wr40 (40 * l + p) (by omega), show (40 * l + p) / 40 = l by omega, show (40 * l + p) % 40 = p by omega, ev_has fu 88 l (p : Int) I2 hl, zb_zr, if_pos (show 0 ≤ (p : Int) ∧ (p : Int) < I2 (88 + 2) l by rw [c90]; omega), if_neg ne10, show ((l : Nat) : Int).toNat = l from rfl, c90]
  have w1 : Wq (wr32 (wr32 ((c : Int) - (p : Int)) - 1)) (((c - p - 1 : Nat) : Int)) := by show wr32 (wr32 ((c : Int) - (p : Int)) - 1) = ((c - p - 1 : Nat) : Int); rw [wr32_i2 (x := (c : Int) - (p : Int)) (by omega) (by omega), wr32_i2 (by omega) (by omega)]; omega
  rw [w1.e]
  have w2 : Wq (wr32 (wr32 (((40 * l + p : Nat) : Int) + 1) * 6)) (((6 * (40 * l + p) + 6 : Nat) : Int)) := by show wr32 (wr32 (((40 * l + p : Nat) : Int) + 1) * 6) = ((6 * (40 * l + p) + 6 : Nat) : Int); rw [wr32_i2 (x := ((40 * l + p : Nat) : Int) + 1) (by omega) (by omega), wr32_i2 (by omega) (by omega)]; omega
  have w3 : Wq (wr32 (((40 * l + p : Nat) : Int) * 6)) (((6 * (40 * l + p) : Nat) : Int)) := by show wr32 (((40 * l + p : Nat) : Int) * 6) = ((6 * (40 * l + p) : Nat) : Int); rw [wr32_i2 (by omega) (by omega)]; omega
  have w4 : Wq (wr32 (((c - p - 1 : Nat) : Int) * 6)) (((6 * (c - p - 1) : Nat) : Int)) := by show wr32 (((c - p - 1 : Nat) : Int) * 6) = ((6 * (c - p - 1) : Nat) : Int); rw [wr32_i2 (by omega) (by omega)]; omega
  rw [w2.e, w3.e, w4.e]
  refine par_zg (fun _ => par_zg (fun _ => par_zc' (fun I3 e3 => par_zg (fun _ => par_zg (fun _ => ?_)))))
  rw [show ((6 * (40 * l + p) + 6 : Nat) : Int).toNat = 6 * (40 * l + p) + 6 from rfl, show ((6 * (40 * l + p) : Nat) : Int).toNat = 6 * (40 * l + p) from rfl, show ((6 * (c - p - 1) : Nat) : Int).toNat = 6 * (c - p - 1) from rfl] at e3
  have c3 : I3 (88 + 2) l = (c : Int) := by rw [e3, if_neg (by omega)]; exact c90
  have w5 : Wq (wr32 ((c : Int) - 1)) ((c : Int) - 1) := wr32_i2 (by omega) (by omega)
  rw [c3, w5.e]
  refine par_zw' (fun I4 e4 => par_zr (fun q j => ?_))
  rw [e4]
  by_cases x : q = 88 + 2 ∧ j = l
  · rw [if_pos x, if_pos (show q = 90 ∧ j = l from x)]
  · rw [if_neg x, if_neg (show ¬ (q = 90 ∧ j = l) from x), e3]
    by_cases y : q = 89 ∧ 6 * (40 * l + p) ≤ j ∧ j < 6 * (40 * l + c - 1)
    · rw [if_pos y, if_pos (show q = 88 + 1 ∧ 6 * (40 * l + p) ≤ j ∧ j < 6 * (40 * l + p) + 6 * (c - p - 1) by omega), f2, show 6 * (40 * l + p) + 6 + (j - 6 * (40 * l + p)) = j + 6 by omega]
      by_cases z : j + 6 = 6 * k2 + 1 ∨ j + 6 = 6 * k2 + 2
      · rw [if_pos z, if_pos ⟨rfl, z⟩]
      · rw [if_neg z, if_neg (fun t => z t.2)] <;> rfl
    · rw [if_neg y, if_neg (show ¬ (q = 88 + 1 ∧ 6 * (40 * l + p) ≤ j ∧ j < 6 * (40 * l + p) + 6 * (c - p - 1)) by omega), f2]
end
/-! together: both sides -/
section
variable {fu : Nat} {I J : IMem}
theorem joined2 {l p l2 p2 : Nat} (hfu : 5000000000 < fu) (h : HR 1 1 I J) (h11 : I 1 11 = J 0 22) (hA : HA 82 I) (hg : GX 0 J) (hC : GC I) (hU : NUQ J) (hc : J 1 70 + 60 < 1900000000) (hl : l < 6) (hp : (p : Int) < J 1 (130 + l)) (hl2 : l2 < 6) (hp2 : (p2 : Int) < J 1 (130 + l2)) (hne : 40 * l2 + p2 ≠ 40 * l + p) (hs : J 1 (141 + 6 * (40 * l + p)) + J 1 (141 + 6 * (40 * l2 + p2)) ≤ 8) : pq (f_M_tillJoined fu 81 1 ((40 * l + p : Nat) : Int) ((40 * l2 + p2 : Nat) : Int) I) (f_X_joined fu 0 (l : Int) (p : Int) (l2 : Int) (p2 : Int) J) (fun x _ y _ => x = y) := by
  have hL : HL 1 1 I J := h.2.2.2.1
  obtain ⟨c1, c2⟩ := hl_c hL hl
  obtain ⟨d1, d2⟩ := hl_c hL hl2
  have p40 : p < 40 := by omega
  have p240 : p2 < 40 := by omega
  obtain ⟨c, hcc⟩ : ∃ c : Nat, J 1 (130 + l) = (c : Int) := ⟨(J 1 (130 + l)).toNat, by omega⟩
  have hc40 : c ≤ 40 := by omega
  have hpc : p < c := by omega
  have gz := (gx_facts hg).2.2.2.2.1
  have z1 := gz (40 * l + p) ⟨by omega, by rw [show (40 * l + p) % 40 = p by omega, show (40 * l + p) / 40 = l by omega]; exact hp⟩
  have in2 : INL J (40 * l2 + p2) := ⟨by omega, by rw [show (40 * l2 + p2) % 40 = p2 by omega, show (40 * l2 + p2) / 40 = l2 by omega]; exact hp2⟩
  have z2 := gz (40 * l2 + p2) in2
  obtain ⟨s, hs1⟩ : ∃ s : Int, J 1 (141 + 6 * (40 * l + p)) + J 1 (141 + 6 * (40 * l2 + p2)) = s := ⟨_, rfl⟩
  have ws : Wq (wr32 (J (0 + 1) (140 + 6 * (40 * l + p) + 1) + J (0 + 1) (140 + 6 * (40 * l2 + p2) + 1))) s := by
    show wr32 (J 1 (140 + 6 * (40 * l + p) + 1) + J 1 (140 + 6 * (40 * l2 + p2) + 1)) = s
    rw [show 140 + 6 * (40 * l + p) + 1 = 141 + 6 * (40 * l + p) by omega, show 140 + 6 * (40 * l2 + p2) + 1 = 141 + 6 * (40 * l2 + p2) by omega, hs1]
    exact wr32_i2 (by omega) (by omega)
  unfold f_M_tillJoined f_X_joined
  rw [ev_of0 fu 0 l2 p2 J hl2 p240, zb_zr, ev_of1 fu 0 l p J hl p40, zb_zr, ev_of1 fu 0 l2 p2 J hl2 p240, zb_zr]
  simp only [zl_e]
  rw [ws.e]
  refine pq_bl (par_and (cv_hcopy (fu := fu) (81 + 1) 1 (by omega) I) (par_sat (ok_H_copyFrom fu (81 + 1) 1 I hfu hC (by omega) (by omega)))) (fun _ I2 e ⟨hc2, _, hC2, _⟩ => ?_)
  have f2 := fr_dcopy (fu := fu) (I := I) e
  refine pq_br (par_sat (ok_X_setsOut fu 0 J hfu hg)) (fun _ J2 _ ⟨_, hG2, so⟩ => ?_)
  have so' : ∀ q j, q ≠ 3 → q ≠ 23 → q ≠ 24 → ¬ (q = 0 ∧ j = 50) → J2 q j = J q j := fun q j a b c d => so.2.2.2.2 q j (by omega) (by omega) (by omega) (by omega)
  have X2 : HX 82 I2 J2 := hx_copy3 h h11 hA hc2 f2 so'
  have L2 : HL 82 1 I2 J2 := X2.1.2.2.2.1
  have j2 : ∀ j, J2 1 j = J 1 j := fun j => so' 1 j (by decide) (by decide) (by decide) (by omega)
  have i90 : I2 90 l = (c : Int) := ((hl_c L2 hl).1.trans (j2 _)).trans hcc
  have a1 : I2 89 (6 * (40 * l + p) + 1) = J 1 (141 + 6 * (40 * l + p)) := ((hl_r (l := l) (p := p) (f := 1) L2 hl (by rw [j2]; exact hp) (by decide)).trans (j2 _)).trans (congrArg (J 1) (by omega))
  have a2 : I2 89 (6 * (40 * l2 + p2) + 1) = J 1 (141 + 6 * (40 * l2 + p2)) := ((hl_r (l := l2) (p := p2) (f := 1) L2 hl2 (by rw [j2]; exact hp2) (by decide)).trans (j2 _)).trans (congrArg (J 1) (by omega))
  have ws2 : Wq (wr32 (I2 89 (6 * (40 * l + p) + 1) + I2 89 (6 * (40 * l2 + p2) + 1))) s := by
    show wr32 (I2 89 (6 * (40 * l + p) + 1) + I2 89 (6 * (40 * l2 + p2) + 1)) = s
    rw [a1, a2, hs1]
    exact wr32_i2 (by omega) (by omega)
  refine pq_bl (par_and (cv_join (fu := fu) (p := p) (c := c) (k2 := 40 * l2 + p2) (s := s) I2 hl hpc hc40 i90 (by omega) ws2) (par_sat (ok_L_join fu 88 ((40 * l + p : Nat) : Int) ((40 * l2 + p2 : Nat) : Int) I2 hfu hC2 (Or.inr (Or.inr rfl)) (by unfold inr; omega) (by unfold inr; omega) (by omega)))) (fun _ I5 _ ⟨hi, _, hC5, _⟩ => ?_)
  rw [ev_get0 fu (1 + 6) (40 * l2 + p2) I5 (by omega), zb_zr]
  have n1 : I5 (1 + 6 + 1) (6 * (40 * l2 + p2) + 0) = J (0 + 1) (140 + 6 * (40 * l2 + p2) + 0) := ((joc_o hi _ _ (by omega)).trans (f2 _ _ (by omega))).trans (hl_r (l := l2) (p := p2) (f := 0) hL hl2 hp2 (by decide))
  rw [n1]
  obtain ⟨N, hNe⟩ : ∃ N, N = J (0 + 1) (140 + 6 * (40 * l2 + p2) + 0) := ⟨_, rfl⟩
  rw [← hNe]
  have hN : inr N := by rw [hNe]; exact hg.1 _ _
  have hN2 : J 1 (140 + 6 * (40 * l2 + p2)) = N := hNe.symm
  have sr : inr s := by unfold inr; omega
  have w1 : Wq (wr32 (((140 + 6 * (40 * l2 + p2) : Nat) : Int) + 1)) (((140 + 6 * (40 * l2 + p2) + 1 : Nat) : Int)) := by show wr32 (((140 + 6 * (40 * l2 + p2) : Nat) : Int) + 1) = ((140 + 6 * (40 * l2 + p2) + 1 : Nat) : Int); rw [wr32_i2 (by omega) (by omega)]; omega
  have w2 : Wq (wr32 (((140 + 6 * (40 * l2 + p2) : Nat) : Int) + 2)) (((140 + 6 * (40 * l2 + p2) + 2 : Nat) : Int)) := by show wr32 (((140 + 6 * (40 * l2 + p2) : Nat) : Int) + 2) = ((140 + 6 * (40 * l2 + p2) + 2 : Nat) : Int); rw [wr32_i2 (by omega) (by omega)]; omega
  refine pq_ofr (fun x I9 e8 => ?_)
  rw [ev_cell fu l2 p2 J2 hl2 (by omega), zb_zr, w1.e, show ((140 + 6 * (40 * l2 + p2) + 1 : Nat) : Int).toNat = 140 + 6 * (40 * l2 + p2) + 1 from rfl]
  refine par_zg (fun _ => par_zwu ?_)
  have g3 : GX 0 (up J2 (0 + 1) (140 + 6 * (40 * l2 + p2) + 1) s) := GX_up1 hG2 sr (cw_sz (by omega))
  have e3 : ∀ q j, up J2 (0 + 1) (140 + 6 * (40 * l2 + p2) + 1) s q j = if q = 1 ∧ j = 140 + 6 * (40 * l2 + p2) + 1 then s else J2 q j := fun q j => rfl
  obtain ⟨J3, hJ3⟩ : ∃ J3, J3 = up J2 (0 + 1) (140 + 6 * (40 * l2 + p2) + 1) s := ⟨_, rfl⟩
  rw [← hJ3]
  rw [← hJ3] at g3 e3
  clear hJ3
  rw [ev_cell fu l2 p2 J3 hl2 (by omega), zb_zr, w2.e, show ((140 + 6 * (40 * l2 + p2) + 2 : Nat) : Int).toNat = 140 + 6 * (40 * l2 + p2) + 2 from rfl]
  refine par_zg (fun _ => par_zwu ?_)
  have g4 : GX 0 (up J3 (0 + 1) (140 + 6 * (40 * l2 + p2) + 2) s) := GX_up1 g3 sr (cw_grp (by omega))
  have e4 : ∀ q j, up J3 (0 + 1) (140 + 6 * (40 * l2 + p2) + 2) s q j = if q = 1 ∧ j = 140 + 6 * (40 * l2 + p2) + 2 then s else J3 q j := fun q j => rfl
  obtain ⟨J4, hJ4⟩ : ∃ J4, J4 = up J3 (0 + 1) (140 + 6 * (40 * l2 + p2) + 2) s := ⟨_, rfl⟩
  rw [← hJ4]
  rw [← hJ4] at g4 e4
  clear hJ4
  have f4 : ∀ q j, J4 q j = if q = 1 ∧ (j = 140 + 6 * (40 * l2 + p2) + 1 ∨ j = 140 + 6 * (40 * l2 + p2) + 2) then s else J2 q j := fun q j => by
    rw [e4]
    by_cases y : q = 1 ∧ j = 140 + 6 * (40 * l2 + p2) + 2
    · rw [if_pos y, if_pos (by omega)]
    · rw [if_neg y, e3]
      by_cases z : q = 1 ∧ j = 140 + 6 * (40 * l2 + p2) + 1
      · rw [if_pos z, if_pos (by omega)]
      · rw [if_neg z, if_neg (by omega)]
  clear e3 e4
  have c4 : J4 1 (130 + l) = (c : Int) := by rw [f4, if_neg (by omega), j2]; exact hcc
  have z4 : ∀ p' : Nat, p' < c → 1 ≤ J4 1 (141 + 6 * (40 * l + p')) ∧ J4 1 (141 + 6 * (40 * l + p')) ≤ 8 := fun p' hp' => (gx_facts g4).2.2.2.2.1 (40 * l + p') ⟨by omega, by rw [show (40 * l + p') % 40 = p' by omega, show (40 * l + p') / 40 = l by omega, c4]; omega⟩
  refine xv_j65 (fu := fu) (p := p) (J0 := J4) _ hl hc40 N c4 z4 (fun J5 g5 f5 => ?_) fu p J4 (Nat.le_refl _) hpc g4 (fun q j => by rw [if_neg (by omega)])
  have c5 : J5 (0 + 1) (130 + l) = (c : Int) := by
    show J5 1 (130 + l) = _
    rw [f5, if_neg (by omega)]; exact c4
  have w5 : Wq (wr32 ((c : Int) - 1)) ((c : Int) - 1) := wr32_i2 (by omega) (by omega)
  rw [w_130 l hl, show ((130 + l : Nat) : Int).toNat = 130 + l from rfl, c5, w5.e]
  refine par_zg (fun _ => par_zg (fun _ => par_zwu ?_))
  have g6 : GX 0 (up J5 (0 + 1) (130 + l) ((c : Int) - 1)) := GX_up1 g5 (by unfold inr; omega) (cw_130 ⟨by omega, by omega, by omega, by omega, Or.inl (by rw [c5]; omega)⟩)
  have e6 : ∀ q j, up J5 (0 + 1) (130 + l) ((c : Int) - 1) q j = if q = 1 ∧ j = 130 + l then (c : Int) - 1 else J5 q j := fun q j => rfl
  obtain ⟨J6, hJ6⟩ : ∃ J6, J6 = up J5 (0 + 1) (130 + l) ((c : Int) - 1) := ⟨_, rfl⟩
  rw [← hJ6]
  rw [← hJ6] at g6 e6
  clear hJ6
  have hj : JOI l p c (40 * l2 + p2) s J2 J6 := by
    intro q j
    rw [e6]
    by_cases x1 : q = 1 ∧ j = 130 + l
    · rw [if_pos x1, if_pos x1]
    · rw [if_neg x1, if_neg x1, f5]
      by_cases x2 : q = 1 ∧ 140 + 6 * (40 * l + p) ≤ j ∧ j < 140 + 6 * (40 * l + c - 1)
      · rw [if_pos x2, if_pos x2, f4]
        by_cases x3 : j + 6 = 140 + 6 * (40 * l2 + p2) + 1 ∨ j + 6 = 140 + 6 * (40 * l2 + p2) + 2
        · rw [if_pos x3, if_pos ⟨rfl, x3⟩]
        · rw [if_neg x3, if_neg (fun t => x3 t.2)]
      · rw [if_neg x2, if_neg x2, f4]
  have hcJ2 : J2 1 (130 + l) = (c : Int) := (j2 _).trans hcc
  have hU2 : NUQ J2 := nuq_mv (fun j _ _ => j2 j) hU
  have in2' : INL J2 (40 * l2 + p2) := (inl_mv (fun j _ _ => j2 j) _).mpr in2
  have c6 : J6 1 70 + 60 < 1900000000 := by rw [joi_o hj hl (by omega) hc40 1 70 (by omega), j2]; exact hc
  refine pq_tor (Q := fun x _ y _ => x = y) (x := x) (I := I9) ?_ e8
  refine pq_b (Q1 := fun x _ y _ => x = y) (till3 hfu hN ⟨hx_join X2 hl (by omega) hpc hc40 hcJ2 hi hj, g6, hC5⟩ (nuq_join hU2 hl hpc hc40 hcJ2 hj) (std_join hl hpc hc40 hcJ2 hj in2' hne ((j2 _).trans hN2)) c6) (fun x I' y J' _ _ e => pq_br (P := fun _ _ => True) (fun _ _ _ => trivial) (fun _ _ _ _ => pq_end e))
/-- one who can be joined, by the reference's memory -/
def PLk (J : IMem) (k : Nat) : Prop := J 1 (140 + 6 * k + 3) = 0 ∧ J 1 (140 + 6 * k + 2) = J 1 (140 + 6 * k + 1)
theorem ev_isPl {l p : Nat} (J : IMem) (hl : l < 6) (hp : (p : Int) < J 1 (130 + l)) (hc : 0 ≤ J 1 (130 + l) ∧ J 1 (130 + l) ≤ 40) : ∃ v, f_X_isPlain fu 0 (l : Int) (p : Int) J = zr v J ∧ ((v = 1 ∧ PLk J (40 * l + p)) ∨ (v = 0 ∧ ¬ PLk J (40 * l + p))) := by
  have p40 : p < 40 := by omega
  unfold f_X_isPlain
  rw [ev_isTh fu l p J hl hc, zb_zr, if_pos (show 0 ≤ (p : Int) ∧ (p : Int) < J 1 (130 + l) by omega), if_neg ne10, ev_of3 fu 0 l p J hl p40, zb_zr]
  by_cases q : J (0 + 1) (140 + 6 * (40 * l + p) + 3) = 0
  · rw [if_pos q, ev_of2 fu 0 l p J hl p40, zb_zr, ev_of1 fu 0 l p J hl p40, zb_zr]
    by_cases q2 : J (0 + 1) (140 + 6 * (40 * l + p) + 2) = J (0 + 1) (140 + 6 * (40 * l + p) + 1)
    · rw [if_pos q2]
      exact ⟨1, rfl, Or.inl ⟨rfl, q, q2⟩⟩
    · rw [if_neg q2]
      exact ⟨0, rfl, Or.inr ⟨rfl, fun z => q2 z.2⟩⟩
  · rw [if_neg q]
    exact ⟨0, rfl, Or.inr ⟨rfl, fun z => q z.1⟩⟩
theorem ev_isPl0 (a b : Int) (J : IMem) (hc : ∀ l, l < 6 → 0 ≤ J 1 (130 + l) ∧ J 1 (130 + l) ≤ 40) (h : ¬ ∃ l p : Nat, l < 6 ∧ a = (l : Int) ∧ b = (p : Int) ∧ (p : Int) < J 1 (130 + l)) : f_X_isPlain fu 0 a b J = zr 0 J := by
  unfold f_X_isPlain
  by_cases h1 : 0 ≤ a ∧ a < 6
  · obtain ⟨l, rfl⟩ : ∃ l : Nat, a = (l : Int) := ⟨a.toNat, by omega⟩
    have hl : l < 6 := by omega
    rw [ev_isTh fu l b J hl (hc l hl), zb_zr, if_neg (show ¬ (0 ≤ b ∧ b < J 1 (130 + l)) from fun z => h ⟨l, b.toNat, hl, rfl, by omega, by omega⟩), if_pos eq00]
  · rw [ev_isTh0 fu a b J h1, zb_zr, if_pos eq00]
theorem ev_cplain {k : Nat} {l p : Nat} (hL : HL 1 1 I J) (hl : l < 6) (hp : (p : Int) < J 1 (130 + l)) (hk : k = 40 * l + p) (h40 : p < 40) : ∃ v, f_L_isPlainAndTrue fu (0 + 7) (k : Int) I = zr v I ∧ ((v = 1 ∧ PLk J k) ∨ (v = 0 ∧ ¬ PLk J k)) := by
  subst hk
  unfold f_L_isPlainAndTrue
  have r : ∀ f, f < 6 → I (0 + 7 + 1) (6 * (40 * l + p) + f) = J 1 (140 + 6 * (40 * l + p) + f) := fun f hf => hl_r (l := l) (p := p) (f := f) hL hl hp hf
  rw [ev_get3 fu (0 + 7) (40 * l + p) I (by omega), zb_zr, r 3 (by decide)]
  by_cases q : J 1 (140 + 6 * (40 * l + p) + 3) = 0
  · rw [if_pos q, ev_get2 fu (0 + 7) (40 * l + p) I (by omega), zb_zr, ev_get1 fu (0 + 7) (40 * l + p) I (by omega), zb_zr, r 2 (by decide), r 1 (by decide)]
    by_cases q2 : J 1 (140 + 6 * (40 * l + p) + 2) = J 1 (140 + 6 * (40 * l + p) + 1)
    · rw [if_pos q2]
      exact ⟨1, rfl, Or.inl ⟨rfl, q, q2⟩⟩
    · rw [if_neg q2]
      exact ⟨0, rfl, Or.inr ⟨rfl, fun z => q2 z.2⟩⟩
  · rw [if_neg q]
    exact ⟨0, rfl, Or.inr ⟨rfl, fun z => q z.1⟩⟩
def xTG (fu : Nat) (a1 a2 a3 a4 a5 : Int) (I8 : IMem) : Res :=
            zb (f_X_of fu 0 a1 a2 1 I8) fun y9 I10 =>
            zb (f_X_of fu 0 a3 a4 1 I10) fun y12 I13 =>
            if 8 < wr32 (y9 + y12) then (
              zr ((-2)) I13)
            else (
              zb (f_X_isIn fu a5 0 1 I13) fun y15 I16 =>
              if y15 = 0 then (
                zr ((-2)) I16)
              else (
                zb (f_X_joined fu 0 a1 a2 a3 a4 I16) fun y18 I19 =>
                if a5 = 0 then (
                  zr y18 I19)
                else (
                  zb (f_X_till fu 0 a1 a2 I19) fun y21 I22 =>
                  zb (f_X_till fu 0 a3 a4 I22) fun y24 I25 =>
                  if y18 = (-1) then (
                    zr 0 I25)
                  else (
                    if y21 = (-1) then (
                      zr 0 I25)
                    else (
                      if y24 = (-1) then (
                        zr 0 I25)
                      else (
                        if y24 < y21 then (
                          if y21 < y18 then (
                            zr 0 I25)
                          else (
                            zr 1 I25))
                        else (
                          if y24 < y18 then (
                            zr 0 I25)
                          else (
                            zr 1 I25))))))))
theorem tog_eq (fu : Nat) (a1 a2 a3 a4 a5 : Int) (J : IMem) : f_X_together fu 0 a1 a2 a3 a4 a5 J = zb (f_X_isPlain fu 0 a1 a2 J) fun y1 I2 => if y1 = 0 then (zr ((-2)) I2) else (zb (f_X_isPlain fu 0 a3 a4 I2) fun y4 I5 => if y4 = 0 then (zr ((-2)) I5) else (if a1 = a3 then (if a2 = a4 then (zr ((-2)) I5) else (xTG fu a1 a2 a3 a4 a5 I5)) else (xTG fu a1 a2 a3 a4 a5 I5))) := rfl
/-- two that can be joined -/
def OKJ (J : IMem) (l p l2 p2 : Nat) (w : Int) : Prop := PLk J (40 * l + p) ∧ PLk J (40 * l2 + p2) ∧ 40 * l2 + p2 ≠ 40 * l + p ∧ J 1 (141 + 6 * (40 * l + p)) + J 1 (141 + 6 * (40 * l2 + p2)) ≤ 8 ∧ 0 ≤ w ∧ w ≤ 1
theorem sz_sum {l p l2 p2 : Nat} (hg : GX 0 J) (hl : l < 6) (hp : (p : Int) < J 1 (130 + l)) (p40 : p < 40) (hl2 : l2 < 6) (hp2 : (p2 : Int) < J 1 (130 + l2)) (p240 : p2 < 40) : Wq (wr32 (J (0 + 1) (140 + 6 * (40 * l + p) + 1) + J (0 + 1) (140 + 6 * (40 * l2 + p2) + 1))) (J 1 (141 + 6 * (40 * l + p)) + J 1 (141 + 6 * (40 * l2 + p2))) := by
  have gz := (gx_facts hg).2.2.2.2.1
  have z1 := gz (40 * l + p) ⟨by omega, by rw [show (40 * l + p) % 40 = p by omega, show (40 * l + p) / 40 = l by omega]; exact hp⟩
  have z2 := gz (40 * l2 + p2) ⟨by omega, by rw [show (40 * l2 + p2) % 40 = p2 by omega, show (40 * l2 + p2) / 40 = l2 by omega]; exact hp2⟩
  show wr32 (J 1 (140 + 6 * (40 * l + p) + 1) + J 1 (140 + 6 * (40 * l2 + p2) + 1)) = _
  rw [show 140 + 6 * (40 * l + p) + 1 = 141 + 6 * (40 * l + p) by omega, show 140 + 6 * (40 * l2 + p2) + 1 = 141 + 6 * (40 * l2 + p2) by omega]
  exact wr32_i2 (by omega) (by omega)
theorem xt_no {l p l2 p2 : Nat} {w : Int} (hg : GX 0 J) (hc : ∀ l, l < 6 → 0 ≤ J 1 (130 + l) ∧ J 1 (130 + l) ≤ 40) (hl : l < 6) (hp : (p : Int) < J 1 (130 + l)) (hl2 : l2 < 6) (hp2 : (p2 : Int) < J 1 (130 + l2)) (h : ¬ OKJ J l p l2 p2 w) : par (f_X_together fu 0 (l : Int) (p : Int) (l2 : Int) (p2 : Int) w J) (fun y _ => y = -2) := by
  have b1 := hc l hl
  have b2 := hc l2 hl2
  have p40 : p < 40 := by omega
  have p240 : p2 < 40 := by omega
  rw [tog_eq]
  obtain ⟨v1, e1, h1⟩ := ev_isPl (fu := fu) J hl hp b1
  obtain ⟨v2, e2, h2⟩ := ev_isPl (fu := fu) J hl2 hp2 b2
  rw [e1, zb_zr]
  refine par_ite (fun _ => par_zr rfl) (fun q1 => ?_)
  rw [e2, zb_zr]
  refine par_ite (fun _ => par_zr rfl) (fun q2 => ?_)
  have k1 : PLk J (40 * l + p) := by
    rcases h1 with ⟨_, z⟩ | ⟨z, _⟩
    · exact z
    · exact absurd z q1
  have k2 : PLk J (40 * l2 + p2) := by
    rcases h2 with ⟨_, z⟩ | ⟨z, _⟩
    · exact z
    · exact absurd z q2
  have core : 40 * l2 + p2 ≠ 40 * l + p → par (xTG fu (l : Int) (p : Int) (l2 : Int) (p2 : Int) w J) (fun y _ => y = -2) := by
    intro hne
    unfold xTG
    rw [ev_of1 fu 0 l p J hl p40, zb_zr, ev_of1 fu 0 l2 p2 J hl2 p240, zb_zr, (sz_sum hg hl hp p40 hl2 hp2 p240).e]
    refine par_ite (fun _ => par_zr rfl) (fun q3 => ?_)
    rw [ev_isIn, zb_zr]
    by_cases q4 : 0 ≤ w ∧ w ≤ 1
    · exact absurd ⟨k1, k2, hne, by omega, q4.1, q4.2⟩ h
    · rw [if_neg q4, if_pos eq00]
      exact par_zr rfl
  refine par_ite (fun x => par_ite (fun _ => par_zr rfl) (fun y => core (by omega))) (fun x => core (by omega))
theorem xt_no0 {a b a2 b2 w : Int} (hc : ∀ l, l < 6 → 0 ≤ J 1 (130 + l) ∧ J 1 (130 + l) ≤ 40) (h : (¬ ∃ l p : Nat, l < 6 ∧ a = (l : Int) ∧ b = (p : Int) ∧ (p : Int) < J 1 (130 + l)) ∨ (¬ ∃ l p : Nat, l < 6 ∧ a2 = (l : Int) ∧ b2 = (p : Int) ∧ (p : Int) < J 1 (130 + l))) : par (f_X_together fu 0 a b a2 b2 w J) (fun y _ => y = -2) := by
  rw [tog_eq]
  rcases h with h | h
  · rw [ev_isPl0 a b J hc h, zb_zr, if_pos eq00]
    exact par_zr rfl
  · by_cases h1 : ∃ l p : Nat, l < 6 ∧ a = (l : Int) ∧ b = (p : Int) ∧ (p : Int) < J 1 (130 + l)
    · obtain ⟨l, p, hl, rfl, rfl, hp⟩ := h1
      obtain ⟨v1, e1, _⟩ := ev_isPl (fu := fu) J hl hp (hc l hl)
      rw [e1, zb_zr]
      refine par_ite (fun _ => par_zr rfl) (fun _ => ?_)
      rw [ev_isPl0 a2 b2 J hc h, zb_zr, if_pos eq00]
      exact par_zr rfl
    · rw [ev_isPl0 a b J hc h1, zb_zr, if_pos eq00]
      exact par_zr rfl
/-- the class's together -/
def cTG (fu : Nat) (x7 x8 a5 : Int) (I10 : IMem) : Res :=
              zb (f_M_tillJoined fu (0 + 81) (0 + 1) x7 x8 I10) fun y12 I13 =>
              if a5 = 0 then (
                zr y12 I13)
              else (
                zb (f_M_tillSits fu (0 + 81) (0 + 1) x7 I13) fun y15 I16 =>
                zb (f_M_tillSits fu (0 + 81) (0 + 1) x8 I16) fun y18 I19 =>
                if y12 = (-1) then (
                  zr 0 I19)
                else (
                  if y15 = (-1) then (
                    zr 0 I19)
                  else (
                    if y18 = (-1) then (
                      zr 0 I19)
                    else (
                      zb (f_JM_max fu y15 y18 I19) fun y21 I22 =>
                      if y21 < y12 then (
                        zr 0 I22)
                      else (
                        zr 1 I22)))))
theorem ctog_eq (fu : Nat) (a1 a2 a3 a4 a5 : Int) (I : IMem) : f_S_together fu 0 a1 a2 a3 a4 a5 I = if a5 < 0 then (zr ((-2)) I) else (if 1 < a5 then (zr ((-2)) I) else (zb (f_L_has fu (0 + 7) a1 a2 I) fun y1 I2 => if y1 = 0 then (zr ((-2)) I2) else (zb (f_L_has fu (0 + 7) a3 a4 I2) fun y4 I5 => if y4 = 0 then (zr ((-2)) I5) else (zb (f_L_canJoin fu (0 + 7) (wr32 ((wr32 (a1 * 40)) + a2)) (wr32 ((wr32 (a3 * 40)) + a4)) I5) fun y9 I10 => if y9 = 0 then (zr ((-2)) I10) else cTG fu (wr32 ((wr32 (a1 * 40)) + a2)) (wr32 ((wr32 (a3 * 40)) + a4)) a5 I10)))) := rfl
/-- the class's hill after a thought, the reference's place after one -/
theorem tog_mid (h : HR 1 1 I J) (h11 : I 1 11 = J 0 22) (hA : HA 82 I) {I' J' : IMem} (fi : ∀ q, (q < 82 ∨ q = 96) → I' q = I q) (fj : ∀ j, j < 6190 → J' 1 j = J 1 j) (f22 : J' 0 22 = J 0 22) : HR 1 1 I' J' ∧ I' 1 11 = J' 0 22 ∧ HA 82 I' := ⟨hr_mv h (fun d j q => congrFun (fi _ (by unfold CH at q; omega)) j) fj, by rw [fi 1 (by decide), f22]; exact h11, by rw [HA, fi (82 + 14) (by decide)]; exact hA⟩
end
/-! together: the answer -/
section
variable {fu : Nat} {I J : IMem}
theorem ev_has1 {l p : Nat} (hL : HL 1 1 I J) (hl : l < 6) (hp : (p : Int) < J 1 (130 + l)) : f_L_has fu (0 + 7) (l : Int) (p : Int) I = zr 1 I := by
  have c1 : I (0 + 7 + 2) l = J 1 (130 + l) := (hl_c hL hl).1
  rw [ev_has fu (0 + 7) l (p : Int) I hl, c1, if_pos (show 0 ≤ (p : Int) ∧ (p : Int) < J 1 (130 + l) by omega)]
theorem ev_hasN {a b : Int} (hL : HL 1 1 I J) (h : ¬ ∃ l p : Nat, l < 6 ∧ a = (l : Int) ∧ b = (p : Int) ∧ (p : Int) < J 1 (130 + l)) : f_L_has fu (0 + 7) a b I = zr 0 I := by
  by_cases h1 : 0 ≤ a ∧ a < 6
  · obtain ⟨l, rfl⟩ : ∃ l : Nat, a = (l : Int) := ⟨a.toNat, by omega⟩
    have hl : l < 6 := by omega
    have c1 : I (0 + 7 + 2) l = J 1 (130 + l) := (hl_c hL hl).1
    rw [ev_has fu (0 + 7) l b I hl, c1, if_neg (show ¬ (0 ≤ b ∧ b < J 1 (130 + l)) from fun z => h ⟨l, b.toNat, hl, rfl, by omega, by omega⟩)]
  · exact ev_has0 fu (0 + 7) a b I h1
theorem ev_canJoin {l p l2 p2 : Nat} (hL : HL 1 1 I J) (hg : GX 0 J) (hl : l < 6) (hp : (p : Int) < J 1 (130 + l)) (p40 : p < 40) (hl2 : l2 < 6) (hp2 : (p2 : Int) < J 1 (130 + l2)) (p240 : p2 < 40) : ∃ v, f_L_canJoin fu (0 + 7) ((40 * l + p : Nat) : Int) ((40 * l2 + p2 : Nat) : Int) I = zr v I ∧ ((v = 1 ∧ (PLk J (40 * l + p) ∧ PLk J (40 * l2 + p2) ∧ 40 * l2 + p2 ≠ 40 * l + p ∧ J 1 (141 + 6 * (40 * l + p)) + J 1 (141 + 6 * (40 * l2 + p2)) ≤ 8)) ∨ (v = 0 ∧ ¬ (PLk J (40 * l + p) ∧ PLk J (40 * l2 + p2) ∧ 40 * l2 + p2 ≠ 40 * l + p ∧ J 1 (141 + 6 * (40 * l + p)) + J 1 (141 + 6 * (40 * l2 + p2)) ≤ 8))) := by
  unfold f_L_canJoin
  by_cases y : 40 * l2 + p2 = 40 * l + p
  · rw [if_pos (show ((40 * l + p : Nat) : Int) = ((40 * l2 + p2 : Nat) : Int) by omega)]
    exact ⟨0, rfl, Or.inr ⟨rfl, fun z => z.2.2.1 y⟩⟩
  · rw [if_neg (show ¬ ((40 * l + p : Nat) : Int) = ((40 * l2 + p2 : Nat) : Int) by omega)]
    obtain ⟨v1, e1, h1⟩ := ev_cplain (fu := fu) (k := 40 * l + p) hL hl hp rfl p40
    obtain ⟨v2, e2, h2⟩ := ev_cplain (fu := fu) (k := 40 * l2 + p2) hL hl2 hp2 rfl p240
    rw [e1, zb_zr]
    rcases h1 with ⟨q1, k1⟩ | ⟨q1, k1⟩
    · rw [if_neg (show ¬ v1 = 0 by omega), e2, zb_zr]
      rcases h2 with ⟨q2, k2⟩ | ⟨q2, k2⟩
      · have a1 : I (0 + 7 + 1) (6 * (40 * l + p) + 1) = J (0 + 1) (140 + 6 * (40 * l + p) + 1) := hl_r (l := l) (p := p) (f := 1) hL hl hp (by decide)
        have a2 : I (0 + 7 + 1) (6 * (40 * l2 + p2) + 1) = J (0 + 1) (140 + 6 * (40 * l2 + p2) + 1) := hl_r (l := l2) (p := p2) (f := 1) hL hl2 hp2 (by decide)
        rw [if_neg (show ¬ v2 = 0 by omega), ev_get1 fu (0 + 7) (40 * l + p) I (by omega), zb_zr, ev_get1 fu (0 + 7) (40 * l2 + p2) I (by omega), zb_zr, a1, a2, (sz_sum hg hl hp p40 hl2 hp2 p240).e]
        by_cases q : 8 < J 1 (141 + 6 * (40 * l + p)) + J 1 (141 + 6 * (40 * l2 + p2))
        · rw [if_pos q]
          exact ⟨0, rfl, Or.inr ⟨rfl, fun z => by have := z.2.2.2; omega⟩⟩
        · rw [if_neg q]
          exact ⟨1, rfl, Or.inl ⟨rfl, k1, k2, y, by omega⟩⟩
      · rw [if_pos q2]
        exact ⟨0, rfl, Or.inr ⟨rfl, fun z => k2 z.2.1⟩⟩
    · rw [if_pos q1]
      exact ⟨0, rfl, Or.inr ⟨rfl, fun z => k1 z.1⟩⟩
theorem tog_yes {l p l2 p2 : Nat} {w : Int} (hfu : 5000000000 < fu) (h : HR 1 1 I J) (h11 : I 1 11 = J 0 22) (hA : HA 82 I) (hg : GX 0 J) (hC : GC I) (hU : NUQ J) (hc : J 1 70 + 60 < 1900000000) (hl : l < 6) (hp : (p : Int) < J 1 (130 + l)) (p40 : p < 40) (hl2 : l2 < 6) (hp2 : (p2 : Int) < J 1 (130 + l2)) (p240 : p2 < 40) (hk : OKJ J l p l2 p2 w) : pq (cTG fu ((40 * l + p : Nat) : Int) ((40 * l2 + p2 : Nat) : Int) w I) (xTG fu (l : Int) (p : Int) (l2 : Int) (p2 : Int) w J) (fun x _ y _ => x = y) := by
  obtain ⟨_, _, hne, hs, hw0, hw1⟩ := hk
  have t1 : (130 + (l : Int)).toNat = 130 + l := by omega
  have t2 : (130 + (l2 : Int)).toNat = 130 + l2 := by omega
  have t3 : (140 + 6 * (40 * (l : Int) + (p : Int)) + 1).toNat = 141 + 6 * (40 * l + p) := by omega
  have t4 : (140 + 6 * (40 * (l2 : Int) + (p2 : Int)) + 1).toNat = 141 + 6 * (40 * l2 + p2) := by omega
  unfold cTG xTG
  rw [ev_of1 fu 0 l p J hl p40, zb_zr, ev_of1 fu 0 l2 p2 J hl2 p240, zb_zr, (sz_sum hg hl hp p40 hl2 hp2 p240).e, if_neg (show ¬ 8 < J 1 (141 + 6 * (40 * l + p)) + J 1 (141 + 6 * (40 * l2 + p2)) by omega), ev_isIn, zb_zr, if_pos (show 0 ≤ w ∧ w ≤ 1 from ⟨hw0, hw1⟩), if_neg ne10]
  refine pq_b (joined2 hfu h h11 hA hg hC hU hc hl hp hl2 hp2 hne hs) (fun x I1 y J1 e1 e2 g => ?_)
  obtain ⟨_, hC1, _⟩ := par_sat (ok_M_tillJoined fu (0 + 81) (0 + 1) ((40 * l + p : Nat) : Int) ((40 * l2 + p2 : Nat) : Int) I hfu hC (by omega) (by omega) (by unfold inr; omega) (by unfold inr; omega) (by omega)) x I1 e1
  obtain ⟨_, hg1, sa1⟩ := par_sat (ok_X_joined fu 0 (l : Int) (p : Int) (l2 : Int) (p2 : Int) J hfu hg (by unfold inr; omega) (by unfold inr; omega) (by unfold inr; omega) (by unfold inr; omega) ⟨by omega, by omega, by omega, by omega, by rw [t1]; exact hp, by omega, by omega, by omega, by omega, by rw [t2]; exact hp2⟩ (by rw [t3, t4]; exact hs) (by show J 1 70 < 1900000000; omega)) y J1 e2
  have k1 : ∀ j, j < 6190 → J1 1 j = J 1 j := sa1.1
  have f1 : J1 0 22 = J 0 22 := fc_X_joined (fun q j => ¬ (q = 0 ∧ j = 22)) fu 0 (l : Int) (p : Int) (l2 : Int) (p2 : Int) J (fun _ => by omega) (fun _ => by omega) (fun _ => by omega) (fun _ => by omega) (fun _ => by omega) (fun _ => by omega) (fun _ => by omega) (fun _ => by omega) (fun _ => by omega) (fun _ => by omega) (fun _ => by omega) (fun _ => by omega) (by omega) (by omega) (by omega) (by omega) (by omega) (by omega) (by omega) (by omega) (by omega) (by omega) (by omega) (by omega) (by omega) (by omega) (by omega) (by omega) (by omega) (by omega) e2 0 22 (by omega)
  have m1 := tog_mid h h11 hA (I' := I1) (J' := J1) (fun q hq => fr_M_tillJoined (fun q => 82 ≤ q ∧ q ≠ 96) fu (0 + 81) (0 + 1) ((40 * l + p : Nat) : Int) ((40 * l2 + p2 : Nat) : Int) I (fun q a b => by omega) (by omega) (by omega) (by omega) (by omega) (by omega) (by omega) (by omega) (by omega) (by omega) (by omega) (by omega) (by omega) (by omega) (by omega) (by omega) (by omega) (by omega) (by omega) (by omega) e1 q (by omega)) k1 f1
  rw [g]
  refine pq_ii Iff.rfl (fun _ _ => pq_end rfl) (fun _ _ => ?_)
  have c1 : J1 1 70 + 60 < 1900000000 := by rw [k1 70 (by decide)]; exact hc
  refine pq_b (till2 hfu m1.1 m1.2.1 m1.2.2 hg1 hC1 (nuq_mv (fun j _ b => k1 j (by omega)) hU) c1 hl (by rw [k1 _ (by omega)]; exact hp)) (fun x2 I2 y2 J2 e3 e4 g2 => ?_)
  obtain ⟨_, hC2, _⟩ := par_sat (ok_M_tillSits fu (0 + 81) (0 + 1) ((40 * l + p : Nat) : Int) I1 hfu hC1 (by omega) (by omega) (by unfold inr; omega)) x2 I2 e3
  obtain ⟨_, hg2, sa2⟩ := par_sat (ok_X_till fu 0 (l : Int) (p : Int) J1 hfu hg1 (by unfold inr; omega) (by unfold inr; omega) (by show J1 1 70 < 1900000000; omega)) y2 J2 e4
  have k2 : ∀ j, j < 6190 → J2 1 j = J1 1 j := sa2.1
  have f2 : J2 0 22 = J1 0 22 := fc_X_till (fun q j => ¬ (q = 0 ∧ j = 22)) fu 0 (l : Int) (p : Int) J1 (fun _ => by omega) (fun _ => by omega) (fun _ => by omega) (fun _ => by omega) (fun _ => by omega) (fun _ => by omega) (fun _ => by omega) (fun _ => by omega) (fun _ => by omega) (fun _ => by omega) (fun _ => by omega) (fun _ => by omega) (by omega) (by omega) (by omega) (by omega) (by omega) (by omega) (by omega) (by omega) (by omega) (by omega) (by omega) (by omega) (by omega) (by omega) (by omega) (by omega) (by omega) (by omega) e4 0 22 (by omega)
  have m2 := tog_mid m1.1 m1.2.1 m1.2.2 (I' := I2) (J' := J2) (fun q hq => fr_M_tillSits (fun q => 82 ≤ q ∧ q ≠ 96) fu (0 + 81) (0 + 1) ((40 * l + p : Nat) : Int) I1 (fun q a b => by omega) (by omega) (by omega) (by omega) (by omega) (by omega) (by omega) (by omega) (by omega) (by omega) (by omega) (by omega) (by omega) (by omega) (by omega) (by omega) (by omega) (by omega) (by omega) (by omega) e3 q (by omega)) k2 f2
  rw [g2]
  refine pq_b (till2 hfu m2.1 m2.2.1 m2.2.2 hg2 hC2 (nuq_mv (fun j _ b => (k2 j (by omega)).trans (k1 j (by omega))) hU) (by rw [k2 70 (by decide)]; exact c1) hl2 (by rw [k2 _ (by omega), k1 _ (by omega)]; exact hp2)) (fun x3 I3 y3 J3 _ _ g3 => ?_)
  rw [g3]
  refine pq_ii Iff.rfl (fun _ _ => pq_end rfl) (fun _ _ => pq_ii Iff.rfl (fun _ _ => pq_end rfl) (fun _ _ => pq_ii Iff.rfl (fun _ _ => pq_end rfl) (fun _ _ => ?_)))
  rw [ev_max, zb_zr]
  refine pq_ir (fun q => ?_) (fun q => ?_)
  · rw [if_neg (show ¬ y2 < y3 by omega)]
    exact pq_ii Iff.rfl (fun _ _ => pq_end rfl) (fun _ _ => pq_end rfl)
  · have e : (if y2 < y3 then y3 else y2) = y3 := by
      by_cases z : y2 < y3
      · rw [if_pos z]
      · rw [if_neg z]; omega
    rw [e]
    exact pq_ii Iff.rfl (fun _ _ => pq_end rfl) (fun _ _ => pq_end rfl)
theorem pj_together (a b a2 b2 w : Int) (hfu : 5000000000 < fu) (h : RJ I J) (hg : GX 0 J) (hC : GC I) (hU : NUQ J) (hc : J 1 70 + 60 < 1900000000) : pq (f_S_together fu 0 a b a2 b2 w I) (f_X_together fu 0 a b a2 b2 w J) (fun x _ y _ => x = y) := by
  have hL : HL 1 1 I J := h.1.1.2.2.2.1
  have hcs : ∀ l, l < 6 → 0 ≤ J 1 (130 + l) ∧ J 1 (130 + l) ≤ 40 := fun l hl => (hl_c hL hl).2
  have fin : ∀ {m1 m2 : Res}, par m1 (fun x _ => x = -2) → par m2 (fun y _ => y = -2) → pq m1 m2 (fun x _ y _ => x = y) := fun p1 p2 => pq_of p1 p2 (fun _ _ _ _ e1 e2 => e1.trans e2.symm)
  rw [ctog_eq]
  by_cases h1 : ∃ l p : Nat, l < 6 ∧ a = (l : Int) ∧ b = (p : Int) ∧ (p : Int) < J 1 (130 + l)
  · by_cases h2 : ∃ l p : Nat, l < 6 ∧ a2 = (l : Int) ∧ b2 = (p : Int) ∧ (p : Int) < J 1 (130 + l)
    · obtain ⟨l, p, hl, rfl, rfl, hp⟩ := h1
      obtain ⟨l2, p2, hl2, rfl, rfl, hp2⟩ := h2
      have p40 : p < 40 := by have := hcs l hl; omega
      have p240 : p2 < 40 := by have := hcs l2 hl2; omega
      obtain ⟨v, ev, hv⟩ := ev_canJoin (fu := fu) hL hg hl hp p40 hl2 hp2 p240
      rw [ev_has1 hL hl hp, zb_zr, if_neg ne10, ev_has1 hL hl2 hp2, zb_zr, if_neg ne10, w_row l p hl (by omega), w_row l2 p2 hl2 (by omega), ev, zb_zr]
      by_cases hk : OKJ J l p l2 p2 w
      · have hk' := hk
        obtain ⟨k1, k2, k3, k4, k5, k6⟩ := hk'
        have v1 : v = 1 := by
          rcases hv with ⟨z, _⟩ | ⟨_, z⟩
          · exact z
          · exact absurd ⟨k1, k2, k3, k4⟩ z
        obtain ⟨u1, e1, g1⟩ := ev_isPl (fu := fu) J hl hp (hcs l hl)
        obtain ⟨u2, e2, g2⟩ := ev_isPl (fu := fu) J hl2 hp2 (hcs l2 hl2)
        have n1 : u1 = 1 := by
          rcases g1 with ⟨z, _⟩ | ⟨_, z⟩
          · exact z
          · exact absurd k1 z
        have n2 : u2 = 1 := by
          rcases g2 with ⟨z, _⟩ | ⟨_, z⟩
          · exact z
          · exact absurd k2 z
        rw [if_neg (show ¬ w < 0 by omega), if_neg (show ¬ 1 < w by omega), if_neg (show ¬ v = 0 by omega), tog_eq, e1, zb_zr, if_neg (show ¬ u1 = 0 by omega), e2, zb_zr, if_neg (show ¬ u2 = 0 by omega)]
        have g := tog_yes hfu h.1.1 h.1.2.1 (rj_ha h) hg hC hU hc hl hp p40 hl2 hp2 p240 hk
        exact pq_ir (fun x => pq_ir (fun y => absurd (show 40 * l2 + p2 = 40 * l + p by omega) k3) (fun _ => g)) (fun _ => g)
      · refine fin ?_ (xt_no hg hcs hl hp hl2 hp2 hk)
        refine par_ite (fun _ => par_zr rfl) (fun q1 => par_ite (fun _ => par_zr rfl) (fun q2 => ?_))
        rcases hv with ⟨_, z1, z2, z3, z4⟩ | ⟨z, _⟩
        · exact absurd ⟨z1, z2, z3, z4, by omega, by omega⟩ hk
        · rw [if_pos z]
          exact par_zr rfl
    · refine fin ?_ (xt_no0 hcs (Or.inr h2))
      obtain ⟨l, p, hl, rfl, rfl, hp⟩ := h1
      refine par_ite (fun _ => par_zr rfl) (fun _ => par_ite (fun _ => par_zr rfl) (fun _ => ?_))
      rw [ev_has1 hL hl hp, zb_zr, if_neg ne10, ev_hasN hL h2, zb_zr, if_pos eq00]
      exact par_zr rfl
  · refine fin ?_ (xt_no0 hcs (Or.inl h1))
    refine par_ite (fun _ => par_zr rfl) (fun _ => par_ite (fun _ => par_zr rfl) (fun _ => ?_))
    rw [ev_hasN hL h1, zb_zr, if_pos eq00]
    exact par_zr rfl
end
/-! NUMBERS from call to call: the reference -/
def INw (w : Nat → Int) (k : Nat) : Prop := k < 240 ∧ ((k % 40 : Nat) : Int) < w (130 + k / 40)
/-- each NUMBER stands once, none that is still to come, and not many have come -/
def NWw (w : Nat → Int) (b : Int) : Prop := (∀ k k', INw w k → INw w k' → w (140 + 6 * k) = w (140 + 6 * k') → k = k') ∧ (∀ k, INw w k → w (140 + 6 * k) < w 7) ∧ 0 ≤ w 7 ∧ w 7 ≤ b
theorem inw_to {w w' : Nat → Int} (h : ∀ l, l < 6 → w' (130 + l) = w (130 + l)) {k : Nat} (hk : INw w k) : INw w' k := ⟨hk.1, by rw [h _ (by have := hk.1; omega)]; exact hk.2⟩
theorem nww_mv {w w' : Nat → Int} {b b' : Int} (h : NWw w b) (g7 : w' 7 = w 7) (gc : ∀ l, l < 6 → w' (130 + l) = w (130 + l)) (gn : ∀ k, INw w k → w' (140 + 6 * k) = w (140 + 6 * k)) (hb : b ≤ b') : NWw w' b' := by
  obtain ⟨h1, h2, h3, h4⟩ := h
  have dn : ∀ {k}, INw w' k → INw w k := fun a => inw_to (fun l hl => (gc l hl).symm) a
  refine ⟨fun k k' a c e => h1 k k' (dn a) (dn c) ?_, fun k a => ?_, by rw [g7]; exact h3, by rw [g7]; omega⟩
  · rw [← gn k (dn a), ← gn k' (dn c)]; exact e
  · rw [gn k (dn a), g7]; exact h2 k (dn a)
/-- one came, and found no room -/
theorem nww_keep {w w' : Nat → Int} {b : Int} (h : NWw w b) (g7 : w' 7 = w 7 + 1) (gc : ∀ l, l < 6 → w' (130 + l) = w (130 + l)) (gn : ∀ k, INw w k → w' (140 + 6 * k) = w (140 + 6 * k)) : NWw w' (b + 1) := by
  obtain ⟨h1, h2, h3, h4⟩ := h
  have dn : ∀ {k}, INw w' k → INw w k := fun a => inw_to (fun l hl => (gc l hl).symm) a
  refine ⟨fun k k' a c e => h1 k k' (dn a) (dn c) ?_, fun k a => ?_, by omega, by omega⟩
  · rw [← gn k (dn a), ← gn k' (dn c)]; exact e
  · have := h2 k (dn a)
    rw [gn k (dn a), g7]; omega
/-- one came, and stands behind line l -/
theorem nww_one {w w' : Nat → Int} {b : Int} {l c : Nat} (h : NWw w b) (hl : l < 6) (hc : c < 40) (hcw : w (130 + l) = (c : Int)) (g7 : w' 7 = w 7 + 1) (gl : w' (130 + l) = (c : Int) + 1) (gc : ∀ l', l' ≠ l → l' < 6 → w' (130 + l') = w (130 + l')) (gr : w' (140 + 6 * (40 * l + c)) = w 7) (gn : ∀ k, k ≠ 40 * l + c → k < 240 → w' (140 + 6 * k) = w (140 + 6 * k)) : NWw w' (b + 1) := by
  obtain ⟨h1, h2, h3, h4⟩ := h
  have dn : ∀ k, INw w' k → k = 40 * l + c ∨ (k ≠ 40 * l + c ∧ INw w k) := fun k a => by
    obtain ⟨a1, a2⟩ := a
    by_cases e : k = 40 * l + c
    · exact Or.inl e
    · refine Or.inr ⟨e, a1, ?_⟩
      by_cases y : k / 40 = l
      · rw [y, gl] at a2
        rw [y, hcw]; omega
      · rw [gc _ y (by omega)] at a2; exact a2
  refine ⟨fun k k' a d e => ?_, fun k a => ?_, by omega, by omega⟩
  · rcases dn k a with y | ⟨y, z⟩
    · rcases dn k' d with y2 | ⟨y2, z2⟩
      · rw [y, y2]
      · rw [y, gr, gn k' y2 d.1] at e
        have := h2 k' z2
        omega
    · rcases dn k' d with y2 | ⟨y2, z2⟩
      · rw [y2, gr, gn k y a.1] at e
        have := h2 k z
        omega
      · rw [gn k y a.1, gn k' y2 d.1] at e
        exact h1 k k' z z2 e
  · rcases dn k a with y | ⟨y, z⟩
    · rw [y, gr, g7]; omega
    · have := h2 k z
      rw [gn k y a.1, g7]; omega
theorem nuq_of {J : IMem} {b : Int} (h : NWw (J 1) b) : NUQ J := h.1
/-- a chair that went -/
theorem nww_ngo {J J' : IMem} {b : Int} (h : NWw (J 1) b) (g : NGO J J') : NWw (J' 1) b := by
  obtain ⟨h1, h2, h3, h4⟩ := h
  obtain ⟨g1, g2, _, g4, _⟩ := g
  have e7 := g4 7 (by decide)
  refine ⟨g1, fun k a => ?_, by rw [e7]; exact h3, by rw [e7]; exact h4⟩
  obtain ⟨k0, a0, b0⟩ := g2 (J' 1 (140 + 6 * k)) ⟨k, a, rfl⟩
  rw [← b0, e7]
  exact h2 k0 a0
section
variable {fu : Nat} {J : IMem} {Q : Int → IMem → Prop}
/-- one comes -/
theorem xn_comes {a1 a2 a3 b : Int} (hfu : 5000000000 < fu) (hg : GX 0 J) (q2 : inr a2) (q3 : inr a3) (h : NWw (J 1) b) (hb : b < 2000000000) : par (f_X_comes fu 0 a1 a2 a3 J) (fun _ J' => (∀ j, ¬ (j = 7 ∨ j = 76 ∨ (130 ≤ j ∧ j < 1580)) → J' 1 j = J 1 j) ∧ NWw (J' 1) (b + 1)) := by
  have hcs := gx_cnt hg
  have h7 := h.2.2
  unfold f_X_comes
  refine par_zb (Q1 := fun v I => (0 ≤ v ∧ v ≤ 5) ∧ ∀ j, I 1 j = J 1 j) (fun v I e => ⟨(par_sat (ok_X_lineFor fu 0 a2 a3 J hfu hg q2 q3) v I e).2.2, fun j => fc_X_lineFor (fun q j => q = 7 ∨ q = 8) fu 0 a2 a3 J (fun _ => by omega) (by omega) (by omega) (by omega) (by omega) e 1 j (by omega)⟩) (fun v J2 ⟨⟨v0, v5⟩, f2⟩ => ?_)
  obtain ⟨l, rfl⟩ : ∃ l : Nat, v = (l : Int) := ⟨v.toNat, by omega⟩
  have hl : l < 6 := by omega
  refine par_zw' (fun J4 e4 => ?_)
  have w1 : Wq (wr32 (J2 (0 + 1) 7 + 1)) (J 1 7 + 1) := by show wr32 (J2 1 7 + 1) = J 1 7 + 1; rw [f2, wr32_i2 (by omega) (by omega)]
  rw [w1.e] at e4
  have n7 : J4 1 7 = J 1 7 + 1 := by rw [e4, if_pos ⟨rfl, rfl⟩]
  have f4 : ∀ j, j ≠ 7 → J4 1 j = J 1 j := fun j hj => by rw [e4, if_neg (by omega)]; exact f2 j
  have w2 : Wq (wr32 (J4 (0 + 1) 7 - 1)) (J 1 7) := by show wr32 (J4 1 7 - 1) = J 1 7; rw [n7, wr32_i2 (by omega) (by omega)]; omega
  rw [w2.e]
  have c4 : J4 1 (130 + l) = J 1 (130 + l) := f4 _ (by omega)
  refine par_zb (xv_stands (fu := fu) (l := l) (J := J4) hl (by rw [c4]; exact hcs l hl)) (fun v J5 g => ?_)
  have fin : (∀ j, ¬ (j = 7 ∨ j = 76 ∨ (130 ≤ j ∧ j < 1580)) → J5 1 j = J 1 j) ∧ NWw (J5 1) (b + 1) := by
    rcases g with ⟨_, _, g3, _, _⟩ | ⟨_, g2, g3⟩
    · have k : ∀ j, j ≠ 76 → j ≠ 7 → J5 1 j = J 1 j := fun j a c => (g3 1 j (by omega) (by omega)).trans (f4 j c)
      exact ⟨fun j hj => k j (by omega) (by omega), nww_keep h ((g3 1 7 (by omega) (by omega)).trans n7) (fun l' hl' => k _ (by omega) (by omega)) (fun k' a => k _ (by have := a.1; omega) (by omega))⟩
    · have hc0 := hcs l hl
      obtain ⟨c, hcc⟩ : ∃ c : Nat, J 1 (130 + l) = (c : Int) := ⟨(J 1 (130 + l)).toNat, by omega⟩
      rw [c4, hcc] at g2
      rw [c4, hcc, show ((c : Nat) : Int).toNat = c from rfl] at g3
      have k : ∀ j, ¬ (j = 130 + l) → ¬ (140 + 6 * (40 * l + c) ≤ j ∧ j < 140 + 6 * (40 * l + c) + 6) → j ≠ 7 → J5 1 j = J 1 j := fun j a d e => by
        rw [g3, if_neg (fun x => a x.2), if_neg (fun x => d x.2)]; exact f4 j e
      refine ⟨fun j hj => k j (by omega) (by omega) (by omega), nww_one h hl (by omega) hcc ?_ ?_ (fun l' h1 h2 => k _ (by omega) (by omega) (by omega)) ?_ (fun k' h1 h2 => k _ (by omega) (by omega) (by omega))⟩
      · rw [g3, if_neg (by omega), if_neg (by omega)]; exact n7
      · rw [g3, if_pos ⟨rfl, rfl⟩]
      · rw [g3, if_neg (by omega), if_pos (by omega), Nat.sub_self]
        rfl
  exact par_ite (fun _ => par_zr fin) (fun _ => par_zr fin)
/-- comers of a turn -/
def TNV (b : Int) (k : Nat) (J0 J : IMem) : Prop := GX 0 J ∧ NWw (J 1) (b + k) ∧ ∀ j, ¬ (j = 0 ∨ j = 7 ∨ j = 76 ∨ (130 ≤ j ∧ j < 1580)) → J 1 j = J0 1 j
theorem xn_comers (hfu : 5000000000 < fu) {b : Int} (hb : b < 1000000000) (J0 : IMem) (kk : IMem → Res) (hend : ∀ J, TNV b 8 J0 J → par (kk J) Q) : ∀ (m k : Nat) (J : IMem), k ≤ 8 → TNV b k J0 J → par (f_X_turn_2 fu kk 0 m (k : Int) J) Q := by
  intro m
  induction m with
  | zero => intro _ _ _ _; exact par_none
  | succ m ih =>
    intro k J hk hV
    show par (fb_X_turn_2 fu kk 0 (f_X_turn_2 fu kk 0 m) (k : Int) J) Q
    unfold fb_X_turn_2
    have v0 : Wq (wr32 (26 + wr32 (4 * (k : Int)))) (((26 + 4 * k : Nat) : Int)) := by show wr32 (26 + wr32 (4 * (k : Int))) = ((26 + 4 * k : Nat) : Int); rw [wr32_i2 (x := 4 * (k : Int)) (by omega) (by omega), wr32_i2 (by omega) (by omega)]; omega
    have v1 : Wq (wr32 (((26 + 4 * k : Nat) : Int) + 1)) (((26 + 4 * k + 1 : Nat) : Int)) := by show wr32 (((26 + 4 * k : Nat) : Int) + 1) = ((26 + 4 * k + 1 : Nat) : Int); rw [wr32_i2 (by omega) (by omega)]; omega
    have v2 : Wq (wr32 (((26 + 4 * k : Nat) : Int) + 2)) (((26 + 4 * k + 2 : Nat) : Int)) := by show wr32 (((26 + 4 * k : Nat) : Int) + 2) = ((26 + 4 * k + 2 : Nat) : Int); rw [wr32_i2 (by omega) (by omega)]; omega
    have v3 : Wq (wr32 (((26 + 4 * k : Nat) : Int) + 3)) (((26 + 4 * k + 3 : Nat) : Int)) := by show wr32 (((26 + 4 * k : Nat) : Int) + 3) = ((26 + 4 * k + 3 : Nat) : Int); rw [wr32_i2 (by omega) (by omega)]; omega
    have wn : Wq (wr32 ((k : Int) + 1)) (((k + 1 : Nat) : Int)) := by show wr32 ((k : Int) + 1) = ((k + 1 : Nat) : Int); rw [wr32_i2 (by omega) (by omega)]; rfl
    simp only [zl_e, zj_e, Nat.zero_add]
    rw [v0.e, v1.e, v2.e, v3.e, wn.e]
    clear v0 v1 v2 v3 wn
    have hV' := hV
    obtain ⟨hG, hN, hF⟩ := hV'
    by_cases h8 : k < 8
    · rw [if_pos (show (k : Int) < 8 by omega)]
      refine par_zg (fun _ => ?_)
      rw [tn, tn, tn, tn]
      have nxt : ∀ J1, TNV b k J0 J1 → par (f_X_turn_2 fu kk 0 m ((k + 1 : Nat) : Int) J1) Q := fun J1 ⟨x1, x2, x3⟩ => ih (k + 1) J1 h8 ⟨x1, nww_mv x2 rfl (fun _ _ => rfl) (fun _ _ => rfl) (by omega), x3⟩
      refine par_ite (fun hp => ?_) (fun _ => nxt J hV)
      refine par_zb (Q1 := fun _ I => GX 0 I ∧ ∀ j, j ≠ 0 → I 1 j = J 1 j) (fun v I e => ⟨(par_sat (ok_X_draw fu 0 1000 J hfu hG (lit_in rfl) (by decide)) v I e).2.1, fun j hj => fc_X_draw (fun q j => q = 1 ∧ j = 0) fu 0 1000 J (by omega) e 1 j (by omega)⟩) (fun v J1 ⟨g1, g2⟩ => ?_)
      have hV1 : TNV b k J0 J1 := ⟨g1, nww_mv hN (g2 7 (by decide)) (fun l _ => g2 _ (by omega)) (fun k' _ => g2 _ (by omega)) (Int.le_refl _), fun j hj => (g2 j (by omega)).trans (hF j hj)⟩
      refine par_zg (fun _ => par_ite (fun hx => ?_) (fun _ => nxt J1 hV1))
      refine par_zg (fun _ => par_zg (fun _ => par_zg (fun _ => ?_)))
      have wx := g1.2.1.2.2.2.1 k h8
      have z1 : 1 ≤ J1 1 (26 + 4 * k) ∧ J1 1 (26 + 4 * k) ≤ 8 := wx (by
        show 0 < J1 1 (29 + 4 * k)
        rw [g2 _ (by omega), show 29 + 4 * k = 26 + 4 * k + 3 by omega]; exact hp)
      refine par_zb (par_and (xn_comes (fu := fu) (b := b + k) hfu g1 (g1.1 _ _) (g1.1 _ _) hV1.2.1 (by omega)) (par_sat (ok_X_comes fu 0 (J1 1 (26 + 4 * k)) (J1 1 (26 + 4 * k + 1)) (J1 1 (26 + 4 * k + 2)) J1 hfu g1 (g1.1 _ _) (g1.1 _ _) (g1.1 _ _) z1))) (fun _ J2 ⟨⟨c1, c2⟩, _, c3, _⟩ => ?_)
      refine ih (k + 1) J2 h8 ⟨c3, ?_, fun j hj => (c1 j (by omega)).trans (hV1.2.2 j hj)⟩
      rw [show b + ((k + 1 : Nat) : Int) = b + k + 1 by omega]
      exact c2
    · rw [if_neg (show ¬ (k : Int) < 8 by omega)]
      have : k = 8 := by omega
      subst this
      exact hend J hV
theorem xn_turn {kl : Nat} {law : List LRec} {b : Int} (hfu : 5000000000 < fu) (hw : LWX J kl law) (hG : GX 0 J) (h : NWw (J 1) b) (hb : b < 1000000000) (hc : J 1 70 < 2000000000) : par (f_X_turn fu 0 J) (fun _ J' => LWX J' kl law ∧ NWw (J' 1) (b + 8)) := by
  unfold f_X_turn
  refine xn_comers (fu := fu) (b := b) hfu hb J _ (fun J1 ⟨g1, g2, g3⟩ => ?_) fu 0 J (by decide) ⟨hG, nww_mv h rfl (fun _ _ => rfl) (fun _ _ => rfl) (by omega), fun _ _ => rfl⟩
  have hw1 : LWX J1 kl law := lwx_same hw (fun j hj => g3 j (by omega))
  refine par_zb (chair_n (fu := fu) hfu hw1 g1 (nuq_of g2) (by rw [g3 70 (by omega)]; exact hc)) (fun _ J2 n => par_zr ⟨lwx_same hw1 (fun j hj => n.2.2.2.1 j (by omega)), nww_ngo g2 n⟩)
theorem xn_run16 {kl : Nat} {law : List LRec} {b : Int} (hfu : 5000000000 < fu) (n : Int) (hn : n ≤ 60) (hb : b < 900000000) : ∀ (m i : Nat) (w : Int) (J : IMem), (i : Int) ≤ 60 → LWX J kl law → GX 0 J → NWw (J 1) (b + 8 * i) → J 1 70 + 60 < 2000000000 + i → par (f_X_run_16 fu 0 n m w (i : Int) J) (fun _ J' => NWw (J' 1) (b + 480)) := by
  intro m
  induction m with
  | zero => intro _ _ _ _ _ _ _ _; exact par_none
  | succ m ih =>
    intro i w J hi hw hG h hc
    show par (fb_X_run_16 fu 0 n (f_X_run_16 fu 0 n m) w (i : Int) J) _
    unfold fb_X_run_16
    by_cases hin : (i : Int) < n
    · rw [if_pos hin]
      have w1 : Wq (wr32 ((i : Int) + 1)) (((i + 1 : Nat) : Int)) := by show wr32 ((i : Int) + 1) = ((i + 1 : Nat) : Int); rw [wr32_i2 (by omega) (by omega)]; rfl
      simp only [zl_e]
      rw [w1.e]
      refine par_zb (par_and (xn_turn (fu := fu) hfu hw hG h (by omega) (by omega)) (par_sat (ok_X_turn fu 0 J hfu hG (show J 1 70 < 2000000000 by omega)))) (fun y J1 ⟨⟨c1, c2⟩, _, c3, _, c4, _⟩ => ?_)
      have c4' : J1 1 70 = J 1 70 + 1 := c4
      refine ih (i + 1) (wr32 (w + y)) J1 (by omega) c1 c3 ?_ (by omega)
      rw [show b + 8 * ((i + 1 : Nat) : Int) = b + 8 * i + 8 by omega]
      exact c2
    · rw [if_neg hin]
      exact par_zr (nww_mv h rfl (fun _ _ => rfl) (fun _ _ => rfl) (by omega))
theorem xn_run {kl : Nat} {law : List LRec} {b : Int} (a : Int) (hfu : 5000000000 < fu) (hw : LWX J kl law) (hG : GX 0 J) (h : NWw (J 1) b) (hb : b < 900000000) (hc : J 1 70 + 60 < 2000000000) : par (f_X_run fu 0 a J) (fun _ J' => NWw (J' 1) (b + 480)) := by
  unfold f_X_run
  rw [ev_isIn, zb_zr]
  by_cases q : 1 ≤ a ∧ a ≤ 60
  · rw [if_pos q, if_neg ne10]
    exact xn_run16 (fu := fu) hfu a q.2 hb fu 0 0 J (by decide) hw hG (nww_mv h rfl (fun _ _ => rfl) (fun _ _ => rfl) (by omega)) (by omega)
  · rw [if_neg q, if_pos eq00]
    exact par_zr (nww_mv h rfl (fun _ _ => rfl) (fun _ _ => rfl) (by omega))
theorem xn_come {b : Int} (a1 a2 a3 : Int) (hfu : 5000000000 < fu) (hG : GX 0 J) (q1 : inr a1) (q2 : inr a2) (q3 : inr a3) (h : NWw (J 1) b) (hb : b < 900000000) : par (f_X_come fu 0 a1 a2 a3 J) (fun _ J' => NWw (J' 1) (b + 480)) := by
  unfold f_X_come
  refine par_zb (Q1 := fun _ J' => J' = J) ?_ (fun y J1 e => ?_)
  · exact fun v I e => (par_sat (ok_X_isGroup fu a1 a2 a3 J hfu hG.1 q1 q2 q3) v I e).2.2.1
  · rw [e]
    refine par_ite (fun _ => par_zr (nww_mv h rfl (fun _ _ => rfl) (fun _ _ => rfl) (by omega))) (fun _ => ?_)
    exact par_zb (xn_comes (fu := fu) (b := b) hfu hG q2 q3 h (by omega)) (fun _ J2 ⟨_, c⟩ => par_zr (nww_mv c rfl (fun _ _ => rfl) (fun _ _ => rfl) (by omega)))
end
section
variable {fu : Nat} {I J : IMem}
/-- the hand, chosen: the lists are whole -/
theorem cvs_hand {J2 : IMem} {n : Nat} (hP : PKR I J) (hn : J 0 35 = (n : Int)) (gz : ∀ k, INL J k → 1 ≤ J 1 (141 + 6 * k) ∧ J 1 (141 + 6 * k) ≤ 8) (hT : TKR I J n J2) : CVS J2 ∧ ∀ k, INL J2 k → 0 ≤ J2 9 k ∧ J2 9 k ≤ J2 1 (141 + 6 * k) := by
  obtain ⟨⟨_, t31, t32, _, _⟩, t2, t3, t4, t5⟩ := hT
  have w : ∀ j, J2 1 j = J 1 j := fun j => t5 1 j (by decide) (by decide) (by decide) (by omega)
  have il : ∀ k, INL J2 k ↔ INL J k := inl_mv (fun j _ _ => w j)
  have one : ∀ i : Nat, i < n → ∃ k : Nat, INL J k ∧ J 15 i = (k : Int) ∧ J2 11 i = (k : Int) ∧ J2 9 k = J 1 (141 + 6 * k) := fun i hi => by
    obtain ⟨k, k1, k2, _⟩ := hP.2.2.1 i (by omega)
    exact ⟨k, k1, k2, (t2 i hi).trans k2, (t3 k k1.1).1 ⟨i, hi, k2⟩⟩
  refine ⟨⟨⟨by omega, by omega⟩, fun k hk hne => ?_, fun k hk hne => absurd (t4 k hk) hne, fun i hi => ?_, fun i hi => ?_, fun i j hi => ?_⟩, fun k hk => ?_⟩
  · by_cases y : ∃ i' : Nat, i' < n ∧ J 15 i' = (k : Int)
    · obtain ⟨i, i1, i2⟩ := y
      obtain ⟨k2, x1, x2, x3, _⟩ := one i i1
      have e : k2 = k := by omega
      rw [e] at x1 x3
      exact ⟨(il k).mpr x1, t4 k hk, i, by omega, x3⟩
    · exact absurd ((t3 k hk).2 (fun i' h1 h2 => y ⟨i', h1, h2⟩)) hne
  · obtain ⟨k, x1, _, x3, x4⟩ := one i (by omega)
    have z := gz k x1
    exact ⟨k, (il k).mpr x1, x3, by rw [x4]; omega⟩
  · omega
  · omega
  · have hk1 := (il k).mp hk
    have z := gz k hk1
    rw [w]
    by_cases y : ∃ i' : Nat, i' < n ∧ J 15 i' = (k : Int)
    · rw [(t3 k hk.1).1 y]; omega
    · rw [(t3 k hk.1).2 (fun i' h1 h2 => y ⟨i', h1, h2⟩)]; omega
theorem xn_send {b : Int} (h : RJ I J) (hg : GX 0 J) (hN : NWw (J 1) b) (hc : J 1 70 < 2000000000) : par (f_X_send fu 0 J) (fun _ J' => NWw (J' 1) b) := by
  have gs := gx_facts hg
  have hP : PKR I J := h.2.2.2.2.2.1
  obtain ⟨n, hn⟩ : ∃ n : Nat, J 0 35 = (n : Int) := ⟨(J 0 35).toNat, by have := hP.1.2.2.1; omega⟩
  have hn8 : n ≤ 8 := by have := hP.1; omega
  refine pq_tor (Q := fun _ _ _ J' => NWw (J' 1) b) (m1 := zr 0 I) (x := 0) (I := I) ?_ rfl
  unfold f_X_send
  refine pq_br (xv_begins (fu := fu) J) (fun _ J1 _ ⟨g1, ⟨g2, g3, g4, g5, g6⟩, g7⟩ => ?_)
  have hT0 : TKR I J 0 J1 := ⟨⟨by rw [g2]; exact (Int.sub_zero _).symm, g3, g4, g5, g6⟩, fun i' hi' => absurd hi' (Nat.not_lt_zero _), fun k hk => ⟨fun ⟨i', x, _⟩ => absurd x (Nat.not_lt_zero _), fun _ => (g1 k hk).1⟩, fun k hk => (g1 k hk).2, fun q j b1 b2 b3 b4 => g7 q j b1 b3 b4⟩
  refine xv_send6 _ _ I J hP hn hn8 gs.1 gs.2.2.2.2.1 (fun J2 hT => ?_) fu 0 J1 (Nat.zero_le _) hT0
  obtain ⟨hS, h9⟩ := cvs_hand hP hn gs.2.2.2.2.1 hT
  have w : ∀ j, J2 1 j = J 1 j := fun j => hT.2.2.2.2 1 j (by decide) (by decide) (by decide) (by omega)
  have t31 : J2 0 31 = (n : Int) := hT.1.2.1
  have t32 : J2 0 32 = 0 := hT.1.2.2.1
  refine pq_br (xn_goes (fu := fu) (by omega) (by omega) h9 hS (nuq_mv (fun j _ _ => w j) hN.1) (fun l hl => by rw [w]; exact gx_cnt hg l hl) (fun k hk => by rw [w]; exact gs.2.2.2.2.1 k ((inl_mv (fun j _ _ => w j) k).mp hk)) ⟨by rw [w]; exact gs.2.2.2.2.2.2, by rw [w]; exact hc⟩) (fun y J3 _ m => pq_end (nww_ngo (nww_mv hN (w 7) (fun _ _ => w _) (fun _ _ => w _) (Int.le_refl _)) m))
/-- NUMBERS, the image's too -/
def NWR (n : Nat) (J : IMem) : Prop := NWw (J 1) (500 * n) ∧ (J 0 3 ≠ 0 → NWw (J 2) (500 * n))
def RN (n : Nat) (I J : IMem) : Prop := RJ I J ∧ NWR n J
theorem nwr_set {n : Nat} {J' : IMem} (hN : NWR n J) (h1 : NWw (J' 1) (500 * n + 480)) (g : ∀ q j, (q = 2 ∨ (q = 0 ∧ j = 3)) → J' q j = J q j) : NWR (n + 1) J' := by
  have e2 : J' 2 = J 2 := funext (fun j => g 2 j (Or.inl rfl))
  refine ⟨nww_mv h1 rfl (fun _ _ => rfl) (fun _ _ => rfl) (by omega), fun h3 => ?_⟩
  rw [e2]
  rw [g 0 3 (Or.inr ⟨rfl, rfl⟩)] at h3
  exact nww_mv (hN.2 h3) rfl (fun _ _ => rfl) (fun _ _ => rfl) (by omega)
theorem nwr_quiet {n : Nat} {I' J' : IMem} (h : RJ I J) (h' : RJ I' J') (hN : NWR n J) (f : ∀ q, (q = 8 ∨ q = 9) → I' q = I q) (e1 : I' 1 = I 1 ∨ J' 1 7 = J 1 7) (g : ∀ q j, (q = 2 ∨ (q = 0 ∧ j = 3)) → J' q j = J q j) : NWR (n + 1) J' := by
  obtain ⟨a, _, _, b, _⟩ : HR 1 1 I J := h.1.1
  obtain ⟨a', _, _, b', _⟩ : HR 1 1 I' J' := h'.1.1
  have e7 : J' 1 7 = J 1 7 := by
    rcases e1 with e1 | e1
    · exact (a'.2.2.1.symm.trans (congrFun e1 7)).trans a.2.2.1
    · exact e1
  have ec : ∀ l, l < 6 → J' 1 (130 + l) = J 1 (130 + l) := fun l hl => ((hl_c b' hl).1.symm.trans (congrFun (f 9 (Or.inr rfl)) l)).trans (hl_c b hl).1
  refine nwr_set hN (nww_mv hN.1 e7 ec (fun k hk => ?_) (by omega)) g
  have hk1 := hk.1
  have d : 40 * (k / 40) + k % 40 = k := by omega
  have r := hl_r (l := k / 40) (p := k % 40) (f := 0) b (by omega) hk.2 (by decide)
  have r' := hl_r (l := k / 40) (p := k % 40) (f := 0) b' (by omega) (by rw [ec _ (by omega)]; exact hk.2) (by decide)
  rw [d] at r r'
  exact (r'.symm.trans (congrFun (f 8 (Or.inl rfl)) (6 * k + 0))).trans r
theorem nwr_image {n : Nat} {a y : Int} {J' : IMem} (hN : NWR n J) (e : f_X_image fu 0 a J = some (y, J')) : NWR (n + 1) J' := by
  have mono : ∀ {w w' : Nat → Int}, NWw w (500 * n) → (∀ j, j < 6190 → w' j = w j) → NWw w' (500 * ((n + 1 : Nat) : Int)) := fun hw g => nww_mv hw (g 7 (by decide)) (fun l hl => g _ (by omega)) (fun k hk => g _ (by have := hk.1; omega)) (by omega)
  by_cases ha : a = 0
  · by_cases h3 : J 0 3 = 0
    · have p : par (f_X_image fu 0 a J) (fun _ J' => J' = J) := by
        unfold f_X_image
        simp only [zj_e]
        rw [if_pos ha, if_pos h3]
        exact par_zr rfl
      have e1 := p y J' e
      rw [e1]
      exact ⟨mono hN.1 (fun _ _ => rfl), fun z => absurd h3 z⟩
    · obtain ⟨_, g1, _, _, g4, g5⟩ := xv_image0 (fu := fu) a ha J h3 y J' e
      have e2 : J' 2 = J 2 := funext (fun j => g5 2 j (by decide) (by decide) (by omega))
      refine ⟨mono (hN.2 h3) g1, fun _ => ?_⟩
      rw [e2]
      exact mono (hN.2 h3) (fun _ _ => rfl)
  · obtain ⟨_, g1, g2, g3⟩ := xv_image1 (fu := fu) a ha J y J' e
    have e1 : J' 1 = J 1 := funext (fun j => g3 1 j (by decide) (by omega))
    refine ⟨?_, fun _ => mono hN.1 g1⟩
    rw [e1]
    exact mono hN.1 (fun _ _ => rfl)
end
