/-! a filling under way on both sides -/
def INL (J : IMem) (k : Nat) : Prop := k < 240 ∧ ((k % 40 : Nat) : Int) < J 1 (130 + k / 40)
/-- the parts that can be -/
def PTS (J : IMem) : Prop := ∀ z : Int, 1 ≤ z → z ≤ 8 → 0 ≤ J 1 (16 + z).toNat ∧ J 1 (16 + z).toNat < z
theorem pts_mv {J J' : IMem} (h : PTS J) (g : ∀ j, 17 ≤ j → j ≤ 24 → J' 1 j = J 1 j) : PTS J' := fun z z1 z2 => by
  rw [g _ (by omega) (by omega)]; exact h z z1 z2
def MKR (m s f z : Int) : Prop := (m = 0 ∧ s = 0 ∧ f = 0) ∨ (m = 1 ∧ s = z ∧ 1 ≤ s ∧ f = 0) ∨ (m = 2 ∧ s = 0 ∧ f = 1) ∨ (m = 3 ∧ 1 ≤ s ∧ s < z ∧ f = 0)
def sm (c : Nat → Int) : Nat → Int
  | 0 => 0
  | n + 1 => sm c n + c n
theorem sm_eq {c d : Nat → Int} : ∀ n : Nat, (∀ i, i < n → d i = c i) → sm d n = sm c n := by
  intro n
  induction n with
  | zero => intro _; rfl
  | succ n ih =>
    intro h
    show sm d n + d n = sm c n + c n
    rw [ih (fun i hi => h i (by omega)), h n (by omega)]
def FRl (oc : Nat) (I J : IMem) : Prop :=
  (I oc 7 = J 0 30 ∧ I oc 8 = J 0 31 ∧ I oc 9 = J 0 32) ∧
  (0 ≤ J 0 30 ∧ 0 ≤ J 0 31 ∧ J 0 30 + J 0 31 ≤ 8 ∧ 0 ≤ J 0 32) ∧
  (((I oc 10 = 0 ∧ J 0 33 = 0) ∨ (I oc 10 = 1 ∧ 0 < J 0 33)) ∧ J 0 33 ≤ J 0 31) ∧
  (((I oc 11 = 0 ∧ J 0 34 = 0) ∨ (I oc 11 = 1 ∧ 0 < J 0 34)) ∧ J 0 34 ≤ J 0 31) ∧
  (∀ k, k < 240 → MKR (I (oc + 1) k) (J 9 k) (J 12 k) (J 1 (141 + 6 * k))) ∧
  (∀ i : Nat, (i : Int) < J 0 31 → ∃ k : Nat, INL J k ∧ J 11 i = k ∧ I (oc + 2) i = k ∧ I (oc + 3) i = J 9 k ∧ 1 ≤ J 9 k ∧ J 9 k ≤ 8) ∧
  (∀ i : Nat, (i : Int) < J 0 32 → ∃ k : Nat, INL J k ∧ J 10 i = k ∧ J 12 k = 1 ∧ ∀ f, f < 6 → I (oc + 4) (6 * i + f) = if f = 2 then J 1 (140 + 6 * k + 1) else J 1 (140 + 6 * k + f)) ∧
  J 1 1 = J 0 30 + sm (I (oc + 3)) (J 0 31).toNat
theorem frl_fr {oc : Nat} {I J I' J' : IMem} (h : FRl oc I J) (h1 : ∀ q j, (q = oc ∧ 7 ≤ j ∧ j ≤ 11) ∨ (oc + 1 ≤ q ∧ q ≤ oc + 4) → I' q j = I q j) (h2 : ∀ q j, (q = 0 ∧ 30 ≤ j ∧ j ≤ 34) ∨ (9 ≤ q ∧ q ≤ 12) ∨ (q = 1 ∧ (j = 1 ∨ (130 ≤ j ∧ j < 1580))) → J' q j = J q j) : FRl oc I' J' := by
  obtain ⟨⟨a1, a2, a3⟩, b, c, d, e, f, g, s⟩ := h
  have w1 := h2 0 30 (by omega)
  have w2 := h2 0 31 (by omega)
  have w3 := h2 0 32 (by omega)
  have w4 := h2 0 33 (by omega)
  have w5 := h2 0 34 (by omega)
  refine ⟨⟨?_, ?_, ?_⟩, ?_, ?_, ?_, fun k hk => ?_, fun i hi => ?_, fun i hi => ?_, ?_⟩
  · rw [h1 _ _ (by omega), w1]; exact a1
  · rw [h1 _ _ (by omega), w2]; exact a2
  · rw [h1 _ _ (by omega), w3]; exact a3
  · rw [w1, w2, w3]; exact b
  · rw [h1 _ _ (by omega), w4, w2]; exact c
  · rw [h1 _ _ (by omega), w5, w2]; exact d
  · rw [h1 _ _ (by omega), h2 9 _ (by omega), h2 12 _ (by omega), h2 1 _ (by omega)]; exact e k hk
  · rw [w2] at hi
    obtain ⟨k, k1, k2, k3, k4, k5⟩ := f i hi
    have kk := k1.1
    refine ⟨k, ⟨kk, by rw [h2 1 _ (by omega)]; exact k1.2⟩, ?_, ?_, ?_, ?_⟩
    · rw [h2 11 _ (by omega)]; exact k2
    · rw [h1 _ _ (by omega)]; exact k3
    · rw [h1 _ _ (by omega), h2 9 _ (by omega)]; exact k4
    · rw [h2 9 _ (by omega)]; exact k5
  · rw [w3] at hi
    obtain ⟨k, k1, k2, k3, k4⟩ := g i hi
    have kk := k1.1
    refine ⟨k, ⟨kk, by rw [h2 1 _ (by omega)]; exact k1.2⟩, ?_, ?_, fun f hf => ?_⟩
    · rw [h2 10 _ (by omega)]; exact k2
    · rw [h2 12 _ (by omega)]; exact k3
    · rw [h1 _ _ (by omega), h2 1 (140 + 6 * k + 1) (by omega), h2 1 (140 + 6 * k + f) (by omega)]; exact k4 f hf
  · rw [h2 1 1 (by omega), w1, w2, sm_eq (c := I (oc + 3)) _ (fun i _ => h1 _ _ (by omega))]; exact s
/-- one more sits, on both sides -/
theorem frl_sit {oc k : Nat} {I J I' J' : IMem} {size sort mark : Int} (h : FRl oc I J) (hk : INL J k) (hm : I (oc + 1) k = 0) (hz : 1 ≤ size ∧ size ≤ J 0 30) (hs : sort = J 1 (140 + 6 * k + 3)) (hmk : (mark = 1 ∧ size = J 1 (141 + 6 * k)) ∨ (mark = 3 ∧ size < J 1 (141 + 6 * k)))
    (h1 : ∀ q j, (q = oc ∧ 7 ≤ j ∧ j ≤ 11) ∨ (oc + 1 ≤ q ∧ q ≤ oc + 4) → I' q j = if q = oc ∧ j = 11 then (if I oc 11 = 0 then (if sort = 1 then 0 else 1) else 1) else if q = oc ∧ j = 10 then (if I oc 10 = 0 then (if sort = 2 then 1 else 0) else 1) else if q = oc ∧ j = 7 then wr32 (I oc 7 - size) else if q = oc ∧ j = 8 then I oc 8 + 1 else if q = oc + 3 ∧ j = (I oc 8).toNat then size else if q = oc + 2 ∧ j = (I oc 8).toNat then (k : Int) else if q = oc + 1 ∧ j = k then mark else I q j)
    (h2 : ∀ q j, q ≠ 7 → q ≠ 8 → J' q j = if q = 0 ∧ j = 34 then wr32 (J 0 34 + (if sort = 1 then 0 else 1)) else if q = 0 ∧ j = 33 then wr32 (J 0 33 + (if sort = 2 then 1 else 0)) else if q = 0 ∧ j = 30 then wr32 (J 0 30 - size) else if q = 0 ∧ j = 31 then J 0 31 + 1 else if q = 11 ∧ j = (J 0 31).toNat then (k : Int) else if q = 9 ∧ j = k then size else J q j) : FRl oc I' J' := by
  obtain ⟨⟨a1, a2, a3⟩, ⟨b1, b2, b3, b4⟩, ⟨c1, c2⟩, ⟨d1, d2⟩, e, f, g, s⟩ := h
  have jw : ∀ j, J' 1 j = J 1 j := fun j => by rw [h2 _ _ (by decide) (by decide), if_neg (by omega), if_neg (by omega), if_neg (by omega), if_neg (by omega), if_neg (by omega), if_neg (by omega)]
  have j30 : J' 0 30 = J 0 30 - size := by
    rw [h2 _ _ (by decide) (by decide), if_neg (by omega), if_neg (by omega), if_pos (by omega), wr32_i2 (by omega) (by omega)]
  have j31 : J' 0 31 = J 0 31 + 1 := by rw [h2 _ _ (by decide) (by decide), if_neg (by omega), if_neg (by omega), if_neg (by omega), if_pos (by omega)]
  have j32 : J' 0 32 = J 0 32 := by rw [h2 _ _ (by decide) (by decide), if_neg (by omega), if_neg (by omega), if_neg (by omega), if_neg (by omega), if_neg (by omega), if_neg (by omega)]
  have j9 : ∀ j, J' 9 j = if j = k then size else J 9 j := by
    intro j
    rw [h2 _ _ (by decide) (by decide), if_neg (by omega), if_neg (by omega), if_neg (by omega), if_neg (by omega), if_neg (by omega)]
    by_cases q : j = k
    · rw [if_pos ⟨rfl, q⟩, if_pos q]
    · rw [if_neg (fun z => q z.2), if_neg q]
  have j12 : ∀ j, J' 12 j = J 12 j := fun j => by rw [h2 _ _ (by decide) (by decide), if_neg (by omega), if_neg (by omega), if_neg (by omega), if_neg (by omega), if_neg (by omega), if_neg (by omega)]
  have j10 : ∀ j, J' 10 j = J 10 j := fun j => by rw [h2 _ _ (by decide) (by decide), if_neg (by omega), if_neg (by omega), if_neg (by omega), if_neg (by omega), if_neg (by omega), if_neg (by omega)]
  have j11 : ∀ j, J' 11 j = if j = (J 0 31).toNat then (k : Int) else J 11 j := by
    intro j
    rw [h2 _ _ (by decide) (by decide), if_neg (by omega), if_neg (by omega), if_neg (by omega), if_neg (by omega)]
    by_cases q : j = (J 0 31).toNat
    · rw [if_pos ⟨rfl, q⟩, if_pos q]
    · rw [if_neg (fun z => q z.2), if_neg q, if_neg (by omega)]
  have i1 : ∀ j, I' (oc + 1) j = if j = k then mark else I (oc + 1) j := by
    intro j
    rw [h1 _ _ (by omega), if_neg (by omega), if_neg (by omega), if_neg (by omega), if_neg (by omega), if_neg (by omega), if_neg (by omega)]
    by_cases q : j = k
    · rw [if_pos ⟨rfl, q⟩, if_pos q]
    · rw [if_neg (fun z => q z.2), if_neg q]
  have i2 : ∀ j, I' (oc + 2) j = if j = (I oc 8).toNat then (k : Int) else I (oc + 2) j := by
    intro j
    rw [h1 _ _ (by omega), if_neg (by omega), if_neg (by omega), if_neg (by omega), if_neg (by omega), if_neg (by omega)]
    by_cases q : j = (I oc 8).toNat
    · rw [if_pos ⟨rfl, q⟩, if_pos q]
    · rw [if_neg (fun z => q z.2), if_neg q, if_neg (by omega)]
  have i3 : ∀ j, I' (oc + 3) j = if j = (I oc 8).toNat then size else I (oc + 3) j := by
    intro j
    rw [h1 _ _ (by omega), if_neg (by omega), if_neg (by omega), if_neg (by omega), if_neg (by omega)]
    by_cases q : j = (I oc 8).toNat
    · rw [if_pos ⟨rfl, q⟩, if_pos q]
    · rw [if_neg (fun z => q z.2), if_neg q, if_neg (by omega), if_neg (by omega)]
  have i4 : ∀ j, I' (oc + 4) j = I (oc + 4) j := by
    intro j
    rw [h1 _ _ (by omega), if_neg (by omega), if_neg (by omega), if_neg (by omega), if_neg (by omega), if_neg (by omega), if_neg (by omega), if_neg (by omega)]
  have mk0 := e k hk.1
  rw [hm] at mk0
  have s0 : J 9 k = 0 := by unfold MKR at mk0; omega
  refine ⟨⟨?_, ?_, ?_⟩, by rw [j30, j31, j32]; omega, ?_, ?_, fun k2 hk2 => ?_, fun i hi => ?_, fun i hi => ?_, ?_⟩
  · rw [h1 _ _ (by omega), if_neg (by omega), if_neg (by omega), if_pos (by omega), j30, a1, wr32_i2 (by omega) (by omega)]
  · rw [h1 _ _ (by omega), if_neg (by omega), if_neg (by omega), if_neg (by omega), if_pos (by omega), j31, a2]
  · rw [h1 _ _ (by omega), if_neg (by omega), if_neg (by omega), if_neg (by omega), if_neg (by omega), if_neg (by omega), if_neg (by omega), if_neg (by omega), j32]; exact a3
  · have z33 : J' 0 33 = J 0 33 + (if sort = 2 then 1 else 0) := by
      rw [h2 _ _ (by decide) (by decide), if_neg (by omega), if_pos (by omega)]
      split <;> exact wr32_i2 (by omega) (by omega)
    have y10 : I' oc 10 = if I oc 10 = 0 then (if sort = 2 then 1 else 0) else 1 := by rw [h1 _ _ (by omega), if_neg (by omega), if_pos (by omega)]
    rw [z33, y10, j31]
    rcases c1 with ⟨p, q⟩ | ⟨p, q⟩
    · rw [if_pos p]
      split <;> omega
    · rw [if_neg (by omega)]
      split <;> omega
  · have z34 : J' 0 34 = J 0 34 + (if sort = 1 then 0 else 1) := by
      rw [h2 _ _ (by decide) (by decide), if_pos (by omega)]
      split <;> exact wr32_i2 (by omega) (by omega)
    have y11 : I' oc 11 = if I oc 11 = 0 then (if sort = 1 then 0 else 1) else 1 := by rw [h1 _ _ (by omega), if_pos (by omega)]
    rw [z34, y11, j31]
    rcases d1 with ⟨p, q⟩ | ⟨p, q⟩
    · rw [if_pos p]
      split <;> omega
    · rw [if_neg (by omega)]
      split <;> omega
  · rw [i1, j9, j12, jw]
    by_cases q : k2 = k
    · subst q
      rw [if_pos rfl, if_pos rfl]
      unfold MKR at mk0 ⊢
      omega
    · rw [if_neg q, if_neg q]; exact e k2 hk2
  · rw [j31] at hi
    by_cases q : i = (J 0 31).toNat
    · refine ⟨k, ⟨hk.1, by rw [jw]; exact hk.2⟩, ?_, ?_, ?_, ?_⟩
      · rw [j11, if_pos q]
      · rw [i2, if_pos (by omega)]
      · rw [i3, if_pos (by omega), j9, if_pos rfl]
      · rw [j9, if_pos rfl]; omega
    · obtain ⟨k2, k3, k4, k5, k6, k7⟩ := f i (by omega)
      have hne : k2 ≠ k := by intro z; subst z; omega
      refine ⟨k2, ⟨k3.1, by rw [jw]; exact k3.2⟩, ?_, ?_, ?_, ?_⟩
      · rw [j11, if_neg q]; exact k4
      · rw [i2, if_neg (by omega)]; exact k5
      · rw [i3, if_neg (by omega), j9, if_neg hne]; exact k6
      · rw [j9, if_neg hne]; exact k7
  · rw [j32] at hi
    obtain ⟨k2, k3, k4, k5, k6⟩ := g i hi
    refine ⟨k2, ⟨k3.1, by rw [jw]; exact k3.2⟩, ?_, ?_, fun f hf => ?_⟩
    · rw [j10]; exact k4
    · rw [j12]; exact k5
    · rw [i4, jw, jw]; exact k6 f hf
  · rw [jw, j30, j31, show (J 0 31 + 1).toNat = (J 0 31).toNat + 1 by omega]
    show _ = _ + (sm (I' (oc + 3)) (J 0 31).toNat + I' (oc + 3) (J 0 31).toNat)
    rw [i3 (J 0 31).toNat, if_pos (by omega), sm_eq (c := I (oc + 3)) _ (fun i hi => by rw [i3, if_neg (by omega)])]
    omega
/-- one more is found out, on both sides -/
theorem frl_found {oc k : Nat} {I J I' J' : IMem} (h : FRl oc I J) (hk : INL J k) (hm : I (oc + 1) k = 0) (hn : J 0 32 ≤ 143) (hr : ∀ f, f < 6 → I' (oc + 4) (6 * (J 0 32).toNat + f) = if f = 2 then J 1 (140 + 6 * k + 1) else J 1 (140 + 6 * k + f))
    (h1 : ∀ q j, (q = oc ∧ 7 ≤ j ∧ j ≤ 11) ∨ (oc + 1 ≤ q ∧ q ≤ oc + 4) → ¬ (q = oc + 4 ∧ 6 * (J 0 32).toNat ≤ j ∧ j < 6 * (J 0 32).toNat + 6) → I' q j = if q = oc ∧ j = 9 then I oc 9 + 1 else if q = oc + 1 ∧ j = k then 2 else I q j)
    (h2 : ∀ q j, J' q j = if q = 1 ∧ j = 75 then wr32 (J 1 75 + 1) else if q = 0 ∧ j = 32 then J 0 32 + 1 else if q = 10 ∧ j = (J 0 32).toNat then (k : Int) else if q = 12 ∧ j = k then 1 else J q j) : FRl oc I' J' := by
  obtain ⟨⟨a1, a2, a3⟩, ⟨b1, b2, b3, b4⟩, c, d, e, f, g, s⟩ := h
  have jw : ∀ j, j ≠ 75 → J' 1 j = J 1 j := fun j hj => by rw [h2, if_neg (by omega), if_neg (by omega), if_neg (by omega), if_neg (by omega)]
  have j0 : ∀ j, j ≠ 32 → J' 0 j = J 0 j := fun j hj => by rw [h2, if_neg (by omega), if_neg (by omega), if_neg (by omega), if_neg (by omega)]
  have j32 : J' 0 32 = J 0 32 + 1 := by rw [h2, if_neg (by omega), if_pos (by omega)]
  have j9 : ∀ j, J' 9 j = J 9 j := fun j => by rw [h2, if_neg (by omega), if_neg (by omega), if_neg (by omega), if_neg (by omega)]
  have j11 : ∀ j, J' 11 j = J 11 j := fun j => by rw [h2, if_neg (by omega), if_neg (by omega), if_neg (by omega), if_neg (by omega)]
  have j12 : ∀ j, J' 12 j = if j = k then 1 else J 12 j := by
    intro j
    rw [h2, if_neg (by omega), if_neg (by omega), if_neg (by omega)]
    by_cases q : j = k
    · rw [if_pos ⟨rfl, q⟩, if_pos q]
    · rw [if_neg (fun z => q z.2), if_neg q]
  have j10 : ∀ j, J' 10 j = if j = (J 0 32).toNat then (k : Int) else J 10 j := by
    intro j
    rw [h2, if_neg (by omega), if_neg (by omega)]
    by_cases q : j = (J 0 32).toNat
    · rw [if_pos ⟨rfl, q⟩, if_pos q]
    · rw [if_neg (fun z => q z.2), if_neg q, if_neg (by omega)]
  have i0 : ∀ j, 7 ≤ j → j ≤ 11 → j ≠ 9 → I' oc j = I oc j := fun j x y z => by rw [h1 _ _ (by omega) (by omega), if_neg (by omega), if_neg (by omega)]
  have i1 : ∀ j, I' (oc + 1) j = if j = k then 2 else I (oc + 1) j := by
    intro j
    rw [h1 _ _ (by omega) (by omega), if_neg (by omega)]
    by_cases q : j = k
    · rw [if_pos ⟨rfl, q⟩, if_pos q]
    · rw [if_neg (fun z => q z.2), if_neg q]
  have i2 : ∀ j, I' (oc + 2) j = I (oc + 2) j := fun j => by rw [h1 _ _ (by omega) (by omega), if_neg (by omega), if_neg (by omega)]
  have i3 : ∀ j, I' (oc + 3) j = I (oc + 3) j := fun j => by rw [h1 _ _ (by omega) (by omega), if_neg (by omega), if_neg (by omega)]
  have mk0 := e k hk.1
  rw [hm] at mk0
  refine ⟨⟨?_, ?_, ?_⟩, by rw [j0 30 (by decide), j0 31 (by decide), j32]; omega, ?_, ?_, fun k2 hk2 => ?_, fun i hi => ?_, fun i hi => ?_, ?_⟩
  · rw [i0 _ (by omega) (by omega) (by omega), j0 _ (by decide)]; exact a1
  · rw [i0 _ (by omega) (by omega) (by omega), j0 _ (by decide)]; exact a2
  · rw [h1 _ _ (by omega) (by omega), if_pos ⟨rfl, rfl⟩, j32, a3]
  · rw [i0 _ (by omega) (by omega) (by omega), j0 33 (by decide), j0 31 (by decide)]; exact c
  · rw [i0 _ (by omega) (by omega) (by omega), j0 34 (by decide), j0 31 (by decide)]; exact d
  · rw [i1, j9, j12, jw _ (by omega)]
    by_cases q : k2 = k
    · subst q
      rw [if_pos rfl, if_pos rfl]
      unfold MKR at mk0 ⊢
      omega
    · rw [if_neg q, if_neg q]; exact e k2 hk2
  · rw [j0 31 (by decide)] at hi
    obtain ⟨k2, k3, k4, k5, k6, k7⟩ := f i hi
    have kk := k3.1
    exact ⟨k2, ⟨kk, by rw [jw _ (by omega)]; exact k3.2⟩, by rw [j11]; exact k4, by rw [i2]; exact k5, by rw [i3, j9]; exact k6, by rw [j9]; exact k7⟩
  · rw [j32] at hi
    by_cases q : i = (J 0 32).toNat
    · have kk := hk.1
      refine ⟨k, ⟨kk, by rw [jw _ (by omega)]; exact hk.2⟩, ?_, ?_, fun f hf => ?_⟩
      · rw [j10, if_pos q]
      · rw [j12, if_pos rfl]
      · rw [q, hr f hf, jw _ (by omega), jw _ (by omega)]
    · obtain ⟨k2, k3, k4, k5, k6⟩ := g i (by omega)
      have kk := k3.1
      refine ⟨k2, ⟨kk, by rw [jw _ (by omega)]; exact k3.2⟩, ?_, ?_, fun f hf => ?_⟩
      · rw [j10, if_neg q]; exact k4
      · rw [j12]; split
        · rfl
        · exact k5
      · rw [h1 _ _ (by omega) (by omega), if_neg (by omega), if_neg (by omega), jw _ (by omega), jw _ (by omega)]; exact k6 f hf
  · rw [jw 1 (by decide), j0 30 (by decide), j0 31 (by decide), sm_eq (c := I (oc + 3)) _ (fun i _ => i3 i)]; exact s
