/-! both memories together: the whole state -/
/-- of those picked: their seats, how many dear, how many not children -/
def pS (J : IMem) : Nat → Int
  | 0 => 0
  | n + 1 => pS J n + (if J 13 n = 0 then 0 else J 1 (141 + 6 * n))
def pD (J : IMem) : Nat → Int
  | 0 => 0
  | n + 1 => pD J n + (if J 13 n = 0 then 0 else if J 1 (140 + 6 * n + 3) = 2 then 1 else 0)
def pC (J : IMem) : Nat → Int
  | 0 => 0
  | n + 1 => pC J n + (if J 13 n = 0 then 0 else if J 1 (140 + 6 * n + 3) = 1 then 0 else 1)
theorem p_same {J J' : IMem} : ∀ n : Nat, (∀ k, k < n → J' 13 k = J 13 k ∧ (J 13 k ≠ 0 → J' 1 (141 + 6 * k) = J 1 (141 + 6 * k) ∧ J' 1 (140 + 6 * k + 3) = J 1 (140 + 6 * k + 3))) → pS J' n = pS J n ∧ pD J' n = pD J n ∧ pC J' n = pC J n := by
  intro n
  induction n with
  | zero => intro _; exact ⟨rfl, rfl, rfl⟩
  | succ n ih =>
    intro h
    obtain ⟨i1, i2, i3⟩ := ih (fun k hk => h k (by omega))
    obtain ⟨a, b⟩ := h n (by omega)
    refine ⟨?_, ?_, ?_⟩
    · show pS J' n + _ = pS J n + _
      rw [i1, a]
      by_cases q : J 13 n = 0
      · rw [if_pos q, if_pos q]
      · rw [if_neg q, if_neg q, (b q).1]
    · show pD J' n + _ = pD J n + _
      rw [i2, a]
      by_cases q : J 13 n = 0
      · rw [if_pos q, if_pos q]
      · rw [if_neg q, if_neg q, (b q).2]
    · show pC J' n + _ = pC J n + _
      rw [i3, a]
      by_cases q : J 13 n = 0
      · rw [if_pos q, if_pos q]
      · rw [if_neg q, if_neg q, (b q).2]
theorem p_zero {J : IMem} (h : ∀ k, k < 240 → J 13 k = 0) : ∀ n : Nat, n ≤ 240 → pS J n = 0 ∧ pD J n = 0 ∧ pC J n = 0 := by
  intro n
  induction n with
  | zero => intro _; exact ⟨rfl, rfl, rfl⟩
  | succ n ih =>
    intro hn
    obtain ⟨i1, i2, i3⟩ := ih (by omega)
    refine ⟨?_, ?_, ?_⟩
    · show pS J n + _ = 0
      rw [i1, if_pos (h n (by omega))]; rfl
    · show pD J n + _ = 0
      rw [i2, if_pos (h n (by omega))]; rfl
    · show pC J n + _ = 0
      rw [i3, if_pos (h n (by omega))]; rfl
/-- who is picked, on both sides -/
def PKR (I J : IMem) : Prop :=
  (I 137 9 = 0 ∧ I 137 8 = J 0 35 ∧ 0 ≤ J 0 35 ∧ 0 ≤ I 137 7 ∧ I 137 7 + J 0 35 ≤ 8) ∧
  (∀ k, k < 240 → (I 138 k = 0 ∧ J 13 k = 0) ∨ (I 138 k = 1 ∧ J 13 k = 1 ∧ INL J k ∧ 1 ≤ J 1 (141 + 6 * k) ∧ J 1 (141 + 6 * k) ≤ 8)) ∧
  (∀ i : Nat, (i : Int) < J 0 35 → ∃ k : Nat, INL J k ∧ J 15 i = k ∧ I 139 i = k ∧ I 140 i = J 1 (141 + 6 * k) ∧ J 13 k = 1) ∧
  (∀ i j : Nat, (i : Int) < J 0 35 → (j : Int) < J 0 35 → J 15 i = J 15 j → i = j) ∧
  (∀ k, k < 240 → J 13 k = 1 → ∃ i : Nat, (i : Int) < J 0 35 ∧ J 15 i = (k : Int)) ∧
  (J 1 1 = I 137 7 + sm (I 140) (J 0 35).toNat ∧ J 1 1 = I 137 7 + pS J 240) ∧
  ((I 137 10 = 0 ∧ pD J 240 = 0) ∨ (I 137 10 = 1 ∧ 0 < pD J 240)) ∧
  ((I 137 11 = 0 ∧ pC J 240 = 0) ∨ (I 137 11 = 1 ∧ 0 < pC J 240))
theorem pk_zero {I J : IMem} (h13 : ∀ k, k < 240 → J 13 k = 0) (h35 : J 0 35 = 0) (hs : 2 ≤ J 1 1 ∧ J 1 1 ≤ 8) (hm : ∀ k, k < 240 → I 138 k = 0) (h : I 137 7 = J 1 1 ∧ I 137 8 = 0 ∧ I 137 9 = 0 ∧ I 137 10 = 0 ∧ I 137 11 = 0) : PKR I J := by
  obtain ⟨h7, h8, h9, h10, h11⟩ := h
  obtain ⟨z1, z2, z3⟩ := p_zero h13 240 (Nat.le_refl _)
  refine ⟨⟨h9, by rw [h8, h35], by rw [h35]; decide, by omega, by omega⟩, fun k hk => Or.inl ⟨hm k hk, h13 k hk⟩, fun i hi => ?_, fun i j hi => ?_, fun k hk q => ?_, ⟨?_, ?_⟩, Or.inl ⟨h10, z2⟩, Or.inl ⟨h11, z3⟩⟩
  · rw [h35] at hi; omega
  · rw [h35] at hi; omega
  · rw [h13 k hk] at q; exact absurd q (by decide)
  · rw [h35, h7]
    show J 1 1 = J 1 1 + 0
    omega
  · rw [z1, h7]; omega
/-- the picks stay, if the rows of those who stand stay -/
theorem pk_mv {I J I' J' : IMem} (h : PKR I J) (h1 : ∀ q j, (q = 137 ∧ 7 ≤ j ∧ j ≤ 11) ∨ q = 138 ∨ q = 139 ∨ q = 140 → I' q j = I q j) (h2 : ∀ q j, (q = 13 ∧ j < 240) ∨ (q = 15 ∧ j < 8) ∨ (q = 0 ∧ j = 35) ∨ (q = 1 ∧ j = 1) → J' q j = J q j) (h3 : ∀ k, INL J k → INL J' k ∧ J' 1 (141 + 6 * k) = J 1 (141 + 6 * k) ∧ J' 1 (140 + 6 * k + 3) = J 1 (140 + 6 * k + 3)) : PKR I' J' := by
  obtain ⟨⟨a1, a2, a3, a4, a5⟩, b, c, d, e, ⟨f1, f2⟩, g, k⟩ := h
  have w35 := h2 0 35 (by omega)
  have p := p_same (J := J) (J' := J') 240 (fun k hk => ⟨h2 13 k (by omega), fun q => by
    rcases b k hk with ⟨_, x⟩ | ⟨_, _, x, _⟩
    · exact absurd x q
    · exact (h3 k x).2⟩)
  refine ⟨⟨?_, ?_, ?_, ?_, ?_⟩, fun k hk => ?_, fun i hi => ?_, fun i j hi hj q => ?_, fun k hk q => ?_, ⟨?_, ?_⟩, ?_, ?_⟩
  · rw [h1 _ _ (by omega)]; exact a1
  · rw [h1 _ _ (by omega), w35]; exact a2
  · rw [w35]; exact a3
  · rw [h1 _ _ (by omega)]; exact a4
  · rw [h1 _ _ (by omega), w35]; exact a5
  · rw [h1 _ _ (by omega), h2 13 k (by omega)]
    rcases b k hk with x | ⟨x1, x2, x3, x4, x5⟩
    · exact Or.inl x
    · obtain ⟨y1, y2, _⟩ := h3 k x3
      exact Or.inr ⟨x1, x2, y1, by rw [y2]; exact x4, by rw [y2]; exact x5⟩
  · rw [w35] at hi
    obtain ⟨k, k1, k2, k3, k4, k5⟩ := c i hi
    obtain ⟨y1, y2, _⟩ := h3 k k1
    refine ⟨k, y1, ?_, ?_, ?_, ?_⟩
    · rw [h2 15 i (by omega)]; exact k2
    · rw [h1 _ _ (by omega)]; exact k3
    · rw [h1 _ _ (by omega), y2]; exact k4
    · rw [h2 13 k (by have := k1.1; omega)]; exact k5
  · rw [w35] at hi hj
    rw [h2 15 i (by omega), h2 15 j (by omega)] at q
    exact d i j hi hj q
  · rw [h2 13 k (by omega)] at q
    obtain ⟨i, i1, i2⟩ := e k hk q
    exact ⟨i, by rw [w35]; exact i1, by rw [h2 15 i (by omega)]; exact i2⟩
  · rw [h2 1 1 (by omega), h1 137 7 (by omega), w35, sm_eq (c := I 140) _ (fun i _ => h1 _ _ (by omega))]; exact f1
  · rw [h2 1 1 (by omega), h1 137 7 (by omega), p.1]; exact f2
  · rw [h1 137 10 (by omega), p.2.1]; exact g
  · rw [h1 137 11 (by omega), p.2.2]; exact k
/-- what stays in the dream's draft and in the reader's law -/
def HZ (I : IMem) : Prop := I 96 4 = 0 ∧ I 96 5 = 0 ∧ I 151 0 = 0
/-- the relation for every call -/
def RJ (I J : IMem) : Prop := HX 1 I J ∧ I 1 11 = -1 ∧ I 0 8 = J 0 3 ∧ (J 0 3 ≠ 0 → HR 41 2 I J ∧ I 41 11 = -1) ∧ HZ I ∧ PKR I J ∧ RTp I J ∧ RFt I J
theorem rj_mv {I J I' J' : IMem} (h : RJ I J) (hX : HX 1 I' J') (hz : I' 1 11 = I 1 11) (h1 : ∀ q j, (q = 0 ∧ j = 8) ∨ (41 ≤ q ∧ q ≤ 80) ∨ (q = 96 ∧ (j = 4 ∨ j = 5)) ∨ (q = 151 ∧ j = 0) → I' q j = I q j) (h2 : ∀ q j, (q = 0 ∧ j = 3) ∨ q = 2 → J' q j = J q j) (hP : PKR I' J') (hT : RTp I' J') (hF : RFt I' J') : RJ I' J' := by
  obtain ⟨_, a, b, c, d, _, _, _⟩ := h
  refine ⟨hX, hz.trans a, ?_, fun q => ?_, ⟨?_, ?_, ?_⟩, hP, hT, hF⟩
  · rw [h1 _ _ (by omega), h2 _ _ (by omega)]; exact b
  · rw [h2 _ _ (by omega)] at q
    obtain ⟨c1, c2⟩ := c q
    exact ⟨hr_mv c1 (fun d j hd => h1 _ _ (by unfold CH at hd; omega)) (fun j _ => h2 _ _ (by omega)), by rw [h1 _ _ (by omega)]; exact c2⟩
  · rw [h1 _ _ (by omega)]; exact d.1
  · rw [h1 _ _ (by omega)]; exact d.2.1
  · rw [h1 _ _ (by omega)]; exact d.2.2
/-- what a call that leaves the hill, the picks, the text alone may touch -/
theorem rj_same {I J I' J' : IMem} (h : RJ I J) (h1 : ∀ q j, (q = 0 ∧ j = 8) ∨ (1 ≤ q ∧ q ≤ 80 ∧ q ≠ 14 ∧ ¬ (16 ≤ q ∧ q ≤ 40 ∧ q % 5 = 0)) ∨ (q = 96 ∧ (j = 4 ∨ j = 5)) ∨ (137 ≤ q ∧ q ≤ 140) ∨ q = 144 ∨ q = 145 ∨ (q = 151 ∧ j = 0) → I' q j = I q j) (h2 : ∀ q j, (q = 0 ∧ (j = 3 ∨ j = 12 ∨ j = 19 ∨ j = 21 ∨ j = 22 ∨ j = 35)) ∨ q = 1 ∨ q = 2 ∨ q = 6 ∨ q = 13 ∨ q = 15 → J' q j = J q j) : RJ I' J' := by
  have h' := h
  obtain ⟨⟨hR, hz, hA⟩, a, b, c, d, e, ⟨L, t1, t2, t3, t4⟩, f⟩ := h'
  refine rj_mv h ⟨hr_mv hR (fun d j q => h1 _ _ (by unfold CH at q; omega)) (fun j _ => h2 _ _ (by omega)), ?_, ?_, ?_⟩ (h1 _ _ (by omega)) (fun q j q => h1 _ _ (by omega)) (fun q j q => h2 _ _ (by omega)) (pk_mv e (fun q j q => h1 _ _ (by omega)) (fun q j q => h2 _ _ (by omega)) (fun k hk => ⟨⟨hk.1, by rw [h2 1 _ (by omega)]; exact hk.2⟩, h2 1 _ (by omega), h2 1 _ (by omega)⟩)) ⟨L, t1, ?_, ?_, fun j hj => ?_⟩ ⟨?_, ?_⟩
  · rw [h1 _ _ (by omega), h2 _ _ (by omega)]; exact hz
  · rw [h1 _ _ (by omega)]; exact hA.1
  · rw [h1 _ _ (by omega)]; exact hA.2
  · rw [h1 _ _ (by omega)]; exact t2
  · rw [h2 _ _ (by omega)]; exact t3
  · rw [h1 _ _ (by omega), h2 _ _ (by omega)]; exact t4 j hj
  · rw [h1 _ _ (by omega), h2 _ _ (by omega)]; exact f.1
  · rw [h1 _ _ (by omega), h2 _ _ (by omega)]; exact f.2
