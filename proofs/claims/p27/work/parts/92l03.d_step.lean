/-! one step of the class's reckon, one of the reference's comesTo -/
section
variable {Q : Int → IMem → Prop} {fu ol o3 m : Nat} {p2 : Int} {k : Int → IMem → Res}
theorem nat1 (n : Nat) : ((n : Int) + 1).toNat = n + 1 := by omega
/-- what reckon does with a step below 0 -/
theorem rk_neg (x : Int) (n i : Nat) (I : IMem) (hx : -9 ≤ x ∧ x ≤ -1) (h1 : I (ol + 1) i = x) (hi : (i : Int) < p2) (hi2 : i < 400) (hn : n + 1 < 64) (v : Int)
    (hv : v = if x = -9 then wor (I (ol + 4) n) (I (ol + 4) (n + 1)) else if x = -8 then wand (I (ol + 4) n) (I (ol + 4) (n + 1)) else if x = -7 then (if I (ol + 4) (n + 1) < I (ol + 4) n then 1 else 0) else if x = -6 then (if I (ol + 4) n = I (ol + 4) (n + 1) then 1 else 0) else if x = -5 then (if I (ol + 4) n < I (ol + 4) (n + 1) then 1 else 0) else if x = -4 then (if I (ol + 4) (n + 1) = 0 then 0 else wdiv (I (ol + 4) n) (I (ol + 4) (n + 1))) else if x = -3 then wr32 (I (ol + 4) n * I (ol + 4) (n + 1)) else if x = -2 then wr32 (I (ol + 4) n - I (ol + 4) (n + 1)) else wr32 (I (ol + 4) n + I (ol + 4) (n + 1)))
    (hk : par (f_W_reckon_6 fu k ol p2 o3 16 m (n : Int) ((i + 1 : Nat) : Int) (up I (ol + 4) n v)) Q) : par (f_W_reckon_6 fu k ol p2 o3 16 (m + 1) ((n : Int) + 1) (i : Int) I) Q := by
  show par (fb_W_reckon_6 fu k ol p2 o3 16 (f_W_reckon_6 fu k ol p2 o3 16 m) ((n : Int) + 1) (i : Int) I) Q
  unfold fb_W_reckon_6
  rw [if_neg (by omega), if_pos hi, if_pos (by omega)]
  refine par_zg (fun _ => ?_)
  simp only [zl_e, zj_e]
  rw [show ((i : Nat) : Int).toNat = i from rfl, h1, if_pos (by omega), if_neg (by omega)]
  have e1 : wr32 ((n : Int) + 1 + -1) = n := by rw [wr32_i2 (by omega) (by omega)]; omega
  have e2 : wr32 ((n : Int) + 1) = (n : Int) + 1 := wr32_i2 (by omega) (by omega)
  have e3 : wr32 (x - 10000) = x - 10000 := wr32_i2 (by omega) (by omega)
  have e4 : wr32 ((i : Int) + 1) = ((i + 1 : Nat) : Int) := by rw [wr32_i2 (by omega) (by omega)]; rfl
  rw [e1, e2, e3, e4, if_neg (by omega), if_pos (by omega), if_pos (by omega), nat1 n, show ((n : Nat) : Int).toNat = n from rfl]
  refine par_zg (fun _ => par_zg (fun _ => ?_))
  rw [if_neg (by omega)]
  by_cases c9 : x = -9
  · rw [if_pos c9]
    rw [if_pos c9] at hv
    rw [hv] at hk
    exact par_zg (fun _ => par_zw hk)
  rw [if_neg c9]
  by_cases c8 : x = -8
  · rw [if_pos c8]
    rw [if_neg c9, if_pos c8] at hv
    rw [hv] at hk
    exact par_zg (fun _ => par_zw hk)
  rw [if_neg c8]
  by_cases c7 : x = -7
  · rw [if_pos c7]
    rw [if_neg c9, if_neg c8, if_pos c7] at hv
    refine par_ite (fun q => ?_) (fun q => ?_)
    · rw [if_pos q] at hv; rw [hv] at hk; exact par_zg (fun _ => par_zw hk)
    · rw [if_neg q] at hv; rw [hv] at hk; exact par_zg (fun _ => par_zw hk)
  rw [if_neg c7]
  by_cases c6 : x = -6
  · rw [if_pos c6]
    rw [if_neg c9, if_neg c8, if_neg c7, if_pos c6] at hv
    refine par_ite (fun q => ?_) (fun q => ?_)
    · rw [if_pos q] at hv; rw [hv] at hk; exact par_zg (fun _ => par_zw hk)
    · rw [if_neg q] at hv; rw [hv] at hk; exact par_zg (fun _ => par_zw hk)
  rw [if_neg c6]
  by_cases c5 : x = -5
  · rw [if_pos c5]
    rw [if_neg c9, if_neg c8, if_neg c7, if_neg c6, if_pos c5] at hv
    refine par_ite (fun q => ?_) (fun q => ?_)
    · rw [if_pos q] at hv; rw [hv] at hk; exact par_zg (fun _ => par_zw hk)
    · rw [if_neg q] at hv; rw [hv] at hk; exact par_zg (fun _ => par_zw hk)
  rw [if_neg c5]
  by_cases c4 : x = -4
  · rw [if_pos c4]
    rw [if_neg c9, if_neg c8, if_neg c7, if_neg c6, if_neg c5, if_pos c4] at hv
    refine par_ite (fun q => ?_) (fun q => ?_)
    · rw [if_pos q] at hv; rw [hv] at hk; exact par_zg (fun _ => par_zw hk)
    · rw [if_neg q] at hv; rw [hv] at hk; exact par_zg (fun _ => par_zg (fun _ => par_zw hk))
  rw [if_neg c4]
  by_cases c3 : x = -3
  · rw [if_pos c3]
    rw [if_neg c9, if_neg c8, if_neg c7, if_neg c6, if_neg c5, if_neg c4, if_pos c3] at hv
    rw [hv] at hk
    exact par_zg (fun _ => par_zw hk)
  rw [if_neg c3]
  by_cases c2 : x = -2
  · rw [if_pos c2]
    rw [if_neg c9, if_neg c8, if_neg c7, if_neg c6, if_neg c5, if_neg c4, if_neg c3, if_pos c2] at hv
    rw [hv] at hk
    exact par_zg (fun _ => par_zw hk)
  rw [if_neg c2]
  by_cases c1 : x = -1
  · rw [if_pos c1]
    rw [if_neg c9, if_neg c8, if_neg c7, if_neg c6, if_neg c5, if_neg c4, if_neg c3, if_neg c2] at hv
    rw [hv] at hk
    exact par_zg (fun _ => par_zw hk)
  rw [if_neg c1]
  exact absurd hx (by omega)
theorem rk_not (n i : Nat) (I : IMem) (h1 : I (ol + 1) i = -10) (hi : (i : Int) < p2) (hi2 : i < 400) (hn : n + 1 < 64)
    (hk : par (f_W_reckon_6 fu k ol p2 o3 16 m (n : Int) ((i + 1 : Nat) : Int) (up I (ol + 4) n (wr32 (1 - I (ol + 4) n)))) Q) : par (f_W_reckon_6 fu k ol p2 o3 16 (m + 1) (n : Int) (i : Int) I) Q := by
  show par (fb_W_reckon_6 fu k ol p2 o3 16 (f_W_reckon_6 fu k ol p2 o3 16 m) (n : Int) (i : Int) I) Q
  unfold fb_W_reckon_6
  rw [if_neg (by omega), if_pos hi, if_pos (by omega)]
  refine par_zg (fun _ => ?_)
  simp only [zl_e, zj_e]
  rw [show ((i : Nat) : Int).toNat = i from rfl, h1, if_pos (by decide), if_pos rfl]
  have e1 : wr32 ((n : Int) + 0) = n := by rw [wr32_i2 (by omega) (by omega)]; omega
  have e2 : wr32 ((n : Int) + 1) = (n : Int) + 1 := wr32_i2 (by omega) (by omega)
  have e3 : wr32 (-10 - 10000) = -10010 := by decide
  have e4 : wr32 ((i : Int) + 1) = ((i + 1 : Nat) : Int) := by rw [wr32_i2 (by omega) (by omega)]; rfl
  rw [e1, e2, e3, e4, if_neg (by omega), if_pos (by omega), if_pos (by decide), show ((n : Nat) : Int).toNat = n from rfl]
  refine par_zg (fun _ => par_zg (fun _ => ?_))
  rw [if_pos rfl]
  exact par_zg (fun _ => par_zw hk)
/-- a number or a fact: n values on the pile -/
theorem rk_push (x v : Int) (n i : Nat) (I : IMem) (h1 : I (ol + 1) i = x) (hx : (0 ≤ x ∧ x < 10000 ∧ v = x) ∨ (10000 ≤ x ∧ x < 10016 ∧ v = I o3 (x - 10000).toNat)) (hi : (i : Int) < p2) (hi2 : i < 400) (hn : n + 1 < 64)
    (hk : par (f_W_reckon_6 fu k ol p2 o3 16 m (n : Int) ((i + 1 : Nat) : Int) (up I (ol + 4) n v)) Q) : par (f_W_reckon_6 fu k ol p2 o3 16 (m + 1) ((n : Int) - 1) (i : Int) I) Q := by
  show par (fb_W_reckon_6 fu k ol p2 o3 16 (f_W_reckon_6 fu k ol p2 o3 16 m) ((n : Int) - 1) (i : Int) I) Q
  unfold fb_W_reckon_6
  rw [if_neg (by omega), if_pos hi, if_pos (by omega)]
  refine par_zg (fun _ => ?_)
  simp only [zl_e, zj_e]
  rw [show ((i : Nat) : Int).toNat = i from rfl, h1, if_neg (by omega)]
  have e1 : wr32 ((n : Int) - 1 + 1) = n := by rw [wr32_i2 (by omega) (by omega)]; omega
  have e2 : wr32 ((n : Int) + 1) = (n : Int) + 1 := wr32_i2 (by omega) (by omega)
  have e3 : wr32 (x - 10000) = x - 10000 := wr32_i2 (by omega) (by omega)
  have e4 : wr32 ((i : Int) + 1) = ((i + 1 : Nat) : Int) := by rw [wr32_i2 (by omega) (by omega)]; rfl
  rw [e1, e2, e3, e4, if_neg (by omega), if_pos (by omega), if_pos (by omega), show ((n : Nat) : Int).toNat = n from rfl]
  refine par_zg (fun _ => par_zg (fun _ => ?_))
  rw [if_neg (by omega), if_neg (by omega), if_neg (by omega), if_neg (by omega), if_neg (by omega), if_neg (by omega), if_neg (by omega), if_neg (by omega), if_neg (by omega), if_neg (by omega)]
  rcases hx with ⟨x1, x2, x3⟩ | ⟨x1, x2, x3⟩
  · rw [if_pos (by omega)]
    rw [x3] at hk
    exact par_zg (fun _ => par_zw hk)
  · rw [if_neg (by omega)]
    rw [x3] at hk
    exact par_zg (fun _ => par_zg (fun _ => par_zw hk))
end
theorem ev_both (fu : Nat) (x a c : Int) (I : IMem) (hx : x = 12 ∨ x = 13 ∨ x = 14 ∨ x = 16 ∨ x = 17 ∨ x = 18 ∨ x = 20 ∨ x = 21) : f_X_both fu x a c I = zr (op2 x a c) I := by
  unfold f_X_both op2
  rcases hx with rfl | rfl | rfl | rfl | rfl | rfl | rfl | rfl <;> simp only [Int.reduceEq, if_false, if_true] <;> first | rfl | (split <;> rfl)
section
variable {Q : Int → IMem → Prop} {fu m : Nat} {p3 : Int}
theorem cm_ix (k i : Nat) (hk : k < 5) (hi : i < 410) : wr32 (wr32 (1910 + wr32 (820 * (k : Int))) + wr32 (2 * (i : Int))) = ((1910 + 820 * k + 2 * i : Nat) : Int) := by
  rw [wr32_i2 (x := 820 * (k : Int)) (by omega) (by omega), wr32_i2 (x := 2 * (i : Int)) (by omega) (by omega), wr32_i2 (x := 1910 + 820 * (k : Int)) (by omega) (by omega), wr32_i2 (by omega) (by omega)]
  omega
theorem cm_ix2 (k i : Nat) (hk : k < 5) (hi : i < 410) : wr32 (((1910 + 820 * k + 2 * i : Nat) : Int) + 1) = ((1910 + 820 * k + 2 * i + 1 : Nat) : Int) := by
  rw [wr32_i2 (by omega) (by omega)]; rfl
/-- a step of comesTo: what its pile is behind it -/
theorem cm_step (k i n : Nat) (x : Int × Int) (J : IMem) (hk : k < 5) (hi : i < 400) (hp : (i : Int) < p3) (h1 : J 1 (1910 + 820 * k + 2 * i) = x.1) (h2 : J 1 (1910 + 820 * k + 2 * i + 1) = x.2) {st : List Int} (hn : st.length = n) (hn2 : n < 410) (hs : SK (J 7) st)
    (hx : (x.1 = 0 ∨ (1 ≤ x.1 ∧ x.1 < 12)) ∨ (x.1 = 15 ∧ ∃ a u, st = a :: u) ∨ (x.1 = 19 ∧ ∃ a u, st = a :: u) ∨ ((x.1 = 12 ∨ x.1 = 13 ∨ x.1 = 14 ∨ x.1 = 16 ∨ x.1 = 17 ∨ x.1 = 18 ∨ x.1 = 20 ∨ x.1 = 21) ∧ ∃ c a u, st = c :: a :: u))
    (hc : ∀ J' : IMem, (∀ q j, q ≠ 7 → J' q j = J q j) → SK (J' 7) (ev1 (J 8) x st) → par (f_X_comesTo_6 fu 0 (k : Int) p3 m ((ev1 (J 8) x st).length : Int) ((i + 1 : Nat) : Int) J') Q) : par (f_X_comesTo_6 fu 0 (k : Int) p3 (m + 1) (n : Int) (i : Int) J) Q := by
  show par (fb_X_comesTo_6 fu 0 (k : Int) p3 (f_X_comesTo_6 fu 0 (k : Int) p3 m) (n : Int) (i : Int) J) Q
  unfold fb_X_comesTo_6
  rw [if_pos hp]
  simp only [zl_e, zj_e]
  rw [cm_ix k i hk (by omega), cm_ix2 k i hk (by omega)]
  refine par_zg (fun _ => par_zg (fun _ => ?_))
  rw [show ((1910 + 820 * k + 2 * i : Nat) : Int).toNat = 1910 + 820 * k + 2 * i from rfl, show ((1910 + 820 * k + 2 * i + 1 : Nat) : Int).toNat = 1910 + 820 * k + 2 * i + 1 from rfl]
  show par (if J 1 (1910 + 820 * k + 2 * i) < 12 then _ else _) _
  rw [h1, h2]
  have e4 : wr32 ((i : Int) + 1) = ((i + 1 : Nat) : Int) := by rw [wr32_i2 (by omega) (by omega)]; rfl
  rw [e4]
  have fr : ∀ (v : Int) (j : Nat) (q i2 : Nat), q ≠ 7 → up J 7 j v q i2 = J q i2 := fun v j q i2 hq => up_o hq i2
  rcases hx with hx | ⟨hx, a, u, rfl⟩ | ⟨hx, a, u, rfl⟩ | ⟨hx, c, a, u, rfl⟩
  · rw [if_pos (by omega)]
    have e1 : wr32 ((n : Int) + 1) = ((n + 1 : Nat) : Int) := by rw [wr32_i2 (by omega) (by omega)]; rfl
    rw [e1]
    have key : ∀ v, v :: st = ev1 (J 8) x st → par (f_X_comesTo_6 fu 0 (k : Int) p3 m ((n + 1 : Nat) : Int) ((i + 1 : Nat) : Int) (up J 7 n v)) Q := by
      intro v hv
      have g := hc (up J 7 n v) (fr v n) (by rw [← hv]; exact ⟨by rw [hn]; exact if_pos ⟨rfl, rfl⟩, sk_up st n (Nat.le_of_eq hn) (fun j hj => up_j (Nat.ne_of_lt hj) _) hs⟩)
      rw [← hv] at g
      simp only [List.length_cons, hn] at g
      exact g
    rcases hx with hx | hx
    · rw [if_pos hx]
      exact par_zg (fun _ => par_zw (key x.2 (by unfold ev1; rw [if_pos hx])))
    · rw [if_neg (by omega)]
      exact par_zg (fun _ => par_zg (fun _ => par_zw (key (J 8 x.1.toNat) (by unfold ev1; rw [if_neg (by omega), if_pos (by omega)]))))
  · rw [if_neg (by omega), if_pos hx]
    simp only [List.length_cons] at hn
    have e1 : wr32 ((n : Int) - 1) = ((u.length : Nat) : Int) := by rw [wr32_i2 (by omega) (by omega)]; omega
    rw [e1]
    have ev : ev1 (J 8) x (a :: u) = wdiv a x.2 :: u := by unfold ev1; rw [if_neg (by omega), if_neg (by omega), if_pos hx]
    refine par_zg (fun _ => par_zg (fun _ => par_zg (fun _ => par_zw ?_)))
    show par (f_X_comesTo_6 fu 0 (k : Int) p3 m (n : Int) ((i + 1 : Nat) : Int) (up J 7 u.length (wdiv (J 7 u.length) x.2))) Q
    have g := hc (up J 7 u.length (wdiv (J 7 u.length) x.2)) (fr _ _) (by rw [ev]; exact ⟨by rw [← hs.1]; exact if_pos ⟨rfl, rfl⟩, sk_up u u.length (Nat.le_refl _) (fun j hj => up_j (Nat.ne_of_lt hj) _) hs.2⟩)
    rw [ev] at g
    simp only [List.length_cons, hn] at g
    exact g
  · rw [if_neg (by omega), if_neg (by omega), if_pos hx]
    simp only [List.length_cons] at hn
    have e1 : wr32 ((n : Int) - 1) = ((u.length : Nat) : Int) := by rw [wr32_i2 (by omega) (by omega)]; omega
    rw [e1]
    have ev : ev1 (J 8) x (a :: u) = wr32 (1 - a) :: u := by unfold ev1; rw [if_neg (by omega), if_neg (by omega), if_neg (by omega), if_pos hx]
    refine par_zg (fun _ => par_zg (fun _ => par_zw ?_))
    show par (f_X_comesTo_6 fu 0 (k : Int) p3 m (n : Int) ((i + 1 : Nat) : Int) (up J 7 u.length (wr32 (1 - J 7 u.length)))) Q
    have g := hc (up J 7 u.length (wr32 (1 - J 7 u.length))) (fr _ _) (by rw [ev]; exact ⟨by rw [← hs.1]; exact if_pos ⟨rfl, rfl⟩, sk_up u u.length (Nat.le_refl _) (fun j hj => up_j (Nat.ne_of_lt hj) _) hs.2⟩)
    rw [ev] at g
    simp only [List.length_cons, hn] at g
    exact g
  · rw [if_neg (by omega), if_neg (by omega), if_neg (by omega)]
    simp only [List.length_cons] at hn
    have e1 : wr32 ((n : Int) + -1) = ((u.length + 1 : Nat) : Int) := by rw [wr32_i2 (by omega) (by omega)]; omega
    rw [e1]
    have e2 : wr32 (((u.length + 1 : Nat) : Int) - 1) = ((u.length : Nat) : Int) := by rw [wr32_i2 (by omega) (by omega)]; omega
    rw [e2]
    have ev : ev1 (J 8) x (c :: a :: u) = op2 x.1 a c :: u := by unfold ev1; rw [if_neg (by omega), if_neg (by omega), if_neg (by omega), if_neg (by omega)]
    refine par_zg (fun _ => par_zg (fun _ => ?_))
    rw [ev_both fu x.1 _ _ J hx, zb_zr]
    refine par_zg (fun _ => par_zw ?_)
    show par (f_X_comesTo_6 fu 0 (k : Int) p3 m ((u.length + 1 : Nat) : Int) ((i + 1 : Nat) : Int) (up J 7 u.length (op2 x.1 (J 7 u.length) (J 7 (u.length + 1))))) Q
    have s1 : J 7 (u.length + 1) = c := hs.1
    have s2 : J 7 u.length = a := hs.2.1
    rw [s1, s2]
    have g := hc (up J 7 u.length (op2 x.1 a c)) (fr _ _) (by rw [ev]; exact ⟨if_pos ⟨rfl, rfl⟩, sk_up u u.length (Nat.le_refl _) (fun j hj => up_j (Nat.ne_of_lt hj) _) hs.2.2⟩)
    rw [ev] at g
    simp only [List.length_cons] at g
    exact g
end
