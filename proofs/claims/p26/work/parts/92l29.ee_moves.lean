/-! who comes, is picked, is sent: both sides -/
section
variable {fu : Nat} {I J : IMem}
theorem xv_rows {hb : Nat} {size says sort : Int} (h : HX hb I J) : par (f_X_comes fu 0 size says sort J) (fun _ J' => ∀ k, INL J k → INL J' k ∧ ∀ f, f < 6 → J' 1 (140 + 6 * k + f) = J 1 (140 + 6 * k + f)) := by
  obtain ⟨⟨hS, hY, hP, hL, hW⟩, hz, hA⟩ := h
  obtain ⟨law, lc, lx, lo⟩ := hW 4 (by decide)
  have hcJ : ∀ l, l < 6 → J 1 (130 + l) = I (hb + 8) l := fun l hl => (hl_c hL hl).1.symm
  unfold f_X_comes
  refine par_zb (xv_lineFor hcJ lo lx) (fun y1 J1 ⟨gy, gJ⟩ => ?_)
  have rng := lf_rng (z := J 0 22) (says := says) (sort := sort) (c := I (hb + 8)) (law := law) lo.2.2.2
  rw [← gy] at rng
  obtain ⟨l, hl, rfl⟩ : ∃ l : Nat, l < 6 ∧ y1 = (l : Int) := ⟨y1.toNat, by omega, by omega⟩
  obtain ⟨_, b2, b3⟩ := hl_c hL hl
  refine par_zw' (fun J2 e2 => ?_)
  have k2 : ∀ j, j ≠ 7 → J2 1 j = J 1 j := fun j h3 => by rw [e2, if_neg (by omega)]; exact gJ 1 j (by decide) (by decide)
  have jc : J2 1 (130 + l) = J 1 (130 + l) := k2 _ (by omega)
  refine par_zb (xv_stands (fu := fu) hl (by omega)) (fun y3 J3 hy => ?_)
  have fin : ∀ k, INL J k → INL J3 k ∧ ∀ f, f < 6 → J3 1 (140 + 6 * k + f) = J 1 (140 + 6 * k + f) := by
    intro k ⟨k1, k3⟩
    rcases hy with ⟨_, _, y2f, _, _⟩ | ⟨_, y2c, y2e⟩
    · refine ⟨⟨k1, ?_⟩, fun f hf => ?_⟩
      · rw [y2f _ _ (by omega) (by omega), k2 _ (by omega)]; exact k3
      · rw [y2f _ _ (by omega) (by omega), k2 _ (by omega)]
    · rw [jc] at y2e y2c
      refine ⟨⟨k1, ?_⟩, fun f hf => ?_⟩
      · rw [y2e]
        by_cases q : k / 40 = l
        · rw [if_pos ⟨rfl, by omega⟩]
          rw [q] at k3
          omega
        · rw [if_neg (by omega), if_neg (by omega), k2 _ (by omega)]; exact k3
      · have nk : k ≠ 40 * l + (J 1 (130 + l)).toNat := by
          intro q
          have q2 : k / 40 = l := by omega
          rw [q2] at k3
          omega
        rw [y2e, if_neg (by omega), if_neg (by omega), k2 _ (by omega)]
  exact par_ite (fun _ => par_zr fin) (fun _ => par_zr fin)
theorem come3 {size says sort : Int} (h : RJ I J) (hg : RG J) : pq (f_H_enter fu (0 + 1) size says sort I) (f_X_comes fu 0 size says sort J) EQJ := by
  intro x I' y J' e1 e2
  obtain ⟨exy, hX⟩ := enter2 h.1 hg x I' y J' e1 e2
  have rows := xv_rows (fu := fu) h.1 y J' e2
  have fI : ∀ q j, ¬ (q = 1 ∨ q = 8 ∨ q = 9 ∨ q = 11 ∨ q = 14 ∨ q = 15 ∨ q = 40) → I' q j = I q j := fun q j hq => congrFun (fr_H_enter (fun q => q = 1 ∨ q = 8 ∨ q = 9 ∨ q = 11 ∨ q = 14 ∨ q = 15 ∨ q = 40) fu (0 + 1) size says sort I (by omega) (by omega) (by omega) (by omega) (by omega) (by omega) (by omega) e1 q hq) j
  have fJ : ∀ q j, ¬ (q = 1 ∨ q = 7 ∨ q = 8 ∨ (q = 0 ∧ j = 24)) → J' q j = J q j := fc_X_comes (fun q j => q = 1 ∨ q = 7 ∨ q = 8 ∨ (q = 0 ∧ j = 24)) fu 0 size says sort J (fun _ => by omega) (fun _ => by omega) (by omega) (by omega) (by omega) (by omega) (by omega) e2
  have e11 : J' 1 1 = J 1 1 := by
    have a := hX.1.1.1 0 (by decide)
    have b := h.1.1.1.1 0 (by decide)
    have c : I' 2 0 = I 2 0 := fI 2 0 (by omega)
    have a' : I' 2 0 = J' 1 1 := a
    have b' : I 2 0 = J 1 1 := b
    rw [← a', ← b', c]
  have h' := h
  obtain ⟨_, a2, _, _, _, e, ⟨L, t1, t2, t3, t4⟩, f⟩ := h'
  refine ⟨?_, exy⟩
  have z11 : I' 1 11 = I 1 11 := by
    rw [hX.2.1, fJ 0 22 (by omega)]
    exact h.1.2.1.symm
  refine rj_mv h hX z11 (fun q j hq => fI _ _ (by omega)) (fun q j hq => fJ _ _ (by omega)) (pk_mv e (fun q j hq => fI _ _ (by omega)) (fun q j hq => ?_) (fun k hk => ?_)) ⟨L, t1, ?_, ?_, fun i hi => ?_⟩ ⟨?_, ?_⟩
  · by_cases q1 : q = 1
    · rw [q1, show j = 1 by omega]; exact e11
    · exact fJ _ _ (by omega)
  · obtain ⟨r1, r2⟩ := rows k hk
    exact ⟨r1, (congrArg (J' 1) (show 141 + 6 * k = 140 + 6 * k + 1 by omega)).trans ((r2 1 (by decide)).trans (congrArg (J 1) (show 140 + 6 * k + 1 = 141 + 6 * k by omega))), r2 3 (by decide)⟩
  · rw [fI _ _ (by omega)]; exact t2
  · rw [fJ _ _ (by omega)]; exact t3
  · rw [fI _ _ (by omega), fJ _ _ (by omega)]; exact t4 i hi
  · rw [fI _ _ (by omega), fJ _ _ (by omega)]; exact f.1
  · rw [fI _ _ (by omega), fJ _ _ (by omega)]; exact f.2
theorem pj_come (a b c : Int) (h : RJ I J) (hg : RG J) : pq (f_S_come fu 0 a b c I) (f_X_come fu 0 a b c J) EQJ := by
  unfold f_S_come f_X_come
  rw [ev_canBe, ev_isGroup, zb_zr, zb_zr]
  by_cases h1 : 1 ≤ a ∧ a ≤ 8 ∧ 1 ≤ b ∧ b ≤ a ∧ 0 ≤ c ∧ c ≤ 3
  · rw [if_pos h1, if_neg ne10, if_neg ne10]
    exact pq_b (come3 h hg) (fun x I1 y J1 _ _ g => pq_end g)
  · rw [if_neg h1, if_pos eq00, if_pos eq00]
    exact pq_end ⟨h, rfl⟩
/-! picking -/
theorem p_mark {J J' : IMem} {k : Nat} (h0 : J 13 k = 0) (h1 : ∀ i, J' 13 i = if i = k then 1 else J 13 i) (h2 : ∀ j, J' 1 j = J 1 j) : ∀ n : Nat, pS J' n = pS J n + (if k < n then J 1 (141 + 6 * k) else 0) ∧ pD J' n = pD J n + (if k < n then (if J 1 (140 + 6 * k + 3) = 2 then 1 else 0) else 0) ∧ pC J' n = pC J n + (if k < n then (if J 1 (140 + 6 * k + 3) = 1 then 0 else 1) else 0) := by
  intro n
  induction n with
  | zero =>
    rw [if_neg (show ¬ k < 0 by omega), if_neg (show ¬ k < 0 by omega), if_neg (show ¬ k < 0 by omega)]
    exact ⟨rfl, rfl, rfl⟩
  | succ n ih =>
    obtain ⟨i1, i2, i3⟩ := ih
    have s1 : pS J' (n + 1) = pS J' n + (if J' 13 n = 0 then 0 else J' 1 (141 + 6 * n)) := rfl
    have s2 : pD J' (n + 1) = pD J' n + (if J' 13 n = 0 then 0 else if J' 1 (140 + 6 * n + 3) = 2 then 1 else 0) := rfl
    have s3 : pC J' (n + 1) = pC J' n + (if J' 13 n = 0 then 0 else if J' 1 (140 + 6 * n + 3) = 1 then 0 else 1) := rfl
    have t1 : pS J (n + 1) = pS J n + (if J 13 n = 0 then 0 else J 1 (141 + 6 * n)) := rfl
    have t2 : pD J (n + 1) = pD J n + (if J 13 n = 0 then 0 else if J 1 (140 + 6 * n + 3) = 2 then 1 else 0) := rfl
    have t3 : pC J (n + 1) = pC J n + (if J 13 n = 0 then 0 else if J 1 (140 + 6 * n + 3) = 1 then 0 else 1) := rfl
    rw [s1, s2, s3, t1, t2, t3, i1, i2, i3, h1, h2, h2]
    by_cases q : n = k
    · subst q
      rw [if_pos rfl, if_neg ne10, if_neg ne10, if_neg ne10, h0, if_pos eq00, if_pos eq00, if_pos eq00, if_neg (show ¬ n < n by omega), if_neg (show ¬ n < n by omega), if_neg (show ¬ n < n by omega), if_pos (show n < n + 1 by omega), if_pos (show n < n + 1 by omega), if_pos (show n < n + 1 by omega)]
      refine ⟨?_, ?_, ?_⟩ <;> omega
    · rw [if_neg q]
      by_cases q2 : k < n
      · rw [if_pos q2, if_pos q2, if_pos q2, if_pos (show k < n + 1 by omega), if_pos (show k < n + 1 by omega), if_pos (show k < n + 1 by omega)]
        refine ⟨?_, ?_, ?_⟩ <;> omega
      · rw [if_neg q2, if_neg q2, if_neg q2, if_neg (show ¬ k < n + 1 by omega), if_neg (show ¬ k < n + 1 by omega), if_neg (show ¬ k < n + 1 by omega)]
        refine ⟨?_, ?_, ?_⟩ <;> omega
theorem p_bnd {J : IMem} (hb : ∀ k, k < 240 → J 13 k ≠ 0 → 1 ≤ J 1 (141 + 6 * k) ∧ J 1 (141 + 6 * k) ≤ 8) : ∀ n : Nat, n ≤ 240 → (0 ≤ pS J n ∧ pS J n ≤ 8 * (n : Int)) ∧ (0 ≤ pD J n ∧ pD J n ≤ (n : Int)) ∧ (0 ≤ pC J n ∧ pC J n ≤ (n : Int)) := by
  intro n
  induction n with
  | zero => intro _; exact ⟨⟨Int.le_refl _, Int.le_refl _⟩, ⟨Int.le_refl _, Int.le_refl _⟩, ⟨Int.le_refl _, Int.le_refl _⟩⟩
  | succ n ih =>
    intro hn
    obtain ⟨⟨i1, i2⟩, ⟨i3, i4⟩, i5, i6⟩ := ih (by omega)
    have t1 : pS J (n + 1) = pS J n + (if J 13 n = 0 then 0 else J 1 (141 + 6 * n)) := rfl
    have t2 : pD J (n + 1) = pD J n + (if J 13 n = 0 then 0 else if J 1 (140 + 6 * n + 3) = 2 then 1 else 0) := rfl
    have t3 : pC J (n + 1) = pC J n + (if J 13 n = 0 then 0 else if J 1 (140 + 6 * n + 3) = 1 then 0 else 1) := rfl
    rw [t1, t2, t3]
    by_cases q : J 13 n = 0
    · rw [if_pos q, if_pos q, if_pos q]; refine ⟨⟨?_, ?_⟩, ⟨?_, ?_⟩, ?_, ?_⟩ <;> omega
    · obtain ⟨z1, z2⟩ := hb n (by omega) q
      rw [if_neg q, if_neg q, if_neg q]
      by_cases q2 : J 1 (140 + 6 * n + 3) = 2
      · rw [if_pos q2, if_neg (show ¬ J 1 (140 + 6 * n + 3) = 1 by omega)]
        refine ⟨⟨?_, ?_⟩, ⟨?_, ?_⟩, ?_, ?_⟩ <;> omega
      · rw [if_neg q2]
        by_cases q3 : J 1 (140 + 6 * n + 3) = 1
        · rw [if_pos q3]; refine ⟨⟨?_, ?_⟩, ⟨?_, ?_⟩, ?_, ?_⟩ <;> omega
        · rw [if_neg q3]; refine ⟨⟨?_, ?_⟩, ⟨?_, ?_⟩, ?_, ?_⟩ <;> omega
theorem xv_pick74 {Q : Int → IMem → Prop} (kk : Int → Int → Int → IMem → Res) (p1 p2 : Int) (c : Int) (hc : 0 ≤ c ∧ c ≤ 8) (hb : ∀ k, k < 240 → J 13 k ≠ 0 → 1 ≤ J 1 (141 + 6 * k) ∧ J 1 (141 + 6 * k) ≤ 8) (hend : par (kk (c - pS J 240) (pD J 240) (pC J 240) J) Q) : ∀ (m n : Nat), n ≤ 240 → par (f_X_pick_74 fu kk 0 p1 p2 m (c - pS J n) (pD J n) (pC J n) (n : Int) J) Q := by
  intro m
  induction m with
  | zero => intro _ _; exact par_none
  | succ m ih =>
    intro n hn
    show par (fb_X_pick_74 fu kk 0 p1 p2 (f_X_pick_74 fu kk 0 p1 p2 m) (c - pS J n) (pD J n) (pC J n) (n : Int) J) _
    unfold fb_X_pick_74
    by_cases q : n < 240
    · rw [if_pos (show (n : Int) < 240 by omega)]
      refine par_zg (fun _ => ?_)
      simp only [zl_e, zj_e]
      obtain ⟨⟨b1, b2⟩, ⟨b3, b4⟩, b5, b6⟩ := p_bnd hb n hn
      have t1 : pS J (n + 1) = pS J n + (if J 13 n = 0 then 0 else J 1 (141 + 6 * n)) := rfl
      have t2 : pD J (n + 1) = pD J n + (if J 13 n = 0 then 0 else if J 1 (140 + 6 * n + 3) = 2 then 1 else 0) := rfl
      have t3 : pC J (n + 1) = pC J n + (if J 13 n = 0 then 0 else if J 1 (140 + 6 * n + 3) = 1 then 0 else 1) := rfl
      have i1 := ih (n + 1) q
      rw [w_nx n (by omega), show J (0 + 13) ((n : Nat) : Int).toNat = J 13 n from rfl]
      by_cases z : J 13 n = 0
      · rw [if_pos z]
        rw [if_pos z] at t1 t2 t3
        rw [show c - pS J n = c - pS J (n + 1) by omega, show pD J n = pD J (n + 1) by omega, show pC J n = pC J (n + 1) by omega]
        exact i1
      · rw [if_neg z]
        rw [if_neg z] at t1 t2 t3
        obtain ⟨z1, z2⟩ := hb n q z
        have u0 : Wq (wr32 (6 * (n : Int))) (((6 * n : Nat) : Int)) := by show wr32 (6 * (n : Int)) = ((6 * n : Nat) : Int); rw [wr32_i2 (by omega) (by omega)]; omega
        have u1 : Wq (wr32 (140 + ((6 * n : Nat) : Int))) (((140 + 6 * n : Nat) : Int)) := by show wr32 (140 + ((6 * n : Nat) : Int)) = ((140 + 6 * n : Nat) : Int); rw [wr32_i2 (by omega) (by omega)]; omega
        have u2 : Wq (wr32 (((140 + 6 * n : Nat) : Int) + 1)) (((141 + 6 * n : Nat) : Int)) := by show wr32 (((140 + 6 * n : Nat) : Int) + 1) = ((141 + 6 * n : Nat) : Int); rw [wr32_i2 (by omega) (by omega)]; omega
        have u3 : Wq (wr32 (((140 + 6 * n : Nat) : Int) + 3)) (((140 + 6 * n + 3 : Nat) : Int)) := by show wr32 (((140 + 6 * n : Nat) : Int) + 3) = ((140 + 6 * n + 3 : Nat) : Int); rw [wr32_i2 (by omega) (by omega)]; omega
        rw [u0.e, u1.e, u2.e, u3.e]
        refine par_zg (fun _ => par_zg (fun _ => ?_))
        rw [show J (0 + 1) ((141 + 6 * n : Nat) : Int).toNat = J 1 (141 + 6 * n) from rfl, show J (0 + 1) ((140 + 6 * n + 3 : Nat) : Int).toNat = J 1 (140 + 6 * n + 3) from rfl]
        rw [wr32_i2 (x := c - pS J n - J 1 (141 + 6 * n)) (by omega) (by omega), wr32_i2 (x := pD J n + 1) (by omega) (by omega), wr32_i2 (x := pD J n + 0) (by omega) (by omega), wr32_i2 (x := pC J n + 1) (by omega) (by omega), wr32_i2 (x := pC J n + 0) (by omega) (by omega)]
        by_cases q2 : J 1 (140 + 6 * n + 3) = 2
        · rw [if_pos q2] at t2
          rw [if_neg (show ¬ J 1 (140 + 6 * n + 3) = 1 by omega)] at t3
          rw [if_pos q2]
          refine par_zg (fun _ => ?_)
          rw [if_neg (show ¬ J 1 (140 + 6 * n + 3) = 1 by omega), show c - pS J n - J 1 (141 + 6 * n) = c - pS J (n + 1) by omega, show pD J n + 1 = pD J (n + 1) by omega, show pC J n + 1 = pC J (n + 1) by omega]
          exact i1
        · rw [if_neg q2] at t2
          rw [if_neg q2]
          refine par_zg (fun _ => ?_)
          by_cases q3 : J 1 (140 + 6 * n + 3) = 1
          · rw [if_pos q3] at t3
            rw [if_pos q3, show c - pS J n - J 1 (141 + 6 * n) = c - pS J (n + 1) by omega, show pD J n + 0 = pD J (n + 1) by omega, show pC J n + 0 = pC J (n + 1) by omega]
            exact i1
          · rw [if_neg q3] at t3
            rw [if_neg q3, show c - pS J n - J 1 (141 + 6 * n) = c - pS J (n + 1) by omega, show pD J n + 0 = pD J (n + 1) by omega, show pC J n + 1 = pC J (n + 1) by omega]
            exact i1
    · rw [if_neg (show ¬ (n : Int) < 240 by omega)]
      have : n = 240 := by omega
      subst this
      exact hend
/-- k is picked as well -/
theorem pk_add {I J I' J' : IMem} {k n : Nat} {size sort : Int} (h : PKR I J) (hk : INL J k) (h0 : J 13 k = 0) (hn : J 0 35 = (n : Int)) (n8 : n < 8) (hsz : size = J 1 (141 + 6 * k)) (hso : sort = J 1 (140 + 6 * k + 3)) (z1 : 1 ≤ size ∧ size ≤ 8) (hfit : size ≤ I 137 7) (hI : ∀ q j, I' q j = if q = 137 ∧ j = 11 then (if I 137 11 = 0 then (if sort = 1 then 0 else 1) else 1) else if q = 137 ∧ j = 10 then (if I 137 10 = 0 then (if sort = 2 then 1 else 0) else 1) else if q = 137 ∧ j = 7 then wr32 (I 137 7 - size) else if q = 137 ∧ j = 8 then I 137 8 + 1 else if q = 140 ∧ j = n then size else if q = 139 ∧ j = n then (k : Int) else if q = 138 ∧ j = k then 1 else I q j) (hJ : ∀ q j, J' q j = if q = 0 ∧ j = 35 then (n : Int) + 1 else if q = 15 ∧ j = n then (k : Int) else if q = 13 ∧ j = k then 1 else J q j) : PKR I' J' := by
  obtain ⟨⟨a1, a2, a3, a4, a5⟩, b, c, d, e, ⟨f1, f2⟩, g, hh⟩ := h
  have j1 : ∀ j, J' 1 j = J 1 j := fun j => by rw [hJ, if_neg (by omega), if_neg (by omega), if_neg (by omega)]
  have j13 : ∀ i, J' 13 i = if i = k then 1 else J 13 i := fun i => by
    rw [hJ, if_neg (by omega), if_neg (by omega)]
    by_cases q : i = k
    · rw [if_pos ⟨rfl, q⟩, if_pos q]
    · rw [if_neg (fun z => q z.2), if_neg q]
  have j15 : ∀ i, J' 15 i = if i = n then (k : Int) else J 15 i := fun i => by
    rw [hJ, if_neg (by omega)]
    by_cases q : i = n
    · rw [if_pos ⟨rfl, q⟩, if_pos q]
    · rw [if_neg (fun z => q z.2), if_neg q, if_neg (by omega)]
  have j35 : J' 0 35 = (n : Int) + 1 := by rw [hJ, if_pos ⟨rfl, rfl⟩]
  have i7 : I' 137 7 = I 137 7 - size := by
    rw [hI, if_neg (by omega), if_neg (by omega), if_pos ⟨rfl, rfl⟩, wr32_i2 (by omega) (by omega)]
  have i8 : I' 137 8 = I 137 8 + 1 := by rw [hI, if_neg (by omega), if_neg (by omega), if_neg (by omega), if_pos ⟨rfl, rfl⟩]
  have i9 : I' 137 9 = I 137 9 := by rw [hI, if_neg (by omega), if_neg (by omega), if_neg (by omega), if_neg (by omega), if_neg (by omega), if_neg (by omega), if_neg (by omega)]
  have i10 : I' 137 10 = if I 137 10 = 0 then (if sort = 2 then 1 else 0) else 1 := by rw [hI, if_neg (by omega), if_pos ⟨rfl, rfl⟩]
  have i11 : I' 137 11 = if I 137 11 = 0 then (if sort = 1 then 0 else 1) else 1 := by rw [hI, if_pos ⟨rfl, rfl⟩]
  have i138 : ∀ i, I' 138 i = if i = k then 1 else I 138 i := fun i => by
    rw [hI, if_neg (by omega), if_neg (by omega), if_neg (by omega), if_neg (by omega), if_neg (by omega), if_neg (by omega)]
    by_cases q : i = k
    · rw [if_pos ⟨rfl, q⟩, if_pos q]
    · rw [if_neg (fun z => q z.2), if_neg q]
  have i139 : ∀ i, I' 139 i = if i = n then (k : Int) else I 139 i := fun i => by
    rw [hI, if_neg (by omega), if_neg (by omega), if_neg (by omega), if_neg (by omega), if_neg (by omega)]
    by_cases q : i = n
    · rw [if_pos ⟨rfl, q⟩, if_pos q]
    · rw [if_neg (fun z => q z.2), if_neg q, if_neg (by omega)]
  have i140 : ∀ i, I' 140 i = if i = n then size else I 140 i := fun i => by
    rw [hI, if_neg (by omega), if_neg (by omega), if_neg (by omega), if_neg (by omega)]
    by_cases q : i = n
    · rw [if_pos ⟨rfl, q⟩, if_pos q]
    · rw [if_neg (fun z => q z.2), if_neg q, if_neg (by omega), if_neg (by omega)]
  have inl : ∀ i, INL J i → INL J' i := fun i hi => ⟨hi.1, by rw [j1]; exact hi.2⟩
  obtain ⟨m1, m2, m3⟩ := p_mark (J' := J') h0 j13 j1 240
  rw [if_pos hk.1] at m1 m2 m3
  rw [hn] at a2 a3 a5 c d f1
  refine ⟨⟨by rw [i9]; exact a1, by rw [i8, j35, a2], by rw [j35]; omega, by rw [i7]; omega, by rw [i7, j35]; omega⟩, fun i hi => ?_, fun i hi => ?_, fun i j hi hj q => ?_, fun i hi q => ?_, ⟨?_, ?_⟩, ?_, ?_⟩
  · by_cases q : i = k
    · right
      rw [i138, if_pos q, j13, if_pos q, j1, q]
      exact ⟨rfl, rfl, inl k hk, by omega, by omega⟩
    · rw [i138, if_neg q, j13, if_neg q, j1]
      rcases b i hi with x | ⟨x1, x2, x3, x4, x5⟩
      · exact Or.inl x
      · exact Or.inr ⟨x1, x2, inl i x3, x4, x5⟩
  · rw [j35] at hi
    by_cases q : i = n
    · exact ⟨k, inl k hk, by rw [j15, if_pos q], by rw [i139, if_pos q], by rw [i140, if_pos q, j1]; exact hsz, by rw [j13, if_pos rfl]⟩
    · obtain ⟨k', x1, x2, x3, x4, x5⟩ := c i (by omega)
      refine ⟨k', inl k' x1, by rw [j15, if_neg q]; exact x2, by rw [i139, if_neg q]; exact x3, by rw [i140, if_neg q, j1]; exact x4, ?_⟩
      rw [j13]
      by_cases q2 : k' = k
      · rw [if_pos q2]
      · rw [if_neg q2]; exact x5
  · rw [j35] at hi hj
    rw [j15, j15] at q
    have old : ∀ i' : Nat, i' < n → J 15 i' ≠ (k : Int) := fun i' hi' z => by
      obtain ⟨k', x1, x2, _, _, x5⟩ := c i' (by omega)
      have : k' = k := by omega
      rw [this, h0] at x5
      exact absurd x5 (by decide)
    by_cases q1 : i = n
    · by_cases q2 : j = n
      · omega
      · rw [if_pos q1, if_neg q2] at q
        exact absurd q.symm (old j (by omega))
    · by_cases q2 : j = n
      · rw [if_neg q1, if_pos q2] at q
        exact absurd q (old i (by omega))
      · rw [if_neg q1, if_neg q2] at q
        exact d i j (by omega) (by omega) q
  · rw [j35]
    by_cases q1 : i = k
    · exact ⟨n, by omega, by rw [j15, if_pos rfl, q1]⟩
    · rw [j13, if_neg q1] at q
      obtain ⟨i', x1, x2⟩ := e i hi q
      rw [hn] at x1
      exact ⟨i', by omega, by rw [j15, if_neg (by omega)]; exact x2⟩
  · rw [j1, j35, i7, show ((n : Int) + 1).toNat = n + 1 by omega]
    rw [show ((n : Int)).toNat = n by omega] at f1
    have s1 : sm (I' 140) (n + 1) = sm (I' 140) n + I' 140 n := rfl
    rw [s1, i140 n, if_pos rfl, sm_eq (c := I 140) n (fun i hi => by rw [i140, if_neg (by omega)]), f1]
    omega
  · rw [j1, i7, m1, f2]; omega
  · rw [i10, m2, hso]
    have pd := g
    by_cases q : J 1 (140 + 6 * k + 3) = 2
    · rw [if_pos q]
      rcases pd with ⟨x1, x2⟩ | ⟨x1, x2⟩
      · rw [x1, if_pos eq00]; right; exact ⟨rfl, by omega⟩
      · rw [x1, if_neg ne10]; right; exact ⟨rfl, by omega⟩
    · rw [if_neg q]
      rcases pd with ⟨x1, x2⟩ | ⟨x1, x2⟩
      · rw [x1, if_pos eq00]; left; exact ⟨rfl, by omega⟩
      · rw [x1, if_neg ne10]; right; exact ⟨rfl, by omega⟩
  · rw [i11, m3, hso]
    by_cases q : J 1 (140 + 6 * k + 3) = 1
    · rw [if_pos q]
      rcases hh with ⟨x1, x2⟩ | ⟨x1, x2⟩
      · rw [x1, if_pos eq00]; left; exact ⟨rfl, by omega⟩
      · rw [x1, if_neg ne10]; right; exact ⟨rfl, by omega⟩
    · rw [if_neg q]
      rcases hh with ⟨x1, x2⟩ | ⟨x1, x2⟩
      · rw [x1, if_pos eq00]; right; exact ⟨rfl, by omega⟩
      · rw [x1, if_neg ne10]; right; exact ⟨rfl, by omega⟩
end
