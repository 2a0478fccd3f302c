/-! who comes, is picked, is sent: both sides -/
section
variable {fu : Nat} {I J : IMem}
theorem xv_rows {hb : Nat} {size says sort : Int} (h : HX hb I J) : par (f_X_comes fu 0 size says sort J) (fun _ J' => ∀ k, INL J k → INL J' k ∧ ∀ f, f < 6 → J' 1 (140 + 6 * k + f) = J 1 (140 + 6 * k + f)) := by
  obtain ⟨⟨hS, hY, hP, hL, hW⟩, hz, hA⟩ := h
  obtain ⟨law, lc, lx, lo⟩ := hW 4 (by decide)
  have hcJ : ∀ l, l < 6 → J 1 (130 + l) = I (hb + 8) l := fun l hl => (hl_c hL hl).1.symm
  unfold f_X_comes
  refine par_zb (xv_lineFor hcJ lo lx) (fun y1 J1 ⟨gy, gJ⟩ => ?_)
  have rng := lf_rng (z := J 0 22) (says := says) (sort := sort) (c := I (hb + 8)) (law := law) lo.2.2.2
  rw [← gy] at rng
  obtain ⟨l, hl, rfl⟩ : ∃ l : Nat, l < 6 ∧ y1 = (l : Int) := ⟨y1.toNat, by omega, by omega⟩
  obtain ⟨_, b2, b3⟩ := hl_c hL hl
  refine par_zw' (fun J2 e2 => ?_)
  have k2 : ∀ j, j ≠ 7 → J2 1 j = J 1 j := fun j h3 => by rw [e2, if_neg (by omega)]; exact gJ 1 j (by decide) (by decide)
  have jc : J2 1 (130 + l) = J 1 (130 + l) := k2 _ (by omega)
  refine par_zb (xv_stands (fu := fu) hl (by omega)) (fun y3 J3 hy => ?_)
  have fin : ∀ k, INL J k → INL J3 k ∧ ∀ f, f < 6 → J3 1 (140 + 6 * k + f) = J 1 (140 + 6 * k + f) := by
    intro k ⟨k1, k3⟩
    rcases hy with ⟨_, _, y2f, _, _⟩ | ⟨_, y2c, y2e⟩
    · refine ⟨⟨k1, ?_⟩, fun f hf => ?_⟩
      · rw [y2f _ _ (by omega) (by omega), k2 _ (by omega)]; exact k3
      · rw [y2f _ _ (by omega) (by omega), k2 _ (by omega)]
    · rw [jc] at y2e y2c
      refine ⟨⟨k1, ?_⟩, fun f hf => ?_⟩
      · rw [y2e]
        by_cases q : k / 40 = l
        · rw [if_pos ⟨rfl, by omega⟩]
          rw [q] at k3
          omega
        · rw [if_neg (by omega), if_neg (by omega), k2 _ (by omega)]; exact k3
      · have nk : k ≠ 40 * l + (J 1 (130 + l)).toNat := by
          intro q
          have q2 : k / 40 = l := by omega
          rw [q2] at k3
          omega
        rw [y2e, if_neg (by omega), if_neg (by omega), k2 _ (by omega)]
  exact par_ite (fun _ => par_zr fin) (fun _ => par_zr fin)
theorem come3 {size says sort : Int} (h : RJ I J) (hg : RG J) : pq (f_H_enter fu (0 + 1) size says sort I) (f_X_comes fu 0 size says sort J) EQJ := by
  intro x I' y J' e1 e2
  obtain ⟨exy, hX⟩ := enter2 h.1 hg x I' y J' e1 e2
  have rows := xv_rows (fu := fu) h.1 y J' e2
  have fI : ∀ q j, ¬ (q = 1 ∨ q = 8 ∨ q = 9 ∨ q = 11 ∨ q = 14 ∨ q = 15 ∨ q = 40) → I' q j = I q j := fun q j hq => congrFun (fr_H_enter (fun q => q = 1 ∨ q = 8 ∨ q = 9 ∨ q = 11 ∨ q = 14 ∨ q = 15 ∨ q = 40) fu (0 + 1) size says sort I (by omega) (by omega) (by omega) (by omega) (by omega) (by omega) (by omega) e1 q hq) j
  have fJ : ∀ q j, ¬ (q = 1 ∨ q = 7 ∨ q = 8 ∨ (q = 0 ∧ j = 24)) → J' q j = J q j := fc_X_comes (fun q j => q = 1 ∨ q = 7 ∨ q = 8 ∨ (q = 0 ∧ j = 24)) fu 0 size says sort J (fun _ => by omega) (fun _ => by omega) (by omega) (by omega) (by omega) (by omega) (by omega) e2
  have e11 : J' 1 1 = J 1 1 := by
    have a := hX.1.1.1 0 (by decide)
    have b := h.1.1.1.1 0 (by decide)
    have c : I' 2 0 = I 2 0 := fI 2 0 (by omega)
    have a' : I' 2 0 = J' 1 1 := a
    have b' : I 2 0 = J 1 1 := b
    rw [← a', ← b', c]
  have h' := h
  obtain ⟨_, a2, _, _, _, e, ⟨L, t1, t2, t3, t4⟩, f⟩ := h'
  refine ⟨?_, exy⟩
  have z11 : I' 1 11 = I 1 11 := by
    rw [hX.2.1, fJ 0 22 (by omega)]
    exact h.1.2.1.symm
  refine rj_mv h hX z11 (fun q j hq => fI _ _ (by omega)) (fun q j hq => fJ _ _ (by omega)) (pk_mv e (fun q j hq => fI _ _ (by omega)) (fun q j hq => ?_) (fun k hk => ?_)) ⟨L, t1, ?_, ?_, fun i hi => ?_⟩ ⟨?_, ?_⟩
  · by_cases q1 : q = 1
    · rw [q1, show j = 1 by omega]; exact e11
    · exact fJ _ _ (by omega)
  · obtain ⟨r1, r2⟩ := rows k hk
    exact ⟨r1, (congrArg (J' 1) (show 141 + 6 * k = 140 + 6 * k + 1 by omega)).trans ((r2 1 (by decide)).trans (congrArg (J 1) (show 140 + 6 * k + 1 = 141 + 6 * k by omega))), r2 3 (by decide)⟩
  · rw [fI _ _ (by omega)]; exact t2
  · rw [fJ _ _ (by omega)]; exact t3
  · rw [fI _ _ (by omega), fJ _ _ (by omega)]; exact t4 i hi
  · rw [fI _ _ (by omega), fJ _ _ (by omega)]; exact f.1
  · rw [fI _ _ (by omega), fJ _ _ (by omega)]; exact f.2
theorem pj_come (a b c : Int) (h : RJ I J) (hg : RG J) : pq (f_S_come fu 0 a b c I) (f_X_come fu 0 a b c J) EQJ := by
  unfold f_S_come f_X_come
  rw [ev_canBe, ev_isGroup, zb_zr, zb_zr]
  by_cases h1 : 1 ≤ a ∧ a ≤ 8 ∧ 1 ≤ b ∧ b ≤ a ∧ 0 ≤ c ∧ c ≤ 3
  · rw [if_pos h1, if_neg ne10, if_neg ne10]
    exact pq_b (come3 h hg) (fun x I1 y J1 _ _ g => pq_end g)
  · rw [if_neg h1, if_pos eq00, if_pos eq00]
    exact pq_end ⟨h, rfl⟩
/-! picking -/
theorem p_mark {J J' : IMem} {k : Nat} (h0 : J 13 k = 0) (h1 : ∀ i, J' 13 i = if i = k then 1 else J 13 i) (h2 : ∀ j, J' 1 j = J 1 j) : ∀ n : Nat, pS J' n = pS J n + (if k < n then J 1 (141 + 6 * k) else 0) ∧ pD J' n = pD J n + (if k < n then (if J 1 (140 + 6 * k + 3) = 2 then 1 else 0) else 0) ∧ pC J' n = pC J n + (if k < n then (if J 1 (140 + 6 * k + 3) = 1 then 0 else 1) else 0) := by
  intro n
  induction n with
  | zero =>
    rw [if_neg (show ¬ k < 0 by omega), if_neg (show ¬ k < 0 by omega), if_neg (show ¬ k < 0 by omega)]
    exact ⟨rfl, rfl, rfl⟩
  | succ n ih =>
    obtain ⟨i1, i2, i3⟩ := ih
    have s1 : pS J' (n + 1) = pS J' n + (if J' 13 n = 0 then 0 else J' 1 (141 + 6 * n)) := rfl
    have s2 : pD J' (n + 1) = pD J' n + (if J' 13 n = 0 then 0 else if J' 1 (140 + 6 * n + 3) = 2 then 1 else 0) := rfl
    have s3 : pC J' (n + 1) = pC J' n + (if J' 13 n = 0 then 0 else if J' 1 (140 + 6 * n + 3) = 1 then 0 else 1) := rfl
    have t1 : pS J (n + 1) = pS J n + (if J 13 n = 0 then 0 else J 1 (141 + 6 * n)) := rfl
    have t2 : pD J (n + 1) = pD J n + (if J 13 n = 0 then 0 else if J 1 (140 + 6 * n + 3) = 2 then 1 else 0) := rfl
    have t3 : pC J (n + 1) = pC J n + (if J 13 n = 0 then 0 else if J 1 (140 + 6 * n + 3) = 1 then 0 else 1) := rfl
    rw [s1, s2, s3, t1, t2, t3, i1, i2, i3, h1, h2, h2]
    by_cases q : n = k
    · subst q
      rw [if_pos rfl, if_neg ne10, if_neg ne10, if_neg ne10, h0, if_pos eq00, if_pos eq00, if_pos eq00, if_neg (show ¬ n < n by omega), if_neg (show ¬ n < n by omega), if_neg (show ¬ n < n by omega), if_pos (show n < n + 1 by omega), if_pos (show n < n + 1 by omega), if_pos (show n < n + 1 by omega)]
      refine ⟨?_, ?_, ?_⟩ <;> omega
    · rw [if_neg q]
      by_cases q2 : k < n
      · rw [if_pos q2, if_pos q2, if_pos q2, if_pos (show k < n + 1 by omega), if_pos (show k < n + 1 by omega), if_pos (show k < n + 1 by omega)]
        refine ⟨?_, ?_, ?_⟩ <;> omega
      · rw [if_neg q2, if_neg q2, if_neg q2, if_neg (show ¬ k < n + 1 by omega), if_neg (show ¬ k < n + 1 by omega), if_neg (show ¬ k < n + 1 by omega)]
        refine ⟨?_, ?_, ?_⟩ <;> omega
theorem p_bnd {J : IMem} (hb : ∀ k, k < 240 → J 13 k ≠ 0 → 1 ≤ J 1 (141 + 6 * k) ∧ J 1 (141 + 6 * k) ≤ 8) : ∀ n : Nat, n ≤ 240 → (0 ≤ pS J n ∧ pS J n ≤ 8 * (n : Int)) ∧ (0 ≤ pD J n ∧ pD J n ≤ (n : Int)) ∧ (0 ≤ pC J n ∧ pC J n ≤ (n : Int)) := by
  intro n
  induction n with
  | zero => intro _; exact ⟨⟨Int.le_refl _, Int.le_refl _⟩, ⟨Int.le_refl _, Int.le_refl _⟩, ⟨Int.le_refl _, Int.le_refl _⟩⟩
  | succ n ih =>
    intro hn
    obtain ⟨⟨i1, i2⟩, ⟨i3, i4⟩, i5, i6⟩ := ih (by omega)
    have t1 : pS J (n + 1) = pS J n + (if J 13 n = 0 then 0 else J 1 (141 + 6 * n)) := rfl
    have t2 : pD J (n + 1) = pD J n + (if J 13 n = 0 then 0 else if J 1 (140 + 6 * n + 3) = 2 then 1 else 0) := rfl
    have t3 : pC J (n + 1) = pC J n + (if J 13 n = 0 then 0 else if J 1 (140 + 6 * n + 3) = 1 then 0 else 1) := rfl
    rw [t1, t2, t3]
    by_cases q : J 13 n = 0
    · rw [if_pos q, if_pos q, if_pos q]; refine ⟨⟨?_, ?_⟩, ⟨?_, ?_⟩, ?_, ?_⟩ <;> omega
    · obtain ⟨z1, z2⟩ := hb n (by omega) q
      rw [if_neg q, if_neg q, if_neg q]
      by_cases q2 : J 1 (140 + 6 * n + 3) = 2
      · rw [if_pos q2, if_neg (show ¬ J 1 (140 + 6 * n + 3) = 1 by omega)]
        refine ⟨⟨?_, ?_⟩, ⟨?_, ?_⟩, ?_, ?_⟩ <;> omega
      · rw [if_neg q2]
        by_cases q3 : J 1 (140 + 6 * n + 3) = 1
        · rw [if_pos q3]; refine ⟨⟨?_, ?_⟩, ⟨?_, ?_⟩, ?_, ?_⟩ <;> omega
        · rw [if_neg q3]; refine ⟨⟨?_, ?_⟩, ⟨?_, ?_⟩, ?_, ?_⟩ <;> omega
theorem xv_pick74 {Q : Int → IMem → Prop} (kk : Int → Int → Int → IMem → Res) (p1 p2 : Int) (c : Int) (hc : 0 ≤ c ∧ c ≤ 8) (hb : ∀ k, k < 240 → J 13 k ≠ 0 → 1 ≤ J 1 (141 + 6 * k) ∧ J 1 (141 + 6 * k) ≤ 8) (hend : par (kk (c - pS J 240) (pD J 240) (pC J 240) J) Q) : ∀ (m n : Nat), n ≤ 240 → par (f_X_pick_74 fu kk 0 p1 p2 m (c - pS J n) (pD J n) (pC J n) (n : Int) J) Q := by
  intro m
  induction m with
  | zero => intro _ _; exact par_none
  | succ m ih =>
    intro n hn
    show par (fb_X_pick_74 fu kk 0 p1 p2 (f_X_pick_74 fu kk 0 p1 p2 m) (c - pS J n) (pD J n) (pC J n) (n : Int) J) _
    unfold fb_X_pick_74
    by_cases q : n < 240
    · rw [if_pos (show (n : Int) < 240 by omega)]
      refine par_zg (fun _ => ?_)
      simp only [zl_e, zj_e]
      obtain ⟨⟨b1, b2⟩, ⟨b3, b4⟩, b5, b6⟩ := p_bnd hb n hn
      have t1 : pS J (n + 1) = pS J n + (if J 13 n = 0 then 0 else J 1 (141 + 6 * n)) := rfl
      have t2 : pD J (n + 1) = pD J n + (if J 13 n = 0 then 0 else if J 1 (140 + 6 * n + 3) = 2 then 1 else 0) := rfl
      have t3 : pC J (n + 1) = pC J n + (if J 13 n = 0 then 0 else if J 1 (140 + 6 * n + 3) = 1 then 0 else 1) := rfl
      have i1 := ih (n + 1) q
      rw [w_nx n (by omega), show J (0 + 13) ((n : Nat) : Int).toNat = J 13 n from rfl]
      by_cases z : J 13 n = 0
      · rw [if_pos z]
        rw [if_pos z] at t1 t2 t3
        rw [show c - pS J n = c - pS J (n + 1) by omega, show pD J n = pD J (n + 1) by omega, show pC J n = pC J (n + 1) by omega]
        exact i1
      · rw [if_neg z]
        rw [if_neg z] at t1 t2 t3
        obtain ⟨z1, z2⟩ := hb n q z
        have u0 : Wq (wr32 (6 * (n : Int))) (((6 * n : Nat) : Int)) := by show wr32 (6 * (n : Int)) = ((6 * n : Nat) : Int); rw [wr32_i2 (by omega) (by omega)]; omega
        have u1 : Wq (wr32 (140 + ((6 * n : Nat) : Int))) (((140 + 6 * n : Nat) : Int)) := by show wr32 (140 + ((6 * n : Nat) : Int)) = ((140 + 6 * n : Nat) : Int); rw [wr32_i2 (by omega) (by omega)]; omega
        have u2 : Wq (wr32 (((140 + 6 * n : Nat) : Int) + 1)) (((141 + 6 * n : Nat) : Int)) := by show wr32 (((140 + 6 * n : Nat) : Int) + 1) = ((141 + 6 * n : Nat) : Int); rw [wr32_i2 (by omega) (by omega)]; omega
        have u3 : Wq (wr32 (((140 + 6 * n : Nat) : Int) + 3)) (((140 + 6 * n + 3 : Nat) : Int)) := by show wr32 (((140 + 6 * n : Nat) : Int) + 3) = ((140 + 6 * n + 3 : Nat) : Int); rw [wr32_i2 (by omega) (by omega)]; omega
        rw [u0.e, u1.e, u2.e, u3.e]
        refine par_zg (fun _ => par_zg (fun _ => ?_))
        rw [show J (0 + 1) ((141 + 6 * n : Nat) : Int).toNat = J 1 (141 + 6 * n) from rfl, show J (0 + 1) ((140 + 6 * n + 3 : Nat) : Int).toNat = J 1 (140 + 6 * n + 3) from rfl]
        rw [wr32_i2 (x := c - pS J n - J 1 (141 + 6 * n)) (by omega) (by omega), wr32_i2 (x := pD J n + 1) (by omega) (by omega), wr32_i2 (x := pD J n + 0) (by omega) (by omega), wr32_i2 (x := pC J n + 1) (by omega) (by omega), wr32_i2 (x := pC J n + 0) (by omega) (by omega)]
        by_cases q2 : J 1 (140 + 6 * n + 3) = 2
        · rw [if_pos q2] at t2
          rw [if_neg (show ¬ J 1 (140 + 6 * n + 3) = 1 by omega)] at t3
          rw [if_pos q2]
          refine par_zg (fun _ => ?_)
          rw [if_neg (show ¬ J 1 (140 + 6 * n + 3) = 1 by omega), show c - pS J n - J 1 (141 + 6 * n) = c - pS J (n + 1) by omega, show pD J n + 1 = pD J (n + 1) by omega, show pC J n + 1 = pC J (n + 1) by omega]
          exact i1
        · rw [if_neg q2] at t2
          rw [if_neg q2]
          refine par_zg (fun _ => ?_)
          by_cases q3 : J 1 (140 + 6 * n + 3) = 1
          · rw [if_pos q3] at t3
            rw [if_pos q3, show c - pS J n - J 1 (141 + 6 * n) = c - pS J (n + 1) by omega, show pD J n + 0 = pD J (n + 1) by omega, show pC J n + 0 = pC J (n + 1) by omega]
            exact i1
          · rw [if_neg q3] at t3
            rw [if_neg q3, show c - pS J n - J 1 (141 + 6 * n) = c - pS J (n + 1) by omega, show pD J n + 0 = pD J (n + 1) by omega, show pC J n + 1 = pC J (n + 1) by omega]
            exact i1
    · rw [if_neg (show ¬ (n : Int) < 240 by omega)]
      have : n = 240 := by omega
      subst this
      exact hend
/-- k is picked as well -/
theorem pk_add {I J I' J' : IMem} {k n : Nat} {size sort : Int} (h : PKR I J) (hk : INL J k) (h0 : J 13 k = 0) (hn : J 0 35 = (n : Int)) (n8 : n < 8) (hsz : size = J 1 (141 + 6 * k)) (hso : sort = J 1 (140 + 6 * k + 3)) (z1 : 1 ≤ size ∧ size ≤ 8) (hfit : size ≤ I 137 7) (hI : ∀ q j, I' q j = if q = 137 ∧ j = 11 then (if I 137 11 = 0 then (if sort = 1 then 0 else 1) else 1) else if q = 137 ∧ j = 10 then (if I 137 10 = 0 then (if sort = 2 then 1 else 0) else 1) else if q = 137 ∧ j = 7 then wr32 (I 137 7 - size) else if q = 137 ∧ j = 8 then I 137 8 + 1 else if q = 140 ∧ j = n then size else if q = 139 ∧ j = n then (k : Int) else if q = 138 ∧ j = k then 1 else I q j) (hJ : ∀ q j, J' q j = if q = 0 ∧ j = 35 then (n : Int) + 1 else if q = 15 ∧ j = n then (k : Int) else if q = 13 ∧ j = k then 1 else J q j) : PKR I' J' := by
  obtain ⟨⟨a1, a2, a3, a4, a5⟩, b, c, d, e, ⟨f1, f2⟩, g, hh⟩ := h
  have j1 : ∀ j, J' 1 j = J 1 j := fun j => by rw [hJ, if_neg (by omega), if_neg (by omega), if_neg (by omega)]
  have j13 : ∀ i, J' 13 i = if i = k then 1 else J 13 i := fun i => by
    rw [hJ, if_neg (by omega), if_neg (by omega)]
    by_cases q : i = k
    · rw [if_pos ⟨rfl, q⟩, if_pos q]
    · rw [if_neg (fun z => q z.2), if_neg q]
  have j15 : ∀ i, J' 15 i = if i = n then (k : Int) else J 15 i := fun i => by
    rw [hJ, if_neg (by omega)]
    by_cases q : i = n
    · rw [if_pos ⟨rfl, q⟩, if_pos q]
    · rw [if_neg (fun z => q z.2), if_neg q, if_neg (by omega)]
  have j35 : J' 0 35 = (n : Int) + 1 := by rw [hJ, if_pos ⟨rfl, rfl⟩]
  have i7 : I' 137 7 = I 137 7 - size := by
    rw [hI, if_neg (by omega), if_neg (by omega), if_pos ⟨rfl, rfl⟩, wr32_i2 (by omega) (by omega)]
  have i8 : I' 137 8 = I 137 8 + 1 := by rw [hI, if_neg (by omega), if_neg (by omega), if_neg (by omega), if_pos ⟨rfl, rfl⟩]
  have i9 : I' 137 9 = I 137 9 := by rw [hI, if_neg (by omega), if_neg (by omega), if_neg (by omega), if_neg (by omega), if_neg (by omega), if_neg (by omega), if_neg (by omega)]
  have i10 : I' 137 10 = if I 137 10 = 0 then (if sort = 2 then 1 else 0) else 1 := by rw [hI, if_neg (by omega), if_pos ⟨rfl, rfl⟩]
  have i11 : I' 137 11 = if I 137 11 = 0 then (if sort = 1 then 0 else 1) else 1 := by rw [hI, if_pos ⟨rfl, rfl⟩]
  have i138 : ∀ i, I' 138 i = if i = k then 1 else I 138 i := fun i => by
    rw [hI, if_neg (by omega), if_neg (by omega), if_neg (by omega), if_neg (by omega), if_neg (by omega), if_neg (by omega)]
    by_cases q : i = k
    · rw [if_pos ⟨rfl, q⟩, if_pos q]
    · rw [if_neg (fun z => q z.2), if_neg q]
  have i139 : ∀ i, I' 139 i = if i = n then (k : Int) else I 139 i := fun i => by
    rw [hI, if_neg (by omega), if_neg (by omega), if_neg (by omega), if_neg (by omega), if_neg (by omega)]
    by_cases q : i = n
    · rw [if_pos ⟨rfl, q⟩, if_pos q]
    · rw [if_neg (fun z => q z.2), if_neg q, if_neg (by omega)]
  have i140 : ∀ i, I' 140 i = if i = n then size else I 140 i := fun i => by
    rw [hI, if_neg (by omega), if_neg (by omega), if_neg (by omega), if_neg (by omega)]
    by_cases q : i = n
    · rw [if_pos ⟨rfl, q⟩, if_pos q]
    · rw [if_neg (fun z => q z.2), if_neg q, if_neg (by omega), if_neg (by omega)]
  have inl : ∀ i, INL J i → INL J' i := fun i hi => ⟨hi.1, by rw [j1]; exact hi.2⟩
  obtain ⟨m1, m2, m3⟩ := p_mark (J' := J') h0 j13 j1 240
  rw [if_pos hk.1] at m1 m2 m3
  rw [hn] at a2 a3 a5 c d f1
  refine ⟨⟨by rw [i9]; exact a1, by rw [i8, j35, a2], by rw [j35]; omega, by rw [i7]; omega, by rw [i7, j35]; omega⟩, fun i hi => ?_, fun i hi => ?_, fun i j hi hj q => ?_, fun i hi q => ?_, ⟨?_, ?_⟩, ?_, ?_⟩
  · by_cases q : i = k
    · right
      rw [i138, if_pos q, j13, if_pos q, j1, q]
      exact ⟨rfl, rfl, inl k hk, by omega, by omega⟩
    · rw [i138, if_neg q, j13, if_neg q, j1]
      rcases b i hi with x | ⟨x1, x2, x3, x4, x5⟩
      · exact Or.inl x
      · exact Or.inr ⟨x1, x2, inl i x3, x4, x5⟩
  · rw [j35] at hi
    by_cases q : i = n
    · exact ⟨k, inl k hk, by rw [j15, if_pos q], by rw [i139, if_pos q], by rw [i140, if_pos q, j1]; exact hsz, by rw [j13, if_pos rfl]⟩
    · obtain ⟨k', x1, x2, x3, x4, x5⟩ := c i (by omega)
      refine ⟨k', inl k' x1, by rw [j15, if_neg q]; exact x2, by rw [i139, if_neg q]; exact x3, by rw [i140, if_neg q, j1]; exact x4, ?_⟩
      rw [j13]
      by_cases q2 : k' = k
      · rw [if_pos q2]
      · rw [if_neg q2]; exact x5
  · rw [j35] at hi hj
    rw [j15, j15] at q
    have old : ∀ i' : Nat, i' < n → J 15 i' ≠ (k : Int) := fun i' hi' z => by
      obtain ⟨k', x1, x2, _, _, x5⟩ := c i' (by omega)
      have : k' = k := by omega
      rw [this, h0] at x5
      exact absurd x5 (by decide)
    by_cases q1 : i = n
    · by_cases q2 : j = n
      · omega
      · rw [if_pos q1, if_neg q2] at q
        exact absurd q.symm (old j (by omega))
    · by_cases q2 : j = n
      · rw [if_neg q1, if_pos q2] at q
        exact absurd q (old i (by omega))
      · rw [if_neg q1, if_neg q2] at q
        exact d i j (by omega) (by omega) q
  · rw [j35]
    by_cases q1 : i = k
    · exact ⟨n, by omega, by rw [j15, if_pos rfl, q1]⟩
    · rw [j13, if_neg q1] at q
      obtain ⟨i', x1, x2⟩ := e i hi q
      rw [hn] at x1
      exact ⟨i', by omega, by rw [j15, if_neg (by omega)]; exact x2⟩
  · rw [j1, j35, i7, show ((n : Int) + 1).toNat = n + 1 by omega]
    rw [show ((n : Int)).toNat = n by omega] at f1
    have s1 : sm (I' 140) (n + 1) = sm (I' 140) n + I' 140 n := rfl
    rw [s1, i140 n, if_pos rfl, sm_eq (c := I 140) n (fun i hi => by rw [i140, if_neg (by omega)]), f1]
    omega
  · rw [j1, i7, m1, f2]; omega
  · rw [i10, m2, hso]
    have pd := g
    by_cases q : J 1 (140 + 6 * k + 3) = 2
    · rw [if_pos q]
      rcases pd with ⟨x1, x2⟩ | ⟨x1, x2⟩
      · rw [x1, if_pos eq00]; right; exact ⟨rfl, by omega⟩
      · rw [x1, if_neg ne10]; right; exact ⟨rfl, by omega⟩
    · rw [if_neg q]
      rcases pd with ⟨x1, x2⟩ | ⟨x1, x2⟩
      · rw [x1, if_pos eq00]; left; exact ⟨rfl, by omega⟩
      · rw [x1, if_neg ne10]; right; exact ⟨rfl, by omega⟩
  · rw [i11, m3, hso]
    by_cases q : J 1 (140 + 6 * k + 3) = 1
    · rw [if_pos q]
      rcases hh with ⟨x1, x2⟩ | ⟨x1, x2⟩
      · rw [x1, if_pos eq00]; left; exact ⟨rfl, by omega⟩
      · rw [x1, if_neg ne10]; right; exact ⟨rfl, by omega⟩
    · rw [if_neg q]
      rcases hh with ⟨x1, x2⟩ | ⟨x1, x2⟩
      · rw [x1, if_pos eq00]; right; exact ⟨rfl, by omega⟩
      · rw [x1, if_neg ne10]; right; exact ⟨rfl, by omega⟩
end
/-! the pick's judge, sending, chairs, runs: both sides -/
theorem pq_par {Q : Int → IMem → Int → IMem → Prop} {m1 m2 m3 : Res} (h : par m2 (fun y J => m3 = some (y, J))) (k : pq m1 m3 Q) : pq m1 m2 Q := fun x I y J e1 e2 => k x I y J e1 (h y J e2)
section
variable {fu : Nat} {I J : IMem}
theorem pick_fin {l p : Nat} (h : RJ I J) (hg : GX 0 J) (hl : l < 6) (hp : (p : Int) < J 1 (130 + l)) (p40 : p < 40) (z13 : J 13 (40 * l + p) = 0) (hfit : J 1 (141 + 6 * (40 * l + p)) ≤ I 137 7) : pq (zb (f_C_sit fu 137 ((40 * l + p : Nat) : Int) (J 1 (141 + 6 * (40 * l + p))) (J 1 (140 + 6 * (40 * l + p) + 3)) 1 I) fun _ I22 => zr 0 I22) (zg (0 ≤ ((40 * l + p : Nat) : Int) ∧ ((40 * l + p : Nat) : Int) < 240) (zw J (0 + 13) ((40 * l + p : Nat) : Int).toNat 1 fun I44 => zg (0 ≤ I44 0 35 ∧ I44 0 35 < 8) (zw I44 (0 + 15) (I44 0 35).toNat ((40 * l + p : Nat) : Int) fun I46 => zw I46 0 35 (wr32 (I46 0 35 + 1)) fun I48 => zr 0 I48))) EQJ := by
  have hP : PKR I J := h.2.2.2.2.2.1
  have hk : INL J (40 * l + p) := ⟨by omega, by rw [show (40 * l + p) / 40 = l by omega, show (40 * l + p) % 40 = p by omega]; exact hp⟩
  have gf := (gx_facts hg).2.2.2.2.1 _ hk
  obtain ⟨n, hn⟩ : ∃ n : Nat, J 0 35 = (n : Int) := ⟨(J 0 35).toNat, by have := hP.1.2.2.1; omega⟩
  refine pq_gr (fun _ => pq_zwr' (fun J1 e1 => ?_))
  have j1 : J1 0 35 = (n : Int) := by rw [e1, if_neg (by omega)]; exact hn
  rw [j1]
  refine pq_gr (fun hx => pq_zwr' (fun J2 e2 => ?_))
  have j2 : J2 0 35 = (n : Int) := by rw [e2, if_neg (by omega)]; exact j1
  rw [j2, wr32_i2 (x := (n : Int) + 1) (by omega) (by omega)]
  refine pq_zwr' (fun J3 e3 => ?_)
  have i8 : I 137 8 = (n : Int) := hP.1.2.1.trans hn
  refine pq_bl (cv_sit (fu := fu) 137 (40 * l + p) (J 1 (141 + 6 * (40 * l + p))) (J 1 (140 + 6 * (40 * l + p) + 3)) 1 I hk.1 (by rw [i8]; omega)) (fun _ I1 _ g => pq_end ⟨?_, rfl⟩)
  have hI : ∀ q j, I1 q j = if q = 137 ∧ j = 11 then (if I 137 11 = 0 then (if J 1 (140 + 6 * (40 * l + p) + 3) = 1 then 0 else 1) else 1) else if q = 137 ∧ j = 10 then (if I 137 10 = 0 then (if J 1 (140 + 6 * (40 * l + p) + 3) = 2 then 1 else 0) else 1) else if q = 137 ∧ j = 7 then wr32 (I 137 7 - J 1 (141 + 6 * (40 * l + p))) else if q = 137 ∧ j = 8 then I 137 8 + 1 else if q = 140 ∧ j = n then J 1 (141 + 6 * (40 * l + p)) else if q = 139 ∧ j = n then ((40 * l + p : Nat) : Int) else if q = 138 ∧ j = 40 * l + p then 1 else I q j := by
    intro q j
    rw [g q j, i8]
    rfl
  have hJ : ∀ q j, J3 q j = if q = 0 ∧ j = 35 then (n : Int) + 1 else if q = 15 ∧ j = n then ((40 * l + p : Nat) : Int) else if q = 13 ∧ j = 40 * l + p then 1 else J q j := by
    intro q j
    rw [e3, e2, e1]
    rfl
  have io : ∀ q j, q < 137 ∨ 140 < q → I1 q j = I q j := fun q j hq => by rw [hI, if_neg (by omega), if_neg (by omega), if_neg (by omega), if_neg (by omega), if_neg (by omega), if_neg (by omega), if_neg (by omega)]
  have jo : ∀ q j, q ≠ 13 → q ≠ 15 → ¬ (q = 0 ∧ j = 35) → J3 q j = J q j := fun q j a1 a2 a3 => by rw [hJ, if_neg a3, if_neg (by omega), if_neg (by omega)]
  have h' := h
  obtain ⟨⟨hR, hz, hA⟩, a, b, c, d, e, ⟨L, t1, t2, t3, t4⟩, f⟩ := h'
  refine rj_mv h ⟨hr_mv hR (fun d j q => io _ _ (by unfold CH at q; omega)) (fun j _ => jo _ _ (by omega) (by omega) (by omega)), ?_, ?_, ?_⟩ (io _ _ (by omega)) (fun q j q => io _ _ (by omega)) (fun q j q => jo _ _ (by omega) (by omega) (by omega)) (pk_add hP hk z13 hn (by omega) rfl rfl gf hfit hI hJ) ⟨L, t1, ?_, ?_, fun j hj => ?_⟩ ⟨?_, ?_⟩
  · rw [io _ _ (by omega), jo _ _ (by omega) (by omega) (by omega)]; exact hz
  · rw [io _ _ (by omega)]; exact hA.1
  · rw [io _ _ (by omega)]; exact hA.2
  · rw [io _ _ (by omega)]; exact t2
  · rw [jo _ _ (by omega) (by omega) (by omega)]; exact t3
  · rw [io _ _ (by omega), jo _ _ (by omega) (by omega) (by omega)]; exact t4 j hj
  · rw [io _ _ (by omega), jo _ _ (by omega) (by omega) (by omega)]; exact f.1
  · rw [io _ _ (by omega), jo _ _ (by omega) (by omega) (by omega)]; exact f.2
theorem ev_isSeen (o l p : Nat) (I : IMem) (hl : l < 6) (hp : (p : Int) < I (o + 2) l) : f_L_isSeen fu o (l : Int) (p : Int) I = zr (if (p : Int) < I (o + 3) l then 1 else 0) I := by
  unfold f_L_isSeen
  rw [ev_has fu o l p I hl, if_pos (show 0 ≤ (p : Int) ∧ (p : Int) < I (o + 2) l by omega), zb_zr, if_neg ne10, zg_t (show 0 ≤ (l : Int) ∧ (l : Int) < 6 by omega), show ((l : Nat) : Int).toNat = l from rfl]
  by_cases q : (p : Int) < I (o + 3) l
  · rw [if_pos q, if_pos q]
  · rw [if_neg q, if_neg q]
theorem judge2 (a b : Int) (h : RJ I J) (hg : GX 0 J) : pq (f_C_judge fu 137 1 a b I) (f_X_pick fu 0 a b J) EQJ := by
  obtain ⟨hS, hY, hH, hL, hW⟩ : HR 1 1 I J := h.1.1
  have hP : PKR I J := h.2.2.2.2.2.1
  have gs := (gx_facts hg).1
  unfold f_C_judge f_X_pick
  simp only [zl_e, zj_e]
  rw [ev_xLine, zb_zr]
  by_cases h1 : 0 ≤ a ∧ a < 6
  · rw [if_pos h1, if_neg ne10]
    obtain ⟨l, rfl⟩ : ∃ l : Nat, a = (l : Int) := ⟨a.toNat, by omega⟩
    have hl : l < 6 := by omega
    obtain ⟨c1, c2, c3⟩ := hl_c hL hl
    rw [w_130 l hl, ev_has fu (1 + 6) l b I hl, zb_zr, show I (1 + 6 + 2) l = J 1 (130 + l) from c1]
    refine pq_gr (fun _ => ?_)
    rw [show J (0 + 1) ((130 + l : Nat) : Int).toNat = J 1 (130 + l) from rfl, wr32_i2 (x := J 1 (130 + l) - 1) (by omega) (by omega), ev_isIn, zb_zr]
    by_cases h2 : 0 ≤ b ∧ b < J 1 (130 + l)
    · rw [if_pos h2, if_neg ne10, if_pos (show 0 ≤ b ∧ b ≤ J 1 (130 + l) - 1 by omega), if_neg ne10]
      obtain ⟨p, rfl⟩ : ∃ p : Nat, b = (p : Int) := ⟨b.toNat, by omega⟩
      have hp := h2.2
      have p40 : p < 40 := by omega
      have hk : INL J (40 * l + p) := ⟨by omega, by rw [show (40 * l + p) / 40 = l by omega, show (40 * l + p) % 40 = p by omega]; exact hp⟩
      have gz := (gx_facts hg).2.2.2.2.1 _ hk
      have wk : Wq (wr32 (wr32 (40 * (l : Int)) + (p : Int))) (((40 * l + p : Nat) : Int)) := by show wr32 (wr32 (40 * (l : Int)) + (p : Int)) = ((40 * l + p : Nat) : Int); rw [wr32_i2 (x := 40 * (l : Int)) (by omega) (by omega), wr32_i2 (by omega) (by omega)]; omega
      have w10 : Wq (wr32 (10 + (l : Int))) (((10 + l : Nat) : Int)) := by show wr32 (10 + (l : Int)) = ((10 + l : Nat) : Int); rw [wr32_i2 (by omega) (by omega)]; omega
      rw [w_row l p hl (by omega), wk.e, w10.e, ev_cstands fu 137 (40 * l + p) I (by omega), zb_zr]
      refine pq_gr (fun _ => ?_)
      rw [show J (0 + 13) ((40 * l + p : Nat) : Int).toNat = J 13 (40 * l + p) from rfl, show I (137 + 1) (40 * l + p) = I 138 (40 * l + p) from rfl]
      rcases hP.2.1 (40 * l + p) (by omega) with ⟨m1, m2⟩ | ⟨m1, m2, _, _, _⟩
      · rw [m1, if_pos eq00, if_neg ne10, m2, if_pos eq00, ev_get1 fu (1 + 6) _ I (by omega), zb_zr, ev_get3 fu (1 + 6) _ I (by omega), zb_zr, ev_isSeen (1 + 6) l p I hl (show (p : Int) < I 9 l by have : I 9 l = J 1 (130 + l) := c1; omega), zb_zr]
        have r1 : I (1 + 6 + 1) (6 * (40 * l + p) + 1) = J 1 (141 + 6 * (40 * l + p)) := (hl_r hL hl hp (show 1 < 6 by decide)).trans (congrArg (J 1) (by omega))
        have r3 : I (1 + 6 + 1) (6 * (40 * l + p) + 3) = J 1 (140 + 6 * (40 * l + p) + 3) := hl_r hL hl hp (show 3 < 6 by decide)
        have r9 : I (1 + 6 + 3) l = J 1 (10 + l) := hS.2.2.2.1 l hl
        rw [r1, r3, r9]
        refine pq_gr (fun _ => ?_)
        rw [show J (0 + 1) ((10 + l : Nat) : Int).toNat = J 1 (10 + l) from rfl]
        by_cases h4 : (p : Int) < J 1 (10 + l)
        · rw [if_pos h4, if_neg ne10, if_pos h4]
          have hb : ∀ k, k < 240 → J 13 k ≠ 0 → 1 ≤ J 1 (141 + 6 * k) ∧ J 1 (141 + 6 * k) ≤ 8 := by
            intro k hk q
            rcases hP.2.1 k hk with ⟨_, y⟩ | ⟨_, _, _, y⟩
            · exact absurd y q
            · exact y
          have c7 : J 1 1 - pS J 240 = I 137 7 := by have := hP.2.2.2.2.2.1.2; omega
          have q74 := fun (kk : Int → Int → Int → IMem → Res) => xv_pick74 (fu := fu) (J := J) (Q := fun y J' => kk (J 1 1 - pS J 240) (pD J 240) (pC J 240) J = some (y, J')) kk (l : Int) (p : Int) (J 1 1) (by omega) hb (fun y J' e => e) fu 0 (by decide)
          rw [show J (0 + 1) 1 = J 1 1 - pS J 0 from (Int.sub_zero (J 1 1)).symm]
          refine pq_par (q74 _) ?_
          try dsimp only
          rw [c7, ev_of1 fu 0 l p J hl p40, zb_zr, show J (0 + 1) (140 + 6 * (40 * l + p) + 1) = J 1 (141 + 6 * (40 * l + p)) from congrArg (J 1) (by omega)]
          refine pq_ii Iff.rfl (fun _ _ => pq_end ⟨h, rfl⟩) (fun hf _ => ?_)
          rw [ev_of3 fu 0 l p J hl p40, zb_zr, ev_of3 fu 0 l p J hl p40, zb_zr, show J (0 + 1) (140 + 6 * (40 * l + p) + 3) = J 1 (140 + 6 * (40 * l + p) + 3) from rfl]
          have fin := pick_fin (fu := fu) h hg hl hp p40 m2 (by omega)
          have tail : pq (if I 137 10 = 0 then (if J 1 (140 + 6 * (40 * l + p) + 3) = 2 then (if 0 < I 137 8 then zr 5 I else zb (f_C_sit fu 137 ((40 * l + p : Nat) : Int) (J 1 (141 + 6 * (40 * l + p))) (J 1 (140 + 6 * (40 * l + p) + 3)) 1 I) fun _ I22 => zr 0 I22) else zb (f_C_sit fu 137 ((40 * l + p : Nat) : Int) (J 1 (141 + 6 * (40 * l + p))) (J 1 (140 + 6 * (40 * l + p) + 3)) 1 I) fun _ I22 => zr 0 I22) else zr 5 I) (if 0 < pD J 240 then zr 5 J else (if J 1 (140 + 6 * (40 * l + p) + 3) = 2 then (if 0 < J 0 35 then zr 5 J else zg (0 ≤ ((40 * l + p : Nat) : Int) ∧ ((40 * l + p : Nat) : Int) < 240) (zw J (0 + 13) ((40 * l + p : Nat) : Int).toNat 1 fun I44 => zg (0 ≤ I44 0 35 ∧ I44 0 35 < 8) (zw I44 (0 + 15) (I44 0 35).toNat ((40 * l + p : Nat) : Int) fun I46 => zw I46 0 35 (wr32 (I46 0 35 + 1)) fun I48 => zr 0 I48))) else zg (0 ≤ ((40 * l + p : Nat) : Int) ∧ ((40 * l + p : Nat) : Int) < 240) (zw J (0 + 13) ((40 * l + p : Nat) : Int).toNat 1 fun I44 => zg (0 ≤ I44 0 35 ∧ I44 0 35 < 8) (zw I44 (0 + 15) (I44 0 35).toNat ((40 * l + p : Nat) : Int) fun I46 => zw I46 0 35 (wr32 (I46 0 35 + 1)) fun I48 => zr 0 I48)))) EQJ := by
            rcases hP.2.2.2.2.2.2.1 with ⟨x1, x2⟩ | ⟨x1, x2⟩
            · rw [x1, if_pos eq00, x2, if_neg (show ¬ (0 : Int) < 0 by decide)]
              refine pq_ii Iff.rfl (fun _ _ => pq_ii (by rw [hP.1.2.1]) (fun _ _ => pq_end ⟨h, rfl⟩) (fun _ _ => fin)) (fun _ _ => fin)
            · rw [x1, if_neg ne10, if_pos x2]
              exact pq_end ⟨h, rfl⟩
          refine pq_ii Iff.rfl (fun _ _ => ?_) (fun _ _ => tail)
          refine pq_ii ?_ (fun _ _ => pq_end ⟨h, rfl⟩) (fun _ _ => tail)
          rcases hP.2.2.2.2.2.2.2 with ⟨x1, x2⟩ | ⟨x1, x2⟩
          · rw [x1, x2]
          · rw [x1]; exact ⟨fun z => absurd z ne10, fun z => by omega⟩
        · rw [if_neg h4, if_pos eq00, if_neg h4]
          exact pq_end ⟨h, rfl⟩
      · rw [m1, if_neg ne10, if_pos eq00, m2, if_neg ne10]
        exact pq_end ⟨h, rfl⟩
    · rw [if_neg h2, if_pos eq00, if_neg (show ¬ (0 ≤ b ∧ b ≤ J 1 (130 + l) - 1) by omega), if_pos eq00]
      exact pq_end ⟨h, rfl⟩
  · have e0 : f_L_has fu (1 + 6) a b I = zr 0 I := by
      unfold f_L_has
      rw [ev_isLine, if_neg h1, zb_zr, if_pos eq00]
    rw [if_neg h1, if_pos eq00, e0, zb_zr, if_pos eq00]
    exact pq_end ⟨h, rfl⟩
theorem pj_pick (a b : Int) (h : RJ I J) (hg : GX 0 J) : pq (f_S_pick fu 0 a b I) (f_X_pick fu 0 a b J) EQJ := by
  intro x I' y J' e1 e2
  obtain ⟨x1, I1, a1, a2⟩ := of_zb (show zb (f_C_judge fu 137 1 a b I) (fun y1 I2 => zr y1 I2) = some (x, I') from e1)
  cases a2
  exact judge2 a b h hg _ _ _ _ a1 e2
/-! the hand goes off -/
def dS (J : IMem) : Nat → Int
  | 0 => 0
  | i + 1 => dS J i + if J 1 (140 + 6 * (J 15 i).toNat + 3) = 2 then 1 else 0
def cS (J : IMem) : Nat → Int
  | 0 => 0
  | i + 1 => cS J i + if J 1 (140 + 6 * (J 15 i).toNat + 3) = 1 then 0 else 1
theorem dS_b (J : IMem) : ∀ n : Nat, (0 ≤ dS J n ∧ dS J n ≤ (n : Int)) ∧ (0 ≤ cS J n ∧ cS J n ≤ (n : Int)) ∧ (0 < dS J n ↔ ∃ i, i < n ∧ J 1 (140 + 6 * (J 15 i).toNat + 3) = 2) ∧ (0 < cS J n ↔ ∃ i, i < n ∧ J 1 (140 + 6 * (J 15 i).toNat + 3) ≠ 1) := by
  intro n
  induction n with
  | zero =>
    refine ⟨⟨Int.le_refl _, Int.le_refl _⟩, ⟨Int.le_refl _, Int.le_refl _⟩, ⟨fun h => absurd h (Int.lt_irrefl _), fun ⟨i, h, _⟩ => absurd h (Nat.not_lt_zero _)⟩, ⟨fun h => absurd h (Int.lt_irrefl _), fun ⟨i, h, _⟩ => absurd h (Nat.not_lt_zero _)⟩⟩
  | succ n ih =>
    obtain ⟨⟨a1, a2⟩, ⟨b1, b2⟩, c, d⟩ := ih
    have t1 : dS J (n + 1) = dS J n + if J 1 (140 + 6 * (J 15 n).toNat + 3) = 2 then 1 else 0 := rfl
    have t2 : cS J (n + 1) = cS J n + if J 1 (140 + 6 * (J 15 n).toNat + 3) = 1 then 0 else 1 := rfl
    rw [t1, t2]
    generalize hs : J 1 (140 + 6 * (J 15 n).toNat + 3) = s
    have up : ∀ P : Nat → Prop, (∃ i, i < n + 1 ∧ P i) ↔ (P n ∨ ∃ i, i < n ∧ P i) := by
      intro P
      constructor
      · intro ⟨i, h1, h2⟩
        by_cases q : i = n
        · left; rw [← q]; exact h2
        · right; exact ⟨i, by omega, h2⟩
      · intro h
        rcases h with h | ⟨i, h1, h2⟩
        · exact ⟨n, by omega, h⟩
        · exact ⟨i, by omega, h2⟩
    rw [up, up, ← c, ← d, hs]
    by_cases q : s = 2
    · rw [if_pos q, if_neg (show ¬ s = 1 by omega)]
      refine ⟨⟨by omega, by omega⟩, ⟨by omega, by omega⟩, ⟨fun _ => Or.inl q, fun _ => by omega⟩, ⟨fun _ => Or.inl (by omega), fun _ => by omega⟩⟩
    · rw [if_neg q]
      by_cases q2 : s = 1
      · rw [if_pos q2]
        refine ⟨⟨by omega, by omega⟩, ⟨by omega, by omega⟩, ⟨fun z => Or.inr (by omega), fun z => by rcases z with z | z <;> omega⟩, ⟨fun z => Or.inr (by omega), fun z => by rcases z with z | z <;> omega⟩⟩
      · rw [if_neg q2]
        refine ⟨⟨by omega, by omega⟩, ⟨by omega, by omega⟩, ⟨fun z => Or.inr (by omega), fun z => by rcases z with z | z <;> omega⟩, ⟨fun _ => Or.inl q2, fun _ => by omega⟩⟩
theorem pD_b (J : IMem) : ∀ n : Nat, 0 ≤ pD J n ∧ 0 ≤ pC J n ∧ (0 < pD J n ↔ ∃ k, k < n ∧ J 13 k ≠ 0 ∧ J 1 (140 + 6 * k + 3) = 2) ∧ (0 < pC J n ↔ ∃ k, k < n ∧ J 13 k ≠ 0 ∧ J 1 (140 + 6 * k + 3) ≠ 1) := by
  intro n
  induction n with
  | zero =>
    refine ⟨Int.le_refl _, Int.le_refl _, ⟨fun h => absurd h (Int.lt_irrefl _), fun ⟨i, h, _⟩ => absurd h (Nat.not_lt_zero _)⟩, ⟨fun h => absurd h (Int.lt_irrefl _), fun ⟨i, h, _⟩ => absurd h (Nat.not_lt_zero _)⟩⟩
  | succ n ih =>
    obtain ⟨a1, b1, c, d⟩ := ih
    have t2 : pD J (n + 1) = pD J n + (if J 13 n = 0 then 0 else if J 1 (140 + 6 * n + 3) = 2 then 1 else 0) := rfl
    have t3 : pC J (n + 1) = pC J n + (if J 13 n = 0 then 0 else if J 1 (140 + 6 * n + 3) = 1 then 0 else 1) := rfl
    rw [t2, t3]
    have up : ∀ P : Nat → Prop, (∃ i, i < n + 1 ∧ P i) ↔ (P n ∨ ∃ i, i < n ∧ P i) := by
      intro P
      constructor
      · intro ⟨i, h1, h2⟩
        by_cases q : i = n
        · left; rw [← q]; exact h2
        · right; exact ⟨i, by omega, h2⟩
      · intro h
        rcases h with h | ⟨i, h1, h2⟩
        · exact ⟨n, by omega, h⟩
        · exact ⟨i, by omega, h2⟩
    rw [up (fun k => J 13 k ≠ 0 ∧ J 1 (140 + 6 * k + 3) = 2), up (fun k => J 13 k ≠ 0 ∧ J 1 (140 + 6 * k + 3) ≠ 1), ← c, ← d]
    generalize J 1 (140 + 6 * n + 3) = s
    by_cases z : J 13 n = 0
    · rw [if_pos z, if_pos z]
      refine ⟨by omega, by omega, ⟨fun y => Or.inr (by omega), fun y => ?_⟩, ⟨fun y => Or.inr (by omega), fun y => ?_⟩⟩
      · rcases y with y | y
        · exact absurd z y.1
        · omega
      · rcases y with y | y
        · exact absurd z y.1
        · omega
    · rw [if_neg z, if_neg z]
      by_cases q : s = 2
      · rw [if_pos q, if_neg (show ¬ s = 1 by omega)]
        exact ⟨by omega, by omega, ⟨fun _ => Or.inl ⟨z, q⟩, fun _ => by omega⟩, ⟨fun _ => Or.inl ⟨z, by omega⟩, fun _ => by omega⟩⟩
      · rw [if_neg q]
        by_cases q2 : s = 1
        · rw [if_pos q2]
          refine ⟨by omega, by omega, ⟨fun y => Or.inr (by omega), fun y => ?_⟩, ⟨fun y => Or.inr (by omega), fun y => ?_⟩⟩
          · rcases y with y | y
            · exact absurd y.2 q
            · omega
          · rcases y with y | y
            · exact absurd q2 y.2
            · omega
        · rw [if_neg q2]
          refine ⟨by omega, by omega, ⟨fun y => Or.inr (by omega), fun y => ?_⟩, ⟨fun _ => Or.inl ⟨z, q2⟩, fun _ => by omega⟩⟩
          rcases y with y | y
          · exact absurd y.2 q
          · omega
/-- the first i of the hand sit -/
def TKR (I J0 : IMem) (i : Nat) (J : IMem) : Prop :=
  (J 0 30 = J0 1 1 - sm (I 140) i ∧ J 0 31 = (i : Int) ∧ J 0 32 = 0 ∧ J 0 33 = dS J0 i ∧ J 0 34 = cS J0 i) ∧
  (∀ i' : Nat, i' < i → J 11 i' = J0 15 i') ∧
  (∀ k : Nat, k < 240 → ((∃ i' : Nat, i' < i ∧ J0 15 i' = (k : Int)) → J 9 k = J0 1 (141 + 6 * k)) ∧ ((∀ i' : Nat, i' < i → J0 15 i' ≠ (k : Int)) → J 9 k = 0)) ∧
  (∀ k, k < 240 → J 12 k = 0) ∧
  ∀ q j, q ≠ 9 → q ≠ 11 → q ≠ 12 → ¬ (q = 0 ∧ 30 ≤ j ∧ j ≤ 34) → J q j = J0 q j
theorem xv_send6 {Q : Int → IMem → Int → IMem → Prop} (kk : IMem → Res) (m1 : Res) (I J0 : IMem) {n : Nat} (h : PKR I J0) (hn : J0 0 35 = (n : Int)) (n8 : n ≤ 8) (hs : 2 ≤ J0 1 1 ∧ J0 1 1 ≤ 8) (hz : ∀ k, INL J0 k → 1 ≤ J0 1 (141 + 6 * k) ∧ J0 1 (141 + 6 * k) ≤ 8) (hend : ∀ J, TKR I J0 n J → pq m1 (kk J) Q) : ∀ (m i : Nat) (J : IMem), i ≤ n → TKR I J0 i J → pq m1 (f_X_send_6 fu kk 0 m (i : Int) J) Q := by
  intro m
  induction m with
  | zero => intro _ _ _ _; exact pq_nr
  | succ m ih =>
    intro i J hi hT
    have hT' := hT
    obtain ⟨⟨r1, r2, r3, r4, r5⟩, b, c, d, e⟩ := hT'
    show pq m1 (fb_X_send_6 fu kk 0 (f_X_send_6 fu kk 0 m) (i : Int) J) Q
    unfold fb_X_send_6
    rw [e 0 35 (by omega) (by omega) (by omega) (by omega), hn]
    by_cases q : i < n
    · rw [if_pos (show (i : Int) < (n : Int) by omega)]
      refine pq_gr (fun _ => pq_gr (fun _ => pq_gr (fun _ => ?_)))
      obtain ⟨k, k1, k2, k3, k4, k5⟩ := h.2.2.1 i (by omega)
      have k240 := k1.1
      obtain ⟨z1, z2⟩ := hz k k1
      rw [show J (0 + 15) ((i : Nat) : Int).toNat = (k : Int) from (e 15 i (by omega) (by omega) (by omega) (by omega)).trans k2]
      have u0 : Wq (wr32 (6 * (k : Int))) (((6 * k : Nat) : Int)) := by show wr32 (6 * (k : Int)) = ((6 * k : Nat) : Int); rw [wr32_i2 (by omega) (by omega)]; omega
      have u1 : Wq (wr32 (140 + ((6 * k : Nat) : Int))) (((140 + 6 * k : Nat) : Int)) := by show wr32 (140 + ((6 * k : Nat) : Int)) = ((140 + 6 * k : Nat) : Int); rw [wr32_i2 (by omega) (by omega)]; omega
      have u2 : Wq (wr32 (((140 + 6 * k : Nat) : Int) + 1)) (((141 + 6 * k : Nat) : Int)) := by show wr32 (((140 + 6 * k : Nat) : Int) + 1) = ((141 + 6 * k : Nat) : Int); rw [wr32_i2 (by omega) (by omega)]; omega
      simp only [zl_e]
      rw [u0.e, u1.e, u2.e, wd40 k k240, wr40 k k240, w_nx i (by omega)]
      refine pq_gr (fun _ => ?_)
      rw [show J (0 + 1) ((141 + 6 * k : Nat) : Int).toNat = J0 1 (141 + 6 * k) from e 1 _ (by omega) (by omega) (by omega) (by omega)]
      refine pq_br (xv_takes (fu := fu) (k / 40) (k % 40) (J0 1 (141 + 6 * k)) J (by omega) (by omega) (by rw [r2]; omega)) (fun _ J1 _ g => ?_)
      have so : J 1 (140 + 6 * (40 * (k / 40) + k % 40) + 3) = J0 1 (140 + 6 * k + 3) := by
        rw [e 1 _ (by omega) (by omega) (by omega) (by omega), show 40 * (k / 40) + k % 40 = k by omega]
      have kt : (J0 15 i).toNat = k := by rw [k2]; rfl
      obtain ⟨⟨d1, d2⟩, ⟨d3, d4⟩, _, _⟩ := dS_b J0 i
      have s1 : sm (I 140) (i + 1) = sm (I 140) i + I 140 i := rfl
      have sb : 0 ≤ sm (I 140) i ∧ sm (I 140) i ≤ 8 * (i : Int) := by
        have : ∀ j : Nat, j ≤ i → 0 ≤ sm (I 140) j ∧ sm (I 140) j ≤ 8 * (j : Int) := by
          intro j
          induction j with
          | zero => intro _; exact ⟨Int.le_refl _, Int.le_refl _⟩
          | succ j ihj =>
            intro hj
            obtain ⟨y1, y2⟩ := ihj (by omega)
            obtain ⟨k', x1, x2, x3, x4, x5⟩ := h.2.2.1 j (by omega)
            have := hz k' x1
            have s2 : sm (I 140) (j + 1) = sm (I 140) j + I 140 j := rfl
            omega
        exact this i (Nat.le_refl _)
      refine ih (i + 1) J1 q ⟨⟨?_, ?_, ?_, ?_, ?_⟩, fun i' hi' => ?_, fun k' hk' => ⟨fun ⟨i', x1, x2⟩ => ?_, fun x => ?_⟩, fun k' hk' => ?_, fun q' j a1 a2 a3 a4 => ?_⟩
      · rw [g, if_neg (by omega), if_neg (by omega), if_pos ⟨rfl, rfl⟩, r1, wr32_i2 (by omega) (by omega), s1, k4]; omega
      · rw [g, if_neg (by omega), if_neg (by omega), if_neg (by omega), if_pos ⟨rfl, rfl⟩, r2]; omega
      · rw [g, if_neg (by omega), if_neg (by omega), if_neg (by omega), if_neg (by omega), if_neg (by omega), if_neg (by omega)]; exact r3
      · have t : dS J0 (i + 1) = dS J0 i + if J0 1 (140 + 6 * (J0 15 i).toNat + 3) = 2 then 1 else 0 := rfl
        rw [g, if_neg (by omega), if_pos ⟨rfl, rfl⟩, so, r4, t, kt]
        by_cases y : J0 1 (140 + 6 * k + 3) = 2
        · rw [if_pos y, wr32_i2 (by omega) (by omega)]
        · rw [if_neg y, wr32_i2 (by omega) (by omega)]
      · have t : cS J0 (i + 1) = cS J0 i + if J0 1 (140 + 6 * (J0 15 i).toNat + 3) = 1 then 0 else 1 := rfl
        rw [g, if_pos ⟨rfl, rfl⟩, so, r5, t, kt]
        by_cases y : J0 1 (140 + 6 * k + 3) = 1
        · rw [if_pos y, wr32_i2 (by omega) (by omega)]
        · rw [if_neg y, wr32_i2 (by omega) (by omega)]
      · rw [g, if_neg (by omega), if_neg (by omega), if_neg (by omega), if_neg (by omega), r2]
        by_cases y : i' = i
        · rw [if_pos ⟨rfl, y⟩, y, k2]; omega
        · rw [if_neg (fun z => y z.2), if_neg (by omega)]; exact b i' (by omega)
      · rw [g, if_neg (by omega), if_neg (by omega), if_neg (by omega), if_neg (by omega), if_neg (by omega)]
        by_cases y : k' = 40 * (k / 40) + k % 40
        · rw [if_pos ⟨rfl, y⟩, show k' = k by omega]
        · rw [if_neg (fun z => y z.2)]
          refine (c k' hk').1 ⟨i', ?_, x2⟩
          by_cases y2 : i' = i
          · rw [y2, k2] at x2
            omega
          · omega
      · rw [g, if_neg (by omega), if_neg (by omega), if_neg (by omega), if_neg (by omega), if_neg (by omega)]
        have nk : ¬ k' = 40 * (k / 40) + k % 40 := fun z => x i (by omega) (by rw [k2]; omega)
        rw [if_neg (fun z => nk z.2)]
        exact (c k' hk').2 (fun i' hi' => x i' (by omega))
      · rw [g, if_neg (by omega), if_neg (by omega), if_neg (by omega), if_neg (by omega), if_neg (by omega), if_neg (by omega)]; exact d k' hk'
      · rw [g, if_neg (by omega), if_neg (by omega), if_neg (by omega), if_neg (by omega), if_neg (by omega), if_neg (by omega)]; exact e q' j a1 a2 a3 a4
    · rw [if_neg (show ¬ (i : Int) < (n : Int) by omega)]
      have : i = n := by omega
      subst this
      exact hend J hT
/-- so the hand is as a filled chair -/
theorem fe_hand {J2 : IMem} {n : Nat} (h : RJ I J) (hg : GX 0 J) (hn : J 0 35 = (n : Int)) (hT : TKR I J n J2) : FE 137 1 I J2 ∧ J2 0 32 = 0 ∧ (∀ k, INL J2 k ↔ INL J k) ∧ (∀ j, J2 1 j = J 1 j) := by
  obtain ⟨hS, hY, hH, hL, hW⟩ : HR 1 1 I J := h.1.1
  have hP : PKR I J := h.2.2.2.2.2.1
  obtain ⟨⟨a1, a2, a3, a4, a5⟩, b, c, d, e, ⟨f1, f2⟩, g, hh⟩ := hP
  obtain ⟨⟨r1, r2, r3, r4, r5⟩, tb, tc, td, te⟩ := hT
  have gs := gx_facts hg
  have j1 : ∀ j, J2 1 j = J 1 j := fun j => te 1 j (by omega) (by omega) (by omega) (by omega)
  have inl : ∀ k, INL J2 k ↔ INL J k := fun k => by unfold INL; rw [j1]
  rw [hn] at a2 a3 a5 c d f1
  have f1' : J 1 1 = I 137 7 + sm (I 140) n := f1
  obtain ⟨⟨d1, d2⟩, ⟨d3, d4⟩, d5, d6⟩ := dS_b J n
  obtain ⟨p1, p2, p3, p4⟩ := pD_b J 240
  have kof : ∀ k, k < 240 → J 13 k ≠ 0 → ∃ i : Nat, i < n ∧ J 15 i = (k : Int) := by
    intro k hk q
    rcases b k hk with ⟨_, x⟩ | ⟨_, x, _⟩
    · exact absurd x q
    · obtain ⟨i, i1, i2⟩ := e k hk x
      rw [hn] at i1
      exact ⟨i, by omega, i2⟩
  have eqD : 0 < dS J n ↔ 0 < pD J 240 := by
    rw [d5, p3]
    constructor
    · intro ⟨i, i1, i2⟩
      obtain ⟨k, k1, k2, _, _, k5⟩ := c i (by omega)
      refine ⟨k, k1.1, by rw [k5]; decide, ?_⟩
      rw [k2] at i2
      exact i2
    · intro ⟨k, k1, k2, k3⟩
      obtain ⟨i, i1, i2⟩ := kof k k1 k2
      exact ⟨i, i1, by rw [i2]; exact k3⟩
  have eqC : 0 < cS J n ↔ 0 < pC J 240 := by
    rw [d6, p4]
    constructor
    · intro ⟨i, i1, i2⟩
      obtain ⟨k, k1, k2, _, _, k5⟩ := c i (by omega)
      refine ⟨k, k1.1, by rw [k5]; decide, ?_⟩
      rw [k2] at i2
      exact i2
    · intro ⟨k, k1, k2, k3⟩
      obtain ⟨i, i1, i2⟩ := kof k k1 k2
      exact ⟨i, i1, by rw [i2]; exact k3⟩
  refine ⟨⟨⟨hs_mv hS (fun _ _ _ => rfl) (fun j _ => j1 j), hy_mv hY (fun _ => rfl) (fun j _ _ => j1 j), hp_mv hH (fun _ => ⟨rfl, rfl⟩) (fun j _ => j1 j), hw_mv hW (fun _ _ _ _ _ => rfl) (fun j _ _ => j1 j)⟩, fun l hl => ?_, ⟨?_, ?_, ?_⟩, ⟨?_, ?_, ?_, ?_⟩, ⟨?_, ?_⟩, ⟨?_, ?_⟩, fun k hk => ?_, fun i hi => ?_, fun i hi => ?_, ?_⟩, r3, inl, j1⟩
  · obtain ⟨x1, x2, x3⟩ := hL l hl
    refine ⟨by rw [j1]; exact x1, by rw [j1]; exact x2, fun p f hp hf => ?_⟩
    rw [j1] at hp
    have n3 : ¬ (I (137 + 1) (40 * l + p) = 3 ∧ (f = 1 ∨ f = 2)) := by
      intro z
      rcases b (40 * l + p) (by omega) with ⟨y, _⟩ | ⟨y, _⟩
      · have := z.1.symm.trans y; omega
      · have := z.1.symm.trans y; omega
    rw [if_neg n3, j1]
    exact x3 p f hp hf
  · rw [r1]; omega
  · rw [r2]; exact a2
  · rw [r3]; exact a1
  · rw [r1]; omega
  · rw [r2]; omega
  · rw [r1, r2]; omega
  · rw [r3]; decide
  · rw [r4]
    rcases g with ⟨x1, x2⟩ | ⟨x1, x2⟩
    · left; exact ⟨x1, by omega⟩
    · right; exact ⟨x1, eqD.mpr x2⟩
  · rw [r4, r2]; exact d2
  · rw [r5]
    rcases hh with ⟨x1, x2⟩ | ⟨x1, x2⟩
    · left; exact ⟨x1, by omega⟩
    · right; exact ⟨x1, eqC.mpr x2⟩
  · rw [r5, r2]; exact d4
  · rw [td k hk, j1]
    rcases b k hk with ⟨x1, x2⟩ | ⟨x1, x2, x3, x4, x5⟩
    · left
      refine ⟨x1, (tc k hk).2 (fun i' hi' z => ?_), rfl⟩
      obtain ⟨k', y1, y2, _, _, y5⟩ := c i' (by omega)
      have : k' = k := by omega
      rw [this, x2] at y5
      exact absurd y5 (by decide)
    · right; left
      obtain ⟨i, i1, i2⟩ := kof k hk (by rw [x2]; decide)
      have y9 := (tc k hk).1 ⟨i, i1, i2⟩
      exact ⟨x1, y9, by rw [y9]; exact x4, rfl⟩
  · rw [r2] at hi
    obtain ⟨k, k1, k2, k3, k4, k5⟩ := c i (by omega)
    have y9 := (tc k k1.1).1 ⟨i, by omega, k2⟩
    have z := gs.2.2.2.2.1 k k1
    refine ⟨k, (inl k).mpr k1, ?_, k3, ?_, ?_, ?_⟩
    · rw [tb i (by omega)]; exact k2
    · rw [y9]; exact k4
    · rw [y9]; exact z.1
    · rw [y9]; exact z.2
  · rw [r3] at hi; omega
  · rw [j1, r1, r2]
    show J 1 1 = J 1 1 - sm (I 140) n + sm (I 140) n
    omega
theorem pj_send (h : RJ I J) (hg : GX 0 J) (hrg : RG I) (hc : J 1 70 < 2000000000) : pq (f_S_send fu 0 I) (f_X_send fu 0 J) EQJ := by
  have gs := gx_facts hg
  have hP : PKR I J := h.2.2.2.2.2.1
  obtain ⟨n, hn⟩ : ∃ n : Nat, J 0 35 = (n : Int) := ⟨(J 0 35).toNat, by have := hP.1.2.2.1; omega⟩
  unfold f_S_send f_X_send
  refine pq_br (xv_begins (fu := fu) J) (fun _ J1 _ ⟨g1, ⟨g2, g3, g4, g5, g6⟩, g7⟩ => ?_)
  have hn8 : n ≤ 8 := by have := hP.1; omega
  have hT0 : TKR I J 0 J1 := ⟨⟨by rw [g2]; exact (Int.sub_zero _).symm, g3, g4, g5, g6⟩, fun i' hi' => absurd hi' (Nat.not_lt_zero _), fun k hk => ⟨fun ⟨i', x, _⟩ => absurd x (Nat.not_lt_zero _), fun _ => (g1 k hk).1⟩, fun k hk => (g1 k hk).2, fun q j b1 b2 b3 b4 => g7 q j b1 b3 b4⟩
  refine xv_send6 _ _ I J hP hn hn8 gs.1 gs.2.2.2.2.1 (fun J2 hT => ?_) fu 0 J1 (Nat.zero_le _) hT0
  obtain ⟨hF, f32, inl, j1⟩ := fe_hand h hg hn hT
  have h70 : 0 ≤ J 1 70 := gs.2.2.2.2.2.2
  have j22 : J2 0 22 = J 0 22 := hT.2.2.2.2 0 22 (by omega) (by omega) (by omega) (by omega)
  intro x I' y J' e1 e2
  obtain ⟨x1, I1, a1, a2⟩ := of_zb e1
  obtain ⟨y1, J3, b1, b2⟩ := of_zb e2
  cases b2
  obtain ⟨k1, k2, k3, k4, k5, k6, k7, _⟩ := leave2 (fu := fu) hF (by decide) (fun k hk => by rw [j1]; exact gs.2.2.2.2.1 k ((inl k).mp hk)) (by rw [f32]; decide) ⟨by rw [j1]; exact h70, by rw [j1]; exact hc⟩ (by rw [j1]; exact gs.1) hrg x1 I1 y J' a1 b1
  obtain ⟨x2, I2, c1, c2⟩ := of_zb a2
  cases c2
  have c1' : zb (f_C_clear fu (0 + 137) (I1 (0 + 2) 0) I1) (fun _ I2 => zr 0 I2) = some (x2, I') := c1
  obtain ⟨x3, I3, d1, d2⟩ := of_zb c1'
  cases d2
  obtain ⟨w1, w2, w3⟩ := cv_clear (fu := fu) (0 + 137) (I1 (0 + 2) 0) I1 x3 I' d1
  have fI : ∀ q j, ¬ (q = 1 ∨ q = 8 ∨ q = 9 ∨ q = 11 ∨ q = 12 ∨ q = 13) → I1 q j = I q j := fun q j hq => congrFun (fr_C_leave (fun q => q = 1 ∨ q = 8 ∨ q = 9 ∨ q = 11 ∨ q = 12 ∨ q = 13) fu (0 + 137) (0 + 1) I (by omega) (by omega) (by omega) (by omega) (by omega) (by omega) a1 q hq) j
  have fJ : ∀ q j, ¬ (q = 1 ∨ q = 13 ∨ q = 14 ∨ (q = 0 ∧ (j = 24 ∨ j = 35))) → J' q j = J2 q j := fc_X_goesOff (fun q j => q = 1 ∨ q = 13 ∨ q = 14 ∨ (q = 0 ∧ (j = 24 ∨ j = 35))) fu 0 J2 (fun _ => by omega) (fun _ => by omega) (fun _ => by omega) (by omega) (by omega) b1
  have fJ0 : ∀ q j, (q = 0 ∧ (j = 3 ∨ j = 12 ∨ j = 19 ∨ j = 21)) ∨ q = 2 ∨ q = 6 → J' q j = J q j := fun q j hq => (fJ q j (by omega)).trans (hT.2.2.2.2 q j (by omega) (by omega) (by omega) (by omega))
  have i20 : I1 2 0 = J' 1 1 := k2.1.1 0 (by decide)
  have i20' : I1 2 0 = J 1 1 := (fI 2 0 (by omega)).trans (h.1.1.1.1 0 (by decide))
  have fI' : ∀ q j, ¬ (q = 1 ∨ q = 8 ∨ q = 9 ∨ q = 11 ∨ q = 12 ∨ q = 13 ∨ q = 138 ∨ (q = 137 ∧ 7 ≤ j ∧ j ≤ 11)) → I' q j = I q j := fun q j hq => (w3 q j (by omega) (by omega)).trans (fI q j (by omega))
  have z11 : I' 1 11 = I 1 11 := (w3 1 11 (by omega) (by omega)).trans k6
  have h' := h
  obtain ⟨_, a2', _, _, _, e, ⟨L, t1, t2, t3, t4⟩, f⟩ := h'
  refine ⟨rj_mv h ⟨hr_mv k2 (fun d j q => w3 _ _ (by unfold CH at q; omega) (by unfold CH at q; omega)) (fun _ _ => rfl), ?_, ?_, ?_⟩ z11 (fun q j hq => fI' _ _ (by omega)) (fun q j hq => fJ0 q j (by omega)) (pk_zero k3 k4 (by rw [← i20, i20']; exact gs.1) w1 ⟨by rw [w2.1]; exact i20, w2.2⟩) ⟨L, t1, ?_, ?_, fun j hj => ?_⟩ ⟨?_, ?_⟩, k1⟩
  · rw [z11, k5, j22]; exact h.1.2.1
  · rw [w3 _ _ (by omega) (by omega), k7]; exact h.1.2.2.1
  · rw [w3 _ _ (by omega) (by omega), k7]; exact h.1.2.2.2
  · rw [fI' _ _ (by omega)]; exact t2
  · rw [fJ0 _ _ (by omega)]; exact t3
  · rw [fI' _ _ (by omega), fJ0 _ _ (by omega)]; exact t4 j hj
  · rw [fI' _ _ (by omega), fJ0 _ _ (by omega)]; exact f.1
  · rw [fI' _ _ (by omega), fJ0 _ _ (by omega)]; exact f.2
/-- the hand is emptied first -/
theorem drop2 {I2 : IMem} {x : Int} (h : RJ I J) (e : f_S_dropPicked fu 0 I = some (x, I2)) : x = 0 ∧ (∀ j, j < 240 → I2 138 j = 0) ∧ (I2 137 7 = J 1 1 ∧ I2 137 8 = 0 ∧ I2 137 9 = 0 ∧ I2 137 10 = 0 ∧ I2 137 11 = 0) ∧ (∀ q j, q ≠ 138 → ¬ (q = 137 ∧ 7 ≤ j ∧ j ≤ 11) → I2 q j = I q j) ∧ HX 1 I2 J := by
  have c1' : zb (f_C_clear fu (0 + 137) (I (0 + 2) 0) I) (fun _ I2 => zr 0 I2) = some (x, I2) := e
  obtain ⟨x3, I3, d1, d2⟩ := of_zb c1'
  cases d2
  obtain ⟨w1, w2, w3⟩ := cv_clear (fu := fu) (0 + 137) (I (0 + 2) 0) I x3 I2 d1
  have i20 : I 2 0 = J 1 1 := h.1.1.1.1 0 (by decide)
  refine ⟨rfl, w1, ⟨w2.1.trans i20, w2.2⟩, w3, hr_mv h.1.1 (fun d j q => w3 _ _ (by unfold CH at q; omega) (by unfold CH at q; omega)) (fun _ _ => rfl), ?_, ?_, ?_⟩
  · rw [w3 _ _ (by omega) (by omega)]; exact h.1.2.1
  · rw [w3 _ _ (by omega) (by omega)]; exact h.1.2.2.1
  · rw [w3 _ _ (by omega) (by omega)]; exact h.1.2.2.2
/-- after turns of the hill's own chair, with nobody picked -/
theorem rj_ride {I2 I' J' : IMem} (h : RJ I J) (w1 : ∀ j, j < 240 → I2 138 j = 0) (w2 : I2 137 7 = J 1 1 ∧ I2 137 8 = 0 ∧ I2 137 9 = 0 ∧ I2 137 10 = 0 ∧ I2 137 11 = 0) (w3 : ∀ q j, q ≠ 138 → ¬ (q = 137 ∧ 7 ≤ j ∧ j ≤ 11) → I2 q j = I q j) (hX : HX 1 I' J') (h13 : ∀ j, j < 240 → J' 13 j = 0) (h35 : J' 0 35 = 0) (hs : 2 ≤ J 1 1 ∧ J 1 1 ≤ 8) (fI : ∀ q j, (q = 0 ∨ (2 ≤ q ∧ q ≤ 7) ∨ (41 ≤ q ∧ q ≤ 80) ∨ q = 96 ∨ (137 ≤ q ∧ q ≤ 140) ∨ q = 144 ∨ q = 145 ∨ q = 151) → I' q j = I2 q j) (fJ : ∀ q j, (q = 0 ∧ (j = 3 ∨ j = 12 ∨ j = 19 ∨ j = 21 ∨ j = 22)) ∨ q = 2 ∨ q = 6 → J' q j = J q j) : RJ I' J' := by
  have i20 : I' 2 0 = J' 1 1 := hX.1.1.1 0 (by decide)
  have i20' : I' 2 0 = J 1 1 := ((fI 2 0 (by omega)).trans (w3 2 0 (by omega) (by omega))).trans (h.1.1.1.1 0 (by decide))
  have fI' : ∀ q j, ((q = 0 ∧ j = 8) ∨ (41 ≤ q ∧ q ≤ 80) ∨ q = 96 ∨ q = 144 ∨ q = 145 ∨ q = 151) → I' q j = I q j := fun q j hq => (fI q j (by omega)).trans (w3 q j (by omega) (by omega))
  have z11 : I' 1 11 = I 1 11 := by
    rw [hX.2.1, fJ 0 22 (by omega)]
    exact h.1.2.1.symm
  have h' := h
  obtain ⟨_, a2', _, _, _, e, ⟨L, t1, t2, t3, t4⟩, f⟩ := h'
  refine rj_mv h hX z11 (fun q j hq => fI' _ _ (by omega)) (fun q j hq => fJ q j (by omega)) (pk_zero h13 h35 (by rw [← i20, i20']; exact hs) (fun k hk => by rw [fI _ _ (by omega)]; exact w1 k hk) ⟨?_, ?_, ?_, ?_, ?_⟩) ⟨L, t1, ?_, ?_, fun j hj => ?_⟩ ⟨?_, ?_⟩
  · rw [fI _ _ (by omega), w2.1, ← i20, i20']
  · rw [fI _ _ (by omega)]; exact w2.2.1
  · rw [fI _ _ (by omega)]; exact w2.2.2.1
  · rw [fI _ _ (by omega)]; exact w2.2.2.2.1
  · rw [fI _ _ (by omega)]; exact w2.2.2.2.2
  · rw [fI' _ _ (by omega)]; exact t2
  · rw [fJ _ _ (by omega)]; exact t3
  · rw [fI' _ _ (by omega), fJ _ _ (by omega)]; exact t4 j hj
  · rw [fI' _ _ (by omega), fJ _ _ (by omega)]; exact f.1
  · rw [fI' _ _ (by omega), fJ _ _ (by omega)]; exact f.2
theorem pj_chair (hfu : 5000000000 < fu) (h : RJ I J) (hg : GX 0 J) (hC : GC I) (hc : J 1 70 < 2000000000) : pq (f_S_chair fu 0 I) (f_X_chair fu 0 J) EQJ := by
  have gs := gx_facts hg
  unfold f_S_chair
  intro x I' y J' e1 e2
  obtain ⟨x1, I2, a1, a2⟩ := of_zb e1
  obtain ⟨x2, I3, b1, b2⟩ := of_zb a2
  cases b2
  obtain ⟨_, w1, w2, w3, hX⟩ := drop2 h a1
  have hC2 : GC I2 := by
    have o := par_sat (ok_S_dropPicked fu 0 I hfu hC rfl) x1 I2 a1
    exact o.2.1
  obtain ⟨k1, ⟨k2, _, _⟩, k3, k4, _⟩ := ride2 (fu := fu) (oc := 130) (hb := 1) (Or.inr ⟨rfl, rfl⟩) hfu ⟨hX, hg, hC2⟩ hc x I' y J' b1 e2
  refine ⟨rj_ride h w1 w2 w3 k2 k3 k4 gs.1 (fun q j hq => ?_) (fun q j hq => ?_), k1⟩
  · exact congrFun (fr_C_ride (fun q => (16 ≤ q ∧ q < 41) ∨ (130 ≤ q ∧ q ≤ 136) ∨ q = 1 ∨ q = 8 ∨ q = 9 ∨ q = 11 ∨ q = 12 ∨ q = 13 ∨ q = 14) fu (0 + 130) (0 + 1) I2 (fun q a b => by omega) (by omega) (by omega) (by omega) (by omega) (by omega) (by omega) (by omega) (by omega) (by omega) (by omega) (by omega) (by omega) (by omega) (by omega) b1 q (by omega)) j
  · exact fc_X_chair (fun q j => ¬ ((q = 0 ∧ (j = 3 ∨ j = 12 ∨ j = 19 ∨ j = 21 ∨ j = 22)) ∨ q = 2 ∨ q = 6)) fu 0 J (fun _ => by omega) (fun _ => by omega) (fun _ => by omega) (fun _ => by omega) (fun _ => by omega) (fun _ => by omega) (fun _ => by omega) (fun _ => by omega) (by omega) (by omega) (by omega) (by omega) (by omega) (by omega) (by omega) (by omega) (by omega) (by omega) (by omega) (by omega) (by omega) (by omega) (by omega) (by omega) e2 q j (fun z => z hq)
theorem pj_run (a : Int) (hfu : 5000000000 < fu) (h : RJ I J) (hg : GX 0 J) (hC : GC I) (hc : J 1 70 + 60 < 2000000000) : pq (f_S_run fu 0 a I) (f_X_run fu 0 a J) EQJ := by
  have gs := gx_facts hg
  unfold f_S_run
  by_cases h1 : 1 ≤ a ∧ a ≤ 60
  · rw [if_neg (show ¬ a < 1 by omega), if_neg (show ¬ 60 < a by omega)]
    intro x I' y J' e1 e2
    have fJ := fc_X_run (fun q j => ¬ ((q = 0 ∧ (j = 3 ∨ j = 12 ∨ j = 19 ∨ j = 21 ∨ j = 22)) ∨ q = 2 ∨ q = 6)) fu 0 a J (fun _ => by omega) (fun _ => by omega) (fun _ => by omega) (fun _ => by omega) (fun _ => by omega) (fun _ => by omega) (fun _ => by omega) (fun _ => by omega) (by omega) (by omega) (by omega) (by omega) (by omega) (by omega) (by omega) (by omega) (by omega) (by omega) (by omega) (by omega) (by omega) (by omega) (by omega) (by omega) (by omega) (by omega) e2
    obtain ⟨x1, I2, a1, a2⟩ := of_zb e1
    obtain ⟨x2, I3, b1, b2⟩ := of_zb a2
    cases b2
    obtain ⟨_, w1, w2, w3, hX⟩ := drop2 h a1
    have hC2 : GC I2 := by
      have o := par_sat (ok_S_dropPicked fu 0 I hfu hC rfl) x1 I2 a1
      exact o.2.1
    unfold f_X_run at e2
    rw [ev_isIn, zb_zr, if_pos h1, if_neg ne10] at e2
    obtain ⟨k1, ⟨k2, _, _⟩, k3, k4⟩ := turns2 (fu := fu) (oc := 130) (hb := 1) (Or.inr ⟨rfl, rfl⟩) hfu a h1.2 fu fu 0 0 I2 J (by omega) ⟨hX, hg, hC2⟩ (by omega) (Or.inl (by omega)) x I' y J' b1 e2
    refine ⟨rj_ride h w1 w2 w3 k2 k3 k4 gs.1 (fun q j hq => ?_) (fun q j hq => fJ q j (fun z => z hq)), k1⟩
    exact congrFun (fr_C_turns (fun q => (16 ≤ q ∧ q < 41) ∨ (130 ≤ q ∧ q ≤ 136) ∨ q = 1 ∨ q = 8 ∨ q = 9 ∨ q = 11 ∨ q = 12 ∨ q = 13 ∨ q = 14 ∨ q = 15) fu (0 + 130) (0 + 1) a I2 (fun q a b => by omega) (by omega) (by omega) (by omega) (by omega) (by omega) (by omega) (by omega) (by omega) (by omega) (by omega) (by omega) (by omega) (by omega) (by omega) (by omega) b1 q (by omega)) j
  · rw [out2 (a := a < 1) (b := 60 < a) (by omega)]
    unfold f_X_run
    rw [ev_isIn, zb_zr, if_neg h1, if_pos eq00]
    exact pq_end ⟨h, rfl⟩
end
/-! the image: both sides -/
section
variable {fu : Nat} {I J : IMem}
/-- a law's text, copied -/
theorem cv_wcopy (a b : Nat) (hab : a + 5 ≤ b ∨ b + 5 ≤ a) (I : IMem) : par (f_W_copyFrom fu a b I) (fun _ I' => (I' a 4 = I b 4 ∧ (∀ j, j < 400 → I' (a + 1) j = I (b + 1) j) ∧ (∀ j, j < 17 → I' (a + 2) j = I (b + 2) j) ∧ (∀ j, j < 16 → I' (a + 3) j = I (b + 3) j)) ∧ ∀ q j, ¬ (a ≤ q ∧ q < a + 4) → I' q j = I q j) := by
  unfold f_W_copyFrom
  refine par_zw' (fun I1 e1 => par_zw' (fun I2 e2 => par_zg (fun _ => par_zc' (fun I3 e3 => par_zg (fun _ => par_zc' (fun I4 e4 => par_zg (fun _ => par_zc' (fun I5 e5 => par_zr ⟨⟨?_, fun j hj => ?_, fun j hj => ?_, fun j hj => ?_⟩, fun q j hq => ?_⟩))))))))
  · rw [e5, if_neg (by omega), e4, if_neg (by omega), e3, if_neg (by omega), e2, if_pos ⟨rfl, rfl⟩, e1, if_neg (by omega)]
  · rw [e5, if_neg (by omega), e4, if_neg (by omega), e3, if_pos (show a + 1 = a + 1 ∧ (0 : Int).toNat ≤ j ∧ j < (0 : Int).toNat + (400 : Int).toNat from ⟨rfl, Nat.zero_le _, by show j < 0 + 400; omega⟩), e2, if_neg (by omega), e1, if_neg (by omega)]
    exact congrArg (I (b + 1)) (show 0 + (j - 0) = j by omega)
  · rw [e5, if_neg (by omega), e4, if_pos (show a + 2 = a + 2 ∧ (0 : Int).toNat ≤ j ∧ j < (0 : Int).toNat + (17 : Int).toNat from ⟨rfl, Nat.zero_le _, by show j < 0 + 17; omega⟩), e3, if_neg (by omega), e2, if_neg (by omega), e1, if_neg (by omega)]
    exact congrArg (I (b + 2)) (show 0 + (j - 0) = j by omega)
  · rw [e5, if_pos (show a + 3 = a + 3 ∧ (0 : Int).toNat ≤ j ∧ j < (0 : Int).toNat + (16 : Int).toNat from ⟨rfl, Nat.zero_le _, by show j < 0 + 16; omega⟩), e4, if_neg (by omega), e3, if_neg (by omega), e2, if_neg (by omega), e1, if_neg (by omega)]
    exact congrArg (I (b + 3)) (show 0 + (j - 0) = j by omega)
  · rw [e5, if_neg (by omega), e4, if_neg (by omega), e3, if_neg (by omega), e2, if_neg (by omega), e1, if_neg (by omega)]
/-- a law's cells that are read -/
def LCP (a b : Nat) (I' I : IMem) : Prop := I' a 4 = I b 4 ∧ (∀ j, j < 400 → I' (a + 1) j = I (b + 1) j) ∧ (∀ j, j < 17 → I' (a + 2) j = I (b + 2) j) ∧ (∀ j, j < 16 → I' (a + 3) j = I (b + 3) j)
theorem lwr_cp {hb hb2 wo wo2 k : Nat} {I' J' : IMem} (hk : k < 5) (h : LWR hb wo k I J) (h1 : LCP (hb2 + 15 + 5 * k) (hb + 15 + 5 * k) I' I) (h2 : ∀ j, j < 6190 → J' wo2 j = J wo j) : LWR hb2 wo2 k I' J' := by
  obtain ⟨l, ⟨a1, a2, a3, a4⟩, b, c⟩ := h
  obtain ⟨g1, g2, g3, g4⟩ := h1
  have cl := c.1
  have cx := c.2.1
  refine ⟨l, ⟨?_, fun i hi => ?_, ?_, fun i r hr => ?_⟩, lx_mv hk c b (fun j _ h => h2 j (by omega)), c⟩
  · rw [g1]; exact a1
  · rw [g2 i (by omega)]; exact a2 i hi
  · rw [g3 0 (by decide)]; exact a3
  · have hi := lt_of_get hr
    obtain ⟨x1, x2⟩ := a4 i r hr
    refine ⟨?_, ?_⟩
    · rw [g3 _ (by omega)]; exact x1
    · rw [g4 _ (by omega)]; exact x2
/-- the hill's copy, all that is read -/
def HCP (a b : Nat) (I' I : IMem) : Prop := (I' a 6 = I b 6 ∧ I' a 7 = I b 7 ∧ I' a 11 = I b 11) ∧ (∀ j, j < 6 → I' (a + 1) j = I (b + 1) j) ∧ (∀ j, j < 9 → I' (a + 3) j = I (b + 3) j) ∧ (∀ j, j < 32 → I' (a + 4) j = I (b + 4) j) ∧ (∀ j, j < 9 → I' (a + 5) j = I (b + 5) j) ∧ (∀ j, j < 1440 → I' (a + 7) j = I (b + 7) j) ∧ (∀ j, j < 6 → I' (a + 8) j = I (b + 8) j) ∧ (∀ j, j < 6 → I' (a + 9) j = I (b + 9) j) ∧ (∀ j, j < 40 → I' (a + 10) j = I (b + 10) j) ∧ (∀ j, j < 30 → I' (a + 11) j = I (b + 11) j) ∧ (∀ j, j < 180 → I' (a + 12) j = I (b + 12) j) ∧ ∀ k, k < 5 → LCP (a + 15 + 5 * k) (b + 15 + 5 * k) I' I
theorem hr_cp {a b wo wo2 : Nat} {I' J' : IMem} (h : HR b wo I J) (hc : HCP a b I' I) (h2 : ∀ j, j < 6190 → J' wo2 j = J wo j) : HR a wo2 I' J' := by
  obtain ⟨⟨s1, s2, s3, s4, s5, s6, s7⟩, ⟨y1, y2⟩, ⟨p1, p2, p3, p4, p5⟩, hL, hW⟩ := h
  obtain ⟨⟨c1, c2, c3⟩, d1, d3, d4, d5, d7, d8, d9, d10, d11, d12, dl⟩ := hc
  refine ⟨⟨fun k hk => ?_, ?_, ?_, fun l hl => ?_, fun s g1 g2 => ?_, fun k hk => ?_, fun s g1 g2 => ?_⟩, ⟨fun k hk => ?_, fun s g1 g2 => ⟨?_, ?_, ?_⟩⟩, ⟨?_, ?_, ?_, fun i hi => ⟨?_, ?_⟩, fun k hk => ?_⟩, fun l hl => ?_, fun k hk => lwr_cp hk (hW k hk) (dl k hk) h2⟩
  · rw [d1 _ hk, h2 _ (by omega)]; exact s1 k hk
  · rw [c1, h2 _ (by omega)]; exact s2
  · rw [c2, h2 _ (by omega)]; exact s3
  · rw [d9 _ hl, h2 _ (by omega)]; exact s4 l hl
  · rw [d3 _ (by omega), h2 _ (by omega)]; exact s5 s g1 g2
  · rw [d4 _ hk, h2 _ (by omega)]; exact s6 k hk
  · rw [d5 _ (by omega), h2 _ (by omega)]; exact s7 s g1 g2
  · rw [d10 _ (by omega), h2 _ (by omega)]; exact y1 k hk
  · rw [d10 _ (by omega), h2 _ (by omega)]; exact (y2 s g1 g2).1
  · rw [d10 _ (by omega), h2 _ (by omega)]; exact (y2 s g1 g2).2.1
  · rw [d10 _ (by omega), h2 _ (by omega)]; exact (y2 s g1 g2).2.2
  · rw [h2 110 (by omega), h2 70 (by omega)]; exact p1
  · rw [h2 110 (by omega), d11 _ (by omega)]; exact p2
  · rw [h2 111 (by omega), d11 _ (by omega)]; exact p3
  · rw [h2 _ (by omega), d11 _ (by omega)]; exact (p4 i hi).1
  · rw [h2 _ (by omega), d11 _ (by omega)]; exact (p4 i hi).2
  · rw [h2 _ (by omega), d12 _ hk]; exact p5 k hk
  · obtain ⟨x1, x2, x3⟩ := hL l hl
    refine ⟨by rw [d8 _ hl, h2 _ (by omega)]; exact x1, by rw [h2 _ (by omega)]; exact x2, fun p f hp hf => ?_⟩
    rw [h2 _ (by omega)] at hp
    rw [d7 _ (by omega), h2 _ (by omega)]; exact x3 p f hp hf
theorem cv_hcopy2 {Q : Int → IMem → Prop} (kk : IMem → Res) (a b : Nat) (hab : a + 40 ≤ b ∨ b + 40 ≤ a) (I0 : IMem) (hend : ∀ I : IMem, (∀ k, k < 5 → LCP (a + 15 + 5 * k) (b + 15 + 5 * k) I I0) → (∀ q j, ¬ (a + 15 ≤ q ∧ q < a + 40) → I q j = I0 q j) → par (kk I) Q) : ∀ (m i : Nat) (I : IMem), i ≤ 5 → (∀ k, k < i → LCP (a + 15 + 5 * k) (b + 15 + 5 * k) I I0) → (∀ q j, ¬ (a + 15 ≤ q ∧ q < a + 40) → I q j = I0 q j) → par (f_H_copyFrom_2 fu kk a b m (i : Int) I) Q := by
  intro m
  induction m with
  | zero => intro _ _ _ _ _; exact par_none
  | succ m ih =>
    intro i I hi h1 h2
    show par (fb_H_copyFrom_2 fu kk a b (f_H_copyFrom_2 fu kk a b m) (i : Int) I) _
    unfold fb_H_copyFrom_2
    by_cases q : i < 5
    · rw [if_pos (show (i : Int) < 5 by omega), if_pos (show (i : Int) < 5 by omega)]
      refine par_zg (fun _ => par_zg (fun _ => ?_))
      rw [show ((i : Nat) : Int).toNat = i from rfl]
      refine par_zb (cv_wcopy (fu := fu) (a + 15 + 5 * i) (b + 15 + 5 * i) (by omega) I) (fun _ I1 ⟨⟨g1, g2, g3, g4⟩, g5⟩ => ?_)
      simp only [zl_e]
      rw [w_nx i (by omega)]
      refine ih (i + 1) I1 q (fun k hk => ?_) (fun q' j hq => ?_)
      · by_cases y : k = i
        · subst y
          refine ⟨?_, fun j hj => ?_, fun j hj => ?_, fun j hj => ?_⟩
          · rw [g1, h2 _ _ (by omega)]
          · rw [g2 j hj, h2 _ _ (by omega)]
          · rw [g3 j hj, h2 _ _ (by omega)]
          · rw [g4 j hj, h2 _ _ (by omega)]
        · obtain ⟨x1, x2, x3, x4⟩ := h1 k (by omega)
          refine ⟨?_, fun j hj => ?_, fun j hj => ?_, fun j hj => ?_⟩
          · rw [g5 _ _ (by omega)]; exact x1
          · rw [g5 _ _ (by omega)]; exact x2 j hj
          · rw [g5 _ _ (by omega)]; exact x3 j hj
          · rw [g5 _ _ (by omega)]; exact x4 j hj
      · rw [g5 _ _ (by omega)]; exact h2 q' j hq
    · rw [if_neg (show ¬ (i : Int) < 5 by omega)]
      have : i = 5 := by omega
      subst this
      exact hend I h1 h2
theorem cv_hcopy (a b : Nat) (hab : a + 40 ≤ b ∨ b + 40 ≤ a) (I : IMem) : par (f_H_copyFrom fu a b I) (fun _ I' => HCP a b I' I) := by
  unfold f_H_copyFrom
  refine cv_hcopy2 _ a b hab I (fun I1 h1 h2 => ?_) fu 0 I (by decide) (fun k hk => absurd hk (Nat.not_lt_zero _)) (fun _ _ _ => rfl)
  refine par_zb (Q1 := fun _ I2 => (∀ j, j < 1440 → I2 (a + 7) j = I (b + 7) j) ∧ (∀ j, j < 6 → I2 (a + 8) j = I (b + 8) j) ∧ (∀ j, j < 6 → I2 (a + 9) j = I (b + 9) j) ∧ ∀ q j, ¬ (a + 7 ≤ q ∧ q ≤ a + 9) → I2 q j = I1 q j) ?_ (fun _ I2 ⟨g7, g8, g9, g0⟩ => ?_)
  · unfold f_L_copyFrom
    refine par_zg (fun _ => par_zc' (fun I3 e3 => par_zg (fun _ => par_zc' (fun I4 e4 => par_zg (fun _ => par_zc' (fun I5 e5 => par_zr ⟨fun j hj => ?_, fun j hj => ?_, fun j hj => ?_, fun q j hq => ?_⟩))))))
    · rw [e5, if_neg (by omega), e4, if_neg (by omega), e3, if_pos (show a + 7 = a + 6 + 1 ∧ (0 : Int).toNat ≤ j ∧ j < (0 : Int).toNat + (1440 : Int).toNat from ⟨rfl, Nat.zero_le _, by show j < 0 + 1440; omega⟩), h2 _ _ (by omega)]
      exact congrArg (I (b + 7)) (show 0 + (j - 0) = j by omega)
    · rw [e5, if_neg (by omega), e4, if_pos (show a + 8 = a + 6 + 2 ∧ (0 : Int).toNat ≤ j ∧ j < (0 : Int).toNat + (6 : Int).toNat from ⟨rfl, Nat.zero_le _, by show j < 0 + 6; omega⟩), e3, if_neg (by omega), h2 _ _ (by omega)]
      exact congrArg (I (b + 8)) (show 0 + (j - 0) = j by omega)
    · rw [e5, if_pos (show a + 9 = a + 6 + 3 ∧ (0 : Int).toNat ≤ j ∧ j < (0 : Int).toNat + (6 : Int).toNat from ⟨rfl, Nat.zero_le _, by show j < 0 + 6; omega⟩), e4, if_neg (by omega), e3, if_neg (by omega), h2 _ _ (by omega)]
      exact congrArg (I (b + 9)) (show 0 + (j - 0) = j by omega)
    · rw [e5, if_neg (by omega), e4, if_neg (by omega), e3, if_neg (by omega)]
  have old : ∀ q j, ¬ (a + 15 ≤ q ∧ q < a + 40) → ¬ (a + 7 ≤ q ∧ q ≤ a + 9) → I2 q j = I q j := fun q j y1 y2 => (g0 q j y2).trans (h2 q j y1)
  refine par_zg (fun _ => par_zc' (fun I3 e3 => par_zg (fun _ => par_zc' (fun I4 e4 => par_zg (fun _ => par_zc' (fun I5 e5 => par_zg (fun _ => par_zc' (fun I6 e6 => par_zg (fun _ => par_zc' (fun I7 e7 => par_zg (fun _ => par_zc' (fun I8 e8 => par_zg (fun _ => par_zc' (fun I9 e9 => par_zw' (fun I10 e10 => par_zw' (fun I11 e11 => par_zw' (fun I12 e12 => par_zr ?_)))))))))))))))))
  have far : ∀ q j, ¬ (q = a ∧ (j = 6 ∨ j = 7 ∨ j = 11)) → q ≠ a + 1 → q ≠ a + 3 → q ≠ a + 4 → q ≠ a + 5 → q ≠ a + 10 → q ≠ a + 11 → q ≠ a + 12 → I12 q j = I2 q j := fun q j y0 y1 y3 y4 y5 y10 y11 y12 => by rw [e12, if_neg (by omega), e11, if_neg (by omega), e10, if_neg (by omega), e9, if_neg (by omega), e8, if_neg (by omega), e7, if_neg (by omega), e6, if_neg (by omega), e5, if_neg (by omega), e4, if_neg (by omega), e3, if_neg (by omega)]
  refine ⟨⟨?_, ?_, ?_⟩, fun j hj => ?_, fun j hj => ?_, fun j hj => ?_, fun j hj => ?_, fun j hj => ?_, fun j hj => ?_, fun j hj => ?_, fun j hj => ?_, fun j hj => ?_, fun j hj => ?_, fun k hk => ?_⟩
  · rw [e12, if_neg (by omega), e11, if_neg (by omega), e10, if_pos ⟨rfl, rfl⟩, e9, if_neg (by omega), e8, if_neg (by omega), e7, if_neg (by omega), e6, if_neg (by omega), e5, if_neg (by omega), e4, if_neg (by omega), e3, if_neg (by omega)]; exact old _ _ (by omega) (by omega)
  · rw [e12, if_neg (by omega), e11, if_pos ⟨rfl, rfl⟩, e10, if_neg (by omega), e9, if_neg (by omega), e8, if_neg (by omega), e7, if_neg (by omega), e6, if_neg (by omega), e5, if_neg (by omega), e4, if_neg (by omega), e3, if_neg (by omega)]; exact old _ _ (by omega) (by omega)
  · rw [e12, if_pos ⟨rfl, rfl⟩, e11, if_neg (by omega), e10, if_neg (by omega), e9, if_neg (by omega), e8, if_neg (by omega), e7, if_neg (by omega), e6, if_neg (by omega), e5, if_neg (by omega), e4, if_neg (by omega), e3, if_neg (by omega)]; exact old _ _ (by omega) (by omega)
  · rw [e12, if_neg (by omega), e11, if_neg (by omega), e10, if_neg (by omega), e9, if_neg (by omega), e8, if_neg (by omega), e7, if_neg (by omega), e6, if_neg (by omega), e5, if_neg (by omega), e4, if_neg (by omega), e3, if_pos (show a + 1 = a + 1 ∧ (0 : Int).toNat ≤ j ∧ j < (0 : Int).toNat + (6 : Int).toNat from ⟨rfl, Nat.zero_le _, by show j < 0 + 6; omega⟩), old _ _ (by omega) (by omega)]
    exact congrArg (I (b + 1)) (show 0 + (j - 0) = j by omega)
  · rw [e12, if_neg (by omega), e11, if_neg (by omega), e10, if_neg (by omega), e9, if_neg (by omega), e8, if_neg (by omega), e7, if_neg (by omega), e6, if_neg (by omega), e5, if_neg (by omega), e4, if_pos (show a + 3 = a + 3 ∧ (0 : Int).toNat ≤ j ∧ j < (0 : Int).toNat + (9 : Int).toNat from ⟨rfl, Nat.zero_le _, by show j < 0 + 9; omega⟩), e3, if_neg (by omega), old _ _ (by omega) (by omega)]
    exact congrArg (I (b + 3)) (show 0 + (j - 0) = j by omega)
  · rw [e12, if_neg (by omega), e11, if_neg (by omega), e10, if_neg (by omega), e9, if_neg (by omega), e8, if_neg (by omega), e7, if_neg (by omega), e6, if_neg (by omega), e5, if_pos (show a + 4 = a + 4 ∧ (0 : Int).toNat ≤ j ∧ j < (0 : Int).toNat + (32 : Int).toNat from ⟨rfl, Nat.zero_le _, by show j < 0 + 32; omega⟩), e4, if_neg (by omega), e3, if_neg (by omega), old _ _ (by omega) (by omega)]
    exact congrArg (I (b + 4)) (show 0 + (j - 0) = j by omega)
  · rw [e12, if_neg (by omega), e11, if_neg (by omega), e10, if_neg (by omega), e9, if_neg (by omega), e8, if_neg (by omega), e7, if_neg (by omega), e6, if_pos (show a + 5 = a + 5 ∧ (0 : Int).toNat ≤ j ∧ j < (0 : Int).toNat + (9 : Int).toNat from ⟨rfl, Nat.zero_le _, by show j < 0 + 9; omega⟩), e5, if_neg (by omega), e4, if_neg (by omega), e3, if_neg (by omega), old _ _ (by omega) (by omega)]
    exact congrArg (I (b + 5)) (show 0 + (j - 0) = j by omega)
  · rw [far _ _ (by omega) (by omega) (by omega) (by omega) (by omega) (by omega) (by omega) (by omega)]; exact g7 j hj
  · rw [far _ _ (by omega) (by omega) (by omega) (by omega) (by omega) (by omega) (by omega) (by omega)]; exact g8 j hj
  · rw [far _ _ (by omega) (by omega) (by omega) (by omega) (by omega) (by omega) (by omega) (by omega)]; exact g9 j hj
  · rw [e12, if_neg (by omega), e11, if_neg (by omega), e10, if_neg (by omega), e9, if_neg (by omega), e8, if_neg (by omega), e7, if_pos (show a + 10 = a + 10 ∧ (0 : Int).toNat ≤ j ∧ j < (0 : Int).toNat + (40 : Int).toNat from ⟨rfl, Nat.zero_le _, by show j < 0 + 40; omega⟩), e6, if_neg (by omega), e5, if_neg (by omega), e4, if_neg (by omega), e3, if_neg (by omega), old _ _ (by omega) (by omega)]
    exact congrArg (I (b + 10)) (show 0 + (j - 0) = j by omega)
  · rw [e12, if_neg (by omega), e11, if_neg (by omega), e10, if_neg (by omega), e9, if_neg (by omega), e8, if_pos (show a + 11 = a + 11 ∧ (0 : Int).toNat ≤ j ∧ j < (0 : Int).toNat + (30 : Int).toNat from ⟨rfl, Nat.zero_le _, by show j < 0 + 30; omega⟩), e7, if_neg (by omega), e6, if_neg (by omega), e5, if_neg (by omega), e4, if_neg (by omega), e3, if_neg (by omega), old _ _ (by omega) (by omega)]
    exact congrArg (I (b + 11)) (show 0 + (j - 0) = j by omega)
  · rw [e12, if_neg (by omega), e11, if_neg (by omega), e10, if_neg (by omega), e9, if_pos (show a + 12 = a + 12 ∧ (0 : Int).toNat ≤ j ∧ j < (0 : Int).toNat + (180 : Int).toNat from ⟨rfl, Nat.zero_le _, by show j < 0 + 180; omega⟩), e8, if_neg (by omega), e7, if_neg (by omega), e6, if_neg (by omega), e5, if_neg (by omega), e4, if_neg (by omega), e3, if_neg (by omega), old _ _ (by omega) (by omega)]
    exact congrArg (I (b + 12)) (show 0 + (j - 0) = j by omega)
  · obtain ⟨x1, x2, x3, x4⟩ := h1 k hk
    have w : ∀ d j, d < 4 → I12 (a + 15 + 5 * k + d) j = I1 (a + 15 + 5 * k + d) j := fun d j hd => by rw [far _ _ (by omega) (by omega) (by omega) (by omega) (by omega) (by omega) (by omega) (by omega), g0 _ _ (by omega)]
    exact ⟨(w 0 4 (by omega)).trans x1, fun j hj => (w 1 j (by omega)).trans (x2 j hj), fun j hj => (w 2 j (by omega)).trans (x3 j hj), fun j hj => (w 3 j (by omega)).trans (x4 j hj)⟩
/-- the reference's copy, one way or the other -/
theorem xv_img {Q : Int → IMem → Prop} (kk : IMem → Res) (p1 : Int) (J0 : IMem) (hend : ∀ J : IMem, (∀ j, j < 6190 → J (if p1 = 0 then 1 else 2) j = J0 (if p1 = 0 then 2 else 1) j) → (∀ q j, q ≠ (if p1 = 0 then 1 else 2) → J q j = J0 q j) → par (kk J) Q) : ∀ (m i : Nat) (J : IMem), i ≤ 6190 → (∀ j, j < i → J (if p1 = 0 then 1 else 2) j = J0 (if p1 = 0 then 2 else 1) j) → (∀ q j, q ≠ (if p1 = 0 then 1 else 2) → J q j = J0 q j) → par (f_X_image_15 fu kk 0 p1 m (i : Int) J) Q := by
  intro m
  induction m with
  | zero => intro _ _ _ _ _; exact par_none
  | succ m ih =>
    intro i J hi h1 h2
    show par (fb_X_image_15 fu kk 0 p1 (f_X_image_15 fu kk 0 p1 m) (i : Int) J) _
    unfold fb_X_image_15
    by_cases q : i < 6190
    · rw [if_pos (show (i : Int) < 6190 by omega)]
      have w1 : Wq (wr32 ((i : Int) + 1)) (((i + 1 : Nat) : Int)) := by show wr32 ((i : Int) + 1) = ((i + 1 : Nat) : Int); rw [wr32_i2 (by omega) (by omega)]; omega
      simp only [zl_e, zj_e]
      rw [w1.e]
      by_cases z : p1 = 0
      · rw [if_pos z]
        simp only [if_pos z] at h1 h2 ih
        refine par_zg (fun _ => par_zg (fun _ => par_zw' (fun J1 e1 => ih (i + 1) J1 q (fun j hj => ?_) (fun q' j hq => ?_))))
        · by_cases y : j = i
          · rw [e1, if_pos ⟨rfl, y⟩, y]
            exact h2 2 i (by decide)
          · rw [e1, if_neg (fun x => y x.2)]; exact h1 j (by omega)
        · rw [e1, if_neg (fun x => hq x.1)]; exact h2 q' j hq
      · rw [if_neg z]
        simp only [if_neg z] at h1 h2 ih
        refine par_zg (fun _ => par_zg (fun _ => par_zw' (fun J1 e1 => ih (i + 1) J1 q (fun j hj => ?_) (fun q' j hq => ?_))))
        · by_cases y : j = i
          · rw [e1, if_pos ⟨rfl, y⟩, y]
            exact h2 1 i (by decide)
          · rw [e1, if_neg (fun x => y x.2)]; exact h1 j (by omega)
        · rw [e1, if_neg (fun x => hq x.1)]; exact h2 q' j hq
    · rw [if_neg (show ¬ (i : Int) < 6190 by omega)]
      have : i = 6190 := by omega
      subst this
      exact hend J h1 h2
/-- the reference's image call -/
theorem xv_image0 (a : Int) (ha : a = 0) (J : IMem) (h : J 0 3 ≠ 0) : par (f_X_image fu 0 a J) (fun y J' => y = 1 ∧ (∀ j, j < 6190 → J' 1 j = J 2 j) ∧ (∀ j, j < 240 → J' 13 j = 0) ∧ J' 0 35 = 0 ∧ J' 0 3 = 1 ∧ ∀ q j, q ≠ 1 → q ≠ 13 → ¬ (q = 0 ∧ (j = 35 ∨ j = 3)) → J' q j = J q j) := by
  unfold f_X_image
  simp only [zj_e]
  rw [if_pos ha, if_neg h]
  refine xv_img _ a J (fun J1 h1 h2 => ?_) fu 0 J (by decide) (fun j hj => absurd hj (Nat.not_lt_zero _)) (fun _ _ _ => rfl)
  rw [if_pos ha] at h2
  simp only [if_pos ha] at h1
  rw [if_pos ha]
  refine par_zb (xv_forgets J1) (fun _ J2 ⟨g1, g2, g3⟩ => par_zw' (fun J3 e3 => par_zr ⟨rfl, fun j hj => ?_, fun j hj => ?_, ?_, ?_, fun q j a1 a2 a3 => ?_⟩))
  · rw [e3, if_neg (by omega), g3 _ _ (by omega) (by omega)]; exact h1 j hj
  · rw [e3, if_neg (by omega)]; exact g1 j hj
  · rw [e3, if_neg (by omega)]; exact g2
  · rw [e3, if_pos ⟨rfl, rfl⟩]
  · rw [e3, if_neg (by omega), g3 _ _ (by omega) (by omega)]; exact h2 q j a1
theorem xv_image1 (a : Int) (ha : a ≠ 0) (J : IMem) : par (f_X_image fu 0 a J) (fun y J' => y = 1 ∧ (∀ j, j < 6190 → J' 2 j = J 1 j) ∧ J' 0 3 = 1 ∧ ∀ q j, q ≠ 2 → ¬ (q = 0 ∧ j = 3) → J' q j = J q j) := by
  unfold f_X_image
  simp only [zj_e]
  rw [if_neg ha]
  refine xv_img _ a J (fun J1 h1 h2 => ?_) fu 0 J (by decide) (fun j hj => absurd hj (Nat.not_lt_zero _)) (fun _ _ _ => rfl)
  rw [if_neg ha] at h2
  simp only [if_neg ha] at h1
  rw [if_neg ha]
  refine par_zw' (fun J3 e3 => par_zr ⟨rfl, fun j hj => ?_, ?_, fun q j a1 a2 => ?_⟩)
  · rw [e3, if_neg (by omega)]; exact h1 j hj
  · rw [e3, if_pos ⟨rfl, rfl⟩]
  · rw [e3, if_neg a2]; exact h2 q j a1
theorem pj_image (a : Int) (h : RJ I J) (hg : GX 0 J) : pq (f_S_image fu 0 a I) (f_X_image fu 0 a J) EQJ := by
  have h' := h
  obtain ⟨hX, z11, b, c, d, e, ⟨L, t1, t2, t3, t4⟩, f⟩ := h'
  have g3 : J 0 3 = 0 ∨ J 0 3 = 1 := by
    obtain ⟨_, _, _, w, _⟩ := hg
    obtain ⟨_, _, _, _, _, _, _, _, w⟩ := w
    exact w
  by_cases ha : a = 0
  · by_cases h3 : J 0 3 = 0
    · have i8 : I 0 8 = 0 := b.trans h3
      unfold f_S_image f_X_image
      simp only [zj_e]
      rw [if_pos ha, if_pos i8, if_pos ha, if_pos h3]
      exact pq_gl (fun _ => pq_end ⟨h, i8⟩)
    · obtain ⟨c1, c2⟩ := c h3
      have j3 : J 0 3 = 1 := g3.resolve_left h3
      have i8 : I 0 8 = 1 := b.trans j3
      intro x I' y J' e1 e2
      obtain ⟨k1, k2, k3, k4, k5, k6⟩ := xv_image0 (fu := fu) a ha J h3 y J' e2
      unfold f_S_image at e1
      rw [if_pos ha, if_neg (by rw [i8]; decide)] at e1
      obtain ⟨x1, I1, a1, a2⟩ := of_zb e1
      obtain ⟨x2, I2, b1, b2⟩ := of_zb a2
      obtain ⟨_, b3⟩ := of_zg b2
      cases b3
      have hc := cv_hcopy (fu := fu) (0 + 1) (0 + 41) (by omega) I x1 I1 a1
      have fI : ∀ q j, ¬ ((16 ≤ q ∧ q < 41) ∨ (1 ≤ q ∧ q ≤ 13 ∧ q ≠ 3 ∧ q ≠ 7)) → I1 q j = I q j := fun q j hq => congrFun (fr_H_copyFrom (fun q => (16 ≤ q ∧ q < 41) ∨ (1 ≤ q ∧ q ≤ 13 ∧ q ≠ 3 ∧ q ≠ 7)) fu (0 + 1) (0 + 41) I (fun q a b => by omega) (by omega) (by omega) (by omega) (by omega) (by omega) (by omega) (by omega) (by omega) (by omega) (by omega) (by omega) a1 q hq) j
      have b1' : zb (f_C_clear fu (0 + 137) (I1 (0 + 2) 0) I1) (fun _ I2 => zr 0 I2) = some (x2, I') := b1
      obtain ⟨x3, I3, d1, d2⟩ := of_zb b1'
      cases d2
      obtain ⟨w1, w2, w3⟩ := cv_clear (fu := fu) (0 + 137) (I1 (0 + 2) 0) I1 x3 I' d1
      have fI' : ∀ q j, ¬ ((16 ≤ q ∧ q < 41) ∨ (1 ≤ q ∧ q ≤ 13) ∨ q = 138 ∨ (q = 137 ∧ 7 ≤ j ∧ j ≤ 11)) → I' q j = I q j := fun q j hq => (w3 q j (by omega) (by omega)).trans (fI q j (by omega))
      have hR : HR 1 1 I1 J' := hr_cp c1 hc k2
      have hR' : HR 1 1 I' J' := hr_mv hR (fun d j q => w3 _ _ (by unfold CH at q; omega) (by unfold CH at q; omega)) (fun _ _ => rfl)
      have n11 : I' 1 11 = -1 := ((w3 1 11 (by omega) (by omega)).trans hc.1.2.2).trans c2
      have j22 : J' 0 22 = J 0 22 := k6 0 22 (by omega) (by omega) (by omega)
      have i20 : I1 2 0 = J' 1 1 := hR.1.1 0 (by decide)
      have gs : 2 ≤ J' 1 1 ∧ J' 1 1 ≤ 8 := by
        rw [k2 1 (by decide)]
        obtain ⟨_, _, w, _⟩ := hg
        have w' := (w h3).1
        exact ⟨w'.1, w'.2.1⟩
      refine ⟨⟨⟨hR', ?_, ?_, ?_⟩, n11, ?_, fun _ => ⟨?_, ?_⟩, ⟨?_, ?_, ?_⟩, pk_zero k3 k4 gs w1 ⟨w2.1.trans i20, w2.2⟩, ⟨L, t1, ?_, ?_, fun j hj => ?_⟩, ⟨?_, ?_⟩⟩, ?_⟩
      · rw [n11, j22, ← hX.2.1, z11]
      · rw [fI' _ _ (by omega)]; exact hX.2.2.1
      · rw [fI' _ _ (by omega)]; exact hX.2.2.2
      · rw [fI' _ _ (by omega), i8, k5]
      · exact hr_mv c1 (fun d j q => fI' _ _ (by unfold CH at q; omega)) (fun j _ => k6 _ _ (by omega) (by omega) (by omega))
      · rw [fI' _ _ (by omega)]; exact c2
      · rw [fI' _ _ (by omega)]; exact d.1
      · rw [fI' _ _ (by omega)]; exact d.2.1
      · rw [fI' _ _ (by omega)]; exact d.2.2
      · rw [fI' _ _ (by omega)]; exact t2
      · rw [k6 _ _ (by omega) (by omega) (by omega)]; exact t3
      · rw [fI' _ _ (by omega), k6 _ _ (by omega) (by omega) (by omega)]; exact t4 j hj
      · rw [fI' _ _ (by omega), k6 _ _ (by omega) (by omega) (by omega)]; exact f.1
      · rw [fI' _ _ (by omega), k6 _ _ (by omega) (by omega) (by omega)]; exact f.2
      · rw [k1]; exact (fI' _ _ (by omega)).trans i8
  · intro x I' y J' e1 e2
    obtain ⟨k1, k2, k5, k6⟩ := xv_image1 (fu := fu) a ha J y J' e2
    unfold f_S_image at e1
    rw [if_neg ha] at e1
    obtain ⟨x1, I1, a1, a2⟩ := of_zb e1
    have hc := cv_hcopy (fu := fu) (0 + 41) (0 + 1) (by omega) I x1 I1 a1
    have fI : ∀ q j, ¬ ((56 ≤ q ∧ q < 81) ∨ (41 ≤ q ∧ q ≤ 53)) → I1 q j = I q j := fun q j hq => congrFun (fr_H_copyFrom (fun q => (56 ≤ q ∧ q < 81) ∨ (41 ≤ q ∧ q ≤ 53)) fu (0 + 41) (0 + 1) I (fun q a b => by omega) (by omega) (by omega) (by omega) (by omega) (by omega) (by omega) (by omega) (by omega) (by omega) (by omega) (by omega) a1 q hq) j
    have fin : par (zw I1 0 8 1 fun I10 => zg (I10 0 8 = 0 ∨ I10 0 8 = 1) (zr (I10 0 8) I10)) (fun x I' => x = 1 ∧ ∀ q j, I' q j = if q = 0 ∧ j = 8 then 1 else I1 q j) := par_zw' (fun I2 e2 => par_zg (fun _ => par_zr ⟨by rw [e2, if_pos ⟨rfl, rfl⟩], e2⟩))
    obtain ⟨g1, g2⟩ := fin x I' a2
    have fI' : ∀ q j, ¬ ((41 ≤ q ∧ q < 81) ∨ (q = 0 ∧ j = 8)) → I' q j = I q j := fun q j hq => by rw [g2, if_neg (by omega)]; exact fI q j (by omega)
    have hR : HR 41 2 I1 J' := hr_cp hX.1 hc k2
    refine ⟨⟨⟨hr_mv hX.1 (fun d j q => fI' _ _ (by unfold CH at q; omega)) (fun j _ => k6 _ _ (by omega) (by omega)), ?_, ?_, ?_⟩, ?_, ?_, fun _ => ⟨hr_mv hR (fun d j q => ?_) (fun _ _ => rfl), ?_⟩, ⟨?_, ?_, ?_⟩, pk_mv e (fun q j hq => fI' _ _ (by omega)) (fun q j hq => k6 _ _ (by omega) (by omega)) (fun k hk => ⟨⟨hk.1, by rw [k6 _ _ (by omega) (by omega)]; exact hk.2⟩, k6 _ _ (by omega) (by omega), k6 _ _ (by omega) (by omega)⟩), ⟨L, t1, ?_, ?_, fun j hj => ?_⟩, ⟨?_, ?_⟩⟩, ?_⟩
    · rw [fI' _ _ (by omega), k6 _ _ (by omega) (by omega)]; exact hX.2.1
    · rw [fI' _ _ (by omega)]; exact hX.2.2.1
    · rw [fI' _ _ (by omega)]; exact hX.2.2.2
    · rw [fI' _ _ (by omega)]; exact z11
    · rw [g2, if_pos ⟨rfl, rfl⟩, k5]
    · unfold CH at q
      rw [g2, if_neg (by omega)]
    · rw [g2, if_neg (by omega)]
      exact hc.1.2.2.trans z11
    · rw [fI' _ _ (by omega)]; exact d.1
    · rw [fI' _ _ (by omega)]; exact d.2.1
    · rw [fI' _ _ (by omega)]; exact d.2.2
    · rw [fI' _ _ (by omega)]; exact t2
    · rw [k6 _ _ (by omega) (by omega)]; exact t3
    · rw [fI' _ _ (by omega), k6 _ _ (by omega) (by omega)]; exact t4 j hj
    · rw [fI' _ _ (by omega), k6 _ _ (by omega) (by omega)]; exact f.1
    · rw [fI' _ _ (by omega), k6 _ _ (by omega) (by omega)]; exact f.2
    · rw [g1, k1]
end
/-! calls that leave the state as it is -/
section
variable {fu : Nat} {I J : IMem}
/-- what the relation reads of the class's, of the reference's objects -/
def NSQ (q j : Nat) : Prop := ¬ ((q = 0 ∧ j = 8) ∨ (1 ≤ q ∧ q ≤ 80 ∧ q ≠ 14 ∧ ¬ (16 ≤ q ∧ q ≤ 40 ∧ q % 5 = 0)) ∨ (q = 96 ∧ (j = 4 ∨ j = 5)) ∨ (137 ≤ q ∧ q ≤ 140) ∨ q = 144 ∨ q = 145 ∨ (q = 151 ∧ j = 0))
def NSO (q : Nat) : Prop := ¬ (q = 0 ∨ (1 ≤ q ∧ q ≤ 80 ∧ q ≠ 14 ∧ ¬ (16 ≤ q ∧ q ≤ 40 ∧ q % 5 = 0)) ∨ q = 96 ∨ (137 ≤ q ∧ q ≤ 140) ∨ q = 144 ∨ q = 145 ∨ q = 151)
def NXQ (q j : Nat) : Prop := ¬ ((q = 0 ∧ (j = 3 ∨ j = 12 ∨ j = 19 ∨ j = 21 ∨ j = 22 ∨ j = 35)) ∨ q = 1 ∨ q = 2 ∨ q = 6 ∨ q = 13 ∨ q = 15)
def NXS (q j : Nat) : Prop := ¬ ((q = 0 ∧ (j = 3 ∨ j = 12 ∨ j = 19 ∨ j = 21 ∨ j = 22)) ∨ q = 2 ∨ q = 6)
def NXW (q j : Nat) : Prop := ¬ ((q = 0 ∧ (j = 3 ∨ j = 12 ∨ j = 19 ∨ j = 21)) ∨ q = 2 ∨ q = 6)
theorem rj_fo {I' J' : IMem} (h : RJ I J) (h1 : ∀ q, ¬ NSO q → I' q = I q) (h2 : ∀ q j, ¬ NXQ q j → J' q j = J q j) : RJ I' J' := by
  refine rj_same h (fun q j hq => ?_) (fun q j hq => h2 q j (fun z => z (by omega)))
  exact congrFun (h1 q (fun z => z (by omega))) j
theorem rj_sa {I' J' : IMem} (h : RJ I J) (h1 : ∀ q j, ¬ NSQ q j → I' q j = I q j) (hs : SA 0 J J') (h2 : ∀ q j, ¬ NXS q j → J' q j = J q j) : RJ I' J' := by
  obtain ⟨s1, s13, s15, s35⟩ := hs
  have w1 : ∀ q j, ((q = 0 ∧ j = 8) ∨ (1 ≤ q ∧ q ≤ 80 ∧ q ≠ 14 ∧ ¬ (16 ≤ q ∧ q ≤ 40 ∧ q % 5 = 0)) ∨ (q = 96 ∧ (j = 4 ∨ j = 5)) ∨ (137 ≤ q ∧ q ≤ 140) ∨ q = 144 ∨ q = 145 ∨ (q = 151 ∧ j = 0)) → I' q j = I q j := fun q j hq => h1 q j (fun z => z hq)
  have w2 : ∀ q j, ((q = 0 ∧ (j = 3 ∨ j = 12 ∨ j = 19 ∨ j = 21 ∨ j = 22)) ∨ q = 2 ∨ q = 6) → J' q j = J q j := fun q j hq => h2 q j (fun z => z hq)
  have x1 : ∀ j, j < 6190 → J' 1 j = J 1 j := s1
  have x13 : ∀ j, j < 240 → J' 13 j = J 13 j := s13
  have x15 : ∀ j, j < 8 → J' 15 j = J 15 j := s15
  have h' := h
  obtain ⟨⟨hR, hz, hA⟩, a, b, c, d, e, ⟨L, t1, t2, t3, t4⟩, f⟩ := h'
  refine rj_mv h ⟨hr_mv hR (fun d j q => w1 _ _ (by unfold CH at q; omega)) x1, ?_, ?_, ?_⟩ (w1 _ _ (by omega)) (fun q j q => w1 _ _ (by omega)) (fun q j q => w2 _ _ (by omega)) (pk_mv e (fun q j q => w1 _ _ (by omega)) (fun q j hq => ?_) (fun k hk => ?_)) ⟨L, t1, ?_, ?_, fun j hj => ?_⟩ ⟨?_, ?_⟩
  · rw [w1 _ _ (by omega), w2 _ _ (by omega)]; exact hz
  · rw [w1 _ _ (by omega)]; exact hA.1
  · rw [w1 _ _ (by omega)]; exact hA.2
  · rcases hq with ⟨rfl, hq⟩ | ⟨rfl, hq⟩ | ⟨rfl, rfl⟩ | ⟨rfl, rfl⟩
    · exact x13 j hq
    · exact x15 j hq
    · exact s35
    · exact x1 1 (by decide)
  · have k1 := hk.1
    exact ⟨⟨k1, by rw [x1 _ (by omega)]; exact hk.2⟩, x1 _ (by omega), x1 _ (by omega)⟩
  · rw [w1 _ _ (by omega)]; exact t2
  · rw [w2 _ _ (by omega)]; exact t3
  · rw [w1 _ _ (by omega), w2 _ _ (by omega)]; exact t4 j hj
  · rw [w1 _ _ (by omega), w2 _ _ (by omega)]; exact f.1
  · rw [w1 _ _ (by omega), w2 _ _ (by omega)]; exact f.2
/-- the class by whole objects -/
theorem rj_so {I' J' : IMem} (h : RJ I J) (h1 : ∀ q, ¬ NSO q → I' q = I q) (hs : SA 0 J J') (h2 : ∀ q j, ¬ NXS q j → J' q j = J q j) : RJ I' J' := rj_sa h (fun q j hq => congrFun (h1 q (fun z => hq (fun y => z (by unfold NSO at *; omega)))) j) hs h2
/-- after which, the law of the choice is the hill's own again -/
theorem xw_loop {Q : Int → IMem → Prop} (kk : Int → Int → Int → IMem → Res) (a b : Int) (hk : ∀ x y z I, par (kk x y z I) Q) : ∀ (m : Nat) (w3 w4 w5 w6 : Int) (I : IMem), par (f_X_which_32 fu kk 0 a b m w3 w4 w5 w6 I) Q := by
  intro m
  induction m with
  | zero => intro _ _ _ _ _; exact par_none
  | succ m ih =>
    intro w3 w4 w5 w6 I
    show par (fb_X_which_32 fu kk 0 a b (f_X_which_32 fu kk 0 a b m) w3 w4 w5 w6 I) _
    unfold fb_X_which_32
    simp only [zl_e, zj_e]
    refine par_ite (fun _ => par_zw' (fun I1 _ => par_zb (Q1 := fun _ _ => True) (fun _ _ _ => trivial) (fun _ I2 _ => ?_))) (fun _ => hk _ _ _ _)
    exact par_ite (fun _ => ih _ _ _ _ _) (fun _ => par_ite (fun _ => ih _ _ _ _ _) (fun _ => par_ite (fun _ => par_ite (fun _ => ih _ _ _ _ _) (fun _ => ih _ _ _ _ _)) (fun _ => ih _ _ _ _ _)))
theorem xw_22 (a b : Int) (h : J 0 22 = -1) : par (f_X_which fu 0 a b J) (fun _ J' => J' 0 22 = -1) := by
  unfold f_X_which
  rw [ev_isIn, zb_zr]
  refine par_ite (fun _ => par_zr h) (fun _ => ?_)
  rw [ev_isIn, zb_zr]
  refine par_ite (fun _ => par_zr h) (fun _ => ?_)
  refine xw_loop _ a b (fun x y z I => ?_) fu _ _ _ _ J
  refine par_zw' (fun I1 e1 => ?_)
  have g : I1 0 22 = -1 := by rw [e1, if_pos ⟨rfl, rfl⟩]
  exact par_ite (fun _ => par_zr g) (fun _ => par_ite (fun _ => par_zr g) (fun _ => par_zr g))
/-- look gives back the line that it tried -/
theorem xl_look (a : Int) (hs : ∀ l : Nat, l < 6 → 1 ≤ J 1 (10 + l) ∧ J 1 (10 + l) ≤ 24) (hb : ∀ (J1 : IMem) (y : Int) (J2 : IMem), f_X_best fu 0 0 J1 = some (y, J2) → ∀ q j, ¬ NXQ q j → J2 q j = J1 q j) : par (f_X_look fu 0 a J) (fun _ J' => ∀ q j, ¬ NXQ q j → J' q j = J q j) := by
  unfold f_X_look
  rw [ev_xLine, zb_zr]
  by_cases h1 : 0 ≤ a ∧ a < 6
  · rw [if_pos h1, if_neg ne10]
    obtain ⟨l, rfl⟩ : ∃ l : Nat, a = (l : Int) := ⟨a.toNat, by omega⟩
    have w10 : Wq (wr32 (10 + (l : Int))) (((10 + l : Nat) : Int)) := by show wr32 (10 + (l : Int)) = ((10 + l : Nat) : Int); rw [wr32_i2 (by omega) (by omega)]; omega
    have hl := hs l (by omega)
    simp only [zl_e]
    rw [w10.e]
    refine par_zg (fun _ => par_ite (fun _ => par_zr (fun _ _ _ => rfl)) (fun _ => ?_))
    refine par_zb (Q1 := fun _ J1 => ∀ q j, ¬ NXQ q j → J1 q j = J q j) (fun y J1 e => hb J y J1 e) (fun _ J1 g1 => ?_)
    have o1 : ∀ j, ¬ NXQ 1 j := fun j z => z (by omega)
    refine par_zg (fun _ => par_zg (fun _ => par_zw' (fun J2 e2 => ?_)))
    refine par_zb (Q1 := fun _ J3 => ∀ q j, ¬ NXQ q j → J3 q j = J2 q j) (fun y J3 e => hb J2 y J3 e) (fun _ J3 g3 => ?_)
    refine par_zg (fun _ => par_zg (fun _ => par_zw' (fun J4 e4 => par_zr (fun q j hq => ?_))))
    have v1 : J1 (0 + 1) ((10 + l : Nat) : Int).toNat = J 1 (10 + l) := g1 1 (10 + l) (o1 _)
    have v2 : J2 1 (10 + l) = J 1 (10 + l) + 1 := by
      rw [e2, if_pos ⟨rfl, rfl⟩, v1, wr32_i2 (by omega) (by omega)]
    have v3 : J3 (0 + 1) ((10 + l : Nat) : Int).toNat = J 1 (10 + l) + 1 := (g3 1 (10 + l) (o1 _)).trans v2
    rw [e4]
    by_cases y : q = 1 ∧ j = 10 + l
    · rw [if_pos (show q = 0 + 1 ∧ j = ((10 + l : Nat) : Int).toNat from y), v3, wr32_i2 (by omega) (by omega), y.1, y.2]
      omega
    · rw [if_neg (show ¬ (q = 0 + 1 ∧ j = ((10 + l : Nat) : Int).toNat) from y), g3 q j hq, e2, if_neg (show ¬ (q = 0 + 1 ∧ j = ((10 + l : Nat) : Int).toNat) from y)]
      exact g1 q j hq
  · rw [if_neg h1, if_pos eq00]
    exact par_zr (fun _ _ _ => rfl)
end
