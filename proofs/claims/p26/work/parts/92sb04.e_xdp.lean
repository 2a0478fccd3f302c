/-! BEST filling: the reference's table -/
def cut (v : Int) : Int := if v < 0 then -1 else v
def cwh (w : Nat) : Int := if w < 2 then (w : Int) else 2
/-- a value that can be, or far below -/
def XVq (v x : Int) : Prop := (0 ≤ v ∧ v ≤ x) ∨ (-99 ≤ v ∧ v ≤ -99 + x)
def wow (s : Int) (w : Nat) : Nat := if s = 1 then (if w < 2 then 1 else 3) else (if w = 0 ∨ w = 2 then 2 else 3)
theorem cwh_rng (w : Nat) : 0 ≤ cwh w ∧ cwh w ≤ 2 := by
  unfold cwh
  split <;> omega
theorem wow_lt (s : Int) (w : Nat) : wow s w < 4 := by
  unfold wow
  split <;> split <;> decide
theorem cwh_wow (s : Int) (w : Nat) : cwh (wow s w) = tw s (cwh w) := by
  unfold wow tw cwh
  by_cases h : s = 1
  · rw [if_pos h, if_pos h]
    by_cases h2 : w < 2
    · rw [if_pos h2, if_pos h2, if_pos (by decide)]
      by_cases h0 : (w : Int) = 0
      · rw [if_pos h0]; rfl
      · rw [if_neg h0]; show (1 : Int) = _; omega
    · rw [if_neg h2, if_neg h2, if_neg (by decide), if_neg (by decide)]
  · rw [if_neg h, if_neg h]
    by_cases h2 : w = 0 ∨ w = 2
    · rw [if_pos h2, if_neg (by decide)]
    · rw [if_neg h2, if_neg (by decide)]
theorem cut_mx {a b x : Int} (ha : XVq a x) (hb : XVq b x) (h8 : x ≤ 8) : XVq (if b < a then a else b) x ∧ cut (if b < a then a else b) = if cut b < cut a then cut a else cut b := by
  unfold XVq at *
  unfold cut
  by_cases h : b < a
  · rw [if_pos h]
    refine ⟨ha, ?_⟩
    by_cases a0 : a < 0
    · rw [if_pos a0, if_pos (show b < 0 by omega), if_neg (by decide)]
    · rw [if_neg a0]
      by_cases b0 : b < 0
      · rw [if_pos b0, if_pos (by omega)]
      · rw [if_neg b0, if_pos h]
  · rw [if_neg h]
    refine ⟨hb, ?_⟩
    by_cases a0 : a < 0
    · rw [if_pos a0]
      by_cases b0 : b < 0
      · rw [if_pos b0, if_neg (by decide)]
      · rw [if_neg b0, if_neg (by omega)]
    · rw [if_neg a0, if_neg (show ¬ b < 0 by omega), if_neg h]
section
variable {fu : Nat} {Q : Int → IMem → Prop}
/-- the reference's table from the K-th group on -/
def TBx (z s : Nat → Int) (n K : Nat) (J : IMem) : Prop := ∀ i x w : Nat, K ≤ i → i ≤ n → x < 9 → w < 4 → XVq (J 17 (36 * i + 4 * x + w)) (x : Int) ∧ cut (J 17 (36 * i + 4 * x + w)) = mB z s (n - i) i (cwh w) (x : Int)
/-- the reference's groups -/
def GRx (z s : Nat → Int) (n : Nat) (J : IMem) : Prop := n ≤ 144 ∧ J 0 40 = (n : Int) ∧ ∀ i, i < n → ∃ k : Nat, k < 240 ∧ J 16 i = (k : Int) ∧ J 1 (140 + 6 * k + 1) = z i ∧ J 1 (140 + 6 * k + 3) = s i ∧ 1 ≤ z i ∧ z i ≤ 8
theorem ev_spot (i x w : Nat) (J : IMem) (hi : i ≤ 144) (hx : x < 9) (hw : w < 4) : f_X_spot fu (i : Int) (x : Int) (w : Int) J = zr ((36 * i + 4 * x + w : Nat) : Int) J := by
  unfold f_X_spot
  have e1 : Wq (wr32 (36 * (i : Int))) (36 * (i : Int)) := wr32_i2 (by omega) (by omega)
  have e2 : Wq (wr32 (4 * (x : Int))) (4 * (x : Int)) := wr32_i2 (by omega) (by omega)
  rw [e1.e, e2.e]
  have e3 : Wq (wr32 (36 * (i : Int) + 4 * (x : Int))) (36 * (i : Int) + 4 * (x : Int)) := wr32_i2 (by omega) (by omega)
  rw [e3.e]
  have e4 : Wq (wr32 (36 * (i : Int) + 4 * (x : Int) + (w : Int))) (((36 * i + 4 * x + w : Nat) : Int)) := by
    show (wr32 (36 * (i : Int) + 4 * (x : Int) + (w : Int))) = (((36 * i + 4 * x + w : Nat) : Int))
    rw [wr32_i2 (by omega) (by omega)]; omega
  rw [e4.e]
theorem wor_1 (w : Nat) (h : w < 4) : wor (w : Int) 1 = ((if w < 2 then 1 else 3 : Nat) : Int) := by
  rcases (show w = 0 ∨ w = 1 ∨ w = 2 ∨ w = 3 by omega) with rfl | rfl | rfl | rfl <;> decide +kernel
theorem wor_2 (w : Nat) (h : w < 4) : wor (w : Int) 2 = ((if w = 0 ∨ w = 2 then 2 else 3 : Nat) : Int) := by
  rcases (show w = 0 ∨ w = 1 ∨ w = 2 ∨ w = 3 by omega) with rfl | rfl | rfl | rfl <;> decide +kernel
theorem ev_with (k w : Nat) (J : IMem) (hk : k < 240) (hw : w < 4) : f_X_with fu 0 (w : Int) (k : Int) J = zr ((wow (J 1 (140 + 6 * k + 3)) w : Nat) : Int) J := by
  unfold f_X_with wow
  have e1 : Wq (wr32 (6 * (k : Int))) (6 * (k : Int)) := wr32_i2 (by omega) (by omega)
  rw [e1.e]
  have e2 : Wq (wr32 (140 + 6 * (k : Int))) (140 + 6 * (k : Int)) := wr32_i2 (by omega) (by omega)
  rw [e2.e]
  have e3 : Wq (wr32 (140 + 6 * (k : Int) + 3)) (((140 + 6 * k + 3 : Nat) : Int)) := by show wr32 (140 + 6 * (k : Int) + 3) = ((140 + 6 * k + 3 : Nat) : Int); rw [wr32_i2 (by omega) (by omega)]; omega
  rw [e3.e]
  simp only [zl_e]
  rw [zg_t (show 0 ≤ ((140 + 6 * k + 3 : Nat) : Int) ∧ ((140 + 6 * k + 3 : Nat) : Int) < 6190 by omega)]
  have e4 : J (0 + 1) ((140 + 6 * k + 3 : Nat) : Int).toNat = J 1 (140 + 6 * k + 3) := rfl
  rw [e4]
  by_cases h : J 1 (140 + 6 * k + 3) = 1
  · rw [if_pos h, if_pos h, wor_1 w hw]
  · rw [if_neg h, if_neg h, wor_2 w hw]
theorem ev_tk (z s : Nat → Int) {n i x w : Nat} {J : IMem} (h : GRx z s n J) (hi : i < n) (hx : x < 9) (hw : w < 4) (hT : TBx z s n (i + 1) J) : ∃ v, f_X_taking fu 0 (i : Int) (x : Int) (w : Int) J = zr v J ∧ XVq v (x : Int) ∧ cut v = wB z s (n - (i + 1)) i (cwh w) (x : Int) := by
  have hn := h.1
  obtain ⟨k, k1, k2, k3, k4, k5, k6⟩ := h.2.2 i hi
  have ek : J (0 + 16) (i : Int).toNat = (k : Int) := k2
  unfold f_X_taking wB
  rw [zg_t (show 0 ≤ (i : Int) ∧ (i : Int) < 150 by omega), ek]
  have e1 : Wq (wr32 (6 * (k : Int))) (6 * (k : Int)) := wr32_i2 (by omega) (by omega)
  rw [e1.e]
  have e2 : Wq (wr32 (140 + 6 * (k : Int))) (140 + 6 * (k : Int)) := wr32_i2 (by omega) (by omega)
  rw [e2.e]
  have e3 : Wq (wr32 (140 + 6 * (k : Int) + 1)) (((140 + 6 * k + 1 : Nat) : Int)) := by show wr32 (140 + 6 * (k : Int) + 1) = ((140 + 6 * k + 1 : Nat) : Int); rw [wr32_i2 (by omega) (by omega)]; omega
  rw [e3.e]
  simp only [zl_e]
  rw [zg_t (show 0 ≤ ((140 + 6 * k + 1 : Nat) : Int) ∧ ((140 + 6 * k + 1 : Nat) : Int) < 6190 by omega)]
  have e4 : J (0 + 1) ((140 + 6 * k + 1 : Nat) : Int).toNat = z i := k3
  rw [e4]
  by_cases h1 : (x : Int) < z i
  · rw [if_pos h1, if_pos h1]
    refine ⟨-99, rfl, Or.inr ⟨by decide, by omega⟩, ?_⟩
    unfold cut
    rw [if_pos (by decide)]
  · rw [if_neg h1, if_neg h1, zg_t (show 0 ≤ (i : Int) ∧ (i : Int) < 150 by omega), ev_with k w J k1 hw, zb_zr, k4]
    obtain ⟨x2, hx2⟩ : ∃ x2 : Nat, (x : Int) - z i = (x2 : Int) := ⟨((x : Int) - z i).toNat, by omega⟩
    have w1 : Wq (wr32 ((i : Int) + 1)) (((i + 1 : Nat) : Int)) := by show wr32 ((i : Int) + 1) = ((i + 1 : Nat) : Int); rw [wr32_i2 (by omega) (by omega)]; rfl
    have w2 : Wq (wr32 ((x : Int) - z i)) ((x2 : Int)) := by show wr32 ((x : Int) - z i) = (x2 : Int); rw [wr32_i2 (by omega) (by omega)]; exact hx2
    have hq := wow_lt (s i) w
    rw [w1.e, w2.e, ev_spot (i + 1) x2 (wow (s i) w) J (by omega) (by omega) hq, zb_zr, zg_t (show 0 ≤ ((36 * (i + 1) + 4 * x2 + wow (s i) w : Nat) : Int) ∧ ((36 * (i + 1) + 4 * x2 + wow (s i) w : Nat) : Int) < 5440 by omega)]
    obtain ⟨r1, r2⟩ := hT (i + 1) x2 (wow (s i) w) (Nat.le_refl _) (by omega) (by omega) hq
    have e5 : J (0 + 17) ((36 * (i + 1) + 4 * x2 + wow (s i) w : Nat) : Int).toNat = J 17 (36 * (i + 1) + 4 * x2 + wow (s i) w) := rfl
    rw [e5]
    rw [cwh_wow, ← hx2] at r2
    generalize J 17 (36 * (i + 1) + 4 * x2 + wow (s i) w) = v at r1 r2 ⊢
    unfold XVq at r1
    refine ⟨_, rfl, ?_, ?_⟩
    · rw [wr32_i2 (by omega) (by omega)]
      unfold XVq
      omega
    · rw [wr32_i2 (by omega) (by omega), ← r2]
      unfold cut
      by_cases v0 : v < 0
      · rw [if_pos v0, if_pos (by omega), if_pos rfl]
      · rw [if_neg v0, if_neg (by omega), if_neg (by omega)]
        omega
theorem xt_14 (z s : Nat → Int) {n x : Nat} (kk : IMem → Res) (J0 : IMem) (hn : n ≤ 144) (hx : x < 9) (h40 : J0 0 40 = (n : Int)) (hk : ∀ J : IMem, (∀ x2 w : Nat, x2 < x + 1 → w < 4 → XVq (J 17 (36 * n + 4 * x2 + w)) (x2 : Int) ∧ cut (J 17 (36 * n + 4 * x2 + w)) = mB z s 0 n (cwh w) (x2 : Int)) → (∀ q j, q ≠ 17 → J q j = J0 q j) → par (kk J) Q) : ∀ (m w : Nat) (J : IMem), w ≤ 4 → (∀ x2 w2 : Nat, w2 < 4 → (x2 < x ∨ (x2 = x ∧ w2 < w)) → XVq (J 17 (36 * n + 4 * x2 + w2)) (x2 : Int) ∧ cut (J 17 (36 * n + 4 * x2 + w2)) = mB z s 0 n (cwh w2) (x2 : Int)) → (∀ q j, q ≠ 17 → J q j = J0 q j) → par (f_X_reckons_14 fu kk 0 (x : Int) m (w : Int) J) Q := by
  intro m
  induction m with
  | zero => intro _ _ _ _ _; exact par_none
  | succ m ih =>
    intro w J hw hT hf
    show par (fb_X_reckons_14 fu kk 0 (x : Int) (f_X_reckons_14 fu kk 0 (x : Int) m) (w : Int) J) Q
    unfold fb_X_reckons_14
    by_cases hin : w < 4
    · rw [if_pos (show (w : Int) < 4 by omega)]
      have n0 : J 0 40 = (n : Int) := (hf 0 40 (by decide)).trans h40
      have w1 : Wq (wr32 ((w : Int) + 1)) (((w + 1 : Nat) : Int)) := by show wr32 ((w : Int) + 1) = ((w + 1 : Nat) : Int); rw [wr32_i2 (by omega) (by omega)]; rfl
      rw [n0, ev_spot n x w J hn hx hin, zb_zr]
      simp only [zl_e, zj_e]
      rw [w1.e]
      have go : ∀ v : Int, XVq v (x : Int) → cut v = mB z s 0 n (cwh w) (x : Int) → par (zg (0 ≤ ((36 * n + 4 * x + w : Nat) : Int) ∧ ((36 * n + 4 * x + w : Nat) : Int) < 5440) (zw J (0 + 17) ((36 * n + 4 * x + w : Nat) : Int).toNat v fun I10 => f_X_reckons_14 fu kk 0 (x : Int) m ((w + 1 : Nat) : Int) I10)) Q := by
        intro v v1 v2
        refine par_zg (fun _ => par_zw' (fun J1 e1 => ?_))
        rw [tn] at e1
        refine ih (w + 1) J1 (by omega) (fun x2 w2 h1 h2 => ?_) (fun q j hq => ?_)
        · by_cases y : x2 = x ∧ w2 = w
          · rw [y.1, y.2, e1, if_pos ⟨rfl, rfl⟩]
            exact ⟨v1, v2⟩
          · rw [e1, if_neg (by omega)]
            exact hT x2 w2 h1 (by omega)
        · rw [e1, if_neg (by omega)]; exact hf q j hq
      refine par_ite (fun q => ?_) (fun q => ?_)
      · refine go (-99) (Or.inr ⟨by decide, by omega⟩) ?_
        have : w = 1 := by omega
        subst this
        rfl
      · refine go 0 (Or.inl ⟨by decide, by omega⟩) ?_
        show cut 0 = (if cwh w = 1 then -1 else (0 : Int))
        rw [if_neg (show ¬ cwh w = 1 by unfold cwh; split <;> omega)]
        rfl
    · rw [if_neg (show ¬ (w : Int) < 4 by omega)]
      exact hk J (fun x2 w2 h1 h2 => hT x2 w2 h2 (by omega)) hf
theorem xt_6 (z s : Nat → Int) {n : Nat} (kk : IMem → Res) (J0 : IMem) (hn : n ≤ 144) (h40 : J0 0 40 = (n : Int)) (hk : ∀ J : IMem, TBx z s n n J → (∀ q j, q ≠ 17 → J q j = J0 q j) → par (kk J) Q) : ∀ (m x : Nat) (J : IMem), x ≤ 9 → (∀ x2 w2 : Nat, x2 < x → w2 < 4 → XVq (J 17 (36 * n + 4 * x2 + w2)) (x2 : Int) ∧ cut (J 17 (36 * n + 4 * x2 + w2)) = mB z s 0 n (cwh w2) (x2 : Int)) → (∀ q j, q ≠ 17 → J q j = J0 q j) → par (f_X_reckons_6 fu kk 0 m (x : Int) J) Q := by
  intro m
  induction m with
  | zero => intro _ _ _ _ _; exact par_none
  | succ m ih =>
    intro x J hx hT hf
    show par (fb_X_reckons_6 fu kk 0 (f_X_reckons_6 fu kk 0 m) (x : Int) J) Q
    unfold fb_X_reckons_6
    by_cases hin : x < 9
    · rw [if_pos (show (x : Int) < 9 by omega)]
      refine xt_14 z s _ J0 hn hin h40 (fun J2 h1 h2 => ?_) fu 0 J (by decide) (fun x2 w2 h1 h2 => hT x2 w2 (by omega) h1) hf
      have w1 : Wq (wr32 ((x : Int) + 1)) (((x + 1 : Nat) : Int)) := by show wr32 ((x : Int) + 1) = ((x + 1 : Nat) : Int); rw [wr32_i2 (by omega) (by omega)]; rfl
      simp only [zl_e]
      rw [w1.e]
      exact ih (x + 1) J2 (by omega) h1 h2
    · rw [if_neg (show ¬ (x : Int) < 9 by omega)]
      refine hk J (fun i x2 w h1 h2 h3 h4 => ?_) hf
      have : i = n := by omega
      subst this
      rw [Nat.sub_self]
      exact hT x2 w (by omega) h4
/-- a row of the reference's table, till (x, w) -/
def TRx (z s : Nat → Int) (n i x w : Nat) (J : IMem) : Prop := ∀ x2 w2 : Nat, x2 < 9 → w2 < 4 → (x2 < x ∨ (x2 = x ∧ w2 < w)) → XVq (J 17 (36 * i + 4 * x2 + w2)) (x2 : Int) ∧ cut (J 17 (36 * i + 4 * x2 + w2)) = mB z s (n - i) i (cwh w2) (x2 : Int)
theorem grx_fr {z s : Nat → Int} {n : Nat} {J J' : IMem} (h : GRx z s n J) (hf : ∀ q j, q ≠ 17 → J' q j = J q j) : GRx z s n J' := ⟨h.1, (hf _ _ (by decide)).trans h.2.1, fun i hi => by
  obtain ⟨k, a1, a2, a3, a4, a5⟩ := h.2.2 i hi
  exact ⟨k, a1, (hf _ _ (by decide)).trans a2, (hf _ _ (by decide)).trans a3, (hf _ _ (by decide)).trans a4, a5⟩⟩
theorem xt_77 (z s : Nat → Int) {n i x : Nat} (kk : IMem → Res) (J0 : IMem) (hG : GRx z s n J0) (hi : i < n) (hx : x < 9) (hk : ∀ J : IMem, TBx z s n (i + 1) J → TRx z s n i (x + 1) 0 J → (∀ q j, q ≠ 17 → J q j = J0 q j) → par (kk J) Q) : ∀ (m w : Nat) (J : IMem), w ≤ 4 → TBx z s n (i + 1) J → TRx z s n i x w J → (∀ q j, q ≠ 17 → J q j = J0 q j) → par (f_X_reckons_77 fu kk 0 (i : Int) (x : Int) m (w : Int) J) Q := by
  intro m
  induction m with
  | zero => intro _ _ _ _ _ _; exact par_none
  | succ m ih =>
    intro w J hw hT hR hf
    have hn := hG.1
    show par (fb_X_reckons_77 fu kk 0 (i : Int) (x : Int) (f_X_reckons_77 fu kk 0 (i : Int) (x : Int) m) (w : Int) J) Q
    unfold fb_X_reckons_77
    by_cases hin : w < 4
    · rw [if_pos (show (w : Int) < 4 by omega)]
      have w1 : Wq (wr32 ((w : Int) + 1)) (((w + 1 : Nat) : Int)) := by show wr32 ((w : Int) + 1) = ((w + 1 : Nat) : Int); rw [wr32_i2 (by omega) (by omega)]; rfl
      have w2 : Wq (wr32 ((i : Int) + 1)) (((i + 1 : Nat) : Int)) := by show wr32 ((i : Int) + 1) = ((i + 1 : Nat) : Int); rw [wr32_i2 (by omega) (by omega)]; rfl
      have hG' := grx_fr hG hf
      obtain ⟨v, ev, v1, v2⟩ := ev_tk (fu := fu) z s hG' hi hx hin hT
      rw [ev, zb_zr, w2.e, ev_spot (i + 1) x w J (by omega) hx hin, zb_zr]
      refine par_zg (fun _ => ?_)
      simp only [zl_e, zj_e]
      rw [ev_spot i x w J (by omega) hx hin, zb_zr, w1.e]
      obtain ⟨r1, r2⟩ := hT (i + 1) x w (Nat.le_refl _) (by omega) hx hin
      have e5 : J (0 + 17) ((36 * (i + 1) + 4 * x + w : Nat) : Int).toNat = J 17 (36 * (i + 1) + 4 * x + w) := rfl
      rw [e5]
      obtain ⟨c1, c2⟩ := cut_mx v1 r1 (by omega)
      rw [r2, v2] at c2
      have em : (if mB z s (n - (i + 1)) (i + 1) (cwh w) (x : Int) < wB z s (n - (i + 1)) i (cwh w) (x : Int) then wB z s (n - (i + 1)) i (cwh w) (x : Int) else mB z s (n - (i + 1)) (i + 1) (cwh w) (x : Int)) = mB z s (n - i) i (cwh w) (x : Int) := by
        rw [show n - i = n - (i + 1) + 1 by omega, mB_s]
      rw [em] at c2
      have go : ∀ u : Int, XVq u (x : Int) → cut u = mB z s (n - i) i (cwh w) (x : Int) → par (zg (0 ≤ ((36 * i + 4 * x + w : Nat) : Int) ∧ ((36 * i + 4 * x + w : Nat) : Int) < 5440) (zw J (0 + 17) ((36 * i + 4 * x + w : Nat) : Int).toNat u fun I29 => f_X_reckons_77 fu kk 0 (i : Int) (x : Int) m ((w + 1 : Nat) : Int) I29)) Q := by
        intro u u1 u2
        refine par_zg (fun _ => par_zw' (fun J1 e1 => ?_))
        rw [tn] at e1
        refine ih (w + 1) J1 (by omega) (fun i2 x2 w3 h1 h2 h3 h4 => ?_) (fun x2 w3 h3 h4 h5 => ?_) (fun q j hq => ?_)
        · rw [e1, if_neg (by omega)]; exact hT i2 x2 w3 h1 h2 h3 h4
        · by_cases y : x2 = x ∧ w3 = w
          · rw [y.1, y.2, e1, if_pos ⟨rfl, rfl⟩]
            exact ⟨u1, u2⟩
          · rw [e1, if_neg (by omega)]; exact hR x2 w3 h3 h4 (by omega)
        · rw [e1, if_neg (by omega)]; exact hf q j hq
      refine par_ite (fun q => ?_) (fun q => ?_)
      · rw [if_pos q] at c1 c2
        exact go v c1 c2
      · rw [if_neg q] at c1 c2
        exact go _ c1 c2
    · rw [if_neg (show ¬ (w : Int) < 4 by omega)]
      exact hk J hT (fun x2 y2 h3 h4 h5 => hR x2 y2 h3 h4 (by omega)) hf
theorem xt_69 (z s : Nat → Int) {n i : Nat} (kk : IMem → Res) (J0 : IMem) (hG : GRx z s n J0) (hi : i < n) (hk : ∀ J : IMem, TBx z s n i J → (∀ q j, q ≠ 17 → J q j = J0 q j) → par (kk J) Q) : ∀ (m x : Nat) (J : IMem), x ≤ 9 → TBx z s n (i + 1) J → TRx z s n i x 0 J → (∀ q j, q ≠ 17 → J q j = J0 q j) → par (f_X_reckons_69 fu kk 0 (i : Int) m (x : Int) J) Q := by
  intro m
  induction m with
  | zero => intro _ _ _ _ _ _; exact par_none
  | succ m ih =>
    intro x J hx hT hR hf
    show par (fb_X_reckons_69 fu kk 0 (i : Int) (f_X_reckons_69 fu kk 0 (i : Int) m) (x : Int) J) Q
    unfold fb_X_reckons_69
    by_cases hin : x < 9
    · rw [if_pos (show (x : Int) < 9 by omega)]
      refine xt_77 z s _ J0 hG hi hin (fun J2 h1 h2 h3 => ?_) fu 0 J (by decide) hT hR hf
      have w1 : Wq (wr32 ((x : Int) + 1)) (((x + 1 : Nat) : Int)) := by show wr32 ((x : Int) + 1) = ((x + 1 : Nat) : Int); rw [wr32_i2 (by omega) (by omega)]; rfl
      simp only [zl_e]
      rw [w1.e]
      exact ih (x + 1) J2 (by omega) h1 h2 h3
    · rw [if_neg (show ¬ (x : Int) < 9 by omega)]
      refine hk J (fun i2 x2 w2 h1 h2 h3 h4 => ?_) hf
      by_cases y : i2 = i
      · subst y; exact hR x2 w2 h3 h4 (by omega)
      · exact hT i2 x2 w2 (by omega) h2 h3 h4
theorem xt_63 (z s : Nat → Int) {n : Nat} (J0 : IMem) (hG : GRx z s n J0) : ∀ (m i : Nat) (J : IMem), i ≤ n → TBx z s n i J → (∀ q j, q ≠ 17 → J q j = J0 q j) → par (f_X_reckons_63 fu 0 m ((i : Int) - 1) J) (fun _ J' => TBx z s n 0 J' ∧ ∀ q j, q ≠ 17 → J' q j = J0 q j) := by
  intro m
  induction m with
  | zero => intro _ _ _ _ _; exact par_none
  | succ m ih =>
    intro i J hi hT hf
    have hn := hG.1
    show par (fb_X_reckons_63 fu 0 (f_X_reckons_63 fu 0 m) ((i : Int) - 1) J) _
    unfold fb_X_reckons_63
    cases i with
    | zero =>
      rw [if_pos (by omega)]
      exact par_zr ⟨hT, hf⟩
    | succ i =>
      have e : ((i + 1 : Nat) : Int) - 1 = (i : Int) := by omega
      rw [e, if_neg (by omega)]
      refine xt_69 z s _ J0 hG (by omega) (fun J2 h1 h2 => ?_) fu 0 J (by decide) hT (fun x2 w2 h3 h4 h5 => by omega) hf
      have w1 : Wq (wr32 ((i : Int) + (-1))) ((i : Int) - 1) := by show wr32 ((i : Int) + (-1)) = (i : Int) - 1; rw [wr32_i2 (by omega) (by omega)]; omega
      simp only [zl_e]
      rw [w1.e]
      exact ih i J2 (by omega) h1 h2
end
