/-! BEST filling: the table on both sides -/
/-- who is there with one more -/
def tw (s t : Int) : Int := if s = 1 then (if t = 0 then 1 else t) else 2
/-- the most that d groups from the i-th on fill -/
def mB (z s : Nat → Int) : Nat → Nat → Int → Int → Int
  | 0, _, t, _ => if t = 1 then -1 else 0
  | d + 1, i, t, x => if mB z s d (i + 1) t x < (if x < z i then -1 else if mB z s d (i + 1) (tw (s i) t) (x - z i) = -1 then -1 else mB z s d (i + 1) (tw (s i) t) (x - z i) + z i) then (if x < z i then -1 else if mB z s d (i + 1) (tw (s i) t) (x - z i) = -1 then -1 else mB z s d (i + 1) (tw (s i) t) (x - z i) + z i) else mB z s d (i + 1) t x
/-- with the i-th -/
def wB (z s : Nat → Int) (d i : Nat) (t x : Int) : Int := if x < z i then -1 else if mB z s d (i + 1) (tw (s i) t) (x - z i) = -1 then -1 else mB z s d (i + 1) (tw (s i) t) (x - z i) + z i
theorem mB_s (z s : Nat → Int) (d i : Nat) (t x : Int) : mB z s (d + 1) i t x = if mB z s d (i + 1) t x < wB z s d i t x then wB z s d i t x else mB z s d (i + 1) t x := rfl
theorem tw_rng {s t : Int} (h : 0 ≤ t ∧ t ≤ 2) : 0 ≤ tw s t ∧ tw s t ≤ 2 := by
  unfold tw
  split
  · split <;> omega
  · omega
theorem wB_rng {z s : Nat → Int} {d i : Nat} {t x : Int} (hz : 1 ≤ z i ∧ z i ≤ 8) (hx : 0 ≤ x) (ih : ∀ t x : Int, 0 ≤ t → t ≤ 2 → 0 ≤ x → -1 ≤ mB z s d (i + 1) t x ∧ mB z s d (i + 1) t x ≤ x) (h0 : 0 ≤ t) (h2 : t ≤ 2) : -1 ≤ wB z s d i t x ∧ wB z s d i t x ≤ x := by
  unfold wB
  have ht := tw_rng (s := s i) ⟨h0, h2⟩
  split
  · omega
  · have := ih (tw (s i) t) (x - z i) ht.1 ht.2 (by omega)
    split <;> omega
theorem mB_rng {z s : Nat → Int} : ∀ (d i : Nat), (∀ j, i ≤ j → j < i + d → 1 ≤ z j ∧ z j ≤ 8) → ∀ t x : Int, 0 ≤ t → t ≤ 2 → 0 ≤ x → -1 ≤ mB z s d i t x ∧ mB z s d i t x ≤ x := by
  intro d
  induction d with
  | zero =>
    intro i _ t x h0 h2 hx
    show -1 ≤ (if t = 1 then -1 else (0 : Int)) ∧ (if t = 1 then -1 else (0 : Int)) ≤ x
    split <;> omega
  | succ d ih =>
    intro i hz t x h0 h2 hx
    have ih' := ih (i + 1) (fun j h1 h2 => hz j (by omega) (by omega))
    have a := ih' t x h0 h2 hx
    have b := wB_rng (hz i (Nat.le_refl _) (by omega)) hx ih' h0 h2
    rw [mB_s]
    split
    · exact b
    · exact a
theorem mB_pos {z s : Nat → Int} : ∀ (d i : Nat) (t x : Int), t ≠ 1 → 0 ≤ mB z s d i t x := by
  intro d
  induction d with
  | zero =>
    intro i t x h
    show 0 ≤ (if t = 1 then -1 else (0 : Int))
    rw [if_neg h]
    exact Int.le_refl _
  | succ d ih =>
    intro i t x h
    have a := ih (i + 1) t x h
    rw [mB_s]
    split
    · omega
    · exact a
section
variable {fu : Nat} {Q : Int → IMem → Prop}
/-- the class's table from the K-th group on -/
def TBc (z s : Nat → Int) (n K : Nat) (I : IMem) : Prop := ∀ i t x : Nat, K ≤ i → i ≤ n → t < 3 → x < 9 → I 158 (27 * i + 9 * t + x) = mB z s (n - i) i (t : Int) (x : Int)
/-- the class's groups -/
def GRc (z s : Nat → Int) (n : Nat) (I : IMem) : Prop := n ≤ 144 ∧ I 154 3 = (n : Int) ∧ ∀ i, i < n → I 156 i = z i ∧ I 157 i = s i ∧ 1 ≤ z i ∧ z i ≤ 8
theorem ev_fat (i t x : Nat) (I : IMem) (hi : i ≤ 144) (ht : t < 3) (hx : x < 9) : f_F_at fu (i : Int) (t : Int) (x : Int) I = zr ((27 * i + 9 * t + x : Nat) : Int) I := by
  unfold f_F_at
  simp only [zj_e]
  rw [if_neg (show ¬ (i : Int) < 0 by omega), if_neg (show ¬ 144 < (i : Int) by omega), if_neg (show ¬ (t : Int) < 0 by omega), if_pos (show (t : Int) < 3 by omega), if_neg (show ¬ (x : Int) < 0 by omega), if_pos (show (x : Int) < 9 by omega), if_neg ne10]
  have e1 : Wq (wr32 ((i : Int) * 3)) ((i : Int) * 3) := wr32_i2 (by omega) (by omega)
  rw [e1.e]
  have e2 : Wq (wr32 ((i : Int) * 3 + (t : Int))) ((i : Int) * 3 + (t : Int)) := wr32_i2 (by omega) (by omega)
  rw [e2.e]
  have e3 : Wq (wr32 (((i : Int) * 3 + (t : Int)) * 9)) (((i : Int) * 3 + (t : Int)) * 9) := wr32_i2 (by omega) (by omega)
  rw [e3.e]
  have e4 : Wq (wr32 (((i : Int) * 3 + (t : Int)) * 9 + (x : Int))) (((27 * i + 9 * t + x : Nat) : Int)) := by
    show (wr32 (((i : Int) * 3 + (t : Int)) * 9 + (x : Int))) = (((27 * i + 9 * t + x : Nat) : Int))
    rw [wr32_i2 (by omega) (by omega)]; omega
  rw [e4.e]
theorem ev_there (z s : Nat → Int) {n i : Nat} (t : Int) {I : IMem} (h : GRc z s n I) (hi : i < n) : f_F_thereWith fu 154 (i : Int) t I = zr (tw (s i) t) I := by
  have hn := h.1
  have e : I (154 + 3) (i : Int).toNat = s i := (h.2.2 i hi).2.1
  unfold f_F_thereWith tw
  rw [zg_t (show 0 ≤ (i : Int) ∧ (i : Int) < 144 by omega), e]
  by_cases h1 : s i = 1
  · rw [if_pos h1, if_pos h1]
    by_cases h2 : t = 0
    · rw [if_pos h2, if_pos h2]
    · rw [if_neg h2, if_neg h2]
  · rw [if_neg h1, if_neg h1]
theorem ev_mw (z s : Nat → Int) {n i t x : Nat} {I : IMem} (h : GRc z s n I) (hi : i < n) (ht : t < 3) (hx : x < 9) (hT : TBc z s n (i + 1) I) : f_F_mostWith fu 154 (i : Int) (t : Int) (x : Int) I = zr (wB z s (n - (i + 1)) i (t : Int) (x : Int)) I := by
  have hn := h.1
  obtain ⟨g1, g2, g3, g4⟩ := h.2.2 i hi
  have ez : I (154 + 2) (i : Int).toNat = z i := g1
  unfold f_F_mostWith wB
  rw [if_neg (show ¬ (i : Int) < 0 by omega), if_pos (show (i : Int) < 144 by omega), zg_t (show 0 ≤ (i : Int) ∧ (i : Int) < 144 by omega), ez]
  by_cases h1 : (x : Int) < z i
  · rw [if_pos h1, if_pos h1]
  · rw [if_neg h1, if_neg h1, ev_there z s (t : Int) h hi, zb_zr, zg_t (show 0 ≤ (i : Int) ∧ (i : Int) < 144 by omega)]
    have tr := tw_rng (s := s i) (t := (t : Int)) ⟨by omega, by omega⟩
    obtain ⟨t2, ht2⟩ : ∃ t2 : Nat, tw (s i) (t : Int) = (t2 : Int) := ⟨(tw (s i) (t : Int)).toNat, by omega⟩
    obtain ⟨x2, hx2⟩ : ∃ x2 : Nat, (x : Int) - z i = (x2 : Int) := ⟨((x : Int) - z i).toNat, by omega⟩
    have w1 : Wq (wr32 ((i : Int) + 1)) (((i + 1 : Nat) : Int)) := by show wr32 ((i : Int) + 1) = ((i + 1 : Nat) : Int); rw [wr32_i2 (by omega) (by omega)]; rfl
    have w2 : Wq (wr32 ((x : Int) - z i)) ((x2 : Int)) := by show wr32 ((x : Int) - z i) = (x2 : Int); rw [wr32_i2 (by omega) (by omega)]; exact hx2
    rw [ez, w1.e, w2.e, ht2, hx2, ev_fat (i + 1) t2 x2 I (by omega) (by omega) (by omega), zb_zr, zg_t (show 0 ≤ ((27 * (i + 1) + 9 * t2 + x2 : Nat) : Int) ∧ ((27 * (i + 1) + 9 * t2 + x2 : Nat) : Int) < 3915 by omega)]
    have e := hT (i + 1) t2 x2 (Nat.le_refl _) (by omega) (by omega) (by omega)
    have e' : I (154 + 4) ((27 * (i + 1) + 9 * t2 + x2 : Nat) : Int).toNat = mB z s (n - (i + 1)) (i + 1) (t2 : Int) (x2 : Int) := e
    simp only [zl_e]
    rw [e']
    have r := mB_rng (z := z) (s := s) (n - (i + 1)) (i + 1) (fun j a b => ⟨(h.2.2 j (by omega)).2.2.1, (h.2.2 j (by omega)).2.2.2⟩) (t2 : Int) (x2 : Int) (by omega) (by omega) (by omega)
    by_cases h2 : mB z s (n - (i + 1)) (i + 1) (t2 : Int) (x2 : Int) = -1
    · rw [if_pos h2, if_pos h2]
    · rw [if_neg h2, if_neg h2, zg_t (show 0 ≤ (i : Int) ∧ (i : Int) < 144 by omega), ez, wr32_i2 (by omega) (by omega)]
/-- the last row of the class's table -/
theorem cbx_24 (z s : Nat → Int) {n : Nat} (kk : IMem → Res) (p3 : Int) (I0 : IMem) (hn : n ≤ 144) (h3 : I0 154 3 = (n : Int)) (hk : ∀ I : IMem, TBc z s n n I → (∀ q j, q ≠ 158 → I q j = I0 q j) → par (kk I) Q) : ∀ (m x : Nat) (I : IMem), x ≤ 9 → (∀ t x2 : Nat, t < 3 → x2 < x → I 158 (27 * n + 9 * t + x2) = if (t : Int) = 1 then -1 else 0) → (∀ q j, q ≠ 158 → I q j = I0 q j) → par (f_F_fillMost_24 fu kk 154 p3 m (x : Int) I) Q := by
  intro m
  induction m with
  | zero => intro _ _ _ _ _; exact par_none
  | succ m ih =>
    intro x I hx hT hf
    show par (fb_F_fillMost_24 fu kk 154 p3 (f_F_fillMost_24 fu kk 154 p3 m) (x : Int) I) Q
    unfold fb_F_fillMost_24
    by_cases hin : x < 9
    · rw [if_pos (show (x : Int) < 9 by omega)]
      have n0 : I 154 3 = (n : Int) := (hf 154 3 (by decide)).trans h3
      have w1 : Wq (wr32 ((x : Int) + 1)) (((x + 1 : Nat) : Int)) := by show wr32 ((x : Int) + 1) = ((x + 1 : Nat) : Int); rw [wr32_i2 (by omega) (by omega)]; rfl
      have a0 : f_F_at fu (n : Int) 0 (x : Int) I = zr ((27 * n + 9 * 0 + x : Nat) : Int) I := ev_fat n 0 x I hn (by decide) hin
      rw [n0, a0, zb_zr]
      refine par_zg (fun _ => par_zw' (fun I1 e1 => ?_))
      have n1 : I1 154 3 = (n : Int) := by rw [e1, if_neg (by omega)]; exact n0
      have a1 : f_F_at fu (n : Int) 1 (x : Int) I1 = zr ((27 * n + 9 * 1 + x : Nat) : Int) I1 := ev_fat n 1 x I1 hn (by decide) hin
      rw [n1, a1, zb_zr]
      refine par_zg (fun _ => par_zw' (fun I2 e2 => ?_))
      have n2 : I2 154 3 = (n : Int) := by rw [e2, if_neg (by omega)]; exact n1
      have a2 : f_F_at fu (n : Int) 2 (x : Int) I2 = zr ((27 * n + 9 * 2 + x : Nat) : Int) I2 := ev_fat n 2 x I2 hn (by decide) hin
      rw [n2, a2, zb_zr]
      refine par_zg (fun _ => par_zw' (fun I3 e3 => ?_))
      simp only [zl_e]
      rw [w1.e]
      rw [tn] at e1 e2 e3
      refine ih (x + 1) I3 (by omega) (fun t x2 ht hx2 => ?_) (fun q j hq => ?_)
      · by_cases y : x2 = x
        · subst y
          rcases (show t = 0 ∨ t = 1 ∨ t = 2 by omega) with rfl | rfl | rfl
          · rw [e3, if_neg (by omega), e2, if_neg (by omega), e1, if_pos ⟨rfl, rfl⟩]; rfl
          · rw [e3, if_neg (by omega), e2, if_pos ⟨rfl, rfl⟩]; rfl
          · rw [e3, if_pos ⟨rfl, rfl⟩]; rfl
        · rw [e3, if_neg (by omega), e2, if_neg (by omega), e1, if_neg (by omega)]
          exact hT t x2 ht (by omega)
      · rw [e3, if_neg (by omega), e2, if_neg (by omega), e1, if_neg (by omega)]; exact hf q j hq
    · rw [if_neg (show ¬ (x : Int) < 9 by omega)]
      refine hk I (fun i t x2 y1 y2 y3 y4 => ?_) hf
      have : i = n := by omega
      subst this
      rw [Nat.sub_self]
      exact hT t x2 y3 (by omega)
/-- a row of the class's table, till (t, x) -/
def TRc (z s : Nat → Int) (n i t x : Nat) (I : IMem) : Prop := ∀ t2 x2 : Nat, t2 < 3 → x2 < 9 → (t2 < t ∨ (t2 = t ∧ x2 < x)) → I 158 (27 * i + 9 * t2 + x2) = mB z s (n - i) i (t2 : Int) (x2 : Int)
theorem grc_fr {z s : Nat → Int} {n : Nat} {I I' : IMem} (h : GRc z s n I) (hf : ∀ q j, q ≠ 158 → I' q j = I q j) : GRc z s n I' := ⟨h.1, (hf _ _ (by decide)).trans h.2.1, fun i hi => ⟨(hf _ _ (by decide)).trans (h.2.2 i hi).1, (hf _ _ (by decide)).trans (h.2.2 i hi).2.1, (h.2.2 i hi).2.2⟩⟩
theorem cbx_110 (z s : Nat → Int) {n i t : Nat} (kk : IMem → Res) (p3 : Int) (I0 : IMem) (hG : GRc z s n I0) (hi : i < n) (ht : t < 3) (hk : ∀ I : IMem, TBc z s n (i + 1) I → TRc z s n i (t + 1) 0 I → (∀ q j, q ≠ 158 → I q j = I0 q j) → par (kk I) Q) : ∀ (m x : Nat) (I : IMem), x ≤ 9 → TBc z s n (i + 1) I → TRc z s n i t x I → (∀ q j, q ≠ 158 → I q j = I0 q j) → par (f_F_fillMost_110 fu kk 154 p3 (i : Int) (t : Int) m (x : Int) I) Q := by
  intro m
  induction m with
  | zero => intro _ _ _ _ _ _; exact par_none
  | succ m ih =>
    intro x I hx hT hR hf
    have hn := hG.1
    show par (fb_F_fillMost_110 fu kk 154 p3 (i : Int) (t : Int) (f_F_fillMost_110 fu kk 154 p3 (i : Int) (t : Int) m) (x : Int) I) Q
    unfold fb_F_fillMost_110
    by_cases hin : x < 9
    · rw [if_pos (show (x : Int) < 9 by omega)]
      have w1 : Wq (wr32 ((x : Int) + 1)) (((x + 1 : Nat) : Int)) := by show wr32 ((x : Int) + 1) = ((x + 1 : Nat) : Int); rw [wr32_i2 (by omega) (by omega)]; rfl
      have w2 : Wq (wr32 ((i : Int) + 1)) (((i + 1 : Nat) : Int)) := by show wr32 ((i : Int) + 1) = ((i + 1 : Nat) : Int); rw [wr32_i2 (by omega) (by omega)]; rfl
      have hG' := grc_fr hG hf
      rw [ev_fat i t x I (by omega) ht hin, zb_zr, w2.e, ev_fat (i + 1) t x I (by omega) ht hin, zb_zr]
      refine par_zg (fun _ => ?_)
      rw [ev_mw z s hG' hi ht hin hT, zb_zr, ev_max, zb_zr]
      have e := hT (i + 1) t x (Nat.le_refl _) (by omega) ht hin
      have e' : I (154 + 4) ((27 * (i + 1) + 9 * t + x : Nat) : Int).toNat = mB z s (n - (i + 1)) (i + 1) (t : Int) (x : Int) := e
      rw [e']
      have em : (if mB z s (n - (i + 1)) (i + 1) (t : Int) (x : Int) < wB z s (n - (i + 1)) i (t : Int) (x : Int) then wB z s (n - (i + 1)) i (t : Int) (x : Int) else mB z s (n - (i + 1)) (i + 1) (t : Int) (x : Int)) = mB z s (n - i) i (t : Int) (x : Int) := by
        rw [show n - i = n - (i + 1) + 1 by omega, mB_s]
      rw [em]
      refine par_zg (fun _ => par_zw' (fun I1 e1 => ?_))
      simp only [zl_e]
      rw [w1.e]
      rw [tn] at e1
      refine ih (x + 1) I1 (by omega) (fun i2 t2 x2 h1 h2 h3 h4 => ?_) (fun t2 x2 h3 h4 h5 => ?_) (fun q j hq => ?_)
      · rw [e1, if_neg (by omega)]; exact hT i2 t2 x2 h1 h2 h3 h4
      · by_cases y : t2 = t ∧ x2 = x
        · rw [y.1, y.2, e1, if_pos ⟨rfl, rfl⟩]
        · rw [e1, if_neg (by omega)]; exact hR t2 x2 h3 h4 (by omega)
      · rw [e1, if_neg (by omega)]; exact hf q j hq
    · rw [if_neg (show ¬ (x : Int) < 9 by omega)]
      exact hk I hT (fun t2 x2 h3 h4 h5 => hR t2 x2 h3 h4 (by omega)) hf
theorem cb_101 (z s : Nat → Int) {n i : Nat} (kk : IMem → Res) (p3 : Int) (I0 : IMem) (hG : GRc z s n I0) (hi : i < n) (hk : ∀ I : IMem, TBc z s n i I → (∀ q j, q ≠ 158 → I q j = I0 q j) → par (kk I) Q) : ∀ (m t : Nat) (I : IMem), t ≤ 3 → TBc z s n (i + 1) I → TRc z s n i t 0 I → (∀ q j, q ≠ 158 → I q j = I0 q j) → par (f_F_fillMost_101 fu kk 154 p3 (i : Int) m (t : Int) I) Q := by
  intro m
  induction m with
  | zero => intro _ _ _ _ _ _; exact par_none
  | succ m ih =>
    intro t I ht hT hR hf
    show par (fb_F_fillMost_101 fu kk 154 p3 (i : Int) (f_F_fillMost_101 fu kk 154 p3 (i : Int) m) (t : Int) I) Q
    unfold fb_F_fillMost_101
    by_cases hin : t < 3
    · rw [if_neg (show ¬ 2 < (t : Int) by omega)]
      refine cbx_110 z s _ p3 I0 hG hi hin (fun I2 h1 h2 h3 => ?_) fu 0 I (by decide) hT hR hf
      have w1 : Wq (wr32 ((t : Int) + 1)) (((t + 1 : Nat) : Int)) := by show wr32 ((t : Int) + 1) = ((t + 1 : Nat) : Int); rw [wr32_i2 (by omega) (by omega)]; rfl
      simp only [zl_e]
      rw [w1.e]
      exact ih (t + 1) I2 (by omega) h1 h2 h3
    · rw [if_pos (show 2 < (t : Int) by omega)]
      refine hk I (fun i2 t2 x2 h1 h2 h3 h4 => ?_) hf
      by_cases y : i2 = i
      · subst y; exact hR t2 x2 h3 h4 (by omega)
      · exact hT i2 t2 x2 (by omega) h2 h3 h4
theorem cb_93 (z s : Nat → Int) {n : Nat} (kk : IMem → Res) (p3 : Int) (I0 : IMem) (hG : GRc z s n I0) (hk : ∀ I : IMem, TBc z s n 0 I → (∀ q j, q ≠ 158 → I q j = I0 q j) → par (kk I) Q) : ∀ (m i : Nat) (I : IMem), i ≤ n → TBc z s n i I → (∀ q j, q ≠ 158 → I q j = I0 q j) → par (f_F_fillMost_93 fu kk 154 p3 m ((i : Int) - 1) I) Q := by
  intro m
  induction m with
  | zero => intro _ _ _ _ _; exact par_none
  | succ m ih =>
    intro i I hi hT hf
    have hn := hG.1
    show par (fb_F_fillMost_93 fu kk 154 p3 (f_F_fillMost_93 fu kk 154 p3 m) ((i : Int) - 1) I) Q
    unfold fb_F_fillMost_93
    cases i with
    | zero =>
      rw [if_pos (by omega)]
      exact hk I hT hf
    | succ i =>
      have e : ((i + 1 : Nat) : Int) - 1 = (i : Int) := by omega
      rw [e, if_neg (by omega)]
      refine cb_101 z s _ p3 I0 hG (by omega) (fun I2 h1 h2 => ?_) fu 0 I (by decide) hT (fun t2 x2 h3 h4 h5 => by omega) hf
      have w1 : Wq (wr32 ((i : Int) + (-1))) ((i : Int) - 1) := by show wr32 ((i : Int) + (-1)) = (i : Int) - 1; rw [wr32_i2 (by omega) (by omega)]; omega
      simp only [zl_e]
      rw [w1.e]
      exact ih i I2 (by omega) h1 h2
end
