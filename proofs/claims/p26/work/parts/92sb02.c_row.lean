/-! BEST filling: the groups that are seen, on both sides -/
/-- how many below n are so -/
def cnB (P : Nat → Bool) : Nat → Nat
  | 0 => 0
  | n + 1 => cnB P n + (if P n = true then 1 else 0)
theorem cnB_y {P : Nat → Bool} {n : Nat} (h : P n = true) : cnB P (n + 1) = cnB P n + 1 := by
  show cnB P n + (if P n = true then 1 else 0) = _
  rw [if_pos h]
theorem cnB_n {P : Nat → Bool} {n : Nat} (h : P n = false) : cnB P (n + 1) = cnB P n := by
  show cnB P n + (if P n = true then 1 else 0) = _
  rw [if_neg (by rw [h]; decide)]
  rfl
theorem cnB_skip {P : Nat → Bool} (a : Nat) : ∀ b : Nat, a ≤ b → (∀ k, a ≤ k → k < b → P k = false) → cnB P b = cnB P a := by
  intro b
  induction b with
  | zero => intro h _; rw [show a = 0 by omega]
  | succ b ih =>
    intro h hp
    by_cases e : a = b + 1
    · rw [e]
    · rw [cnB_n (hp b (by omega) (by omega))]
      exact ih (by omega) (fun k h1 h2 => hp k h1 (by omega))
theorem cnB_mono {P : Nat → Bool} (a : Nat) : ∀ b : Nat, a ≤ b → cnB P a ≤ cnB P b := by
  intro b
  induction b with
  | zero => intro h; rw [show a = 0 by omega]; exact Nat.le_refl _
  | succ b ih =>
    intro h
    by_cases e : a = b + 1
    · rw [e]; exact Nat.le_refl _
    · have := ih (by omega)
      have : cnB P (b + 1) = cnB P b + (if P b = true then 1 else 0) := rfl
      omega
theorem cnB_lt {P : Nat → Bool} {a b : Nat} (h : a < b) (hp : P a = true) : cnB P a < cnB P b := by
  have h1 := cnB_mono (P := P) (a + 1) b h
  rw [cnB_y hp] at h1
  omega
theorem cnB_at {P : Nat → Bool} : ∀ (K n : Nat), n < cnB P K → ∃ k, k < K ∧ P k = true ∧ cnB P k = n := by
  intro K
  induction K with
  | zero => intro n h; exact absurd h (Nat.not_lt_zero _)
  | succ K ih =>
    intro n h
    cases hp : P K with
    | false =>
      rw [cnB_n hp] at h
      obtain ⟨k, k1, k2, k3⟩ := ih n h
      exact ⟨k, by omega, k2, k3⟩
    | true =>
      rw [cnB_y hp] at h
      by_cases e : n = cnB P K
      · exact ⟨K, by omega, hp, e.symm⟩
      · obtain ⟨k, k1, k2, k3⟩ := ih n (by omega)
        exact ⟨k, by omega, k2, k3⟩
/-- those below K stand in a, in their order -/
def LSB (P : Nat → Bool) (a : Nat → Int) (n K : Nat) : Prop := n = cnB P K ∧ ∀ k, k < K → P k = true → a (cnB P k) = (k : Int)
theorem lsb_skip {P : Nat → Bool} {a : Nat → Int} {n K K2 : Nat} (h : LSB P a n K) (hK : K ≤ K2) (hp : ∀ k, K ≤ k → k < K2 → P k = false) : LSB P a n K2 := by
  refine ⟨h.1.trans (cnB_skip K K2 hK hp).symm, fun k hk hpk => ?_⟩
  by_cases y : k < K
  · exact h.2 k y hpk
  · rw [hp k (by omega) hk] at hpk; exact absurd hpk (by decide)
theorem lsb_add {P : Nat → Bool} {a a2 : Nat → Int} {n K : Nat} (h : LSB P a n K) (hp : P K = true) (h1 : ∀ j, j ≠ n → a2 j = a j) (h2 : a2 n = (K : Int)) : LSB P a2 (n + 1) (K + 1) := by
  refine ⟨by rw [cnB_y hp, ← h.1], fun k hk hpk => ?_⟩
  by_cases y : k = K
  · subst y; rw [← h.1]; exact h2
  · have := cnB_lt (P := P) (show k < K by omega) hpk
    rw [h1 _ (by rw [h.1]; omega)]
    exact h.2 k (by omega) hpk
/-- who is in the row: seen, and no dear one -/
def PBb (c sv srt : Nat → Int) (k : Nat) : Bool := decide (((k % 40 : Nat) : Int) < c (k / 40) ∧ ((k % 40 : Nat) : Int) < sv (k / 40) ∧ srt k ≠ 2)
theorem pb_iff {c sv srt : Nat → Int} {k : Nat} : PBb c sv srt k = true ↔ ((k % 40 : Nat) : Int) < c (k / 40) ∧ ((k % 40 : Nat) : Int) < sv (k / 40) ∧ srt k ≠ 2 := by
  unfold PBb
  rw [decide_eq_true_iff]
theorem pb_no {c sv srt : Nat → Int} {k : Nat} (h : ¬ (((k % 40 : Nat) : Int) < c (k / 40) ∧ ((k % 40 : Nat) : Int) < sv (k / 40) ∧ srt k ≠ 2)) : PBb c sv srt k = false := by
  unfold PBb
  exact decide_eq_false h
section
variable {fu : Nat} {Q : Int → IMem → Prop}
/-- the reference's row below K -/
def XRV (P : Nat → Bool) (J0 : IMem) (K g : Nat) (J : IMem) : Prop := J 0 40 = (g : Int) ∧ LSB P (J 16) g K ∧ ∀ q j, q ≠ 16 → ¬ (q = 0 ∧ j = 40) → J q j = J0 q j
theorem xr_15 (kk : IMem → Res) {P : Nat → Bool} (J0 : IMem) {l : Nat} (hl : l < 6) (hc : J0 1 (130 + l) ≤ 40) (hP : ∀ k, k < 240 → (P k = true ↔ ((k % 40 : Nat) : Int) < J0 1 (130 + k / 40) ∧ ((k % 40 : Nat) : Int) < J0 1 (10 + k / 40) ∧ J0 1 (140 + 6 * k + 3) ≠ 2)) (hk : ∀ (g : Nat) (J : IMem), XRV P J0 (40 * (l + 1)) g J → par (kk J) Q) : ∀ (m p g : Nat) (J : IMem), p ≤ 40 → XRV P J0 (40 * l + p) g J → par (f_X_laysRow_15 fu kk 0 (l : Int) m (p : Int) J) Q := by
  intro m
  induction m with
  | zero => intro _ _ _ _ _; exact par_none
  | succ m ih =>
    intro p g J hp hV
    have hV' := hV
    obtain ⟨v1, v2, v3⟩ := hV'
    show par (fb_X_laysRow_15 fu kk 0 (l : Int) (f_X_laysRow_15 fu kk 0 (l : Int) m) (p : Int) J) Q
    unfold fb_X_laysRow_15
    have w1 : Wq (wr32 (130 + (l : Int))) (((130 + l : Nat) : Int)) := by show wr32 (130 + (l : Int)) = ((130 + l : Nat) : Int); rw [wr32_i2 (by omega) (by omega)]; omega
    have w2 : Wq (wr32 (10 + (l : Int))) (((10 + l : Nat) : Int)) := by show wr32 (10 + (l : Int)) = ((10 + l : Nat) : Int); rw [wr32_i2 (by omega) (by omega)]; omega
    have w3 : Wq (wr32 ((p : Int) + 1)) (((p + 1 : Nat) : Int)) := by show wr32 ((p : Int) + 1) = ((p + 1 : Nat) : Int); rw [wr32_i2 (by omega) (by omega)]; rfl
    have w4 : Wq (wr32 (wr32 (40 * (l : Int)) + (p : Int))) (((40 * l + p : Nat) : Int)) := by show wr32 (wr32 (40 * (l : Int)) + (p : Int)) = ((40 * l + p : Nat) : Int); rw [wr32_i2 (x := 40 * (l : Int)) (by omega) (by omega), wr32_i2 (by omega) (by omega)]; omega
    have stop : (∀ k, 40 * l + p ≤ k → k < 40 * (l + 1) → P k = false) → par (kk J) Q := fun hs => hk g J ⟨v1, lsb_skip v2 (by omega) hs, v3⟩
    have no : ∀ k, k < 240 → ¬ (((k % 40 : Nat) : Int) < J0 1 (130 + k / 40) ∧ ((k % 40 : Nat) : Int) < J0 1 (10 + k / 40) ∧ J0 1 (140 + 6 * k + 3) ≠ 2) → P k = false := fun k hk240 hn => by
      cases hpk : P k with
      | false => rfl
      | true => exact absurd ((hP k hk240).mp hpk) hn
    simp only [zl_e, zj_e]
    rw [w1.e, w2.e, w3.e, w4.e]
    refine par_zg (fun _ => ?_)
    have e1 : J (0 + 1) ((130 + l : Nat) : Int).toNat = J0 1 (130 + l) := v3 1 (130 + l) (by decide) (by omega)
    have e2 : J (0 + 1) ((10 + l : Nat) : Int).toNat = J0 1 (10 + l) := v3 1 (10 + l) (by decide) (by omega)
    rw [e1, e2]
    refine par_ite (fun q1 => par_zg (fun _ => par_ite (fun q2 => ?_) (fun q2 => ?_))) (fun q1 => ?_)
    · have p40 : p < 40 := by omega
      rw [ev_of3 fu 0 l p J hl p40, zb_zr]
      have d1 : (40 * l + p) / 40 = l := by omega
      have d2 : (40 * l + p) % 40 = p := by omega
      have e3 : J (0 + 1) (140 + 6 * (40 * l + p) + 3) = J0 1 (140 + 6 * (40 * l + p) + 3) := v3 1 _ (by decide) (by omega)
      have hPk := hP (40 * l + p) (by omega)
      rw [d1, d2] at hPk
      rw [e3]
      refine par_ite (fun q3 => ?_) (fun q3 => ?_)
      · refine ih (p + 1) g J (by omega) ⟨v1, lsb_skip v2 (by omega) (fun k h1 h2 => ?_), v3⟩
        have : k = 40 * l + p := by omega
        subst this
        refine no _ (by omega) ?_
        rw [d1, d2]
        exact fun z => z.2.2 q3
      · refine par_zg (fun r => par_zw' (fun J1 f1 => par_zw' (fun J2 f2 => ?_)))
        have g40 : J1 0 40 = (g : Int) := by rw [f1, if_neg (by omega)]; exact v1
        rw [v1] at r
        have gt : (J 0 40).toNat = g := by rw [v1]; rfl
        rw [gt] at f1
        refine ih (p + 1) (g + 1) J2 (by omega) ⟨?_, lsb_add v2 (hPk.mpr ⟨q1, q2, q3⟩) (fun j hj => ?_) ?_, fun q j h1 h2 => ?_⟩
        · rw [f2, if_pos ⟨rfl, rfl⟩, g40, wr32_i2 (by omega) (by omega)]; rfl
        · rw [f2, if_neg (by omega), f1, if_neg (by omega)]
        · rw [f2, if_neg (by omega), f1, if_pos ⟨rfl, rfl⟩] <;> first | rfl | omega
        · rw [f2, if_neg h2, f1, if_neg (by omega)]; exact v3 q j h1 h2
    · refine stop (fun k h1 h2 => no k (by omega) ?_)
      rw [show k / 40 = l by omega]
      exact fun z => q2 (by omega)
    · refine stop (fun k h1 h2 => no k (by omega) ?_)
      rw [show k / 40 = l by omega]
      exact fun z => q1 (by omega)
theorem xr_7 {P : Nat → Bool} (J0 : IMem) (hc : ∀ l, l < 6 → J0 1 (130 + l) ≤ 40) (hP : ∀ k, k < 240 → (P k = true ↔ ((k % 40 : Nat) : Int) < J0 1 (130 + k / 40) ∧ ((k % 40 : Nat) : Int) < J0 1 (10 + k / 40) ∧ J0 1 (140 + 6 * k + 3) ≠ 2)) : ∀ (m l g : Nat) (J : IMem), l ≤ 6 → XRV P J0 (40 * l) g J → par (f_X_laysRow_7 fu 0 m (l : Int) J) (fun _ J' => ∃ g, XRV P J0 240 g J') := by
  intro m
  induction m with
  | zero => intro _ _ _ _ _; exact par_none
  | succ m ih =>
    intro l g J hl hV
    show par (fb_X_laysRow_7 fu 0 (f_X_laysRow_7 fu 0 m) (l : Int) J) _
    unfold fb_X_laysRow_7
    by_cases hin : (l : Int) < 6
    · rw [if_pos hin]
      refine xr_15 _ J0 (show l < 6 by omega) (hc l (by omega)) hP (fun g2 J2 h2 => ?_) fu 0 g J (by decide) hV
      have w1 : Wq (wr32 ((l : Int) + 1)) (((l + 1 : Nat) : Int)) := by show wr32 ((l : Int) + 1) = ((l + 1 : Nat) : Int); rw [wr32_i2 (by omega) (by omega)]; rfl
      simp only [zl_e]
      rw [w1.e]
      exact ih (l + 1) g2 J2 (by omega) h2
    · rw [if_neg hin]
      have : l = 6 := by omega
      subst this
      exact par_zr ⟨g, hV⟩
theorem xr_row {P : Nat → Bool} (J : IMem) (hc : ∀ l, l < 6 → J 1 (130 + l) ≤ 40) (hP : ∀ k, k < 240 → (P k = true ↔ ((k % 40 : Nat) : Int) < J 1 (130 + k / 40) ∧ ((k % 40 : Nat) : Int) < J 1 (10 + k / 40) ∧ J 1 (140 + 6 * k + 3) ≠ 2)) : par (f_X_laysRow fu 0 J) (fun _ J' => ∃ g, XRV P J 240 g J') := by
  unfold f_X_laysRow
  refine par_zw' (fun J1 e1 => ?_)
  refine par_mono (xr_7 (P := P) J1 (fun l hl => ?_) (fun k hk => ?_) fu 0 0 J1 (by decide) ⟨?_, ⟨rfl, fun k hk => absurd hk (Nat.not_lt_zero _)⟩, fun _ _ _ _ => rfl⟩) (fun _ J' ⟨g, h1, h2, h3⟩ => ⟨g, h1, h2, fun q j a b => ?_⟩)
  · rw [e1, if_neg (by omega)]; exact hc l hl
  · rw [e1, if_neg (by omega), e1, if_neg (by omega), e1, if_neg (by omega)]; exact hP k hk
  · rw [e1, if_pos ⟨rfl, rfl⟩]; rfl
  · rw [h3 q j a b, e1, if_neg b]
/-- the class's groups before the i-th of those seen -/
def CGV (P : Nat → Bool) (a0 : Nat → Int) (n : Nat) (I0 : IMem) (i g : Nat) (I : IMem) : Prop := g ≤ i ∧ I 154 3 = (g : Int) ∧ (∀ j, i ≤ j → I 155 j = a0 j) ∧ LSB P (I 155) g (nxS a0 n i) ∧ (∀ k, k < nxS a0 n i → P k = true → I 156 (cnB P k) = I0 8 (6 * k + 1) ∧ I 157 (cnB P k) = I0 8 (6 * k + 3)) ∧ ∀ q j, q ≠ 155 → q ≠ 156 → q ≠ 157 → ¬ (q = 154 ∧ j = 3) → I q j = I0 q j
theorem nxS_gap {a c s : Nat → Int} {lg : Int} {n i k : Nat} (h : SLI a c s lg 240 n) (hi : i < n) (hk : a i = (k : Int)) : k < 240 ∧ SN c s lg k ∧ nxS a n i = k ∧ k + 1 ≤ nxS a n (i + 1) ∧ nxS a n (i + 1) ≤ 240 ∧ ∀ k2, k + 1 ≤ k2 → k2 < nxS a n (i + 1) → ¬ SN c s lg k2 := by
  have e0 : nxS a n i = k := by unfold nxS; rw [if_pos hi, hk]; rfl
  obtain ⟨k0, q1, q2, q3⟩ := h.1 i hi
  have k0k : k0 = k := by omega
  subst k0k
  have hb : k0 + 1 ≤ nxS a n (i + 1) ∧ nxS a n (i + 1) ≤ 240 := by
    unfold nxS
    by_cases hn : i + 1 < n
    · rw [if_pos hn]
      have := h.2.1 i (i + 1) (by omega) hn
      obtain ⟨k1, p1, p2, _⟩ := h.1 (i + 1) hn
      omega
    · rw [if_neg hn]; omega
  refine ⟨q1, q3, e0, hb.1, hb.2, fun k2 h1 h2 hs => ?_⟩
  obtain ⟨i2, j1, j2⟩ := h.2.2 k2 (by omega) hs
  have a1 : i < i2 := by
    rcases Nat.lt_trichotomy i i2 with x | x | x
    · exact x
    · subst x; omega
    · have := h.2.1 i2 i x hi; omega
  unfold nxS at h2
  by_cases hn : i + 1 < n
  · rw [if_pos hn] at h2
    obtain ⟨k1, p1, p2, _⟩ := h.1 (i + 1) hn
    by_cases hx : i2 = i + 1
    · subst hx; omega
    · have := h.2.1 (i + 1) i2 (by omega) j1; omega
  · omega
theorem cg_18 {P : Nat → Bool} {a0 c s : Nat → Int} {lg : Int} {n : Nat} (I0 : IMem) (hn : n ≤ 144) (hS : SLI a0 c s lg 240 n) (hP : ∀ k, k < 240 → (P k = true ↔ SN c s lg k ∧ I0 8 (6 * k + 3) ≠ 2)) : ∀ (m i g : Nat) (I : IMem), i ≤ n → CGV P a0 n I0 i g I → par (f_F_gather_18 fu 154 7 (n : Int) m (i : Int) I) (fun _ I' => ∃ g, g ≤ 144 ∧ CGV P a0 n I0 n g I') := by
  intro m
  induction m with
  | zero => intro _ _ _ _ _; exact par_none
  | succ m ih =>
    intro i g I hi hV
    have hV' := hV
    obtain ⟨v0, v1, v2, v3, v4, v5⟩ := hV'
    show par (fb_F_gather_18 fu 154 7 (n : Int) (f_F_gather_18 fu 154 7 (n : Int) m) (i : Int) I) _
    unfold fb_F_gather_18
    by_cases hin : i < n
    · rw [if_pos (show (i : Int) < (n : Int) by omega), if_pos (show (i : Int) < 144 by omega)]
      obtain ⟨k0, q1, q2, q3⟩ := hS.1 i hin
      obtain ⟨k1, k2, k3, k4, k5, k6⟩ := nxS_gap hS hin q2
      rw [k3] at v3 v4
      have w1 : Wq (wr32 ((i : Int) + 1)) (((i + 1 : Nat) : Int)) := by show wr32 ((i : Int) + 1) = ((i + 1 : Nat) : Int); rw [wr32_i2 (by omega) (by omega)]; rfl
      refine par_zg (fun _ => ?_)
      have sp : I (154 + 1) (i : Int).toNat = (k0 : Int) := (v2 i (Nat.le_refl _)).trans q2
      rw [sp, ev_get3 fu 7 k0 I k1, zb_zr]
      have r3 : I (7 + 1) (6 * k0 + 3) = I0 8 (6 * k0 + 3) := v5 8 _ (by decide) (by decide) (by decide) (by omega)
      rw [r3]
      simp only [zl_e, zj_e]
      rw [w1.e]
      have gap : ∀ k, k0 + 1 ≤ k → k < nxS a0 n (i + 1) → P k = false := fun k h1 h2 => by
        cases hpk : P k with
        | false => rfl
        | true => exact absurd ((hP k (by omega)).mp hpk).1 (k6 k h1 h2)
      refine par_ite (fun q => ?_) (fun q => ?_)
      · have pk : P k0 = false := by
          cases hpk : P k0 with
          | false => rfl
          | true => exact absurd q ((hP k0 k1).mp hpk).2
        have all : ∀ k, k0 ≤ k → k < nxS a0 n (i + 1) → P k = false := fun k h1 h2 => by
          by_cases e : k = k0
          · rw [e]; exact pk
          · exact gap k (by omega) h2
        refine ih (i + 1) g I (by omega) ⟨by omega, v1, fun j hj => v2 j (by omega), lsb_skip v3 (by omega) all, fun k hk hpk => ?_, v5⟩
        by_cases y : k < k0
        · exact v4 k y hpk
        · rw [all k (by omega) hk] at hpk; exact absurd hpk (by decide)
      · have pk : P k0 = true := (hP k0 k1).mpr ⟨q3, q⟩
        have gt : (I 154 3).toNat = g := by rw [v1]; rfl
        rw [gt]
        refine par_zg (fun _ => par_zg (fun _ => par_zw' (fun I1 e1 => par_zg (fun _ => ?_))))
        rw [sp] at e1
        have s1 : I1 (154 + 1) (i : Int).toNat = (k0 : Int) := by
          rw [e1]
          by_cases y : (154 + 1 = 154 + 1 ∧ (i : Int).toNat = g)
          · rw [if_pos y]
          · rw [if_neg y]; exact sp
        rw [s1, ev_get1 fu 7 k0 I1 k1, zb_zr]
        have r1 : I1 (7 + 1) (6 * k0 + 1) = I0 8 (6 * k0 + 1) := by rw [e1, if_neg (by omega)]; exact v5 8 _ (by decide) (by decide) (by decide) (by omega)
        have g1 : (I1 154 3).toNat = g := by rw [e1, if_neg (by omega)]; exact gt
        rw [r1, g1]
        refine par_zg (fun _ => par_zw' (fun I2 e2 => ?_))
        have g2 : (I2 154 3).toNat = g := by rw [e2, if_neg (by omega)]; exact g1
        rw [g2]
        refine par_zg (fun _ => par_zw' (fun I3 e3 => par_zw' (fun I4 e4 => ?_)))
        have g3 : I3 154 3 = (g : Int) := by rw [e3, if_neg (by omega), e2, if_neg (by omega), e1, if_neg (by omega)]; exact v1
        rw [g3, wr32_i2 (x := (g : Int) + 1) (by omega) (by omega)] at e4
        have f4 : ∀ q j, I4 q j = if q = 154 ∧ j = 3 then (g : Int) + 1 else if q = 154 + 3 ∧ j = g then I0 8 (6 * k0 + 3) else if q = 154 + 2 ∧ j = g then I0 8 (6 * k0 + 1) else if q = 154 + 1 ∧ j = g then (k0 : Int) else I q j := fun q j => by rw [e4, e3, e2, e1]
        clear e4 e3 e2 e1
        have cg := v3.1
        refine ih (i + 1) (g + 1) I4 (by omega) ⟨by omega, ?_, fun j hj => ?_, lsb_skip (lsb_add v3 pk (fun j hj => ?_) ?_) k4 gap, fun k hk hpk => ?_, fun q j a1 a2 a3 a4 => ?_⟩
        · rw [f4, if_pos ⟨rfl, rfl⟩]; rfl
        · rw [f4, if_neg (by omega), if_neg (by omega), if_neg (by omega), if_neg (by omega)]; exact v2 j (by omega)
        · rw [f4, if_neg (by omega), if_neg (by omega), if_neg (by omega), if_neg (by omega)]
        · rw [f4, if_neg (by omega), if_neg (by omega), if_neg (by omega), if_pos ⟨rfl, rfl⟩]
        · by_cases y : k = k0
          · subst y
            rw [← cg, f4, if_neg (by omega), if_neg (by omega), if_pos ⟨rfl, rfl⟩, f4, if_neg (by omega), if_pos ⟨rfl, rfl⟩]
            exact ⟨rfl, rfl⟩
          · by_cases y2 : k < k0
            · have := cnB_lt (P := P) y2 hpk
              rw [f4, if_neg (by omega), if_neg (by omega), if_neg (by omega), if_neg (by omega), f4, if_neg (by omega), if_neg (by omega), if_neg (by omega), if_neg (by omega)]
              exact v4 k y2 hpk
            · rw [gap k (by omega) hk] at hpk; exact absurd hpk (by decide)
        · rw [f4, if_neg a4, if_neg (by omega), if_neg (by omega), if_neg (by omega)]; exact v5 q j a1 a2 a3 a4
    · have : i = n := by omega
      subst this
      rw [if_neg (by omega)]
      exact par_zr ⟨g, by omega, hV⟩
theorem cg_row {P : Nat → Bool} (lg : Int) (I : IMem) (hc : ∀ l, l < 6 → 0 ≤ I 9 l ∧ I 9 l ≤ 40) (hs : ∀ l : Nat, l < 6 → 0 ≤ I 10 l + (if (l : Int) = lg then 1 else 0) ∧ I 10 l + (if (l : Int) = lg then 1 else 0) ≤ 24) (hP : ∀ k, k < 240 → (P k = true ↔ SN (I 9) (I 10) lg k ∧ I 8 (6 * k + 3) ≠ 2)) : par (f_F_gather fu 154 7 lg I) (fun _ I' => ∃ g : Nat, g ≤ 144 ∧ I' 154 3 = (g : Int) ∧ LSB P (I' 155) g 240 ∧ (∀ k, k < 240 → P k = true → I' 156 (cnB P k) = I 8 (6 * k + 1) ∧ I' 157 (cnB P k) = I 8 (6 * k + 3)) ∧ ∀ q j, q ≠ 155 → q ≠ 156 → q ≠ 157 → ¬ (q = 154 ∧ j = 3) → I' q j = I q j) := by
  unfold f_F_gather
  refine par_zb (cv_seen (fu := fu) 7 (154 + 1) lg ⟨by decide, by decide⟩ I hc hs) (fun v I2 ⟨n, hv, hn, hS, f2⟩ => ?_)
  refine par_zw' (fun I4 e4 => ?_)
  rw [hv]
  have i4 : ∀ q j, q ≠ 155 → ¬ (q = 154 ∧ j = 3) → I4 q j = I q j := fun q j a b => by rw [e4, if_neg b]; exact congrFun (f2 q a) j
  have s4 : ∀ j, I4 155 j = I2 155 j := fun j => by rw [e4, if_neg (by omega)]
  have r4 : ∀ j, I4 8 j = I 8 j := fun j => i4 8 j (by decide) (by omega)
  have P4 : ∀ k, k < 240 → (P k = true ↔ SN (I 9) (I 10) lg k ∧ I4 8 (6 * k + 3) ≠ 2) := fun k hk => by rw [r4]; exact hP k hk
  have z0 : cnB P (nxS (I2 155) n 0) = 0 ∧ ∀ k, k < nxS (I2 155) n 0 → P k = false := by
    have all : ∀ k, k < nxS (I2 155) n 0 → P k = false := by
      intro k hk
      have k240 : k < 240 := by
        unfold nxS at hk
        by_cases hn0 : 0 < n
        · rw [if_pos hn0] at hk
          obtain ⟨k0, q1, q2, _⟩ := hS.1 0 hn0
          have q2' : I2 155 0 = (k0 : Int) := q2
          omega
        · rw [if_neg hn0] at hk; exact hk
      cases hpk : P k with
      | false => rfl
      | true =>
        exfalso
        obtain ⟨i, i1, i2⟩ := hS.2.2 k k240 ((hP k k240).mp hpk).1
        have i2' : I2 155 i = (k : Int) := i2
        unfold nxS at hk
        rw [if_pos (show 0 < n by omega)] at hk
        by_cases hi0 : i = 0
        · subst hi0; omega
        · have h0 : I2 155 0 < I2 155 i := hS.2.1 0 i (by omega) i1
          omega
    exact ⟨cnB_skip 0 _ (Nat.zero_le _) (fun k _ hk => all k hk), all⟩
  refine par_mono (cg_18 (P := P) (a0 := I2 155) (c := I 9) (s := I 10) (lg := lg) I4 hn hS P4 fu 0 0 I4 (Nat.zero_le _) ⟨Nat.le_refl _, ?_, fun j _ => s4 j, ⟨z0.1.symm, fun k hk hpk => ?_⟩, fun k hk hpk => ?_, fun _ _ _ _ _ _ => rfl⟩) (fun _ I' ⟨g, g1, g2⟩ => ?_)
  · rw [e4, if_pos ⟨rfl, rfl⟩]; rfl
  · rw [z0.2 k hk] at hpk; exact absurd hpk (by decide)
  · rw [z0.2 k hk] at hpk; exact absurd hpk (by decide)
  · obtain ⟨h0, h1, h2, h3, h4, h5⟩ := g2
    rw [nxS_n] at h3 h4
    refine ⟨g, g1, h1, h3, fun k hk hpk => ?_, fun q j a1 a2 a3 a4 => (h5 q j a1 a2 a3 a4).trans (i4 q j a1 a4)⟩
    rw [← r4, ← r4]
    exact h4 k hk hpk
end
