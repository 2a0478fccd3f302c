/-! NUMBERS as a chair goes: the reference -/
theorem cnB_lek {P : Nat → Bool} : ∀ K : Nat, cnB P K ≤ K := by
  intro K
  induction K with
  | zero => exact Nat.le_refl _
  | succ K ih =>
    have : cnB P (K + 1) = cnB P K + (if P K = true then 1 else 0) := rfl
    rw [this]
    split <;> omega
/-- the group at place p of line l stays in its line -/
def KPb (J : IMem) (l p : Nat) : Bool := decide (J 12 (40 * l + p) = 0 ∧ J 9 (40 * l + p) ≠ J 1 (140 + 6 * (40 * l + p) + 1))
theorem kp_iff {J : IMem} {l p : Nat} : KPb J l p = true ↔ (J 12 (40 * l + p) = 0 ∧ J 9 (40 * l + p) ≠ J 1 (140 + 6 * (40 * l + p) + 1)) := by
  unfold KPb
  rw [decide_eq_true_iff]
theorem kp_eq {J J' : IMem} {l p : Nat} (h12 : J' 12 (40 * l + p) = J 12 (40 * l + p)) (h9 : J' 9 (40 * l + p) = J 9 (40 * l + p)) (h1 : J' 1 (140 + 6 * (40 * l + p) + 1) = J 1 (140 + 6 * (40 * l + p) + 1)) : KPb J' l p = KPb J l p := by
  unfold KPb
  rw [h12, h9, h1]
theorem cnB_eq {P P' : Nat → Bool} : ∀ K : Nat, (∀ k, k < K → P' k = P k) → cnB P' K = cnB P K := by
  intro K
  induction K with
  | zero => intro _; rfl
  | succ K ih =>
    intro h
    show cnB P' K + (if P' K = true then 1 else 0) = cnB P K + (if P K = true then 1 else 0)
    rw [ih (fun k hk => h k (by omega)), h K (by omega)]
section
variable {fu : Nat} {Q : Int → IMem → Prop}
/-- a line's rows below p have moved up -/
def XNV (J0 : IMem) (l p : Nat) (J : IMem) : Prop := (∀ q j, ¬ (q = 1 ∧ 140 + 240 * l ≤ j ∧ j < 140 + 240 * l + 6 * cnB (KPb J0 l) p) → J q j = J0 q j) ∧ ∀ p', p' < p → KPb J0 l p' = true → J 1 (140 + 6 * (40 * l + cnB (KPb J0 l) p')) = J0 1 (140 + 6 * (40 * l + p'))
theorem xn_57 (kk : Int → IMem → Res) (l c : Nat) (hl : l < 6) (hc : c ≤ 40) (J0 : IMem) (h9 : ∀ p, p < c → 0 ≤ J0 9 (40 * l + p) ∧ J0 9 (40 * l + p) ≤ J0 1 (140 + 6 * (40 * l + p) + 1) ∧ J0 1 (140 + 6 * (40 * l + p) + 1) ≤ 8) (hend : ∀ J, XNV J0 l c J → par (kk ((cnB (KPb J0 l) c : Nat) : Int) J) Q) : ∀ (m p : Nat) (w3 : Int) (J : IMem), p ≤ c → XNV J0 l p J → par (f_X_movesUp_57 fu kk 0 (l : Int) (c : Int) m w3 ((cnB (KPb J0 l) p : Nat) : Int) (p : Int) J) Q := by
  intro m
  induction m with
  | zero => intro _ _ _ _ _; exact par_none
  | succ m ih =>
    intro p w3 J hp hV
    show par (fb_X_movesUp_57 fu kk 0 (l : Int) (c : Int) (f_X_movesUp_57 fu kk 0 (l : Int) (c : Int) m) w3 ((cnB (KPb J0 l) p : Nat) : Int) (p : Int) J) Q
    rw [moves_eq]
    by_cases h : p < c
    · obtain ⟨v1, v2⟩ := hV
      have hle := cnB_lek (P := KPb J0 l) p
      have hp4 : p < 40 := by omega
      have w2 : Wq (wr32 (wr32 (40 * (l : Int)) + (p : Int))) ((40 * l + p : Nat) : Int) := by show wr32 (wr32 (40 * (l : Int)) + (p : Int)) = ((40 * l + p : Nat) : Int); rw [wr32_i2 (x := 40 * (l : Int)) (by omega) (by omega), wr32_i2 (by omega) (by omega)]; omega
      have wp : Wq (wr32 ((p : Int) + 1)) ((p + 1 : Nat) : Int) := by show wr32 ((p : Int) + 1) = ((p + 1 : Nat) : Int); rw [wr32_i2 (by omega) (by omega)]; rfl
      have f12 : J 12 (40 * l + p) = J0 12 (40 * l + p) := v1 _ _ (by omega)
      have f9 : J 9 (40 * l + p) = J0 9 (40 * l + p) := v1 _ _ (by omega)
      have fr : ∀ f, f < 6 → J 1 (140 + 6 * (40 * l + p) + f) = J0 1 (140 + 6 * (40 * l + p) + f) := fun f _ => v1 _ _ (by omega)
      rw [if_pos (show (p : Int) < (c : Int) by omega), w2.e]
      refine par_zg (fun _ => ?_)
      have body : ∀ x15 : Int, par (xDB fu (l : Int) (c : Int) ((40 * l + p : Nat) : Int) x15 ((cnB (KPb J0 l) p : Nat) : Int) (p : Int) (f_X_movesUp_57 fu kk 0 (l : Int) (c : Int) m) J) Q := by
        intro x15
        cases hk : KPb J0 l p with
        | true =>
          obtain ⟨k1, k2⟩ := kp_iff.mp hk
          have hb := h9 p h
          refine xv_keep (fu := fu) l p (cnB (KPb J0 l) p) hl hp4 hle x15 (c : Int) _ J (by rw [f12]; exact k1) (by rw [f9, fr 1 (by decide)]; exact k2) (by rw [f9, fr 1 (by decide)]; exact hb) (fun J2 g => ?_)
          have e1 := cnB_y (P := KPb J0 l) hk
          rw [← e1]
          refine ih (p + 1) x15 J2 h ⟨fun q j hq => ?_, fun p' hp' hk' => ?_⟩
          · rw [e1] at hq
            rw [g, if_neg (by omega), if_neg (by omega), if_neg (by omega), if_neg (by omega)]
            exact v1 q j (by omega)
          · by_cases y : p' = p
            · rw [y, g, if_neg (by omega), if_neg (by omega), if_neg (by omega), if_pos (by omega), show 140 + 6 * (40 * l + p) + (140 + 6 * (40 * l + cnB (KPb J0 l) p) - (140 + 6 * (40 * l + cnB (KPb J0 l) p))) = 140 + 6 * (40 * l + p) + 0 by omega]
              exact fr 0 (by decide)
            · have hlt := cnB_lt (P := KPb J0 l) (show p' < p by omega) hk'
              rw [g, if_neg (by omega), if_neg (by omega), if_neg (by omega), if_neg (by omega)]
              exact v2 p' (by omega) hk'
        | false =>
          have e1 := cnB_n (P := KPb J0 l) hk
          have nxt : par (f_X_movesUp_57 fu kk 0 (l : Int) (c : Int) m x15 ((cnB (KPb J0 l) p : Nat) : Int) ((p + 1 : Nat) : Int) J) Q := by
            have g := ih (p + 1) x15 J h ⟨fun q j hq => v1 q j (by rw [e1] at hq; exact hq), fun p' hp' hk' => ?_⟩
            · rw [e1] at g; exact g
            · by_cases y : p' = p
              · rw [y, hk] at hk'; exact absurd hk' (by decide)
              · exact v2 p' (by omega) hk'
          unfold xDB
          rw [wp.e]
          refine par_zg (fun _ => ?_)
          have z12 : J (0 + 12) ((40 * l + p : Nat) : Int).toNat = J0 12 (40 * l + p) := f12
          rw [z12]
          refine par_ite (fun q => ?_) (fun _ => nxt)
          refine par_zg (fun _ => ?_)
          rw [ev_of1 fu 0 l p J hl hp4, zb_zr]
          have z9 : J (0 + 9) ((40 * l + p : Nat) : Int).toNat = J0 9 (40 * l + p) := f9
          have z1 : J (0 + 1) (140 + 6 * (40 * l + p) + 1) = J0 1 (140 + 6 * (40 * l + p) + 1) := fr 1 (by decide)
          rw [z9, z1]
          by_cases q2 : J0 9 (40 * l + p) = J0 1 (140 + 6 * (40 * l + p) + 1)
          · rw [if_pos q2]; exact nxt
          · have := kp_iff.mpr ⟨q, q2⟩
            rw [hk] at this
            exact absurd this (by decide)
      exact par_ite (fun _ => body _) (fun _ => body _)
    · rw [if_neg (show ¬ (p : Int) < (c : Int) by omega)]
      have : p = c := by omega
      subst this
      exact hend J hV
theorem xn_up (l c : Nat) (hl : l < 6) (hc : c ≤ 40) (J : IMem) (hcJ : J 1 (130 + l) = (c : Int)) (h9 : ∀ p, p < c → 0 ≤ J 9 (40 * l + p) ∧ J 9 (40 * l + p) ≤ J 1 (140 + 6 * (40 * l + p) + 1) ∧ J 1 (140 + 6 * (40 * l + p) + 1) ≤ 8) : par (f_X_movesUp fu 0 (l : Int) J) (fun _ J' => (∀ q j, ¬ (q = 1 ∧ (j = 130 + l ∨ (140 + 240 * l ≤ j ∧ j < 380 + 240 * l))) → J' q j = J q j) ∧ J' 1 (130 + l) = ((cnB (KPb J l) c : Nat) : Int) ∧ ∀ p, p < c → KPb J l p = true → J' 1 (140 + 6 * (40 * l + cnB (KPb J l) p)) = J 1 (140 + 6 * (40 * l + p))) := by
  unfold f_X_movesUp
  have w1 : Wq (wr32 (130 + (l : Int))) ((130 + l : Nat) : Int) := by show wr32 (130 + (l : Int)) = ((130 + l : Nat) : Int); rw [wr32_i2 (by omega) (by omega)]; omega
  simp only [zl_e]
  rw [w1.e]
  refine par_zg (fun _ => ?_)
  have c1 : J (0 + 1) ((130 + l : Nat) : Int).toNat = (c : Int) := hcJ
  rw [c1]
  refine xv_cnt16 (fu := fu) _ l hl c hc J ?_ fu 0 (Nat.zero_le _)
  refine xn_57 _ l c hl hc J h9 (fun J2 hV => ?_) fu 0 (cnt (sf J l) c) J (Nat.zero_le _) ⟨fun _ _ _ => rfl, fun p' hp' => absurd hp' (Nat.not_lt_zero _)⟩
  obtain ⟨v1, v2⟩ := hV
  have hle := cnB_lek (P := KPb J l) c
  refine par_zg (fun _ => par_zw' (fun J3 e3 => par_zr ⟨fun q j hq => ?_, ?_, fun p hp hk => ?_⟩))
  · rw [tn] at e3
    rw [e3, if_neg (by omega)]
    exact v1 q j (by omega)
  · rw [tn] at e3
    rw [e3, if_pos ⟨rfl, rfl⟩]
  · rw [tn] at e3
    rw [e3, if_neg (by omega)]
    exact v2 p hp hk
/-- the lines below l have moved up -/
def XMV (J0 : IMem) (l : Nat) (J : IMem) : Prop := (∀ q j, ¬ (q = 1 ∧ 130 ≤ j ∧ j < 1580) → J q j = J0 q j) ∧ (∀ l', l ≤ l' → l' < 6 → J 1 (130 + l') = J0 1 (130 + l') ∧ ∀ j, 140 + 240 * l' ≤ j → j < 380 + 240 * l' → J 1 j = J0 1 j) ∧ ∀ l', l' < l → J 1 (130 + l') = ((cnB (KPb J0 l') (J0 1 (130 + l')).toNat : Nat) : Int) ∧ ∀ p : Nat, (p : Int) < J0 1 (130 + l') → KPb J0 l' p = true → J 1 (140 + 6 * (40 * l' + cnB (KPb J0 l') p)) = J0 1 (140 + 6 * (40 * l' + p))
theorem xn_266 (kk : IMem → Res) (p1 : Int) (J0 : IMem) (hc : ∀ l, l < 6 → 0 ≤ J0 1 (130 + l) ∧ J0 1 (130 + l) ≤ 40) (h9 : ∀ k, INL J0 k → 0 ≤ J0 9 k ∧ J0 9 k ≤ J0 1 (140 + 6 * k + 1) ∧ J0 1 (140 + 6 * k + 1) ≤ 8) (hend : ∀ J, XMV J0 6 J → par (kk J) Q) : ∀ (m l : Nat) (J : IMem), l ≤ 6 → XMV J0 l J → par (f_X_goesOff_266 fu kk 0 p1 m (l : Int) J) Q := by
  intro m
  induction m with
  | zero => intro _ _ _ _; exact par_none
  | succ m ih =>
    intro l J hl hV
    show par (fb_X_goesOff_266 fu kk 0 p1 (f_X_goesOff_266 fu kk 0 p1 m) (l : Int) J) Q
    unfold fb_X_goesOff_266
    by_cases h : l < 6
    · rw [if_pos (show (l : Int) < 6 by omega)]
      obtain ⟨v1, v2, v3⟩ := hV
      obtain ⟨a1, a2⟩ := v2 l (Nat.le_refl _) h
      obtain ⟨c, hcc⟩ : ∃ c : Nat, J0 1 (130 + l) = (c : Int) := ⟨(J0 1 (130 + l)).toNat, by have := hc l h; omega⟩
      have hc40 : c ≤ 40 := by have := hc l h; omega
      have kpe : ∀ p, p < 40 → KPb J l p = KPb J0 l p := fun p hp => kp_eq (v1 _ _ (by omega)) (v1 _ _ (by omega)) (a2 _ (by omega) (by omega))
      have cne : ∀ p, p ≤ 40 → cnB (KPb J l) p = cnB (KPb J0 l) p := fun p hp => cnB_eq p (fun k hk => kpe k (by omega))
      refine par_zb (xn_up (fu := fu) l c h hc40 J (a1.trans hcc) (fun p hp => ?_)) (fun _ J1 ⟨g1, g2, g3⟩ => ?_)
      · have := h9 (40 * l + p) ⟨by omega, by rw [show (40 * l + p) % 40 = p by omega, show (40 * l + p) / 40 = l by omega, hcc]; omega⟩
        rw [v1 9 _ (by omega), a2 _ (by omega) (by omega)]
        exact this
      have w1 : Wq (wr32 ((l : Int) + 1)) ((l + 1 : Nat) : Int) := by show wr32 ((l : Int) + 1) = ((l + 1 : Nat) : Int); rw [wr32_i2 (by omega) (by omega)]; rfl
      simp only [zl_e]
      rw [w1.e]
      refine ih (l + 1) J1 h ⟨fun q j hq => ?_, fun l' h1 h2 => ⟨?_, fun j h3 h4 => ?_⟩, fun l' h1 => ?_⟩
      · rw [g1 q j (by omega)]; exact v1 q j hq
      · rw [g1 _ _ (by omega)]; exact (v2 l' (by omega) h2).1
      · rw [g1 _ _ (by omega)]; exact (v2 l' (by omega) h2).2 j h3 h4
      · by_cases y : l' = l
        · subst y
          rw [hcc, show ((c : Nat) : Int).toNat = c from rfl]
          refine ⟨by rw [g2, cne c hc40], fun p hp hk => ?_⟩
          have hpc : p < c := by omega
          have g := g3 p hpc (by rw [kpe p (by omega)]; exact hk)
          rw [cne p (by omega)] at g
          rw [g]
          exact a2 _ (by omega) (by omega)
        · obtain ⟨b1, b2⟩ := v3 l' (by omega)
          refine ⟨by rw [g1 _ _ (by omega)]; exact b1, fun p hp hk => ?_⟩
          have hcl := hc l' (by omega)
          have hlt := cnB_lek (P := KPb J0 l') p
          rw [g1 _ _ (by omega)]
          exact b2 p hp hk
    · rw [if_neg (show ¬ (l : Int) < 6 by omega)]
      have : l = 6 := by omega
      subst this
      exact hend J hV
/-- each NUMBER stands once -/
def NUQ (J : IMem) : Prop := ∀ k k', INL J k → INL J k' → J 1 (140 + 6 * k) = J 1 (140 + 6 * k') → k = k'
/-- a NUMBER stands -/
def STD (N : Int) (J : IMem) : Prop := ∃ k, INL J k ∧ J 1 (140 + 6 * k) = N
/-- after the lines have moved up -/
theorem xm_src {J0 J : IMem} (hc : ∀ l, l < 6 → 0 ≤ J0 1 (130 + l) ∧ J0 1 (130 + l) ≤ 40) (h : XMV J0 6 J) : (∀ k, INL J k → ∃ k0, INL J0 k0 ∧ KPb J0 (k0 / 40) (k0 % 40) = true ∧ J 1 (140 + 6 * k) = J0 1 (140 + 6 * k0) ∧ k / 40 = k0 / 40 ∧ k % 40 = cnB (KPb J0 (k0 / 40)) (k0 % 40)) ∧ ∀ k0, INL J0 k0 → KPb J0 (k0 / 40) (k0 % 40) = true → STD (J0 1 (140 + 6 * k0)) J := by
  obtain ⟨v1, v2, v3⟩ := h
  refine ⟨fun k hk => ?_, fun k0 hk hp => ?_⟩
  · obtain ⟨h1, h2⟩ := hk
    have l6 : k / 40 < 6 := by omega
    obtain ⟨b1, b2⟩ := v3 (k / 40) l6
    rw [b1] at h2
    have hcl := hc (k / 40) l6
    obtain ⟨p, p1, p2, p3⟩ := cnB_at (P := KPb J0 (k / 40)) (J0 1 (130 + k / 40)).toNat (k % 40) (by omega)
    have d1 : (40 * (k / 40) + p) / 40 = k / 40 := by omega
    have d2 : (40 * (k / 40) + p) % 40 = p := by omega
    refine ⟨40 * (k / 40) + p, ⟨by omega, by rw [d1, d2]; omega⟩, by rw [d1, d2]; exact p2, ?_, d1.symm, by rw [d1, d2]; exact p3.symm⟩
    have g := b2 p (by omega) p2
    rw [p3, show 40 * (k / 40) + k % 40 = k by omega] at g
    exact g
  · obtain ⟨h1, h2⟩ := hk
    have l6 : k0 / 40 < 6 := by omega
    obtain ⟨b1, b2⟩ := v3 (k0 / 40) l6
    have hcl := hc (k0 / 40) l6
    have hlt : cnB (KPb J0 (k0 / 40)) (k0 % 40) < cnB (KPb J0 (k0 / 40)) (J0 1 (130 + k0 / 40)).toNat := cnB_lt (by omega) hp
    have hle := cnB_lek (P := KPb J0 (k0 / 40)) (k0 % 40)
    have d1 : (40 * (k0 / 40) + cnB (KPb J0 (k0 / 40)) (k0 % 40)) / 40 = k0 / 40 := by omega
    have d2 : (40 * (k0 / 40) + cnB (KPb J0 (k0 / 40)) (k0 % 40)) % 40 = cnB (KPb J0 (k0 / 40)) (k0 % 40) := by omega
    refine ⟨40 * (k0 / 40) + cnB (KPb J0 (k0 / 40)) (k0 % 40), ⟨by omega, by rw [d1, d2, b1]; omega⟩, ?_⟩
    have g := b2 (k0 % 40) (by omega) hp
    rw [show 40 * (k0 / 40) + k0 % 40 = k0 by omega] at g
    exact g
/-- the first i of those found out came behind LINE 0, or went away -/
def GNV (J0 J1 : IMem) (i : Nat) (J : IMem) : Prop :=
  (∀ q j, ¬ (q = 1 ∧ (j = 76 ∨ (130 ≤ j ∧ j < 1580))) → ¬ (q = 0 ∧ j = 24) → J q j = J1 q j) ∧ (∀ l, l < 6 → 0 ≤ J 1 (130 + l) ∧ J 1 (130 + l) ≤ 40) ∧
  (∀ k, INL J k → ∃ k0, INL J0 k0 ∧ J 1 (140 + 6 * k) = J0 1 (140 + 6 * k0) ∧ (KPb J0 (k0 / 40) (k0 % 40) = true ∨ ∃ i' : Nat, i' < i ∧ J0 10 i' = (k0 : Int))) ∧
  NUQ J ∧
  (∀ k0, INL J0 k0 → KPb J0 (k0 / 40) (k0 % 40) = true → STD (J0 1 (140 + 6 * k0)) J) ∧
  (∀ i' k0 : Nat, i' < i → J0 10 i' = (k0 : Int) → STD (J0 1 (140 + 6 * k0)) J ∨ (J0 1 (140 + 6 * k0) = J0 0 23 → J 0 24 ≠ 0)) ∧
  (J 0 24 ≠ 0 → J0 0 24 ≠ 0 ∨ ∃ i' k0 : Nat, i' < i ∧ J0 10 i' = (k0 : Int) ∧ J0 1 (140 + 6 * k0) = J0 0 23 ∧ ¬ STD (J0 0 23) J)
theorem xn_285 (kk : IMem → Res) (p1 : Int) {J0 J1 : IMem} (hS : CVS J0) (hU : NUQ J0) {n : Nat} (h32 : J0 0 32 = (n : Int)) (hn : n ≤ 240) (j32 : J1 0 32 = (n : Int)) (j23 : J1 0 23 = J0 0 23) (hout : ∀ i k : Nat, i < n → J0 10 i = (k : Int) → J1 14 (6 * i) = J0 1 (140 + 6 * k)) (hend : ∀ J, GNV J0 J1 n J → par (kk J) Q) : ∀ (m i : Nat) (J : IMem), i ≤ n → GNV J0 J1 i J → par (f_X_goesOff_285 fu kk 0 p1 m (i : Int) J) Q := by
  intro m
  induction m with
  | zero => intro _ _ _ _; exact par_none
  | succ m ih =>
    intro i J hi hV
    have hV' := hV
    obtain ⟨v1, v2, va, vb, vc, vd, ve⟩ := hV'
    show par (fb_X_goesOff_285 fu kk 0 p1 (f_X_goesOff_285 fu kk 0 p1 m) (i : Int) J) Q
    unfold fb_X_goesOff_285
    have i32 : J 0 32 = (n : Int) := (v1 0 32 (by omega) (by omega)).trans j32
    rw [i32]
    by_cases h : i < n
    · rw [if_pos (show (i : Int) < (n : Int) by omega)]
      have w0 : Wq (wr32 (6 * (i : Int))) ((6 * i : Nat) : Int) := by show wr32 (6 * (i : Int)) = ((6 * i : Nat) : Int); rw [wr32_i2 (by omega) (by omega)]; omega
      have wn : Wq (wr32 ((i : Int) + 1)) ((i + 1 : Nat) : Int) := by show wr32 ((i : Int) + 1) = ((i + 1 : Nat) : Int); rw [wr32_i2 (by omega) (by omega)]; rfl
      simp only [zl_e]
      rw [w0.e, wn.e]
      refine par_zg (fun _ => par_zg (fun _ => par_zg (fun _ => par_zg (fun _ => par_zg (fun _ => par_zg (fun _ => ?_))))))
      obtain ⟨k, k1, k2, k3⟩ := hS.2.2.2.2.1 i (by rw [h32]; omega)
      have on : J (0 + 14) ((6 * i : Nat) : Int).toNat = J0 1 (140 + 6 * k) := by
        show J 14 (6 * i) = _
        rw [v1 14 _ (by omega) (by omega)]; exact hout i k h k2
      rw [on]
      have kd := hS.2.2.1 k k1.1 k3
      have nkp : KPb J0 (k / 40) (k % 40) ≠ true := fun q => by
        have := (kp_iff.mp q).1
        rw [show 40 * (k / 40) + k % 40 = k by omega] at this
        exact k3 this
      have nst : ¬ STD (J0 1 (140 + 6 * k)) J := by
        rintro ⟨k', q1, q2⟩
        obtain ⟨k0, r1, r2, r3⟩ := va k' q1
        have e : k0 = k := hU k0 k r1 k1 (r2.symm.trans q2)
        subst e
        rcases r3 with r3 | ⟨i', r4, r5⟩
        · exact nkp r3
        · have := hS.2.2.2.2.2 i' i (by rw [h32]; omega) (by rw [h32]; omega) (r5.trans k2.symm)
          omega
      have oth : ∀ i' k' : Nat, i' < i → J0 10 i' = (k' : Int) → J0 1 (140 + 6 * k') ≠ J0 1 (140 + 6 * k) := fun i' k' q1 q2 q3 => by
        obtain ⟨k2', s1, s2, _⟩ := hS.2.2.2.2.1 i' (by rw [h32]; omega)
        have e1 : k2' = k' := by omega
        subst e1
        have e : k2' = k := hU k2' k s1 k1 q3
        subst e
        have := hS.2.2.2.2.2 i' i (by rw [h32]; omega) (by rw [h32]; omega) (q2.trans k2.symm)
        omega
      have z0 : f_X_stands fu 0 0 (J0 1 (140 + 6 * k)) = f_X_stands fu 0 ((0 : Nat) : Int) (J0 1 (140 + 6 * k)) := rfl
      rw [z0]
      refine par_zb (xv_stands (fu := fu) (l := 0) (by decide) (v2 0 (by decide))) (fun v J2 g => ?_)
      have c23 : J 0 23 = J0 0 23 := (v1 0 23 (by omega) (by omega)).trans j23
      rcases g with ⟨_, g2, g3, _, g5⟩ | ⟨_, g2, g3⟩
      · -- LINE 0 is full
        have w : ∀ j, j ≠ 76 → J2 1 j = J 1 j := fun j hj => g3 1 j (by omega) (by omega)
        have cw : ∀ l, l < 6 → J2 1 (130 + l) = J 1 (130 + l) := fun l hl => w _ (by omega)
        have cw' : ∀ l, l < 6 → J 1 (130 + l) = J2 1 (130 + l) := fun l hl => (cw l hl).symm
        have st : ∀ N, STD N J2 ↔ STD N J := fun N => ⟨fun ⟨k', a, b⟩ => ⟨k', inl_to cw' a, by rw [← b]; exact (w _ (by omega)).symm⟩, fun ⟨k', a, b⟩ => ⟨k', inl_to cw a, by rw [← b]; exact w _ (by omega)⟩⟩
        rw [c23] at g5
        refine ih (i + 1) J2 h ⟨fun q j a b => (g3 q j (by omega) (by omega)).trans (v1 q j a b), fun l hl => by rw [cw l hl]; exact v2 l hl, fun k' hk' => ?_, fun k' k'' a b e => ?_, fun k0 a b => (st _).mpr (vc k0 a b), fun i' k0 a b => ?_, fun hne => ?_⟩
        · obtain ⟨k0, r1, r2, r3⟩ := va k' (inl_to cw' hk')
          refine ⟨k0, r1, (w _ (by omega)).trans r2, ?_⟩
          rcases r3 with r3 | ⟨i', r4, r5⟩
          · exact Or.inl r3
          · exact Or.inr ⟨i', by omega, r5⟩
        · rw [w _ (by omega), w _ (by omega)] at e
          exact vb k' k'' (inl_to cw' a) (inl_to cw' b) e
        · by_cases y : i' = i
          · subst y
            have e : k0 = k := by omega
            subst e
            exact Or.inr (fun q z => (g5.mp z).2 q)
          · rcases vd i' k0 (by omega) b with x | x
            · exact Or.inl ((st _).mpr x)
            · exact Or.inr (fun q z => x q (g5.mp z).1)
        · by_cases y : J 0 24 = 0
          · have e : J0 1 (140 + 6 * k) = J0 0 23 := Classical.byContradiction (fun q => hne (g5.mpr ⟨y, q⟩))
            exact Or.inr ⟨i, k, by omega, k2, e, fun z => nst (by rw [e]; exact (st _).mp z)⟩
          · rcases ve y with x | ⟨i', k0, x1, x2, x3, x4⟩
            · exact Or.inl x
            · exact Or.inr ⟨i', k0, by omega, x2, x3, fun z => x4 ((st _).mp z)⟩
      · -- one more behind LINE 0
        obtain ⟨r, hr⟩ : ∃ r : Nat, J 1 (130 + 0) = (r : Int) := ⟨(J 1 (130 + 0)).toNat, by have := v2 0 (by decide); omega⟩
        have r40 : r < 40 := by omega
        rw [hr, show ((r : Nat) : Int).toNat = r from rfl] at g3
        have c0 : J2 1 (130 + 0) = (r : Int) + 1 := by rw [g3, if_pos ⟨rfl, rfl⟩]
        have cl : ∀ l, l ≠ 0 → l < 6 → J2 1 (130 + l) = J 1 (130 + l) := fun l h0 hl => by rw [g3, if_neg (by omega), if_neg (by omega)]
        have nr : J2 1 (140 + 6 * r) = J0 1 (140 + 6 * k) := by
          rw [g3, if_neg (by omega), if_pos (by omega), show 140 + 6 * r - (140 + 6 * (40 * 0 + r)) = 0 by omega]
          rfl
        have no : ∀ k', k' ≠ r → k' < 240 → J2 1 (140 + 6 * k') = J 1 (140 + 6 * k') := fun k' hk' _ => by rw [g3, if_neg (by omega), if_neg (by omega)]
        have inr1 : INL J2 r := ⟨by omega, by rw [show r % 40 = r by omega, show r / 40 = 0 by omega, c0]; omega⟩
        have up1 : ∀ k', INL J k' → INL J2 k' ∧ k' ≠ r := fun k' hk' => by
          obtain ⟨a, b⟩ := hk'
          by_cases y : k' / 40 = 0
          · rw [y, hr] at b
            exact ⟨⟨a, by rw [y, c0]; omega⟩, by omega⟩
          · exact ⟨⟨a, by rw [cl _ y (by omega)]; exact b⟩, by omega⟩
        have dn1 : ∀ k', INL J2 k' → k' = r ∨ INL J k' := fun k' hk' => by
          obtain ⟨a, b⟩ := hk'
          by_cases y : k' / 40 = 0
          · rw [y, c0] at b
            by_cases e : k' = r
            · exact Or.inl e
            · exact Or.inr ⟨a, by rw [y, hr]; omega⟩
          · rw [cl _ y (by omega)] at b
            exact Or.inr ⟨a, b⟩
        have st1 : ∀ N, STD N J → STD N J2 := fun N ⟨k', a, b⟩ => ⟨k', (up1 k' a).1, by rw [no k' (up1 k' a).2 a.1]; exact b⟩
        have st2 : ∀ N, STD N J2 → STD N J ∨ N = J0 1 (140 + 6 * k) := fun N ⟨k', a, b⟩ => by
          rcases dn1 k' a with e | e
          · rw [e, nr] at b; exact Or.inr b.symm
          · rw [no k' (up1 k' e).2 e.1] at b; exact Or.inl ⟨k', e, b⟩
        have c24 : J2 0 24 = J 0 24 := by rw [g3, if_neg (by omega), if_neg (by omega)]
        refine ih (i + 1) J2 h ⟨fun q j a b => ?_, fun l hl => ?_, fun k' hk' => ?_, fun k' k'' a b e => ?_, fun k0 a b => st1 _ (vc k0 a b), fun i' k0 a b => ?_, fun hne => ?_⟩
        · rw [g3, if_neg (by omega), if_neg (by omega)]; exact v1 q j a b
        · by_cases y : l = 0
          · rw [y, c0]; omega
          · rw [cl l y hl]; exact v2 l hl
        · rcases dn1 k' hk' with e | e
          · exact ⟨k, k1, by rw [e]; exact nr, Or.inr ⟨i, by omega, k2⟩⟩
          · obtain ⟨k0, r1, r2, r3⟩ := va k' e
            refine ⟨k0, r1, by rw [no k' (up1 k' e).2 e.1]; exact r2, ?_⟩
            rcases r3 with r3 | ⟨i', r4, r5⟩
            · exact Or.inl r3
            · exact Or.inr ⟨i', by omega, r5⟩
        · rcases dn1 k' a with y | y
          · rcases dn1 k'' b with y2 | y2
            · rw [y, y2]
            · rw [y, nr, no k'' (up1 k'' y2).2 y2.1] at e
              exact absurd ⟨k'', y2, e.symm⟩ nst
          · rcases dn1 k'' b with y2 | y2
            · rw [y2, nr, no k' (up1 k' y).2 y.1] at e
              exact absurd ⟨k', y, e⟩ nst
            · rw [no k' (up1 k' y).2 y.1, no k'' (up1 k'' y2).2 y2.1] at e
              exact vb k' k'' y y2 e
        · by_cases y : i' = i
          · subst y
            have e : k0 = k := by omega
            subst e
            exact Or.inl ⟨r, inr1, nr⟩
          · rcases vd i' k0 (by omega) b with x | x
            · exact Or.inl (st1 _ x)
            · exact Or.inr (fun q => by rw [c24]; exact x q)
        · rw [c24] at hne
          rcases ve hne with x | ⟨i', k0, x1, x2, x3, x4⟩
          · exact Or.inl x
          · refine Or.inr ⟨i', k0, by omega, x2, x3, fun z => ?_⟩
            rcases st2 _ z with z2 | z2
            · exact x4 z2
            · exact oth i' k0 x1 x2 (x3.trans z2)
    · rw [if_neg (show ¬ (i : Int) < (n : Int) by omega)]
      have : i = n := by omega
      subst this
      exact hend J hV
end
