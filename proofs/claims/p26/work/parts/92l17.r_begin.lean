/-! a chair's filling, from its start -/
section
variable {fu : Nat}
theorem cv_zero (o : Nat) : ∀ (m i : Nat) (I : IMem), i ≤ 240 → (∀ j, j < i → I o j = 0) → par (f_JA_fill_5 fu o 240 0 240 m (i : Int) I) (fun _ I' => (∀ j, j < 240 → I' o j = 0) ∧ ∀ q, q ≠ o → I' q = I q) := by
  intro m
  induction m with
  | zero => intro _ _ _ _; exact par_none
  | succ m ih =>
    intro i I hi hz
    show par (fb_JA_fill_5 fu o 240 0 240 (f_JA_fill_5 fu o 240 0 240 m) (i : Int) I) _
    unfold fb_JA_fill_5
    by_cases h : i < 240
    · rw [if_pos (by omega)]
      refine par_zg (fun _ => par_zw' (fun I1 e1 => ?_))
      rw [show ((i : Nat) : Int).toNat = i from rfl] at e1
      simp only [zl_e]
      have wn : Wq (wr32 ((i : Int) + 1)) (((i + 1 : Nat) : Int)) := by show wr32 ((i : Int) + 1) = ((i + 1 : Nat) : Int); rw [wr32_i2 (by omega) (by omega)]; rfl
      rw [wn.e]
      refine par_mono (ih (i + 1) I1 h (fun j hj => ?_)) (fun _ I2 ⟨g1, g2⟩ => ⟨g1, fun q hq => ?_⟩)
      · rw [e1]
        by_cases z : j = i
        · rw [if_pos ⟨rfl, z⟩]
        · rw [if_neg (fun y => z y.2)]; exact hz j (by omega)
      · rw [g2 q hq]
        funext j
        rw [e1, if_neg (fun y => hq y.1)]
    · rw [if_neg (by omega)]
      exact par_zr ⟨fun j hj => hz j (by omega), fun _ _ => rfl⟩
theorem cv_clear (oc : Nat) (a : Int) (I : IMem) : par (f_C_clear fu oc a I) (fun _ I' => (∀ j, j < 240 → I' (oc + 1) j = 0) ∧ (I' oc 7 = a ∧ I' oc 8 = 0 ∧ I' oc 9 = 0 ∧ I' oc 10 = 0 ∧ I' oc 11 = 0) ∧ ∀ q j, q ≠ oc + 1 → ¬ (q = oc ∧ 7 ≤ j ∧ j ≤ 11) → I' q j = I q j) := by
  unfold f_C_clear f_JA_fill
  simp only [zl_e]
  refine par_zb (cv_zero (oc + 1) fu 0 I (by decide) (fun j hj => absurd hj (Nat.not_lt_zero _))) (fun _ I1 ⟨g1, g2⟩ => ?_)
  refine par_zw' (fun I2 e2 => par_zw' (fun I3 e3 => par_zw' (fun I4 e4 => par_zw' (fun I5 e5 => par_zw' (fun I6 e6 => par_zr ⟨fun j hj => ?_, ⟨?_, ?_, ?_, ?_, ?_⟩, fun q j h1 h2 => ?_⟩)))))
  · rw [e6, if_neg (by omega), e5, if_neg (by omega), e4, if_neg (by omega), e3, if_neg (by omega), e2, if_neg (by omega)]; exact g1 j hj
  · rw [e6, if_neg (by omega), e5, if_neg (by omega), e4, if_neg (by omega), e3, if_neg (by omega), e2, if_pos ⟨rfl, rfl⟩]
  · rw [e6, if_neg (by omega), e5, if_neg (by omega), e4, if_neg (by omega), e3, if_pos ⟨rfl, rfl⟩]
  · rw [e6, if_neg (by omega), e5, if_neg (by omega), e4, if_pos ⟨rfl, rfl⟩]
  · rw [e6, if_neg (by omega), e5, if_pos ⟨rfl, rfl⟩]
  · rw [e6, if_pos ⟨rfl, rfl⟩]
  · rw [e6, if_neg (by omega), e5, if_neg (by omega), e4, if_neg (by omega), e3, if_neg (by omega), e2, if_neg (by omega), g2 q h1]
theorem xv_beg2 {Q : Int → IMem → Prop} (kk : IMem → Res) (J0 : IMem) (hk : ∀ J, (∀ j, j < 240 → J 9 j = 0 ∧ J 12 j = 0) → (∀ q j, q ≠ 9 → q ≠ 12 → J q j = J0 q j) → par (kk J) Q) : ∀ (m i : Nat) (J : IMem), i ≤ 240 → (∀ j, j < i → J 9 j = 0 ∧ J 12 j = 0) → (∀ q j, q ≠ 9 → q ≠ 12 → J q j = J0 q j) → par (f_X_begins_2 fu kk 0 m (i : Int) J) Q := by
  intro m
  induction m with
  | zero => intro _ _ _ _ _; exact par_none
  | succ m ih =>
    intro i J hi hz hf
    show par (fb_X_begins_2 fu kk 0 (f_X_begins_2 fu kk 0 m) (i : Int) J) _
    unfold fb_X_begins_2
    by_cases h : i < 240
    · rw [if_pos (by omega)]
      refine par_zg (fun _ => par_zw' (fun I1 e1 => par_zg (fun _ => par_zw' (fun I2 e2 => ?_))))
      rw [show ((i : Nat) : Int).toNat = i from rfl] at e1 e2
      simp only [zl_e]
      have wn : Wq (wr32 ((i : Int) + 1)) (((i + 1 : Nat) : Int)) := by show wr32 ((i : Int) + 1) = ((i + 1 : Nat) : Int); rw [wr32_i2 (by omega) (by omega)]; rfl
      rw [wn.e]
      refine ih (i + 1) I2 h (fun j hj => ⟨?_, ?_⟩) (fun q j h1 h2 => ?_)
      · rw [e2, if_neg (by omega), e1]
        by_cases z : j = i
        · rw [if_pos (by omega)]
        · rw [if_neg (by omega)]; exact (hz j (by omega)).1
      · rw [e2]
        by_cases z : j = i
        · rw [if_pos (by omega)]
        · rw [if_neg (by omega), e1, if_neg (by omega)]; exact (hz j (by omega)).2
      · rw [e2, if_neg (by omega), e1, if_neg (by omega)]; exact hf q j h1 h2
    · rw [if_neg (by omega)]
      exact hk J (fun j hj => hz j (by omega)) hf
theorem xv_begins (J : IMem) : par (f_X_begins fu 0 J) (fun _ J' => (∀ j, j < 240 → J' 9 j = 0 ∧ J' 12 j = 0) ∧ (J' 0 30 = J 1 1 ∧ J' 0 31 = 0 ∧ J' 0 32 = 0 ∧ J' 0 33 = 0 ∧ J' 0 34 = 0) ∧ ∀ q j, q ≠ 9 → q ≠ 12 → ¬ (q = 0 ∧ 30 ≤ j ∧ j ≤ 34) → J' q j = J q j) := by
  unfold f_X_begins
  refine xv_beg2 (fu := fu) _ J (fun J1 g1 g2 => ?_) fu 0 J (by decide) (fun j hj => absurd hj (Nat.not_lt_zero _)) (fun _ _ _ _ => rfl)
  refine par_zw' (fun I2 e2 => par_zw' (fun I3 e3 => par_zw' (fun I4 e4 => par_zw' (fun I5 e5 => par_zw' (fun I6 e6 => par_zr ⟨fun j hj => ⟨?_, ?_⟩, ⟨?_, ?_, ?_, ?_, ?_⟩, fun q j h1 h2 h3 => ?_⟩)))))
  · rw [e6, if_neg (by omega), e5, if_neg (by omega), e4, if_neg (by omega), e3, if_neg (by omega), e2, if_neg (by omega)]; exact (g1 j hj).1
  · rw [e6, if_neg (by omega), e5, if_neg (by omega), e4, if_neg (by omega), e3, if_neg (by omega), e2, if_neg (by omega)]; exact (g1 j hj).2
  · rw [e6, if_neg (by omega), e5, if_neg (by omega), e4, if_neg (by omega), e3, if_neg (by omega), e2, if_pos ⟨rfl, rfl⟩]; exact g2 1 1 (by decide) (by decide)
  · rw [e6, if_neg (by omega), e5, if_neg (by omega), e4, if_neg (by omega), e3, if_pos ⟨rfl, rfl⟩]
  · rw [e6, if_neg (by omega), e5, if_neg (by omega), e4, if_pos ⟨rfl, rfl⟩]
  · rw [e6, if_neg (by omega), e5, if_pos ⟨rfl, rfl⟩]
  · rw [e6, if_pos ⟨rfl, rfl⟩]
  · rw [e6, if_neg (by omega), e5, if_neg (by omega), e4, if_neg (by omega), e3, if_neg (by omega), e2, if_neg (by omega), g2 q j h1 h2]
end
/-- the rows once one is parted in the class -/
def HLP (oc hb : Nat) (I J : IMem) : Prop := ∀ l, l < 6 → I (hb + 8) l = J 1 (130 + l) ∧ (0 ≤ J 1 (130 + l) ∧ J 1 (130 + l) ≤ 40) ∧ ∀ p f : Nat, (p : Int) < J 1 (130 + l) → f < 6 → I (hb + 7) (6 * (40 * l + p) + f) = if I (oc + 1) (40 * l + p) = 3 ∧ (f = 1 ∨ f = 2) then J 1 (140 + 6 * (40 * l + p) + 1) - J 9 (40 * l + p) else J 1 (140 + 6 * (40 * l + p) + f)
/-- a chair ready to go -/
def FE (oc hb : Nat) (I J : IMem) : Prop := (HS hb 1 I J ∧ HY hb 1 I J ∧ HP hb 1 I J ∧ HW hb 1 I J) ∧ HLP oc hb I J ∧ FRl oc I J
section
variable {fu oc hb : Nat} {I J : IMem}
theorem gx_facts (hg : GX 0 J) : (2 ≤ J 1 1 ∧ J 1 1 ≤ 8) ∧ (0 ≤ J 1 6 ∧ J 1 6 ≤ 3) ∧ (∀ l : Nat, l < 6 → 1 ≤ J 1 (10 + l) ∧ J 1 (10 + l) ≤ 24) ∧ PTS J ∧ (∀ k, INL J k → 1 ≤ J 1 (141 + 6 * k) ∧ J 1 (141 + 6 * k) ≤ 8) ∧ inr (J 1 5) ∧ 0 ≤ J 1 70 := by
  obtain ⟨hr, hw, _⟩ := hg
  obtain ⟨a, b, c, d, e, f, g, s, t⟩ := hw
  refine ⟨⟨a.1, a.2.1⟩, ⟨a.2.2.1, a.2.2.2.1⟩, b, fun z z1 z2 => ?_, fun k hk => ?_, hr 1 5, a.2.2.2.2.1⟩
  · have := c z.toNat (by omega) (by omega)
    rw [show (16 + z).toNat = 16 + z.toNat by omega]
    show 0 ≤ J (0 + 1) (16 + z.toNat) ∧ J (0 + 1) (16 + z.toNat) < z
    omega
  · have hk1 := hk.1
    have := g (k / 40) (k % 40) (by omega) hk.2
    rw [show 40 * (k / 40) + k % 40 = k by omega] at this
    exact this
theorem fill2 (h : HR hb 1 I J) (hg : GX 0 J) (hd : hb + 40 ≤ oc) : pq (f_C_fill fu oc hb I) (f_X_fills fu 0 J) (fun _ I' _ J' => FE oc hb I' J' ∧ J' 0 32 ≤ 144) := by
  obtain ⟨⟨s1, s2⟩, ⟨f1, f2⟩, gs, gpt, gz, gb, _⟩ := gx_facts hg
  obtain ⟨hS, hY, hP, hL, hW⟩ := h
  obtain ⟨kl, hkl, hk6⟩ : ∃ kl : Nat, kl < 4 ∧ J 1 6 = (kl : Int) := ⟨(J 1 6).toNat, by omega, by omega⟩
  obtain ⟨law, lc, lx, lo⟩ := hW kl (by omega)
  have b0 : I (hb + 1) 0 = J 1 1 := hS.1 0 (by decide)
  have hc : ∀ l, l < 6 → 0 ≤ J 1 (130 + l) ∧ J 1 (130 + l) ≤ 40 := fun l hl => (hl_c hL hl).2
  unfold f_C_fill f_X_fills
  rw [b0]
  refine pq_br (xv_begins (fu := fu) J) (fun _ J1 _ ⟨b1, ⟨b30, b31, b32, b33, b34⟩, bf⟩ => pq_bl (cv_clear (fu := fu) oc (J 1 1) I) (fun _ I1 _ ⟨c1, ⟨c7, c8, c9, c10, c11⟩, cf⟩ => ?_))
  have jw : ∀ j, J1 1 j = J 1 j := fun j => bf _ _ (by decide) (by decide) (by omega)
  have ih : ∀ q j, q < oc → I1 q j = I q j := fun q j hq => cf _ _ (by omega) (by omega)
  have sg : ∀ l : Nat, l < 6 → 0 ≤ I1 (hb + 6 + 3) l + (if (l : Int) = -1 then 1 else 0) ∧ I1 (hb + 6 + 3) l + (if (l : Int) = -1 then 1 else 0) ≤ 24 := by
    intro l hl
    have : I1 (hb + 6 + 3) l = J 1 (10 + l) := (ih _ _ (by omega)).trans (hS.2.2.2.1 l hl)
    have := gs l hl
    rw [if_neg (by omega)]
    omega
  have cg : ∀ l, l < 6 → 0 ≤ I1 (hb + 6 + 2) l ∧ I1 (hb + 6 + 2) l ≤ 40 := by
    intro l hl
    have e : I1 (hb + 6 + 2) l = J 1 (130 + l) := (ih _ _ (by omega)).trans (hl_c hL hl).1
    rw [e]; exact hc l hl
  refine pq_bl (cv_seen (fu := fu) (hb + 6) (oc + 5) (-1) (by omega) I1 cg sg) (fun v I2 _ ⟨n, hv, hn, hsl, h2⟩ => ?_)
  refine pq_zwl' (fun I3 e3 => ?_)
  have i3 : ∀ q j, q ≠ oc + 5 → ¬ (q = oc ∧ j = 5) → I3 q j = I1 q j := fun q j a b => by rw [e3, if_neg b, h2 q a]
  have a5 : I3 (oc + 5) = I2 (oc + 5) := funext (fun j => by rw [e3, if_neg (by omega)])
  have fiv : FIV oc hb kl law n I3 J1 := by
    have io : ∀ q j, q < oc → I3 q j = I q j := fun q j hq => (i3 q j (by omega) (by omega)).trans (ih q j hq)
    refine ⟨⟨hs_mv hS (fun d j q => io _ _ (by omega)) (fun j _ => jw j), hy_mv hY (fun j => io _ _ (by omega)) (fun j _ _ => jw j), hp_mv hP (fun j => ⟨io _ _ (by omega), io _ _ (by omega)⟩) (fun j _ => jw j), hl_mv hL (fun j => ⟨io _ _ (by omega), io _ _ (by omega)⟩) (fun j _ _ => jw j), hw_mv hW (fun d j _ _ _ => io _ _ (by omega)) (fun j _ _ => jw j)⟩, ?_, ⟨hkl, by rw [jw]; exact hk6, lo, lx_mv (by omega) lo lx (fun j _ _ => jw j)⟩, lc_mv lc (fun d j _ => io _ _ (by omega)), ⟨hn, ?_, ?_⟩, fun k hk => ?_, fun k hk => ?_, ⟨by rw [jw]; exact gb, pts_mv gpt (fun j _ _ => jw j)⟩, ?_⟩
    · refine ⟨⟨?_, ?_, ?_⟩, ?_, ?_, ?_, fun k hk => ?_, fun i hi => ?_, fun i hi => ?_, ?_⟩
      · rw [i3 _ _ (by omega) (by omega), c7, b30]
      · rw [i3 _ _ (by omega) (by omega), c8, b31]
      · rw [i3 _ _ (by omega) (by omega), c9, b32]
      · rw [b30, b31, b32]; omega
      · rw [i3 _ _ (by omega) (by omega), c10, b33, b31]; exact ⟨Or.inl ⟨rfl, rfl⟩, Int.le_refl _⟩
      · rw [i3 _ _ (by omega) (by omega), c11, b34, b31]; exact ⟨Or.inl ⟨rfl, rfl⟩, Int.le_refl _⟩
      · rw [i3 _ _ (by omega) (by omega), c1 k hk, (b1 k hk).1, (b1 k hk).2]; exact Or.inl ⟨rfl, rfl, rfl⟩
      · rw [b31] at hi; omega
      · rw [b32] at hi; omega
      · rw [jw, b30, b31]
        show J 1 1 = J 1 1 + 0
        omega
    · rw [e3, if_pos ⟨rfl, rfl⟩, hv]
    · rw [a5, show I3 (hb + 8) = I1 (hb + 6 + 2) from funext (fun j => i3 _ _ (by omega) (by omega)), show I3 (hb + 9) = I1 (hb + 6 + 3) from funext (fun j => i3 _ _ (by omega) (by omega))]; exact hsl
    · rw [jw]; exact gz k ⟨hk.1, by have := hk.2; rw [jw] at this; exact this⟩
    · rw [i3 _ _ (by omega) (by omega), c1 k hk]; decide
    · rw [b31, b32]
      have : ∀ m : Nat, m ≤ n → cnt (fun i => I3 (oc + 1) (I3 (oc + 5) i).toNat) m = 0 := by
        intro m
        induction m with
        | zero => intro _; rfl
        | succ m ihm =>
          intro hm
          show cnt (fun i => I3 (oc + 1) (I3 (oc + 5) i).toNat) m + (if I3 (oc + 1) (I3 (oc + 5) m).toNat = 0 then 0 else 1) = 0
          obtain ⟨k, k1, k2, _⟩ := hsl.1 m (by omega)
          rw [ihm (by omega), if_pos (by rw [i3 _ _ (by omega) (by omega)]; exact c1 _ (by rw [a5, k2]; omega))]
          rfl
      rw [this n (Nat.le_refl _)]
      rfl
  refine fill_loop (fu := fu) (n := n) (kl := kl) (law := law) hd _ _ _ (fun I4 J4 f4 => ?_) fu fu 1 0 I3 J1 fiv (fun z => absurd z (by decide)) (by rw [b31, b32]; rfl)
  have f4' := f4
  obtain ⟨⟨qS, qY, qP, qL, qW⟩, qF, qX, qC, qn, qz, q3, ⟨q5, qpt⟩, qc⟩ := f4'
  have qn144 : J4 0 32 ≤ 144 := by
    have := (cnt_nn (fun i => I4 (oc + 1) (I4 (oc + 5) i).toNat) n).2
    have := qn.1
    have := qF.2.1
    omega
  have hc4 : ∀ l, l < 6 → 0 ≤ J4 1 (130 + l) ∧ J4 1 (130 + l) ≤ 40 := fun l hl => (hl_c qL hl).2
  refine pq_bl (cv_partOne (fu := fu) hd f4 qpt) (fun _ I5 _ g1 => pq_br (xv_parts0 (fu := fu) J4 qX qz qpt hc4 (by have := qF.2.2.1.1; omega) (by have := qF.2.1; omega)) (fun _ J5 _ g2 => pq_end ?_))
  rcases g1 with ⟨g1, g3⟩ | ⟨k, k1, k2, k3, k4⟩
  · rcases g2 with ⟨g2, g4⟩ | ⟨k', p1, p2, p3, p4, p5⟩
    · have io : ∀ q j, q ≠ hb + 13 → q ≠ hb + 15 + 5 * kl + 4 → q ≠ oc + 6 → I5 q j = I4 q j := fun q j a b _ => g3 q j a b
      have f5 := fiv_same f4 hd hkl io g4
      obtain ⟨⟨xS, xY, xP, xL, xW⟩, xF, xX, xC, xn, xz, x3, _⟩ := f5
      refine ⟨⟨⟨xS, xY, xP, xW⟩, fun l hl => ⟨(xL l hl).1, (xL l hl).2.1, fun p f hp hf => ?_⟩, xF⟩, by rw [g4 0 32 (by decide) (by decide)]; exact qn144⟩
      have hp4 := (xL l hl).2.1.2
      rw [if_neg (fun z => x3 (40 * l + p) (by omega) z.1)]
      exact (xL l hl).2.2 p f hp hf
    · exact absurd p2 (g1 k' p1)
  · rcases g2 with ⟨g2, g4⟩ | ⟨k', p1, p2, p3, p4, p5⟩
    · exact absurd k2 (g2 k k1)
    · have hkk : k' = k := by
        rcases Nat.lt_trichotomy k' k with w | w | w
        · exact absurd p2 (k3 k' w)
        · exact w
        · exact absurd k2 (p3 k w)
      subst hkk
      have hin : INL J4 k' := ⟨p1, p2.1⟩
      have hs := (sn_iff f4 p1).mpr ⟨p2.1, p2.2.2.1.1⟩
      have hpf := (pF_iff f4 qpt p1 hs).1.mp p2
      have r1 := row_eq f4 hin (f := 1) (by decide)
      have jw4 : ∀ j, J5 1 j = J4 1 j := fun j => by rw [p5 _ _ (by decide) (by decide), if_neg (by omega), if_neg (by omega), if_neg (by omega), if_neg (by omega), if_neg (by omega), if_neg (by omega)]
      have io : ∀ q j, q < oc → q ≠ hb + 13 → q ≠ hb + 15 + 5 * kl + 4 → q ≠ hb + 7 → I5 q j = I4 q j := fun q j a b c d => by rw [k4 q j b c, if_neg (by omega), if_neg (by omega), if_neg (by omega), if_neg (by omega), if_neg (by omega), if_neg (by omega), if_neg (by omega), if_neg (by omega)]
      have i1 : ∀ j, I5 (oc + 1) j = if j = k' then 3 else I4 (oc + 1) j := by
        intro j
        rw [k4 _ _ (by omega) (by omega), if_neg (by omega), if_neg (by omega), if_neg (by omega), if_neg (by omega), if_neg (by omega), if_neg (by omega), if_neg (by omega)]
        by_cases q : j = k'
        · rw [if_pos ⟨rfl, q⟩, if_pos q]
        · rw [if_neg (fun z => q z.2), if_neg q]
      have j9 : ∀ j, J5 9 j = if j = k' then pzF J4 k' else J4 9 j := by
        intro j
        rw [p5 _ _ (by decide) (by decide), if_neg (by omega), if_neg (by omega), if_neg (by omega), if_neg (by omega), if_neg (by omega)]
        by_cases q : j = k'
        · rw [if_pos ⟨rfl, q⟩, if_pos q]
        · rw [if_neg (fun z => q z.2), if_neg q]
      refine ⟨⟨⟨hs_mv qS (fun d j q => io _ _ (by omega) (by omega) (by omega) (by omega)) (fun j _ => jw4 j), hy_mv qY (fun j => io _ _ (by omega) (by omega) (by omega) (by omega)) (fun j _ _ => jw4 j), hp_mv qP (fun j => ⟨io _ _ (by omega) (by omega) (by omega) (by omega), io _ _ (by omega) (by omega) (by omega) (by omega)⟩) (fun j _ => jw4 j), hw_mv qW (fun d j _ _ _ => io _ _ (by omega) (by omega) (by omega) (by omega)) (fun j _ _ => jw4 j)⟩, fun l hl => ⟨?_, ?_, fun p f hp hf => ?_⟩, ?_⟩, ?_⟩
      · rw [io _ _ (by omega) (by omega) (by omega) (by omega), jw4]; exact (qL l hl).1
      · rw [jw4]; exact (qL l hl).2.1
      · rw [jw4] at hp
        have hp4 := (qL l hl).2.1.2
        rw [i1, j9, jw4, jw4, k4 _ _ (by omega) (by omega)]
        by_cases q : 40 * l + p = k'
        · rw [if_pos q, if_pos q]
          by_cases qf : f = 1 ∨ f = 2
          · rw [if_pos (by omega), if_pos ⟨rfl, qf⟩, r1, q]
          · rw [if_neg (by omega), if_neg (by omega), if_neg (by omega), if_neg (by omega), if_neg (by omega), if_neg (by omega), if_neg (by omega), if_neg (by omega), if_neg (fun z => qf z.2)]
            exact (qL l hl).2.2 p f hp hf
        · rw [if_neg q, if_neg q, if_neg (by omega), if_neg (by omega), if_neg (by omega), if_neg (by omega), if_neg (by omega), if_neg (by omega), if_neg (by omega), if_neg (by omega), if_neg (fun z => q3 (40 * l + p) (by omega) z.1)]
          exact (qL l hl).2.2 p f hp hf
      · refine frl_sit (oc := oc) (k := k') (size := pzF J4 k') (sort := 0) (mark := 3) qF hin hpf.2.1.2.1 ⟨p4.1, p4.2.1⟩ p2.2.2.2.1.symm (Or.inr ⟨rfl, p4.2.2⟩) (fun q j a => ?_) (fun q j a b => p5 q j a b)
        rw [k4 q j (by omega) (by omega), if_neg (by omega)]
      · rw [p5 0 32 (by decide) (by decide), if_neg (by omega), if_neg (by omega), if_neg (by omega), if_neg (by omega), if_neg (by omega), if_neg (by omega)]; exact qn144
end
