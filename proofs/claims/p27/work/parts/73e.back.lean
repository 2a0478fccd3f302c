/-! setsOut and comesBack, by hand -/
theorem sat_cp {o c d : Nat} {N : Int} {Ib : IMem} {Q : Int → IMem → Prop} {K : IMem → Res} {fb : (Int → IMem → Res) → Int → IMem → Res} {F : Nat → Int → IMem → Res} (hF : ∀ m w I, F (m + 1) w I = fb (F m) w I) (hcd : c ≠ d)
  (step : ∀ R w I, inr w → GX o I → 0 ≤ w → w < N → (∀ q j, q ≠ o + c → I q j = Ib q j) → (∀ x I1, inr x → x = w + 1 → GX o I1 → (∀ p i, I1 p i = if p = o + c ∧ i = w.toNat then I (o + d) w.toNat else I p i) → sat (R x I1) Q) → sat (fb R w I) Q)
  (stop : ∀ (R : Int → IMem → Res) (w : Int) (I : IMem), ¬ w < N → fb R w I = K I)
  (hk : ∀ I, GX o I → (∀ q j, q ≠ o + c → I q j = Ib q j) → (∀ j : Nat, (j : Int) < N → I (o + c) j = Ib (o + d) j) → sat (K I) Q) :
  ∀ (m : Nat) (w : Int) (I : IMem), inr w → GX o I → (∀ q j, q ≠ o + c → I q j = Ib q j) → 0 ≤ w → (∀ j : Nat, (j : Int) < w → I (o + c) j = Ib (o + d) j) → (N - w).toNat < m → sat (F m w I) Q := by
  intro m
  induction m with
  | zero => intro w I _ _ _ _ _ h0; exact absurd h0 (Nat.not_lt_zero _)
  | succ m ih =>
    intro w I qw hI hf hw hc hm
    rw [hF]
    by_cases q : w < N
    · refine step _ w I qw hI hw q hf (fun x I1 qx hx hI1 e1 => ?_)
      refine ih x I1 qx hI1 (fun p j hp => by rw [e1, if_neg (fun z => hp z.1)]; exact hf p j hp) (by omega) (fun j hj => ?_) (by omega)
      rw [e1]
      by_cases z : j = w.toNat
      · rw [if_pos ⟨rfl, z⟩, hf _ _ (by omega), z]
      · rw [if_neg (fun y => z y.2)]; exact hc j (by omega)
    · rw [stop _ _ _ q]; exact hk I hI hf (fun j hj => hc j (by omega))
def SO (o : Nat) (I0 I : IMem) : Prop := (∀ j, j < 6190 → I (o + 3) j = I0 (o + 1) j) ∧ (∀ k, k < 240 → I (o + 23) k = I0 (o + 13) k) ∧ (∀ k, k < 8 → I (o + 24) k = I0 (o + 15) k) ∧ I o 50 = I0 o 35 ∧ (∀ q j, q ≠ o + 3 → q ≠ o + 23 → q ≠ o + 24 → ¬ (q = o ∧ j = 50) → I q j = I0 q j)
theorem ok_X_setsOut (fu : Nat) (o0 : Nat) (I0 : IMem) (hfu : 5000000000 < fu) (hRI0 : GX o0 I0) : sat (f_X_setsOut fu o0 I0) (fun v I => inr v ∧ GX o0 I ∧ SO o0 I0 I) := by
  unfold f_X_setsOut
  refine sat_cp (o := o0) (c := 3) (d := 1) (N := 6190) (Ib := I0) (fb := fun R w I => fb_X_setsOut_2 fu _ o0 R w I) (F := fun m w I => f_X_setsOut_2 fu _ o0 m w I) (fun _ _ _ => rfl) (by decide) ?_ (fun R w I hq => by show fb_X_setsOut_2 _ _ _ _ _ _ = _; unfold fb_X_setsOut_2; exact if_neg hq) ?_ fu 0 I0 (lit_in rfl) hRI0 (fun _ _ _ => rfl) (Int.le_refl _) (fun j hj => by omega) (by omega)
  · intro R w I qw hI h0 hN hf hR
    show sat (fb_X_setsOut_2 fu _ o0 R w I) _
    unfold fb_X_setsOut_2
    rw [if_pos hN]
    refine sat_zg (by omega) (fun _ => sat_zg (by omega) (fun _ => ?_))
    refine sat_zwXn (c := 3) hI (hI.1 _ _) (by decide) (Or.inl (by decide)) (fun I1 e1 hI1 => ?_)
    refine sat_zl (wr32_in _) (fun x hx ax bx => ?_)
    rw [wr32_i2 (by omega) (by omega)] at hx
    exact hR x I1 ⟨ax, bx⟩ hx hI1 e1
  intro I3 hRI3 f3 c3
  refine sat_cp (o := o0) (c := 23) (d := 13) (N := 240) (Ib := I3) (fb := fun R w I => fb_X_setsOut_29 fu _ o0 R w I) (F := fun m w I => f_X_setsOut_29 fu _ o0 m w I) (fun _ _ _ => rfl) (by decide) ?_ (fun R w I hq => by show fb_X_setsOut_29 _ _ _ _ _ _ = _; unfold fb_X_setsOut_29; exact if_neg hq) ?_ fu 0 I3 (lit_in rfl) hRI3 (fun _ _ _ => rfl) (Int.le_refl _) (fun j hj => by omega) (by omega)
  · intro R w I qw hI h0 hN hf hR
    show sat (fb_X_setsOut_29 fu _ o0 R w I) _
    unfold fb_X_setsOut_29
    rw [if_pos hN]
    have hb := (gx_b hI w.toNat (by omega)).1
    refine sat_zg (by omega) (fun _ => sat_zg hb (fun _ => sat_zg (by omega) (fun _ => ?_)))
    refine sat_zwXn (c := 23) hI (hI.1 _ _) (by decide) (Or.inr (Or.inl ⟨Or.inr rfl, hb⟩)) (fun I1 e1 hI1 => ?_)
    refine sat_zl (wr32_in _) (fun x hx ax bx => ?_)
    rw [wr32_i2 (by omega) (by omega)] at hx
    exact hR x I1 ⟨ax, bx⟩ hx hI1 e1
  intro I7 hRI7 f7 c7
  refine sat_cp (o := o0) (c := 24) (d := 15) (N := 8) (Ib := I7) (fb := fun R w I => fb_X_setsOut_56 fu _ o0 R w I) (F := fun m w I => f_X_setsOut_56 fu _ o0 m w I) (fun _ _ _ => rfl) (by decide) ?_ (fun R w I hq => by show fb_X_setsOut_56 _ _ _ _ _ _ = _; unfold fb_X_setsOut_56; exact if_neg hq) ?_ fu 0 I7 (lit_in rfl) hRI7 (fun _ _ _ => rfl) (Int.le_refl _) (fun j hj => by omega) (by omega)
  · intro R w I qw hI h0 hN hf hR
    show sat (fb_X_setsOut_56 fu _ o0 R w I) _
    unfold fb_X_setsOut_56
    rw [if_pos hN]
    have hb := (gx_h hI w.toNat (by omega)).1
    refine sat_zg (by omega) (fun _ => sat_zg (by omega) (fun _ => ?_))
    refine sat_zwXn (c := 24) hI (hI.1 _ _) (by decide) (Or.inr (Or.inr ⟨Or.inr rfl, hb⟩)) (fun I1 e1 hI1 => ?_)
    refine sat_zl (wr32_in _) (fun x hx ax bx => ?_)
    rw [wr32_i2 (by omega) (by omega)] at hx
    exact hR x I1 ⟨ax, bx⟩ hx hI1 e1
  intro I10 hRI10 f10 c10
  have ht := gx_t hRI10
  refine sat_zwX0 hRI10 (hRI10.1 _ _) (by omega) (fun I11 e11 hRI11 => ?_)
  refine sat_zr ⟨lit_in rfl, hRI11, fun j hj => ?_, fun k hk => ?_, fun k hk => ?_, ?_, fun q j a b c d => ?_⟩
  · rw [e11, if_neg (by omega), f10 _ _ (by omega), f7 _ _ (by omega)]; exact c3 j (by omega)
  · rw [e11, if_neg (by omega), f10 _ _ (by omega), c7 k (by omega), f3 _ _ (by omega)]
  · rw [e11, if_neg (by omega), c10 k (by omega), f7 _ _ (by omega), f3 _ _ (by omega)]
  · rw [e11, if_pos ⟨rfl, rfl⟩, f10 _ _ (by omega), f7 _ _ (by omega), f3 _ _ (by omega)]
  · rw [e11, if_neg d, f10 _ _ c, f7 _ _ b, f3 _ _ a]
theorem GX_back {o : Nat} {Ib I : IMem} (h : GX o Ib) (hw : WX Ib (o + 3)) (hr : RG I) (hf : ∀ q j, q ≠ o + 1 → I q j = Ib q j) (hc : ∀ j, j < 6190 → I (o + 1) j = Ib (o + 3) j) : GX o I := by
  obtain ⟨_, _, b, c, d, e⟩ := h
  have f0 : ∀ j, I o j = Ib o j := fun j => hf _ _ (by omega)
  refine ⟨hr, WX_eq hc hw, fun q => WX_eq (fun j _ => hf _ _ (by omega)) (b (by rw [← f0]; exact q)), ?_, fun k hk => ?_, fun k hk => ?_⟩
  · simp only [f0]; exact c
  · rw [hf (o + 13) k (by omega), hf (o + 23) k (by omega)]; exact d k hk
  · rw [hf (o + 15) k (by omega), hf (o + 24) k (by omega)]; exact e k hk
/-- the way back, before the invariant holds again -/
theorem ok_back2 (fu : Nat) (K : IMem → Res) (o0 : Nat) (Ib : IMem) {Q : Int → IMem → Prop} (hk : ∀ I, RG I → (∀ q j, q ≠ o0 + 1 → I q j = Ib q j) → (∀ j, j < 6190 → I (o0 + 1) j = Ib (o0 + 3) j) → sat (K I) Q) : ∀ (m : Nat) (w : Int) (I : IMem), inr w → RG I → (∀ q j, q ≠ o0 + 1 → I q j = Ib q j) → 0 ≤ w → (∀ j : Nat, (j : Int) < w → I (o0 + 1) j = Ib (o0 + 3) j) → ((6190 : Int) - w).toNat < m → sat (f_X_comesBack_2 fu K o0 m w I) Q := by
  intro m
  induction m with
  | zero => intro w I _ _ _ _ _ h0; exact absurd h0 (Nat.not_lt_zero _)
  | succ m ih =>
    intro w I qw hI hf hw hc hm
    show sat (fb_X_comesBack_2 fu K o0 (f_X_comesBack_2 fu K o0 m) w I) Q
    unfold fb_X_comesBack_2
    refine sat_ite (fun q => ?_) (fun q => ?_)
    · refine sat_zg (by omega) (fun _ => sat_zg (by omega) (fun _ => ?_))
      refine sat_zw hI (hI _ _) (fun I1 e1 hI1 => ?_)
      refine sat_zl (wr32_in _) (fun x hx ax bx => ?_)
      rw [wr32_i2 (by omega) (by omega)] at hx
      refine ih x I1 ⟨ax, bx⟩ hI1 (fun p j hp => by rw [e1, if_neg (fun z => hp z.1)]; exact hf p j hp) (by omega) (fun j hj => ?_) (by omega)
      rw [e1]
      by_cases z : j = w.toNat
      · rw [if_pos ⟨rfl, z⟩, hf _ _ (by omega), z]
      · rw [if_neg (fun y => z y.2)]; exact hc j (by omega)
    · exact hk I hI hf (fun j hj => hc j (by omega))
def CB (o : Nat) (I0 I : IMem) : Prop := (∀ j, j < 6190 → I (o + 1) j = I0 (o + 3) j) ∧ (∀ k, k < 240 → I (o + 13) k = I0 (o + 23) k) ∧ (∀ k, k < 8 → I (o + 15) k = I0 (o + 24) k) ∧ I o 35 = I0 o 50 ∧ (∀ q j, q ≠ o + 1 → q ≠ o + 13 → q ≠ o + 15 → ¬ (q = o ∧ j = 35) → I q j = I0 q j)
theorem ok_X_comesBack (fu : Nat) (o0 : Nat) (I0 : IMem) (hfu : 5000000000 < fu) (hRI0 : GX o0 I0) (hwx : WX I0 (o0 + 3)) : sat (f_X_comesBack fu o0 I0) (fun v I => inr v ∧ GX o0 I ∧ CB o0 I0 I) := by
  unfold f_X_comesBack
  refine ok_back2 fu _ o0 I0 ?_ fu 0 I0 (lit_in rfl) hRI0.1 (fun _ _ _ => rfl) (Int.le_refl _) (fun j hj => by omega) (by omega)
  intro I3 hr3 f3 c3
  have hRI3 := GX_back hRI0 hwx hr3 f3 (fun j hj => c3 j hj)
  refine sat_cp (o := o0) (c := 13) (d := 23) (N := 240) (Ib := I3) (fb := fun R w I => fb_X_comesBack_29 fu _ o0 R w I) (F := fun m w I => f_X_comesBack_29 fu _ o0 m w I) (fun _ _ _ => rfl) (by decide) ?_ (fun R w I hq => by show fb_X_comesBack_29 _ _ _ _ _ _ = _; unfold fb_X_comesBack_29; exact if_neg hq) ?_ fu 0 I3 (lit_in rfl) hRI3 (fun _ _ _ => rfl) (Int.le_refl _) (fun j hj => by omega) (by omega)
  · intro R w I qw hI h0 hN hf hR
    show sat (fb_X_comesBack_29 fu _ o0 R w I) _
    unfold fb_X_comesBack_29
    rw [if_pos hN]
    have hb := (gx_b hI w.toNat (by omega)).2
    refine sat_zg (by omega) (fun _ => sat_zg hb (fun _ => sat_zg (by omega) (fun _ => ?_)))
    refine sat_zwXn (c := 13) hI (hI.1 _ _) (by decide) (Or.inr (Or.inl ⟨Or.inl rfl, hb⟩)) (fun I1 e1 hI1 => ?_)
    refine sat_zl (wr32_in _) (fun x hx ax bx => ?_)
    rw [wr32_i2 (by omega) (by omega)] at hx
    exact hR x I1 ⟨ax, bx⟩ hx hI1 e1
  intro I7 hRI7 f7 c7
  refine sat_cp (o := o0) (c := 15) (d := 24) (N := 8) (Ib := I7) (fb := fun R w I => fb_X_comesBack_56 fu _ o0 R w I) (F := fun m w I => f_X_comesBack_56 fu _ o0 m w I) (fun _ _ _ => rfl) (by decide) ?_ (fun R w I hq => by show fb_X_comesBack_56 _ _ _ _ _ _ = _; unfold fb_X_comesBack_56; exact if_neg hq) ?_ fu 0 I7 (lit_in rfl) hRI7 (fun _ _ _ => rfl) (Int.le_refl _) (fun j hj => by omega) (by omega)
  · intro R w I qw hI h0 hN hf hR
    show sat (fb_X_comesBack_56 fu _ o0 R w I) _
    unfold fb_X_comesBack_56
    rw [if_pos hN]
    have hb := (gx_h hI w.toNat (by omega)).2
    refine sat_zg (by omega) (fun _ => sat_zg (by omega) (fun _ => ?_))
    refine sat_zwXn (c := 15) hI (hI.1 _ _) (by decide) (Or.inr (Or.inr ⟨Or.inl rfl, hb⟩)) (fun I1 e1 hI1 => ?_)
    refine sat_zl (wr32_in _) (fun x hx ax bx => ?_)
    rw [wr32_i2 (by omega) (by omega)] at hx
    exact hR x I1 ⟨ax, bx⟩ hx hI1 e1
  intro I10 hRI10 f10 c10
  have ht := gx_t hRI10
  refine sat_zwX0 hRI10 (hRI10.1 _ _) (by omega) (fun I11 e11 hRI11 => ?_)
  refine sat_zr ⟨lit_in rfl, hRI11, fun j hj => ?_, fun k hk => ?_, fun k hk => ?_, ?_, fun q j a b c d => ?_⟩
  · rw [e11, if_neg (by omega), f10 _ _ (by omega), f7 _ _ (by omega)]; exact c3 j (by omega)
  · rw [e11, if_neg (by omega), f10 _ _ (by omega), c7 k (by omega), f3 _ _ (by omega)]
  · rw [e11, if_neg (by omega), c10 k (by omega), f7 _ _ (by omega), f3 _ _ (by omega)]
  · rw [e11, if_pos ⟨rfl, rfl⟩, f10 _ _ (by omega), f7 _ _ (by omega), f3 _ _ (by omega)]
  · rw [e11, if_neg d, f10 _ _ c, f7 _ _ b, f3 _ _ a]
/-- set out, gone on, come back: as before -/
theorem cb_so {o : Nat} {I0 I1 I2 I3 : IMem} (h1 : SO o I0 I1) (hf : ∀ j, (∀ x, x < 6190 → I2 (o + 3) x = I1 (o + 3) x) ∧ I2 (o + 23) j = I1 (o + 23) j ∧ I2 (o + 24) j = I1 (o + 24) j ∧ I2 o 50 = I1 o 50) (h3 : CB o I2 I3) : (∀ j, j < 6190 → I3 (o + 1) j = I0 (o + 1) j) ∧ (∀ k, k < 240 → I3 (o + 13) k = I0 (o + 13) k) ∧ (∀ k, k < 8 → I3 (o + 15) k = I0 (o + 15) k) ∧ I3 o 35 = I0 o 35 := by
  refine ⟨fun j hj => ?_, fun k hk => ?_, fun k hk => ?_, ?_⟩
  · rw [h3.1 j hj, (hf 0).1 j hj, h1.1 j hj]
  · rw [h3.2.1 k hk, (hf k).2.1, h1.2.1 k hk]
  · rw [h3.2.2.1 k hk, (hf k).2.2.1, h1.2.2.1 k hk]
  · rw [h3.2.2.2.1, (hf 0).2.2.2, h1.2.2.2.1]
