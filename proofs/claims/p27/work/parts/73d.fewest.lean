/-! fewest, by hand -/
theorem ok_few16 (fu : Nat) (k_89 : Int → IMem → Res) (o0 : Nat) (p1 : Int) (Ib : IMem) {Q_ : Int → IMem → Prop} (hk : ∀ z I9, inr z → GX o0 I9 → (∀ q j, q ≠ o0 + 19 → q ≠ o0 + 20 → q ≠ o0 + 21 → I9 q j = Ib q j) → ND o0 I9 9 z → sat (k_89 z I9) Q_) (hret : ∀ v I, inr v → GX o0 I → sat (zr v I) Q_) : ∀ (m : Nat) (w2 w3 : Int) (I0 : IMem), inr w2 → inr w3 → GX o0 I0 → (∀ q j, q ≠ o0 + 19 → q ≠ o0 + 20 → q ≠ o0 + 21 → I0 q j = Ib q j) → (1 ≤ w3 ∧ w3 ≤ 9) → ND o0 I0 w3.toNat w2 → (9 - w3).toNat < m → sat (f_X_fewest_16 fu k_89 o0 p1 m w2 w3 I0) Q_ := by
  intro m
  induction m with
  | zero => intro w2 w3 I0 _ _ _ _ _ _ h0; exact absurd h0 (Nat.not_lt_zero _)
  | succ m hR_ =>
    intro w2 w3 I0 ⟨aw2, bw2⟩ ⟨aw3, bw3⟩ hRI0 fI0 hw hnd hm
    show sat (fb_X_fewest_16 fu k_89 o0 p1 (f_X_fewest_16 fu k_89 o0 p1 m) w2 w3 I0) Q_
    unfold fb_X_fewest_16
    refine sat_ite (fun q1 => ?_) (fun q1 => ?_)
    · rw [show w3.toNat = 9 by omega] at hnd
      exact hk w2 I0 ⟨aw2, bw2⟩ hRI0 fI0 hnd
    refine sat_zl (wr32_in _) (fun x4 hx4 ax4 bx4 => ?_)
    rw [wr32_i2 (by omega) (by omega)] at hx4
    refine sat_zg (by omega) (fun g1 => ?_)
    refine sat_zg (by omega) (fun g2 => ?_)
    have hx : x4.toNat = 60 + w3.toNat := by omega
    rw [hx]
    refine sat_zwXn (c := 19) hRI0 (hRI0.1 _ _) (by decide) (Or.inl (by decide)) (fun I5 eI5 hRI5 => ?_)
    refine sat_zg (by omega) (fun g3 => ?_)
    refine sat_zwXn (c := 21) hRI5 (lit_in rfl) (by decide) (Or.inl (by decide)) (fun I6 eI6 hRI6 => ?_)
    refine sat_zg (by omega) (fun g4 => ?_)
    refine sat_zwXn (c := 20) hRI6 ⟨aw2, bw2⟩ (by decide) (Or.inl (by decide)) (fun I7 eI7 hRI7 => ?_)
    have h19 : ∀ k, I7 (o0 + 19) k = if k = w3.toNat then I0 (o0 + 1) (60 + w3.toNat) else I0 (o0 + 19) k := fun k => by
      rw [eI7, if_neg (by omega), eI6, if_neg (by omega), eI5]
      by_cases q : k = w3.toNat
      · rw [if_pos ⟨rfl, q⟩, if_pos q]
      · rw [if_neg (fun z => q z.2), if_neg q]
    have h20 : ∀ k, I7 (o0 + 20) k = if k = w3.toNat then w2 else I0 (o0 + 20) k := fun k => by
      rw [eI7]
      by_cases q : k = w3.toNat
      · rw [if_pos ⟨rfl, q⟩, if_pos q]
      · rw [if_neg (fun z => q z.2), if_neg q, eI6, if_neg (by omega), eI5, if_neg (by omega)]
    have f7 : ∀ q j, q ≠ o0 + 19 → q ≠ o0 + 20 → q ≠ o0 + 21 → I7 q j = I0 q j := fun q j a b c => by rw [eI7, if_neg (by omega), eI6, if_neg (by omega), eI5, if_neg (by omega)]
    have hst := nd_step hRI0 hnd (by omega) (fun j => f7 _ _ (by omega) (by omega) (by omega)) h19 h20
    have hp := ps_b hRI0 (w3.toNat - 1) 8 (by decide)
    have hp2 := hp.2.2.1 (by omega)
    have hnn := hp_nn hRI0 (w3.toNat - 1) (by omega)
    rw [show 61 + (w3.toNat - 1) = 60 + w3.toNat by omega] at hp2 hnn
    have hh : I7 (o0 + 19) w3.toNat = I0 (o0 + 1) (60 + w3.toNat) := by rw [h19, if_pos rfl]
    refine sat_zg (by omega) (fun g5 => ?_)
    refine sat_zl (wr32_in _) (fun x8 hx8 ax8 bx8 => ?_)
    rw [hh, wr32_i2 (x := I0 (o0 + 1) (60 + w3.toNat) + 1) (by omega) (by omega), wr32_i2 (by omega) (by omega)] at hx8
    refine sat_zg (by omega) (fun g6 => ?_)
    refine sat_zj (fun k9 ek9 => ?_)
    have hk9 : sat (k9 I7) Q_ := by
      subst ek9
      refine sat_zl (wr32_in _) (fun x11 hx11 ax11 bx11 => ?_)
      rw [wr32_i2 (by omega) (by omega)] at hx11
      refine hR_ x8 x11 I7 ⟨ax8, bx8⟩ ⟨ax11, bx11⟩ hRI7 (fun q j a b c => (f7 q j a b c).trans (fI0 q j a b c)) (by omega) ?_ (by omega)
      rw [show x11.toNat = w3.toNat + 1 by omega, hx8]
      exact hst.1
    clear ek9
    refine sat_ite (fun q2 => ?_) (fun q2 => ?_)
    · refine sat_ite (fun q3 => ?_) (fun q3 => ?_)
      · exact hret _ _ (lit_in rfl) hRI7
      · exact hk9
    · exact hk9
theorem ok_few91 (fu : Nat) (k_109 : IMem → Res) (o0 : Nat) (p1 p2 : Int) (Ib : IMem) (hp2 : p2 ≤ 4096) {Q_ : Int → IMem → Prop} (hk : ∀ I9, GX o0 I9 → (∀ q j, q ≠ o0 + 18 → I9 q j = Ib q j) → sat (k_109 I9) Q_) : ∀ (m : Nat) (w3 : Int) (I0 : IMem), inr w3 → GX o0 I0 → (∀ q j, q ≠ o0 + 18 → I0 q j = Ib q j) → 0 ≤ w3 → (4100 - w3).toNat < m → sat (f_X_fewest_91 fu k_109 o0 p1 p2 m w3 I0) Q_ := by
  intro m
  induction m with
  | zero => intro w3 I0 _ _ _ _ h0; exact absurd h0 (Nat.not_lt_zero _)
  | succ m hR_ =>
    intro w3 I0 ⟨aw3, bw3⟩ hRI0 fI0 hw hm
    show sat (fb_X_fewest_91 fu k_109 o0 p1 p2 (f_X_fewest_91 fu k_109 o0 p1 p2 m) w3 I0) Q_
    unfold fb_X_fewest_91
    refine sat_ite (fun q1 => ?_) (fun q1 => ?_)
    · refine sat_zg (by omega) (fun g1 => ?_)
      refine sat_zwXn (c := 18) hRI0 (lit_in rfl) (by decide) (Or.inl (by decide)) (fun I14 eI14 hRI14 => ?_)
      refine sat_zl (wr32_in _) (fun x15 hx15 ax15 bx15 => ?_)
      rw [wr32_i2 (by omega) (by omega)] at hx15
      exact hR_ x15 I14 ⟨ax15, bx15⟩ hRI14 (fun q j h => by rw [eI14, if_neg (by omega)]; exact fI0 q j h) (by omega) (by omega)
    · exact hk I0 hRI0 fI0
theorem ok_X_fewest (fu : Nat) (o0 : Nat) (a1 : Int) (I0 : IMem) (hfu : 5000000000 < fu) (hRI0 : GX o0 I0) (qa1 : inr a1) : sat (f_X_fewest fu o0 a1 I0) (fun v I => inr v ∧ GX o0 I ∧ (True)) := by
  unfold f_X_fewest
  obtain ⟨aa1, ba1⟩ := qa1
  refine sat_zb (ok_X_isIn fu a1 0 8 I0 hfu hRI0.1 ⟨aa1, ba1⟩ (lit_in rfl) (lit_in rfl)) (fun y1 I2 c1 ⟨⟨ay1, by1⟩, _, pI2⟩ => ?_)
  have eI2 := pI2.1.symm; replace pI2 := pI2.2; subst eI2
  refine sat_ite (fun q1 => ?_) (fun q1 => ?_)
  · exact sat_zr ⟨lit_in rfl, hRI0, trivial⟩
  refine ok_few16 fu _ o0 a1 I0 ?_ (fun v I hv hg => sat_zr ⟨hv, hg, trivial⟩) fu 1 1 I0 (lit_in rfl) (lit_in rfl) hRI0 (fun _ _ _ _ _ => rfl) (by decide) ?_ (by omega)
  · intro z I12 ⟨az, bz⟩ hRI12 fI12 hnd
    have hnq := nd_nq hRI12 hnd
    refine ok_few91 fu _ o0 a1 z I12 hnq.2 ?_ fu 0 I12 (lit_in rfl) hRI12 (fun _ _ _ => rfl) (Int.le_refl _) (by omega)
    intro I16 hRI16 fI16
    have hn16 : NQ o0 I16 := nw_fr hnq.1 (fun j => fI16 _ _ (by omega)) (fun j => fI16 _ _ (by omega)) (fun j => fI16 _ _ (by omega))
    refine sat_zb (ok_X_needs fu o0 I16 hfu hRI16 hn16) (fun y17 I18 c2 ⟨⟨ay17, by17⟩, hRI18, pI18⟩ => ?_)
    have hn18 : NQ o0 I18 := nw_fr hn16 (fun j => pI18 _ _ (by omega)) (fun j => pI18 _ _ (by omega)) (fun j => pI18 _ _ (by omega))
    refine sat_ite (fun q2 => ?_) (fun q2 => ?_)
    · exact sat_zr ⟨⟨ay17, by17⟩, hRI18, trivial⟩
    refine sat_ite (fun q3 => ?_) (fun q3 => ?_)
    · exact sat_zr ⟨⟨ay17, by17⟩, hRI18, trivial⟩
    refine sat_zb (ok_X_greatest fu o0 I18 hfu hRI18) (fun y20 I21 c3 ⟨⟨ay20, by20⟩, _, pI21⟩ => ?_)
    have eI21 := pI21.1.symm; replace pI21 := pI21.2; subst eI21
    refine sat_zg (by omega) (fun g1 => ?_)
    refine sat_zg (by omega) (fun g2 => ?_)
    refine sat_zwXn (c := 19) hRI18 (wr32_in _) (by decide) (Or.inl (by decide)) (fun I23 eI23 hRI23 => ?_)
    have hn23 : NQ o0 I23 := by
      by_cases z0 : y20 = 0
      · refine ⟨fun k a b => ?_, ?_⟩
        · have hk := hn18.1 k a b
          rw [eI23, if_neg (by omega), eI23, if_neg (by omega), eI23, if_neg (by omega)]
          exact hk
        · have e20 : I23 (o0 + 20) = I18 (o0 + 20) := funext fun j => by rw [eI23, if_neg (by omega)]
          have e1 : I23 (o0 + 1) = I18 (o0 + 1) := funext fun j => by rw [eI23, if_neg (by omega)]
          rw [e20, e1]; exact hn18.2
      · have hk := nq_le hn18 (a := y20) (by omega)
        have hgt := pI21.2.2 z0
        have hw : wr32 (I18 (o0 + 19) y20.toNat - 1) = I18 (o0 + 19) y20.toNat - 1 := wr32_i2 (by omega) (by omega)
        exact (nw_set (v := I18 (o0 + 19) y20.toNat - 1) hn18 (g := y20.toNat) (by omega) (by omega) (fun k => by rw [eI23, hw]; by_cases q : k = y20.toNat; (rw [if_pos ⟨rfl, q⟩, if_pos q]); (rw [if_neg (fun z => q z.2), if_neg q])) (fun j => by rw [eI23, if_neg (by omega)]) (fun j => by rw [eI23, if_neg (by omega)])).1
    refine sat_zg (by omega) (fun g3 => ?_)
    refine sat_zwXn (c := 21) hRI23 (lit_in rfl) (by decide) (Or.inl (by decide)) (fun I24 eI24 hRI24 => ?_)
    have hn24 : NQ o0 I24 := nw_fr hn23 (fun j => by rw [eI24, if_neg (by omega)]) (fun j => by rw [eI24, if_neg (by omega)]) (fun j => by rw [eI24, if_neg (by omega)])
    refine sat_zb (ok_gXF fu hfu 20 o0 y20 _ _ I24 hRI24 ⟨ay20, by20⟩ (wr32_in _) (wr32_in _) hn24 (by omega) (by omega)) (fun y25 I26 c4 ⟨qy25, hRI26, _⟩ => ?_)
    refine sat_ite (fun q4 => ?_) (fun q4 => ?_)
    · exact sat_zr ⟨lit_in rfl, hRI26, trivial⟩
    · refine sat_zg (by omega) (fun g4 => ?_)
      exact sat_zr ⟨hRI26.1 _ _, hRI26, trivial⟩
  · refine ⟨fun k a b => absurd a (by simp at b; omega), rfl, by decide, ?_⟩
    show (1 : Int) ≤ 2 ^ (0 : Int).toNat
    decide
