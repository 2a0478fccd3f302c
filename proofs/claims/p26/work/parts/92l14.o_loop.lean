/-! the filling's loop -/
section
variable {fu oc hb kl n : Nat} {law : List LRec} {Q : Int → IMem → Int → IMem → Prop}
theorem cv_mostP {I J : IMem} (h : FIV oc hb kl law n I J) (hd : hb + 40 ≤ oc) : par (f_C_mostPassed fu oc hb I) (fun x I' => I' = I ∧ x = if 0 < J 1 5 then (amF (eF J) (vF J true kl law) (loF J true) 240).1 else -1) := by
  unfold f_C_mostPassed
  have b1 : I (hb + 1) 4 = J 1 5 := h.1.1.1 4 (by decide)
  have hb5 := h.2.2.2.2.2.2.2.1.1
  have hn := h.2.2.2.2.1
  simp only [zl_e]
  rw [b1]
  by_cases hp : 0 < J 1 5
  · rw [if_pos hp]
    have hr := hb5
    unfold inr at hr
    rw [wr32_i2 (x := J 1 5 - 1) (by omega) (by omega)]
    refine cv_most (fu := fu) oc hb I hn.1 hn.2.1 hn.2.2 (ef_sn h) (v := vF J true kl law) (fun k hk hs => ⟨fit_iff h k hk hs, ?_⟩) (J 1 5) (J 1 5 - 1) hp fu 0 (J 1 5 - 1) (-1) (Nat.zero_le _) (nxS_0 hn.2.2 (ef_sn h) _ _)
    exact row_eq h ⟨hk, ((sn_iff h hk).mp hs).1⟩ (by decide)
  · rw [if_neg hp]
    cases fu with
    | zero => exact par_none
    | succ f =>
    show par (fb_C_mostPassed_17 (f + 1) oc hb (J 1 5) (f_C_mostPassed_17 (f + 1) oc hb (J 1 5) f) (wr32 (J 1 5 - 1)) (-1) 0 I) _
    unfold fb_C_mostPassed_17
    exact par_ite (fun _ => par_ite (fun _ => by rw [if_neg hp]; exact par_zr ⟨rfl, rfl⟩) (fun _ => par_zr ⟨rfl, rfl⟩)) (fun _ => par_zr ⟨rfl, rfl⟩)
theorem cv_worthyP {I J : IMem} (h : FIV oc hb kl law n I J) (hd : hb + 40 ≤ oc) (w2 : Int) (hw : w2 = 0 → WOK oc kl law n I J) : par (f_C_worthiest fu oc hb w2 I) (fun x I' => x = (amF (eF J) (vF J false kl law) 0 240).1 ∧ FIV oc hb kl law n I' J ∧ WOK oc kl law n I' J) := by
  have hX := h.2.2.1
  have hkl := hX.1
  have b5 : I (hb + 1) 5 = (kl : Int) := (h.1.1.1 5 (by decide)).trans hX.2.1
  have hn := h.2.2.2.2.1
  have hF := h.2.1
  unfold f_C_worthiest
  rw [ev_law fu hb I (by rw [b5]; omega), zb_zr, b5, show ((kl : Nat) : Int).toNat = kl from rfl, show ((hb + 15 + 5 * kl : Nat) : Int).toNat = hb + 15 + 5 * kl from rfl]
  refine par_mono (cv_worthy (fu := fu) oc hb kl hd hkl I J h.1.2.2.2.1 hX.2.2.1 h.2.2.2.1 hn.1 hn.2.1 hn.2.2 (ef_sn h) (fit_iff h) (v := vF J false kl law) (fun k hk => ?_) w2 (fun q => hw q) fu 0 0 (-1) I (Nat.zero_le _) (fun _ _ _ _ _ => rfl) (fun i' k hh hi' hk' hek => ?_) (nxS_0 hn.2.2 (ef_sn h) _ _)) (fun x I' ⟨g1, g2, g3⟩ => ⟨g1, fiv_same h hd hkl g2 (fun _ _ _ _ => rfl), fun i k hi hk he => ?_⟩)
  · show lval kl (WF J (k / 40) (k % 40) (J 0 30) (J 0 31)) law = _
    rw [hF.1.1, hF.1.2.1]
  · rcases hh with hh | hh
    · exact absurd hh (Nat.not_lt_zero _)
    · exact hw hh i' k hi' hk' hek
  · rw [g2 _ _ (by omega) (by omega) (by omega)] at hk
    exact g3 i k hi hk he
theorem fill_body (hd : hb + 40 ≤ oc) (kA kX : IMem → Res) (m m2 : Nat) (kA' : IMem → Res)
    (ih : ∀ (w2 w3 : Int) (I J : IMem), FIV oc hb kl law n I J → (w2 = 0 → WOK oc kl law n I J) → w3 = J 0 31 + J 0 32 → pq (f_C_fill_30 fu kA kA' oc hb m w2 w3 I) (f_X_fills_4 fu kX 0 m2 J) Q)
    (hend : ∀ I J, FIV oc hb kl law n I J → pq (kA I) (kX J) Q) (w2 w3 y : Int) (I J : IMem) (h : FIV oc hb kl law n I J) (hw : w2 = 0 → WOK oc kl law n I J) (h3 : w3 = J 0 31 + J 0 32) (hy : y = -1 ∨ ∃ k : Nat, y = (k : Int) ∧ k < 240 ∧ eF J k = true) : pq (cBODY fu oc hb kA (f_C_fill_30 fu kA kA' oc hb m) w3 w2 y I) (xB7 fu kX (f_X_fills_4 fu kX 0 m2) y J) Q := by
  unfold cBODY xB7
  rcases hy with hy | ⟨k, rfl, hk, he⟩
  · rw [if_pos hy, if_pos hy]
    exact hend I J h
  · rw [if_neg (by omega), if_neg (by omega)]
    have hkl := h.2.2.1.1
    have hs := ef_sn h k hk he
    have s := (sn_iff h hk).mp hs
    have hin : INL J k := ⟨hk, s.1⟩
    have hm := ((fit_iff h k hk hs).mp he).1
    have r1 := row_eq h hin (f := 1) (by decide)
    have r3 := row_eq h hin (f := 3) (by decide)
    have hF := h.2.1
    have hz := h.2.2.2.2.2.1 k hin
    have ek : 40 * (k / 40) + k % 40 = k := by omega
    have cnt1 := (cnt_seen h hk hs hm (f := fun j => if j = k then 1 else I (oc + 1) j) (fun j => by
      show (if j = k then (1 : Int) else I (oc + 1) j) = if j = k then (if k = k then 1 else I (oc + 1) k) else I (oc + 1) j
      rw [if_pos (rfl : k = k)]) (by show (if k = k then (1 : Int) else _) ≠ 0; rw [if_pos rfl]; decide)).2
    have hc := h.2.2.2.2.2.2.2.2
    have hn := h.2.2.2.2.1.1
    have b := hF.2.1
    rw [ev_get1 fu (hb + 6) k I hk, zb_zr, wd40 k hk, wr40 k hk, ev_of1 fu 0 (k / 40) (k % 40) J (by omega) (by omega), zb_zr, ek]
    have e1 : I (hb + 6 + 1) (6 * k + 1) = J 1 (141 + 6 * k) := by
      rw [show 141 + 6 * k = 140 + 6 * k + 1 by omega]; exact r1
    have e2 : J (0 + 1) (140 + 6 * k + 1) = J 1 (141 + 6 * k) := by rw [show 141 + 6 * k = 140 + 6 * k + 1 by omega]
    rw [e1, e2, hF.1.1]
    have w4 : Wq (wr32 (w3 + 1)) (w3 + 1) := wr32_i2 (by omega) (by omega)
    rw [w4.e]
    refine pq_ii Iff.rfl (fun q _ => ?_) (fun q _ => ?_)
    · refine pq_bl (cv_found (fu := fu) oc hb k I hk hd (by rw [hF.1.2.2]; omega)) (fun _ I1 _ g1 => ?_)
      refine pq_gr (fun _ => pq_zwr' (fun J1 e1 => ?_))
      have c1 : J1 0 32 = J 0 32 := by rw [e1, if_neg (by omega)]
      rw [c1]
      refine pq_zlr (pq_gr (fun _ => pq_zwr' (fun J2 e2 => ?_)))
      have c2 : J2 0 32 = J 0 32 := by rw [e2, if_neg (by omega), c1]
      rw [c2, wr32_i2 (x := J 0 32 + 1) (by omega) (by omega)]
      refine pq_zwr' (fun J3 e3 => ?_)
      have c3 : J3 (0 + 1) 75 = J 1 75 := by rw [e3, if_neg (by omega), e2, if_neg (by omega), e1, if_neg (by omega)]
      rw [c3]
      refine pq_zwr' (fun J4 e4 => ?_)
      have b4 : ∀ q j, J4 q j = if q = 1 ∧ j = 75 then wr32 (J 1 75 + 1) else if q = 0 ∧ j = 32 then J 0 32 + 1 else if q = 10 ∧ j = (J 0 32).toNat then (k : Int) else if q = 12 ∧ j = k then 1 else J q j := by
        intro q j
        rw [e4, e3, e2, e1]
        simp only [Nat.zero_add]
        rfl
      obtain ⟨g2, g3⟩ := fiv_found h hd hkl he hk g1 b4
      refine ih w2 (w3 + 1) I1 J4 g2 (fun z i k2 hi hk2 he2 => ?_) ?_
      · have hk2' : I (oc + 5) i = (k2 : Int) := by
          rw [← hk2, g1, if_neg (by omega), if_neg (by omega), if_neg (by omega), if_neg (by omega)]
        have k240 : k2 < 240 := by
          obtain ⟨k3, q1, q2, _⟩ := h.2.2.2.2.1.2.2.1 i hi
          omega
        obtain ⟨x1, x2⟩ := g3 k2 k240 he2
        rw [g1, if_neg (by omega), if_neg (by omega), if_neg (by omega), if_neg (by omega), hw z i k2 hi hk2' x2]
        show lval kl (WF J (k2 / 40) (k2 % 40) (J 0 30) (J 0 31)) law = lval kl (WF J4 (k2 / 40) (k2 % 40) (J4 0 30) (J4 0 31)) law
        have j30 : J4 0 30 = J 0 30 := by rw [b4, if_neg (by omega), if_neg (by omega), if_neg (by omega), if_neg (by omega)]
        have j31 : J4 0 31 = J 0 31 := by rw [b4, if_neg (by omega), if_neg (by omega), if_neg (by omega), if_neg (by omega)]
        have jw : ∀ j, j ≠ 75 → J4 1 j = J 1 j := fun j hj => by rw [b4, if_neg (by omega), if_neg (by omega), if_neg (by omega), if_neg (by omega)]
        have : WF J4 (k2 / 40) (k2 % 40) (J 0 30) (J 0 31) = WF J (k2 / 40) (k2 % 40) (J 0 30) (J 0 31) := by
          funext y
          unfold WF
          rw [jw _ (by omega), jw _ (by omega), jw _ (by omega), jw _ (by omega), jw _ (by omega)]
        rw [j30, j31, this]
      · rw [b4, if_neg (by omega), if_neg (by omega), if_neg (by omega), if_neg (by omega), b4, if_neg (by omega), if_pos ⟨rfl, rfl⟩]
        omega
    · rw [ev_get3 fu (hb + 6) k I hk, zb_zr, ev_of1 fu 0 (k / 40) (k % 40) J (by omega) (by omega), zb_zr, ek, e2]
      have e3 : I (hb + 6 + 1) (6 * k + 3) = J 1 (140 + 6 * k + 3) := r3
      rw [e3]
      have ht : 0 ≤ J 0 31 ∧ J 0 31 < 8 := by omega
      have gt := xv_takes (fu := fu) (k / 40) (k % 40) (J 1 (141 + 6 * k)) J (by omega) (by omega) ht
      rw [ek] at gt
      refine pq_bl (cv_sit (fu := fu) oc k (J 1 (141 + 6 * k)) (J 1 (140 + 6 * k + 3)) 1 I hk (by rw [hF.1.2.1]; exact ht)) (fun _ I1 _ g1 => pq_br gt (fun _ J1 _ g2 => ?_))
      have g3 := fiv_sit h hd hkl he hk (by omega) g1 g2
      refine ih 1 (w3 + 1) I1 J1 g3 (fun z => absurd z (by decide)) ?_
      rw [g2, if_neg (by omega), if_neg (by omega), if_neg (by omega), if_pos ⟨rfl, rfl⟩, g2, if_neg (by omega), if_neg (by omega), if_neg (by omega), if_neg (by omega), if_neg (by omega), if_neg (by omega)]
      omega
theorem fill_loop (hd : hb + 40 ≤ oc) (kA kA' kX : IMem → Res) (hend : ∀ I J, FIV oc hb kl law n I J → pq (kA I) (kX J) Q) : ∀ (m m2 : Nat) (w2 w3 : Int) (I J : IMem), FIV oc hb kl law n I J → (w2 = 0 → WOK oc kl law n I J) → w3 = J 0 31 + J 0 32 → pq (f_C_fill_30 fu kA kA' oc hb m w2 w3 I) (f_X_fills_4 fu kX 0 m2 J) Q := by
  intro m
  induction m with
  | zero => intro _ _ _ _ _ _ _ _; exact pq_nl
  | succ m ih =>
    intro m2 w2 w3 I J h hw h3
    cases m2 with
    | zero => exact pq_nr
    | succ m2 =>
    show pq (fb_C_fill_30 fu kA kA' oc hb (f_C_fill_30 fu kA kA' oc hb m) w2 w3 I) (fb_X_fills_4 fu kX 0 (f_X_fills_4 fu kX 0 m2) J) Q
    rw [fill_eq, fills_eq]
    have hc := h.2.2.2.2.2.2.2.2
    have hn := h.2.2.2.2.1.1
    have cb := (cnt_nn (fun i => I (oc + 1) (I (oc + 5) i).toNat) n).2
    have hkl := h.2.2.1.1
    have hX := h.2.2.1
    have hcc : ∀ l, l < 6 → 0 ≤ J 1 (130 + l) ∧ J 1 (130 + l) ≤ 40 := fun l hl => ((hl_c h.1.2.2.2.1 hl).2)
    have hb5 := h.2.2.2.2.2.2.2.1.1
    rw [if_neg (by omega)]
    have rngy : ∀ (by1 : Bool) (lo : Int), (amF (eF J) (vF J by1 kl law) lo 240).1 = -1 ∨ ∃ k : Nat, (amF (eF J) (vF J by1 kl law) lo 240).1 = (k : Int) ∧ k < 240 ∧ eF J k = true := by
      intro by1 lo
      rcases amF_rng (e := eF J) (v := vF J by1 kl law) (lo := lo) 240 with q | ⟨k, q1, q2, q3, _⟩
      · exact Or.inl (by rw [q])
      · exact Or.inr ⟨k, q3, q1, q2⟩
    have body := fun (w2 y : Int) (I' J' : IMem) => fill_body (fu := fu) (Q := Q) hd kA kX m m2 kA' (ih m2) hend w2 w3 y I' J'
    -- by worth
    have worth : ∀ J1 : IMem, (∀ q j, q ≠ 7 → q ≠ 8 → J1 q j = J q j) → pq (zb (f_C_worthiest fu oc hb w2 I) fun y31 I32 => cBODY fu oc hb kA (f_C_fill_30 fu kA kA' oc hb m) w3 0 y31 I32) (zb (f_X_finds fu 0 0 J1) fun y26 I27 => xB7 fu kX (f_X_fills_4 fu kX 0 m2) y26 I27) Q := by
      intro J1 f1
      have h1 := fiv_same (I' := I) (J' := J1) h hd hkl (fun _ _ _ _ _ => rfl) f1
      have ee : eF J1 = eF J := ef_same f1
      have ev : vF J1 false kl law = vF J false kl law := by
        funext s
        show lval kl (WF J1 (s / 40) (s % 40) (J1 0 30) (J1 0 31)) law = lval kl (WF J (s / 40) (s % 40) (J 0 30) (J 0 31)) law
        rw [wf_same f1, f1 0 30 (by decide) (by decide), f1 0 31 (by decide) (by decide)]
      refine pq_bl (cv_worthyP (fu := fu) h hd w2 hw) (fun x I1 _ ⟨g1, g2, g3⟩ => pq_br (xv_finds (fu := fu) false 0 rfl J1 h1.2.2.1 (fun l hl => by rw [f1 1 _ (by decide) (by decide)]; exact hcc l hl) (by rw [f1 1 _ (by decide) (by decide)]; exact hb5)) (fun y J2 _ ⟨g4, g5⟩ => ?_))
      have f2 : ∀ q j, q ≠ 7 → q ≠ 8 → J2 q j = J q j := fun q j a b => (g5 q j a b).trans (f1 q j a b)
      have hxy : x = y := by
        rw [g1, g4, ee, ev]
        rfl
      subst hxy
      have h2 := fiv_same (I' := I1) (J' := J2) g2 hd hkl (fun _ _ _ _ _ => rfl) f2
      have ee2 : eF J2 = eF J := ef_same f2
      have ev2 : vF J2 false kl law = vF J false kl law := by
        funext s
        show lval kl (WF J2 (s / 40) (s % 40) (J2 0 30) (J2 0 31)) law = lval kl (WF J (s / 40) (s % 40) (J 0 30) (J 0 31)) law
        rw [wf_same f2, f2 0 30 (by decide) (by decide), f2 0 31 (by decide) (by decide)]
      refine body 0 x I1 J2 h2 (fun _ i k hi hk he => ?_) ?_ ?_
      · rw [ev2]
        rw [ee2] at he
        exact g3 i k hi hk he
      · rw [f2 0 31 (by decide) (by decide), f2 0 32 (by decide) (by decide)]; exact h3
      · rw [ee2, g1]; exact rngy false 0
    by_cases hp : 0 < J 1 5
    · rw [if_pos hp]
      refine pq_bl (cv_mostP (fu := fu) h hd) (fun x I1 _ ⟨g1, g2⟩ => pq_br (xv_finds (fu := fu) true 1 rfl J hX hcc hb5) (fun y J1 _ ⟨g4, g5⟩ => ?_))
      subst g1
      rw [if_pos hp] at g2
      have hxy : x = y := g2.trans g4.symm
      subst hxy
      unfold xB4
      by_cases hx : x = -1
      · rw [if_pos hx, if_pos hx]
        exact worth J1 g5
      · rw [if_neg hx, if_neg hx]
        have h2 := fiv_same (I' := I1) (J' := J1) h hd hkl (fun _ _ _ _ _ => rfl) g5
        have ee2 : eF J1 = eF J := ef_same g5
        refine body w2 x I1 J1 h2 (fun z i k hi hk he => ?_) ?_ ?_
        · rw [ee2] at he
          have := hw z i k hi hk he
          rw [this]
          show lval kl (WF J (k / 40) (k % 40) (J 0 30) (J 0 31)) law = lval kl (WF J1 (k / 40) (k % 40) (J1 0 30) (J1 0 31)) law
          rw [wf_same g5, g5 0 30 (by decide) (by decide), g5 0 31 (by decide) (by decide)]
        · rw [g5 0 31 (by decide) (by decide), g5 0 32 (by decide) (by decide)]; exact h3
        · rw [ee2, g2]; exact rngy true _
    · rw [if_neg hp]
      refine pq_bl (cv_mostP (fu := fu) h hd) (fun x I1 _ ⟨g1, g2⟩ => ?_)
      subst g1
      rw [if_neg hp] at g2
      rw [if_pos g2]
      unfold xB4
      rw [if_pos rfl]
      exact worth J (fun _ _ _ _ => rfl)
end
