/-! thought, price, needed, which: the answers -/
section
variable {fu : Nat} {I J : IMem}
theorem zb_idq (m : Res) : zb m (fun v I => zr v I) = m := by
  cases m with
  | none => rfl
  | some r => rfl
theorem pq_ig {m m2 : Res} {P : IMem → IMem → Prop} (h : pq (zb m (fun _ I => zr 0 I)) m2 (fun _ I' _ J' => P I' J')) : pq m m2 (fun _ I' _ J' => P I' J') := fun x I' y J' e1 e2 => h 0 I' y J' (by rw [e1]; rfl) e2
theorem rj_ha (h : RJ I J) : HA 82 I := ⟨h.2.2.2.2.1.1, h.2.2.2.2.1.2.1⟩
theorem pj_thought (a1 a2 a3 a4 a5 : Int) (hfu : 5000000000 < fu) (h : RJ I J) (hg : GX 0 J) (hC : GC I) (hc : J 1 70 + 60 < 2000000000) : pq (f_S_thought fu 0 a1 a2 a3 a4 a5 I) (f_X_thought fu 0 a1 a2 a3 a4 a5 J) (fun x _ y _ => x = y) := by
  unfold f_S_thought f_X_thought
  obtain ⟨v1, ev1, hv1⟩ := ev_canTell (fu := fu) 5 a1 I
  unfold CSet at hv1
  rw [ev1, zb_zr, ev_isIn, zb_zr]
  by_cases c1 : 0 ≤ a1 ∧ a1 ≤ 3
  · rw [if_neg (show ¬ v1 = 0 by omega), if_pos c1, if_neg ne10]
    obtain ⟨v2, ev2, hv2⟩ := ev_canTell (fu := fu) 4 a2 I
    unfold CSet at hv2
    rw [ev2, zb_zr, ev_isIn, zb_zr]
    by_cases c2 : 0 ≤ a2 ∧ a2 ≤ 99
    · rw [if_neg (show ¬ v2 = 0 by omega), if_pos c2, if_neg ne10]
      obtain ⟨v3, ev3, hv3⟩ := ev_canTell (fu := fu) 0 a3 I
      unfold CSet at hv3
      rw [ev3, zb_zr, ev_isIn, zb_zr]
      by_cases c3 : 2 ≤ a3 ∧ a3 ≤ 8
      · rw [if_neg (show ¬ v3 = 0 by omega), if_pos c3, if_neg ne10, ev_isIn, zb_zr]
        by_cases c4 : 1 ≤ a4 ∧ a4 ≤ 40
        · rw [if_neg (show ¬ a4 < 1 by omega), if_neg (show ¬ 40 < a4 by omega), if_pos c4, if_neg ne10, ev_isIn, zb_zr]
          by_cases c5 : 0 ≤ a5 ∧ a5 ≤ 5
          · rw [if_neg (show ¬ a5 < 0 by omega), if_neg (show ¬ 5 < a5 by omega), if_pos c5, if_neg ne10]
            refine pq_b (imag2 hfu h.1.1 h.1.2.1 (rj_ha h) hg hC c1 c2 c3 (by omega) hc) (fun x I1 y J1 e1 e2 g => ?_)
            have gn := gn_eq (I := I) h.1.1.2.1 g (fun j => fr_dream (fu := fu) e1 11 j (by decide))
            refine pq_bl (cv_gain (fu := fu) a5 c5 I1) (fun v I2 _ ⟨g1, g2⟩ => ?_)
            refine pq_gr (fun _ => pq_end ?_)
            rw [g1]
            exact (gn a5.toNat (by omega)).symm
          · rw [out2 (a := a5 < 0) (b := 5 < a5) (by omega), if_neg c5, if_pos eq00]
            exact pq_end rfl
        · rw [out2 (a := a4 < 1) (b := 40 < a4) (by omega), if_neg c4, if_pos eq00]
          exact pq_end rfl
      · rw [if_pos (show v3 = 0 by omega), if_neg c3, if_pos eq00]
        exact pq_end rfl
    · rw [if_pos (show v2 = 0 by omega), if_neg c2, if_pos eq00]
      exact pq_end rfl
  · rw [if_pos (show v1 = 0 by omega), if_neg c1, if_pos eq00]
    exact pq_end rfl
/-- what leads leaves -/
theorem xl_22 {a b c d : Int} {y : Int} {J' : IMem} (e : f_X_leads fu 0 a b c d J = some (y, J')) : J' 0 22 = J 0 22 := fc_X_leads (fun q j => ¬ (q = 0 ∧ j = 22)) fu 0 a b c d J (fun _ => by omega) (fun _ => by omega) (fun _ => by omega) (fun _ => by omega) (fun _ => by omega) (fun _ => by omega) (fun _ => by omega) (fun _ => by omega) (fun _ => by omega) (fun _ => by omega) (fun _ => by omega) (fun _ => by omega) (by omega) (by omega) (by omega) (by omega) (by omega) (by omega) (by omega) (by omega) (by omega) (by omega) (by omega) (by omega) (by omega) (by omega) (by omega) (by omega) (by omega) (by omega) (by omega) (by omega) (by omega) (by omega) (by omega) (by omega) (by omega) e 0 22 (by omega)
theorem pj_price (a1 a2 : Int) (hfu : 5000000000 < fu) (h : RJ I J) (hg : GX 0 J) (hC : GC I) (hc : J 1 70 + 60 < 1900000000) : pq (f_S_price fu 0 a1 a2 I) (f_X_price fu 0 a1 a2 J) (fun x _ y _ => x = y) := by
  unfold f_S_price f_X_price
  obtain ⟨v1, ev1, hv1⟩ := ev_canTell (fu := fu) 4 a1 I
  unfold CSet at hv1
  obtain ⟨⟨s1, s2⟩, ⟨f1, f2⟩, _⟩ := gx_facts hg
  rw [ev1, zb_zr, ev_isIn, zb_zr]
  by_cases c1 : 0 ≤ a1 ∧ a1 ≤ 99
  · rw [if_neg (show ¬ v1 = 0 by omega), if_pos c1, if_neg ne10, ev_isIn, zb_zr]
    by_cases c2 : 1 ≤ a2 ∧ a2 ≤ 40
    · rw [if_neg (show ¬ a2 < 1 by omega), if_neg (show ¬ 40 < a2 by omega), if_pos c2, if_neg ne10]
      have t5 : I (0 + 2) 5 = J (0 + 1) 6 := h.1.1.1.1 5 (by decide)
      have t0 : I (0 + 2) 0 = J (0 + 1) 1 := h.1.1.1.1 0 (by decide)
      simp only [zl_e]
      rw [t5, t0]
      refine pq_b (pq_al (pq_ar (imag2 hfu h.1.1 h.1.2.1 (rj_ha h) hg hC ⟨f1, f2⟩ c1 ⟨s1, s2⟩ (by omega) (by omega)) (par_sat (ok_X_leads fu 0 (J (0 + 1) 6) a1 (J (0 + 1) 1) a2 J hfu hg (hg.1 _ _) (by unfold inr; omega) (hg.1 _ _) (by unfold inr; omega) ⟨f1, f2, s1, s2, by omega⟩ (by show J 1 70 < 1900000000; omega)))) (par_sat (ok_M_imagine fu 81 1 (J (0 + 1) 6) a1 (J (0 + 1) 1) a2 I hfu hC rfl (Or.inl rfl) (hg.1 _ _) (by unfold inr; omega) (hg.1 _ _) (by unfold inr; omega)))) (fun x I1 y J1 e1 e2 ⟨⟨g, _, hg1, sa⟩, _, hC1, _⟩ => ?_)
      have fd := fr_dream (fu := fu) e1
      have gn := gn_eq (I := I) h.1.1.2.1 g (fun j => fd 11 j (by decide))
      have sa1 : ∀ j, j < 6190 → J1 1 j = J 1 j := sa.1
      have h1 : HR 1 1 I1 J1 := hr_mv h.1.1 (fun d j q => fd _ _ (by unfold CH at q; omega)) sa1
      have h11 : I1 1 11 = J1 0 22 := by rw [fd 1 11 (by decide), xl_22 (fu := fu) e2]; exact h.1.2.1
      refine pq_bl (cv_gain (fu := fu) 0 (by decide) I1) (fun v I2 _ ⟨g1, g2⟩ => ?_)
      rw [g2]
      have u6 : J1 (0 + 1) 6 = J (0 + 1) 6 := sa1 6 (by decide)
      have u1 : J1 (0 + 1) 1 = J (0 + 1) 1 := sa1 1 (by decide)
      have u70 : J1 1 70 = J 1 70 := sa1 70 (by decide)
      rw [u6, u1]
      refine pq_b (imag2 hfu h1 h11 g.2 hg1 hC1 ⟨f1, f2⟩ (by decide) ⟨s1, s2⟩ (by omega) (by omega)) (fun x3 I3 y3 J3 e3 e4 k => ?_)
      have kn := gn_eq (I := I1) h1.2.1 k (fun j => fr_dream (fu := fu) e3 11 j (by decide))
      refine pq_bl (cv_gain (fu := fu) 0 (by decide) I3) (fun v4 I4 _ ⟨g3, g4⟩ => pq_end ?_)
      rw [g1, g3]
      show wr32 (GNv I1 0 - GNv I3 0) = wr32 (J1 25 0 - J3 25 0)
      rw [gn 0 (by decide), kn 0 (by decide)]
    · rw [out2 (a := a2 < 1) (b := 40 < a2) (by omega), if_neg c2, if_pos eq00]
      exact pq_end rfl
  · rw [if_pos (show v1 = 0 by omega), if_neg c1, if_pos eq00]
    exact pq_end rfl
/-- the chairs of needed -/
theorem need13 (hfu : 5000000000 < fu) (n : Int) (hn : n ≤ 40) (kk : Int → IMem → Res) (hkk : ∀ v J, par (kk v J) (fun y _ => y = v)) : ∀ (m m2 i : Nat) (w : Int) (I J : IMem), (i : Int) ≤ 60 → HG 82 I J → J 1 70 + 60 < 2000000000 + i → inr w → pq (f_M_emptyNeeded_13 fu 81 n m w (i : Int) I) (f_X_needed_20 fu kk 0 n m2 w (i : Int) J) (fun x _ y _ => x = y) := by
  intro m
  induction m with
  | zero => intro _ _ _ _ _ _ _ _ _; exact pq_nl
  | succ m ih =>
    intro m2 i w I J hi h hc hw
    cases m2 with
    | zero => exact pq_nr
    | succ m2 =>
      show pq (fb_M_emptyNeeded_13 fu 81 n (f_M_emptyNeeded_13 fu 81 n m) w (i : Int) I) (fb_X_needed_20 fu kk 0 n (f_X_needed_20 fu kk 0 n m2) w (i : Int) J) _
      unfold fb_M_emptyNeeded_13 fb_X_needed_20
      by_cases hin : (i : Int) < n
      · rw [if_pos hin, if_pos hin]
        have w1 : Wq (wr32 ((i : Int) + 1)) (((i + 1 : Nat) : Int)) := by show wr32 ((i : Int) + 1) = ((i + 1 : Nat) : Int); rw [wr32_i2 (by omega) (by omega)]; rfl
        simp only [zl_e, zj_e]
        rw [w1.e]
        refine pq_b (ride2 (fu := fu) (oc := 122) (hb := 82) (Or.inl ⟨rfl, rfl⟩) hfu h (by omega)) (fun x1 I1 y1 J1 _ _ ⟨g1, g2, _, _, g5, g6⟩ => ?_)
        subst g1
        have a1 : I (81 + 11) 1 = J 1 71 := h.1.1.2.1.1 1 (by decide)
        have b1 : I1 (81 + 11) 1 = J1 1 71 := g2.1.1.2.1.1 1 (by decide)
        have L := g2.2.1.1 1 111
        have K := h.2.1.1 1 71
        have e : Wq (wr32 (I1 (81 + 11) 1 - I (81 + 11) 1)) (J1 (0 + 1) 111) := by
          show (wr32 (I1 (81 + 11) 1 - I (81 + 11) 1)) = (J1 (0 + 1) 111)
          rw [a1, b1, g6]
          show _ = J1 1 111
          unfold inr at L K
          unfold wr32
          omega
        rw [e.e]
        have w0 : Wq (wr32 (w + 0)) w := by show wr32 (w + 0) = w; rw [Int.add_zero]; exact wr32_id hw
        rw [w0.e]
        have hc1 : J1 1 70 + 60 < 2000000000 + ((i + 1 : Nat) : Int) := by rw [g5]; omega
        refine pq_ii Iff.rfl (fun _ _ => ?_) (fun _ _ => ?_)
        · exact ih m2 (i + 1) _ I1 J1 (by omega) g2 hc1 (wr32_in _)
        · exact ih m2 (i + 1) _ I1 J1 (by omega) g2 hc1 hw
      · rw [if_neg hin, if_neg hin]
        exact pq_r (par_mono (hkk w J) (fun _ _ e => e.symm))
theorem hx_copy {I2 J2 : IMem} (h : RJ I J) (hc : HCP 82 1 I2 I) (f2 : ∀ q j, (q < 82 ∨ q = 96 ∨ 122 ≤ q) → I2 q j = I q j) (so : ∀ q j, q ≠ 3 → q ≠ 23 → q ≠ 24 → ¬ (q = 0 ∧ j = 50) → J2 q j = J q j) : HX 82 I2 J2 := by
  refine ⟨hr_cp h.1.1 hc (fun j _ => so 1 j (by decide) (by decide) (by decide) (by omega)), ?_, ?_, ?_⟩
  · rw [so 0 22 (by decide) (by decide) (by decide) (by decide), ← h.1.2.1]
    exact hc.1.2.2
  · exact (f2 _ _ (Or.inr (Or.inl rfl))).trans (rj_ha h).1
  · exact (f2 _ _ (Or.inr (Or.inl rfl))).trans (rj_ha h).2
theorem pj_needed (n : Int) (hfu : 5000000000 < fu) (h : RJ I J) (hg : GX 0 J) (hC : GC I) (hc : J 1 70 + 60 < 2000000000) : pq (f_S_needed fu 0 n I) (f_X_needed fu 0 n J) (fun x _ y _ => x = y) := by
  unfold f_S_needed f_X_needed
  rw [ev_isIn, zb_zr]
  by_cases c : 1 ≤ n ∧ n ≤ 40
  · rw [if_neg (show ¬ n < 1 by omega), if_neg (show ¬ 40 < n by omega), if_pos c, if_neg ne10, zb_idq]
    unfold f_M_emptyNeeded
    refine pq_bl (par_and (cv_hcopy (fu := fu) (0 + 81 + 1) (0 + 1) (by omega) I) (par_sat (ok_H_copyFrom fu (0 + 81 + 1) (0 + 1) I hfu hC (by omega) (by omega)))) (fun _ I2 e ⟨hc2, _, hC2, _⟩ => ?_)
    have f2 := fr_dcopy (fu := fu) (I := I) e
    refine pq_br (par_sat (ok_X_setsOut fu 0 J hfu hg)) (fun _ J2 _ ⟨_, hG2, so⟩ => ?_)
    have so' : ∀ q j, q ≠ 3 → q ≠ 23 → q ≠ 24 → ¬ (q = 0 ∧ j = 50) → J2 q j = J q j := fun q j a b c d => so.2.2.2.2 q j (by omega) (by omega) (by omega) (by omega)
    refine need13 hfu n c.2 _ (fun v J3 => ?_) fu fu 0 0 I2 J2 (by decide) ⟨hx_copy h hc2 f2 so', hG2, hC2⟩ ?_ (lit_in rfl)
    · exact par_zb (Q1 := fun _ _ => True) (fun _ _ _ => trivial) (fun _ _ _ => par_zr rfl)
    · rw [so' 1 70 (by decide) (by decide) (by decide) (by decide)]
      omega
  · rw [out2 (a := n < 1) (b := 40 < n) (by omega), if_neg c, if_pos eq00]
    exact pq_end rfl
/-- between two sets of WHICH -/
def WIV (i : Nat) (w3 w4 w5 : Int) (I J : IMem) : Prop := HR 1 1 I J ∧ HA 82 I ∧ GX 0 J ∧ GC I ∧ J 1 70 + 60 < 1900000000 ∧ ((i = 0 ∧ w3 = -1) ∨ (i ≠ 0 ∧ w3 ≠ -1 ∧ I 129 0 = w3 ∧ I 129 1 = w4 ∧ I 129 2 = w5))
def kcW (a3 : Int) (I22 : IMem) : Res := if a3 < 0 then (zr (-1) I22) else (if a3 < 3 then (zg (0 ≤ a3 ∧ a3 < 3) (zr (I22 (81 + 48) a3.toNat) I22)) else (zr (-1) I22))
def kxW (a2 : Int) (x22 x23 x24 : Int) (I21 : IMem) : Res := zw I21 0 22 ((-1)) fun I25 => if a2 = 0 then (zr x22 I25) else (if a2 = 1 then (zr x23 I25) else (zr x24 I25))
theorem best3 (hfu : 5000000000 < fu) (n w : Int) (hn : 1 ≤ n ∧ n ≤ 20) (hw : 0 ≤ w ∧ w ≤ 2) : ∀ (m m2 i : Nat) (w3 w4 w5 : Int) (I J : IMem), i ≤ 16 → WIV i w3 w4 w5 I J → pq (f_M_bestSet_3 fu (kcW w) 81 1 n w m (i : Int) I) (f_X_which_32 fu (kxW w) 0 n w m2 w3 w4 w5 (i : Int) J) (fun x _ y _ => x = y) := by
  intro m
  induction m with
  | zero => intro _ _ _ _ _ _ _ _ _; exact pq_nl
  | succ m ih =>
    intro m2 i w3 w4 w5 I J hi hV
    obtain ⟨hR, hA, hg, hC, hc, hv⟩ := hV
    cases m2 with
    | zero => exact pq_nr
    | succ m2 =>
      show pq (fb_M_bestSet_3 fu (kcW w) 81 1 n w (f_M_bestSet_3 fu (kcW w) 81 1 n w m) (i : Int) I) (fb_X_which_32 fu (kxW w) 0 n w (f_X_which_32 fu (kxW w) 0 n w m2) w3 w4 w5 (i : Int) J) _
      unfold fb_M_bestSet_3 fb_X_which_32
      by_cases hin : (i : Int) < 16
      · rw [if_pos hin, if_pos hin]
        have w1 : Wq (wr32 ((i : Int) + 1)) (((i + 1 : Nat) : Int)) := by show wr32 ((i : Int) + 1) = ((i + 1 : Nat) : Int); rw [wr32_i2 (by omega) (by omega)]; rfl
        simp only [zl_e, zj_e]
        rw [w1.e]
        refine pq_bl (par_and (cv_hcopy (fu := fu) (81 + 1) 1 (by omega) I) (par_sat (ok_H_copyFrom fu (81 + 1) 1 I hfu hC (by omega) (by omega)))) (fun _ I2 e ⟨hc2, _, hC2, _⟩ => ?_)
        have f2 := fr_dcopy (fu := fu) (I := I) e
        have c4 : GC (up I2 (81 + 1) 11 (i : Int)) := gc_up hC2 (by unfold inr; omega) (Or.inl (by decide))
        have g7 : GX 0 (up J 0 22 (i : Int)) := GX_up0 hg (by unfold inr; omega) (Or.inr (Or.inr (Or.inl ⟨rfl, by omega, by omega⟩)))
        have e4 : ∀ q j, up I2 (81 + 1) 11 (i : Int) q j = if q = 82 ∧ j = 11 then (i : Int) else I2 q j := fun q j => rfl
        have e7 : ∀ q j, up J 0 22 (i : Int) q j = if q = 0 ∧ j = 22 then (i : Int) else J q j := fun q j => rfl
        refine pq_zwl (pq_zwr ?_)
        obtain ⟨I4, hI4⟩ : ∃ I4, I4 = up I2 (81 + 1) 11 (i : Int) := ⟨_, rfl⟩
        obtain ⟨J7, hJ7⟩ : ∃ J7, J7 = up J 0 22 (i : Int) := ⟨_, rfl⟩
        rw [← hI4, ← hJ7]
        rw [← hI4] at c4 e4
        rw [← hJ7] at g7 e7
        have j7 : ∀ j, J7 1 j = J 1 j := fun j => by rw [e7, if_neg (by omega)]
        obtain ⟨⟨s1, s2⟩, ⟨f1, f2'⟩, _⟩ := gx_facts g7
        have hX : ∀ J9 : IMem, (∀ q j, q ≠ 3 → q ≠ 23 → q ≠ 24 → ¬ (q = 0 ∧ j = 50) → J9 q j = if q = 1 ∧ j = 1 then J7 (0 + 1) 1 else if q = 1 ∧ j = 5 then J7 (0 + 1) 5 else if q = 1 ∧ j = 6 then J7 (0 + 1) 6 else J7 q j) → HX 82 I4 J9 := by
          intro J9 e9
          have j9 : ∀ j, J9 1 j = J 1 j := by
            intro j
            rw [e9 1 j (by decide) (by decide) (by decide) (by omega)]
            by_cases k1 : j = 1
            · rw [if_pos ⟨rfl, k1⟩, k1]; exact j7 1
            · rw [if_neg (fun q => k1 q.2)]
              by_cases k5 : j = 5
              · rw [if_pos ⟨rfl, k5⟩, k5]; exact j7 5
              · rw [if_neg (fun q => k5 q.2)]
                by_cases k6 : j = 6
                · rw [if_pos ⟨rfl, k6⟩, k6]; exact j7 6
                · rw [if_neg (fun q => k6 q.2)]; exact j7 j
          refine ⟨hr_mv (hr_cp hR hc2 (fun _ _ => rfl)) (fun d j q => ?_) (fun j _ => j9 j), ?_, ?_, ?_⟩
          · rw [e4, if_neg (by unfold CH at q; omega)]
          · rw [e4, if_pos ⟨rfl, rfl⟩, e9 0 22 (by decide) (by decide) (by decide) (by decide), if_neg (by omega), if_neg (by omega), if_neg (by omega), e7, if_pos ⟨rfl, rfl⟩]
          · rw [e4, if_neg (by omega), f2 _ _ (Or.inr (Or.inl rfl))]; exact hA.1
          · rw [e4, if_neg (by omega), f2 _ _ (Or.inr (Or.inl rfl))]; exact hA.2
        refine pq_b (Q1 := fun _ I' _ J' => GNx I' J7 J') (pq_ig (lead_core hfu g7 c4 hX ⟨f1, f2'⟩ (g7.1 1 5) ⟨s1, s2⟩ (by omega) (by rw [j7]; omega))) (fun x6 I6 y9 J9 e5 e6 g => ?_)
        have a6 : ∀ q j, (q < 82 ∨ q = 129) → I6 q j = I q j := fun q j hq => by
          have := congrFun (fr_C_turns (fun q => 82 ≤ q ∧ q ≠ 129) fu (81 + 41) (81 + 1) n I4 (fun q a b => by omega) (by omega) (by omega) (by omega) (by omega) (by omega) (by omega) (by omega) (by omega) (by omega) (by omega) (by omega) (by omega) (by omega) (by omega) (by omega) e5 q (by omega)) j
          show I6 q j = _
          refine (show I6 q j = I4 q j from this).trans ?_
          rw [e4, if_neg (by omega)]
          exact f2 q j (by omega)
        have hC6 : GC I6 := (par_sat (ok_C_turns fu (81 + 41) (81 + 1) n I4 hfu c4 (by omega) (by omega) (by unfold inr; omega)) x6 I6 e5).2.1
        obtain ⟨_, hg9, sa⟩ := par_sat (ok_X_leads fu 0 (J7 (0 + 1) 6) (J7 (0 + 1) 5) (J7 (0 + 1) 1) n J7 hfu g7 (g7.1 _ _) (g7.1 _ _) (g7.1 _ _) (by unfold inr; omega) ⟨f1, f2', s1, s2, by omega⟩ (by show J7 1 70 < 1900000000; rw [j7]; omega)) y9 J9 e6
        have j9 : ∀ j, j < 6190 → J9 1 j = J 1 j := fun j hj => (sa.1 j hj).trans (j7 j)
        have hR6 : HR 1 1 I6 J9 := hr_mv hR (fun d j q => a6 _ _ (by unfold CH at q; omega)) j9
        have gn := gn_eq (I := I) (hy_mv hR.2.1 (fun _ => rfl) (fun j _ _ => j7 j)) g (fun j => a6 11 j (by decide))
        refine pq_bl (cv_gain (fu := fu) 0 (by decide) I6) (fun v8 I8 _ ⟨g1, g2⟩ => ?_)
        rw [g2]
        refine pq_bl (cv_gain (fu := fu) 2 (by decide) I6) (fun v11 I11 _ ⟨g3, g4⟩ => ?_)
        rw [g4]
        have y8 : v8 = J9 (0 + 25) 0 := g1.trans (gn 0 (by decide)).symm
        have y11 : v11 = J9 (0 + 25) 2 := g3.trans (gn 2 (by decide)).symm
        have c9 : J9 1 70 + 60 < 1900000000 := by rw [j9 70 (by decide)]; exact hc
        have upd : pq (zw I6 (81 + 48) 0 (i : Int) fun I19 => zw I19 (81 + 48) 1 v8 fun I20 => zw I20 (81 + 48) 2 v11 fun I21 => f_M_bestSet_3 fu (kcW w) 81 1 n w m ((i + 1 : Nat) : Int) I21) (f_X_which_32 fu (kxW w) 0 n w m2 (i : Int) (J9 (0 + 25) 0) (J9 (0 + 25) 2) ((i + 1 : Nat) : Int) J9) (fun x _ y _ => x = y) := by
          have c7 : GC (up (up (up I6 (81 + 48) 0 (i : Int)) (81 + 48) 1 v8) (81 + 48) 2 v11) := gc_up (gc_up (gc_up hC6 (by unfold inr; omega) (Or.inl (by decide))) (by rw [y8]; exact hg9.1 _ _) (Or.inl (by decide))) (by rw [y11]; exact hg9.1 _ _) (Or.inl (by decide))
          have e8 : ∀ q j, up (up (up I6 (81 + 48) 0 (i : Int)) (81 + 48) 1 v8) (81 + 48) 2 v11 q j = if q = 129 ∧ j = 2 then v11 else if q = 129 ∧ j = 1 then v8 else if q = 129 ∧ j = 0 then (i : Int) else I6 q j := fun q j => rfl
          refine pq_zwl (pq_zwl (pq_zwl ?_))
          obtain ⟨I12, h12⟩ : ∃ I12, I12 = up (up (up I6 (81 + 48) 0 (i : Int)) (81 + 48) 1 v8) (81 + 48) 2 v11 := ⟨_, rfl⟩
          rw [← h12]
          rw [← h12] at c7 e8
          have i12 : ∀ q j, q ≠ 129 → I12 q j = I6 q j := fun q j a => by rw [e8, if_neg (by omega), if_neg (by omega), if_neg (by omega)]
          refine ih m2 (i + 1) _ _ _ I12 J9 (by omega) ⟨hr_mv hR6 (fun d j q => i12 _ _ (by unfold CH at q; omega)) (fun _ _ => rfl), ⟨(i12 _ _ (by decide)).trans g.2.1, (i12 _ _ (by decide)).trans g.2.2⟩, hg9, c7, c9, Or.inr ⟨by omega, by omega, ?_, ?_, ?_⟩⟩
          · rw [e8, if_neg (by omega), if_neg (by omega), if_pos ⟨rfl, rfl⟩]
          · rw [e8, if_neg (by omega), if_pos ⟨rfl, rfl⟩]; exact y8
          · rw [e8, if_pos ⟨rfl, rfl⟩]; exact y11
        have keep : i ≠ 0 → pq (f_M_bestSet_3 fu (kcW w) 81 1 n w m ((i + 1 : Nat) : Int) I6) (f_X_which_32 fu (kxW w) 0 n w m2 w3 w4 w5 ((i + 1 : Nat) : Int) J9) (fun x _ y _ => x = y) := by
          intro i0
          rcases hv with ⟨z, _⟩ | ⟨_, v3, v4, v5, v6⟩
          · exact absurd z i0
          · exact ih m2 (i + 1) w3 w4 w5 I6 J9 (by omega) ⟨hR6, g.2, hg9, hC6, c9, Or.inr ⟨by omega, v3, (a6 _ _ (Or.inr rfl)).trans v4, (a6 _ _ (Or.inr rfl)).trans v5, (a6 _ _ (Or.inr rfl)).trans v6⟩⟩
        rcases hv with ⟨z, z3⟩ | ⟨i0, v3, v4, v5, v6⟩
        · rw [if_pos (show (i : Int) = 0 by omega), if_pos z3]
          exact upd
        · have q4 : I6 (81 + 48) 1 = w4 := (a6 _ _ (Or.inr rfl)).trans v5
          have q5 : I6 (81 + 48) 2 = w5 := (a6 _ _ (Or.inr rfl)).trans v6
          rw [if_neg (show ¬ (i : Int) = 0 by omega), if_neg v3, q4, q5, ← y8, ← y11]
          rw [← y8, ← y11] at upd
          by_cases d1 : v8 < w4
          · rw [if_pos d1, if_neg (show ¬ w4 < v8 by omega), if_neg (show ¬ v8 = w4 by omega)]
            exact upd
          · rw [if_neg d1]
            by_cases d2 : v8 = w4
            · rw [if_pos d2, if_neg (show ¬ w4 < v8 by omega), if_pos d2]
              by_cases d3 : v11 < w5
              · rw [if_pos d3, if_pos d3]
                exact upd
              · rw [if_neg d3, if_neg d3]
                exact keep i0
            · rw [if_neg d2, if_pos (show w4 < v8 by omega)]
              exact keep i0
      · rw [if_neg hin, if_neg hin]
        rcases hv with ⟨z, _⟩ | ⟨i0, v3, v4, v5, v6⟩
        · omega
        · unfold kcW kxW
          rw [if_neg (show ¬ w < 0 by omega), if_pos (show w < 3 by omega)]
          refine pq_gl (fun _ => pq_zwr ?_)
          rcases (show w = 0 ∨ w = 1 ∨ w = 2 by omega) with rfl | rfl | rfl
          · rw [if_pos rfl]
            exact pq_end v4
          · rw [if_neg (by decide), if_pos rfl]
            exact pq_end v5
          · rw [if_neg (by decide), if_neg (by decide)]
            exact pq_end v6
theorem pj_which (n w : Int) (hfu : 5000000000 < fu) (h : RJ I J) (hg : GX 0 J) (hC : GC I) (hc : J 1 70 + 60 < 1900000000) : pq (f_S_which fu 0 n w I) (f_X_which fu 0 n w J) (fun x _ y _ => x = y) := by
  unfold f_S_which f_X_which
  rw [ev_isIn, zb_zr]
  by_cases c1 : 1 ≤ n ∧ n ≤ 20
  · rw [if_neg (show ¬ n < 1 by omega), if_neg (show ¬ 20 < n by omega), if_pos c1, if_neg ne10, ev_isIn, zb_zr]
    by_cases c2 : 0 ≤ w ∧ w ≤ 2
    · rw [if_neg (show ¬ w < 0 by omega), if_neg (show ¬ 2 < w by omega), if_pos c2, if_neg ne10, zb_idq]
      exact best3 hfu n w c1 c2 fu fu 0 (-1) 0 0 I J (by decide) ⟨h.1.1, rj_ha h, hg, hC, hc, Or.inl ⟨rfl, rfl⟩⟩
    · rw [out2 (a := w < 0) (b := 2 < w) (by omega), if_neg c2, if_pos eq00]
      exact pq_end rfl
  · rw [out2 (a := n < 1) (b := 20 < n) (by omega), if_neg c1, if_pos eq00]
    exact pq_end rfl
end
