/-! NUMBERS through a chair, both sides; till -/
theorem inl_mv {J J' : IMem} (h : ∀ j, 130 ≤ j → j < 1580 → J' 1 j = J 1 j) (k : Nat) : INL J' k ↔ INL J k := ⟨inl_to (fun l hl => (h _ (by omega) (by omega)).symm), inl_to (fun l hl => h _ (by omega) (by omega))⟩
theorem std_mv {J J' : IMem} (h : ∀ j, 130 ≤ j → j < 1580 → J' 1 j = J 1 j) (N : Int) : STD N J' ↔ STD N J := ⟨fun ⟨k, a, b⟩ => ⟨k, (inl_mv h k).mp a, (h _ (by omega) (by have := a.1; omega)).symm.trans b⟩, fun ⟨k, a, b⟩ => ⟨k, (inl_mv h k).mpr a, (h _ (by omega) (by have := a.1; omega)).trans b⟩⟩
theorem nuq_mv {J J' : IMem} (h : ∀ j, 130 ≤ j → j < 1580 → J' 1 j = J 1 j) (hU : NUQ J) : NUQ J' := fun k k' a b e => hU k k' ((inl_mv h k).mp a) ((inl_mv h k').mp b) (((h _ (by omega) (by have := a.1; omega)).symm.trans e).trans (h _ (by omega) (by have := b.1; omega)))
section
variable {fu oc hb : Nat} {I J : IMem}
theorem par_t {Q : Int → IMem → Prop} {c : Prop} [Decidable c] {A B : Res} (hc : c) (h : par A Q) : par (if c then A else B) Q := by rw [if_pos hc]; exact h
theorem par_f {Q : Int → IMem → Prop} {c : Prop} [Decidable c] {A B : Res} (hc : ¬ c) (h : par B Q) : par (if c then A else B) Q := by rw [if_neg hc]; exact h
theorem hw_law (h : HR hb 1 I J) (hg : GX 0 J) : ∃ (kl : Nat) (law : List LRec), LWX J kl law := by
  obtain ⟨_, ⟨f1, f2⟩, _⟩ := gx_facts hg
  obtain ⟨kl, hkl, hk6⟩ : ∃ kl : Nat, kl < 4 ∧ J 1 6 = (kl : Int) := ⟨(J 1 6).toNat, by omega, by omega⟩
  obtain ⟨law, lc, lx, lo⟩ := h.2.2.2.2 kl (by omega)
  exact ⟨kl, law, hkl, hk6, lo, lx⟩
theorem gx_cnt (hg : GX 0 J) : ∀ l, l < 6 → 0 ≤ J 1 (130 + l) ∧ J 1 (130 + l) ≤ 40 := fun l hl => hg.2.1.2.2.2.2.2.1 l hl
theorem chair_n {kl : Nat} {law : List LRec} (hfu : 5000000000 < fu) (hw : LWX J kl law) (hG : GX 0 J) (hU : NUQ J) (hc : J 1 70 < 2000000000) : par (f_X_chair fu 0 J) (fun _ J' => NGO J J') := by
  have hcs := gx_cnt hG
  unfold f_X_chair
  intro y J' e2
  obtain ⟨v1, J1, a1, a2⟩ := of_zb e2
  refine par_zb (Q := fun _ J2 => NGO J J2) (Q1 := fun _ J2 => NGO J1 J2) ?_ (fun v J2 g => par_zr ?_) y J' a2
  · obtain ⟨kS, kj⟩ := xg_fills (fu := fu) J hw hG hcs v1 J1 a1
    obtain ⟨_, hG1, ⟨⟨f1, f2, f3, f4⟩, _, _, f7⟩, _⟩ := par_sat (ok_X_fills fu 0 J hfu hG) v1 J1 a1
    have gf1 := gx_facts hG1
    exact xn_goes (fu := fu) f2 f4 (fun k hk => ⟨(f7 k hk.1).1, (f7 k hk.1).2.1⟩) kS (nuq_mv (fun j a _ => kj j (by omega)) hU) (fun l hl => by rw [kj _ (by omega)]; exact hcs l hl) gf1.2.2.2.2.1 ⟨gf1.2.2.2.2.2.2, by rw [kj 70 (by decide)]; exact hc⟩
  · obtain ⟨_, kj⟩ := xg_fills (fu := fu) J hw hG hcs v1 J1 a1
    have b := fc_X_fills (fun q j => ¬ (q = 0 ∧ (j = 23 ∨ j = 24))) fu 0 J (fun _ => by omega) (fun _ => by omega) (fun _ => by omega) (fun _ => by omega) (fun _ => by omega) (by omega) (by omega) (by omega) (by omega) (by omega) (by omega) (by omega) (by omega) (by omega) (by omega) (by omega) (by omega) (by omega) (by omega) (by omega) a1
    have n23 : J1 0 23 = J 0 23 := b 0 23 (by omega)
    have n24 : J1 0 24 = J 0 24 := b 0 24 (by omega)
    have st := std_mv (J := J) (J' := J1) (fun j a _ => kj j (by omega))
    obtain ⟨g1, g2, g3, g4, g5⟩ := g
    refine ⟨g1, fun N z => (st N).mp (g2 N z), g3.trans n23, fun j hj => (g4 j hj).trans (kj j (by omega)), fun z24 zs => ?_⟩
    have q := g5 (n24.trans z24) (by rw [n23]; exact (st _).mpr zs)
    rw [n23] at q
    exact q
/-- one chair of TILL -/
theorem chair_t {Q : Int → IMem → Int → IMem → Prop} {kC kX : Int → IMem → Res} (hfu : 5000000000 < fu) (h : HG 82 I J) (hU : NUQ J) (hc : J 1 70 < 2000000000) (hk : ∀ x I' y J', HG 82 I' J' → NGO J J' → J' 1 70 = J 1 70 + 1 → pq (kC x I') (kX y J') Q) : pq (zb (f_C_fill fu 122 82 I) fun _ I2 => zb (f_C_leave fu 122 82 I2) kC) (zb (f_X_chair fu 0 J) kX) Q := by
  intro x I' y J' e1 e2
  obtain ⟨v1, I1, a1, a2⟩ := of_zb e1
  obtain ⟨v2, I2, b1, b2⟩ := of_zb a2
  obtain ⟨y1, J1, c1, c2⟩ := of_zb e2
  have er : f_C_ride fu 122 82 I = some (v2, I2) := by
    unfold f_C_ride
    rw [a1]
    show zb (f_C_leave fu 122 82 I1) (fun y I => zr y I) = _
    rw [b1]
    rfl
  obtain ⟨_, g2, _, _, g5, _⟩ := ride2 (fu := fu) (oc := 122) (hb := 82) (Or.inl ⟨rfl, rfl⟩) hfu h hc v2 I2 y1 J1 er c1
  obtain ⟨kl, law, hw⟩ := hw_law h.1.1 h.2.1
  have n := chair_n (fu := fu) hfu hw h.2.1 hU hc y1 J1 c1
  exact hk v2 I2 y1 J1 g2 n g5 x I' y J' b2 c2
def kcT (fu : Nat) (N : Int) : Int → IMem → Res := fun (x12 : Int) (I11 : IMem) =>
      zb (f_H_satLast fu (81 + 1) N I11) fun y13 I14 =>
      if y13 = 0 then (
        zr ((-1)) I14)
      else (
        zr x12 I14)
def kxT (fu : Nat) (N : Int) : Int → IMem → Res := fun (x11 : Int) (I10 : IMem) =>
      zj (fun (x14 : Int) (I13 : IMem) =>
          zw I13 0 23 ((-1)) fun I15 =>
          if x14 = 0 then (
            zr x11 I15)
          else (
            zr ((-1)) I15)) fun k12 =>
        if I10 0 24 = 0 then (
          zb (f_X_stillStands fu 0 N I10) fun y16 I17 =>
          if y16 = 0 then (
            k12 0 I17)
          else (
            k12 1 I17))
        else (
          k12 1 I10)
theorem count_eq (fu : Nat) (N : Int) (I : IMem) : f_M_countTill fu 81 N I = f_M_countTill_2 fu (kcT fu N) 81 N fu 1 I := rfl
theorem sits_eq (fu : Nat) (N : Int) (J : IMem) : f_X_sitsAfter fu 0 N J = zw J 0 23 N fun I1 => zw I1 0 24 0 fun I2 => f_X_sitsAfter_12 fu (kxT fu N) 0 N fu 0 I2 := rfl
theorem cv_kc (N v : Int) (I : IMem) : par (kcT fu N v I) (fun x _ => (SLN N 82 I → x = v) ∧ (¬ SLN N 82 I → x = -1)) := by
  unfold kcT
  refine par_zb (cv_last (fu := fu) N (hb := 82) (I := I)) (fun y I2 ⟨_, g⟩ => ?_)
  rcases g with ⟨e, s⟩ | ⟨e, s⟩
  · rw [if_neg (show ¬ y = 0 by omega)]
    exact par_zr ⟨fun _ => rfl, fun z => absurd s z⟩
  · rw [if_pos e]
    exact par_zr ⟨fun z => absurd z s, fun _ => rfl⟩
theorem xv_kx (N v : Int) (J : IMem) (hc : ∀ l, l < 6 → 0 ≤ J 1 (130 + l) ∧ J 1 (130 + l) ≤ 40) : par (kxT fu N v J) (fun y _ => (J 0 24 = 0 → ¬ STD N J → y = v) ∧ (J 0 24 ≠ 0 ∨ STD N J → y = -1)) := by
  unfold kxT
  rw [zj_e]
  refine par_ite (fun a => par_zb (xv_still (fu := fu) N J hc) (fun y J2 ⟨_, g⟩ => ?_)) (fun a => ?_)
  · rcases g with ⟨e, s⟩ | ⟨e, s⟩
    · refine par_f (show ¬ y = 0 by omega) ?_
      refine par_zw' (fun J3 _ => par_f (by decide) (par_zr ⟨fun _ z => absurd s z, fun _ => rfl⟩))
    · refine par_t e ?_
      refine par_zw' (fun J3 _ => par_t (by decide) (par_zr ⟨fun _ _ => rfl, fun z => ?_⟩))
      rcases z with z | z
      · exact absurd a z
      · exact absurd z s
  · refine par_zw' (fun J3 _ => par_f (by decide) (par_zr ⟨fun z => absurd z a, fun _ => rfl⟩))
theorem xv_out (N : Int) (J : IMem) (hc : ∀ l, l < 6 → 0 ≤ J 1 (130 + l) ∧ J 1 (130 + l) ≤ 40) (hs : ¬ STD N J) (v : Int) (m2 : Nat) : par (f_X_sitsAfter_12 fu (kxT fu N) 0 N m2 v J) (fun y _ => (J 0 24 = 0 → y = v) ∧ (J 0 24 ≠ 0 → y = -1)) := by
  have fin : par (kxT fu N v J) (fun y _ => (J 0 24 = 0 → y = v) ∧ (J 0 24 ≠ 0 → y = -1)) := par_mono (xv_kx (fu := fu) N v J hc) (fun _ _ ⟨a, b⟩ => ⟨fun z => a z hs, fun z => b (Or.inl z)⟩)
  cases m2 with
  | zero => exact par_none
  | succ m2 =>
    show par (fb_X_sitsAfter_12 fu (kxT fu N) 0 N (f_X_sitsAfter_12 fu (kxT fu N) 0 N m2) v J) _
    unfold fb_X_sitsAfter_12
    refine par_ite (fun _ => par_zb (xv_still (fu := fu) N J hc) (fun y J2 ⟨g1, g2⟩ => ?_)) (fun _ => fin)
    rcases g2 with ⟨_, s⟩ | ⟨e, _⟩
    · exact absurd s hs
    · rw [if_pos e, g1]
      exact fin
theorem till12 (hfu : 5000000000 < fu) (N : Int) : ∀ (m m2 n : Nat) (I J : IMem), n ≤ 40 → HG 82 I J → NUQ J → STD N J → J 0 24 = 0 → J 0 23 = N → J 1 70 + 40 < 2000000000 + n → pq (f_M_countTill_2 fu (kcT fu N) 81 N m ((n + 1 : Nat) : Int) I) (f_X_sitsAfter_12 fu (kxT fu N) 0 N m2 (n : Int) J) (fun x _ y _ => x = y) := by
  intro m
  induction m with
  | zero => intro _ _ _ _ _ _ _ _ _ _ _; exact pq_nl
  | succ m ih =>
    intro m2 n I J hn h hU hst h24 h23 hc
    cases m2 with
    | zero => exact pq_nr
    | succ m2 =>
      show pq (fb_M_countTill_2 fu (kcT fu N) 81 N (f_M_countTill_2 fu (kcT fu N) 81 N m) ((n + 1 : Nat) : Int) I) (fb_X_sitsAfter_12 fu (kxT fu N) 0 N (f_X_sitsAfter_12 fu (kxT fu N) 0 N m2) (n : Int) J) _
      unfold fb_M_countTill_2 fb_X_sitsAfter_12
      have hcs : ∀ l, l < 6 → 0 ≤ J 1 (130 + l) ∧ J 1 (130 + l) ≤ 40 := fun l hl => (hl_c h.1.1.2.2.2.1 hl).2
      by_cases q : n < 40
      · rw [if_neg (show ¬ (40 : Int) < ((n + 1 : Nat) : Int) by omega), if_pos (show (n : Int) < 40 by omega)]
        refine pq_br (xv_still (fu := fu) N J hcs) (fun y3 J3 _ ⟨g1, g2⟩ => ?_)
        rcases g2 with ⟨e, _⟩ | ⟨_, s⟩
        · rw [if_neg (show ¬ y3 = 0 by omega), g1]
          refine chair_t hfu h hU (by omega) (fun x4 I5 y6 J7 hG hN c70 => ?_)
          have hR : HR 82 1 I5 J7 := hG.1.1
          refine pq_bl (cv_has (fu := fu) N hR.2.2.2.1) (fun y7 I8 _ ⟨k1, k2⟩ => ?_)
          rw [k1]
          have w1 : Wq (wr32 ((n : Int) + 1)) (((n + 1 : Nat) : Int)) := by show wr32 ((n : Int) + 1) = ((n + 1 : Nat) : Int); rw [wr32_i2 (by omega) (by omega)]; rfl
          have w2 : Wq (wr32 (((n + 1 : Nat) : Int) + 1)) (((n + 1 + 1 : Nat) : Int)) := by show wr32 (((n + 1 : Nat) : Int) + 1) = ((n + 1 + 1 : Nat) : Int); rw [wr32_i2 (by omega) (by omega)]; rfl
          simp only [zl_e]
          rw [w2.e, w1.e]
          have c70' : 0 ≤ J 1 70 := (gx_facts h.2.1).2.2.2.2.2.2
          obtain ⟨a1, a2, a3, a4, a5⟩ := hN
          rw [h23] at a5
          obtain ⟨p1, p2⟩ := a5 h24 hst
          rcases k2 with ⟨e7, s7⟩ | ⟨e7, s7⟩
          · rw [if_neg (show ¬ y7 = 0 by omega)]
            exact ih m2 (n + 1) I5 J7 q hG a1 s7 (p1 s7) (a3.trans h23) (by omega)
          · rw [if_pos e7]
            have hcs7 : ∀ l, l < 6 → 0 ≤ J7 1 (130 + l) ∧ J7 1 (130 + l) ≤ 40 := fun l hl => (hl_c hR.2.2.2.1 hl).2
            have hP : HP 82 1 I5 J7 := hR.2.2.1
            have n110 : J7 1 110 ≠ -1 := fun z => by have := hP.1.mp z; omega
            have sli : SLN N 82 I5 ↔ J7 0 24 = 0 := by
              have t := p2 s7
              refine ⟨fun ⟨i, x1, x2, x3⟩ => t.mpr ⟨i, ?_, x2, ?_⟩, fun z => ?_⟩
              · rw [← hP.2.1 n110]; exact x1
              · rw [← (hP.2.2.2.1 i x2).1]; exact x3
              · obtain ⟨i, x1, x2, x3⟩ := t.mp z
                refine ⟨i, ?_, x2, ?_⟩
                · rw [hP.2.1 n110]; exact x1
                · rw [(hP.2.2.2.1 i x2).1]; exact x3
            refine pq_of (cv_kc (fu := fu) N (((n + 1 : Nat) : Int)) I5) (xv_out (fu := fu) N J7 hcs7 s7 (((n + 1 : Nat) : Int)) m2) (fun x _ y _ ⟨c1, c2⟩ ⟨d1, d2⟩ => ?_)
            by_cases z : J7 0 24 = 0
            · exact (c1 (sli.mpr z)).trans (d1 z).symm
            · exact (c2 (fun s => z (sli.mp s))).trans (d2 z).symm
        · exact absurd hst s
      · rw [if_pos (show (40 : Int) < ((n + 1 : Nat) : Int) by omega), if_neg (show ¬ (n : Int) < 40 by omega)]
        exact pq_r (par_mono (xv_kx (fu := fu) N (n : Int) J hcs) (fun _ _ ⟨_, z⟩ => (z (Or.inr hst)).symm))
theorem till3 {N : Int} (hfu : 5000000000 < fu) (hN : inr N) (h : HG 82 I J) (hU : NUQ J) (hst : STD N J) (hc : J 1 70 + 60 < 1900000000) : pq (f_M_countTill fu 81 N I) (f_X_sitsAfter fu 0 N J) (fun x _ y _ => x = y) := by
  obtain ⟨hX, hG, hC⟩ := h
  have g4 : GX 0 (up (up J 0 23 N) 0 24 0) := GX_up0 (GX_up0 hG hN (Or.inl (by decide))) (lit_in rfl) (Or.inl (by decide))
  have e4 : ∀ q j, up (up J 0 23 N) 0 24 0 q j = if q = 0 ∧ j = 24 then 0 else if q = 0 ∧ j = 23 then N else J q j := fun q j => rfl
  rw [count_eq, sits_eq]
  refine pq_zwr (pq_zwr ?_)
  obtain ⟨J4, hJ4⟩ : ∃ J4, J4 = up (up J 0 23 N) 0 24 0 := ⟨_, rfl⟩
  rw [← hJ4]
  rw [← hJ4] at g4 e4
  have w : ∀ q j, ¬ (q = 0 ∧ (j = 23 ∨ j = 24)) → J4 q j = J q j := fun q j a => by rw [e4, if_neg (by omega), if_neg (by omega)]
  have w1 : ∀ j, 130 ≤ j → j < 1580 → J4 1 j = J 1 j := fun j _ _ => w 1 j (by omega)
  exact till12 hfu N fu fu 0 I J4 (by decide) ⟨⟨hr_mv hX.1 (fun _ _ _ => rfl) (fun j _ => w _ _ (by omega)), by rw [w 0 22 (by omega)]; exact hX.2.1, hX.2.2⟩, g4, hC⟩ (nuq_mv w1 hU) ((std_mv w1 N).mpr hst) (by rw [e4, if_pos ⟨rfl, rfl⟩]) (by rw [e4, if_neg (by omega), if_pos ⟨rfl, rfl⟩]) (by rw [w 1 70 (by omega)]; omega)
theorem hx_copy3 {I2 J2 : IMem} (h : HR 1 1 I J) (h11 : I 1 11 = J 0 22) (hA : HA 82 I) (hc : HCP 82 1 I2 I) (f2 : ∀ q j, (q < 82 ∨ q = 96 ∨ 122 ≤ q) → I2 q j = I q j) (so : ∀ q j, q ≠ 3 → q ≠ 23 → q ≠ 24 → ¬ (q = 0 ∧ j = 50) → J2 q j = J q j) : HX 82 I2 J2 := by
  refine ⟨hr_cp h hc (fun j _ => so 1 j (by decide) (by decide) (by decide) (by omega)), ?_, ?_, ?_⟩
  · rw [so 0 22 (by decide) (by decide) (by decide) (by decide), ← h11]
    exact hc.1.2.2
  · exact (f2 _ _ (Or.inr (Or.inl rfl))).trans hA.1
  · exact (f2 _ _ (Or.inr (Or.inl rfl))).trans hA.2
theorem ev_isTh (fu l : Nat) (p : Int) (J : IMem) (hl : l < 6) (hc : 0 ≤ J 1 (130 + l) ∧ J 1 (130 + l) ≤ 40) : f_X_isThere fu 0 (l : Int) p J = zr (if 0 ≤ p ∧ p < J 1 (130 + l) then 1 else 0) J := by
  unfold f_X_isThere
  simp only [zl_e]
  rw [ev_xLine, zb_zr, if_pos (show 0 ≤ (l : Int) ∧ (l : Int) < 6 by omega), if_neg ne10, w_130 l hl, zg_t (show 0 ≤ ((130 + l : Nat) : Int) ∧ ((130 + l : Nat) : Int) < 6190 by omega), show J (0 + 1) ((130 + l : Nat) : Int).toNat = J 1 (130 + l) from rfl, wr32_i2 (x := J 1 (130 + l) - 1) (by omega) (by omega), ev_isIn, zb_zr]
  by_cases q : 0 ≤ p ∧ p < J 1 (130 + l)
  · rw [if_pos q, if_pos (show 0 ≤ p ∧ p ≤ J 1 (130 + l) - 1 by omega), if_neg ne10]
  · rw [if_neg q, if_neg (show ¬ (0 ≤ p ∧ p ≤ J 1 (130 + l) - 1) by omega), if_pos eq00]
theorem ev_isTh0 (fu : Nat) (a p : Int) (J : IMem) (h : ¬ (0 ≤ a ∧ a < 6)) : f_X_isThere fu 0 a p J = zr 0 J := by
  unfold f_X_isThere
  rw [ev_xLine, zb_zr, if_neg h, if_pos eq00]
theorem ev_has0 (fu o : Nat) (a p : Int) (I : IMem) (h : ¬ (0 ≤ a ∧ a < 6)) : f_L_has fu o a p I = zr 0 I := by
  unfold f_L_has
  rw [ev_isLine, if_neg h, zb_zr, if_pos eq00]
theorem till2 (hfu : 5000000000 < fu) (h : HR 1 1 I J) (h11 : I 1 11 = J 0 22) (hA : HA 82 I) (hg : GX 0 J) (hC : GC I) (hU : NUQ J) (hc : J 1 70 + 60 < 1900000000) {l p : Nat} (hl : l < 6) (hp : (p : Int) < J 1 (130 + l)) : pq (f_M_tillSits fu 81 1 ((40 * l + p : Nat) : Int) I) (f_X_till fu 0 (l : Int) (p : Int) J) (fun x _ y _ => x = y) := by
  have hL : HL 1 1 I J := h.2.2.2.1
  obtain ⟨c1, c2⟩ := hl_c hL hl
  have p40 : p < 40 := by omega
  unfold f_M_tillSits f_X_till
  rw [ev_isTh fu l p J hl c2, zb_zr, if_pos (show 0 ≤ (p : Int) ∧ (p : Int) < J 1 (130 + l) by omega), if_neg ne10, ev_of0 fu 0 l p J hl p40, zb_zr]
  refine pq_bl (par_and (cv_hcopy (fu := fu) (81 + 1) 1 (by omega) I) (par_sat (ok_H_copyFrom fu (81 + 1) 1 I hfu hC (by omega) (by omega)))) (fun _ I2 e ⟨hc2, _, hC2, _⟩ => ?_)
  have f2 := fr_dcopy (fu := fu) (I := I) e
  rw [ev_get0 fu (1 + 6) (40 * l + p) I2 (by omega), zb_zr]
  have n1 : I2 (1 + 6 + 1) (6 * (40 * l + p) + 0) = J (0 + 1) (140 + 6 * (40 * l + p) + 0) := (f2 _ _ (by omega)).trans (hl_r (l := l) (p := p) (f := 0) hL hl hp (by decide))
  rw [n1]
  obtain ⟨N, hNe⟩ : ∃ N, N = J (0 + 1) (140 + 6 * (40 * l + p) + 0) := ⟨_, rfl⟩
  rw [← hNe]
  have hst : STD N J := std_at hl p40 hp hNe.symm
  have hN : inr N := by rw [hNe]; exact hg.1 _ _
  refine pq_br (par_sat (ok_X_setsOut fu 0 J hfu hg)) (fun _ J2 _ ⟨_, hG2, so⟩ => ?_)
  have so' : ∀ q j, q ≠ 3 → q ≠ 23 → q ≠ 24 → ¬ (q = 0 ∧ j = 50) → J2 q j = J q j := fun q j a b c d => so.2.2.2.2 q j (by omega) (by omega) (by omega) (by omega)
  have w1 : ∀ j, 130 ≤ j → j < 1580 → J2 1 j = J 1 j := fun j _ _ => so' 1 j (by decide) (by decide) (by decide) (by omega)
  refine pq_b (Q1 := fun x _ y _ => x = y) ?_ (fun x I' y J' _ _ e => pq_br (P := fun _ _ => True) (fun _ _ _ => trivial) (fun _ _ _ _ => pq_end e))
  exact till3 hfu hN ⟨hx_copy3 h h11 hA hc2 f2 so', hG2, hC2⟩ (nuq_mv w1 hU) ((std_mv w1 N).mpr hst) (by rw [so' 1 70 (by decide) (by decide) (by decide) (by decide)]; exact hc)
theorem pj_till (a b : Int) (hfu : 5000000000 < fu) (h : RJ I J) (hg : GX 0 J) (hC : GC I) (hU : NUQ J) (hc : J 1 70 + 60 < 1900000000) : pq (f_S_till fu 0 a b I) (f_X_till fu 0 a b J) (fun x _ y _ => x = y) := by
  unfold f_S_till
  have hL : HL 1 1 I J := h.1.1.2.2.2.1
  by_cases h1 : 0 ≤ a ∧ a < 6
  · obtain ⟨l, rfl⟩ : ∃ l : Nat, a = (l : Int) := ⟨a.toNat, by omega⟩
    have hl : l < 6 := by omega
    obtain ⟨c1, c2⟩ := hl_c hL hl
    rw [ev_has fu (0 + 7) l b I hl, zb_zr, show I (0 + 7 + 2) l = J 1 (130 + l) from c1]
    by_cases h2 : 0 ≤ b ∧ b < J 1 (130 + l)
    · obtain ⟨p, rfl⟩ : ∃ p : Nat, b = (p : Int) := ⟨b.toNat, by omega⟩
      have wk : Wq (wr32 (wr32 ((l : Int) * 40) + (p : Int))) (((40 * l + p : Nat) : Int)) := by show wr32 (wr32 ((l : Int) * 40) + (p : Int)) = ((40 * l + p : Nat) : Int); rw [wr32_i2 (x := (l : Int) * 40) (by omega) (by omega), wr32_i2 (by omega) (by omega)]; omega
      rw [if_pos h2, if_neg ne10, wk.e, zb_idq]
      exact till2 hfu h.1.1 h.1.2.1 (rj_ha h) hg hC hU hc hl h2.2
    · rw [if_neg h2, if_pos eq00]
      unfold f_X_till
      rw [ev_isTh fu l b J hl c2, zb_zr, if_neg h2, if_pos eq00]
      exact pq_end rfl
  · rw [ev_has0 fu (0 + 7) a b I h1, zb_zr, if_pos eq00]
    unfold f_X_till
    rw [ev_isTh0 fu a b J h1, zb_zr, if_pos eq00]
    exact pq_end rfl
end
