/-! tests, typed -/
def BQ (a : Int) : Nat := 5 + 2 * (8 - a).toNat
theorem bq_s {a : Int} (h : 0 ≤ a ∧ a < 8) : BQ (a + 1) + 2 = BQ a := by unfold BQ; omega
theorem bq_5 (a : Int) : 5 ≤ BQ a := by unfold BQ; omega
def TCq (fu k k' : Nat) (T : TXT) : Prop := ∀ (a : Int) (t : Nat) (xs : List Int) (ps : List (Int × Int)) (I J : IMem), 0 ≤ a → a ≤ 8 → PSt T a t xs ps I J → par2 ((gRD fu k).2 144 a I) ((gXA fu k').2.2 0 J) (OUQ (BQ a) true T a t xs ps)
def ECq (fu k k' : Nat) (T : TXT) : Prop := ∀ (a : Int) (t : Nat) (xs : List Int) (ps : List (Int × Int)) (I J : IMem), 0 ≤ a → a ≤ 8 → PSt T a t xs ps I J → par2 ((gRD fu k).1 144 a I) ((gXA fu k').1 0 J) (OUQ (BQ a + 2) true T a t xs ps)
def LPr (T : TXT) (d : Int) (t0 t : Nat) (xs0 : List Int) (ps0 it : List (Int × Int)) (w : Int) (I J : IMem) : Prop := ∃ k : Nat, ((w = 0 ∧ k = 0) ∨ (w = 1 ∧ k = 1)) ∧ t0 < t ∧ (enc it).length + k + t0 ≤ t ∧ it.length + k + t0 ≤ t ∧ PSt T d t (xs0 ++ enc it) (ps0 ++ it) I J ∧ xs0.length ≤ t0 ∧ ps0.length ≤ t0 ∧ ((w = 0 ∧ TYQ (BQ d + 2) T.s it [true]) ∨ (w ≠ 0 ∧ TYQ (BQ d + 2) T.s it [true, true]))
theorem ei9q {T : TXT} {a : Int} {t0 : Nat} {xs0 : List Int} {ps0 : List (Int × Int)} (fu k k' : Nat) (ha0 : 0 ≤ a ∧ a ≤ 8) (tc : TCq fu k k' T) : ∀ (m m2 m3 : Nat) (w2 w3 : Int) (t : Nat) (it : List (Int × Int)) (I J : IMem), LPr T a t0 t xs0 ps0 it w2 I J → 0 ≤ w3 → w3 < t → par2 (f_R_readEither_9 fu (gRD fu k) (kEi fu) 144 a m w2 w3 I) (zb (f_X_every_9 fu (gXA fu k') 0 m2 J) (konA fu k' m3 w2)) (OUQ (BQ a + 2) true T a t0 xs0 ps0) := by
  intro m
  induction m with
  | zero => intro m2 m3 w1 w2 t it I J _ _ _; exact par2_nl
  | succ m ih =>
    intro m2 m3 w1 w2 t it I J h hw0 hw2
    cases m2 with
    | zero => intro x I' y J' e1 e2; cases e2
    | succ m2 =>
    have h0 := h
    obtain ⟨k1, hk, h1, h2, h3, hps, h5, h6, h7⟩ := h0
    have b5 := bq_5 a
    have hps0 := hps
    obtain ⟨ho, hc, hj, ht, hx, hp⟩ := hps0
    have hn := ho.1.2.1
    have hkd := okt_k ho ht
    obtain ⟨a0, a2, a3, a4, a5, a6, a7, aU, aS, aE⟩ := tm_all (s := T.s) hkd.1
    have hK := hc.2.1
    have h10 := hc.2.2.2.1
    have hJ := hj.2.2.2.2.1
    rw [← hJ] at a4 a5
    have hlx := hx
    have hlp := hp
    rw [List.length_append] at hlx hlp
    have hwb : 0 ≤ w2 ∧ w2 < 400 := by omega
    by_cases c3 : T.K t = 3
    · -- and
      have htn : t < T.n := by have := hkd.2.1; omega
      rw [ce_and (hK.trans c3) hwb h10, xe_and (a5.mpr c3), zb_assoc]
      refine par2_bl (ct_adv fu ho hc htn) (fun _ I1 c1 => par2_br (jt_next fu ho hj htn) (fun _ J1 j1 => ?_))
      rw [zb_assoc]
      have ps1 : PSt T a (t + 1) (xs0 ++ enc it) (ps0 ++ it) I1 J1 := ⟨ho, c1, j1, htn, by omega, by omega⟩
      refine par2_b (tc a _ _ _ I1 J1 ha0.1 ha0.2 ps1) (fun _ I2 y J2 _ _ ou => ?_)
      rcases ou with ⟨ey, t2, it2, g1, g2, g3, g4, g5⟩ | ⟨ey, bd⟩
      · rw [if_neg (by omega), zb_assoc]
        obtain ⟨_, c2, j2, ht2, hx2, hp2⟩ := g4
        have l2 := hx2
        have lp2 := hp2
        rw [List.length_append, List.length_append] at l2 lp2
        refine par2_bl (ct_add fu (-8) c2 (by rw [List.length_append, List.length_append]; omega)) (fun _ I3 c3 => par2_br (jt_lay fu 20 0 j2 (by rw [List.length_append, List.length_append]; omega)) (fun _ J3 j3 => ?_))
        have en : enc (it ++ (it2 ++ [(20, 0)])) = enc it ++ (enc it2 ++ [-8]) := by rw [enc_app, enc_app, enc_one]; rfl
        refine ih m2 m3 w1 (w2 + 1) t2 (it ++ (it2 ++ [(20, 0)])) I3 J3 ⟨k1, hk, by omega, ?_, ?_, ⟨ho, ?_, ?_, ht2, ?_, ?_⟩, h5, h6, h7.imp (fun z => ⟨z.1, tq_log (Or.inl rfl) (Nat.zero_le _) (by omega) z.2 g5⟩) (fun z => ⟨z.1, tq_log (Or.inl rfl) (Nat.le_refl _) (by omega) z.2 g5⟩)⟩ (by omega) (by omega)
        · rw [en]; simp only [List.length_append, List.length_cons, List.length_nil]; omega
        · simp only [List.length_append, List.length_cons, List.length_nil]; omega
        · rw [en]; simpa only [List.append_assoc] using c3
        · simpa only [List.append_assoc] using j3
        · rw [en]; simp only [List.length_append, List.length_cons, List.length_nil]; omega
        · simp only [List.length_append, List.length_cons, List.length_nil]; omega
      · subst ey
        rw [if_pos rfl]
        refine konA_0 (par_zb (sk_add fu _ I2) (fun _ I3 f3 => par_mono (sk_ei9 fu _ a m w1 _ I3 (fst_n f3 (bd_n bd))) (fun _ I4 f4 => ouq_bad (bd_fst bd (fst_t f3 f4)))))
    rw [xe_end (fun x => c3 (a5.mp x))]
    show par2 _ (konA fu k' m3 w1 1 J) _
    unfold konA
    rw [if_neg (by decide)]
    by_cases c2 : T.K t = 2
    · -- or
      have htn : t < T.n := by have := hkd.2.1; omega
      rw [ce_or (hK.trans c2) hwb h10]
      have go : ∀ (it' : List (Int × Int)) (I1 J1 : IMem) (m3 : Nat), CTk T (t + 1) (xs0 ++ enc it') I1 → JTk T a t (ps0 ++ it') J1 → (enc it').length + t0 ≤ t → it'.length + t0 ≤ t → TYQ (BQ a + 2) T.s it' [true] → par2 (zb ((gRD fu k).2 144 a I1) fun _ I15 => f_R_readEither_9 fu (gRD fu k) (kEi fu) 144 a m 1 (w2 + 1) I15) (f_X_any_9 fu (gXA fu (k' + 1)) 0 m3 J1) (OUQ (BQ a + 2) true T a t0 xs0 ps0) := by
        intro it' I1 J1 m3 c1 j1 l1 l2 l3
        cases m3 with
        | zero => exact par2_nr
        | succ m3 =>
        rw [xa_or (by rw [j1.2.2.2.2.1, ← hJ]; exact a4.mpr c2)]
        refine par2_br (jt_next fu ho j1 htn) (fun _ J2 j2 => ?_)
        show par2 _ (zb (fb_X_every fu (gXA fu k') 0 J2) _) _
        unfold fb_X_every
        rw [zb_assoc]
        have ps2 : PSt T a (t + 1) (xs0 ++ enc it') (ps0 ++ it') I1 J2 := ⟨ho, c1, j2, htn, by rw [List.length_append]; omega, by rw [List.length_append]; omega⟩
        refine par2_b (tc a _ _ _ I1 J2 ha0.1 ha0.2 ps2) (fun _ I3 y J3 _ _ ou => ?_)
        rcases ou with ⟨ey, t2, it2, g1, g2, g3, g4, g5⟩ | ⟨ey, bd⟩
        · rw [if_neg (by omega)]
          have hkon : (fun (y7 : Int) (I8 : IMem) => if y7 = 0 then zr 0 I8 else zb (f_X_lay fu 0 21 0 I8) fun _ I11 => f_X_any_9 fu (gXA fu (k' + 1)) 0 m3 I11) = konA fu k' m3 1 := by
            unfold konA
            funext y12 I13
            rw [if_neg (c := (1 : Int) = 0) (by decide)]
          rw [hkon]
          have en : enc (it' ++ it2) = enc it' ++ enc it2 := enc_app _ _
          refine ih fu m3 1 (w2 + 1) t2 (it' ++ it2) I3 J3 ⟨1, Or.inr ⟨rfl, rfl⟩, by omega, ?_, ?_, ?_, h5, h6, Or.inr ⟨by decide, tq_more2 l3 g5⟩⟩ (by omega) (by omega)
          · rw [en, List.length_append]; omega
          · rw [List.length_append]; omega
          · rw [en, ← List.append_assoc, ← List.append_assoc]; exact g4
        · subst ey
          rw [if_pos rfl]
          show par2 _ (zr 0 J3) _
          exact par2_l (par_mono (sk_ei9 fu _ a m _ _ I3 (bd_n bd)) (fun _ I4 f4 => ouq_bad (bd_fst bd f4)))
      refine par2_bl (ct_adv fu ho hc htn) (fun _ I1 c1 => ?_)
      by_cases hw : w1 = 0
      · rw [if_pos hw, if_pos hw]
        exact go it I1 J m3 c1 hj (by omega) (by omega) (h7.elim (fun z => z.2) (fun z => absurd hw z.1))
      · rw [if_neg hw, if_neg hw]
        rcases hk with ⟨e, _⟩ | ⟨e, ek⟩
        · exact absurd e hw
        refine par2_bl (ct_add fu (-9) c1 (by rw [List.length_append]; omega)) (fun _ I2 c2 => par2_br (jt_lay fu 21 0 hj (by rw [List.length_append]; omega)) (fun _ J2 j2 => ?_))
        have en : enc (it ++ [(21, 0)]) = enc it ++ [-9] := by rw [enc_app, enc_one]; rfl
        refine go (it ++ [(21, 0)]) I2 J2 m3 ?_ ?_ ?_ ?_ (h7.elim (fun z => absurd z.1 hw) (fun z => tq_lay2 (Or.inr rfl) (by omega) z.2))
        · rw [en, ← List.append_assoc]; exact c2
        · rw [← List.append_assoc]; exact j2
        · rw [en, List.length_append]; show (enc it).length + 1 + t0 ≤ t; omega
        · rw [List.length_append]; show it.length + 1 + t0 ≤ t; omega
    · -- the end
      rw [ce_end (by rw [hK]; exact c2) (by rw [hK]; exact c3) hwb h10]
      unfold kEi
      have fin : ∀ (m3 : Nat) (J1 : IMem), J1 0 14 = J 0 14 → f_X_any_9 fu (gXA fu (k' + 1)) 0 m3 J1 = none ∨ f_X_any_9 fu (gXA fu (k' + 1)) 0 m3 J1 = zr 1 J1 := by
        intro m3 J1 e
        cases m3 with
        | zero => exact Or.inl rfl
        | succ m3 => exact Or.inr (xa_end (by rw [e]; exact fun x => c2 (a4.mp x)))
      by_cases hw : w1 = 0
      · rw [if_pos hw, if_pos hw]
        rcases fin m3 J rfl with e | e
        · rw [e]; exact par2_nr
        · rw [e]
          exact par2_end (Or.inl ⟨rfl, t, it, h1, by omega, by omega, hps, h7.elim (fun z => z.2) (fun z => absurd hw z.1)⟩)
      · rw [if_neg hw, if_neg hw]
        rcases hk with ⟨e, _⟩ | ⟨e, ek⟩
        · exact absurd e hw
        have en : enc (it ++ [(21, 0)]) = enc it ++ [-9] := by rw [enc_app, enc_one]; rfl
        refine par2_bl (ct_add fu (-9) hc (by rw [List.length_append]; omega)) (fun _ I2 c2' => par2_br (jt_lay fu 21 0 hj (by rw [List.length_append]; omega)) (fun _ J2 j2 => ?_))
        rcases fin m3 J2 (j2.2.2.2.2.1.trans hJ.symm) with e | e
        · rw [e]; exact par2_nr
        · rw [e]
          refine par2_end (Or.inl ⟨rfl, t, it ++ [(21, 0)], h1, ?_, ?_, ⟨ho, ?_, ?_, ht, ?_, ?_⟩, h7.elim (fun z => absurd z.1 hw) (fun z => tq_lay2 (Or.inr rfl) (by omega) z.2)⟩)
          · rw [en, List.length_append]; show (enc it).length + 1 + t0 ≤ t; omega
          · rw [List.length_append]; show it.length + 1 + t0 ≤ t; omega
          · rw [en, ← List.append_assoc]; exact c2'
          · rw [← List.append_assoc]; exact j2
          · rw [en, List.length_append, List.length_append]; show xs0.length + ((enc it).length + 1) ≤ t; omega
          · rw [List.length_append, List.length_append]; show ps0.length + (it.length + 1) ≤ t; omega
theorem either2q (fu k : Nat) (T : TXT) (tc : ∀ k', TCq fu k k' T) : ∀ k', ECq fu (k + 1) k' T := by
  intro k' a t xs ps I J ha0 ha8 h
  cases k' with
  | zero => exact par2_nr
  | succ k' =>
  cases k' with
  | zero => intro x I' y J' e1 e2; cases e2
  | succ k' =>
  show par2 (fb_R_readEither fu (gRD fu k) 144 a I) (fb_X_any fu (gXA fu (k' + 1)) 0 J) _
  unfold fb_R_readEither fb_X_any
  show par2 _ (zb (fb_X_every fu (gXA fu k') 0 J) _) _
  unfold fb_X_every
  rw [zb_assoc]
  refine par2_b (tc k' a t xs ps I J ha0 ha8 h) (fun _ I1 y J1 _ _ ou => ?_)
  rcases ou with ⟨ey, t2, it2, g1, g2, g3, g4, g5⟩ | ⟨ey, bd⟩
  · rw [if_neg (by omega)]
    have hkon : (fun (y1 : Int) (I2 : IMem) => if y1 = 0 then zr 0 I2 else f_X_any_9 fu (gXA fu (k' + 1)) 0 fu I2) = konA fu k' fu 0 := by
      unfold konA
      funext y1 I2
      rw [if_pos (c := (0 : Int) = 0) rfl]
    rw [hkon]
    exact ei9q fu k k' ⟨ha0, ha8⟩ (tc k') fu fu fu 0 0 t2 it2 I1 J1 ⟨0, Or.inl ⟨rfl, rfl⟩, g1, by omega, by omega, g4, h.2.2.2.2.1, h.2.2.2.2.2, Or.inl ⟨rfl, tyq_mono g5 (by omega)⟩⟩ (by omega) (by omega)
  · subst ey
    rw [if_pos rfl]
    show par2 _ (zr 0 J1) _
    exact par2_l (par_mono (sk_ei9 fu _ a fu _ _ I1 (bd_n bd)) (fun _ I4 f4 => ouq_bad (bd_fst bd f4)))

theorem test2q (fu k : Nat) (T : TXT) (tc : ∀ k', TCq fu k k' T) (ec : ∀ k', ECq fu k k' T) : ∀ k', TCq fu (k + 1) k' T := by
  intro k' a t xs ps I J ha0 ha8 h
  cases k' with
  | zero => exact par2_nr
  | succ k' =>
  show par2 (fb_R_readTest fu (gRD fu k) 144 a I) (fb_X_one fu (gXA fu k') 0 J) _
  have b5 := bq_5 a
  have h' := h
  obtain ⟨ho, hc, hj, ht, hx, hp⟩ := h'
  have hn := ho.1.2.1
  have hkd := okt_k ho ht
  obtain ⟨a0, a2, a3, a4, a5, a6, a7, aU, aS, aE⟩ := tm_all (s := T.s) hkd.1
  have hK := hc.2.1
  have h10 := hc.2.2.2.1
  have hJ := hj.2.2.2.2.1
  have e140 := aS 140 (by omega)
  rw [← hJ] at a6 e140
  by_cases c4 : T.K t = 4 ∨ T.K t = 40
  · by_cases h8 : a < 8
    · have htn : t < T.n := by have := hkd.2.1; omega
      rcases c4 with c4 | c40
      · rw [te_not (hK.trans c4) ⟨ha0, h8⟩ h10, on_not (a6.mpr c4)]
        refine par2_bl (ct_adv fu ho hc htn) (fun _ I1 c1 => par2_br (jt_open fu ho hj ⟨ha0, h8⟩ htn) (fun y1 J1 j1 => ?_))
        rw [if_neg (by omega)]
        have ps1 : PSt T (a + 1) (t + 1) xs ps I1 J1 := ⟨ho, c1, j1.2, htn, by omega, by omega⟩
        refine par2_b (tc k' (a + 1) _ _ _ I1 J1 (by omega) (by omega) ps1) (fun _ I2 y J2 _ _ ou => ?_)
        rcases ou with ⟨ey, t2, it2, g1, g2, g3, g4, g5⟩ | ⟨ey, bd⟩
        · rw [if_neg (by omega)]
          obtain ⟨_, c2, j2, ht2, hx2, hp2⟩ := g4
          have l2 := hx2
          have lp2 := hp2
          rw [List.length_append] at l2 lp2
          rw [j2.2.2.2.2.2.2.1, wr32_i2 (x := a + 1 - 1) (by omega) (by omega), show a + 1 - 1 = a by omega]
          refine par2_zwr ?_
          refine par2_bl (ct_add fu (-10) c2 (by rw [List.length_append]; omega)) (fun _ I3 c3 => par2_br (jt_lay fu 19 0 (jt_d a j2) (by rw [List.length_append]; omega)) (fun _ J3 j3 => ?_))
          have en : enc (it2 ++ [(19, 0)]) = enc it2 ++ [-10] := by rw [enc_app, enc_one]; rfl
          refine par2_end (Or.inl ⟨rfl, t2, it2 ++ [(19, 0)], by omega, ?_, ?_, ⟨ho, ?_, ?_, ht2, ?_, ?_⟩, tq_not (by omega) (tyq_mono g5 (by have := bq_s ⟨ha0, h8⟩; omega))⟩)
          · rw [en]; simp only [List.length_append, List.length_cons, List.length_nil]; omega
          · simp only [List.length_append, List.length_cons, List.length_nil]; omega
          · rw [en]; simpa only [List.append_assoc] using c3
          · simpa only [List.append_assoc] using j3
          · rw [en]; simp only [List.length_append, List.length_cons, List.length_nil]; omega
          · simp only [List.length_append, List.length_cons, List.length_nil]; omega
        · subst ey
          rw [if_pos rfl]
          exact par2_l (par_zb (sk_add fu _ I2) (fun _ I3 f3 => par_zr (ouq_bad (bd_fst bd f3))))
      · rw [te_par (hK.trans c40) ⟨ha0, h8⟩ h10, on_par (e140.mpr (by omega))]
        refine par2_bl (ct_adv fu ho hc htn) (fun _ I1 c1 => par2_br (jt_open fu ho hj ⟨ha0, h8⟩ htn) (fun y1 J1 j1 => ?_))
        rw [if_neg (by omega)]
        have ps1 : PSt T (a + 1) (t + 1) xs ps I1 J1 := ⟨ho, c1, j1.2, htn, by omega, by omega⟩
        refine par2_b (ec k' (a + 1) _ _ _ I1 J1 (by omega) (by omega) ps1) (fun _ I2 y J2 _ _ ou => ?_)
        rcases ou with ⟨ey, t2, it2, g1, g2, g3, g4, g5⟩ | ⟨ey, bd⟩
        · rw [if_neg (by omega)]
          obtain ⟨_, c2, j2, ht2, hx2, hp2⟩ := g4
          have l2 := hx2
          have lp2 := hp2
          rw [List.length_append] at l2 lp2
          have e141 := (tm_all (s := T.s) (okt_k ho ht2).1).2.2.2.2.2.2.2.2.1 141 (by omega)
          refine par2_bl (ct_exp fu 41 ho c2 ht2 (by decide)) (fun _ I3 c3 => par2_br (jt_need fu ho j2 ht2 141 41 e141 (by decide)) (fun y3 J3 j3 => ?_))
          rcases c3 with ⟨q1, q2, q3⟩ | ⟨q1, q2⟩
          · rcases j3 with ⟨r1, r2, r3⟩ | ⟨r1, r2, r3⟩
            · rw [if_neg (by omega), r3.2.2.2.2.2.2.1, wr32_i2 (x := a + 1 - 1) (by omega) (by omega), show a + 1 - 1 = a by omega]
              refine par2_zwr (par2_end (Or.inl ⟨rfl, t2 + 1, it2, by omega, by omega, by omega, ⟨ho, q2, jt_d a r3, q3, by rw [List.length_append]; omega, by rw [List.length_append]; omega⟩, tyq_mono g5 (by have := bq_s ⟨ha0, h8⟩; omega)⟩))
            · exact absurd q1 r1
          · rcases j3 with ⟨r1, r2, r3⟩ | ⟨r1, r2, r3⟩
            · exact absurd r1 q1
            · rw [if_pos r2]
              exact par2_end (ouq_bad ⟨1, _, by decide, q2, r3⟩)
        · subst ey
          rw [if_pos rfl]
          exact par2_l (par_zb (sk_exp fu _ (bd_n bd)) (fun _ I3 f3 => par_zr (ouq_bad (bd_fst bd f3))))
    · have e8 : a = 8 := by omega
      rw [te_deep (by rw [hK]; exact c4) h8 h10]
      have op : par (f_X_opens fu 0 J) (fun y J' => y = 0 ∧ JF J' 3 (T.P t)) := by
        unfold f_X_opens
        rw [hj.2.2.2.2.2.2.1, if_pos e8]
        exact par_zb (jt_bad fu 3 hj) (fun y J1 g => par_zg (fun _ => par_zr g))
      have fin : ∀ J1, JF J1 3 (T.P t) → par2 (zb (f_R_fail fu 144 3 I) fun _ I44 => zr 0 I44) (zr 0 J1) (OUQ (BQ a) true T a t xs ps) := fun J1 j1 => par2_l (par_zb (ct_fail fu 3 ho hc ht) (fun _ I1 c1 => par_zr (ouq_bad ⟨3, _, by decide, c1, j1⟩)))
      rcases c4 with c4 | c40
      · rw [on_not (a6.mpr c4)]
        refine par2_br op (fun y1 J1 j1 => ?_)
        rw [if_pos j1.1]
        exact fin J1 j1.2
      · rw [on_par (e140.mpr (by omega))]
        refine par2_br op (fun y1 J1 j1 => ?_)
        rw [if_pos j1.1]
        exact fin J1 j1.2
  · rw [te_cmp (by rw [hK]; exact fun x => c4 (Or.inl x)) (by rw [hK]; exact fun x => c4 (Or.inr x)) h10, on_cmp (fun x => c4 (Or.inl (a6.mp x))) (fun x => c4 (Or.inr (by have := e140.mp x; omega)))]
    refine par2_b (sum2q fu h) (fun _ I2 y J2 _ _ ou => ?_)
    rcases ou with ⟨ey, t2, it2, g1, g2, g3, g4, g5⟩ | ⟨ey, bd⟩
    · rw [if_neg (by omega)]
      have g4' := g4
      obtain ⟨_, c2, j2, ht2, hx2, hp2⟩ := g4'
      have l2 := hx2
      have lp2 := hp2
      rw [List.length_append] at l2 lp2
      have aS2 := (tm_all (s := T.s) (okt_k ho ht2).1).2.2.2.2.2.2.2.2.1
      have e160 := aS2 160 (by omega)
      have e161 := aS2 161 (by omega)
      have e162 := aS2 162 (by omega)
      rw [j2.2.2.2.2.1, c2.2.1]
      have hdue : dueZ (T.K t2) ≠ 17 := by unfold dueZ; split <;> (try split) <;> omega
      refine par2_bl (ct_exp fu _ ho c2 ht2 hdue) (fun _ I3 c3 => ?_)
      by_cases cc : T.K t2 = 60 ∨ T.K t2 = 61 ∨ T.K t2 = 62
      · have hh : howZ (tm T.s (T.K t2)) ≠ -1 ∧ dueZ (T.K t2) = T.K t2 ∧ enI (howZ (tm T.s (T.K t2)), 0) = [opZ (T.K t2)] := by
          rcases cc with q | q | q
          · have := e160.mpr (by omega); rw [this, q]; exact ⟨by decide, rfl, rfl⟩
          · have := e161.mpr (by omega); rw [this, q]; exact ⟨by decide, rfl, rfl⟩
          · have := e162.mpr (by omega); rw [this, q]; exact ⟨by decide, rfl, rfl⟩
        have hh3 : howZ (tm T.s (T.K t2)) = 16 ∨ howZ (tm T.s (T.K t2)) = 17 ∨ howZ (tm T.s (T.K t2)) = 18 := by
          rcases cc with q | q | q
          · have := e160.mpr (by omega); rw [this]; exact Or.inl rfl
          · have := e161.mpr (by omega); rw [this]; exact Or.inr (Or.inl rfl)
          · have := e162.mpr (by omega); rw [this]; exact Or.inr (Or.inr rfl)
        rw [if_neg hh.1]
        rcases c3 with ⟨q1, q2, q3⟩ | ⟨q1, q2⟩
        · refine par2_br (jt_next fu ho j2 q3) (fun _ J3 j3 => ?_)
          have ps3 : PSt T a (t2 + 1) (xs ++ enc it2) (ps ++ it2) I3 J3 := ⟨ho, q2, j3, q3, by rw [List.length_append]; omega, by rw [List.length_append]; omega⟩
          refine par2_b (sum2q fu ps3) (fun _ I4 y4 J4 _ _ ou => ?_)
          rcases ou with ⟨ey4, t4, it4, k1, k2, k3, k4, k5⟩ | ⟨ey4, bd⟩
          · rw [if_neg (by omega)]
            obtain ⟨_, c4', j4, ht4, hx4, hp4⟩ := k4
            have l4 := hx4
            have lp4 := hp4
            rw [List.length_append, List.length_append] at l4 lp4
            refine par2_bl (ct_add fu _ c4' (by rw [List.length_append, List.length_append]; omega)) (fun _ I5 c5 => par2_br (jt_lay fu _ 0 j4 (by rw [List.length_append, List.length_append]; omega)) (fun _ J5 j5 => ?_))
            have en : enc (it2 ++ (it4 ++ [(howZ (tm T.s (T.K t2)), 0)])) = enc it2 ++ (enc it4 ++ [opZ (T.K t2)]) := by rw [enc_app, enc_app, enc_one, hh.2.2]
            refine par2_end (Or.inl ⟨rfl, t4, it2 ++ (it4 ++ [(howZ (tm T.s (T.K t2)), 0)]), by omega, ?_, ?_, ⟨ho, ?_, ?_, ht4, ?_, ?_⟩, tyq_mono (tq_cmp hh3 g5 k5) b5⟩)
            · rw [en]; simp only [List.length_append, List.length_cons, List.length_nil]; omega
            · simp only [List.length_append, List.length_cons, List.length_nil]; omega
            · rw [en]; simpa only [List.append_assoc] using c5
            · simpa only [List.append_assoc] using j5
            · rw [en]; simp only [List.length_append, List.length_cons, List.length_nil]; omega
            · simp only [List.length_append, List.length_cons, List.length_nil]; omega
          · subst ey4
            rw [if_pos rfl]
            exact par2_l (par_zb (sk_add fu _ I4) (fun _ I5 f5 => par_zr (ouq_bad (bd_fst bd f5))))
        · exact absurd hh.2.1.symm q1
      · have hh : howZ (tm T.s (T.K t2)) = -1 ∧ dueZ (T.K t2) = 61 := by
          unfold howZ dueZ
          rw [if_neg (fun x => cc (by have := e160.mp x; omega)), if_neg (fun x => cc (by have := e161.mp x; omega)), if_neg (fun x => cc (by have := e162.mp x; omega)), if_neg (fun x => cc (by omega)), if_neg (fun x => cc (by omega))]
          exact ⟨rfl, rfl⟩
        rw [if_pos hh.1]
        rcases c3 with ⟨q1, q2, q3⟩ | ⟨q1, q2⟩
        · exact absurd (q1.trans hh.2) (fun x => cc (by omega))
        · refine par2_br (jt_bad fu 1 j2) (fun y3 J3 j3 => par2_gr (fun _ => ?_))
          rw [j3.1]
          have hf : I3 144 10 ≠ 0 := by rw [q2.1]; decide
          refine par2_l (par_zb (sk_sum fu hf) (fun _ I4 f4 => par_zb (sk_add fu _ I4) (fun _ I5 f5 => par_zr (ouq_bad (bd_fst (I := I3) ⟨1, _, by decide, q2, j3.2⟩ (fst_t f4 f5))))))
    · subst ey
      rw [if_pos rfl]
      refine par2_l (par_zb (sk_exp fu _ (bd_n bd)) (fun _ I3 f3 => par_zb (sk_sum fu (fst_n f3 (bd_n bd))) (fun _ I4 f4 => par_zb (sk_add fu _ I4) (fun _ I5 f5 => par_zr (ouq_bad (bd_fst bd (fst_t (fst_t f3 f4) f5)))))))
theorem tests_allq (fu : Nat) (T : TXT) : ∀ k, (∀ k', TCq fu k k' T) ∧ (∀ k', ECq fu k k' T) := by
  intro k
  induction k with
  | zero => exact ⟨fun k' a t xs ps I J _ _ _ => par2_nl, fun k' a t xs ps I J _ _ _ => par2_nl⟩
  | succ k ih => exact ⟨test2q fu k T ih.1 ih.2, either2q fu k T ih.1⟩
theorem any2q {T : TXT} {t : Nat} {xs : List Int} {ps : List (Int × Int)} {I J : IMem} (fu : Nat) (h : PSt T 0 t xs ps I J) : par2 (f_R_readEither fu 144 0 I) (f_X_any fu 0 J) (OUQ (BQ 0 + 2) true T 0 t xs ps) := (tests_allq fu T 40).2 60 0 t xs ps I J (by decide) (by decide) h

