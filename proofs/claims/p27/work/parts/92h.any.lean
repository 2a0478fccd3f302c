/-! conditions: the class's either and test against the reference's any, every, one -/
def kEi (fu : Nat) : Int → IMem → Res := fun (x28 : Int) (I27 : IMem) =>
      if x28 = 0 then (
        zr 0 I27)
      else (
        zb (f_W_addStep fu (144 + 5) ((-9)) I27) fun _ I30 =>
        zr 0 I30)
theorem sk_kEi (fu : Nat) (x : Int) (I : IMem) : par (kEi fu x I) (fun _ I' => FSt I I') := by
  unfold kEi
  exact par_ite (fun _ => par_zr (fst_r I)) (fun _ => par_zb (sk_add fu _ I) (fun _ _ g => par_zr g))
theorem sk_test (fu : Nat) (k : Nat) (a : Int) {I : IMem} (h : I 144 10 ≠ 0) : par ((gRD fu k).2 144 a I) (fun _ I' => FSt I I') := by
  cases k with
  | zero => exact par_none
  | succ k =>
    show par (fb_R_readTest fu (gRD fu k) 144 a I) _
    unfold fb_R_readTest
    rw [if_neg h]
    exact par_zr (fst_r I)
theorem sk_ei9 (fu : Nat) (R : (Nat → Int → IMem → Res) × (Nat → Int → IMem → Res)) (a : Int) : ∀ (m : Nat) (w2 w3 : Int) (I : IMem), I 144 10 ≠ 0 → par (f_R_readEither_9 fu R (kEi fu) 144 a m w2 w3 I) (fun _ I' => FSt I I') := by
  intro m
  cases m with
  | zero => intro _ _ _ _; exact par_none
  | succ m =>
    intro w2 w3 I h
    show par (fb_R_readEither_9 fu R (kEi fu) 144 a (f_R_readEither_9 fu R (kEi fu) 144 a m) w2 w3 I) _
    unfold fb_R_readEither_9
    rw [if_neg h]
    exact par_ite (fun _ => sk_kEi fu w2 I) (fun _ => sk_kEi fu w2 I)
theorem sk_either (fu : Nat) (k : Nat) (a : Int) {I : IMem} (h : I 144 10 ≠ 0) : par ((gRD fu k).1 144 a I) (fun _ I' => FSt I I') := by
  cases k with
  | zero => exact par_none
  | succ k =>
    show par (fb_R_readEither fu (gRD fu k) 144 a I) _
    unfold fb_R_readEither
    exact par_zb (sk_test fu k a h) (fun _ I1 g1 => par_mono (sk_ei9 fu _ a fu 0 0 I1 (fst_n g1 h)) (fun _ _ g => fst_t g1 g))
section
variable {fu m : Nat} {R : (Nat → Int → IMem → Res) × (Nat → Int → IMem → Res)} {a w2 w3 : Int} {I : IMem}
theorem ce_and (h : I 144 7 = 3) (h2 : 0 ≤ w3 ∧ w3 < 400) (h0 : I 144 10 = 0) : f_R_readEither_9 fu R (kEi fu) 144 a (m + 1) w2 w3 I = zb (f_R_advance fu 144 I) fun _ I10 => zb (R.2 144 a I10) fun _ I15 => zb (f_W_addStep fu 149 (-8) I15) fun _ I22 => f_R_readEither_9 fu R (kEi fu) 144 a m w2 (w3 + 1) I22 := by
  show fb_R_readEither_9 fu R (kEi fu) 144 a (f_R_readEither_9 fu R (kEi fu) 144 a m) w2 w3 I = _
  unfold fb_R_readEither_9
  simp only [zj, zl]
  rw [if_pos h2.2, if_pos h0, h, if_neg (by decide), if_pos rfl, if_pos rfl, wr32_i2 (x := w3 + 1) (by omega) (by omega)]
  by_cases hw : w2 = 0
  · simp only [if_pos hw]; rfl
  · simp only [if_neg hw]; rfl
theorem ce_or (h : I 144 7 = 2) (h2 : 0 ≤ w3 ∧ w3 < 400) (h0 : I 144 10 = 0) : f_R_readEither_9 fu R (kEi fu) 144 a (m + 1) w2 w3 I = zb (f_R_advance fu 144 I) fun _ I10 => if w2 = 0 then (zb (R.2 144 a I10) fun _ I15 => f_R_readEither_9 fu R (kEi fu) 144 a m 1 (w3 + 1) I15) else zb (f_W_addStep fu 149 (-9) I10) fun _ I25 => zb (R.2 144 a I25) fun _ I15 => f_R_readEither_9 fu R (kEi fu) 144 a m 1 (w3 + 1) I15 := by
  show fb_R_readEither_9 fu R (kEi fu) 144 a (f_R_readEither_9 fu R (kEi fu) 144 a m) w2 w3 I = _
  unfold fb_R_readEither_9
  simp only [zj, zl]
  rw [if_pos h2.2, if_pos h0, h, if_pos rfl, if_neg (by decide), wr32_i2 (x := w3 + 1) (by omega) (by omega)]
  rfl
theorem ce_end (h2' : I 144 7 ≠ 2) (h3 : I 144 7 ≠ 3) (h2 : 0 ≤ w3 ∧ w3 < 400) (h0 : I 144 10 = 0) : f_R_readEither_9 fu R (kEi fu) 144 a (m + 1) w2 w3 I = kEi fu w2 I := by
  show fb_R_readEither_9 fu R (kEi fu) 144 a (f_R_readEither_9 fu R (kEi fu) 144 a m) w2 w3 I = _
  unfold fb_R_readEither_9
  simp only [zj, zl]
  rw [if_pos h2.2, if_pos h0, if_neg h2', if_neg h3]
end
section
variable {fu m : Nat} {R : (Nat → IMem → Res) × (Nat → IMem → Res) × (Nat → IMem → Res)} {J : IMem}
theorem xe_and (h : J 0 14 = 5) : f_X_every_9 fu R 0 (m + 1) J = zb (f_X_next0 fu 0 J) fun _ I5 => zb (R.2.2 0 I5) fun y7 I8 => if y7 = 0 then zr 0 I8 else zb (f_X_lay fu 0 20 0 I8) fun _ I11 => f_X_every_9 fu R 0 m I11 := by
  show fb_X_every_9 fu R 0 (f_X_every_9 fu R 0 m) J = _
  unfold fb_X_every_9
  rw [if_pos h]
theorem xe_end (h : J 0 14 ≠ 5) : f_X_every_9 fu R 0 (m + 1) J = zr 1 J := by
  show fb_X_every_9 fu R 0 (f_X_every_9 fu R 0 m) J = _
  unfold fb_X_every_9
  rw [if_neg h]
theorem xa_or (h : J 0 14 = 4) : f_X_any_9 fu R 0 (m + 1) J = zb (f_X_next0 fu 0 J) fun _ I5 => zb (R.2.1 0 I5) fun y7 I8 => if y7 = 0 then zr 0 I8 else zb (f_X_lay fu 0 21 0 I8) fun _ I11 => f_X_any_9 fu R 0 m I11 := by
  show fb_X_any_9 fu R 0 (f_X_any_9 fu R 0 m) J = _
  unfold fb_X_any_9
  rw [if_pos h]
theorem xa_end (h : J 0 14 ≠ 4) : f_X_any_9 fu R 0 (m + 1) J = zr 1 J := by
  show fb_X_any_9 fu R 0 (f_X_any_9 fu R 0 m) J = _
  unfold fb_X_any_9
  rw [if_neg h]
end
/-- what the reference does once its every is read: w waits -/
def konA (fu k m3 : Nat) (w : Int) : Int → IMem → Res := fun y I => if y = 0 then zr 0 I else if w = 0 then f_X_any_9 fu (gXA fu (k + 1)) 0 m3 I else zb (f_X_lay fu 0 21 0 I) fun _ I16 => f_X_any_9 fu (gXA fu (k + 1)) 0 m3 I16
theorem konA_0 {Q : IMem → Int → IMem → Prop} {fu k m3 : Nat} {w1 : Int} {J : IMem} {m : Res} (h : par m (fun _ I => Q I 0 J)) : par2 m (konA fu k m3 w1 0 J) Q := by
  unfold konA
  rw [if_pos rfl]
  exact par2_l h
/-- the two tests agree, at these depths of call -/
def TCl (fu k k' : Nat) (T : TXT) : Prop := ∀ (a : Int) (t : Nat) (xs : List Int) (ps : List (Int × Int)) (I J : IMem), 0 ≤ a → a ≤ 8 → PSt T a t xs ps I J → par2 ((gRD fu k).2 144 a I) ((gXA fu k').2.2 0 J) (OUT T a t xs ps)
def LPa (T : TXT) (d : Int) (t0 t : Nat) (xs0 : List Int) (ps0 it : List (Int × Int)) (w : Int) (I J : IMem) : Prop := ∃ k : Nat, ((w = 0 ∧ k = 0) ∨ (w = 1 ∧ k = 1)) ∧ t0 < t ∧ (enc it).length + k + t0 ≤ t ∧ it.length + k + t0 ≤ t ∧ PSt T d t (xs0 ++ enc it) (ps0 ++ it) I J ∧ xs0.length ≤ t0 ∧ ps0.length ≤ t0
theorem ei9 {T : TXT} {a : Int} {t0 : Nat} {xs0 : List Int} {ps0 : List (Int × Int)} (fu k k' : Nat) (ha0 : 0 ≤ a ∧ a ≤ 8) (tc : TCl fu k k' T) : ∀ (m m2 m3 : Nat) (w2 w3 : Int) (t : Nat) (it : List (Int × Int)) (I J : IMem), LPa T a t0 t xs0 ps0 it w2 I J → 0 ≤ w3 → w3 < t → par2 (f_R_readEither_9 fu (gRD fu k) (kEi fu) 144 a m w2 w3 I) (zb (f_X_every_9 fu (gXA fu k') 0 m2 J) (konA fu k' m3 w2)) (OUT T a t0 xs0 ps0) := by
  intro m
  induction m with
  | zero => intro m2 m3 w1 w2 t it I J _ _ _; exact par2_nl
  | succ m ih =>
    intro m2 m3 w1 w2 t it I J h hw0 hw2
    cases m2 with
    | zero => intro x I' y J' e1 e2; cases e2
    | succ m2 =>
    have h0 := h
    obtain ⟨k1, hk, h1, h2, h3, hps, h5, h6⟩ := h0
    have hps0 := hps
    obtain ⟨ho, hc, hj, ht, hx, hp⟩ := hps0
    have hn := ho.1.2.1
    have hkd := okt_k ho ht
    obtain ⟨a0, a2, a3, a4, a5, a6, a7, aU, aS, aE⟩ := tm_all (s := T.s) hkd.1
    have hK := hc.2.1
    have h10 := hc.2.2.2.1
    have hJ := hj.2.2.2.2.1
    rw [← hJ] at a4 a5
    have hlx := hx
    have hlp := hp
    rw [List.length_append] at hlx hlp
    have hwb : 0 ≤ w2 ∧ w2 < 400 := by omega
    by_cases c3 : T.K t = 3
    · -- and
      have htn : t < T.n := by have := hkd.2.1; omega
      rw [ce_and (hK.trans c3) hwb h10, xe_and (a5.mpr c3), zb_assoc]
      refine par2_bl (ct_adv fu ho hc htn) (fun _ I1 c1 => par2_br (jt_next fu ho hj htn) (fun _ J1 j1 => ?_))
      rw [zb_assoc]
      have ps1 : PSt T a (t + 1) (xs0 ++ enc it) (ps0 ++ it) I1 J1 := ⟨ho, c1, j1, htn, by omega, by omega⟩
      refine par2_b (tc a _ _ _ I1 J1 ha0.1 ha0.2 ps1) (fun _ I2 y J2 _ _ ou => ?_)
      rcases ou with ⟨ey, t2, it2, g1, g2, g3, g4⟩ | ⟨ey, bd⟩
      · rw [if_neg (by omega), zb_assoc]
        obtain ⟨_, c2, j2, ht2, hx2, hp2⟩ := g4
        have l2 := hx2
        have lp2 := hp2
        rw [List.length_append, List.length_append] at l2 lp2
        refine par2_bl (ct_add fu (-8) c2 (by rw [List.length_append, List.length_append]; omega)) (fun _ I3 c3 => par2_br (jt_lay fu 20 0 j2 (by rw [List.length_append, List.length_append]; omega)) (fun _ J3 j3 => ?_))
        have en : enc (it ++ (it2 ++ [(20, 0)])) = enc it ++ (enc it2 ++ [-8]) := by rw [enc_app, enc_app, enc_one]; rfl
        refine ih m2 m3 w1 (w2 + 1) t2 (it ++ (it2 ++ [(20, 0)])) I3 J3 ⟨k1, hk, by omega, ?_, ?_, ⟨ho, ?_, ?_, ht2, ?_, ?_⟩, h5, h6⟩ (by omega) (by omega)
        · rw [en]; simp only [List.length_append, List.length_cons, List.length_nil]; omega
        · simp only [List.length_append, List.length_cons, List.length_nil]; omega
        · rw [en]; simpa only [List.append_assoc] using c3
        · simpa only [List.append_assoc] using j3
        · rw [en]; simp only [List.length_append, List.length_cons, List.length_nil]; omega
        · simp only [List.length_append, List.length_cons, List.length_nil]; omega
      · subst ey
        rw [if_pos rfl]
        refine konA_0 (par_zb (sk_add fu _ I2) (fun _ I3 f3 => par_mono (sk_ei9 fu _ a m w1 _ I3 (fst_n f3 (bd_n bd))) (fun _ I4 f4 => out_bad (bd_fst bd (fst_t f3 f4)))))
    rw [xe_end (fun x => c3 (a5.mp x))]
    show par2 _ (konA fu k' m3 w1 1 J) _
    unfold konA
    rw [if_neg (by decide)]
    by_cases c2 : T.K t = 2
    · -- or
      have htn : t < T.n := by have := hkd.2.1; omega
      rw [ce_or (hK.trans c2) hwb h10]
      have go : ∀ (it' : List (Int × Int)) (I1 J1 : IMem) (m3 : Nat), CTk T (t + 1) (xs0 ++ enc it') I1 → JTk T a t (ps0 ++ it') J1 → (enc it').length + t0 ≤ t → it'.length + t0 ≤ t → par2 (zb ((gRD fu k).2 144 a I1) fun _ I15 => f_R_readEither_9 fu (gRD fu k) (kEi fu) 144 a m 1 (w2 + 1) I15) (f_X_any_9 fu (gXA fu (k' + 1)) 0 m3 J1) (OUT T a t0 xs0 ps0) := by
        intro it' I1 J1 m3 c1 j1 l1 l2
        cases m3 with
        | zero => exact par2_nr
        | succ m3 =>
        rw [xa_or (by rw [j1.2.2.2.2.1, ← hJ]; exact a4.mpr c2)]
        refine par2_br (jt_next fu ho j1 htn) (fun _ J2 j2 => ?_)
        show par2 _ (zb (fb_X_every fu (gXA fu k') 0 J2) _) _
        unfold fb_X_every
        rw [zb_assoc]
        have ps2 : PSt T a (t + 1) (xs0 ++ enc it') (ps0 ++ it') I1 J2 := ⟨ho, c1, j2, htn, by rw [List.length_append]; omega, by rw [List.length_append]; omega⟩
        refine par2_b (tc a _ _ _ I1 J2 ha0.1 ha0.2 ps2) (fun _ I3 y J3 _ _ ou => ?_)
        rcases ou with ⟨ey, t2, it2, g1, g2, g3, g4⟩ | ⟨ey, bd⟩
        · rw [if_neg (by omega)]
          have hkon : (fun (y7 : Int) (I8 : IMem) => if y7 = 0 then zr 0 I8 else zb (f_X_lay fu 0 21 0 I8) fun _ I11 => f_X_any_9 fu (gXA fu (k' + 1)) 0 m3 I11) = konA fu k' m3 1 := by
            unfold konA
            funext y12 I13
            rw [if_neg (c := (1 : Int) = 0) (by decide)]
          rw [hkon]
          have en : enc (it' ++ it2) = enc it' ++ enc it2 := enc_app _ _
          refine ih fu m3 1 (w2 + 1) t2 (it' ++ it2) I3 J3 ⟨1, Or.inr ⟨rfl, rfl⟩, by omega, ?_, ?_, ?_, h5, h6⟩ (by omega) (by omega)
          · rw [en, List.length_append]; omega
          · rw [List.length_append]; omega
          · rw [en, ← List.append_assoc, ← List.append_assoc]; exact g4
        · subst ey
          rw [if_pos rfl]
          show par2 _ (zr 0 J3) _
          exact par2_l (par_mono (sk_ei9 fu _ a m _ _ I3 (bd_n bd)) (fun _ I4 f4 => out_bad (bd_fst bd f4)))
      refine par2_bl (ct_adv fu ho hc htn) (fun _ I1 c1 => ?_)
      by_cases hw : w1 = 0
      · rw [if_pos hw, if_pos hw]
        exact go it I1 J m3 c1 hj (by omega) (by omega)
      · rw [if_neg hw, if_neg hw]
        rcases hk with ⟨e, _⟩ | ⟨e, ek⟩
        · exact absurd e hw
        refine par2_bl (ct_add fu (-9) c1 (by rw [List.length_append]; omega)) (fun _ I2 c2 => par2_br (jt_lay fu 21 0 hj (by rw [List.length_append]; omega)) (fun _ J2 j2 => ?_))
        have en : enc (it ++ [(21, 0)]) = enc it ++ [-9] := by rw [enc_app, enc_one]; rfl
        refine go (it ++ [(21, 0)]) I2 J2 m3 ?_ ?_ ?_ ?_
        · rw [en, ← List.append_assoc]; exact c2
        · rw [← List.append_assoc]; exact j2
        · rw [en, List.length_append]; show (enc it).length + 1 + t0 ≤ t; omega
        · rw [List.length_append]; show it.length + 1 + t0 ≤ t; omega
    · -- the end
      rw [ce_end (by rw [hK]; exact c2) (by rw [hK]; exact c3) hwb h10]
      unfold kEi
      have fin : ∀ (m3 : Nat) (J1 : IMem), J1 0 14 = J 0 14 → f_X_any_9 fu (gXA fu (k' + 1)) 0 m3 J1 = none ∨ f_X_any_9 fu (gXA fu (k' + 1)) 0 m3 J1 = zr 1 J1 := by
        intro m3 J1 e
        cases m3 with
        | zero => exact Or.inl rfl
        | succ m3 => exact Or.inr (xa_end (by rw [e]; exact fun x => c2 (a4.mp x)))
      by_cases hw : w1 = 0
      · rw [if_pos hw, if_pos hw]
        rcases fin m3 J rfl with e | e
        · rw [e]; exact par2_nr
        · rw [e]
          exact par2_end (Or.inl ⟨rfl, t, it, h1, by omega, by omega, hps⟩)
      · rw [if_neg hw, if_neg hw]
        rcases hk with ⟨e, _⟩ | ⟨e, ek⟩
        · exact absurd e hw
        have en : enc (it ++ [(21, 0)]) = enc it ++ [-9] := by rw [enc_app, enc_one]; rfl
        refine par2_bl (ct_add fu (-9) hc (by rw [List.length_append]; omega)) (fun _ I2 c2' => par2_br (jt_lay fu 21 0 hj (by rw [List.length_append]; omega)) (fun _ J2 j2 => ?_))
        rcases fin m3 J2 (j2.2.2.2.2.1.trans hJ.symm) with e | e
        · rw [e]; exact par2_nr
        · rw [e]
          refine par2_end (Or.inl ⟨rfl, t, it ++ [(21, 0)], h1, ?_, ?_, ho, ?_, ?_, ht, ?_, ?_⟩)
          · rw [en, List.length_append]; show (enc it).length + 1 + t0 ≤ t; omega
          · rw [List.length_append]; show it.length + 1 + t0 ≤ t; omega
          · rw [en, ← List.append_assoc]; exact c2'
          · rw [← List.append_assoc]; exact j2
          · rw [en, List.length_append, List.length_append]; show xs0.length + ((enc it).length + 1) ≤ t; omega
          · rw [List.length_append, List.length_append]; show ps0.length + (it.length + 1) ≤ t; omega
/-- either and any -/
def ECl (fu k k' : Nat) (T : TXT) : Prop := ∀ (a : Int) (t : Nat) (xs : List Int) (ps : List (Int × Int)) (I J : IMem), 0 ≤ a → a ≤ 8 → PSt T a t xs ps I J → par2 ((gRD fu k).1 144 a I) ((gXA fu k').1 0 J) (OUT T a t xs ps)
theorem either2 (fu k : Nat) (T : TXT) (tc : ∀ k', TCl fu k k' T) : ∀ k', ECl fu (k + 1) k' T := by
  intro k' a t xs ps I J ha0 ha8 h
  cases k' with
  | zero => exact par2_nr
  | succ k' =>
  cases k' with
  | zero => intro x I' y J' e1 e2; cases e2
  | succ k' =>
  show par2 (fb_R_readEither fu (gRD fu k) 144 a I) (fb_X_any fu (gXA fu (k' + 1)) 0 J) _
  unfold fb_R_readEither fb_X_any
  show par2 _ (zb (fb_X_every fu (gXA fu k') 0 J) _) _
  unfold fb_X_every
  rw [zb_assoc]
  refine par2_b (tc k' a t xs ps I J ha0 ha8 h) (fun _ I1 y J1 _ _ ou => ?_)
  rcases ou with ⟨ey, t2, it2, g1, g2, g3, g4⟩ | ⟨ey, bd⟩
  · rw [if_neg (by omega)]
    have hkon : (fun (y1 : Int) (I2 : IMem) => if y1 = 0 then zr 0 I2 else f_X_any_9 fu (gXA fu (k' + 1)) 0 fu I2) = konA fu k' fu 0 := by
      unfold konA
      funext y1 I2
      rw [if_pos (c := (0 : Int) = 0) rfl]
    rw [hkon]
    exact ei9 fu k k' ⟨ha0, ha8⟩ (tc k') fu fu fu 0 0 t2 it2 I1 J1 ⟨0, Or.inl ⟨rfl, rfl⟩, g1, by omega, by omega, g4, h.2.2.2.2.1, h.2.2.2.2.2⟩ (by omega) (by omega)
  · subst ey
    rw [if_pos rfl]
    show par2 _ (zr 0 J1) _
    exact par2_l (par_mono (sk_ei9 fu _ a fu _ _ I1 (bd_n bd)) (fun _ I4 f4 => out_bad (bd_fst bd f4)))
/-! a test against one -/
def dueZ (x : Int) : Int := if x = 60 then x else if x = 62 then x else 61
def opZ (x : Int) : Int := if x = 60 then -5 else if x = 62 then -7 else -6
def howZ (x : Int) : Int := if x = 160 then 16 else if x = 161 then 17 else if x = 162 then 18 else -1
section
variable {fu : Nat} {R : (Nat → Int → IMem → Res) × (Nat → Int → IMem → Res)} {a : Int} {I : IMem}
theorem te_not (h : I 144 7 = 4) (ha : 0 ≤ a ∧ a < 8) (h0 : I 144 10 = 0) : fb_R_readTest fu R 144 a I = zb (f_R_advance fu 144 I) fun _ I35 => zb (R.2 144 (a + 1) I35) fun _ I38 => zb (f_W_addStep fu 149 (-10) I38) fun _ I41 => zr 0 I41 := by
  unfold fb_R_readTest
  simp only [zj]
  rw [if_pos h0, if_pos h, if_neg (by decide), if_pos ha.2, if_pos h, wr32_i2 (x := a + 1) (by omega) (by omega)]
theorem te_par (h : I 144 7 = 40) (ha : 0 ≤ a ∧ a < 8) (h0 : I 144 10 = 0) : fb_R_readTest fu R 144 a I = zb (f_R_advance fu 144 I) fun _ I26 => zb (R.1 144 (a + 1) I26) fun _ I29 => zb (f_R_expect fu 144 41 I29) fun _ I32 => zr 0 I32 := by
  unfold fb_R_readTest
  simp only [zj]
  rw [if_pos h0, if_neg (by omega), if_pos h, if_neg (by decide), if_pos ha.2, if_neg (by omega), if_neg (by decide), wr32_i2 (x := a + 1) (by omega) (by omega)]
theorem te_deep (h : I 144 7 = 4 ∨ I 144 7 = 40) (ha : ¬ a < 8) (h0 : I 144 10 = 0) : fb_R_readTest fu R 144 a I = zb (f_R_fail fu 144 3 I) fun _ I44 => zr 0 I44 := by
  unfold fb_R_readTest
  simp only [zj]
  rcases h with h | h
  · rw [if_pos h0, if_pos h, if_neg (by decide), if_neg ha]
  · rw [if_pos h0, if_neg (by omega), if_pos h, if_neg (by decide), if_neg ha]
theorem te_cmp (h4 : I 144 7 ≠ 4) (h40 : I 144 7 ≠ 40) (h0 : I 144 10 = 0) : fb_R_readTest fu R 144 a I = zb (f_R_readSum fu 144 I) fun _ I7 => zb (f_R_expect fu 144 (dueZ (I7 144 7)) I7) fun _ I14 => zb (f_R_readSum fu 144 I14) fun _ I17 => zb (f_W_addStep fu 149 (opZ (I7 144 7)) I17) fun _ I23 => zr 0 I23 := by
  unfold fb_R_readTest
  simp only [zj, zl]
  rw [if_pos h0, if_neg h4, if_neg h40, if_pos trivial, if_neg h4, if_pos trivial]
  congr 1
  funext _ I7
  unfold dueZ opZ
  by_cases c : I7 144 7 = 60
  · simp only [if_pos c]
  · by_cases c2 : I7 144 7 = 62
    · simp only [if_neg c, if_pos c2]
    · simp only [if_neg c, if_neg c2]
end
section
variable {fu : Nat} {R : (Nat → IMem → Res) × (Nat → IMem → Res) × (Nat → IMem → Res)} {J : IMem}
theorem on_not (h : J 0 14 = 6) : fb_X_one fu R 0 J = zb (f_X_opens fu 0 J) fun y29 I30 => if y29 = 0 then zr 0 I30 else zb (R.2.2 0 I30) fun y32 I33 => if y32 = 0 then zr 0 I33 else zw I33 0 20 (wr32 ((I33 0 20) - 1)) fun I35 => zb (f_X_lay fu 0 19 0 I35) fun _ I37 => zr 1 I37 := by
  unfold fb_X_one
  rw [if_pos h]
theorem on_par (h : J 0 14 = 140) : fb_X_one fu R 0 J = zb (f_X_opens fu 0 J) fun y19 I20 => if y19 = 0 then zr 0 I20 else zb (R.1 0 I20) fun y22 I23 => if y22 = 0 then zr 0 I23 else zb (f_X_need fu 0 141 I23) fun y25 I26 => if y25 = 0 then zr 0 I26 else zw I26 0 20 (wr32 ((I26 0 20) - 1)) fun I28 => zr 1 I28 := by
  unfold fb_X_one
  rw [if_neg (by omega), if_pos h]
theorem on_cmp (h6 : J 0 14 ≠ 6) (h140 : J 0 14 ≠ 140) : fb_X_one fu R 0 J = zb (f_X_sumUp fu 0 J) fun y1 I2 => if y1 = 0 then zr 0 I2 else if howZ (I2 0 14) = -1 then (zb (f_X_bad fu 0 1 I2) fun y16 I17 => zg (y16 = 0 ∨ y16 = 1) (zr y16 I17)) else zb (f_X_next0 fu 0 I2) fun _ I8 => zb (f_X_sumUp fu 0 I8) fun y10 I11 => if y10 = 0 then zr 0 I11 else zb (f_X_lay fu 0 (howZ (I2 0 14)) 0 I11) fun _ I14 => zr 1 I14 := by
  unfold fb_X_one
  simp only [zj]
  rw [if_neg h6, if_neg h140]
  congr 1
  funext y1 I2
  unfold howZ
  by_cases c : I2 0 14 = 160
  · simp only [if_pos c]
  · by_cases c2 : I2 0 14 = 161
    · simp only [if_neg c, if_pos c2]
    · by_cases c3 : I2 0 14 = 162
      · simp only [if_neg c, if_neg c2, if_pos c3]
      · simp only [if_neg c, if_neg c2, if_neg c3]
end
theorem jt_d {T : TXT} {d : Int} {t : Nat} {ps : List (Int × Int)} {J : IMem} (d' : Int) (h : JTk T d t ps J) : JTk T d' t ps (up J 0 20 d') := by
  obtain ⟨hT, h9, h15, h13, h14, h16, h20, h11, hp⟩ := h
  refine ⟨⟨(up_j (by omega) _).trans hT.1, hT.2.1, fun j hj => (up_o (by omega) _).trans (hT.2.2.1 j hj), hT.2.2.2⟩, (up_j (by omega) _).trans h9, (up_j (by omega) _).trans h15, (up_j (by omega) _).trans h13, (up_j (by omega) _).trans h14, fun x => (up_j (by omega) _).trans (h16 x), if_pos ⟨rfl, rfl⟩, (up_j (by omega) _).trans h11, fun i hi => ⟨(up_o (by omega) _).trans (hp.1 i hi).1, (up_o (by omega) _).trans (hp.1 i hi).2⟩, (up_j (by omega) _).trans hp.2⟩
theorem jt_open {T : TXT} {a : Int} {t : Nat} {ps : List (Int × Int)} {J : IMem} (fu : Nat) (ho : OKT T) (h : JTk T a t ps J) (ha : 0 ≤ a ∧ a < 8) (ht : t < T.n) : par (f_X_opens fu 0 J) (fun y J' => y = 1 ∧ JTk T (a + 1) (t + 1) ps J') := by
  unfold f_X_opens
  have h20 := h.2.2.2.2.2.2.1
  rw [h20, if_neg (by omega), wr32_i2 (by omega) (by omega)]
  exact par_zw (par_zb (jt_next fu ho (jt_d (a + 1) h) ht) (fun _ J1 j1 => par_zr ⟨rfl, j1⟩))
theorem jt_need {T : TXT} {a : Int} {t : Nat} {ps : List (Int × Int)} {J : IMem} (fu : Nat) (ho : OKT T) (h : JTk T a t ps J) (ht : t ≤ T.n) (due : Int) (kd : Int) (hd : tm T.s (T.K t) = due ↔ T.K t = kd) (h17 : kd ≠ 17) : par (f_X_need fu 0 due J) (fun y J' => (T.K t = kd ∧ y = 1 ∧ JTk T a (t + 1) ps J') ∨ (T.K t ≠ kd ∧ y = 0 ∧ JF J' 1 (T.P t))) := by
  unfold f_X_need
  rw [h.2.2.2.2.1]
  refine par_ite (fun c => ?_) (fun c => ?_)
  · have hk := hd.mp c
    have htn : t < T.n := by have := (okt_k ho ht).2.1; omega
    exact par_zb (jt_next fu ho h htn) (fun _ J1 j1 => par_zr (Or.inl ⟨hk, rfl, j1⟩))
  · exact par_zb (jt_bad fu 1 h) (fun y J1 g => par_zg (fun _ => par_zr (Or.inr ⟨fun x => c (hd.mpr x), g.1, g.2⟩)))
theorem test2 (fu k : Nat) (T : TXT) (tc : ∀ k', TCl fu k k' T) (ec : ∀ k', ECl fu k k' T) : ∀ k', TCl fu (k + 1) k' T := by
  intro k' a t xs ps I J ha0 ha8 h
  cases k' with
  | zero => exact par2_nr
  | succ k' =>
  show par2 (fb_R_readTest fu (gRD fu k) 144 a I) (fb_X_one fu (gXA fu k') 0 J) _
  have h' := h
  obtain ⟨ho, hc, hj, ht, hx, hp⟩ := h'
  have hn := ho.1.2.1
  have hkd := okt_k ho ht
  obtain ⟨a0, a2, a3, a4, a5, a6, a7, aU, aS, aE⟩ := tm_all (s := T.s) hkd.1
  have hK := hc.2.1
  have h10 := hc.2.2.2.1
  have hJ := hj.2.2.2.2.1
  have e140 := aS 140 (by omega)
  rw [← hJ] at a6 e140
  by_cases c4 : T.K t = 4 ∨ T.K t = 40
  · by_cases h8 : a < 8
    · have htn : t < T.n := by have := hkd.2.1; omega
      rcases c4 with c4 | c40
      · rw [te_not (hK.trans c4) ⟨ha0, h8⟩ h10, on_not (a6.mpr c4)]
        refine par2_bl (ct_adv fu ho hc htn) (fun _ I1 c1 => par2_br (jt_open fu ho hj ⟨ha0, h8⟩ htn) (fun y1 J1 j1 => ?_))
        rw [if_neg (by omega)]
        have ps1 : PSt T (a + 1) (t + 1) xs ps I1 J1 := ⟨ho, c1, j1.2, htn, by omega, by omega⟩
        refine par2_b (tc k' (a + 1) _ _ _ I1 J1 (by omega) (by omega) ps1) (fun _ I2 y J2 _ _ ou => ?_)
        rcases ou with ⟨ey, t2, it2, g1, g2, g3, g4⟩ | ⟨ey, bd⟩
        · rw [if_neg (by omega)]
          obtain ⟨_, c2, j2, ht2, hx2, hp2⟩ := g4
          have l2 := hx2
          have lp2 := hp2
          rw [List.length_append] at l2 lp2
          rw [j2.2.2.2.2.2.2.1, wr32_i2 (x := a + 1 - 1) (by omega) (by omega), show a + 1 - 1 = a by omega]
          refine par2_zwr ?_
          refine par2_bl (ct_add fu (-10) c2 (by rw [List.length_append]; omega)) (fun _ I3 c3 => par2_br (jt_lay fu 19 0 (jt_d a j2) (by rw [List.length_append]; omega)) (fun _ J3 j3 => ?_))
          have en : enc (it2 ++ [(19, 0)]) = enc it2 ++ [-10] := by rw [enc_app, enc_one]; rfl
          refine par2_end (Or.inl ⟨rfl, t2, it2 ++ [(19, 0)], by omega, ?_, ?_, ho, ?_, ?_, ht2, ?_, ?_⟩)
          · rw [en]; simp only [List.length_append, List.length_cons, List.length_nil]; omega
          · simp only [List.length_append, List.length_cons, List.length_nil]; omega
          · rw [en]; simpa only [List.append_assoc] using c3
          · simpa only [List.append_assoc] using j3
          · rw [en]; simp only [List.length_append, List.length_cons, List.length_nil]; omega
          · simp only [List.length_append, List.length_cons, List.length_nil]; omega
        · subst ey
          rw [if_pos rfl]
          exact par2_l (par_zb (sk_add fu _ I2) (fun _ I3 f3 => par_zr (out_bad (bd_fst bd f3))))
      · rw [te_par (hK.trans c40) ⟨ha0, h8⟩ h10, on_par (e140.mpr (by omega))]
        refine par2_bl (ct_adv fu ho hc htn) (fun _ I1 c1 => par2_br (jt_open fu ho hj ⟨ha0, h8⟩ htn) (fun y1 J1 j1 => ?_))
        rw [if_neg (by omega)]
        have ps1 : PSt T (a + 1) (t + 1) xs ps I1 J1 := ⟨ho, c1, j1.2, htn, by omega, by omega⟩
        refine par2_b (ec k' (a + 1) _ _ _ I1 J1 (by omega) (by omega) ps1) (fun _ I2 y J2 _ _ ou => ?_)
        rcases ou with ⟨ey, t2, it2, g1, g2, g3, g4⟩ | ⟨ey, bd⟩
        · rw [if_neg (by omega)]
          obtain ⟨_, c2, j2, ht2, hx2, hp2⟩ := g4
          have l2 := hx2
          have lp2 := hp2
          rw [List.length_append] at l2 lp2
          have e141 := (tm_all (s := T.s) (okt_k ho ht2).1).2.2.2.2.2.2.2.2.1 141 (by omega)
          refine par2_bl (ct_exp fu 41 ho c2 ht2 (by decide)) (fun _ I3 c3 => par2_br (jt_need fu ho j2 ht2 141 41 e141 (by decide)) (fun y3 J3 j3 => ?_))
          rcases c3 with ⟨q1, q2, q3⟩ | ⟨q1, q2⟩
          · rcases j3 with ⟨r1, r2, r3⟩ | ⟨r1, r2, r3⟩
            · rw [if_neg (by omega), r3.2.2.2.2.2.2.1, wr32_i2 (x := a + 1 - 1) (by omega) (by omega), show a + 1 - 1 = a by omega]
              refine par2_zwr (par2_end (Or.inl ⟨rfl, t2 + 1, it2, by omega, by omega, by omega, ho, q2, jt_d a r3, q3, by rw [List.length_append]; omega, by rw [List.length_append]; omega⟩))
            · exact absurd q1 r1
          · rcases j3 with ⟨r1, r2, r3⟩ | ⟨r1, r2, r3⟩
            · exact absurd r1 q1
            · rw [if_pos r2]
              exact par2_end (out_bad ⟨1, _, by decide, q2, r3⟩)
        · subst ey
          rw [if_pos rfl]
          exact par2_l (par_zb (sk_exp fu _ (bd_n bd)) (fun _ I3 f3 => par_zr (out_bad (bd_fst bd f3))))
    · have e8 : a = 8 := by omega
      rw [te_deep (by rw [hK]; exact c4) h8 h10]
      have op : par (f_X_opens fu 0 J) (fun y J' => y = 0 ∧ JF J' 3 (T.P t)) := by
        unfold f_X_opens
        rw [hj.2.2.2.2.2.2.1, if_pos e8]
        exact par_zb (jt_bad fu 3 hj) (fun y J1 g => par_zg (fun _ => par_zr g))
      have fin : ∀ J1, JF J1 3 (T.P t) → par2 (zb (f_R_fail fu 144 3 I) fun _ I44 => zr 0 I44) (zr 0 J1) (OUT T a t xs ps) := fun J1 j1 => par2_l (par_zb (ct_fail fu 3 ho hc ht) (fun _ I1 c1 => par_zr (out_bad ⟨3, _, by decide, c1, j1⟩)))
      rcases c4 with c4 | c40
      · rw [on_not (a6.mpr c4)]
        refine par2_br op (fun y1 J1 j1 => ?_)
        rw [if_pos j1.1]
        exact fin J1 j1.2
      · rw [on_par (e140.mpr (by omega))]
        refine par2_br op (fun y1 J1 j1 => ?_)
        rw [if_pos j1.1]
        exact fin J1 j1.2
  · rw [te_cmp (by rw [hK]; exact fun x => c4 (Or.inl x)) (by rw [hK]; exact fun x => c4 (Or.inr x)) h10, on_cmp (fun x => c4 (Or.inl (a6.mp x))) (fun x => c4 (Or.inr (by have := e140.mp x; omega)))]
    refine par2_b (sum2 fu h) (fun _ I2 y J2 _ _ ou => ?_)
    rcases ou with ⟨ey, t2, it2, g1, g2, g3, g4⟩ | ⟨ey, bd⟩
    · rw [if_neg (by omega)]
      have g4' := g4
      obtain ⟨_, c2, j2, ht2, hx2, hp2⟩ := g4'
      have l2 := hx2
      have lp2 := hp2
      rw [List.length_append] at l2 lp2
      have aS2 := (tm_all (s := T.s) (okt_k ho ht2).1).2.2.2.2.2.2.2.2.1
      have e160 := aS2 160 (by omega)
      have e161 := aS2 161 (by omega)
      have e162 := aS2 162 (by omega)
      rw [j2.2.2.2.2.1, c2.2.1]
      have hdue : dueZ (T.K t2) ≠ 17 := by unfold dueZ; split <;> (try split) <;> omega
      refine par2_bl (ct_exp fu _ ho c2 ht2 hdue) (fun _ I3 c3 => ?_)
      by_cases cc : T.K t2 = 60 ∨ T.K t2 = 61 ∨ T.K t2 = 62
      · have hh : howZ (tm T.s (T.K t2)) ≠ -1 ∧ dueZ (T.K t2) = T.K t2 ∧ enI (howZ (tm T.s (T.K t2)), 0) = [opZ (T.K t2)] := by
          rcases cc with q | q | q
          · have := e160.mpr (by omega); rw [this, q]; exact ⟨by decide, rfl, rfl⟩
          · have := e161.mpr (by omega); rw [this, q]; exact ⟨by decide, rfl, rfl⟩
          · have := e162.mpr (by omega); rw [this, q]; exact ⟨by decide, rfl, rfl⟩
        rw [if_neg hh.1]
        rcases c3 with ⟨q1, q2, q3⟩ | ⟨q1, q2⟩
        · refine par2_br (jt_next fu ho j2 q3) (fun _ J3 j3 => ?_)
          have ps3 : PSt T a (t2 + 1) (xs ++ enc it2) (ps ++ it2) I3 J3 := ⟨ho, q2, j3, q3, by rw [List.length_append]; omega, by rw [List.length_append]; omega⟩
          refine par2_b (sum2 fu ps3) (fun _ I4 y4 J4 _ _ ou => ?_)
          rcases ou with ⟨ey4, t4, it4, k1, k2, k3, k4⟩ | ⟨ey4, bd⟩
          · rw [if_neg (by omega)]
            obtain ⟨_, c4', j4, ht4, hx4, hp4⟩ := k4
            have l4 := hx4
            have lp4 := hp4
            rw [List.length_append, List.length_append] at l4 lp4
            refine par2_bl (ct_add fu _ c4' (by rw [List.length_append, List.length_append]; omega)) (fun _ I5 c5 => par2_br (jt_lay fu _ 0 j4 (by rw [List.length_append, List.length_append]; omega)) (fun _ J5 j5 => ?_))
            have en : enc (it2 ++ (it4 ++ [(howZ (tm T.s (T.K t2)), 0)])) = enc it2 ++ (enc it4 ++ [opZ (T.K t2)]) := by rw [enc_app, enc_app, enc_one, hh.2.2]
            refine par2_end (Or.inl ⟨rfl, t4, it2 ++ (it4 ++ [(howZ (tm T.s (T.K t2)), 0)]), by omega, ?_, ?_, ho, ?_, ?_, ht4, ?_, ?_⟩)
            · rw [en]; simp only [List.length_append, List.length_cons, List.length_nil]; omega
            · simp only [List.length_append, List.length_cons, List.length_nil]; omega
            · rw [en]; simpa only [List.append_assoc] using c5
            · simpa only [List.append_assoc] using j5
            · rw [en]; simp only [List.length_append, List.length_cons, List.length_nil]; omega
            · simp only [List.length_append, List.length_cons, List.length_nil]; omega
          · subst ey4
            rw [if_pos rfl]
            exact par2_l (par_zb (sk_add fu _ I4) (fun _ I5 f5 => par_zr (out_bad (bd_fst bd f5))))
        · exact absurd hh.2.1.symm q1
      · have hh : howZ (tm T.s (T.K t2)) = -1 ∧ dueZ (T.K t2) = 61 := by
          unfold howZ dueZ
          rw [if_neg (fun x => cc (by have := e160.mp x; omega)), if_neg (fun x => cc (by have := e161.mp x; omega)), if_neg (fun x => cc (by have := e162.mp x; omega)), if_neg (fun x => cc (by omega)), if_neg (fun x => cc (by omega))]
          exact ⟨rfl, rfl⟩
        rw [if_pos hh.1]
        rcases c3 with ⟨q1, q2, q3⟩ | ⟨q1, q2⟩
        · exact absurd (q1.trans hh.2) (fun x => cc (by omega))
        · refine par2_br (jt_bad fu 1 j2) (fun y3 J3 j3 => par2_gr (fun _ => ?_))
          rw [j3.1]
          have hf : I3 144 10 ≠ 0 := by rw [q2.1]; decide
          refine par2_l (par_zb (sk_sum fu hf) (fun _ I4 f4 => par_zb (sk_add fu _ I4) (fun _ I5 f5 => par_zr (out_bad (bd_fst (I := I3) ⟨1, _, by decide, q2, j3.2⟩ (fst_t f4 f5))))))
    · subst ey
      rw [if_pos rfl]
      refine par2_l (par_zb (sk_exp fu _ (bd_n bd)) (fun _ I3 f3 => par_zb (sk_sum fu (fst_n f3 (bd_n bd))) (fun _ I4 f4 => par_zb (sk_add fu _ I4) (fun _ I5 f5 => par_zr (out_bad (bd_fst bd (fst_t (fst_t f3 f4) f5)))))))
theorem tests_all (fu : Nat) (T : TXT) : ∀ k, (∀ k', TCl fu k k' T) ∧ (∀ k', ECl fu k k' T) := by
  intro k
  induction k with
  | zero => exact ⟨fun k' a t xs ps I J _ _ _ => par2_nl, fun k' a t xs ps I J _ _ _ => par2_nl⟩
  | succ k ih => exact ⟨test2 fu k T ih.1 ih.2, either2 fu k T ih.1⟩
theorem any2 {T : TXT} {t : Nat} {xs : List Int} {ps : List (Int × Int)} {I J : IMem} (fu : Nat) (h : PSt T 0 t xs ps I J) : par2 (f_R_readEither fu 144 0 I) (f_X_any fu 0 J) (OUT T 0 t xs ps) := (tests_all fu T 40).2 60 0 t xs ps I J (by decide) (by decide) h
