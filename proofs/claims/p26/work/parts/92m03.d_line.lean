/-! a line of a TEXT, typed -/
def OULq (T : TXT) (t : Nat) (l : List LRec) (I : IMem) (y : Int) (J : IMem) : Prop := (y = 1 ∧ ∃ (t' : Nat) (r : LRec), t < t' ∧ PSt T 0 t' (XS T.s (l ++ [r])) (PX (l ++ [r])) I J ∧ LA T.s (l ++ [r]) I J ∧ I 149 4 = (l.length + 1 : Nat) ∧ J 0 10 = l.length ∧ l.length < 16 ∧ GRL T.s r) ∨ (y = 0 ∧ BDt I J)
theorem k14_2q {T : TXT} {t0 t : Nat} {l : List LRec} {E B : List (Int × Int)} {v : Int} {I J : IMem} (fu : Nat) (h0 : t0 ≤ t) (gE : T.s ≠ 4 → ∃ b, TYP 24 T.s E b) (gv : T.s = 4 → 0 ≤ v ∧ v ≤ 5) (gB : B = [] ∨ TYP 24 T.s B true) (hl : LHt T.s l E v True I J) (h : PSt T 0 t (XS T.s l ++ (ex T.s ⟨E, B, v⟩ ++ enc B)) (PX l ++ (E ++ B)) I J) : par2 (cK14 fu I) (xK16 fu J) (OULq T t0 l) := by
  obtain ⟨ho, hc, hj, ht, hx, hp⟩ := h
  obtain ⟨l1, l2, l3, l4, l5, l6, l7⟩ := hl
  obtain ⟨l8, l9⟩ := l7 trivial
  unfold cK14 xK16
  rw [l3, wr32_i2 (x := 4 * (l.length : Int)) (by omega) (by omega), wr32_i2 (x := 4 * (l.length : Int) + 3) (by omega) (by omega)]
  refine par2_zlr (par2_gr (fun _ => par2_zwr ?_))
  rw [show (4 * (l.length : Int) + 3).toNat = 4 * l.length + 3 by omega]
  have j1 : JTk T 0 t (PX l ++ (E ++ B)) (up J (0 + 4) (4 * l.length + 3) (J 0 11)) := jt_up4 hj
  have e3 : up J (0 + 4) (4 * l.length + 3) (J 0 11) 4 (4 * l.length + 3) = J 0 11 := if_pos ⟨rfl, rfl⟩
  have e4 : ∀ j, j ≠ 4 * l.length + 3 → up J (0 + 4) (4 * l.length + 3) (J 0 11) 4 j = J 4 j := fun j hj => up_j hj _
  have e5 : up J (0 + 4) (4 * l.length + 3) (J 0 11) 0 10 = J 0 10 := up_o (by omega) _
  generalize up J (0 + 4) (4 * l.length + 3) (J 0 11) = J1 at j1 e3 e4 e5
  have e159 := (tm_all (s := T.s) (okt_k ho ht).1).2.2.2.2.2.2.2.2.1 159 (by omega)
  refine par2_bl (par_and (ct_exp fu 59 ho hc ht (by decide)) (le_exp fu 59 I)) (fun _ I2 ⟨c2, lc2⟩ => par2_br (par_and (jt_need fu ho j1 ht 159 59 e159 (by decide)) (lx_need fu 159 J1)) (fun y2 J2 ⟨j2, lx2⟩ => ?_))
  refine par2_gr (fun _ => ?_)
  rcases c2 with ⟨q1, q2, q3⟩ | ⟨q1, q2⟩
  · rcases j2 with ⟨r1, r2, r3⟩ | ⟨r1, r2, r3⟩
    · rw [r2]
      refine par2_l ?_
      have b4 : I2 149 4 = l.length := lc2.2.2.trans l2
      have b1 := q2.2.2.2.2.2.2.2.1
      unfold f_W_closeLine
      refine par_zb (Q1 := fun _ I3 => CTk T (t + 1) (XS T.s l ++ (ex T.s ⟨E, B, v⟩ ++ enc B)) I3 ∧ I3 149 4 = (l.length + 1 : Nat) ∧ I3 151 (l.length + 1) = I2 149 1 ∧ (∀ j, j ≠ l.length + 1 → I3 151 j = I2 151 j) ∧ ∀ j, I3 152 j = I2 152 j) ?_ (fun _ I3 ⟨d1, d2, d3, d4, d5⟩ => par_zr ?_)
      · show par (if I2 149 4 < 0 then _ else _) _
        rw [b4, if_neg (by omega), if_pos (by omega), wr32_i2 (by omega) (by omega)]
        refine par_zw (par_zl (par_zg (fun _ => par_zw (par_zr ?_))))
        have a4 : up I2 149 4 ((l.length : Int) + 1) 149 4 = (l.length : Int) + 1 := if_pos ⟨rfl, rfl⟩
        show CTk T (t + 1) _ (up (up I2 149 4 ((l.length : Int) + 1)) (149 + 2) (up I2 149 4 ((l.length : Int) + 1) 149 4).toNat (up I2 149 4 ((l.length : Int) + 1) 149 1)) ∧ _
        rw [a4, show ((l.length : Int) + 1).toNat = l.length + 1 by omega]
        refine ⟨ct_up (ct_up q2 (by omega) (fun _ => by omega)) (by omega) (fun x => by omega), (up_o (by omega) _).trans a4, (if_pos ⟨rfl, rfl⟩).trans (up_j (by omega) _), fun j hj => (up_j hj _).trans (up_o (by omega) _), fun j => (up_o (by omega) _).trans (up_o (by omega) _)⟩
      · refine Or.inl ⟨rfl, t + 1, ⟨E, B, v⟩, by omega, ⟨ho, ?_, ?_, q3, ?_, ?_⟩, ?_, d2, lx2.2.trans (e5.trans l3), l4, ⟨gE, gB, gv⟩⟩
        · rw [xs_app]; exact d1
        · rw [px_app]; exact r3
        · rw [xs_app]; exact Nat.le_succ_of_le hx
        · rw [px_app]; exact Nat.le_succ_of_le hp
        · intro i r hr
          by_cases hi : i < l.length
          · rw [List.getElem?_append_left hi] at hr
            obtain ⟨k1, k2, k3, k4, k5, k6⟩ := l1 i r hr
            have t1 : (l ++ [(⟨E, B, v⟩ : LRec)]).take (i + 1) = l.take (i + 1) := List.take_append_of_le_length (by omega)
            have t2 : (l ++ [(⟨E, B, v⟩ : LRec)]).take i = l.take i := List.take_append_of_le_length (by omega)
            rw [t1, t2]
            exact ⟨(d4 _ (by omega)).trans ((lc2.1 _).trans k1), (d5 _).trans ((lc2.2.1 _).trans k2), (lx2.1 _).trans ((e4 _ (by omega)).trans k3), (lx2.1 _).trans ((e4 _ (by omega)).trans k4), (lx2.1 _).trans ((e4 _ (by omega)).trans k5), fun x => ⟨(k6 x).1, (lx2.1 _).trans ((e4 _ (by omega)).trans (k6 x).2)⟩⟩
          · have hlt := lt_of_get hr
            rw [List.length_append] at hlt
            have hi' : i = l.length := by simp only [List.length_cons, List.length_nil] at hlt; omega
            subst hi'
            rw [List.getElem?_append_right (Nat.le_refl _), Nat.sub_self] at hr
            cases hr
            have t1 : (l ++ [(⟨E, B, v⟩ : LRec)]).take (l.length + 1) = l ++ [⟨E, B, v⟩] := List.take_of_length_le (by rw [List.length_append]; exact Nat.le_refl _)
            have t2 : (l ++ [(⟨E, B, v⟩ : LRec)]).take l.length = l := by rw [List.take_append_of_le_length (Nat.le_refl _), List.take_length]
            rw [t1, t2, xs_app, px_app]
            refine ⟨d3.trans b1, (d5 _).trans ((lc2.2.1 _).trans l8), (lx2.1 _).trans ((e4 _ (by omega)).trans l5), (lx2.1 _).trans ((e4 _ (by omega)).trans l9), (lx2.1 _).trans (e3.trans hj.2.2.2.2.2.2.2.1), fun x => ⟨(l6 x).1, (lx2.1 _).trans ((e4 _ (by omega)).trans (l6 x).2)⟩⟩
    · exact absurd q1 r1
  · rcases j2 with ⟨r1, r2, r3⟩ | ⟨r1, r2, r3⟩
    · exact absurd r1 q1
    · rw [r2]
      have bd : BDt I2 J2 := ⟨1, _, by decide, q2, r3⟩
      exact par2_l (par_zb (sk_close fu I2) (fun _ I3 f3 => par_zr (Or.inr ⟨rfl, bd_fst bd f3⟩)))
theorem k22_2q {T : TXT} {t0 t : Nat} {l : List LRec} {E : List (Int × Int)} {v : Int} {I J : IMem} (fu : Nat) (h0 : t0 ≤ t) (gE : T.s ≠ 4 → ∃ b, TYP 24 T.s E b) (gv : T.s = 4 → 0 ≤ v ∧ v ≤ 5) (hl : LHt T.s l E v True I J) (h : PSt T 0 t (XS T.s l ++ ex T.s ⟨E, [], v⟩) (PX l ++ E) I J) : par2 (cK22 fu I) (xK23 fu J) (OULq T t0 l) := by
  obtain ⟨ho, hc, hj, ht, hx, hp⟩ := h
  unfold cK22 xK23
  have e3 := (tm_all (s := T.s) (okt_k ho ht).1).2.2.1
  refine par2_bl (par_and (ct_exp fu 1 ho hc ht (by decide)) (le_exp fu 1 I)) (fun _ I2 ⟨c2, lc2⟩ => par2_br (par_and (jt_need fu ho hj ht 3 1 e3 (by decide)) (lx_need fu 3 J)) (fun y2 J2 ⟨j2, lx2⟩ => ?_))
  rcases c2 with ⟨q1, q2, q3⟩ | ⟨q1, q2⟩
  · rcases j2 with ⟨r1, r2, r3⟩ | ⟨r1, r2, r3⟩
    · rw [if_neg (by omega)]
      refine par2_b (any2q fu ⟨ho, q2, r3, q3, by omega, by omega⟩) (fun x3 I3 y3 J3 e1 e2 ou => ?_)
      rcases ou with ⟨ey, t3, it, g1, g2, g3, g4, g5⟩ | ⟨ey, bd⟩
      · rw [if_neg (by omega)]
        refine k14_2q (t := t3) (B := it) (E := E) (v := v) fu (by omega) gE gv (Or.inr (typ_mono g5 (by show 5 + 2 * 8 + 2 ≤ 24; decide))) (lh_fr hl (lec_t lc2 (le_ei e1)) (lex_t lx2 (lx_any e2))) ?_
        rw [← List.append_assoc, ← List.append_assoc]
        exact g4
      · rw [if_pos ey]
        exact par2_l (par_mono (sk_K14 fu (bd_n bd)) (fun _ I4 f4 => Or.inr ⟨rfl, bd_fst bd f4⟩))
    · exact absurd q1 r1
  · rcases j2 with ⟨r1, r2, r3⟩ | ⟨r1, r2, r3⟩
    · exact absurd r1 q1
    · rw [if_pos r2]
      have bd : BDt I2 J2 := ⟨1, _, by decide, q2, r3⟩
      exact par2_l (par_zb (sk_either fu 40 0 (bd_n bd)) (fun _ I3 f3 => par_mono (sk_K14 fu (fst_n f3 (bd_n bd))) (fun _ I4 f4 => Or.inr ⟨rfl, bd_fst bd (fst_t f3 f4)⟩)))

theorem k9_2q {T : TXT} {t0 t : Nat} {l : List LRec} {E : List (Int × Int)} {v : Int} {I J : IMem} (fu : Nat) (x3 : Int) (hx3 : (T.s = 4 ∧ x3 = 1) ∨ (T.s ≠ 4 ∧ x3 = 0)) (h0 : t0 ≤ t) (gE : T.s ≠ 4 → ∃ b, TYP 24 T.s E b) (gv : T.s = 4 → 0 ≤ v ∧ v ≤ 5) (hl : LHt T.s l E v False I J) (h : PSt T 0 t (XS T.s l ++ ex T.s ⟨E, [], v⟩) (PX l ++ E) I J) : par2 (cK9 fu I) (xK12 fu x3 J) (OULq T t0 l) := by
  obtain ⟨ho, hc, hj, ht, hx, hp⟩ := h
  obtain ⟨l1, l2, l3, l4, l5, l6, l7⟩ := hl
  unfold cK9 xK12
  rw [l3, wr32_i2 (x := 4 * (l.length : Int)) (by omega) (by omega), wr32_i2 (x := 4 * (l.length : Int) + 2) (by omega) (by omega)]
  refine par2_zlr (par2_gr (fun _ => par2_zwr ?_))
  rw [show (4 * (l.length : Int) + 2).toNat = 4 * l.length + 2 by omega]
  have j1 : JTk T 0 t (PX l ++ E) (up J (0 + 4) (4 * l.length + 2) (J 0 11)) := jt_up4 hj
  have e3 : up J (0 + 4) (4 * l.length + 2) (J 0 11) 4 (4 * l.length + 2) = ((PX l).length + E.length : Nat) := by
    refine (if_pos ⟨rfl, rfl⟩).trans (hj.2.2.2.2.2.2.2.1.trans ?_)
    rw [List.length_append]
  have e4 : ∀ j, j ≠ 4 * l.length + 2 → up J (0 + 4) (4 * l.length + 2) (J 0 11) 4 j = J 4 j := fun j hj => up_j hj _
  have e5 : up J (0 + 4) (4 * l.length + 2) (J 0 11) 0 10 = J 0 10 := up_o (by omega) _
  generalize up J (0 + 4) (4 * l.length + 2) (J 0 11) = J1 at j1 e3 e4 e5
  refine par2_bl (P := fun _ I1 => CTk T t (XS T.s l ++ ex T.s ⟨E, [], v⟩) I1 ∧ I1 152 l.length = ((XS T.s l).length + (ex T.s ⟨E, [], v⟩).length : Nat) ∧ (∀ j, j ≠ l.length → I1 152 j = I 152 j) ∧ (∀ j, I1 151 j = I 151 j) ∧ I1 149 4 = I 149 4) ?_ (fun _ I1 ⟨d1, d2, d3, d4, d5⟩ => ?_)
  · show par (f_W_startWhen fu 149 I) _
    unfold f_W_startWhen
    rw [l2, if_neg (by omega), if_pos (by omega)]
    refine par_zl (par_zg (fun _ => par_zw (par_zr ?_)))
    rw [show (l.length : Int).toNat = l.length from rfl]
    refine ⟨ct_up hc (by omega) (fun x => by omega), ?_, fun j hj => up_j hj _, fun j => up_o (by omega) _, (up_o (by omega) _).trans l2⟩
    refine (if_pos ⟨rfl, rfl⟩).trans (hc.2.2.2.2.2.2.2.1.trans ?_)
    rw [List.length_append]
  · have hl1 : LHt T.s l E v True I1 J1 := ⟨la_fr l1 ⟨fun j _ => d4 j, fun j hj => d3 j (by omega)⟩ (fun j hj => e4 j (by omega)), d5.trans l2, e5.trans l3, l4, (e4 _ (by omega)).trans l5, fun x => ⟨(l6 x).1, (e4 _ (by omega)).trans (l6 x).2⟩, fun _ => ⟨d2, e3⟩⟩
    have ps1 : PSt T 0 t (XS T.s l ++ ex T.s ⟨E, [], v⟩) (PX l ++ E) I1 J1 := ⟨ho, d1, j1, ht, hx, hp⟩
    have e31 := (tm_all (s := T.s) (okt_k ho ht).1).2.2.1
    have h9 := d1.2.2.2.2.1
    have h7 := d1.2.1
    have h14 := j1.2.2.2.2.1
    rcases hx3 with ⟨hs, rfl⟩ | ⟨hs, rfl⟩
    · rw [if_pos hs] at h9
      rw [if_neg (by omega), if_neg (by decide)]
      exact k22_2q fu h0 gE gv hl1 ps1
    · rw [if_neg hs] at h9
      rw [if_pos h9, if_pos rfl, h7, h14]
      by_cases k1 : T.K t = 1
      · rw [if_pos k1, if_pos (e31.mpr k1)]
        exact k22_2q fu h0 gE gv hl1 ps1
      · rw [if_neg k1, if_neg (fun x => k1 (e31.mp x))]
        refine k14_2q (t := t) (B := []) (E := E) (v := v) fu h0 gE gv (Or.inl rfl) hl1 ?_
        rw [enc_nil, List.append_nil, List.append_nil]
        exact ps1
def OUGq (T : TXT) (d : Int) (t : Nat) (xs : List Int) (ps : List (Int × Int)) (I0 J0 I : IMem) (y : Int) (J : IMem) : Prop := (y = 1 ∧ CTk T (t + 1) (xs ++ [T.V t]) I ∧ T.K t = 16 ∧ JTk T d (t + 1) ps J ∧ t + 1 ≤ T.n ∧ LEc I0 I ∧ LEx J0 J ∧ (0 ≤ T.V t ∧ T.V t ≤ 5)) ∨ (y = 0 ∧ BDt I J)
theorem targ2q {T : TXT} {d : Int} {t : Nat} {xs : List Int} {ps : List (Int × Int)} {I J : IMem} (fu : Nat) (h : PSt T d t xs ps I J) : par2 (f_R_readTarget fu 144 I) (f_X_number fu 0 0 5 J) (OUGq T d t xs ps I J) := by
  obtain ⟨ho, hc, hj, ht, hx, hp⟩ := h
  have hk := okt_k ho ht
  have hn := ho.1.2.1
  obtain ⟨a0, a2, a3, a4, a5, a6, a7, aU, aS, aE⟩ := tm_all (s := T.s) hk.1
  have hxl : xs.length < 400 ∨ T.K t ≠ 16 := by
    by_cases c : T.K t = 16
    · exact Or.inl (by have := hk.2.1; omega)
    · exact Or.inr c
  refine par2_of (P1 := fun I' => (T.K t = 16 ∧ T.V t ≤ 5 ∧ CTk T (t + 1) (xs ++ [T.V t]) I' ∧ t < T.n ∧ LEc I I') ∨ (T.K t = 16 ∧ 5 < T.V t ∧ CF I' 2 (T.P t)) ∨ (T.K t ≠ 16 ∧ CF I' 1 (T.P t))) (P2 := fun y J' => (T.K t = 16 ∧ T.V t ≤ 5 ∧ y = 1 ∧ JTk T d (t + 1) ps J' ∧ LEx J J') ∨ (T.K t = 16 ∧ 5 < T.V t ∧ y = 0 ∧ JF J' 2 (T.P t)) ∨ (T.K t ≠ 16 ∧ y = 0 ∧ JF J' 1 (T.P t))) ?_ ?_ ?_
  · unfold f_R_readTarget
    simp only [zj]
    rw [hc.2.1, hc.2.2.1]
    refine par_ite (fun c => par_ite (fun c2 => ?_) (fun c2 => ?_)) (fun c => ?_)
    · refine par_zb (par_and (ct_add fu _ hc (by omega)) (le_add fu _ I)) (fun _ I1 ⟨c1, le1⟩ => par_zb (par_and (ct_exp fu 16 ho c1 ht (by decide)) (le_exp fu 16 I1)) (fun _ I2 ⟨c2', le2⟩ => par_zr ?_))
      rcases c2' with ⟨q1, q2, q3⟩ | ⟨q1, q2⟩
      · exact Or.inl ⟨c, by omega, q2, q3, lec_t le1 le2⟩
      · exact absurd c q1
    · refine par_zb (ct_fail fu 2 ho hc ht) (fun _ I1 c1 => par_zb (sk_add fu _ I1) (fun _ I2 f2 => ?_))
      have hf : I2 144 10 ≠ 0 := by rw [f2.1, c1.1]; decide
      refine par_zb (sk_exp fu 16 hf) (fun _ I3 f3 => par_zr (Or.inr (Or.inl ⟨c, by omega, f3.1.trans (f2.1.trans c1.1), f3.2.trans (f2.2.trans c1.2)⟩)))
    · unfold f_W_addStep f_R_expect
      refine par_zb (Q1 := fun _ I1 => I1 144 7 = T.K t ∧ I1 144 10 = 0 ∧ I1 144 6 = t ∧ I1 147 t = T.P t) ?_ (fun _ I1 ⟨b1, b2, b3, b4⟩ => ?_)
      · have e0 : I 144 7 = T.K t ∧ I 144 10 = 0 ∧ I 144 6 = t ∧ I 147 t = T.P t := ⟨hc.2.1, hc.2.2.2.1, hc.1, (hc.2.2.2.2.2.2.1 t ht).2.1⟩
        refine par_ite (fun _ => par_zr e0) (fun _ => par_ite (fun _ => ?_) (fun _ => par_zr e0))
        refine par_zl (par_zg (fun _ => par_zw (par_zw (par_zr ⟨?_, ?_, ?_, ?_⟩))))
        · exact (up_o (by omega) _).trans ((up_o (by omega) _).trans e0.1)
        · exact (up_o (by omega) _).trans ((up_o (by omega) _).trans e0.2.1)
        · exact (up_o (by omega) _).trans ((up_o (by omega) _).trans e0.2.2.1)
        · exact (up_o (by omega) _).trans ((up_o (by omega) _).trans e0.2.2.2)
      · rw [b1, if_neg c]
        refine par_zb (Q1 := fun _ I2 => CF I2 1 (T.P t)) (par_zb (Q1 := fun _ I2 => CF I2 1 (T.P t)) ?_ (fun _ I2 c2 => par_zr c2)) (fun _ I3 c3 => par_zr (Or.inr (Or.inr ⟨c, c3⟩)))
        unfold f_R_fail
        rw [if_pos b2, if_neg (by omega), if_neg (by omega)]
        refine par_zw (par_zl (par_zg (fun _ => par_zw (par_zr ⟨(up_j (by omega) _).trans (if_pos ⟨rfl, rfl⟩), ?_⟩))))
        refine (if_pos ⟨rfl, rfl⟩).trans ?_
        rw [up_j (i := 6) (by omega), b3]
        exact (up_o (by omega) _).trans b4
  · unfold f_X_number
    rw [hj.2.2.2.2.1]
    refine par_ite (fun c => ?_) (fun c => ?_)
    · have c16 := a2.mp c
      rw [hj.2.2.2.2.2.1 c16]
      have hv := hk.2.2 c16
      refine par_zb (par_isIn fu _ 0 5 J) (fun y J1 ⟨e, hy⟩ => ?_)
      subst e
      refine par_ite (fun c0 => ?_) (fun c0 => ?_)
      · exact par_zb (jt_bad fu 2 hj) (fun y2 J2 g2 => par_zg (fun _ => par_zr (Or.inr (Or.inl ⟨c16, by have := hy.mp c0; omega, g2.1, g2.2⟩))))
      · have hv5 : T.V t ≤ 5 := by
          rcases Int.lt_or_le 5 (T.V t) with x | x
          · exact absurd (hy.mpr (by omega)) c0
          · exact x
        exact par_zb (par_and (jt_next fu ho hj (by have := hk.2.1; omega)) (lx_next fu J1)) (fun _ J2 ⟨g2, lx2⟩ => par_zr (Or.inl ⟨c16, hv5, rfl, g2, lx2⟩))
    · exact par_zb (jt_bad fu 1 hj) (fun y2 J2 g2 => par_zg (fun _ => par_zr (Or.inr (Or.inr ⟨fun x => c (a2.mpr x), g2.1, g2.2⟩))))
  · intro I' y J' p1 p2
    rcases p1 with ⟨b1, b2, b3, b4, b5⟩ | ⟨b1, b2, b3⟩ | ⟨b1, b2⟩
    · rcases p2 with ⟨c1, c2, c3, c4, c5⟩ | ⟨c1, c2, c3⟩ | ⟨c1, c2⟩
      · exact Or.inl ⟨c3, b3, b1, c4, b4, b5, c5, (hk.2.2 b1).1, b2⟩
      · omega
      · exact absurd b1 c1
    · rcases p2 with ⟨c1, c2, c3, c4, c5⟩ | ⟨c1, c2, c3, c4⟩ | ⟨c1, c2⟩
      · omega
      · exact Or.inr ⟨c3, 2, _, by decide, b3, c4⟩
      · exact absurd b1 c1
    · rcases p2 with ⟨c1, c2, c3, c4, c5⟩ | ⟨c1, c2, c3, c4⟩ | ⟨c1, c2, c3⟩
      · exact absurd c1 b1
      · exact absurd c1 b1
      · exact Or.inr ⟨c2, 1, _, by decide, b2, c3⟩
theorem line2q {T : TXT} {d : Int} {t : Nat} {l : List LRec} {I J : IMem} (fu : Nat) (hl : LA T.s l I J ∧ I 149 4 = l.length ∧ J 0 10 = l.length ∧ l.length ≤ 16) (h : PSt T d t (XS T.s l) (PX l) I J) : par2 (f_R_readLine fu 144 I) (f_X_aLine fu 0 J) (OULq T t l) := by
  obtain ⟨ho, hc, hj, ht, hx, hp⟩ := h
  obtain ⟨l1, l2, l3, l4⟩ := hl
  have hn := ho.1.2.1
  have hkd := okt_k ho ht
  obtain ⟨a0, a2, a3, a4, a5, a6, a7, aU, aS, aE⟩ := tm_all (s := T.s) hkd.1
  have h9 := hc.2.2.2.2.1
  have hK := hc.2.1
  have hJ := hj.2.2.2.2.1
  rw [← hJ] at a7
  -- the keyword
  obtain ⟨kw, xt, hkw, hk1, hk2⟩ : ∃ kw xt : Int, ((T.s = 4 ∧ kw = 11 ∧ xt = 1) ∨ (T.s ≠ 4 ∧ kw = 0 ∧ xt = 0)) ∧ ((I 144 9 = 0 ∧ kw = 0) ∨ (I 144 9 ≠ 0 ∧ kw = 11)) ∧ (if J 0 9 = 4 then xK1 fu 1 J else xK1 fu 0 J) = xK1 fu xt J := by
    by_cases hs : T.s = 4
    · rw [if_pos hs] at h9
      exact ⟨11, 1, Or.inl ⟨hs, rfl, rfl⟩, Or.inr ⟨by omega, rfl⟩, if_pos (hj.2.1.trans hs)⟩
    · rw [if_neg hs] at h9
      exact ⟨0, 0, Or.inr ⟨hs, rfl, rfl⟩, Or.inl ⟨h9, rfl⟩, if_neg (fun x => hs (hj.2.1.symm.trans x))⟩
  rw [line_eq fu kw I hk1, xline_eq, hk2, hK]
  by_cases ck : T.K t = kw
  · rw [if_pos ck, if_pos (a7.mpr (by omega)), l3]
    have htn : t < T.n := by have := hkd.2.1; omega
    by_cases cf : l.length = 16
    · rw [if_pos (by omega)]
      refine par2_br (jt_bad fu 3 hj) (fun y J1 j1 => par2_gr (fun _ => ?_))
      rw [j1.1]
      refine par2_l (par_zb (Q1 := fun v I1 => v ≠ 0 ∧ I1 = I) ?_ (fun v I1 ⟨e1, e2⟩ => ?_))
      · show par (f_W_isFull fu 149 I) _
        unfold f_W_isFull
        rw [l2, if_neg (by omega)]
        exact par_zr ⟨by decide, rfl⟩
      · subst e2
        rw [if_neg e1]
        refine par_zb (ct_fail fu 3 ho hc ht) (fun _ I2 c2 => ?_)
        have bd : BDt I2 J1 := ⟨3, _, by decide, c2, j1.2⟩
        exact par_mono (sk_K4 fu kw (bd_n bd)) (fun _ I3 f3 => Or.inr ⟨rfl, bd_fst bd f3⟩)
    · rw [if_neg (by omega)]
      refine par2_bl (P := fun v I1 => v = 0 ∧ I1 = I) ?_ (fun v I1 ⟨e1, e2⟩ => ?_)
      · show par (f_W_isFull fu 149 I) _
        unfold f_W_isFull
        rw [l2, if_pos (by omega)]
        exact par_zr ⟨rfl, rfl⟩
      subst e2
      rw [if_pos e1]
      unfold cK4 xK1
      refine par2_bl (par_and (ct_exp fu kw ho hc ht (by omega)) (le_exp fu kw I1)) (fun _ I2 ⟨c2, lc2⟩ => ?_)
      rcases c2 with ⟨q1, q2, q3⟩ | ⟨q1, q2⟩
      · refine par2_zwr ?_
        have j0 := jt_d 0 hj
        have x0 : LEx J (up J 0 20 0) := ⟨fun j => up_o (by omega) _, up_j (by omega) _⟩
        generalize up J 0 20 0 = J0 at j0 x0
        refine par2_br (par_and (jt_next fu ho j0 htn) (lx_next fu J0)) (fun _ J1 ⟨j1, lx1⟩ => ?_)
        have x1 := lex_t x0 lx1
        have e10 : J1 0 10 = l.length := x1.2.trans l3
        rw [e10, wr32_i2 (x := 4 * (l.length : Int)) (by omega) (by omega)]
        refine par2_zlr (par2_gr (fun _ => par2_zwr ?_))
        rw [show (4 * (l.length : Int)).toNat = 4 * l.length by omega]
        have j2 : JTk T 0 (t + 1) (PX l) (up J1 (0 + 4) (4 * l.length) (J1 0 16)) := jt_up4 j1
        have y1 : up J1 (0 + 4) (4 * l.length) (J1 0 16) 4 (4 * l.length) = J1 0 16 := if_pos ⟨rfl, rfl⟩
        have y2 : ∀ j, j ≠ 4 * l.length → up J1 (0 + 4) (4 * l.length) (J1 0 16) 4 j = J 4 j := fun j hj => (up_j hj _).trans (x1.1 j)
        have y3 : up J1 (0 + 4) (4 * l.length) (J1 0 16) 0 10 = l.length := (up_o (by omega) _).trans e10
        have j16 := j1.2.2.2.2.2.1
        generalize up J1 (0 + 4) (4 * l.length) (J1 0 16) = J2 at j2 y1 y2 y3
        rw [y3, wr32_i2 (x := 4 * (l.length : Int)) (by omega) (by omega), wr32_i2 (x := 4 * (l.length : Int) + 1) (by omega) (by omega)]
        refine par2_zlr (par2_gr (fun _ => par2_zwr ?_))
        rw [show (4 * (l.length : Int) + 1).toNat = 4 * l.length + 1 by omega]
        have j3 : JTk T 0 (t + 1) (PX l) (up J2 (0 + 4) (4 * l.length + 1) (J2 0 11)) := jt_up4 j2
        have z1 : up J2 (0 + 4) (4 * l.length + 1) (J2 0 11) 4 (4 * l.length + 1) = ((PX l).length : Nat) := (if_pos ⟨rfl, rfl⟩).trans j2.2.2.2.2.2.2.2.1
        have z0 : up J2 (0 + 4) (4 * l.length + 1) (J2 0 11) 4 (4 * l.length) = J1 0 16 := (up_j (by omega) _).trans y1
        have z2 : ∀ j, j < 4 * l.length → up J2 (0 + 4) (4 * l.length + 1) (J2 0 11) 4 j = J 4 j := fun j hj => (up_j (by omega) _).trans (y2 j (by omega))
        have z3 : up J2 (0 + 4) (4 * l.length + 1) (J2 0 11) 0 10 = l.length := (up_o (by omega) _).trans y3
        generalize up J2 (0 + 4) (4 * l.length + 1) (J2 0 11) = J3 at j3 z0 z1 z2 z3
        have la3 : LA T.s l I2 J3 := la_fr l1 ⟨fun j _ => lc2.1 j, fun j _ => lc2.2.1 j⟩ z2
        have h92 := q2.2.2.2.2.1
        rcases hkw with ⟨hs, ekw, rfl⟩ | ⟨hs, ekw, rfl⟩
        · -- the lines' text
          rw [if_pos hs] at h92
          rw [if_neg (by omega), if_neg (by decide)]
          refine par2_b (targ2q fu (ps := PX l) (xs := XS T.s l) ⟨ho, q2, j3, q3, by omega, by omega⟩) (fun x4 I4 y4 J4 e1 e2 ou => ?_)
          rcases ou with ⟨ey, c4, k16, j4, t4, lc4, lx4, kv⟩ | ⟨ey, bd⟩
          · rw [if_neg (by omega)]
            have eex : ex T.s ⟨[], [], T.V (t + 1)⟩ = [T.V (t + 1)] := if_pos hs
            refine k9_2q (t := t + 1 + 1) (E := []) (v := T.V (t + 1)) fu 1 (Or.inl ⟨hs, rfl⟩) (by omega) (fun x => absurd hs x) (fun _ => kv) ⟨la_fr la3 ⟨fun j _ => lc4.1 j, fun j _ => lc4.2.1 j⟩ (fun j _ => lx4.1 j), lc4.2.2.trans (lc2.2.2.trans l2), lx4.2.trans z3, by omega, (lx4.1 _).trans z1, fun _ => ⟨rfl, (lx4.1 _).trans (z0.trans (j16 k16))⟩, fun x => x.elim⟩ ⟨ho, ?_, ?_, t4, ?_, ?_⟩
            · rw [eex]; exact c4
            · rw [List.append_nil]; exact j4
            · rw [eex, List.length_append]; show (XS T.s l).length + 1 ≤ t + 1 + 1; omega
            · rw [List.append_nil]; omega
          · rw [if_pos ey]
            exact par2_l (par_mono (sk_K9 fu (bd_n bd)) (fun _ I5 f5 => Or.inr ⟨rfl, bd_fst bd f5⟩))
        · -- a rule
          rw [if_neg hs] at h92
          rw [if_pos h92, if_pos rfl]
          refine par2_b (sum2q fu (ps := PX l) (xs := XS T.s l) ⟨ho, q2, j3, q3, by omega, by omega⟩) (fun x4 I4 y4 J4 e1 e2 ou => ?_)
          rcases ou with ⟨ey, t4, it, g1, g2, g3, g4, g5⟩ | ⟨ey, bd⟩
          · rw [if_neg (by omega)]
            have eex : ex T.s ⟨it, [], 0⟩ = enc it := if_neg hs
            have lc4 := le_sum e1
            have lx4 := lx_sum e2
            refine k9_2q (t := t4) (E := it) (v := 0) fu 0 (Or.inr ⟨hs, rfl⟩) (by omega) (fun _ => ⟨false, typ_mono g5 (by decide)⟩) (fun x => absurd x hs) ⟨la_fr la3 ⟨fun j _ => lc4.1 j, fun j _ => lc4.2.1 j⟩ (fun j _ => lx4.1 j), lc4.2.2.trans (lc2.2.2.trans l2), lx4.2.trans z3, by omega, (lx4.1 _).trans z1, fun x => absurd x hs, fun x => x.elim⟩ ?_
            rw [eex]; exact g4
          · rw [if_pos ey]
            exact par2_l (par_mono (sk_K9 fu (bd_n bd)) (fun _ I5 f5 => Or.inr ⟨rfl, bd_fst bd f5⟩))
      · exact absurd ck q1
  · rw [if_neg ck, if_neg (fun x => ck (by have := a7.mp x; omega))]
    refine par2_br (jt_bad fu 1 hj) (fun y J1 j1 => par2_gr (fun _ => ?_))
    rw [j1.1]
    unfold cK4
    refine par2_l (par_zb (ct_exp fu kw ho hc ht (by omega)) (fun _ I2 c2 => ?_))
    rcases c2 with ⟨q1, q2, q3⟩ | ⟨q1, q2⟩
    · exact absurd q1 ck
    · have bd : BDt I2 J1 := ⟨1, _, by decide, q2, j1.2⟩
      exact par_ite (fun _ => par_zb (sk_sum fu (bd_n bd)) (fun _ I3 f3 => par_mono (sk_K9 fu (fst_n f3 (bd_n bd))) (fun _ I4 f4 => Or.inr ⟨rfl, bd_fst bd (fst_t f3 f4)⟩))) (fun _ => par_zb (sk_target fu (bd_n bd)) (fun _ I3 f3 => par_mono (sk_K9 fu (fst_n f3 (bd_n bd))) (fun _ I4 f4 => Or.inr ⟨rfl, bd_fst bd (fst_t f3 f4)⟩)))

/-- all lines are well made -/
def GRA (s : Int) (l : List LRec) : Prop := ∀ (i : Nat) (r : LRec), l[i]? = some r → GRL s r
theorem gra_add {s : Int} {l : List LRec} {r : LRec} (h : GRA s l) (g : GRL s r) : GRA s (l ++ [r]) := by
  intro i r' hr
  by_cases hi : i < l.length
  · rw [List.getElem?_append_left hi] at hr
    exact h i r' hr
  · rw [List.getElem?_append_right (by omega)] at hr
    have e := lt_of_get hr
    have e0 : i - l.length = 0 := by simp only [List.length_cons, List.length_nil] at e; omega
    rw [e0] at hr
    cases hr
    exact g
theorem text57q {Q : IMem → Int → IMem → Prop} {T : TXT} (fu : Nat) (a1 : Int) (kX : Int → IMem → Res) (w0 : Nat → Int) (good : ∀ t l d I J, INV T d t l I J → GRA T.s l → J 1 = w0 → par2 (kUn I) (kX 1 J) Q) (bad : ∀ I J, BDt I J → J 1 = w0 → par2 (kUn I) (kX 0 J) Q) : ∀ (m m2 : Nat) (w2 : Int) (t : Nat) (l : List LRec) (d : Int) (I J : IMem), INV T d t l I J → GRA T.s l → J 1 = w0 → 0 ≤ w2 → w2 ≤ t → par2 (f_R_understand_31 fu kUn 144 m w2 I) (f_X_text_57 fu kX 0 a1 m2 1 J) Q := by
  intro m
  induction m with
  | zero => intro m2 w2 t l d I J _ _ _ _ _; exact par2_nl
  | succ m ih =>
    intro m2 w2 t l d I J h hgr hww hw0 hw2
    cases m2 with
    | zero => exact par2_nr
    | succ m2 =>
    show par2 (fb_R_understand_31 fu kUn 144 (f_R_understand_31 fu kUn 144 m) w2 I) (fb_X_text_57 fu kX 0 a1 (f_X_text_57 fu kX 0 a1 m2) 1 J) _
    unfold fb_R_understand_31 fb_X_text_57
    have h' := h
    obtain ⟨⟨ho, hc, hj, ht, hx, hp⟩, l1, l2, l3, l4⟩ := h'
    have hn := ho.1.2.1
    have hkd := okt_k ho ht
    have a0 := (tm_all (s := T.s) hkd.1).1
    rw [if_neg (c := (1 : Int) = 0) (by decide), hj.2.2.2.2.1, hc.2.1, if_pos hc.2.2.2.1]
    by_cases c17 : T.K t = 17
    · rw [if_pos (a0.mpr c17)]
      have g := good t l d I J h hgr hww
      exact par2_il (fun _ => by rw [if_pos c17]; exact g) (fun _ => g)
    · rw [if_neg (fun x => c17 (a0.mp x)), if_neg c17]
      have htn : t < T.n := by
        have := hkd.2.1
        omega
      rw [if_pos (by omega)]
      refine par2_b (line2q fu ⟨l1, l2, l3, l4⟩ ⟨ho, hc, hj, ht, hx, hp⟩) (fun _ I1 y J1 _ eX ou => ?_)
      have hw1 : J1 1 = w0 := (fr_X_aLine (fun q => q ≠ 1) fu 0 J (by omega) (by omega) (by omega) eX 1 (by omega)).trans hww
      simp only [zj, zl]
      rw [wr32_i2 (x := w2 + 1) (by omega) (by omega)]
      rcases ou with ⟨ey, t2, r, g1, g2, g3, g4, g5, g6, g7⟩ | ⟨ey, bd⟩
      · subst ey
        rw [if_neg (c := (1 : Int) = 0) (by decide)]
        refine par2_zwr ?_
        rw [g5, wr32_i2 (by omega) (by omega)]
        have hlen : (l ++ [r]).length = l.length + 1 := by rw [List.length_append]; rfl
        obtain ⟨go, gc, gj, gt, gx, gp⟩ := g2
        have e1 : up J1 0 10 ((l.length : Int) + 1) 0 10 = ((l ++ [r]).length : Nat) := (if_pos ⟨rfl, rfl⟩).trans (by rw [hlen]; rfl)
        refine ih m2 (w2 + 1) t2 (l ++ [r]) 0 I1 _ ⟨⟨go, gc, jt_10 gj, gt, gx, gp⟩, la_fr g3 ⟨fun _ _ => rfl, fun _ _ => rfl⟩ (fun j _ => up_o (by omega) _), by rw [hlen]; exact g4, e1, by rw [hlen]; exact g6⟩ (gra_add hgr g7) ((funext (fun i => up_o (by decide) i)).trans hw1) (by omega) (by omega)
      · subst ey
        rw [if_pos rfl]
        refine par2_zwr ?_
        generalize hJ2 : up J1 0 10 (wr32 (J1 0 10 + 0)) = J2
        have bd2 : BDt I1 J2 := by
          obtain ⟨f, p, b1, b2, b3⟩ := bd
          exact ⟨f, p, b1, b2, by rw [← hJ2]; exact ⟨(up_j (by omega) _).trans b3.1, (up_j (by omega) _).trans b3.2⟩⟩
        have hw2 : J2 1 = w0 := by rw [← hJ2]; exact (funext (fun i => up_o (by decide) i)).trans hw1
        have gb := bad I1 J2 bd2 hw2
        cases m with
        | zero => exact par2_nl
        | succ m =>
        cases m2 with
        | zero => exact par2_nr
        | succ m2 =>
        show par2 (fb_R_understand_31 fu kUn 144 (f_R_understand_31 fu kUn 144 m) (w2 + 1) I1) (fb_X_text_57 fu kX 0 a1 (f_X_text_57 fu kX 0 a1 m2) 0 J2) _
        unfold fb_R_understand_31 fb_X_text_57
        rw [if_pos rfl, if_neg (bd_n bd)]
        exact par2_il (fun _ => gb) (fun _ => gb)

