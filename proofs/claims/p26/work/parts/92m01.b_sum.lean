/-! both parsers, and how what is laid is typed -/
def OUQ (B : Nat) (b : Bool) (T : TXT) (d : Int) (t : Nat) (xs : List Int) (ps : List (Int × Int)) (I : IMem) (y : Int) (J : IMem) : Prop :=
  (y = 1 ∧ ∃ (t' : Nat) (it : List (Int × Int)), t < t' ∧ (enc it).length + t ≤ t' ∧ it.length + t ≤ t' ∧ PSt T d t' (xs ++ enc it) (ps ++ it) I J ∧ TYQ B T.s it [b]) ∨ (y = 0 ∧ BDt I J)
theorem ouq_bad {B : Nat} {b : Bool} {T : TXT} {d : Int} {t : Nat} {xs : List Int} {ps : List (Int × Int)} {I : IMem} {J : IMem} (h : BDt I J) : OUQ B b T d t xs ps I 0 J := Or.inr ⟨rfl, h⟩
theorem tm_u {s k : Int} (h : isU s k) : (1 ≤ tm s k - 40 ∧ tm s k - 40 < 12) ∧ ((s = 4 ∧ (tm s k - 40 = 1 ∨ tm s k - 40 = 7 ∨ tm s k - 40 = 10 ∨ tm s k - 40 = 11)) ∨ (s ≠ 4 ∧ tm s k - 40 ≤ 9)) := by
  rcases h with ⟨hs, h1, h2⟩ | ⟨hs, h1, h2⟩
  · subst hs
    rcases (show k = 5 ∨ k = 6 ∨ k = 7 ∨ k = 8 by omega) with e | e | e | e <;> subst e <;> decide
  · have e : tm s k = if k = 7 then 41 else if k = 8 then 47 else if k = 9 then 42 else if k = 10 then 43 else if k = 11 then 44 else if k = 12 then 45 else if k = 13 then 46 else if k = 14 then 48 else 49 := by
      rcases (show k = 7 ∨ k = 8 ∨ k = 9 ∨ k = 10 ∨ k = 11 ∨ k = 12 ∨ k = 13 ∨ k = 14 ∨ k = 15 by omega) with e | e | e | e | e | e | e | e | e <;> subst e <;> unfold tm <;> simp [hs]
    have b : 41 ≤ tm s k ∧ tm s k ≤ 49 := by
      rw [e]
      rcases (show k = 7 ∨ k = 8 ∨ k = 9 ∨ k = 10 ∨ k = 11 ∨ k = 12 ∨ k = 13 ∨ k = 14 ∨ k = 15 by omega) with e | e | e | e | e | e | e | e | e <;> subst e <;> decide
    exact ⟨by omega, Or.inr ⟨hs, by omega⟩⟩
theorem unit2q {T : TXT} {d : Int} {t : Nat} {xs : List Int} {ps : List (Int × Int)} {I J : IMem} (fu : Nat) (h : PSt T d t xs ps I J) : par2 (f_R_readUnit fu 144 I) (f_X_unit fu 0 J) (OUQ 1 false T d t xs ps) := by
  obtain ⟨ho, hc, hj, ht, hx, hp⟩ := h
  refine par2_of (cunit fu ho hc ht hx) (xunit fu ho hj ht hp) (fun I' y J' p1 p2 => ?_)
  have hk := okt_k ho ht
  rcases p1 with ⟨b1, b2, b3⟩ | ⟨b1, b2, b3⟩ | ⟨b1, b2, b3⟩
  · rcases p2 with ⟨c1, c2, c3⟩ | ⟨c1, c2, c3⟩ | ⟨c1, c2, c3, c4⟩
    · refine Or.inl ⟨c2, t + 1, [(0, T.V t)], Nat.lt_succ_self _, ?_, ?_, ⟨ho, ?_, c3, b2, ?_, ?_⟩, tq_num (hk.2.2 b1)⟩
      · rw [enc_one]; show 1 + t ≤ t + 1; omega
      · show 1 + t ≤ t + 1; omega
      · rw [enc_one]; exact b3
      · rw [enc_one, List.length_append]; show xs.length + 1 ≤ t + 1; omega
      · rw [List.length_append]; show ps.length + 1 ≤ t + 1; omega
    · unfold isU at c1; omega
    · exact absurd b1 c1
  · rcases p2 with ⟨c1, c2, c3⟩ | ⟨c1, c2, v, c3⟩ | ⟨c1, c2, c3, c4⟩
    · unfold isU at b1; omega
    · have e := (tm_all (s := T.s) hk.1).2.2.2.2.2.2.2.2.2 c1 v
      refine Or.inl ⟨c2, t + 1, [(tm T.s (T.K t) - 40, v)], Nat.lt_succ_self _, ?_, ?_, ⟨ho, ?_, c3, b2, ?_, ?_⟩, tq_unit (tm_u c1).1 (tm_u c1).2⟩
      · rw [enc_one, e]; show 1 + t ≤ t + 1; omega
      · show 1 + t ≤ t + 1; omega
      · rw [enc_one, e]; exact b3
      · rw [enc_one, e, List.length_append]; show xs.length + 1 ≤ t + 1; omega
      · rw [List.length_append]; show ps.length + 1 ≤ t + 1; omega
    · exact absurd b1 c2
  · rcases p2 with ⟨c1, c2, c3⟩ | ⟨c1, c2, c3⟩ | ⟨c1, c2, c3, c4⟩
    · exact absurd c1 b1
    · exact absurd c1 b2
    · exact Or.inr ⟨c3, 1, T.P t, by decide, b3, c4⟩

def OUDq (T : TXT) (d : Int) (t : Nat) (xs : List Int) (ps : List (Int × Int)) (Jv : Int) (I : IMem) (y : Int) (J : IMem) : Prop :=
  (y = 1 ∧ ∃ v, Jv = v ∧ (1 ≤ v ∧ v ≤ 9999) ∧ CTk T (t + 1) (xs ++ [v, -4]) I ∧ t + 1 ≤ T.n ∧ JTk T d (t + 1) ps J) ∨ (y = 0 ∧ BDt I J)
theorem div2q {T : TXT} {d : Int} {t : Nat} {xs : List Int} {ps : List (Int × Int)} {I J : IMem} (fu : Nat) (h : PSt T d t xs ps I J) (hx1 : xs.length < t) : par2 (f_R_readDivisor fu 144 I) (f_X_number fu 0 1 9999 J) (OUDq T d t xs ps (J 0 16)) := by
  obtain ⟨ho, hc, hj, ht, hx, hp⟩ := h
  have hk := okt_k ho ht
  have hn := ho.1.2.1
  obtain ⟨a0, a2, a3, a4, a5, a6, a7, aU, aS, aE⟩ := tm_all (s := T.s) hk.1
  unfold f_R_readDivisor f_X_number
  rw [hc.2.1, hc.2.2.1, hj.2.2.2.2.1]
  refine par2_il (fun c => ?_) (fun c => ?_)
  · rw [if_pos (a2.mpr c), hj.2.2.2.2.2.1 c]
    have hv := hk.2.2 c
    have htn : t < T.n := by have := hk.2.1; omega
    refine par2_br (par_isIn fu _ 1 9999 J) (fun y J1 ⟨e, hy⟩ => ?_)
    subst e
    refine par2_il (fun c0 => ?_) (fun c0 => ?_)
    · rw [if_pos (hy.mpr (by omega))]
      refine par2_br (jt_bad fu 2 hj) (fun y2 J2 g2 => par2_gr (fun _ => ?_))
      rw [g2.1]
      exact par2_l (par_zb (ct_fail fu 2 ho hc ht) (fun _ I1 f1 => par_zr (Or.inr ⟨rfl, 2, _, by decide, f1, g2.2⟩)))
    · rw [if_neg (fun x => by have := hy.mp x; omega)]
      refine par2_br (jt_next fu ho hj htn) (fun y2 J2 j2 => ?_)
      refine par2_l (par_zb (ct_add fu _ hc (by omega)) (fun _ I1 c1 => par_zb (ct_add fu (-4) c1 ?_) (fun _ I2 c2 => par_zb (ct_adv fu ho c2 htn) (fun _ I3 c3 => par_zr (Or.inl ⟨rfl, T.V t, rfl, ⟨by omega, by omega⟩, ?_, htn, j2⟩)))))
      · rw [List.length_append]; show xs.length + 1 < 400; omega
      · rw [List.append_assoc] at c3; exact c3
  · rw [if_neg (fun x => c (a2.mp x))]
    refine par2_br (jt_bad fu 1 hj) (fun y2 J2 g2 => par2_gr (fun _ => ?_))
    rw [g2.1]
    exact par2_l (par_zb (ct_fail fu 1 ho hc ht) (fun _ I1 f1 => par_zr (Or.inr ⟨rfl, 1, _, by decide, f1, g2.2⟩)))
def LPq (T : TXT) (d : Int) (t0 t : Nat) (xs0 : List Int) (ps0 it : List (Int × Int)) (w1 : Int) (I J : IMem) : Prop := ∃ k, WT w1 k ∧ t0 < t ∧ (enc it).length + k + t0 ≤ t ∧ it.length + k + t0 ≤ t ∧ PSt T d t (xs0 ++ enc it) (ps0 ++ it) I J ∧ xs0.length ≤ t0 ∧ ps0.length ≤ t0 ∧ ((w1 = 0 ∧ TYQ 4 T.s it [false]) ∨ (w1 ≠ 0 ∧ TYQ 4 T.s it [false, false]))
theorem lp_layq {T : TXT} {d : Int} {t0 t : Nat} {xs0 : List Int} {ps0 it : List (Int × Int)} {w1 : Int} {I J : IMem} (fu : Nat) (hw : w1 ≠ 0) (h : LPq T d t0 t xs0 ps0 it w1 I J) : ∃ it', par (f_W_addStep fu 149 w1 I) (fun _ I' => CTk T t (xs0 ++ enc it') I') ∧ par (f_X_lay fu 0 (if w1 = -1 then 12 else 13) 0 J) (fun _ J' => JTk T d t (ps0 ++ it') J') ∧ (enc it').length + t0 ≤ t ∧ it'.length + t0 ≤ t ∧ TYQ 4 T.s it' [false] := by
  obtain ⟨k, hk, h1, h2, h3, ⟨ho, hc, hj, ht, hx, hp⟩, h5, h6, h7⟩ := h
  have hn := ho.1.2.1
  rcases hk with ⟨e, _⟩ | ⟨e, ek⟩
  · exact absurd e hw
  rw [List.length_append] at hx hp
  have g := lay_w fu w1 e ho hc (by rw [List.length_append]; omega) hj (by rw [List.length_append]; omega)
  have hl := wt_len (w1 := w1) (it := it)
  refine ⟨it ++ [((if w1 = -1 then (12 : Int) else 13), 0)], ?_, ?_, ?_, ?_, ?_⟩
  · rw [enc_app, ← List.append_assoc]; exact g.1
  · rw [← List.append_assoc]; exact g.2
  · rw [enc_app, List.length_append, hl.1]; omega
  · rw [List.length_append, hl.2]; omega
  · rcases h7 with ⟨z, _⟩ | ⟨_, z⟩
    · exact absurd z hw
    · refine tq_lay ?_ z
      rcases e with e | e
      · rw [if_pos e]; exact Or.inl rfl
      · rw [if_neg (by omega)]; exact Or.inr (Or.inl rfl)
theorem sum8q {T : TXT} {d : Int} {t0 : Nat} {xs0 : List Int} {ps0 : List (Int × Int)} (fu : Nat) : ∀ (m m2 m3 : Nat) (w1 w2 : Int) (t : Nat) (it : List (Int × Int)) (I J : IMem), LPq T d t0 t xs0 ps0 it w1 I J → 0 ≤ w2 → w2 < t → par2 (f_R_readSum_8 fu (kSum fu) 144 m w1 w2 I) (zb (f_X_product_9 fu 0 m2 J) (konT fu m3 w1)) (OUQ 4 false T d t0 xs0 ps0) := by
  intro m
  induction m with
  | zero => intro m2 m3 w1 w2 t it I J _ _ _; exact par2_nl
  | succ m ih =>
    intro m2 m3 w1 w2 t it I J h hw0 hw2
    cases m2 with
    | zero => intro x I' y J' e1 e2; cases e2
    | succ m2 =>
    have h0 := h
    obtain ⟨k, hk, h1, h2, h3, hps, h5, h6, h7⟩ := h0
    have hps0 := hps
    obtain ⟨ho, hc, hj, ht, hx, hp⟩ := hps0
    have hn := ho.1.2.1
    have hkd := okt_k ho ht
    obtain ⟨a0, a2, a3, a4, a5, a6, a7, aU, aS, aE⟩ := tm_all (s := T.s) hkd.1
    have e142 := aS 142 (by omega)
    have e143 := aS 143 (by omega)
    have e145 := aS 145 (by omega)
    have e147 := aS 147 (by omega)
    have hK := hc.2.1
    have h10 := hc.2.2.2.1
    have hJ := hj.2.2.2.2.1
    rw [← hJ] at e142 e143 e145 e147
    have hlx := hx
    have hlp := hp
    rw [List.length_append] at hlx hlp
    have hwb : 0 ≤ w2 ∧ w2 < 400 := by omega
    by_cases c42 : T.K t = 42
    · -- times
      have htn : t < T.n := by have := hkd.2.1; omega
      rw [cs_times (hK.trans c42) hwb h10, xp_times (e142.mpr (by omega)), zb_assoc]
      refine par2_bl (ct_adv fu ho hc htn) (fun _ I1 c1 => par2_br (jt_next fu ho hj htn) (fun _ J1 j1 => ?_))
      rw [zb_assoc]
      have ps1 : PSt T d (t + 1) (xs0 ++ enc it) (ps0 ++ it) I1 J1 := ⟨ho, c1, j1, htn, by omega, by omega⟩
      refine par2_b (unit2q fu ps1) (fun _ I2 y J2 _ _ ou => ?_)
      rcases ou with ⟨ey, t2, it2, g1, g2, g3, g4, g5⟩ | ⟨ey, bd⟩
      · rw [if_neg (by omega), zb_assoc]
        obtain ⟨_, c2, j2, ht2, hx2, hp2⟩ := g4
        have l2 := hx2
        have lp2 := hp2
        rw [List.length_append, List.length_append] at l2 lp2
        refine par2_bl (ct_add fu (-3) c2 (by rw [List.length_append, List.length_append]; omega)) (fun _ I3 c3 => par2_br (jt_lay fu 14 0 j2 (by rw [List.length_append, List.length_append]; omega)) (fun _ J3 j3 => ?_))
        have en : enc (it ++ (it2 ++ [(14, 0)])) = enc it ++ (enc it2 ++ [-3]) := by rw [enc_app, enc_app, enc_one]; rfl
        refine ih m2 m3 w1 (w2 + 1) t2 (it ++ (it2 ++ [(14, 0)])) I3 J3 ⟨k, hk, by omega, ?_, ?_, ⟨ho, ?_, ?_, ht2, ?_, ?_⟩, h5, h6, h7.imp (fun z => ⟨z.1, tq_times (Nat.zero_le _) z.2 g5⟩) (fun z => ⟨z.1, tq_times (Nat.le_refl _) z.2 g5⟩)⟩ (by omega) (by omega)
        · rw [en]; simp only [List.length_append, List.length_cons, List.length_nil]; omega
        · simp only [List.length_append, List.length_cons, List.length_nil]; omega
        · rw [en]; simpa only [List.append_assoc] using c3
        · simpa only [List.append_assoc] using j3
        · rw [en]; simp only [List.length_append, List.length_cons, List.length_nil]; omega
        · simp only [List.length_append, List.length_cons, List.length_nil]; omega
      · subst ey
        rw [if_pos rfl]
        refine kon_0 (par_zb (sk_add fu _ I2) (fun _ I3 f3 => par_mono (sk_sum8 fu m w1 _ I3 (fst_n f3 (bd_n bd))) (fun _ I4 f4 => ouq_bad (bd_fst bd (fst_t f3 f4)))))
    by_cases c47 : T.K t = 47
    · -- part
      have htn : t < T.n := by have := hkd.2.1; omega
      rw [cs_part (hK.trans c47) hwb h10, xp_part (e147.mpr (by omega)), zb_assoc]
      refine par2_bl (ct_adv fu ho hc htn) (fun _ I1 c1 => par2_br (jt_next fu ho hj htn) (fun _ J1 j1 => ?_))
      rw [zb_assoc]
      have ps1 : PSt T d (t + 1) (xs0 ++ enc it) (ps0 ++ it) I1 J1 := ⟨ho, c1, j1, htn, by omega, by omega⟩
      refine par2_b (div2q fu ps1 (by rw [List.length_append]; omega)) (fun _ I2 y J2 _ _ ou => ?_)
      rcases ou with ⟨ey, v, ev, vr, c2, ht2, j2⟩ | ⟨ey, bd⟩
      · rw [if_neg (by omega), zb_assoc, ev]
        refine par2_br (jt_lay fu 15 v j2 (by rw [List.length_append]; omega)) (fun _ J3 j3 => ?_)
        have en : enc (it ++ [(15, v)]) = enc it ++ [v, -4] := by rw [enc_app, enc_one]; rfl
        refine ih m2 m3 w1 (w2 + 1) (t + 1 + 1) (it ++ [(15, v)]) I2 J3 ⟨k, hk, by omega, ?_, ?_, ⟨ho, ?_, ?_, ht2, ?_, ?_⟩, h5, h6, h7.imp (fun z => ⟨z.1, tq_part (Nat.zero_le _) z.2 vr⟩) (fun z => ⟨z.1, tq_part (Nat.le_refl _) z.2 vr⟩)⟩ (by omega) (by omega)
        · rw [en]; simp only [List.length_append, List.length_cons, List.length_nil]; omega
        · simp only [List.length_append, List.length_cons, List.length_nil]; omega
        · rw [en]; simpa only [List.append_assoc] using c2
        · simpa only [List.append_assoc] using j3
        · rw [en]; simp only [List.length_append, List.length_cons, List.length_nil]; omega
        · simp only [List.length_append, List.length_cons, List.length_nil]; omega
      · subst ey
        rw [if_pos rfl]
        refine kon_0 (par_mono (sk_sum8 fu m w1 _ I2 (bd_n bd)) (fun _ I4 f4 => ouq_bad (bd_fst bd f4)))
    rw [xp_end (fun x => c42 (by have := e142.mp x; omega)) (fun x => c47 (by have := e147.mp x; omega))]
    show par2 _ (konT fu m3 w1 1 J) _
    unfold konT
    rw [if_neg (by decide)]
    by_cases cpm : T.K t = 43 ∨ T.K t = 45
    · -- plus, minus
      have htn : t < T.n := by have := hkd.2.1; omega
      obtain ⟨how, hhow⟩ : ∃ how : Int, (T.K t = 43 ∧ how = -1) ∨ (T.K t = 45 ∧ how = -2) := by
        rcases cpm with q | q
        · exact ⟨-1, Or.inl ⟨q, rfl⟩⟩
        · exact ⟨-2, Or.inr ⟨q, rfl⟩⟩
      rw [cs_go how (by rw [hK]; exact hhow) hwb h10]
      have go : ∀ (it' : List (Int × Int)) (I1 J1 : IMem) (m3 : Nat), CTk T (t + 1) (xs0 ++ enc it') I1 → JTk T d t (ps0 ++ it') J1 → (enc it').length + t0 ≤ t → it'.length + t0 ≤ t → TYQ 4 T.s it' [false] → par2 (zb (f_R_readUnit fu 144 I1) fun _ I20 => f_R_readSum_8 fu (kSum fu) 144 m how (w2 + 1) I20) (f_X_sumUp_9 fu 0 m3 J1) (OUQ 4 false T d t0 xs0 ps0) := by
        intro it' I1 J1 m3 c1 j1 l1 l2 l3
        cases m3 with
        | zero => exact par2_nr
        | succ m3 =>
        rw [xs_go (if how = -1 then 12 else 13) (by
          have hJ1 := j1.2.2.2.2.1
          rw [hJ1, ← hJ]
          rcases hhow with ⟨q, e⟩ | ⟨q, e⟩
          · exact Or.inl ⟨e143.mpr (by omega), if_pos e⟩
          · exact Or.inr ⟨e145.mpr (by omega), if_neg (by omega)⟩)]
        refine par2_br (jt_next fu ho j1 htn) (fun _ J2 j2 => ?_)
        unfold f_X_product
        rw [zb_assoc]
        have ps2 : PSt T d (t + 1) (xs0 ++ enc it') (ps0 ++ it') I1 J2 := ⟨ho, c1, j2, htn, by rw [List.length_append]; omega, by rw [List.length_append]; omega⟩
        refine par2_b (unit2q fu ps2) (fun _ I3 y J3 _ _ ou => ?_)
        rcases ou with ⟨ey, t2, it2, g1, g2, g3, g4, g5⟩ | ⟨ey, bd⟩
        · rw [if_neg (by omega)]
          have hkon : (fun (y12 : Int) (I13 : IMem) => if y12 = 0 then zr 0 I13 else zb (f_X_lay fu 0 (if how = -1 then 12 else 13) 0 I13) fun _ I16 => f_X_sumUp_9 fu 0 m3 I16) = konT fu m3 how := by
            unfold konT
            funext y12 I13
            rw [if_neg (c := how = 0) (by omega)]
          rw [hkon]
          have en : enc (it' ++ it2) = enc it' ++ enc it2 := enc_app _ _
          refine ih fu m3 how (w2 + 1) t2 (it' ++ it2) I3 J3 ⟨1, Or.inr ⟨by omega, rfl⟩, by omega, ?_, ?_, ?_, h5, h6, Or.inr ⟨by omega, tq_more l3 g5⟩⟩ (by omega) (by omega)
          · rw [en, List.length_append]; omega
          · rw [List.length_append]; omega
          · rw [en, ← List.append_assoc, ← List.append_assoc]; exact g4
        · subst ey
          rw [if_pos rfl]
          show par2 _ (zr 0 J3) _
          exact par2_l (par_mono (sk_sum8 fu m _ _ I3 (bd_n bd)) (fun _ I4 f4 => ouq_bad (bd_fst bd f4)))
      refine par2_bl (ct_adv fu ho hc htn) (fun _ I1 c1 => ?_)
      by_cases hw : w1 = 0
      · rw [if_pos hw, if_pos hw]
        exact go it I1 J m3 c1 hj (by omega) (by omega) (h7.elim (fun z => z.2) (fun z => absurd hw z.1))
      · rw [if_neg hw, if_neg hw]
        rcases hk with ⟨e, _⟩ | ⟨e, ek⟩
        · exact absurd e hw
        have gl := lay_w (xs := xs0 ++ enc it) (ps := ps0 ++ it) fu w1 e ho c1 (by rw [List.length_append]; omega) hj (by rw [List.length_append]; omega)
        have hl := wt_len (w1 := w1) (it := it)
        refine par2_bl gl.1 (fun _ I2 c2 => par2_br gl.2 (fun _ J2 j2 => ?_))
        refine go (it ++ [((if w1 = -1 then (12 : Int) else 13), 0)]) I2 J2 m3 ?_ ?_ ?_ ?_ ?_
        · rw [enc_app, ← List.append_assoc]; exact c2
        · rw [← List.append_assoc]; exact j2
        · rw [enc_app, List.length_append, hl.1]; omega
        · rw [List.length_append, hl.2]; omega
        · rcases h7 with ⟨z, _⟩ | ⟨_, z⟩
          · exact absurd z hw
          · refine tq_lay ?_ z
            rcases e with e | e
            · rw [if_pos e]; exact Or.inl rfl
            · rw [if_neg (by omega)]; exact Or.inr (Or.inl rfl)
    · -- the end
      rw [cs_end (by rw [hK]; exact c42) (by rw [hK]; exact c47) (by rw [hK]; exact fun x => cpm (Or.inl x)) (by rw [hK]; exact fun x => cpm (Or.inr x)) hwb h10]
      unfold kSum
      have fin : ∀ (m3 : Nat) (J1 : IMem), J1 0 14 = J 0 14 → f_X_sumUp_9 fu 0 m3 J1 = none ∨ f_X_sumUp_9 fu 0 m3 J1 = zr 1 J1 := by
        intro m3 J1 e
        cases m3 with
        | zero => exact Or.inl rfl
        | succ m3 => exact Or.inr (xs_end (by rw [e]; exact fun x => cpm (Or.inl (by have := e143.mp x; omega))) (by rw [e]; exact fun x => cpm (Or.inr (by have := e145.mp x; omega))))
      by_cases hw : w1 = 0
      · rw [if_pos hw, if_pos hw]
        rcases fin m3 J rfl with e | e
        · rw [e]; exact par2_nr
        · rw [e]
          exact par2_end (Or.inl ⟨rfl, t, it, h1, by omega, by omega, hps, h7.elim (fun z => z.2) (fun z => absurd hw z.1)⟩)
      · rw [if_neg hw, if_neg hw]
        obtain ⟨it', p1, p2, l1, l2, l3⟩ := lp_layq fu hw h
        refine par2_bl p1 (fun _ I2 c2 => par2_br p2 (fun _ J2 j2 => ?_))
        rcases fin m3 J2 (j2.2.2.2.2.1.trans hJ.symm) with e | e
        · rw [e]; exact par2_nr
        · rw [e]
          exact par2_end (Or.inl ⟨rfl, t, it', h1, l1, l2, ⟨ho, c2, j2, ht, by rw [List.length_append]; omega, by rw [List.length_append]; omega⟩, l3⟩)
theorem sum2q {T : TXT} {d : Int} {t : Nat} {xs : List Int} {ps : List (Int × Int)} {I J : IMem} (fu : Nat) (h : PSt T d t xs ps I J) : par2 (f_R_readSum fu 144 I) (f_X_sumUp fu 0 J) (OUQ 4 false T d t xs ps) := by
  unfold f_R_readSum f_X_sumUp f_X_product
  rw [zb_assoc]
  refine par2_b (unit2q fu h) (fun _ I1 y J1 _ _ ou => ?_)
  rcases ou with ⟨ey, t2, it2, g1, g2, g3, g4, g5⟩ | ⟨ey, bd⟩
  · rw [if_neg (by omega)]
    have hkon : (fun (y1 : Int) (I2 : IMem) => if y1 = 0 then zr 0 I2 else f_X_sumUp_9 fu 0 fu I2) = konT fu fu 0 := by
      unfold konT
      funext y1 I2
      rw [if_pos (c := (0 : Int) = 0) rfl]
    rw [hkon]
    exact sum8q fu fu fu fu 0 0 t2 it2 I1 J1 ⟨0, Or.inl ⟨rfl, rfl⟩, g1, by omega, by omega, g4, h.2.2.2.2.1, h.2.2.2.2.2, Or.inl ⟨rfl, tyq_mono g5 (by decide)⟩⟩ (by omega) (by omega)
  · subst ey
    rw [if_pos rfl]
    show par2 _ (zr 0 J1) _
    exact par2_l (par_mono (sk_sum8 fu fu _ _ I1 (bd_n bd)) (fun _ I4 f4 => ouq_bad (bd_fst bd f4)))

