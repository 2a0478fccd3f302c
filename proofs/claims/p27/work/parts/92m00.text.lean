/-! how a TEXT's code is typed, piece by piece -/
/-- a piece leaves bs, whatever follows, if B more have room -/
def TYQ (B : Nat) (s : Int) (it : List (Int × Int)) (bs : List Bool) : Prop := ∀ (rest : List (Int × Int)) (st : List Bool) (n : Nat), st.length + B ≤ n → tyR n s (it ++ rest) st = tyR n s rest (bs ++ st)
theorem typ_of {B : Nat} {s : Int} {it : List (Int × Int)} {b : Bool} (h : TYQ B s it [b]) : TYP B s it b := by
  intro st
  have e := h [] st (st.length + B) (Nat.le_refl _)
  rw [List.append_nil] at e
  exact e
theorem tyq_mono {B B' : Nat} {s : Int} {it : List (Int × Int)} {bs : List Bool} (h : TYQ B s it bs) (hB : B ≤ B') : TYQ B' s it bs := fun rest st n hn => h rest st n (by omega)
theorem typ_mono {B B' : Nat} {s : Int} {it : List (Int × Int)} {b : Bool} (h : TYQ B s it [b]) (hB : B ≤ B') : TYP B' s it b := typ_of (tyq_mono h hB)
theorem ts_num {n : Nat} {s v : Int} {rest : List (Int × Int)} {st : List Bool} (hn : st.length < n) (hv : 0 ≤ v ∧ v ≤ 9999) : tyR n s ((0, v) :: rest) st = tyR n s rest (false :: st) := by
  show (if st.length < n then (if ((0 : Int), v).1 = 0 then (if 0 ≤ ((0 : Int), v).2 ∧ ((0 : Int), v).2 ≤ 9999 then tyR n s rest (false :: st) else none) else _) else none) = _
  rw [if_pos hn]
  exact (if_pos rfl).trans (if_pos hv)
theorem ts_unit {n : Nat} {s c v : Int} {rest : List (Int × Int)} {st : List Bool} (hn : st.length < n) (hc : 1 ≤ c ∧ c < 12) (hv : (s = 4 ∧ (c = 1 ∨ c = 7 ∨ c = 10 ∨ c = 11)) ∨ (s ≠ 4 ∧ c ≤ 9)) : tyR n s ((c, v) :: rest) st = tyR n s rest (false :: st) := by
  show (if st.length < n then (if (c, v).1 = 0 then _ else if (c, v).1 < 12 then (if 1 ≤ (c, v).1 ∧ ((s = 4 ∧ ((c, v).1 = 1 ∨ (c, v).1 = 7 ∨ (c, v).1 = 10 ∨ (c, v).1 = 11)) ∨ (s ≠ 4 ∧ (c, v).1 ≤ 9)) then tyR n s rest (false :: st) else none) else _) else none) = _
  rw [if_pos hn]
  exact (if_neg (show ¬ c = 0 by omega)).trans ((if_pos (show c < 12 from hc.2)).trans (if_pos ⟨hc.1, hv⟩))
theorem ts_div {n : Nat} {s v : Int} {rest : List (Int × Int)} {a : Bool} {st : List Bool} (hn : st.length + 1 < n) (hv : 1 ≤ v ∧ v ≤ 9999) : tyR n s ((15, v) :: rest) (a :: st) = tyR n s rest (false :: st) := by
  rw [tyR, if_pos (show (a :: st).length < n from hn), if_neg (show ¬ (15 : Int) = 0 by decide), if_neg (show ¬ (15 : Int) < 12 by decide), if_pos (show (15 : Int) = 15 from rfl)]
  show (if 1 ≤ v ∧ v ≤ 9999 then _ else none) = _
  rw [if_pos hv]
theorem ts_not {n : Nat} {s v : Int} {rest : List (Int × Int)} {st : List Bool} (hn : st.length + 1 < n) : tyR n s ((19, v) :: rest) (true :: st) = tyR n s rest (true :: st) := by
  rw [tyR, if_pos (show (true :: st).length < n from hn), if_neg (show ¬ (19 : Int) = 0 by decide), if_neg (show ¬ (19 : Int) < 12 by decide), if_neg (show ¬ (19 : Int) = 15 by decide), if_pos (show (19 : Int) = 19 from rfl)]
theorem ts_ar {n : Nat} {s c v : Int} {rest : List (Int × Int)} {a b : Bool} {st : List Bool} (hn : st.length + 2 < n) (hc : c = 12 ∨ c = 13 ∨ c = 14) : tyR n s ((c, v) :: rest) (a :: b :: st) = tyR n s rest (false :: st) := by
  rw [tyR, if_pos (show (a :: b :: st).length < n from hn), if_neg (show ¬ c = 0 by omega), if_neg (show ¬ c < 12 by omega), if_neg (show ¬ c = 15 by omega), if_neg (show ¬ c = 19 by omega), if_pos (show c ≤ 14 by omega)]
theorem ts_cmp {n : Nat} {s c v : Int} {rest : List (Int × Int)} {a b : Bool} {st : List Bool} (hn : st.length + 2 < n) (hc : c = 16 ∨ c = 17 ∨ c = 18) : tyR n s ((c, v) :: rest) (a :: b :: st) = tyR n s rest (true :: st) := by
  rw [tyR, if_pos (show (a :: b :: st).length < n from hn), if_neg (show ¬ c = 0 by omega), if_neg (show ¬ c < 12 by omega), if_neg (show ¬ c = 15 by omega), if_neg (show ¬ c = 19 by omega), if_neg (show ¬ c ≤ 14 by omega), if_pos (show c ≤ 18 by omega)]
theorem ts_log {n : Nat} {s c v : Int} {rest : List (Int × Int)} {st : List Bool} (hn : st.length + 2 < n) (hc : c = 20 ∨ c = 21) : tyR n s ((c, v) :: rest) (true :: true :: st) = tyR n s rest (true :: st) := by
  rw [tyR, if_pos (show (true :: true :: st).length < n from hn), if_neg (show ¬ c = 0 by omega), if_neg (show ¬ c < 12 by omega), if_neg (show ¬ c = 15 by omega), if_neg (show ¬ c = 19 by omega), if_neg (show ¬ c ≤ 14 by omega), if_neg (show ¬ c ≤ 18 by omega), if_pos hc]
theorem tq_num {s v : Int} (hv : 0 ≤ v ∧ v ≤ 9999) : TYQ 1 s [(0, v)] [false] := fun rest st n hn => ts_num (by omega) hv
theorem tq_unit {s c v : Int} (hc : 1 ≤ c ∧ c < 12) (hv : (s = 4 ∧ (c = 1 ∨ c = 7 ∨ c = 10 ∨ c = 11)) ∨ (s ≠ 4 ∧ c ≤ 9)) : TYQ 1 s [(c, v)] [false] := fun rest st n hn => ts_unit (by omega) hc hv
/-- times -/
theorem tq_times {s : Int} {it it2 : List (Int × Int)} {bs : List Bool} (hb : bs.length ≤ 1) (h : TYQ 4 s it (false :: bs)) (h2 : TYQ 1 s it2 [false]) : TYQ 4 s (it ++ (it2 ++ [(14, 0)])) (false :: bs) := by
  intro rest st n hn
  rw [List.append_assoc, List.append_assoc, h _ st n hn, h2 _ _ n (by rw [List.length_append, List.length_cons]; omega)]
  exact ts_ar (st := bs ++ st) (by rw [List.length_append]; omega) (Or.inr (Or.inr rfl))
/-- part -/
theorem tq_part {s v : Int} {it : List (Int × Int)} {bs : List Bool} (hb : bs.length ≤ 1) (h : TYQ 4 s it (false :: bs)) (hv : 1 ≤ v ∧ v ≤ 9999) : TYQ 4 s (it ++ [(15, v)]) (false :: bs) := by
  intro rest st n hn
  rw [List.append_assoc, h _ st n hn]
  exact ts_div (st := bs ++ st) (by rw [List.length_append]; omega) hv
/-- what waits is laid -/
theorem tq_lay {s c : Int} {it : List (Int × Int)} (hc : c = 12 ∨ c = 13 ∨ c = 14) (h : TYQ 4 s it [false, false]) : TYQ 4 s (it ++ [(c, 0)]) [false] := by
  intro rest st n hn
  rw [List.append_assoc, h _ st n hn]
  exact ts_ar (st := st) (by omega) hc
/-- one more product begins -/
theorem tq_more {s : Int} {it it2 : List (Int × Int)} (h : TYQ 4 s it [false]) (h2 : TYQ 1 s it2 [false]) : TYQ 4 s (it ++ it2) [false, false] := by
  intro rest st n hn
  rw [List.append_assoc, h _ st n hn, h2 _ _ n (by rw [List.length_append]; show 1 + st.length + 1 ≤ n; omega)]
  rfl
/-- a comparison -/
theorem tq_cmp {s c : Int} {it it2 : List (Int × Int)} (hc : c = 16 ∨ c = 17 ∨ c = 18) (h : TYQ 4 s it [false]) (h2 : TYQ 4 s it2 [false]) : TYQ 5 s (it ++ (it2 ++ [(c, 0)])) [true] := by
  intro rest st n hn
  rw [List.append_assoc, List.append_assoc, h _ st n (by omega), h2 _ _ n (by rw [List.length_append]; show 1 + st.length + 4 ≤ n; omega)]
  exact ts_cmp (st := st) (by omega) hc
theorem tq_not {B : Nat} {s : Int} {it : List (Int × Int)} (hB : 2 ≤ B) (h : TYQ B s it [true]) : TYQ B s (it ++ [(19, 0)]) [true] := by
  intro rest st n hn
  rw [List.append_assoc, h _ st n hn]
  exact ts_not (st := st) (by omega)
/-- and, or: with what waits below -/
theorem tq_log {B : Nat} {s c : Int} {it it2 : List (Int × Int)} {bs : List Bool} (hc : c = 20 ∨ c = 21) (hb : bs.length ≤ 1) (hB : 3 ≤ B) (h : TYQ (B + 2) s it (true :: bs)) (h2 : TYQ B s it2 [true]) : TYQ (B + 2) s (it ++ (it2 ++ [(c, 0)])) (true :: bs) := by
  intro rest st n hn
  rw [List.append_assoc, List.append_assoc, h _ st n hn, h2 _ _ n (by rw [List.length_append, List.length_cons]; omega)]
  exact ts_log (st := bs ++ st) (by rw [List.length_append]; omega) hc
theorem tq_lay2 {B : Nat} {s c : Int} {it : List (Int × Int)} (hc : c = 20 ∨ c = 21) (hB : 1 ≤ B) (h : TYQ (B + 2) s it [true, true]) : TYQ (B + 2) s (it ++ [(c, 0)]) [true] := by
  intro rest st n hn
  rw [List.append_assoc, h _ st n hn]
  exact ts_log (st := st) (by omega) hc
theorem tq_more2 {B : Nat} {s : Int} {it it2 : List (Int × Int)} (h : TYQ (B + 2) s it [true]) (h2 : TYQ B s it2 [true]) : TYQ (B + 2) s (it ++ it2) [true, true] := by
  intro rest st n hn
  rw [List.append_assoc, h _ st n hn, h2 _ _ n (by rw [List.length_append]; show 1 + st.length + B ≤ n; omega)]
  rfl
/-! both parsers, and how what is laid is typed -/
def OUQ (B : Nat) (b : Bool) (T : TXT) (d : Int) (t : Nat) (xs : List Int) (ps : List (Int × Int)) (I : IMem) (y : Int) (J : IMem) : Prop :=
  (y = 1 ∧ ∃ (t' : Nat) (it : List (Int × Int)), t < t' ∧ (enc it).length + t ≤ t' ∧ it.length + t ≤ t' ∧ PSt T d t' (xs ++ enc it) (ps ++ it) I J ∧ TYQ B T.s it [b]) ∨ (y = 0 ∧ BDt I J)
theorem ouq_bad {B : Nat} {b : Bool} {T : TXT} {d : Int} {t : Nat} {xs : List Int} {ps : List (Int × Int)} {I : IMem} {J : IMem} (h : BDt I J) : OUQ B b T d t xs ps I 0 J := Or.inr ⟨rfl, h⟩
theorem tm_u {s k : Int} (h : isU s k) : (1 ≤ tm s k - 40 ∧ tm s k - 40 < 12) ∧ ((s = 4 ∧ (tm s k - 40 = 1 ∨ tm s k - 40 = 7 ∨ tm s k - 40 = 10 ∨ tm s k - 40 = 11)) ∨ (s ≠ 4 ∧ tm s k - 40 ≤ 9)) := by
  rcases h with ⟨hs, h1, h2⟩ | ⟨hs, h1, h2⟩
  · subst hs
    rcases (show k = 5 ∨ k = 6 ∨ k = 7 ∨ k = 8 by omega) with e | e | e | e <;> subst e <;> decide
  · have e : tm s k = if k = 7 then 41 else if k = 8 then 47 else if k = 9 then 42 else if k = 10 then 43 else if k = 11 then 44 else if k = 12 then 45 else if k = 13 then 46 else if k = 14 then 48 else 49 := by
      rcases (show k = 7 ∨ k = 8 ∨ k = 9 ∨ k = 10 ∨ k = 11 ∨ k = 12 ∨ k = 13 ∨ k = 14 ∨ k = 15 by omega) with e | e | e | e | e | e | e | e | e <;> subst e <;> unfold tm <;> simp [hs]
    have b : 41 ≤ tm s k ∧ tm s k ≤ 49 := by
      rw [e]
      rcases (show k = 7 ∨ k = 8 ∨ k = 9 ∨ k = 10 ∨ k = 11 ∨ k = 12 ∨ k = 13 ∨ k = 14 ∨ k = 15 by omega) with e | e | e | e | e | e | e | e | e <;> subst e <;> decide
    exact ⟨by omega, Or.inr ⟨hs, by omega⟩⟩
theorem unit2q {T : TXT} {d : Int} {t : Nat} {xs : List Int} {ps : List (Int × Int)} {I J : IMem} (fu : Nat) (h : PSt T d t xs ps I J) : par2 (f_R_readUnit fu 144 I) (f_X_unit fu 0 J) (OUQ 1 false T d t xs ps) := by
  obtain ⟨ho, hc, hj, ht, hx, hp⟩ := h
  refine par2_of (cunit fu ho hc ht hx) (xunit fu ho hj ht hp) (fun I' y J' p1 p2 => ?_)
  have hk := okt_k ho ht
  rcases p1 with ⟨b1, b2, b3⟩ | ⟨b1, b2, b3⟩ | ⟨b1, b2, b3⟩
  · rcases p2 with ⟨c1, c2, c3⟩ | ⟨c1, c2, c3⟩ | ⟨c1, c2, c3, c4⟩
    · refine Or.inl ⟨c2, t + 1, [(0, T.V t)], Nat.lt_succ_self _, ?_, ?_, ⟨ho, ?_, c3, b2, ?_, ?_⟩, tq_num (hk.2.2 b1)⟩
      · rw [enc_one]; show 1 + t ≤ t + 1; omega
      · show 1 + t ≤ t + 1; omega
      · rw [enc_one]; exact b3
      · rw [enc_one, List.length_append]; show xs.length + 1 ≤ t + 1; omega
      · rw [List.length_append]; show ps.length + 1 ≤ t + 1; omega
    · unfold isU at c1; omega
    · exact absurd b1 c1
  · rcases p2 with ⟨c1, c2, c3⟩ | ⟨c1, c2, v, c3⟩ | ⟨c1, c2, c3, c4⟩
    · unfold isU at b1; omega
    · have e := (tm_all (s := T.s) hk.1).2.2.2.2.2.2.2.2.2 c1 v
      refine Or.inl ⟨c2, t + 1, [(tm T.s (T.K t) - 40, v)], Nat.lt_succ_self _, ?_, ?_, ⟨ho, ?_, c3, b2, ?_, ?_⟩, tq_unit (tm_u c1).1 (tm_u c1).2⟩
      · rw [enc_one, e]; show 1 + t ≤ t + 1; omega
      · show 1 + t ≤ t + 1; omega
      · rw [enc_one, e]; exact b3
      · rw [enc_one, e, List.length_append]; show xs.length + 1 ≤ t + 1; omega
      · rw [List.length_append]; show ps.length + 1 ≤ t + 1; omega
    · exact absurd b1 c2
  · rcases p2 with ⟨c1, c2, c3⟩ | ⟨c1, c2, c3⟩ | ⟨c1, c2, c3, c4⟩
    · exact absurd c1 b1
    · exact absurd c1 b2
    · exact Or.inr ⟨c3, 1, T.P t, by decide, b3, c4⟩

def OUDq (T : TXT) (d : Int) (t : Nat) (xs : List Int) (ps : List (Int × Int)) (Jv : Int) (I : IMem) (y : Int) (J : IMem) : Prop :=
  (y = 1 ∧ ∃ v, Jv = v ∧ (1 ≤ v ∧ v ≤ 9999) ∧ CTk T (t + 1) (xs ++ [v, -4]) I ∧ t + 1 ≤ T.n ∧ JTk T d (t + 1) ps J) ∨ (y = 0 ∧ BDt I J)
theorem div2q {T : TXT} {d : Int} {t : Nat} {xs : List Int} {ps : List (Int × Int)} {I J : IMem} (fu : Nat) (h : PSt T d t xs ps I J) (hx1 : xs.length < t) : par2 (f_R_readDivisor fu 144 I) (f_X_number fu 0 1 9999 J) (OUDq T d t xs ps (J 0 16)) := by
  obtain ⟨ho, hc, hj, ht, hx, hp⟩ := h
  have hk := okt_k ho ht
  have hn := ho.1.2.1
  obtain ⟨a0, a2, a3, a4, a5, a6, a7, aU, aS, aE⟩ := tm_all (s := T.s) hk.1
  unfold f_R_readDivisor f_X_number
  rw [hc.2.1, hc.2.2.1, hj.2.2.2.2.1]
  refine par2_il (fun c => ?_) (fun c => ?_)
  · rw [if_pos (a2.mpr c), hj.2.2.2.2.2.1 c]
    have hv := hk.2.2 c
    have htn : t < T.n := by have := hk.2.1; omega
    refine par2_br (par_isIn fu _ 1 9999 J) (fun y J1 ⟨e, hy⟩ => ?_)
    subst e
    refine par2_il (fun c0 => ?_) (fun c0 => ?_)
    · rw [if_pos (hy.mpr (by omega))]
      refine par2_br (jt_bad fu 2 hj) (fun y2 J2 g2 => par2_gr (fun _ => ?_))
      rw [g2.1]
      exact par2_l (par_zb (ct_fail fu 2 ho hc ht) (fun _ I1 f1 => par_zr (Or.inr ⟨rfl, 2, _, by decide, f1, g2.2⟩)))
    · rw [if_neg (fun x => by have := hy.mp x; omega)]
      refine par2_br (jt_next fu ho hj htn) (fun y2 J2 j2 => ?_)
      refine par2_l (par_zb (ct_add fu _ hc (by omega)) (fun _ I1 c1 => par_zb (ct_add fu (-4) c1 ?_) (fun _ I2 c2 => par_zb (ct_adv fu ho c2 htn) (fun _ I3 c3 => par_zr (Or.inl ⟨rfl, T.V t, rfl, ⟨by omega, by omega⟩, ?_, htn, j2⟩)))))
      · rw [List.length_append]; show xs.length + 1 < 400; omega
      · rw [List.append_assoc] at c3; exact c3
  · rw [if_neg (fun x => c (a2.mp x))]
    refine par2_br (jt_bad fu 1 hj) (fun y2 J2 g2 => par2_gr (fun _ => ?_))
    rw [g2.1]
    exact par2_l (par_zb (ct_fail fu 1 ho hc ht) (fun _ I1 f1 => par_zr (Or.inr ⟨rfl, 1, _, by decide, f1, g2.2⟩)))
def LPq (T : TXT) (d : Int) (t0 t : Nat) (xs0 : List Int) (ps0 it : List (Int × Int)) (w1 : Int) (I J : IMem) : Prop := ∃ k, WT w1 k ∧ t0 < t ∧ (enc it).length + k + t0 ≤ t ∧ it.length + k + t0 ≤ t ∧ PSt T d t (xs0 ++ enc it) (ps0 ++ it) I J ∧ xs0.length ≤ t0 ∧ ps0.length ≤ t0 ∧ ((w1 = 0 ∧ TYQ 4 T.s it [false]) ∨ (w1 ≠ 0 ∧ TYQ 4 T.s it [false, false]))
theorem lp_layq {T : TXT} {d : Int} {t0 t : Nat} {xs0 : List Int} {ps0 it : List (Int × Int)} {w1 : Int} {I J : IMem} (fu : Nat) (hw : w1 ≠ 0) (h : LPq T d t0 t xs0 ps0 it w1 I J) : ∃ it', par (f_W_addStep fu 149 w1 I) (fun _ I' => CTk T t (xs0 ++ enc it') I') ∧ par (f_X_lay fu 0 (if w1 = -1 then 12 else 13) 0 J) (fun _ J' => JTk T d t (ps0 ++ it') J') ∧ (enc it').length + t0 ≤ t ∧ it'.length + t0 ≤ t ∧ TYQ 4 T.s it' [false] := by
  obtain ⟨k, hk, h1, h2, h3, ⟨ho, hc, hj, ht, hx, hp⟩, h5, h6, h7⟩ := h
  have hn := ho.1.2.1
  rcases hk with ⟨e, _⟩ | ⟨e, ek⟩
  · exact absurd e hw
  rw [List.length_append] at hx hp
  have g := lay_w fu w1 e ho hc (by rw [List.length_append]; omega) hj (by rw [List.length_append]; omega)
  have hl := wt_len (w1 := w1) (it := it)
  refine ⟨it ++ [((if w1 = -1 then (12 : Int) else 13), 0)], ?_, ?_, ?_, ?_, ?_⟩
  · rw [enc_app, ← List.append_assoc]; exact g.1
  · rw [← List.append_assoc]; exact g.2
  · rw [enc_app, List.length_append, hl.1]; omega
  · rw [List.length_append, hl.2]; omega
  · rcases h7 with ⟨z, _⟩ | ⟨_, z⟩
    · exact absurd z hw
    · refine tq_lay ?_ z
      rcases e with e | e
      · rw [if_pos e]; exact Or.inl rfl
      · rw [if_neg (by omega)]; exact Or.inr (Or.inl rfl)
theorem sum8q {T : TXT} {d : Int} {t0 : Nat} {xs0 : List Int} {ps0 : List (Int × Int)} (fu : Nat) : ∀ (m m2 m3 : Nat) (w1 w2 : Int) (t : Nat) (it : List (Int × Int)) (I J : IMem), LPq T d t0 t xs0 ps0 it w1 I J → 0 ≤ w2 → w2 < t → par2 (f_R_readSum_8 fu (kSum fu) 144 m w1 w2 I) (zb (f_X_product_9 fu 0 m2 J) (konT fu m3 w1)) (OUQ 4 false T d t0 xs0 ps0) := by
  intro m
  induction m with
  | zero => intro m2 m3 w1 w2 t it I J _ _ _; exact par2_nl
  | succ m ih =>
    intro m2 m3 w1 w2 t it I J h hw0 hw2
    cases m2 with
    | zero => intro x I' y J' e1 e2; cases e2
    | succ m2 =>
    have h0 := h
    obtain ⟨k, hk, h1, h2, h3, hps, h5, h6, h7⟩ := h0
    have hps0 := hps
    obtain ⟨ho, hc, hj, ht, hx, hp⟩ := hps0
    have hn := ho.1.2.1
    have hkd := okt_k ho ht
    obtain ⟨a0, a2, a3, a4, a5, a6, a7, aU, aS, aE⟩ := tm_all (s := T.s) hkd.1
    have e142 := aS 142 (by omega)
    have e143 := aS 143 (by omega)
    have e145 := aS 145 (by omega)
    have e147 := aS 147 (by omega)
    have hK := hc.2.1
    have h10 := hc.2.2.2.1
    have hJ := hj.2.2.2.2.1
    rw [← hJ] at e142 e143 e145 e147
    have hlx := hx
    have hlp := hp
    rw [List.length_append] at hlx hlp
    have hwb : 0 ≤ w2 ∧ w2 < 400 := by omega
    by_cases c42 : T.K t = 42
    · -- times
      have htn : t < T.n := by have := hkd.2.1; omega
      rw [cs_times (hK.trans c42) hwb h10, xp_times (e142.mpr (by omega)), zb_assoc]
      refine par2_bl (ct_adv fu ho hc htn) (fun _ I1 c1 => par2_br (jt_next fu ho hj htn) (fun _ J1 j1 => ?_))
      rw [zb_assoc]
      have ps1 : PSt T d (t + 1) (xs0 ++ enc it) (ps0 ++ it) I1 J1 := ⟨ho, c1, j1, htn, by omega, by omega⟩
      refine par2_b (unit2q fu ps1) (fun _ I2 y J2 _ _ ou => ?_)
      rcases ou with ⟨ey, t2, it2, g1, g2, g3, g4, g5⟩ | ⟨ey, bd⟩
      · rw [if_neg (by omega), zb_assoc]
        obtain ⟨_, c2, j2, ht2, hx2, hp2⟩ := g4
        have l2 := hx2
        have lp2 := hp2
        rw [List.length_append, List.length_append] at l2 lp2
        refine par2_bl (ct_add fu (-3) c2 (by rw [List.length_append, List.length_append]; omega)) (fun _ I3 c3 => par2_br (jt_lay fu 14 0 j2 (by rw [List.length_append, List.length_append]; omega)) (fun _ J3 j3 => ?_))
        have en : enc (it ++ (it2 ++ [(14, 0)])) = enc it ++ (enc it2 ++ [-3]) := by rw [enc_app, enc_app, enc_one]; rfl
        refine ih m2 m3 w1 (w2 + 1) t2 (it ++ (it2 ++ [(14, 0)])) I3 J3 ⟨k, hk, by omega, ?_, ?_, ⟨ho, ?_, ?_, ht2, ?_, ?_⟩, h5, h6, h7.imp (fun z => ⟨z.1, tq_times (Nat.zero_le _) z.2 g5⟩) (fun z => ⟨z.1, tq_times (Nat.le_refl _) z.2 g5⟩)⟩ (by omega) (by omega)
        · rw [en]; simp only [List.length_append, List.length_cons, List.length_nil]; omega
        · simp only [List.length_append, List.length_cons, List.length_nil]; omega
        · rw [en]; simpa only [List.append_assoc] using c3
        · simpa only [List.append_assoc] using j3
        · rw [en]; simp only [List.length_append, List.length_cons, List.length_nil]; omega
        · simp only [List.length_append, List.length_cons, List.length_nil]; omega
      · subst ey
        rw [if_pos rfl]
        refine kon_0 (par_zb (sk_add fu _ I2) (fun _ I3 f3 => par_mono (sk_sum8 fu m w1 _ I3 (fst_n f3 (bd_n bd))) (fun _ I4 f4 => ouq_bad (bd_fst bd (fst_t f3 f4)))))
    by_cases c47 : T.K t = 47
    · -- part
      have htn : t < T.n := by have := hkd.2.1; omega
      rw [cs_part (hK.trans c47) hwb h10, xp_part (e147.mpr (by omega)), zb_assoc]
      refine par2_bl (ct_adv fu ho hc htn) (fun _ I1 c1 => par2_br (jt_next fu ho hj htn) (fun _ J1 j1 => ?_))
      rw [zb_assoc]
      have ps1 : PSt T d (t + 1) (xs0 ++ enc it) (ps0 ++ it) I1 J1 := ⟨ho, c1, j1, htn, by omega, by omega⟩
      refine par2_b (div2q fu ps1 (by rw [List.length_append]; omega)) (fun _ I2 y J2 _ _ ou => ?_)
      rcases ou with ⟨ey, v, ev, vr, c2, ht2, j2⟩ | ⟨ey, bd⟩
      · rw [if_neg (by omega), zb_assoc, ev]
        refine par2_br (jt_lay fu 15 v j2 (by rw [List.length_append]; omega)) (fun _ J3 j3 => ?_)
        have en : enc (it ++ [(15, v)]) = enc it ++ [v, -4] := by rw [enc_app, enc_one]; rfl
        refine ih m2 m3 w1 (w2 + 1) (t + 1 + 1) (it ++ [(15, v)]) I2 J3 ⟨k, hk, by omega, ?_, ?_, ⟨ho, ?_, ?_, ht2, ?_, ?_⟩, h5, h6, h7.imp (fun z => ⟨z.1, tq_part (Nat.zero_le _) z.2 vr⟩) (fun z => ⟨z.1, tq_part (Nat.le_refl _) z.2 vr⟩)⟩ (by omega) (by omega)
        · rw [en]; simp only [List.length_append, List.length_cons, List.length_nil]; omega
        · simp only [List.length_append, List.length_cons, List.length_nil]; omega
        · rw [en]; simpa only [List.append_assoc] using c2
        · simpa only [List.append_assoc] using j3
        · rw [en]; simp only [List.length_append, List.length_cons, List.length_nil]; omega
        · simp only [List.length_append, List.length_cons, List.length_nil]; omega
      · subst ey
        rw [if_pos rfl]
        refine kon_0 (par_mono (sk_sum8 fu m w1 _ I2 (bd_n bd)) (fun _ I4 f4 => ouq_bad (bd_fst bd f4)))
    rw [xp_end (fun x => c42 (by have := e142.mp x; omega)) (fun x => c47 (by have := e147.mp x; omega))]
    show par2 _ (konT fu m3 w1 1 J) _
    unfold konT
    rw [if_neg (by decide)]
    by_cases cpm : T.K t = 43 ∨ T.K t = 45
    · -- plus, minus
      have htn : t < T.n := by have := hkd.2.1; omega
      obtain ⟨how, hhow⟩ : ∃ how : Int, (T.K t = 43 ∧ how = -1) ∨ (T.K t = 45 ∧ how = -2) := by
        rcases cpm with q | q
        · exact ⟨-1, Or.inl ⟨q, rfl⟩⟩
        · exact ⟨-2, Or.inr ⟨q, rfl⟩⟩
      rw [cs_go how (by rw [hK]; exact hhow) hwb h10]
      have go : ∀ (it' : List (Int × Int)) (I1 J1 : IMem) (m3 : Nat), CTk T (t + 1) (xs0 ++ enc it') I1 → JTk T d t (ps0 ++ it') J1 → (enc it').length + t0 ≤ t → it'.length + t0 ≤ t → TYQ 4 T.s it' [false] → par2 (zb (f_R_readUnit fu 144 I1) fun _ I20 => f_R_readSum_8 fu (kSum fu) 144 m how (w2 + 1) I20) (f_X_sumUp_9 fu 0 m3 J1) (OUQ 4 false T d t0 xs0 ps0) := by
        intro it' I1 J1 m3 c1 j1 l1 l2 l3
        cases m3 with
        | zero => exact par2_nr
        | succ m3 =>
        rw [xs_go (if how = -1 then 12 else 13) (by
          have hJ1 := j1.2.2.2.2.1
          rw [hJ1, ← hJ]
          rcases hhow with ⟨q, e⟩ | ⟨q, e⟩
          · exact Or.inl ⟨e143.mpr (by omega), if_pos e⟩
          · exact Or.inr ⟨e145.mpr (by omega), if_neg (by omega)⟩)]
        refine par2_br (jt_next fu ho j1 htn) (fun _ J2 j2 => ?_)
        unfold f_X_product
        rw [zb_assoc]
        have ps2 : PSt T d (t + 1) (xs0 ++ enc it') (ps0 ++ it') I1 J2 := ⟨ho, c1, j2, htn, by rw [List.length_append]; omega, by rw [List.length_append]; omega⟩
        refine par2_b (unit2q fu ps2) (fun _ I3 y J3 _ _ ou => ?_)
        rcases ou with ⟨ey, t2, it2, g1, g2, g3, g4, g5⟩ | ⟨ey, bd⟩
        · rw [if_neg (by omega)]
          have hkon : (fun (y12 : Int) (I13 : IMem) => if y12 = 0 then zr 0 I13 else zb (f_X_lay fu 0 (if how = -1 then 12 else 13) 0 I13) fun _ I16 => f_X_sumUp_9 fu 0 m3 I16) = konT fu m3 how := by
            unfold konT
            funext y12 I13
            rw [if_neg (c := how = 0) (by omega)]
          rw [hkon]
          have en : enc (it' ++ it2) = enc it' ++ enc it2 := enc_app _ _
          refine ih fu m3 how (w2 + 1) t2 (it' ++ it2) I3 J3 ⟨1, Or.inr ⟨by omega, rfl⟩, by omega, ?_, ?_, ?_, h5, h6, Or.inr ⟨by omega, tq_more l3 g5⟩⟩ (by omega) (by omega)
          · rw [en, List.length_append]; omega
          · rw [List.length_append]; omega
          · rw [en, ← List.append_assoc, ← List.append_assoc]; exact g4
        · subst ey
          rw [if_pos rfl]
          show par2 _ (zr 0 J3) _
          exact par2_l (par_mono (sk_sum8 fu m _ _ I3 (bd_n bd)) (fun _ I4 f4 => ouq_bad (bd_fst bd f4)))
      refine par2_bl (ct_adv fu ho hc htn) (fun _ I1 c1 => ?_)
      by_cases hw : w1 = 0
      · rw [if_pos hw, if_pos hw]
        exact go it I1 J m3 c1 hj (by omega) (by omega) (h7.elim (fun z => z.2) (fun z => absurd hw z.1))
      · rw [if_neg hw, if_neg hw]
        rcases hk with ⟨e, _⟩ | ⟨e, ek⟩
        · exact absurd e hw
        have gl := lay_w (xs := xs0 ++ enc it) (ps := ps0 ++ it) fu w1 e ho c1 (by rw [List.length_append]; omega) hj (by rw [List.length_append]; omega)
        have hl := wt_len (w1 := w1) (it := it)
        refine par2_bl gl.1 (fun _ I2 c2 => par2_br gl.2 (fun _ J2 j2 => ?_))
        refine go (it ++ [((if w1 = -1 then (12 : Int) else 13), 0)]) I2 J2 m3 ?_ ?_ ?_ ?_ ?_
        · rw [enc_app, ← List.append_assoc]; exact c2
        · rw [← List.append_assoc]; exact j2
        · rw [enc_app, List.length_append, hl.1]; omega
        · rw [List.length_append, hl.2]; omega
        · rcases h7 with ⟨z, _⟩ | ⟨_, z⟩
          · exact absurd z hw
          · refine tq_lay ?_ z
            rcases e with e | e
            · rw [if_pos e]; exact Or.inl rfl
            · rw [if_neg (by omega)]; exact Or.inr (Or.inl rfl)
    · -- the end
      rw [cs_end (by rw [hK]; exact c42) (by rw [hK]; exact c47) (by rw [hK]; exact fun x => cpm (Or.inl x)) (by rw [hK]; exact fun x => cpm (Or.inr x)) hwb h10]
      unfold kSum
      have fin : ∀ (m3 : Nat) (J1 : IMem), J1 0 14 = J 0 14 → f_X_sumUp_9 fu 0 m3 J1 = none ∨ f_X_sumUp_9 fu 0 m3 J1 = zr 1 J1 := by
        intro m3 J1 e
        cases m3 with
        | zero => exact Or.inl rfl
        | succ m3 => exact Or.inr (xs_end (by rw [e]; exact fun x => cpm (Or.inl (by have := e143.mp x; omega))) (by rw [e]; exact fun x => cpm (Or.inr (by have := e145.mp x; omega))))
      by_cases hw : w1 = 0
      · rw [if_pos hw, if_pos hw]
        rcases fin m3 J rfl with e | e
        · rw [e]; exact par2_nr
        · rw [e]
          exact par2_end (Or.inl ⟨rfl, t, it, h1, by omega, by omega, hps, h7.elim (fun z => z.2) (fun z => absurd hw z.1)⟩)
      · rw [if_neg hw, if_neg hw]
        obtain ⟨it', p1, p2, l1, l2, l3⟩ := lp_layq fu hw h
        refine par2_bl p1 (fun _ I2 c2 => par2_br p2 (fun _ J2 j2 => ?_))
        rcases fin m3 J2 (j2.2.2.2.2.1.trans hJ.symm) with e | e
        · rw [e]; exact par2_nr
        · rw [e]
          exact par2_end (Or.inl ⟨rfl, t, it', h1, l1, l2, ⟨ho, c2, j2, ht, by rw [List.length_append]; omega, by rw [List.length_append]; omega⟩, l3⟩)
theorem sum2q {T : TXT} {d : Int} {t : Nat} {xs : List Int} {ps : List (Int × Int)} {I J : IMem} (fu : Nat) (h : PSt T d t xs ps I J) : par2 (f_R_readSum fu 144 I) (f_X_sumUp fu 0 J) (OUQ 4 false T d t xs ps) := by
  unfold f_R_readSum f_X_sumUp f_X_product
  rw [zb_assoc]
  refine par2_b (unit2q fu h) (fun _ I1 y J1 _ _ ou => ?_)
  rcases ou with ⟨ey, t2, it2, g1, g2, g3, g4, g5⟩ | ⟨ey, bd⟩
  · rw [if_neg (by omega)]
    have hkon : (fun (y1 : Int) (I2 : IMem) => if y1 = 0 then zr 0 I2 else f_X_sumUp_9 fu 0 fu I2) = konT fu fu 0 := by
      unfold konT
      funext y1 I2
      rw [if_pos (c := (0 : Int) = 0) rfl]
    rw [hkon]
    exact sum8q fu fu fu fu 0 0 t2 it2 I1 J1 ⟨0, Or.inl ⟨rfl, rfl⟩, g1, by omega, by omega, g4, h.2.2.2.2.1, h.2.2.2.2.2, Or.inl ⟨rfl, tyq_mono g5 (by decide)⟩⟩ (by omega) (by omega)
  · subst ey
    rw [if_pos rfl]
    show par2 _ (zr 0 J1) _
    exact par2_l (par_mono (sk_sum8 fu fu _ _ I1 (bd_n bd)) (fun _ I4 f4 => ouq_bad (bd_fst bd f4)))

/-! tests, typed -/
def BQ (a : Int) : Nat := 5 + 2 * (8 - a).toNat
theorem bq_s {a : Int} (h : 0 ≤ a ∧ a < 8) : BQ (a + 1) + 2 = BQ a := by unfold BQ; omega
theorem bq_5 (a : Int) : 5 ≤ BQ a := by unfold BQ; omega
def TCq (fu k k' : Nat) (T : TXT) : Prop := ∀ (a : Int) (t : Nat) (xs : List Int) (ps : List (Int × Int)) (I J : IMem), 0 ≤ a → a ≤ 8 → PSt T a t xs ps I J → par2 ((gRD fu k).2 144 a I) ((gXA fu k').2.2 0 J) (OUQ (BQ a) true T a t xs ps)
def ECq (fu k k' : Nat) (T : TXT) : Prop := ∀ (a : Int) (t : Nat) (xs : List Int) (ps : List (Int × Int)) (I J : IMem), 0 ≤ a → a ≤ 8 → PSt T a t xs ps I J → par2 ((gRD fu k).1 144 a I) ((gXA fu k').1 0 J) (OUQ (BQ a + 2) true T a t xs ps)
def LPr (T : TXT) (d : Int) (t0 t : Nat) (xs0 : List Int) (ps0 it : List (Int × Int)) (w : Int) (I J : IMem) : Prop := ∃ k : Nat, ((w = 0 ∧ k = 0) ∨ (w = 1 ∧ k = 1)) ∧ t0 < t ∧ (enc it).length + k + t0 ≤ t ∧ it.length + k + t0 ≤ t ∧ PSt T d t (xs0 ++ enc it) (ps0 ++ it) I J ∧ xs0.length ≤ t0 ∧ ps0.length ≤ t0 ∧ ((w = 0 ∧ TYQ (BQ d + 2) T.s it [true]) ∨ (w ≠ 0 ∧ TYQ (BQ d + 2) T.s it [true, true]))
theorem ei9q {T : TXT} {a : Int} {t0 : Nat} {xs0 : List Int} {ps0 : List (Int × Int)} (fu k k' : Nat) (ha0 : 0 ≤ a ∧ a ≤ 8) (tc : TCq fu k k' T) : ∀ (m m2 m3 : Nat) (w2 w3 : Int) (t : Nat) (it : List (Int × Int)) (I J : IMem), LPr T a t0 t xs0 ps0 it w2 I J → 0 ≤ w3 → w3 < t → par2 (f_R_readEither_9 fu (gRD fu k) (kEi fu) 144 a m w2 w3 I) (zb (f_X_every_9 fu (gXA fu k') 0 m2 J) (konA fu k' m3 w2)) (OUQ (BQ a + 2) true T a t0 xs0 ps0) := by
  intro m
  induction m with
  | zero => intro m2 m3 w1 w2 t it I J _ _ _; exact par2_nl
  | succ m ih =>
    intro m2 m3 w1 w2 t it I J h hw0 hw2
    cases m2 with
    | zero => intro x I' y J' e1 e2; cases e2
    | succ m2 =>
    have h0 := h
    obtain ⟨k1, hk, h1, h2, h3, hps, h5, h6, h7⟩ := h0
    have b5 := bq_5 a
    have hps0 := hps
    obtain ⟨ho, hc, hj, ht, hx, hp⟩ := hps0
    have hn := ho.1.2.1
    have hkd := okt_k ho ht
    obtain ⟨a0, a2, a3, a4, a5, a6, a7, aU, aS, aE⟩ := tm_all (s := T.s) hkd.1
    have hK := hc.2.1
    have h10 := hc.2.2.2.1
    have hJ := hj.2.2.2.2.1
    rw [← hJ] at a4 a5
    have hlx := hx
    have hlp := hp
    rw [List.length_append] at hlx hlp
    have hwb : 0 ≤ w2 ∧ w2 < 400 := by omega
    by_cases c3 : T.K t = 3
    · -- and
      have htn : t < T.n := by have := hkd.2.1; omega
      rw [ce_and (hK.trans c3) hwb h10, xe_and (a5.mpr c3), zb_assoc]
      refine par2_bl (ct_adv fu ho hc htn) (fun _ I1 c1 => par2_br (jt_next fu ho hj htn) (fun _ J1 j1 => ?_))
      rw [zb_assoc]
      have ps1 : PSt T a (t + 1) (xs0 ++ enc it) (ps0 ++ it) I1 J1 := ⟨ho, c1, j1, htn, by omega, by omega⟩
      refine par2_b (tc a _ _ _ I1 J1 ha0.1 ha0.2 ps1) (fun _ I2 y J2 _ _ ou => ?_)
      rcases ou with ⟨ey, t2, it2, g1, g2, g3, g4, g5⟩ | ⟨ey, bd⟩
      · rw [if_neg (by omega), zb_assoc]
        obtain ⟨_, c2, j2, ht2, hx2, hp2⟩ := g4
        have l2 := hx2
        have lp2 := hp2
        rw [List.length_append, List.length_append] at l2 lp2
        refine par2_bl (ct_add fu (-8) c2 (by rw [List.length_append, List.length_append]; omega)) (fun _ I3 c3 => par2_br (jt_lay fu 20 0 j2 (by rw [List.length_append, List.length_append]; omega)) (fun _ J3 j3 => ?_))
        have en : enc (it ++ (it2 ++ [(20, 0)])) = enc it ++ (enc it2 ++ [-8]) := by rw [enc_app, enc_app, enc_one]; rfl
        refine ih m2 m3 w1 (w2 + 1) t2 (it ++ (it2 ++ [(20, 0)])) I3 J3 ⟨k1, hk, by omega, ?_, ?_, ⟨ho, ?_, ?_, ht2, ?_, ?_⟩, h5, h6, h7.imp (fun z => ⟨z.1, tq_log (Or.inl rfl) (Nat.zero_le _) (by omega) z.2 g5⟩) (fun z => ⟨z.1, tq_log (Or.inl rfl) (Nat.le_refl _) (by omega) z.2 g5⟩)⟩ (by omega) (by omega)
        · rw [en]; simp only [List.length_append, List.length_cons, List.length_nil]; omega
        · simp only [List.length_append, List.length_cons, List.length_nil]; omega
        · rw [en]; simpa only [List.append_assoc] using c3
        · simpa only [List.append_assoc] using j3
        · rw [en]; simp only [List.length_append, List.length_cons, List.length_nil]; omega
        · simp only [List.length_append, List.length_cons, List.length_nil]; omega
      · subst ey
        rw [if_pos rfl]
        refine konA_0 (par_zb (sk_add fu _ I2) (fun _ I3 f3 => par_mono (sk_ei9 fu _ a m w1 _ I3 (fst_n f3 (bd_n bd))) (fun _ I4 f4 => ouq_bad (bd_fst bd (fst_t f3 f4)))))
    rw [xe_end (fun x => c3 (a5.mp x))]
    show par2 _ (konA fu k' m3 w1 1 J) _
    unfold konA
    rw [if_neg (by decide)]
    by_cases c2 : T.K t = 2
    · -- or
      have htn : t < T.n := by have := hkd.2.1; omega
      rw [ce_or (hK.trans c2) hwb h10]
      have go : ∀ (it' : List (Int × Int)) (I1 J1 : IMem) (m3 : Nat), CTk T (t + 1) (xs0 ++ enc it') I1 → JTk T a t (ps0 ++ it') J1 → (enc it').length + t0 ≤ t → it'.length + t0 ≤ t → TYQ (BQ a + 2) T.s it' [true] → par2 (zb ((gRD fu k).2 144 a I1) fun _ I15 => f_R_readEither_9 fu (gRD fu k) (kEi fu) 144 a m 1 (w2 + 1) I15) (f_X_any_9 fu (gXA fu (k' + 1)) 0 m3 J1) (OUQ (BQ a + 2) true T a t0 xs0 ps0) := by
        intro it' I1 J1 m3 c1 j1 l1 l2 l3
        cases m3 with
        | zero => exact par2_nr
        | succ m3 =>
        rw [xa_or (by rw [j1.2.2.2.2.1, ← hJ]; exact a4.mpr c2)]
        refine par2_br (jt_next fu ho j1 htn) (fun _ J2 j2 => ?_)
        show par2 _ (zb (fb_X_every fu (gXA fu k') 0 J2) _) _
        unfold fb_X_every
        rw [zb_assoc]
        have ps2 : PSt T a (t + 1) (xs0 ++ enc it') (ps0 ++ it') I1 J2 := ⟨ho, c1, j2, htn, by rw [List.length_append]; omega, by rw [List.length_append]; omega⟩
        refine par2_b (tc a _ _ _ I1 J2 ha0.1 ha0.2 ps2) (fun _ I3 y J3 _ _ ou => ?_)
        rcases ou with ⟨ey, t2, it2, g1, g2, g3, g4, g5⟩ | ⟨ey, bd⟩
        · rw [if_neg (by omega)]
          have hkon : (fun (y7 : Int) (I8 : IMem) => if y7 = 0 then zr 0 I8 else zb (f_X_lay fu 0 21 0 I8) fun _ I11 => f_X_any_9 fu (gXA fu (k' + 1)) 0 m3 I11) = konA fu k' m3 1 := by
            unfold konA
            funext y12 I13
            rw [if_neg (c := (1 : Int) = 0) (by decide)]
          rw [hkon]
          have en : enc (it' ++ it2) = enc it' ++ enc it2 := enc_app _ _
          refine ih fu m3 1 (w2 + 1) t2 (it' ++ it2) I3 J3 ⟨1, Or.inr ⟨rfl, rfl⟩, by omega, ?_, ?_, ?_, h5, h6, Or.inr ⟨by decide, tq_more2 l3 g5⟩⟩ (by omega) (by omega)
          · rw [en, List.length_append]; omega
          · rw [List.length_append]; omega
          · rw [en, ← List.append_assoc, ← List.append_assoc]; exact g4
        · subst ey
          rw [if_pos rfl]
          show par2 _ (zr 0 J3) _
          exact par2_l (par_mono (sk_ei9 fu _ a m _ _ I3 (bd_n bd)) (fun _ I4 f4 => ouq_bad (bd_fst bd f4)))
      refine par2_bl (ct_adv fu ho hc htn) (fun _ I1 c1 => ?_)
      by_cases hw : w1 = 0
      · rw [if_pos hw, if_pos hw]
        exact go it I1 J m3 c1 hj (by omega) (by omega) (h7.elim (fun z => z.2) (fun z => absurd hw z.1))
      · rw [if_neg hw, if_neg hw]
        rcases hk with ⟨e, _⟩ | ⟨e, ek⟩
        · exact absurd e hw
        refine par2_bl (ct_add fu (-9) c1 (by rw [List.length_append]; omega)) (fun _ I2 c2 => par2_br (jt_lay fu 21 0 hj (by rw [List.length_append]; omega)) (fun _ J2 j2 => ?_))
        have en : enc (it ++ [(21, 0)]) = enc it ++ [-9] := by rw [enc_app, enc_one]; rfl
        refine go (it ++ [(21, 0)]) I2 J2 m3 ?_ ?_ ?_ ?_ (h7.elim (fun z => absurd z.1 hw) (fun z => tq_lay2 (Or.inr rfl) (by omega) z.2))
        · rw [en, ← List.append_assoc]; exact c2
        · rw [← List.append_assoc]; exact j2
        · rw [en, List.length_append]; show (enc it).length + 1 + t0 ≤ t; omega
        · rw [List.length_append]; show it.length + 1 + t0 ≤ t; omega
    · -- the end
      rw [ce_end (by rw [hK]; exact c2) (by rw [hK]; exact c3) hwb h10]
      unfold kEi
      have fin : ∀ (m3 : Nat) (J1 : IMem), J1 0 14 = J 0 14 → f_X_any_9 fu (gXA fu (k' + 1)) 0 m3 J1 = none ∨ f_X_any_9 fu (gXA fu (k' + 1)) 0 m3 J1 = zr 1 J1 := by
        intro m3 J1 e
        cases m3 with
        | zero => exact Or.inl rfl
        | succ m3 => exact Or.inr (xa_end (by rw [e]; exact fun x => c2 (a4.mp x)))
      by_cases hw : w1 = 0
      · rw [if_pos hw, if_pos hw]
        rcases fin m3 J rfl with e | e
        · rw [e]; exact par2_nr
        · rw [e]
          exact par2_end (Or.inl ⟨rfl, t, it, h1, by omega, by omega, hps, h7.elim (fun z => z.2) (fun z => absurd hw z.1)⟩)
      · rw [if_neg hw, if_neg hw]
        rcases hk with ⟨e, _⟩ | ⟨e, ek⟩
        · exact absurd e hw
        have en : enc (it ++ [(21, 0)]) = enc it ++ [-9] := by rw [enc_app, enc_one]; rfl
        refine par2_bl (ct_add fu (-9) hc (by rw [List.length_append]; omega)) (fun _ I2 c2' => par2_br (jt_lay fu 21 0 hj (by rw [List.length_append]; omega)) (fun _ J2 j2 => ?_))
        rcases fin m3 J2 (j2.2.2.2.2.1.trans hJ.symm) with e | e
        · rw [e]; exact par2_nr
        · rw [e]
          refine par2_end (Or.inl ⟨rfl, t, it ++ [(21, 0)], h1, ?_, ?_, ⟨ho, ?_, ?_, ht, ?_, ?_⟩, h7.elim (fun z => absurd z.1 hw) (fun z => tq_lay2 (Or.inr rfl) (by omega) z.2)⟩)
          · rw [en, List.length_append]; show (enc it).length + 1 + t0 ≤ t; omega
          · rw [List.length_append]; show it.length + 1 + t0 ≤ t; omega
          · rw [en, ← List.append_assoc]; exact c2'
          · rw [← List.append_assoc]; exact j2
          · rw [en, List.length_append, List.length_append]; show xs0.length + ((enc it).length + 1) ≤ t; omega
          · rw [List.length_append, List.length_append]; show ps0.length + (it.length + 1) ≤ t; omega
theorem either2q (fu k : Nat) (T : TXT) (tc : ∀ k', TCq fu k k' T) : ∀ k', ECq fu (k + 1) k' T := by
  intro k' a t xs ps I J ha0 ha8 h
  cases k' with
  | zero => exact par2_nr
  | succ k' =>
  cases k' with
  | zero => intro x I' y J' e1 e2; cases e2
  | succ k' =>
  show par2 (fb_R_readEither fu (gRD fu k) 144 a I) (fb_X_any fu (gXA fu (k' + 1)) 0 J) _
  unfold fb_R_readEither fb_X_any
  show par2 _ (zb (fb_X_every fu (gXA fu k') 0 J) _) _
  unfold fb_X_every
  rw [zb_assoc]
  refine par2_b (tc k' a t xs ps I J ha0 ha8 h) (fun _ I1 y J1 _ _ ou => ?_)
  rcases ou with ⟨ey, t2, it2, g1, g2, g3, g4, g5⟩ | ⟨ey, bd⟩
  · rw [if_neg (by omega)]
    have hkon : (fun (y1 : Int) (I2 : IMem) => if y1 = 0 then zr 0 I2 else f_X_any_9 fu (gXA fu (k' + 1)) 0 fu I2) = konA fu k' fu 0 := by
      unfold konA
      funext y1 I2
      rw [if_pos (c := (0 : Int) = 0) rfl]
    rw [hkon]
    exact ei9q fu k k' ⟨ha0, ha8⟩ (tc k') fu fu fu 0 0 t2 it2 I1 J1 ⟨0, Or.inl ⟨rfl, rfl⟩, g1, by omega, by omega, g4, h.2.2.2.2.1, h.2.2.2.2.2, Or.inl ⟨rfl, tyq_mono g5 (by omega)⟩⟩ (by omega) (by omega)
  · subst ey
    rw [if_pos rfl]
    show par2 _ (zr 0 J1) _
    exact par2_l (par_mono (sk_ei9 fu _ a fu _ _ I1 (bd_n bd)) (fun _ I4 f4 => ouq_bad (bd_fst bd f4)))

theorem test2q (fu k : Nat) (T : TXT) (tc : ∀ k', TCq fu k k' T) (ec : ∀ k', ECq fu k k' T) : ∀ k', TCq fu (k + 1) k' T := by
  intro k' a t xs ps I J ha0 ha8 h
  cases k' with
  | zero => exact par2_nr
  | succ k' =>
  show par2 (fb_R_readTest fu (gRD fu k) 144 a I) (fb_X_one fu (gXA fu k') 0 J) _
  have b5 := bq_5 a
  have h' := h
  obtain ⟨ho, hc, hj, ht, hx, hp⟩ := h'
  have hn := ho.1.2.1
  have hkd := okt_k ho ht
  obtain ⟨a0, a2, a3, a4, a5, a6, a7, aU, aS, aE⟩ := tm_all (s := T.s) hkd.1
  have hK := hc.2.1
  have h10 := hc.2.2.2.1
  have hJ := hj.2.2.2.2.1
  have e140 := aS 140 (by omega)
  rw [← hJ] at a6 e140
  by_cases c4 : T.K t = 4 ∨ T.K t = 40
  · by_cases h8 : a < 8
    · have htn : t < T.n := by have := hkd.2.1; omega
      rcases c4 with c4 | c40
      · rw [te_not (hK.trans c4) ⟨ha0, h8⟩ h10, on_not (a6.mpr c4)]
        refine par2_bl (ct_adv fu ho hc htn) (fun _ I1 c1 => par2_br (jt_open fu ho hj ⟨ha0, h8⟩ htn) (fun y1 J1 j1 => ?_))
        rw [if_neg (by omega)]
        have ps1 : PSt T (a + 1) (t + 1) xs ps I1 J1 := ⟨ho, c1, j1.2, htn, by omega, by omega⟩
        refine par2_b (tc k' (a + 1) _ _ _ I1 J1 (by omega) (by omega) ps1) (fun _ I2 y J2 _ _ ou => ?_)
        rcases ou with ⟨ey, t2, it2, g1, g2, g3, g4, g5⟩ | ⟨ey, bd⟩
        · rw [if_neg (by omega)]
          obtain ⟨_, c2, j2, ht2, hx2, hp2⟩ := g4
          have l2 := hx2
          have lp2 := hp2
          rw [List.length_append] at l2 lp2
          rw [j2.2.2.2.2.2.2.1, wr32_i2 (x := a + 1 - 1) (by omega) (by omega), show a + 1 - 1 = a by omega]
          refine par2_zwr ?_
          refine par2_bl (ct_add fu (-10) c2 (by rw [List.length_append]; omega)) (fun _ I3 c3 => par2_br (jt_lay fu 19 0 (jt_d a j2) (by rw [List.length_append]; omega)) (fun _ J3 j3 => ?_))
          have en : enc (it2 ++ [(19, 0)]) = enc it2 ++ [-10] := by rw [enc_app, enc_one]; rfl
          refine par2_end (Or.inl ⟨rfl, t2, it2 ++ [(19, 0)], by omega, ?_, ?_, ⟨ho, ?_, ?_, ht2, ?_, ?_⟩, tq_not (by omega) (tyq_mono g5 (by have := bq_s ⟨ha0, h8⟩; omega))⟩)
          · rw [en]; simp only [List.length_append, List.length_cons, List.length_nil]; omega
          · simp only [List.length_append, List.length_cons, List.length_nil]; omega
          · rw [en]; simpa only [List.append_assoc] using c3
          · simpa only [List.append_assoc] using j3
          · rw [en]; simp only [List.length_append, List.length_cons, List.length_nil]; omega
          · simp only [List.length_append, List.length_cons, List.length_nil]; omega
        · subst ey
          rw [if_pos rfl]
          exact par2_l (par_zb (sk_add fu _ I2) (fun _ I3 f3 => par_zr (ouq_bad (bd_fst bd f3))))
      · rw [te_par (hK.trans c40) ⟨ha0, h8⟩ h10, on_par (e140.mpr (by omega))]
        refine par2_bl (ct_adv fu ho hc htn) (fun _ I1 c1 => par2_br (jt_open fu ho hj ⟨ha0, h8⟩ htn) (fun y1 J1 j1 => ?_))
        rw [if_neg (by omega)]
        have ps1 : PSt T (a + 1) (t + 1) xs ps I1 J1 := ⟨ho, c1, j1.2, htn, by omega, by omega⟩
        refine par2_b (ec k' (a + 1) _ _ _ I1 J1 (by omega) (by omega) ps1) (fun _ I2 y J2 _ _ ou => ?_)
        rcases ou with ⟨ey, t2, it2, g1, g2, g3, g4, g5⟩ | ⟨ey, bd⟩
        · rw [if_neg (by omega)]
          obtain ⟨_, c2, j2, ht2, hx2, hp2⟩ := g4
          have l2 := hx2
          have lp2 := hp2
          rw [List.length_append] at l2 lp2
          have e141 := (tm_all (s := T.s) (okt_k ho ht2).1).2.2.2.2.2.2.2.2.1 141 (by omega)
          refine par2_bl (ct_exp fu 41 ho c2 ht2 (by decide)) (fun _ I3 c3 => par2_br (jt_need fu ho j2 ht2 141 41 e141 (by decide)) (fun y3 J3 j3 => ?_))
          rcases c3 with ⟨q1, q2, q3⟩ | ⟨q1, q2⟩
          · rcases j3 with ⟨r1, r2, r3⟩ | ⟨r1, r2, r3⟩
            · rw [if_neg (by omega), r3.2.2.2.2.2.2.1, wr32_i2 (x := a + 1 - 1) (by omega) (by omega), show a + 1 - 1 = a by omega]
              refine par2_zwr (par2_end (Or.inl ⟨rfl, t2 + 1, it2, by omega, by omega, by omega, ⟨ho, q2, jt_d a r3, q3, by rw [List.length_append]; omega, by rw [List.length_append]; omega⟩, tyq_mono g5 (by have := bq_s ⟨ha0, h8⟩; omega)⟩))
            · exact absurd q1 r1
          · rcases j3 with ⟨r1, r2, r3⟩ | ⟨r1, r2, r3⟩
            · exact absurd r1 q1
            · rw [if_pos r2]
              exact par2_end (ouq_bad ⟨1, _, by decide, q2, r3⟩)
        · subst ey
          rw [if_pos rfl]
          exact par2_l (par_zb (sk_exp fu _ (bd_n bd)) (fun _ I3 f3 => par_zr (ouq_bad (bd_fst bd f3))))
    · have e8 : a = 8 := by omega
      rw [te_deep (by rw [hK]; exact c4) h8 h10]
      have op : par (f_X_opens fu 0 J) (fun y J' => y = 0 ∧ JF J' 3 (T.P t)) := by
        unfold f_X_opens
        rw [hj.2.2.2.2.2.2.1, if_pos e8]
        exact par_zb (jt_bad fu 3 hj) (fun y J1 g => par_zg (fun _ => par_zr g))
      have fin : ∀ J1, JF J1 3 (T.P t) → par2 (zb (f_R_fail fu 144 3 I) fun _ I44 => zr 0 I44) (zr 0 J1) (OUQ (BQ a) true T a t xs ps) := fun J1 j1 => par2_l (par_zb (ct_fail fu 3 ho hc ht) (fun _ I1 c1 => par_zr (ouq_bad ⟨3, _, by decide, c1, j1⟩)))
      rcases c4 with c4 | c40
      · rw [on_not (a6.mpr c4)]
        refine par2_br op (fun y1 J1 j1 => ?_)
        rw [if_pos j1.1]
        exact fin J1 j1.2
      · rw [on_par (e140.mpr (by omega))]
        refine par2_br op (fun y1 J1 j1 => ?_)
        rw [if_pos j1.1]
        exact fin J1 j1.2
  · rw [te_cmp (by rw [hK]; exact fun x => c4 (Or.inl x)) (by rw [hK]; exact fun x => c4 (Or.inr x)) h10, on_cmp (fun x => c4 (Or.inl (a6.mp x))) (fun x => c4 (Or.inr (by have := e140.mp x; omega)))]
    refine par2_b (sum2q fu h) (fun _ I2 y J2 _ _ ou => ?_)
    rcases ou with ⟨ey, t2, it2, g1, g2, g3, g4, g5⟩ | ⟨ey, bd⟩
    · rw [if_neg (by omega)]
      have g4' := g4
      obtain ⟨_, c2, j2, ht2, hx2, hp2⟩ := g4'
      have l2 := hx2
      have lp2 := hp2
      rw [List.length_append] at l2 lp2
      have aS2 := (tm_all (s := T.s) (okt_k ho ht2).1).2.2.2.2.2.2.2.2.1
      have e160 := aS2 160 (by omega)
      have e161 := aS2 161 (by omega)
      have e162 := aS2 162 (by omega)
      rw [j2.2.2.2.2.1, c2.2.1]
      have hdue : dueZ (T.K t2) ≠ 17 := by unfold dueZ; split <;> (try split) <;> omega
      refine par2_bl (ct_exp fu _ ho c2 ht2 hdue) (fun _ I3 c3 => ?_)
      by_cases cc : T.K t2 = 60 ∨ T.K t2 = 61 ∨ T.K t2 = 62
      · have hh : howZ (tm T.s (T.K t2)) ≠ -1 ∧ dueZ (T.K t2) = T.K t2 ∧ enI (howZ (tm T.s (T.K t2)), 0) = [opZ (T.K t2)] := by
          rcases cc with q | q | q
          · have := e160.mpr (by omega); rw [this, q]; exact ⟨by decide, rfl, rfl⟩
          · have := e161.mpr (by omega); rw [this, q]; exact ⟨by decide, rfl, rfl⟩
          · have := e162.mpr (by omega); rw [this, q]; exact ⟨by decide, rfl, rfl⟩
        have hh3 : howZ (tm T.s (T.K t2)) = 16 ∨ howZ (tm T.s (T.K t2)) = 17 ∨ howZ (tm T.s (T.K t2)) = 18 := by
          rcases cc with q | q | q
          · have := e160.mpr (by omega); rw [this]; exact Or.inl rfl
          · have := e161.mpr (by omega); rw [this]; exact Or.inr (Or.inl rfl)
          · have := e162.mpr (by omega); rw [this]; exact Or.inr (Or.inr rfl)
        rw [if_neg hh.1]
        rcases c3 with ⟨q1, q2, q3⟩ | ⟨q1, q2⟩
        · refine par2_br (jt_next fu ho j2 q3) (fun _ J3 j3 => ?_)
          have ps3 : PSt T a (t2 + 1) (xs ++ enc it2) (ps ++ it2) I3 J3 := ⟨ho, q2, j3, q3, by rw [List.length_append]; omega, by rw [List.length_append]; omega⟩
          refine par2_b (sum2q fu ps3) (fun _ I4 y4 J4 _ _ ou => ?_)
          rcases ou with ⟨ey4, t4, it4, k1, k2, k3, k4, k5⟩ | ⟨ey4, bd⟩
          · rw [if_neg (by omega)]
            obtain ⟨_, c4', j4, ht4, hx4, hp4⟩ := k4
            have l4 := hx4
            have lp4 := hp4
            rw [List.length_append, List.length_append] at l4 lp4
            refine par2_bl (ct_add fu _ c4' (by rw [List.length_append, List.length_append]; omega)) (fun _ I5 c5 => par2_br (jt_lay fu _ 0 j4 (by rw [List.length_append, List.length_append]; omega)) (fun _ J5 j5 => ?_))
            have en : enc (it2 ++ (it4 ++ [(howZ (tm T.s (T.K t2)), 0)])) = enc it2 ++ (enc it4 ++ [opZ (T.K t2)]) := by rw [enc_app, enc_app, enc_one, hh.2.2]
            refine par2_end (Or.inl ⟨rfl, t4, it2 ++ (it4 ++ [(howZ (tm T.s (T.K t2)), 0)]), by omega, ?_, ?_, ⟨ho, ?_, ?_, ht4, ?_, ?_⟩, tyq_mono (tq_cmp hh3 g5 k5) b5⟩)
            · rw [en]; simp only [List.length_append, List.length_cons, List.length_nil]; omega
            · simp only [List.length_append, List.length_cons, List.length_nil]; omega
            · rw [en]; simpa only [List.append_assoc] using c5
            · simpa only [List.append_assoc] using j5
            · rw [en]; simp only [List.length_append, List.length_cons, List.length_nil]; omega
            · simp only [List.length_append, List.length_cons, List.length_nil]; omega
          · subst ey4
            rw [if_pos rfl]
            exact par2_l (par_zb (sk_add fu _ I4) (fun _ I5 f5 => par_zr (ouq_bad (bd_fst bd f5))))
        · exact absurd hh.2.1.symm q1
      · have hh : howZ (tm T.s (T.K t2)) = -1 ∧ dueZ (T.K t2) = 61 := by
          unfold howZ dueZ
          rw [if_neg (fun x => cc (by have := e160.mp x; omega)), if_neg (fun x => cc (by have := e161.mp x; omega)), if_neg (fun x => cc (by have := e162.mp x; omega)), if_neg (fun x => cc (by omega)), if_neg (fun x => cc (by omega))]
          exact ⟨rfl, rfl⟩
        rw [if_pos hh.1]
        rcases c3 with ⟨q1, q2, q3⟩ | ⟨q1, q2⟩
        · exact absurd (q1.trans hh.2) (fun x => cc (by omega))
        · refine par2_br (jt_bad fu 1 j2) (fun y3 J3 j3 => par2_gr (fun _ => ?_))
          rw [j3.1]
          have hf : I3 144 10 ≠ 0 := by rw [q2.1]; decide
          refine par2_l (par_zb (sk_sum fu hf) (fun _ I4 f4 => par_zb (sk_add fu _ I4) (fun _ I5 f5 => par_zr (ouq_bad (bd_fst (I := I3) ⟨1, _, by decide, q2, j3.2⟩ (fst_t f4 f5))))))
    · subst ey
      rw [if_pos rfl]
      refine par2_l (par_zb (sk_exp fu _ (bd_n bd)) (fun _ I3 f3 => par_zb (sk_sum fu (fst_n f3 (bd_n bd))) (fun _ I4 f4 => par_zb (sk_add fu _ I4) (fun _ I5 f5 => par_zr (ouq_bad (bd_fst bd (fst_t (fst_t f3 f4) f5)))))))
theorem tests_allq (fu : Nat) (T : TXT) : ∀ k, (∀ k', TCq fu k k' T) ∧ (∀ k', ECq fu k k' T) := by
  intro k
  induction k with
  | zero => exact ⟨fun k' a t xs ps I J _ _ _ => par2_nl, fun k' a t xs ps I J _ _ _ => par2_nl⟩
  | succ k ih => exact ⟨test2q fu k T ih.1 ih.2, either2q fu k T ih.1⟩
theorem any2q {T : TXT} {t : Nat} {xs : List Int} {ps : List (Int × Int)} {I J : IMem} (fu : Nat) (h : PSt T 0 t xs ps I J) : par2 (f_R_readEither fu 144 0 I) (f_X_any fu 0 J) (OUQ (BQ 0 + 2) true T 0 t xs ps) := (tests_allq fu T 40).2 60 0 t xs ps I J (by decide) (by decide) h

/-! a line of a TEXT, typed -/
def OULq (T : TXT) (t : Nat) (l : List LRec) (I : IMem) (y : Int) (J : IMem) : Prop := (y = 1 ∧ ∃ (t' : Nat) (r : LRec), t < t' ∧ PSt T 0 t' (XS T.s (l ++ [r])) (PX (l ++ [r])) I J ∧ LA T.s (l ++ [r]) I J ∧ I 149 4 = (l.length + 1 : Nat) ∧ J 0 10 = l.length ∧ l.length < 16 ∧ GRL T.s r) ∨ (y = 0 ∧ BDt I J)
theorem k14_2q {T : TXT} {t0 t : Nat} {l : List LRec} {E B : List (Int × Int)} {v : Int} {I J : IMem} (fu : Nat) (h0 : t0 ≤ t) (gE : T.s ≠ 4 → ∃ b, TYP 24 T.s E b) (gv : T.s = 4 → 0 ≤ v ∧ v ≤ 5) (gB : B = [] ∨ TYP 24 T.s B true) (hl : LHt T.s l E v True I J) (h : PSt T 0 t (XS T.s l ++ (ex T.s ⟨E, B, v⟩ ++ enc B)) (PX l ++ (E ++ B)) I J) : par2 (cK14 fu I) (xK16 fu J) (OULq T t0 l) := by
  obtain ⟨ho, hc, hj, ht, hx, hp⟩ := h
  obtain ⟨l1, l2, l3, l4, l5, l6, l7⟩ := hl
  obtain ⟨l8, l9⟩ := l7 trivial
  unfold cK14 xK16
  rw [l3, wr32_i2 (x := 4 * (l.length : Int)) (by omega) (by omega), wr32_i2 (x := 4 * (l.length : Int) + 3) (by omega) (by omega)]
  refine par2_zlr (par2_gr (fun _ => par2_zwr ?_))
  rw [show (4 * (l.length : Int) + 3).toNat = 4 * l.length + 3 by omega]
  have j1 : JTk T 0 t (PX l ++ (E ++ B)) (up J (0 + 4) (4 * l.length + 3) (J 0 11)) := jt_up4 hj
  have e3 : up J (0 + 4) (4 * l.length + 3) (J 0 11) 4 (4 * l.length + 3) = J 0 11 := if_pos ⟨rfl, rfl⟩
  have e4 : ∀ j, j ≠ 4 * l.length + 3 → up J (0 + 4) (4 * l.length + 3) (J 0 11) 4 j = J 4 j := fun j hj => up_j hj _
  have e5 : up J (0 + 4) (4 * l.length + 3) (J 0 11) 0 10 = J 0 10 := up_o (by omega) _
  generalize up J (0 + 4) (4 * l.length + 3) (J 0 11) = J1 at j1 e3 e4 e5
  have e159 := (tm_all (s := T.s) (okt_k ho ht).1).2.2.2.2.2.2.2.2.1 159 (by omega)
  refine par2_bl (par_and (ct_exp fu 59 ho hc ht (by decide)) (le_exp fu 59 I)) (fun _ I2 ⟨c2, lc2⟩ => par2_br (par_and (jt_need fu ho j1 ht 159 59 e159 (by decide)) (lx_need fu 159 J1)) (fun y2 J2 ⟨j2, lx2⟩ => ?_))
  refine par2_gr (fun _ => ?_)
  rcases c2 with ⟨q1, q2, q3⟩ | ⟨q1, q2⟩
  · rcases j2 with ⟨r1, r2, r3⟩ | ⟨r1, r2, r3⟩
    · rw [r2]
      refine par2_l ?_
      have b4 : I2 149 4 = l.length := lc2.2.2.trans l2
      have b1 := q2.2.2.2.2.2.2.2.1
      unfold f_W_closeLine
      refine par_zb (Q1 := fun _ I3 => CTk T (t + 1) (XS T.s l ++ (ex T.s ⟨E, B, v⟩ ++ enc B)) I3 ∧ I3 149 4 = (l.length + 1 : Nat) ∧ I3 151 (l.length + 1) = I2 149 1 ∧ (∀ j, j ≠ l.length + 1 → I3 151 j = I2 151 j) ∧ ∀ j, I3 152 j = I2 152 j) ?_ (fun _ I3 ⟨d1, d2, d3, d4, d5⟩ => par_zr ?_)
      · show par (if I2 149 4 < 0 then _ else _) _
        rw [b4, if_neg (by omega), if_pos (by omega), wr32_i2 (by omega) (by omega)]
        refine par_zw (par_zl (par_zg (fun _ => par_zw (par_zr ?_))))
        have a4 : up I2 149 4 ((l.length : Int) + 1) 149 4 = (l.length : Int) + 1 := if_pos ⟨rfl, rfl⟩
        show CTk T (t + 1) _ (up (up I2 149 4 ((l.length : Int) + 1)) (149 + 2) (up I2 149 4 ((l.length : Int) + 1) 149 4).toNat (up I2 149 4 ((l.length : Int) + 1) 149 1)) ∧ _
        rw [a4, show ((l.length : Int) + 1).toNat = l.length + 1 by omega]
        refine ⟨ct_up (ct_up q2 (by omega) (fun _ => by omega)) (by omega) (fun x => by omega), (up_o (by omega) _).trans a4, (if_pos ⟨rfl, rfl⟩).trans (up_j (by omega) _), fun j hj => (up_j hj _).trans (up_o (by omega) _), fun j => (up_o (by omega) _).trans (up_o (by omega) _)⟩
      · refine Or.inl ⟨rfl, t + 1, ⟨E, B, v⟩, by omega, ⟨ho, ?_, ?_, q3, ?_, ?_⟩, ?_, d2, lx2.2.trans (e5.trans l3), l4, ⟨gE, gB, gv⟩⟩
        · rw [xs_app]; exact d1
        · rw [px_app]; exact r3
        · rw [xs_app]; exact Nat.le_succ_of_le hx
        · rw [px_app]; exact Nat.le_succ_of_le hp
        · intro i r hr
          by_cases hi : i < l.length
          · rw [List.getElem?_append_left hi] at hr
            obtain ⟨k1, k2, k3, k4, k5, k6⟩ := l1 i r hr
            have t1 : (l ++ [(⟨E, B, v⟩ : LRec)]).take (i + 1) = l.take (i + 1) := List.take_append_of_le_length (by omega)
            have t2 : (l ++ [(⟨E, B, v⟩ : LRec)]).take i = l.take i := List.take_append_of_le_length (by omega)
            rw [t1, t2]
            exact ⟨(d4 _ (by omega)).trans ((lc2.1 _).trans k1), (d5 _).trans ((lc2.2.1 _).trans k2), (lx2.1 _).trans ((e4 _ (by omega)).trans k3), (lx2.1 _).trans ((e4 _ (by omega)).trans k4), (lx2.1 _).trans ((e4 _ (by omega)).trans k5), fun x => ⟨(k6 x).1, (lx2.1 _).trans ((e4 _ (by omega)).trans (k6 x).2)⟩⟩
          · have hlt := lt_of_get hr
            rw [List.length_append] at hlt
            have hi' : i = l.length := by simp only [List.length_cons, List.length_nil] at hlt; omega
            subst hi'
            rw [List.getElem?_append_right (Nat.le_refl _), Nat.sub_self] at hr
            cases hr
            have t1 : (l ++ [(⟨E, B, v⟩ : LRec)]).take (l.length + 1) = l ++ [⟨E, B, v⟩] := List.take_of_length_le (by rw [List.length_append]; exact Nat.le_refl _)
            have t2 : (l ++ [(⟨E, B, v⟩ : LRec)]).take l.length = l := by rw [List.take_append_of_le_length (Nat.le_refl _), List.take_length]
            rw [t1, t2, xs_app, px_app]
            refine ⟨d3.trans b1, (d5 _).trans ((lc2.2.1 _).trans l8), (lx2.1 _).trans ((e4 _ (by omega)).trans l5), (lx2.1 _).trans ((e4 _ (by omega)).trans l9), (lx2.1 _).trans (e3.trans hj.2.2.2.2.2.2.2.1), fun x => ⟨(l6 x).1, (lx2.1 _).trans ((e4 _ (by omega)).trans (l6 x).2)⟩⟩
    · exact absurd q1 r1
  · rcases j2 with ⟨r1, r2, r3⟩ | ⟨r1, r2, r3⟩
    · exact absurd r1 q1
    · rw [r2]
      have bd : BDt I2 J2 := ⟨1, _, by decide, q2, r3⟩
      exact par2_l (par_zb (sk_close fu I2) (fun _ I3 f3 => par_zr (Or.inr ⟨rfl, bd_fst bd f3⟩)))
theorem k22_2q {T : TXT} {t0 t : Nat} {l : List LRec} {E : List (Int × Int)} {v : Int} {I J : IMem} (fu : Nat) (h0 : t0 ≤ t) (gE : T.s ≠ 4 → ∃ b, TYP 24 T.s E b) (gv : T.s = 4 → 0 ≤ v ∧ v ≤ 5) (hl : LHt T.s l E v True I J) (h : PSt T 0 t (XS T.s l ++ ex T.s ⟨E, [], v⟩) (PX l ++ E) I J) : par2 (cK22 fu I) (xK23 fu J) (OULq T t0 l) := by
  obtain ⟨ho, hc, hj, ht, hx, hp⟩ := h
  unfold cK22 xK23
  have e3 := (tm_all (s := T.s) (okt_k ho ht).1).2.2.1
  refine par2_bl (par_and (ct_exp fu 1 ho hc ht (by decide)) (le_exp fu 1 I)) (fun _ I2 ⟨c2, lc2⟩ => par2_br (par_and (jt_need fu ho hj ht 3 1 e3 (by decide)) (lx_need fu 3 J)) (fun y2 J2 ⟨j2, lx2⟩ => ?_))
  rcases c2 with ⟨q1, q2, q3⟩ | ⟨q1, q2⟩
  · rcases j2 with ⟨r1, r2, r3⟩ | ⟨r1, r2, r3⟩
    · rw [if_neg (by omega)]
      refine par2_b (any2q fu ⟨ho, q2, r3, q3, by omega, by omega⟩) (fun x3 I3 y3 J3 e1 e2 ou => ?_)
      rcases ou with ⟨ey, t3, it, g1, g2, g3, g4, g5⟩ | ⟨ey, bd⟩
      · rw [if_neg (by omega)]
        refine k14_2q (t := t3) (B := it) (E := E) (v := v) fu (by omega) gE gv (Or.inr (typ_mono g5 (by show 5 + 2 * 8 + 2 ≤ 24; decide))) (lh_fr hl (lec_t lc2 (le_ei e1)) (lex_t lx2 (lx_any e2))) ?_
        rw [← List.append_assoc, ← List.append_assoc]
        exact g4
      · rw [if_pos ey]
        exact par2_l (par_mono (sk_K14 fu (bd_n bd)) (fun _ I4 f4 => Or.inr ⟨rfl, bd_fst bd f4⟩))
    · exact absurd q1 r1
  · rcases j2 with ⟨r1, r2, r3⟩ | ⟨r1, r2, r3⟩
    · exact absurd r1 q1
    · rw [if_pos r2]
      have bd : BDt I2 J2 := ⟨1, _, by decide, q2, r3⟩
      exact par2_l (par_zb (sk_either fu 40 0 (bd_n bd)) (fun _ I3 f3 => par_mono (sk_K14 fu (fst_n f3 (bd_n bd))) (fun _ I4 f4 => Or.inr ⟨rfl, bd_fst bd (fst_t f3 f4)⟩)))

theorem k9_2q {T : TXT} {t0 t : Nat} {l : List LRec} {E : List (Int × Int)} {v : Int} {I J : IMem} (fu : Nat) (x3 : Int) (hx3 : (T.s = 4 ∧ x3 = 1) ∨ (T.s ≠ 4 ∧ x3 = 0)) (h0 : t0 ≤ t) (gE : T.s ≠ 4 → ∃ b, TYP 24 T.s E b) (gv : T.s = 4 → 0 ≤ v ∧ v ≤ 5) (hl : LHt T.s l E v False I J) (h : PSt T 0 t (XS T.s l ++ ex T.s ⟨E, [], v⟩) (PX l ++ E) I J) : par2 (cK9 fu I) (xK12 fu x3 J) (OULq T t0 l) := by
  obtain ⟨ho, hc, hj, ht, hx, hp⟩ := h
  obtain ⟨l1, l2, l3, l4, l5, l6, l7⟩ := hl
  unfold cK9 xK12
  rw [l3, wr32_i2 (x := 4 * (l.length : Int)) (by omega) (by omega), wr32_i2 (x := 4 * (l.length : Int) + 2) (by omega) (by omega)]
  refine par2_zlr (par2_gr (fun _ => par2_zwr ?_))
  rw [show (4 * (l.length : Int) + 2).toNat = 4 * l.length + 2 by omega]
  have j1 : JTk T 0 t (PX l ++ E) (up J (0 + 4) (4 * l.length + 2) (J 0 11)) := jt_up4 hj
  have e3 : up J (0 + 4) (4 * l.length + 2) (J 0 11) 4 (4 * l.length + 2) = ((PX l).length + E.length : Nat) := by
    refine (if_pos ⟨rfl, rfl⟩).trans (hj.2.2.2.2.2.2.2.1.trans ?_)
    rw [List.length_append]
  have e4 : ∀ j, j ≠ 4 * l.length + 2 → up J (0 + 4) (4 * l.length + 2) (J 0 11) 4 j = J 4 j := fun j hj => up_j hj _
  have e5 : up J (0 + 4) (4 * l.length + 2) (J 0 11) 0 10 = J 0 10 := up_o (by omega) _
  generalize up J (0 + 4) (4 * l.length + 2) (J 0 11) = J1 at j1 e3 e4 e5
  refine par2_bl (P := fun _ I1 => CTk T t (XS T.s l ++ ex T.s ⟨E, [], v⟩) I1 ∧ I1 152 l.length = ((XS T.s l).length + (ex T.s ⟨E, [], v⟩).length : Nat) ∧ (∀ j, j ≠ l.length → I1 152 j = I 152 j) ∧ (∀ j, I1 151 j = I 151 j) ∧ I1 149 4 = I 149 4) ?_ (fun _ I1 ⟨d1, d2, d3, d4, d5⟩ => ?_)
  · show par (f_W_startWhen fu 149 I) _
    unfold f_W_startWhen
    rw [l2, if_neg (by omega), if_pos (by omega)]
    refine par_zl (par_zg (fun _ => par_zw (par_zr ?_)))
    rw [show (l.length : Int).toNat = l.length from rfl]
    refine ⟨ct_up hc (by omega) (fun x => by omega), ?_, fun j hj => up_j hj _, fun j => up_o (by omega) _, (up_o (by omega) _).trans l2⟩
    refine (if_pos ⟨rfl, rfl⟩).trans (hc.2.2.2.2.2.2.2.1.trans ?_)
    rw [List.length_append]
  · have hl1 : LHt T.s l E v True I1 J1 := ⟨la_fr l1 ⟨fun j _ => d4 j, fun j hj => d3 j (by omega)⟩ (fun j hj => e4 j (by omega)), d5.trans l2, e5.trans l3, l4, (e4 _ (by omega)).trans l5, fun x => ⟨(l6 x).1, (e4 _ (by omega)).trans (l6 x).2⟩, fun _ => ⟨d2, e3⟩⟩
    have ps1 : PSt T 0 t (XS T.s l ++ ex T.s ⟨E, [], v⟩) (PX l ++ E) I1 J1 := ⟨ho, d1, j1, ht, hx, hp⟩
    have e31 := (tm_all (s := T.s) (okt_k ho ht).1).2.2.1
    have h9 := d1.2.2.2.2.1
    have h7 := d1.2.1
    have h14 := j1.2.2.2.2.1
    rcases hx3 with ⟨hs, rfl⟩ | ⟨hs, rfl⟩
    · rw [if_pos hs] at h9
      rw [if_neg (by omega), if_neg (by decide)]
      exact k22_2q fu h0 gE gv hl1 ps1
    · rw [if_neg hs] at h9
      rw [if_pos h9, if_pos rfl, h7, h14]
      by_cases k1 : T.K t = 1
      · rw [if_pos k1, if_pos (e31.mpr k1)]
        exact k22_2q fu h0 gE gv hl1 ps1
      · rw [if_neg k1, if_neg (fun x => k1 (e31.mp x))]
        refine k14_2q (t := t) (B := []) (E := E) (v := v) fu h0 gE gv (Or.inl rfl) hl1 ?_
        rw [enc_nil, List.append_nil, List.append_nil]
        exact ps1
def OUGq (T : TXT) (d : Int) (t : Nat) (xs : List Int) (ps : List (Int × Int)) (I0 J0 I : IMem) (y : Int) (J : IMem) : Prop := (y = 1 ∧ CTk T (t + 1) (xs ++ [T.V t]) I ∧ T.K t = 16 ∧ JTk T d (t + 1) ps J ∧ t + 1 ≤ T.n ∧ LEc I0 I ∧ LEx J0 J ∧ (0 ≤ T.V t ∧ T.V t ≤ 5)) ∨ (y = 0 ∧ BDt I J)
theorem targ2q {T : TXT} {d : Int} {t : Nat} {xs : List Int} {ps : List (Int × Int)} {I J : IMem} (fu : Nat) (h : PSt T d t xs ps I J) : par2 (f_R_readTarget fu 144 I) (f_X_number fu 0 0 5 J) (OUGq T d t xs ps I J) := by
  obtain ⟨ho, hc, hj, ht, hx, hp⟩ := h
  have hk := okt_k ho ht
  have hn := ho.1.2.1
  obtain ⟨a0, a2, a3, a4, a5, a6, a7, aU, aS, aE⟩ := tm_all (s := T.s) hk.1
  have hxl : xs.length < 400 ∨ T.K t ≠ 16 := by
    by_cases c : T.K t = 16
    · exact Or.inl (by have := hk.2.1; omega)
    · exact Or.inr c
  refine par2_of (P1 := fun I' => (T.K t = 16 ∧ T.V t ≤ 5 ∧ CTk T (t + 1) (xs ++ [T.V t]) I' ∧ t < T.n ∧ LEc I I') ∨ (T.K t = 16 ∧ 5 < T.V t ∧ CF I' 2 (T.P t)) ∨ (T.K t ≠ 16 ∧ CF I' 1 (T.P t))) (P2 := fun y J' => (T.K t = 16 ∧ T.V t ≤ 5 ∧ y = 1 ∧ JTk T d (t + 1) ps J' ∧ LEx J J') ∨ (T.K t = 16 ∧ 5 < T.V t ∧ y = 0 ∧ JF J' 2 (T.P t)) ∨ (T.K t ≠ 16 ∧ y = 0 ∧ JF J' 1 (T.P t))) ?_ ?_ ?_
  · unfold f_R_readTarget
    simp only [zj]
    rw [hc.2.1, hc.2.2.1]
    refine par_ite (fun c => par_ite (fun c2 => ?_) (fun c2 => ?_)) (fun c => ?_)
    · refine par_zb (par_and (ct_add fu _ hc (by omega)) (le_add fu _ I)) (fun _ I1 ⟨c1, le1⟩ => par_zb (par_and (ct_exp fu 16 ho c1 ht (by decide)) (le_exp fu 16 I1)) (fun _ I2 ⟨c2', le2⟩ => par_zr ?_))
      rcases c2' with ⟨q1, q2, q3⟩ | ⟨q1, q2⟩
      · exact Or.inl ⟨c, by omega, q2, q3, lec_t le1 le2⟩
      · exact absurd c q1
    · refine par_zb (ct_fail fu 2 ho hc ht) (fun _ I1 c1 => par_zb (sk_add fu _ I1) (fun _ I2 f2 => ?_))
      have hf : I2 144 10 ≠ 0 := by rw [f2.1, c1.1]; decide
      refine par_zb (sk_exp fu 16 hf) (fun _ I3 f3 => par_zr (Or.inr (Or.inl ⟨c, by omega, f3.1.trans (f2.1.trans c1.1), f3.2.trans (f2.2.trans c1.2)⟩)))
    · unfold f_W_addStep f_R_expect
      refine par_zb (Q1 := fun _ I1 => I1 144 7 = T.K t ∧ I1 144 10 = 0 ∧ I1 144 6 = t ∧ I1 147 t = T.P t) ?_ (fun _ I1 ⟨b1, b2, b3, b4⟩ => ?_)
      · have e0 : I 144 7 = T.K t ∧ I 144 10 = 0 ∧ I 144 6 = t ∧ I 147 t = T.P t := ⟨hc.2.1, hc.2.2.2.1, hc.1, (hc.2.2.2.2.2.2.1 t ht).2.1⟩
        refine par_ite (fun _ => par_zr e0) (fun _ => par_ite (fun _ => ?_) (fun _ => par_zr e0))
        refine par_zl (par_zg (fun _ => par_zw (par_zw (par_zr ⟨?_, ?_, ?_, ?_⟩))))
        · exact (up_o (by omega) _).trans ((up_o (by omega) _).trans e0.1)
        · exact (up_o (by omega) _).trans ((up_o (by omega) _).trans e0.2.1)
        · exact (up_o (by omega) _).trans ((up_o (by omega) _).trans e0.2.2.1)
        · exact (up_o (by omega) _).trans ((up_o (by omega) _).trans e0.2.2.2)
      · rw [b1, if_neg c]
        refine par_zb (Q1 := fun _ I2 => CF I2 1 (T.P t)) (par_zb (Q1 := fun _ I2 => CF I2 1 (T.P t)) ?_ (fun _ I2 c2 => par_zr c2)) (fun _ I3 c3 => par_zr (Or.inr (Or.inr ⟨c, c3⟩)))
        unfold f_R_fail
        rw [if_pos b2, if_neg (by omega), if_neg (by omega)]
        refine par_zw (par_zl (par_zg (fun _ => par_zw (par_zr ⟨(up_j (by omega) _).trans (if_pos ⟨rfl, rfl⟩), ?_⟩))))
        refine (if_pos ⟨rfl, rfl⟩).trans ?_
        rw [up_j (i := 6) (by omega), b3]
        exact (up_o (by omega) _).trans b4
  · unfold f_X_number
    rw [hj.2.2.2.2.1]
    refine par_ite (fun c => ?_) (fun c => ?_)
    · have c16 := a2.mp c
      rw [hj.2.2.2.2.2.1 c16]
      have hv := hk.2.2 c16
      refine par_zb (par_isIn fu _ 0 5 J) (fun y J1 ⟨e, hy⟩ => ?_)
      subst e
      refine par_ite (fun c0 => ?_) (fun c0 => ?_)
      · exact par_zb (jt_bad fu 2 hj) (fun y2 J2 g2 => par_zg (fun _ => par_zr (Or.inr (Or.inl ⟨c16, by have := hy.mp c0; omega, g2.1, g2.2⟩))))
      · have hv5 : T.V t ≤ 5 := by
          rcases Int.lt_or_le 5 (T.V t) with x | x
          · exact absurd (hy.mpr (by omega)) c0
          · exact x
        exact par_zb (par_and (jt_next fu ho hj (by have := hk.2.1; omega)) (lx_next fu J1)) (fun _ J2 ⟨g2, lx2⟩ => par_zr (Or.inl ⟨c16, hv5, rfl, g2, lx2⟩))
    · exact par_zb (jt_bad fu 1 hj) (fun y2 J2 g2 => par_zg (fun _ => par_zr (Or.inr (Or.inr ⟨fun x => c (a2.mpr x), g2.1, g2.2⟩))))
  · intro I' y J' p1 p2
    rcases p1 with ⟨b1, b2, b3, b4, b5⟩ | ⟨b1, b2, b3⟩ | ⟨b1, b2⟩
    · rcases p2 with ⟨c1, c2, c3, c4, c5⟩ | ⟨c1, c2, c3⟩ | ⟨c1, c2⟩
      · exact Or.inl ⟨c3, b3, b1, c4, b4, b5, c5, (hk.2.2 b1).1, b2⟩
      · omega
      · exact absurd b1 c1
    · rcases p2 with ⟨c1, c2, c3, c4, c5⟩ | ⟨c1, c2, c3, c4⟩ | ⟨c1, c2⟩
      · omega
      · exact Or.inr ⟨c3, 2, _, by decide, b3, c4⟩
      · exact absurd b1 c1
    · rcases p2 with ⟨c1, c2, c3, c4, c5⟩ | ⟨c1, c2, c3, c4⟩ | ⟨c1, c2, c3⟩
      · exact absurd c1 b1
      · exact absurd c1 b1
      · exact Or.inr ⟨c2, 1, _, by decide, b2, c3⟩
theorem line2q {T : TXT} {d : Int} {t : Nat} {l : List LRec} {I J : IMem} (fu : Nat) (hl : LA T.s l I J ∧ I 149 4 = l.length ∧ J 0 10 = l.length ∧ l.length ≤ 16) (h : PSt T d t (XS T.s l) (PX l) I J) : par2 (f_R_readLine fu 144 I) (f_X_aLine fu 0 J) (OULq T t l) := by
  obtain ⟨ho, hc, hj, ht, hx, hp⟩ := h
  obtain ⟨l1, l2, l3, l4⟩ := hl
  have hn := ho.1.2.1
  have hkd := okt_k ho ht
  obtain ⟨a0, a2, a3, a4, a5, a6, a7, aU, aS, aE⟩ := tm_all (s := T.s) hkd.1
  have h9 := hc.2.2.2.2.1
  have hK := hc.2.1
  have hJ := hj.2.2.2.2.1
  rw [← hJ] at a7
  -- the keyword
  obtain ⟨kw, xt, hkw, hk1, hk2⟩ : ∃ kw xt : Int, ((T.s = 4 ∧ kw = 11 ∧ xt = 1) ∨ (T.s ≠ 4 ∧ kw = 0 ∧ xt = 0)) ∧ ((I 144 9 = 0 ∧ kw = 0) ∨ (I 144 9 ≠ 0 ∧ kw = 11)) ∧ (if J 0 9 = 4 then xK1 fu 1 J else xK1 fu 0 J) = xK1 fu xt J := by
    by_cases hs : T.s = 4
    · rw [if_pos hs] at h9
      exact ⟨11, 1, Or.inl ⟨hs, rfl, rfl⟩, Or.inr ⟨by omega, rfl⟩, if_pos (hj.2.1.trans hs)⟩
    · rw [if_neg hs] at h9
      exact ⟨0, 0, Or.inr ⟨hs, rfl, rfl⟩, Or.inl ⟨h9, rfl⟩, if_neg (fun x => hs (hj.2.1.symm.trans x))⟩
  rw [line_eq fu kw I hk1, xline_eq, hk2, hK]
  by_cases ck : T.K t = kw
  · rw [if_pos ck, if_pos (a7.mpr (by omega)), l3]
    have htn : t < T.n := by have := hkd.2.1; omega
    by_cases cf : l.length = 16
    · rw [if_pos (by omega)]
      refine par2_br (jt_bad fu 3 hj) (fun y J1 j1 => par2_gr (fun _ => ?_))
      rw [j1.1]
      refine par2_l (par_zb (Q1 := fun v I1 => v ≠ 0 ∧ I1 = I) ?_ (fun v I1 ⟨e1, e2⟩ => ?_))
      · show par (f_W_isFull fu 149 I) _
        unfold f_W_isFull
        rw [l2, if_neg (by omega)]
        exact par_zr ⟨by decide, rfl⟩
      · subst e2
        rw [if_neg e1]
        refine par_zb (ct_fail fu 3 ho hc ht) (fun _ I2 c2 => ?_)
        have bd : BDt I2 J1 := ⟨3, _, by decide, c2, j1.2⟩
        exact par_mono (sk_K4 fu kw (bd_n bd)) (fun _ I3 f3 => Or.inr ⟨rfl, bd_fst bd f3⟩)
    · rw [if_neg (by omega)]
      refine par2_bl (P := fun v I1 => v = 0 ∧ I1 = I) ?_ (fun v I1 ⟨e1, e2⟩ => ?_)
      · show par (f_W_isFull fu 149 I) _
        unfold f_W_isFull
        rw [l2, if_pos (by omega)]
        exact par_zr ⟨rfl, rfl⟩
      subst e2
      rw [if_pos e1]
      unfold cK4 xK1
      refine par2_bl (par_and (ct_exp fu kw ho hc ht (by omega)) (le_exp fu kw I1)) (fun _ I2 ⟨c2, lc2⟩ => ?_)
      rcases c2 with ⟨q1, q2, q3⟩ | ⟨q1, q2⟩
      · refine par2_zwr ?_
        have j0 := jt_d 0 hj
        have x0 : LEx J (up J 0 20 0) := ⟨fun j => up_o (by omega) _, up_j (by omega) _⟩
        generalize up J 0 20 0 = J0 at j0 x0
        refine par2_br (par_and (jt_next fu ho j0 htn) (lx_next fu J0)) (fun _ J1 ⟨j1, lx1⟩ => ?_)
        have x1 := lex_t x0 lx1
        have e10 : J1 0 10 = l.length := x1.2.trans l3
        rw [e10, wr32_i2 (x := 4 * (l.length : Int)) (by omega) (by omega)]
        refine par2_zlr (par2_gr (fun _ => par2_zwr ?_))
        rw [show (4 * (l.length : Int)).toNat = 4 * l.length by omega]
        have j2 : JTk T 0 (t + 1) (PX l) (up J1 (0 + 4) (4 * l.length) (J1 0 16)) := jt_up4 j1
        have y1 : up J1 (0 + 4) (4 * l.length) (J1 0 16) 4 (4 * l.length) = J1 0 16 := if_pos ⟨rfl, rfl⟩
        have y2 : ∀ j, j ≠ 4 * l.length → up J1 (0 + 4) (4 * l.length) (J1 0 16) 4 j = J 4 j := fun j hj => (up_j hj _).trans (x1.1 j)
        have y3 : up J1 (0 + 4) (4 * l.length) (J1 0 16) 0 10 = l.length := (up_o (by omega) _).trans e10
        have j16 := j1.2.2.2.2.2.1
        generalize up J1 (0 + 4) (4 * l.length) (J1 0 16) = J2 at j2 y1 y2 y3
        rw [y3, wr32_i2 (x := 4 * (l.length : Int)) (by omega) (by omega), wr32_i2 (x := 4 * (l.length : Int) + 1) (by omega) (by omega)]
        refine par2_zlr (par2_gr (fun _ => par2_zwr ?_))
        rw [show (4 * (l.length : Int) + 1).toNat = 4 * l.length + 1 by omega]
        have j3 : JTk T 0 (t + 1) (PX l) (up J2 (0 + 4) (4 * l.length + 1) (J2 0 11)) := jt_up4 j2
        have z1 : up J2 (0 + 4) (4 * l.length + 1) (J2 0 11) 4 (4 * l.length + 1) = ((PX l).length : Nat) := (if_pos ⟨rfl, rfl⟩).trans j2.2.2.2.2.2.2.2.1
        have z0 : up J2 (0 + 4) (4 * l.length + 1) (J2 0 11) 4 (4 * l.length) = J1 0 16 := (up_j (by omega) _).trans y1
        have z2 : ∀ j, j < 4 * l.length → up J2 (0 + 4) (4 * l.length + 1) (J2 0 11) 4 j = J 4 j := fun j hj => (up_j (by omega) _).trans (y2 j (by omega))
        have z3 : up J2 (0 + 4) (4 * l.length + 1) (J2 0 11) 0 10 = l.length := (up_o (by omega) _).trans y3
        generalize up J2 (0 + 4) (4 * l.length + 1) (J2 0 11) = J3 at j3 z0 z1 z2 z3
        have la3 : LA T.s l I2 J3 := la_fr l1 ⟨fun j _ => lc2.1 j, fun j _ => lc2.2.1 j⟩ z2
        have h92 := q2.2.2.2.2.1
        rcases hkw with ⟨hs, ekw, rfl⟩ | ⟨hs, ekw, rfl⟩
        · -- the lines' text
          rw [if_pos hs] at h92
          rw [if_neg (by omega), if_neg (by decide)]
          refine par2_b (targ2q fu (ps := PX l) (xs := XS T.s l) ⟨ho, q2, j3, q3, by omega, by omega⟩) (fun x4 I4 y4 J4 e1 e2 ou => ?_)
          rcases ou with ⟨ey, c4, k16, j4, t4, lc4, lx4, kv⟩ | ⟨ey, bd⟩
          · rw [if_neg (by omega)]
            have eex : ex T.s ⟨[], [], T.V (t + 1)⟩ = [T.V (t + 1)] := if_pos hs
            refine k9_2q (t := t + 1 + 1) (E := []) (v := T.V (t + 1)) fu 1 (Or.inl ⟨hs, rfl⟩) (by omega) (fun x => absurd hs x) (fun _ => kv) ⟨la_fr la3 ⟨fun j _ => lc4.1 j, fun j _ => lc4.2.1 j⟩ (fun j _ => lx4.1 j), lc4.2.2.trans (lc2.2.2.trans l2), lx4.2.trans z3, by omega, (lx4.1 _).trans z1, fun _ => ⟨rfl, (lx4.1 _).trans (z0.trans (j16 k16))⟩, fun x => x.elim⟩ ⟨ho, ?_, ?_, t4, ?_, ?_⟩
            · rw [eex]; exact c4
            · rw [List.append_nil]; exact j4
            · rw [eex, List.length_append]; show (XS T.s l).length + 1 ≤ t + 1 + 1; omega
            · rw [List.append_nil]; omega
          · rw [if_pos ey]
            exact par2_l (par_mono (sk_K9 fu (bd_n bd)) (fun _ I5 f5 => Or.inr ⟨rfl, bd_fst bd f5⟩))
        · -- a rule
          rw [if_neg hs] at h92
          rw [if_pos h92, if_pos rfl]
          refine par2_b (sum2q fu (ps := PX l) (xs := XS T.s l) ⟨ho, q2, j3, q3, by omega, by omega⟩) (fun x4 I4 y4 J4 e1 e2 ou => ?_)
          rcases ou with ⟨ey, t4, it, g1, g2, g3, g4, g5⟩ | ⟨ey, bd⟩
          · rw [if_neg (by omega)]
            have eex : ex T.s ⟨it, [], 0⟩ = enc it := if_neg hs
            have lc4 := le_sum e1
            have lx4 := lx_sum e2
            refine k9_2q (t := t4) (E := it) (v := 0) fu 0 (Or.inr ⟨hs, rfl⟩) (by omega) (fun _ => ⟨false, typ_mono g5 (by decide)⟩) (fun x => absurd x hs) ⟨la_fr la3 ⟨fun j _ => lc4.1 j, fun j _ => lc4.2.1 j⟩ (fun j _ => lx4.1 j), lc4.2.2.trans (lc2.2.2.trans l2), lx4.2.trans z3, by omega, (lx4.1 _).trans z1, fun x => absurd x hs, fun x => x.elim⟩ ?_
            rw [eex]; exact g4
          · rw [if_pos ey]
            exact par2_l (par_mono (sk_K9 fu (bd_n bd)) (fun _ I5 f5 => Or.inr ⟨rfl, bd_fst bd f5⟩))
      · exact absurd ck q1
  · rw [if_neg ck, if_neg (fun x => ck (by have := a7.mp x; omega))]
    refine par2_br (jt_bad fu 1 hj) (fun y J1 j1 => par2_gr (fun _ => ?_))
    rw [j1.1]
    unfold cK4
    refine par2_l (par_zb (ct_exp fu kw ho hc ht (by omega)) (fun _ I2 c2 => ?_))
    rcases c2 with ⟨q1, q2, q3⟩ | ⟨q1, q2⟩
    · exact absurd q1 ck
    · have bd : BDt I2 J1 := ⟨1, _, by decide, q2, j1.2⟩
      exact par_ite (fun _ => par_zb (sk_sum fu (bd_n bd)) (fun _ I3 f3 => par_mono (sk_K9 fu (fst_n f3 (bd_n bd))) (fun _ I4 f4 => Or.inr ⟨rfl, bd_fst bd (fst_t f3 f4)⟩))) (fun _ => par_zb (sk_target fu (bd_n bd)) (fun _ I3 f3 => par_mono (sk_K9 fu (fst_n f3 (bd_n bd))) (fun _ I4 f4 => Or.inr ⟨rfl, bd_fst bd (fst_t f3 f4)⟩)))

/-- all lines are well made -/
def GRA (s : Int) (l : List LRec) : Prop := ∀ (i : Nat) (r : LRec), l[i]? = some r → GRL s r
theorem gra_add {s : Int} {l : List LRec} {r : LRec} (h : GRA s l) (g : GRL s r) : GRA s (l ++ [r]) := by
  intro i r' hr
  by_cases hi : i < l.length
  · rw [List.getElem?_append_left hi] at hr
    exact h i r' hr
  · rw [List.getElem?_append_right (by omega)] at hr
    have e := lt_of_get hr
    have e0 : i - l.length = 0 := by simp only [List.length_cons, List.length_nil] at e; omega
    rw [e0] at hr
    cases hr
    exact g
theorem text57q {Q : IMem → Int → IMem → Prop} {T : TXT} (fu : Nat) (a1 : Int) (kX : Int → IMem → Res) (w0 : Nat → Int) (good : ∀ t l d I J, INV T d t l I J → GRA T.s l → J 1 = w0 → par2 (kUn I) (kX 1 J) Q) (bad : ∀ I J, BDt I J → J 1 = w0 → par2 (kUn I) (kX 0 J) Q) : ∀ (m m2 : Nat) (w2 : Int) (t : Nat) (l : List LRec) (d : Int) (I J : IMem), INV T d t l I J → GRA T.s l → J 1 = w0 → 0 ≤ w2 → w2 ≤ t → par2 (f_R_understand_31 fu kUn 144 m w2 I) (f_X_text_57 fu kX 0 a1 m2 1 J) Q := by
  intro m
  induction m with
  | zero => intro m2 w2 t l d I J _ _ _ _ _; exact par2_nl
  | succ m ih =>
    intro m2 w2 t l d I J h hgr hww hw0 hw2
    cases m2 with
    | zero => exact par2_nr
    | succ m2 =>
    show par2 (fb_R_understand_31 fu kUn 144 (f_R_understand_31 fu kUn 144 m) w2 I) (fb_X_text_57 fu kX 0 a1 (f_X_text_57 fu kX 0 a1 m2) 1 J) _
    unfold fb_R_understand_31 fb_X_text_57
    have h' := h
    obtain ⟨⟨ho, hc, hj, ht, hx, hp⟩, l1, l2, l3, l4⟩ := h'
    have hn := ho.1.2.1
    have hkd := okt_k ho ht
    have a0 := (tm_all (s := T.s) hkd.1).1
    rw [if_neg (c := (1 : Int) = 0) (by decide), hj.2.2.2.2.1, hc.2.1, if_pos hc.2.2.2.1]
    by_cases c17 : T.K t = 17
    · rw [if_pos (a0.mpr c17)]
      have g := good t l d I J h hgr hww
      exact par2_il (fun _ => by rw [if_pos c17]; exact g) (fun _ => g)
    · rw [if_neg (fun x => c17 (a0.mp x)), if_neg c17]
      have htn : t < T.n := by
        have := hkd.2.1
        omega
      rw [if_pos (by omega)]
      refine par2_b (line2q fu ⟨l1, l2, l3, l4⟩ ⟨ho, hc, hj, ht, hx, hp⟩) (fun _ I1 y J1 _ eX ou => ?_)
      have hw1 : J1 1 = w0 := (fr_X_aLine (fun q => q ≠ 1) fu 0 J (by omega) (by omega) (by omega) eX 1 (by omega)).trans hww
      simp only [zj, zl]
      rw [wr32_i2 (x := w2 + 1) (by omega) (by omega)]
      rcases ou with ⟨ey, t2, r, g1, g2, g3, g4, g5, g6, g7⟩ | ⟨ey, bd⟩
      · subst ey
        rw [if_neg (c := (1 : Int) = 0) (by decide)]
        refine par2_zwr ?_
        rw [g5, wr32_i2 (by omega) (by omega)]
        have hlen : (l ++ [r]).length = l.length + 1 := by rw [List.length_append]; rfl
        obtain ⟨go, gc, gj, gt, gx, gp⟩ := g2
        have e1 : up J1 0 10 ((l.length : Int) + 1) 0 10 = ((l ++ [r]).length : Nat) := (if_pos ⟨rfl, rfl⟩).trans (by rw [hlen]; rfl)
        refine ih m2 (w2 + 1) t2 (l ++ [r]) 0 I1 _ ⟨⟨go, gc, jt_10 gj, gt, gx, gp⟩, la_fr g3 ⟨fun _ _ => rfl, fun _ _ => rfl⟩ (fun j _ => up_o (by omega) _), by rw [hlen]; exact g4, e1, by rw [hlen]; exact g6⟩ (gra_add hgr g7) ((funext (fun i => up_o (by decide) i)).trans hw1) (by omega) (by omega)
      · subst ey
        rw [if_pos rfl]
        refine par2_zwr ?_
        generalize hJ2 : up J1 0 10 (wr32 (J1 0 10 + 0)) = J2
        have bd2 : BDt I1 J2 := by
          obtain ⟨f, p, b1, b2, b3⟩ := bd
          exact ⟨f, p, b1, b2, by rw [← hJ2]; exact ⟨(up_j (by omega) _).trans b3.1, (up_j (by omega) _).trans b3.2⟩⟩
        have hw2 : J2 1 = w0 := by rw [← hJ2]; exact (funext (fun i => up_o (by decide) i)).trans hw1
        have gb := bad I1 J2 bd2 hw2
        cases m with
        | zero => exact par2_nl
        | succ m =>
        cases m2 with
        | zero => exact par2_nr
        | succ m2 =>
        show par2 (fb_R_understand_31 fu kUn 144 (f_R_understand_31 fu kUn 144 m) (w2 + 1) I1) (fb_X_text_57 fu kX 0 a1 (f_X_text_57 fu kX 0 a1 m2) 0 J2) _
        unfold fb_R_understand_31 fb_X_text_57
        rw [if_pos rfl, if_neg (bd_n bd)]
        exact par2_il (fun _ => gb) (fun _ => gb)

/-! the reference's copy of a TEXT into the hill -/
def TR (k j : Nat) : Prop := (1590 + 16 * k ≤ j ∧ j < 1606 + 16 * k) ∨ (1670 + 16 * k ≤ j ∧ j < 1686 + 16 * k) ∨ (1750 + 16 * k ≤ j ∧ j < 1766 + 16 * k) ∨ (1830 + 16 * k ≤ j ∧ j < 1846 + 16 * k)
def TC (k j : Nat) : Prop := j = 1580 + k ∨ TR k j ∨ (1910 + 820 * k ≤ j ∧ j < 2730 + 820 * k)
section
variable {fu : Nat}
theorem xc_145 {Q : Int → IMem → Prop} (kk : IMem → Res) (k : Nat) (hk : k < 5) (n : Nat) (hn : n ≤ 16) (J0 : IMem) (h10 : J0 0 10 = n) (hend : ∀ J : IMem, (∀ i, i < n → J 1 (1590 + 16 * k + i) = J0 4 (4 * i) ∧ J 1 (1670 + 16 * k + i) = J0 4 (4 * i + 1) ∧ J 1 (1750 + 16 * k + i) = J0 4 (4 * i + 2) ∧ J 1 (1830 + 16 * k + i) = J0 4 (4 * i + 3)) → (∀ q j, ¬ (q = 1 ∧ TR k j) → J q j = J0 q j) → par (kk J) Q) : ∀ (m i : Nat) (J : IMem), i ≤ n → (∀ t, t < i → J 1 (1590 + 16 * k + t) = J0 4 (4 * t) ∧ J 1 (1670 + 16 * k + t) = J0 4 (4 * t + 1) ∧ J 1 (1750 + 16 * k + t) = J0 4 (4 * t + 2) ∧ J 1 (1830 + 16 * k + t) = J0 4 (4 * t + 3)) → (∀ q j, ¬ (q = 1 ∧ TR k j) → J q j = J0 q j) → par (f_X_text_145 fu kk 0 (k : Int) m (i : Int) J) Q := by
  intro m
  induction m with
  | zero => intro _ _ _ _ _; exact par_none
  | succ m ih =>
    intro i J hi h1 h2
    show par (fb_X_text_145 fu kk 0 (k : Int) (f_X_text_145 fu kk 0 (k : Int) m) (i : Int) J) Q
    unfold fb_X_text_145
    have e10 : J 0 10 = n := (h2 0 10 (fun z => absurd z.1 (by decide))).trans h10
    rw [e10]
    by_cases q : i < n
    · rw [if_pos (show (i : Int) < (n : Int) by omega)]
      have a4 : Wq (wr32 (4 * (i : Int))) (((4 * i : Nat) : Int)) := by show wr32 (4 * (i : Int)) = ((4 * i : Nat) : Int); rw [wr32_i2 (by omega) (by omega)]; omega
      have a5 : Wq (wr32 (((4 * i : Nat) : Int) + 1)) (((4 * i + 1 : Nat) : Int)) := by show wr32 (((4 * i : Nat) : Int) + 1) = ((4 * i + 1 : Nat) : Int); rw [wr32_i2 (by omega) (by omega)]; omega
      have a6 : Wq (wr32 (((4 * i : Nat) : Int) + 2)) (((4 * i + 2 : Nat) : Int)) := by show wr32 (((4 * i : Nat) : Int) + 2) = ((4 * i + 2 : Nat) : Int); rw [wr32_i2 (by omega) (by omega)]; omega
      have a7 : Wq (wr32 (((4 * i : Nat) : Int) + 3)) (((4 * i + 3 : Nat) : Int)) := by show wr32 (((4 * i : Nat) : Int) + 3) = ((4 * i + 3 : Nat) : Int); rw [wr32_i2 (by omega) (by omega)]; omega
      have a0 : Wq (wr32 (16 * (k : Int))) (((16 * k : Nat) : Int)) := by show wr32 (16 * (k : Int)) = ((16 * k : Nat) : Int); rw [wr32_i2 (by omega) (by omega)]; omega
      have b1 : Wq (wr32 (1590 + ((16 * k : Nat) : Int))) (((1590 + 16 * k : Nat) : Int)) := by show wr32 (1590 + ((16 * k : Nat) : Int)) = ((1590 + 16 * k : Nat) : Int); rw [wr32_i2 (by omega) (by omega)]; omega
      have b2 : Wq (wr32 (1670 + ((16 * k : Nat) : Int))) (((1670 + 16 * k : Nat) : Int)) := by show wr32 (1670 + ((16 * k : Nat) : Int)) = ((1670 + 16 * k : Nat) : Int); rw [wr32_i2 (by omega) (by omega)]; omega
      have b3 : Wq (wr32 (1750 + ((16 * k : Nat) : Int))) (((1750 + 16 * k : Nat) : Int)) := by show wr32 (1750 + ((16 * k : Nat) : Int)) = ((1750 + 16 * k : Nat) : Int); rw [wr32_i2 (by omega) (by omega)]; omega
      have b4 : Wq (wr32 (1830 + ((16 * k : Nat) : Int))) (((1830 + 16 * k : Nat) : Int)) := by show wr32 (1830 + ((16 * k : Nat) : Int)) = ((1830 + 16 * k : Nat) : Int); rw [wr32_i2 (by omega) (by omega)]; omega
      have c1 : Wq (wr32 (((1590 + 16 * k : Nat) : Int) + (i : Int))) (((1590 + 16 * k + i : Nat) : Int)) := by show wr32 (((1590 + 16 * k : Nat) : Int) + (i : Int)) = ((1590 + 16 * k + i : Nat) : Int); rw [wr32_i2 (by omega) (by omega)]; omega
      have c2 : Wq (wr32 (((1670 + 16 * k : Nat) : Int) + (i : Int))) (((1670 + 16 * k + i : Nat) : Int)) := by show wr32 (((1670 + 16 * k : Nat) : Int) + (i : Int)) = ((1670 + 16 * k + i : Nat) : Int); rw [wr32_i2 (by omega) (by omega)]; omega
      have c3 : Wq (wr32 (((1750 + 16 * k : Nat) : Int) + (i : Int))) (((1750 + 16 * k + i : Nat) : Int)) := by show wr32 (((1750 + 16 * k : Nat) : Int) + (i : Int)) = ((1750 + 16 * k + i : Nat) : Int); rw [wr32_i2 (by omega) (by omega)]; omega
      have c4 : Wq (wr32 (((1830 + 16 * k : Nat) : Int) + (i : Int))) (((1830 + 16 * k + i : Nat) : Int)) := by show wr32 (((1830 + 16 * k : Nat) : Int) + (i : Int)) = ((1830 + 16 * k + i : Nat) : Int); rw [wr32_i2 (by omega) (by omega)]; omega
      simp only [zl_e]
      rw [a4.e, a5.e, a6.e, a7.e, a0.e, b1.e, b2.e, b3.e, b4.e, c1.e, c2.e, c3.e, c4.e, w_nx i (by omega)]
      simp only [tn]
      refine par_zg (fun _ => par_zg (fun _ => par_zw' (fun I1 e1 => par_zg (fun _ => par_zg (fun _ => par_zw' (fun I2 e2 => par_zg (fun _ => par_zg (fun _ => par_zw' (fun I3 e3 => par_zg (fun _ => par_zg (fun _ => par_zw' (fun I4 e4 => ?_))))))))))))
      refine ih (i + 1) I4 q (fun t ht => ?_) (fun q' j hq => ?_)
      · by_cases y : t = i
        · subst y
          refine ⟨?_, ?_, ?_, ?_⟩
          · rw [e4, if_neg (by omega), e3, if_neg (by omega), e2, if_neg (by omega), e1, if_pos (by omega)]
            exact h2 4 _ (fun z => absurd z.1 (by decide))
          · rw [e4, if_neg (by omega), e3, if_neg (by omega), e2, if_pos (by omega), e1, if_neg (by omega)]
            exact h2 4 _ (fun z => absurd z.1 (by decide))
          · rw [e4, if_neg (by omega), e3, if_pos (by omega), e2, if_neg (by omega), e1, if_neg (by omega)]
            exact h2 4 _ (fun z => absurd z.1 (by decide))
          · rw [e4, if_pos (by omega), e3, if_neg (by omega), e2, if_neg (by omega), e1, if_neg (by omega)]
            exact h2 4 _ (fun z => absurd z.1 (by decide))
        · obtain ⟨x1, x2, x3, x4⟩ := h1 t (by omega)
          refine ⟨?_, ?_, ?_, ?_⟩
          · rw [e4, if_neg (by omega), e3, if_neg (by omega), e2, if_neg (by omega), e1, if_neg (by omega)]; exact x1
          · rw [e4, if_neg (by omega), e3, if_neg (by omega), e2, if_neg (by omega), e1, if_neg (by omega)]; exact x2
          · rw [e4, if_neg (by omega), e3, if_neg (by omega), e2, if_neg (by omega), e1, if_neg (by omega)]; exact x3
          · rw [e4, if_neg (by omega), e3, if_neg (by omega), e2, if_neg (by omega), e1, if_neg (by omega)]; exact x4
      · have hq' := hq
        unfold TR at hq'
        rw [e4, if_neg (by omega), e3, if_neg (by omega), e2, if_neg (by omega), e1, if_neg (by omega)]
        exact h2 q' j hq
    · rw [if_neg (show ¬ (i : Int) < (n : Int) by omega)]
      have e : i = n := by omega
      subst e
      exact hend J h1 h2
theorem xc_259 (k : Nat) (hk : k < 5) (s : Nat) (hs : s ≤ 410) (J0 : IMem) (h11 : J0 0 11 = s) : ∀ (m i : Nat) (J : IMem), i ≤ 2 * s → (∀ j, j < i → J 1 (1910 + 820 * k + j) = J0 5 j) → (∀ q j, ¬ (q = 1 ∧ 1910 + 820 * k ≤ j ∧ j < 2730 + 820 * k) → J q j = J0 q j) → par (f_X_text_259 fu 0 (k : Int) m (i : Int) J) (fun _ J' => (∀ j, j < 2 * s → J' 1 (1910 + 820 * k + j) = J0 5 j) ∧ ∀ q j, ¬ (q = 1 ∧ 1910 + 820 * k ≤ j ∧ j < 2730 + 820 * k) → J' q j = J0 q j) := by
  intro m
  induction m with
  | zero => intro _ _ _ _ _; exact par_none
  | succ m ih =>
    intro i J hi h1 h2
    show par (fb_X_text_259 fu 0 (k : Int) (f_X_text_259 fu 0 (k : Int) m) (i : Int) J) _
    unfold fb_X_text_259
    have e11 : J 0 11 = s := (h2 0 11 (by omega)).trans h11
    have w0 : Wq (wr32 (2 * (s : Int))) (((2 * s : Nat) : Int)) := by show wr32 (2 * (s : Int)) = ((2 * s : Nat) : Int); rw [wr32_i2 (by omega) (by omega)]; omega
    rw [e11, w0.e]
    by_cases q : i < 2 * s
    · rw [if_pos (show (i : Int) < ((2 * s : Nat) : Int) by omega)]
      have a0 : Wq (wr32 (820 * (k : Int))) (((820 * k : Nat) : Int)) := by show wr32 (820 * (k : Int)) = ((820 * k : Nat) : Int); rw [wr32_i2 (by omega) (by omega)]; omega
      have b0 : Wq (wr32 (1910 + ((820 * k : Nat) : Int))) (((1910 + 820 * k : Nat) : Int)) := by show wr32 (1910 + ((820 * k : Nat) : Int)) = ((1910 + 820 * k : Nat) : Int); rw [wr32_i2 (by omega) (by omega)]; omega
      have c0 : Wq (wr32 (((1910 + 820 * k : Nat) : Int) + (i : Int))) (((1910 + 820 * k + i : Nat) : Int)) := by show wr32 (((1910 + 820 * k : Nat) : Int) + (i : Int)) = ((1910 + 820 * k + i : Nat) : Int); rw [wr32_i2 (by omega) (by omega)]; omega
      simp only [zl_e]
      rw [a0.e, b0.e, c0.e, w_nx i (by omega)]
      simp only [tn]
      refine par_zg (fun _ => par_zg (fun _ => par_zw' (fun I1 e1 => ih (i + 1) I1 q (fun j hj => ?_) (fun q' j hq => ?_))))
      · by_cases y : j = i
        · subst y
          rw [e1, if_pos (by omega)]
          exact h2 5 _ (by omega)
        · rw [e1, if_neg (by omega)]; exact h1 j (by omega)
      · rw [e1, if_neg (by omega)]; exact h2 q' j hq
    · rw [if_neg (show ¬ (i : Int) < ((2 * s : Nat) : Int) by omega)]
      have e : i = 2 * s := by omega
      subst e
      exact par_zr ⟨h1, h2⟩
/-- the TEXT lies in the hill -/
theorem xc_all {T : TXT} {d : Int} {t : Nat} {l : List LRec} {I J J' : IMem} (k : Nat) (hk : k < 5) (hs : T.s = (k : Int)) (h : INV T d t l I J) (g : ∀ q j, q ≠ 0 → J' q j = J q j) (g10 : J' 0 10 = J 0 10) (g11 : J' 0 11 = J 0 11) : par (zl (wr32 (1580 + (k : Int))) fun x28 => zg (0 ≤ x28 ∧ x28 < 6190) (zw J' (0 + 1) x28.toNat (J' 0 10) fun I27 => f_X_text_145 fu (fun (I42 : IMem) => f_X_text_259 fu 0 (k : Int) fu 0 I42) 0 (k : Int) fu 0 I27)) (fun _ J2 => LX 1 k l J2 ∧ ∀ j, ¬ TC k j → J2 1 j = J 1 j) := by
  obtain ⟨⟨ho, hc, hj, ht, hx, hp⟩, la, l2, l3, l4⟩ := h
  have hn := ho.1.2.1
  have hL := ho.2.1
  have h11 := hj.2.2.2.2.2.2.2.1
  have hcode := hj.2.2.2.2.2.2.2.2.1
  have hpl : (PX l).length ≤ 400 := by omega
  have w0 : Wq (wr32 (1580 + (k : Int))) (((1580 + k : Nat) : Int)) := by show wr32 (1580 + (k : Int)) = ((1580 + k : Nat) : Int); rw [wr32_i2 (by omega) (by omega)]; omega
  simp only [zl_e]
  rw [w0.e]
  simp only [tn]
  refine par_zg (fun _ => par_zw' (fun J1 e1 => ?_))
  have q4 : ∀ j, J1 4 j = J 4 j := fun j => by rw [e1, if_neg (by omega)]; exact g 4 j (by decide)
  have q5 : ∀ j, J1 5 j = J 5 j := fun j => by rw [e1, if_neg (by omega)]; exact g 5 j (by decide)
  refine xc_145 (fu := fu) _ k hk l.length l4 J1 (by rw [e1, if_neg (by omega), g10, l3]) (fun J2 r1 r2 => ?_) fu 0 J1 (Nat.zero_le _) (fun t ht => absurd ht (Nat.not_lt_zero _)) (fun _ _ _ => rfl)
  refine par_mono (xc_259 (fu := fu) k hk (PX l).length (by omega) J2 ?_ fu 0 J2 (Nat.zero_le _) (fun t ht => absurd ht (Nat.not_lt_zero _)) (fun _ _ _ => rfl)) (fun _ J3 ⟨s1, s2⟩ => ⟨⟨?_, fun i hi => ⟨?_, ?_⟩, fun i r hr => ?_⟩, fun j hj => ?_⟩)
  · rw [r2 0 11 (fun z => absurd z.1 (by decide)), e1, if_neg (by omega), g11, h11]
  · rw [s2 _ _ (by omega), r2 _ _ (fun z => by have := z.2; unfold TR at this; omega), e1, if_pos (by omega), g10, l3]
  · rw [s1 (2 * i) (by omega), r2 _ _ (fun z => absurd z.1 (by decide)), q5]
    exact (hcode i hi).1
  · have z := s1 (2 * i + 1) (by omega)
    rw [show 1910 + 820 * k + (2 * i + 1) = 1910 + 820 * k + 2 * i + 1 by omega] at z
    rw [z, r2 _ _ (fun z => absurd z.1 (by decide)), q5]
    exact (hcode i hi).2
  · have hi := lt_of_get hr
    obtain ⟨x0, x1, x2, x3⟩ := r1 i hi
    obtain ⟨_, _, k3, k4, k5, k6⟩ := la i r hr
    refine ⟨?_, ?_, ?_, fun z => ?_⟩
    · rw [s2 _ _ (by omega), x1, q4]; exact k3
    · rw [s2 _ _ (by omega), x2, q4]; exact k4
    · rw [s2 _ _ (by omega), x3, q4]; exact k5
    · obtain ⟨y1, y2⟩ := k6 (by rw [hs, z]; rfl)
      refine ⟨y1, ?_⟩
      rw [s2 _ _ (by omega), x0, q4]; exact y2
  · have hj' := hj
    unfold TC at hj'
    rw [s2 _ _ (by omega), r2 _ _ (fun z => hj' (Or.inr (Or.inl z.2))), e1, if_neg (by omega)]
    exact g 1 j (by decide)
end
/-! the first start of the reader's draft stays -/
section
variable {fu : Nat}
theorem z_close (I : IMem) : par (f_W_closeLine fu 149 I) (fun _ I' => I' 151 0 = I 151 0) := by
  unfold f_W_closeLine
  refine par_ite (fun _ => par_zr rfl) (fun c => par_ite (fun c2 => ?_) (fun _ => par_zr rfl))
  refine par_zw' (fun I1 e1 => par_zl (par_zg (fun _ => par_zw' (fun I2 e2 => par_zr ?_))))
  have h4 : I1 149 4 = I 149 4 + 1 := by rw [e1, if_pos ⟨rfl, rfl⟩, wr32_i2 (by omega) (by omega)]
  rw [e2, if_neg (by rw [h4]; omega), e1, if_neg (by omega)]
theorem z_exp (d : Int) (I : IMem) : par (f_R_expect fu 144 d I) (fun _ I' => I' 151 0 = I 151 0) := fun v I' e => congrFun (fr_R_expect (fun q => q ≠ 151) fu 144 d I (by omega) e 151 (by omega)) 0
theorem z_sum (I : IMem) : par (f_R_readSum fu 144 I) (fun _ I' => I' 151 0 = I 151 0) := fun v I' e => congrFun (fr_R_readSum (fun q => q ≠ 151) fu 144 I (by omega) (by omega) (by omega) e 151 (by omega)) 0
theorem z_target (I : IMem) : par (f_R_readTarget fu 144 I) (fun _ I' => I' 151 0 = I 151 0) := fun v I' e => congrFun (fr_R_readTarget (fun q => q ≠ 151) fu 144 I (by omega) (by omega) (by omega) e 151 (by omega)) 0
theorem z_ei (a : Int) (I : IMem) : par (f_R_readEither fu 144 a I) (fun _ I' => I' 151 0 = I 151 0) := fun v I' e => congrFun (fr_R_readEither (fun q => q ≠ 151) fu 144 a I (by omega) (by omega) (by omega) e 151 (by omega)) 0
theorem z_when (I : IMem) : par (f_W_startWhen fu 149 I) (fun _ I' => I' 151 0 = I 151 0) := fun v I' e => congrFun (fr_W_startWhen (fun q => q ≠ 151) fu 149 I (by omega) e 151 (by omega)) 0
theorem z_full (I : IMem) : par (f_W_isFull fu 149 I) (fun _ I' => I' 151 0 = I 151 0) := fun v I' e => congrFun (fr_W_isFull (fun q => q ≠ 151) fu 149 I e 151 (by omega)) 0
theorem z_fail (a : Int) (I : IMem) : par (f_R_fail fu 144 a I) (fun _ I' => I' 151 0 = I 151 0) := fun v I' e => congrFun (fr_R_fail (fun q => q ≠ 151) fu 144 a I (by omega) e 151 (by omega)) 0
theorem z_scan (I : IMem) : par (f_R_scan fu 144 I) (fun _ I' => I' 151 0 = I 151 0) := fun v I' e => congrFun (fr_R_scan (fun q => q ≠ 151) fu 144 I (by omega) (by omega) (by omega) (by omega) e 151 (by omega)) 0
theorem z_forget (I : IMem) : par (f_R_forget fu 144 I) (fun _ I' => I' 151 0 = I 151 0) := fun v I' e => congrFun (fr_R_forget (fun q => q ≠ 151) fu 144 I (by omega) e 151 (by omega)) 0
theorem z_clear (I : IMem) : par (f_W_clear fu 149 I) (fun _ I' => I' 151 0 = I 151 0) := fun v I' e => congrFun (fr_W_clear (fun q => q ≠ 151) fu 149 I (by omega) e 151 (by omega)) 0
theorem z_adv (I : IMem) : par (f_R_advance fu 144 I) (fun _ I' => I' 151 0 = I 151 0) := fun v I' e => congrFun (fr_R_advance (fun q => q ≠ 151) fu 144 I (by omega) e 151 (by omega)) 0
theorem z_K14 (I : IMem) : par (cK14 fu I) (fun _ I' => I' 151 0 = I 151 0) := by
  unfold cK14
  exact par_zb (z_exp 59 I) (fun _ I1 g1 => par_zb (z_close I1) (fun _ I2 g2 => par_zr (g2.trans g1)))
theorem z_K22 (I : IMem) : par (cK22 fu I) (fun _ I' => I' 151 0 = I 151 0) := by
  unfold cK22
  exact par_zb (z_exp 1 I) (fun _ I1 g1 => par_zb (z_ei 0 I1) (fun _ I2 g2 => par_mono (z_K14 I2) (fun _ _ g => g.trans (g2.trans g1))))
theorem z_K9 (I : IMem) : par (cK9 fu I) (fun _ I' => I' 151 0 = I 151 0) := by
  unfold cK9
  refine par_zb (z_when I) (fun _ I1 g1 => ?_)
  have g14 := par_mono (z_K14 (fu := fu) I1) (fun _ _ g => g.trans g1)
  have g22 := par_mono (z_K22 (fu := fu) I1) (fun _ _ g => g.trans g1)
  exact par_ite (fun _ => par_ite (fun _ => g22) (fun _ => g14)) (fun _ => g22)
theorem z_K4 (x : Int) (I : IMem) : par (cK4 fu x I) (fun _ I' => I' 151 0 = I 151 0) := by
  unfold cK4
  refine par_zb (z_exp x I) (fun _ I1 g1 => par_ite (fun _ => par_zb (z_sum I1) (fun _ I2 g2 => par_mono (z_K9 I2) (fun _ _ g => g.trans (g2.trans g1)))) (fun _ => par_zb (z_target I1) (fun _ I2 g2 => par_mono (z_K9 I2) (fun _ _ g => g.trans (g2.trans g1)))))
theorem z_line (I : IMem) : par (f_R_readLine fu 144 I) (fun _ I' => I' 151 0 = I 151 0) := by
  obtain ⟨kw, hk⟩ : ∃ kw : Int, (I 144 9 = 0 ∧ kw = 0) ∨ (I 144 9 ≠ 0 ∧ kw = 11) := by
    by_cases h : I 144 9 = 0
    · exact ⟨0, Or.inl ⟨h, rfl⟩⟩
    · exact ⟨11, Or.inr ⟨h, rfl⟩⟩
  rw [line_eq fu kw I hk]
  refine par_ite (fun _ => par_zb (z_full I) (fun _ I1 g1 => par_ite (fun _ => par_mono (z_K4 kw I1) (fun _ _ g => g.trans g1)) (fun _ => par_zb (z_fail 3 I1) (fun _ I2 g2 => par_mono (z_K4 kw I2) (fun _ _ g => g.trans (g2.trans g1)))))) (fun _ => z_K4 kw I)
theorem z_31 : ∀ (m : Nat) (w : Int) (I : IMem), par (f_R_understand_31 fu kUn 144 m w I) (fun _ I' => I' 151 0 = I 151 0) := by
  intro m
  induction m with
  | zero => intro _ _; exact par_none
  | succ m ih =>
    intro w I
    show par (fb_R_understand_31 fu kUn 144 (f_R_understand_31 fu kUn 144 m) w I) _
    unfold fb_R_understand_31
    have hk : par (kUn I) (fun _ I' => I' 151 0 = I 151 0) := by
      unfold kUn
      exact par_ite (fun _ => par_zr rfl) (fun _ => par_zr rfl)
    refine par_ite (fun _ => par_ite (fun _ => par_ite (fun _ => hk) (fun _ => ?_)) (fun _ => hk)) (fun _ => hk)
    exact par_zb (z_line I) (fun _ I1 g => par_zl (par_mono (ih _ I1) (fun _ _ g2 => g2.trans g)))
theorem z_und (x : Int) (I : IMem) : par (f_R_understand fu 144 x I) (fun _ I' => I' 151 0 = I 151 0) := by
  unfold f_R_understand
  refine par_zb (z_scan I) (fun _ I1 g1 => par_zb (z_forget I1) (fun _ I2 g2 => par_zg (fun _ => par_zw' (fun I3 e3 => par_zb (z_clear I3) (fun _ I4 g4 => par_zw' (fun I5 e5 => par_zb (z_adv I5) (fun _ I6 g6 => par_mono (z_31 fu 0 I6) (fun _ _ g => ?_))))))))
  have h5 : I5 151 0 = I4 151 0 := by rw [e5, if_neg (by omega)]
  have h3 : I3 151 0 = I2 151 0 := by rw [e3, if_neg (by omega)]
  exact g.trans (g6.trans (h5.trans (g4.trans (h3.trans (g2.trans g1)))))
end
/-! text, with the law that is laid -/
/-- the class's draft of a law -/
def LD (s : Int) (l : List LRec) (I : IMem) : Prop := I 149 4 = l.length ∧ (∀ i, i < (XS s l).length → I 150 i = (XS s l).getD i 0) ∧ ∀ (i : Nat) (r : LRec), l[i]? = some r → I 151 (i + 1) = ((XS s (l.take (i + 1))).length : Nat) ∧ I 152 i = ((XS s (l.take i)).length + (ex s r).length : Nat)
def OUT3 (k : Nat) (J0 I : IMem) (y : Int) (J : IMem) : Prop := (I 144 10 = 0 ∧ ∃ l : List LRec, LD k l I ∧ LX 1 k l J ∧ LOK k l ∧ ∀ j, ¬ TC k j → J 1 j = J0 1 j) ∨ (I 144 10 ≠ 0 ∧ ∀ j, J 1 j = J0 1 j)
theorem text2q (fu k : Nat) (hk : k < 5) (a1 x : Int) (hak : a1 = (k : Int)) (hx : x = if a1 = 4 then 1 else 0) (I J : IMem) (hR : RTp I J) : par2 (f_R_understand fu 144 x I) (f_X_text fu 0 a1 J) (OUT3 k J) := by
  have ha : 0 ≤ a1 ∧ a1 ≤ 4 := by omega
  obtain ⟨L, hL, hI1, hJ12, hb⟩ := hR
  unfold f_R_understand f_X_text
  refine par2_bl (par_scan fu I L hL hI1 (fun j hj => by have := hb j hj; omega)) (fun _ I2 ⟨n, E, s5, lx⟩ => ?_)
  obtain ⟨T, hT⟩ : ∃ T : TXT, (⟨a1, I 145, L, n, I2 146, I2 147, I2 148, E⟩ : TXT) = T := ⟨_, rfl⟩
  have ho : OKT T := by
    rw [← hT]
    exact ⟨lx, hL, fun j hj => by have := hb j hj; show 0 ≤ I 145 j ∧ I 145 j < 256; omega⟩
  have hs : T.s = a1 := by rw [← hT]
  have hTn : T.n = n := by rw [← hT]
  have hTL : T.L = L := by rw [← hT]
  have hTb : T.b = I 145 := by rw [← hT]
  have hTK : T.K = I2 146 ∧ T.P = I2 147 ∧ T.V = I2 148 ∧ T.E = E := by rw [← hT]; exact ⟨rfl, rfl, rfl, rfl⟩
  -- the class's start
  refine par2_bl (P := fun _ I5 => I5 144 5 = (n + 1 : Nat) ∧ I5 144 10 = 0 ∧ I5 144 11 = -1 ∧ (∀ j, I5 146 j = I2 146 j ∧ I5 147 j = I2 147 j ∧ I5 148 j = I2 148 j)) ?_ (fun _ I5 ⟨b5, b10, b11, ba⟩ => ?_)
  · unfold f_R_forget
    refine par_zw (par_zw (par_zw (par_zr ⟨?_, ?_, if_pos ⟨rfl, rfl⟩, fun j => ⟨?_, ?_, ?_⟩⟩)))
    · exact (up_j (by omega) _).trans ((up_j (by omega) _).trans ((up_j (by omega) _).trans s5))
    · exact (up_j (by omega) _).trans (if_pos ⟨rfl, rfl⟩)
    · exact (up_o (by omega) _).trans ((up_o (by omega) _).trans (up_o (by omega) _))
    · exact (up_o (by omega) _).trans ((up_o (by omega) _).trans (up_o (by omega) _))
    · exact (up_o (by omega) _).trans ((up_o (by omega) _).trans (up_o (by omega) _))
  refine par2_gl (fun _ => ?_)
  refine par2_zwl ?_
  refine par2_bl (P := fun _ I7 => I7 144 5 = (n + 1 : Nat) ∧ I7 144 10 = 0 ∧ I7 144 11 = -1 ∧ I7 144 9 = x ∧ (∀ j, I7 146 j = I2 146 j ∧ I7 147 j = I2 147 j ∧ I7 148 j = I2 148 j) ∧ I7 149 1 = 0 ∧ I7 149 4 = 0) ?_ (fun _ I7 ⟨c5, c10, c11, c9, ca, c1, c4⟩ => ?_)
  · unfold f_W_clear
    refine par_zw (par_zw (par_zr ⟨?_, ?_, ?_, ?_, fun j => ⟨?_, ?_, ?_⟩, ?_, if_pos ⟨rfl, rfl⟩⟩))
    · exact (up_o (by omega) _).trans ((up_o (by omega) _).trans ((up_j (by omega) _).trans b5))
    · exact (up_o (by omega) _).trans ((up_o (by omega) _).trans ((up_j (by omega) _).trans b10))
    · exact (up_o (by omega) _).trans ((up_o (by omega) _).trans ((up_j (by omega) _).trans b11))
    · exact (up_o (by omega) _).trans ((up_o (by omega) _).trans (if_pos ⟨rfl, rfl⟩))
    · exact (up_o (by omega) _).trans ((up_o (by omega) _).trans ((up_o (by omega) _).trans (ba j).1))
    · exact (up_o (by omega) _).trans ((up_o (by omega) _).trans ((up_o (by omega) _).trans (ba j).2.1))
    · exact (up_o (by omega) _).trans ((up_o (by omega) _).trans ((up_o (by omega) _).trans (ba j).2.2))
    · exact (up_j (by omega) _).trans (if_pos ⟨rfl, rfl⟩)
  refine par2_zwl ?_
  refine par2_bl (ct_start (T := T) fu ho (if_pos ⟨rfl, rfl⟩) ((up_j (by omega) _).trans c10) ((up_j (by omega) _).trans (by rw [c9, hx, hs])) ((up_j (by omega) _).trans (by rw [c5, hTn])) (fun j _ => by
    rw [hTK.1, hTK.2.1, hTK.2.2.1]
    exact ⟨(up_o (by omega) _).trans (ca j).1, (up_o (by omega) _).trans (ca j).2.1, (up_o (by omega) _).trans (ca j).2.2⟩) ((up_o (by omega) _).trans c1) ((up_j (by omega) _).trans c11)) (fun _ I8 ⟨ct, cl⟩ => ?_)
  have cl4 : I8 149 4 = 0 := cl.trans ((up_o (by omega) _).trans c4)
  -- the reference's start
  refine par2_zwr ?_
  refine par2_br (par_isIn fu a1 0 4 _) (fun y2 J2 ⟨e2, hy2⟩ => ?_)
  subst e2
  rw [if_neg (fun z => (hy2.mp z) ha)]
  refine par2_zwr (par2_zwr (par2_zwr (par2_zwr ?_)))
  obtain ⟨q0, p1, p2, p3, p4, p5⟩ := ho.1.2.2 0 (Nat.zero_le _)
  rw [ho.1.1] at p2
  generalize hJ3 : up (up (up (up (up J 0 17 0) 0 9 a1) 0 13 0) 0 10 0) 0 11 0 = J3
  have f0 : ∀ o i, ¬ (o = 0 ∧ (i = 17 ∨ i = 9 ∨ i = 13 ∨ i = 10 ∨ i = 11)) → J3 o i = J o i := by
    intro o i hoi
    rw [← hJ3]
    exact (if_neg (by omega)).trans ((if_neg (by omega)).trans ((if_neg (by omega)).trans ((if_neg (by omega)).trans (if_neg (by omega)))))
  have f11 : J3 0 11 = 0 := by rw [← hJ3]; exact if_pos ⟨rfl, rfl⟩
  have f10 : J3 0 10 = 0 := by rw [← hJ3]; exact (up_j (by omega) _).trans (if_pos ⟨rfl, rfl⟩)
  have f13 : J3 0 13 = (0 : Nat) := by rw [← hJ3]; exact (up_j (by omega) _).trans ((up_j (by omega) _).trans (if_pos ⟨rfl, rfl⟩))
  have f9 : J3 0 9 = a1 := by rw [← hJ3]; exact (up_j (by omega) _).trans ((up_j (by omega) _).trans ((up_j (by omega) _).trans (if_pos ⟨rfl, rfl⟩)))
  have f17 : J3 0 17 = 0 := by rw [← hJ3]; exact (up_j (by omega) _).trans ((up_j (by omega) _).trans ((up_j (by omega) _).trans ((up_j (by omega) _).trans (if_pos ⟨rfl, rfl⟩))))
  have tp3 : TP T.b T.L J3 := by
    rw [hTb, hTL]
    exact ⟨(f0 0 12 (by omega)).trans hJ12, hL, fun j hj => (f0 6 j (by omega)).trans (hb j hj).1.symm, fun j hj => by have := hb j hj; omega⟩
  have fw3 : J3 1 = J 1 := funext (fun i => f0 1 i (by omega))
  clear hJ3
  refine par2_br (par_next0 fu T.b T.L 0 q0 (T.E 1) (T.K 0) (T.V 0) J3 tp3 f13 p2 p3 p4) (fun _ J4 ⟨e, k15, k13, k14, k16⟩ => ?_)
  have jt : JTk T (J3 0 20) 0 [] J4 := ⟨tp_ext tp3 e, (e 0 9 (by omega)).trans (f9.trans hs.symm), k15.trans p1.symm, k13, by rw [k14, f9, hs], k16, e 0 20 (by omega), (e 0 11 (by omega)).trans f11, fun i hi => absurd hi (Nat.not_lt_zero _), (e 0 17 (by omega)).trans f17⟩
  have inv : INV T (J3 0 20) 0 [] I8 J4 := ⟨⟨ho, ct, jt, Nat.zero_le _, Nat.le_refl _, Nat.le_refl _⟩, (fun i r hr => by cases hr), cl4, (e 0 10 (by omega)).trans f10, by decide⟩
  have hw4 : J4 1 = J 1 := (funext (fun i => e 1 i (by omega))).trans fw3
  refine text57q (T := T) fu a1 _ (J 1) (fun t l d I9 J9 h9 gr9 w9 => ?_) (fun I9 J9 bd w9 => ?_) fu fu 0 0 [] (J3 0 20) I8 J4 inv (fun i r hr => by cases hr) hw4 (by omega) (by omega)
  · have h9' := h9
    obtain ⟨⟨_, gc, gj, gt, gx, gp⟩, gl, g4, g10, g16⟩ := h9'
    unfold kUn
    rw [if_pos gc.2.2.2.1]
    refine par2_r ?_
    refine par_zw' (fun Ja ea => par_zw' (fun Jb eb => ?_))
    simp only [zj]
    rw [if_neg (c := (1 : Int) = 0) (by decide)]
    refine par_zw' (fun Jc ec => ?_)
    rw [if_neg (c := (1 : Int) = 0) (by decide)]
    subst hak
    have hn := ho.1.2.1
    have hL' := ho.2.1
    have ld : LD T.s l I9 := ⟨g4, gc.2.2.2.2.2.2.2.2.1, fun i r hr => ⟨(gl i r hr).1, (gl i r hr).2.1⟩⟩
    have lo : LOK T.s l := ⟨g16, by omega, by omega, gr9⟩
    rw [hs] at ld lo
    refine par_mono (xc_all (fu := fu) (J' := Jc) k hk hs h9 (fun q j hq => by rw [ec, if_neg (by omega), eb, if_neg (by omega), ea, if_neg (by omega)]) (by rw [ec, if_neg (by omega), eb, if_neg (by omega), ea, if_neg (by omega)]) (by rw [ec, if_neg (by omega), eb, if_neg (by omega), ea, if_neg (by omega)])) (fun y J10 ⟨z1, z2⟩ => ?_)
    exact Or.inl ⟨gc.2.2.2.1, l, ld, z1, lo, fun j hj => (z2 j hj).trans (congrFun w9 j)⟩
  · unfold kUn
    obtain ⟨f, p, b1, b2, b3⟩ := bd
    rw [if_neg (by rw [b2.1]; exact b1)]
    refine par2_r ?_
    refine par_zw' (fun Ja ea => par_zw' (fun Jb eb => ?_))
    simp only [zj]
    rw [if_pos trivial]
    refine par_zw' (fun Jc ec => ?_)
    rw [if_pos trivial]
    exact par_zr (Or.inr ⟨by rw [b2.1]; exact b1, fun j => by rw [ec, if_neg (by omega), eb, if_neg (by omega), ea, if_neg (by omega)]; exact congrFun w9 j⟩)
theorem text_lw (fu : Nat) (a1 : Int) {I J : IMem} (hR : RTp I J) (z : I 151 0 = 0) {x y : Int} {I' J' : IMem} (e1 : f_S_text fu 0 a1 I = some (x, I')) (e2 : f_X_text fu 0 a1 J = some (y, J')) : I' 151 0 = 0 ∧ (((∀ j, J' 1 j = J 1 j) ∧ ∀ q j, q < 100 → I' q j = I q j) ∨ ∃ k : Nat, k < 5 ∧ LWR 1 1 k I' J' ∧ (∀ j, ¬ TC k j → J' 1 j = J 1 j) ∧ ∀ q j, q < 100 → ¬ (16 + 5 * k ≤ q ∧ q < 20 + 5 * k) → I' q j = I q j) := by
  by_cases ha : 0 ≤ a1 ∧ a1 ≤ 4
  · obtain ⟨k, hk, hak⟩ : ∃ k : Nat, k < 5 ∧ a1 = (k : Int) := ⟨a1.toNat, by omega, by omega⟩
    have key : par (f_S_text fu 0 a1 I) (fun _ I' => I' 151 0 = 0 ∧ (((∀ j, J' 1 j = J 1 j) ∧ ∀ q j, q < 100 → I' q j = I q j) ∨ ∃ k : Nat, k < 5 ∧ LWR 1 1 k I' J' ∧ (∀ j, ¬ TC k j → J' 1 j = J 1 j) ∧ ∀ q j, q < 100 → ¬ (16 + 5 * k ≤ q ∧ q < 20 + 5 * k) → I' q j = I q j)) := by
      unfold f_S_text
      simp only [zj]
      rw [if_neg (show ¬ a1 < 0 by omega), if_neg (show ¬ 4 < a1 by omega)]
      have go : ∀ x : Int, x = (if a1 = 4 then 1 else 0) → par (zb (f_R_understand fu (0 + 144) x I) fun y9 I10 => if y9 = 0 then zr (-1) I10 else zg (0 ≤ a1 ∧ a1 < 5) (zb (f_W_copyFrom fu (0 + 16 + 5 * a1.toNat) (0 + 149) I10) fun _ I14 => zr (I14 (0 + 149) 4) I14)) (fun _ I' => I' 151 0 = 0 ∧ (((∀ j, J' 1 j = J 1 j) ∧ ∀ q j, q < 100 → I' q j = I q j) ∨ ∃ k : Nat, k < 5 ∧ LWR 1 1 k I' J' ∧ (∀ j, ¬ TC k j → J' 1 j = J 1 j) ∧ ∀ q j, q < 100 → ¬ (16 + 5 * k ≤ q ∧ q < 20 + 5 * k) → I' q j = I q j)) := by
        intro x hx
        have p2 : par (f_R_understand fu 144 x I) (fun _ I' => OUT3 k J I' y J') := fun v I2 e => text2q fu k hk a1 x hak hx I J hR v I2 y J' e e2
        have p3 : par (f_R_understand fu 144 x I) (fun _ I' => ∀ q j, q < 100 → I' q j = I q j) := fun v I2 e q j hq => congrFun (fr_R_understand (fun q => 100 ≤ q) fu 144 x I (by omega) (by omega) (by omega) (by omega) (by omega) (by omega) (by omega) (by omega) e q (by omega)) j
        refine par_zb (par_and (par_and (und_v fu x I) p2) (par_and (z_und x I) p3)) (fun v I10 ⟨⟨hv, ho⟩, hz, hf⟩ => ?_)
        rcases hv with ⟨e, h0⟩ | ⟨e, h0⟩
        · rw [if_neg (by omega)]
          rcases ho with ⟨_, l, ld, lx, lo, fj⟩ | ⟨o1, _⟩
          · have ek : 0 + 16 + 5 * a1.toNat = 1 + 15 + 5 * k := by omega
            rw [ek]
            refine par_zg (fun _ => par_zb (cv_wcopy (fu := fu) (1 + 15 + 5 * k) (0 + 149) (by omega) I10) (fun _ I14 ⟨⟨c1, c2, c3, c4⟩, c5⟩ => par_zr ⟨?_, Or.inr ⟨k, hk, ⟨l, ⟨c1.trans ld.1, fun i hi => ?_, ?_, fun i r hr => ⟨?_, ?_⟩⟩, lx, lo⟩, fj, fun q j hq hn => ?_⟩⟩))
            · rw [c5 _ _ (by omega)]; exact hz.trans z
            · exact (c2 i (by have := lo.2.1; omega)).trans (ld.2.1 i hi)
            · exact (c3 0 (by decide)).trans (hz.trans z)
            · exact (c3 (i + 1) (by have := lt_of_get hr; have := lo.1; omega)).trans (ld.2.2 i r hr).1
            · exact (c4 i (by have := lt_of_get hr; have := lo.1; omega)).trans (ld.2.2 i r hr).2
            · exact (c5 _ _ (by omega)).trans (hf q j hq)
          · exact absurd h0 o1
        · rw [if_pos e]
          rcases ho with ⟨o1, _⟩ | ⟨_, o2⟩
          · exact absurd o1 h0
          · exact par_zr ⟨hz.trans z, Or.inl ⟨o2, hf⟩⟩
      exact par_ite (fun c4 => go 1 (if_pos c4).symm) (fun c4 => go 0 (if_neg c4).symm)
    exact key x I' e1
  · have k1 : par (f_S_text fu 0 a1 I) (fun _ I' => ∀ q j, q ≠ 144 → I' q j = I q j) := by
      unfold f_S_text
      simp only [zj]
      have hfg : par (zb (f_R_forget fu (0 + 144) I) fun _ I4 => zr (-1) I4) (fun _ I' => ∀ q j, q ≠ 144 → I' q j = I q j) := by
        unfold f_R_forget
        exact par_zb (Q1 := fun _ I' => ∀ q j, q ≠ 144 → I' q j = I q j) (par_zw (par_zw (par_zw (par_zr (fun q j hq => (up_o (by omega) _).trans ((up_o (by omega) _).trans (up_o (by omega) _))))))) (fun _ _ h => par_zr h)
      exact par_ite (fun _ => hfg) (fun c => par_ite (fun _ => hfg) (fun c2 => absurd ⟨by omega, by omega⟩ ha))
    have k2 : par (f_X_text fu 0 a1 J) (fun _ J' => ∀ j, J' 1 j = J 1 j) := by
      unfold f_X_text
      refine par_zw (par_zb (par_isIn fu a1 0 4 _) (fun y2 J2 ⟨e, hy⟩ => ?_))
      rw [if_pos (hy.mpr ha)]
      subst e
      exact par_zw (par_zw (par_zw (par_zr (fun j => (up_o (by omega) _).trans ((up_o (by omega) _).trans ((up_o (by omega) _).trans (up_o (by omega) _)))))))
    exact ⟨(k1 x I' e1 151 0 (by decide)).trans z, Or.inl ⟨k2 y J' e2, fun q j hq => k1 x I' e1 q j (by omega)⟩⟩
/-- another law's cells -/
theorem lwr_ot {k k2 : Nat} {I J I' J' : IMem} (hk : k < 5) (hk2 : k2 < 5) (hne : k2 ≠ k) (h : LWR 1 1 k2 I J) (b2 : ∀ j, ¬ TC k j → J' 1 j = J 1 j) (b3 : ∀ q j, q < 100 → ¬ (16 + 5 * k ≤ q ∧ q < 20 + 5 * k) → I' q j = I q j) : LWR 1 1 k2 I' J' := by
  obtain ⟨l, lc, lx, lo⟩ := h
  refine ⟨l, lc_mv lc (fun d j hd => b3 _ _ (by omega) (by omega)), ?_, lo⟩
  obtain ⟨a1, a2, a3⟩ := lx
  have o1 := lo.1
  have o3 := lo.2.2.1
  have tc : ∀ j, (j = 1580 + k2 ∨ TR k2 j ∨ (1910 + 820 * k2 ≤ j ∧ j < 2730 + 820 * k2)) → J' 1 j = J 1 j := fun j hj => b2 j (by unfold TC TR; unfold TR at hj; omega)
  refine ⟨?_, fun i hi => ⟨?_, ?_⟩, fun i r hr => ?_⟩
  · rw [tc _ (Or.inl rfl)]; exact a1
  · rw [tc _ (Or.inr (Or.inr (by omega)))]; exact (a2 i hi).1
  · rw [tc _ (Or.inr (Or.inr (by omega)))]; exact (a2 i hi).2
  · have hi := lt_of_get hr
    obtain ⟨c3, c4, c5, c6⟩ := a3 i r hr
    refine ⟨?_, ?_, ?_, fun q => ⟨(c6 q).1, ?_⟩⟩
    · rw [tc _ (Or.inr (Or.inl (by unfold TR; omega)))]; exact c3
    · rw [tc _ (Or.inr (Or.inl (by unfold TR; omega)))]; exact c4
    · rw [tc _ (Or.inr (Or.inl (by unfold TR; omega)))]; exact c5
    · rw [tc _ (Or.inr (Or.inl (by unfold TR; omega)))]; exact (c6 q).2
theorem pj_text {fu : Nat} {I J : IMem} (a1 : Int) (h : RJ I J) : pq (f_S_text fu 0 a1 I) (f_X_text fu 0 a1 J) EQJ := by
  intro x I' y J' e1 e2
  have h' := h
  obtain ⟨⟨hR, hz11, hA⟩, n11, i8, him, hZ, hP, hT, hF⟩ := h'
  obtain ⟨p1, p2⟩ := text_j fu a1 hT e1 e2
  obtain ⟨q1, q2⟩ := text_lw fu a1 hT hZ.2.2 e1 e2
  have fI : ∀ q j, ¬ ((16 ≤ q ∧ q < 41) ∨ q = 144 ∨ (146 ≤ q ∧ q ≤ 152)) → I' q j = I q j := fun q j hq => congrFun (fr_S_text (fun q => (16 ≤ q ∧ q < 41) ∨ q = 144 ∨ (146 ≤ q ∧ q ≤ 152)) fu 0 a1 I (fun q a b => by omega) (by omega) (by omega) (by omega) (by omega) (by omega) (by omega) (by omega) (by omega) e1 q hq) j
  have fJ : ∀ q j, ¬ (q = 1 ∨ q = 4 ∨ q = 5 ∨ (q = 0 ∧ 9 ≤ j ∧ j ≤ 21)) → J' q j = J q j := fc_X_text (fun q j => q = 1 ∨ q = 4 ∨ q = 5 ∨ (q = 0 ∧ 9 ≤ j ∧ j ≤ 21)) fu 0 a1 J (fun j => by omega) (fun j => by omega) (fun j => by omega) (by omega) (by omega) (by omega) (by omega) (by omega) (by omega) (by omega) (by omega) (by omega) (by omega) (by omega) (by omega) (by omega) e2
  have w1 : ∀ j, j < 1580 ∨ 6010 ≤ j → J' 1 j = J 1 j := by
    intro j hj
    rcases q2 with ⟨b1, _⟩ | ⟨k, hk, _, b2, _⟩
    · exact b1 j
    · exact b2 j (by unfold TC TR; omega)
  have hW : HW 1 1 I' J' := by
    rcases q2 with ⟨b1, b2⟩ | ⟨k, hk, b1, b2, b3⟩
    · exact hw_mv hR.2.2.2.2 (fun d j a c e => b2 (1 + d) j (by omega)) (fun j _ _ => b1 j)
    · intro k2 hk2
      by_cases y : k2 = k
      · subst y; exact b1
      · exact lwr_ot hk hk2 y (hR.2.2.2.2 k2 hk2) b2 b3
  have hR' : HR 1 1 I' J' := ⟨hs_mv hR.1 (fun d j hd => fI _ _ (by omega)) (fun j hj => w1 j (by omega)), hy_mv hR.2.1 (fun j => fI _ _ (by omega)) (fun j _ _ => w1 j (by omega)), hp_mv hR.2.2.1 (fun j => ⟨fI _ _ (by omega), fI _ _ (by omega)⟩) (fun j hj => w1 j (by omega)), hl_mv hR.2.2.2.1 (fun j => ⟨fI _ _ (by omega), fI _ _ (by omega)⟩) (fun j _ _ => w1 j (by omega)), hW⟩
  refine ⟨rj_mv h ⟨hR', ?_, ?_, ?_⟩ (fI _ _ (by omega)) (fun q j hq => ?_) (fun q j hq => fJ _ _ (by omega)) (pk_mv hP (fun q j hq => fI _ _ (by omega)) (fun q j hq => ?_) (fun k hk => ?_)) ⟨0, Nat.zero_le _, ja_S_text fu a1 I e1, ja_X_text fu a1 J e2, fun j hj => absurd hj (Nat.not_lt_zero _)⟩ p2, p1⟩
  · rw [fI _ _ (by omega), fJ _ _ (by omega)]; exact hz11
  · rw [fI _ _ (by omega)]; exact hA.1
  · rw [fI _ _ (by omega)]; exact hA.2
  · by_cases y : q = 151 ∧ j = 0
    · rw [y.1, y.2, q1, hZ.2.2]
    · exact fI _ _ (by omega)
  · by_cases y : q = 1
    · subst y; exact w1 _ (by omega)
    · exact fJ _ _ (by omega)
  · have k1 := hk.1
    exact ⟨⟨k1, by rw [w1 _ (by omega)]; exact hk.2⟩, w1 _ (by omega), w1 _ (by omega)⟩
