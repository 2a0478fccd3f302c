/-! a whole text on both sides -/
def kUn : IMem → Res := fun (I20 : IMem) => if I20 144 10 = 0 then (zr 1 I20) else (zr 0 I20)
theorem un_31 (fu : Nat) : ∀ (m : Nat) (w2 : Int) (I : IMem), par (f_R_understand_31 fu kUn 144 m w2 I) (fun v I' => (v = 1 ∧ I' 144 10 = 0) ∨ (v = 0 ∧ I' 144 10 ≠ 0)) := by
  intro m
  induction m with
  | zero => intro _ _; exact par_none
  | succ m ih =>
    intro w2 I
    show par (fb_R_understand_31 fu kUn 144 (f_R_understand_31 fu kUn 144 m) w2 I) _
    unfold fb_R_understand_31
    have hk : ∀ I, par (kUn I) (fun v I' => (v = 1 ∧ I' 144 10 = 0) ∨ (v = 0 ∧ I' 144 10 ≠ 0)) := by
      intro I
      unfold kUn
      exact par_ite (fun c => par_zr (Or.inl ⟨rfl, c⟩)) (fun c => par_zr (Or.inr ⟨rfl, c⟩))
    refine par_ite (fun _ => par_ite (fun _ => par_ite (fun _ => hk I) (fun _ => ?_)) (fun _ => hk I)) (fun _ => hk I)
    exact par_zb (Q1 := fun _ _ => True) (fun _ _ _ => trivial) (fun _ I1 _ => par_zl (ih _ I1))
def INV (T : TXT) (d : Int) (t : Nat) (l : List LRec) (I J : IMem) : Prop := PSt T d t (XS T.s l) (PX l) I J ∧ LA T.s l I J ∧ I 149 4 = l.length ∧ J 0 10 = l.length ∧ l.length ≤ 16
theorem jt_10 {T : TXT} {d : Int} {t : Nat} {ps : List (Int × Int)} {J : IMem} {v : Int} (h : JTk T d t ps J) : JTk T d t ps (up J 0 10 v) := by
  obtain ⟨hT, h9, h15, h13, h14, h16, h20, h11, hp⟩ := h
  exact ⟨⟨(up_j (by omega) _).trans hT.1, hT.2.1, fun i hi => (up_o (by omega) _).trans (hT.2.2.1 i hi), hT.2.2.2⟩, (up_j (by omega) _).trans h9, (up_j (by omega) _).trans h15, (up_j (by omega) _).trans h13, (up_j (by omega) _).trans h14, fun x => (up_j (by omega) _).trans (h16 x), (up_j (by omega) _).trans h20, (up_j (by omega) _).trans h11, fun i hi => ⟨(up_o (by omega) _).trans (hp.1 i hi).1, (up_o (by omega) _).trans (hp.1 i hi).2⟩, (up_j (by omega) _).trans hp.2⟩
theorem text57 {Q : IMem → Int → IMem → Prop} {T : TXT} (fu : Nat) (a1 : Int) (kX : Int → IMem → Res) (good : ∀ t l d I J, INV T d t l I J → par2 (kUn I) (kX 1 J) Q) (bad : ∀ I J, BDt I J → par2 (kUn I) (kX 0 J) Q) : ∀ (m m2 : Nat) (w2 : Int) (t : Nat) (l : List LRec) (d : Int) (I J : IMem), INV T d t l I J → 0 ≤ w2 → w2 ≤ t → par2 (f_R_understand_31 fu kUn 144 m w2 I) (f_X_text_57 fu kX 0 a1 m2 1 J) Q := by
  intro m
  induction m with
  | zero => intro m2 w2 t l d I J _ _ _; exact par2_nl
  | succ m ih =>
    intro m2 w2 t l d I J h hw0 hw2
    cases m2 with
    | zero => exact par2_nr
    | succ m2 =>
    show par2 (fb_R_understand_31 fu kUn 144 (f_R_understand_31 fu kUn 144 m) w2 I) (fb_X_text_57 fu kX 0 a1 (f_X_text_57 fu kX 0 a1 m2) 1 J) _
    unfold fb_R_understand_31 fb_X_text_57
    have h' := h
    obtain ⟨⟨ho, hc, hj, ht, hx, hp⟩, l1, l2, l3, l4⟩ := h'
    have hn := ho.1.2.1
    have hkd := okt_k ho ht
    have a0 := (tm_all (s := T.s) hkd.1).1
    rw [if_neg (c := (1 : Int) = 0) (by decide), hj.2.2.2.2.1, hc.2.1, if_pos hc.2.2.2.1]
    by_cases c17 : T.K t = 17
    · rw [if_pos (a0.mpr c17)]
      have g := good t l d I J h
      exact par2_il (fun _ => by rw [if_pos c17]; exact g) (fun _ => g)
    · rw [if_neg (fun x => c17 (a0.mp x)), if_neg c17]
      have htn : t < T.n := by
        have := hkd.2.1
        omega
      rw [if_pos (by omega)]
      refine par2_b (line2 fu ⟨l1, l2, l3, l4⟩ ⟨ho, hc, hj, ht, hx, hp⟩) (fun _ I1 y J1 _ _ ou => ?_)
      simp only [zj, zl]
      rw [wr32_i2 (x := w2 + 1) (by omega) (by omega)]
      rcases ou with ⟨ey, t2, r, g1, g2, g3, g4, g5, g6⟩ | ⟨ey, bd⟩
      · subst ey
        rw [if_neg (c := (1 : Int) = 0) (by decide)]
        refine par2_zwr ?_
        rw [g5, wr32_i2 (by omega) (by omega)]
        have hlen : (l ++ [r]).length = l.length + 1 := by rw [List.length_append]; rfl
        obtain ⟨go, gc, gj, gt, gx, gp⟩ := g2
        have e1 : up J1 0 10 ((l.length : Int) + 1) 0 10 = ((l ++ [r]).length : Nat) := (if_pos ⟨rfl, rfl⟩).trans (by rw [hlen]; rfl)
        refine ih m2 (w2 + 1) t2 (l ++ [r]) 0 I1 _ ⟨⟨go, gc, jt_10 gj, gt, gx, gp⟩, la_fr g3 ⟨fun _ _ => rfl, fun _ _ => rfl⟩ (fun j _ => up_o (by omega) _), by rw [hlen]; exact g4, e1, by rw [hlen]; exact g6⟩ (by omega) (by omega)
      · subst ey
        rw [if_pos rfl]
        refine par2_zwr ?_
        generalize hJ2 : up J1 0 10 (wr32 (J1 0 10 + 0)) = J2
        have bd2 : BDt I1 J2 := by
          obtain ⟨f, p, b1, b2, b3⟩ := bd
          exact ⟨f, p, b1, b2, by rw [← hJ2]; exact ⟨(up_j (by omega) _).trans b3.1, (up_j (by omega) _).trans b3.2⟩⟩
        have gb := bad I1 J2 bd2
        cases m with
        | zero => exact par2_nl
        | succ m =>
        cases m2 with
        | zero => exact par2_nr
        | succ m2 =>
        show par2 (fb_R_understand_31 fu kUn 144 (f_R_understand_31 fu kUn 144 m) (w2 + 1) I1) (fb_X_text_57 fu kX 0 a1 (f_X_text_57 fu kX 0 a1 m2) 0 J2) _
        unfold fb_R_understand_31 fb_X_text_57
        rw [if_pos rfl, if_neg (bd_n bd)]
        exact par2_il (fun _ => gb) (fun _ => gb)
/-! text, from its start to its end -/
theorem par2_zwl {Q : IMem → Int → IMem → Prop} {m2 : Res} {I : IMem} {o j : Nat} {v : Int} {k : IMem → Res} (h : par2 (k (up I o j v)) m2 Q) : par2 (zw I o j v k) m2 Q := h
theorem ct_start {T : TXT} {I : IMem} (fu : Nat) (ho : OKT T) (h6 : I 144 6 = -1) (h10 : I 144 10 = 0) (h9 : I 144 9 = (if T.s = 4 then 1 else 0)) (h5 : I 144 5 = (T.n + 1 : Nat)) (ha : ∀ j, j ≤ T.n → I 146 j = T.K j ∧ I 147 j = T.P j ∧ I 148 j = T.V j) (h1 : I 149 1 = 0) (h11 : I 144 11 = -1) : par (f_R_advance fu 144 I) (fun _ I' => CTk T 0 [] I' ∧ I' 149 4 = I 149 4) := by
  have hn := ho.1.2.1
  unfold f_R_advance
  refine par_zl ?_
  rw [h6, show wr32 ((-1 : Int) + 1) = 0 from rfl]
  rw [if_pos h10, if_neg (by decide), if_neg (by decide), h5, if_pos (by omega)]
  refine par_zw (par_zg (fun _ => par_zw (par_zg (fun _ => par_zw (par_zr ?_)))))
  rw [show (0 : Int).toNat = 0 from rfl]
  have g := ha 0 (Nat.zero_le _)
  refine ⟨⟨?_, ?_, ?_, ?_, ?_, ?_, fun j hj => ⟨?_, ?_, ?_⟩, ?_, fun i hi => absurd hi (Nat.not_lt_zero _), ?_⟩, ?_⟩
  · exact (up_j (by omega) _).trans ((up_j (by omega) _).trans (if_pos ⟨rfl, rfl⟩))
  · refine (up_j (by omega) _).trans ((if_pos ⟨rfl, rfl⟩).trans ?_)
    exact (up_o (by omega) _).trans g.1
  · refine (if_pos ⟨rfl, rfl⟩).trans ?_
    exact (up_o (by omega) _).trans ((up_o (by omega) _).trans g.2.2)
  · exact (up_j (by omega) _).trans ((up_j (by omega) _).trans ((up_j (by omega) _).trans h10))
  · exact (up_j (by omega) _).trans ((up_j (by omega) _).trans ((up_j (by omega) _).trans h9))
  · exact (up_j (by omega) _).trans ((up_j (by omega) _).trans ((up_j (by omega) _).trans h5))
  · exact (up_o (by omega) _).trans ((up_o (by omega) _).trans ((up_o (by omega) _).trans (ha j hj).1))
  · exact (up_o (by omega) _).trans ((up_o (by omega) _).trans ((up_o (by omega) _).trans (ha j hj).2.1))
  · exact (up_o (by omega) _).trans ((up_o (by omega) _).trans ((up_o (by omega) _).trans (ha j hj).2.2))
  · exact (up_o (by omega) _).trans ((up_o (by omega) _).trans ((up_o (by omega) _).trans h1))
  · exact (up_j (by omega) _).trans ((up_j (by omega) _).trans ((up_j (by omega) _).trans h11))
  · exact (up_o (by omega) _).trans ((up_o (by omega) _).trans (up_o (by omega) _))
/-- what stays while the reference copies -/
def CP (c a e : Int) (I : IMem) : Prop := I 0 10 = c ∧ I 0 19 = a ∧ I 0 21 = e
theorem cp_up {c a e : Int} {I : IMem} {j : Nat} {v : Int} (h : CP c a e I) : CP c a e (up I (0 + 1) j v) := ⟨(up_o (by omega) _).trans h.1, (up_o (by omega) _).trans h.2.1, (up_o (by omega) _).trans h.2.2⟩
theorem cp_259 (fu : Nat) (a1 : Int) (c a e : Int) : ∀ (m : Nat) (w : Int) (I : IMem), CP c a e I → par (f_X_text_259 fu 0 a1 m w I) (fun y J => y = c ∧ CP c a e J) := by
  intro m
  induction m with
  | zero => intro _ _ _; exact par_none
  | succ m ih =>
    intro w I h
    show par (fb_X_text_259 fu 0 a1 (f_X_text_259 fu 0 a1 m) w I) _
    unfold fb_X_text_259
    exact par_ite (fun _ => par_zg (fun _ => par_zl (par_zg (fun _ => par_zw (par_zl (ih _ _ (cp_up h))))))) (fun _ => par_zr ⟨h.1, h⟩)
theorem cp_145 (fu : Nat) (a1 : Int) (c a e : Int) : ∀ (m : Nat) (w : Int) (I : IMem), CP c a e I → par (f_X_text_145 fu (fun (I42 : IMem) => f_X_text_259 fu 0 a1 fu 0 I42) 0 a1 m w I) (fun y J => y = c ∧ CP c a e J) := by
  intro m
  induction m with
  | zero => intro _ _ _; exact par_none
  | succ m ih =>
    intro w I h
    show par (fb_X_text_145 fu _ 0 a1 (f_X_text_145 fu _ 0 a1 m) w I) _
    unfold fb_X_text_145
    refine par_ite (fun _ => ?_) (fun _ => cp_259 fu a1 c a e fu 0 I h)
    refine par_zl (par_zg (fun _ => par_zl (par_zg (fun _ => par_zw ?_))))
    refine par_zl (par_zg (fun _ => par_zl (par_zg (fun _ => par_zw ?_))))
    refine par_zl (par_zg (fun _ => par_zl (par_zg (fun _ => par_zw ?_))))
    refine par_zl (par_zg (fun _ => par_zl (par_zg (fun _ => par_zw (par_zl (ih _ _ (cp_up (cp_up (cp_up (cp_up h)))))))))) 
/-- how a text ends on both sides -/
def OUT2 (I : IMem) (y : Int) (J : IMem) : Prop := (I 144 10 = 0 ∧ J 0 19 = 0 ∧ I 144 11 = -1 ∧ J 0 21 = -1 ∧ y = I 149 4) ∨ (I 144 10 ≠ 0 ∧ I 144 10 = J 0 19 ∧ I 144 11 = J 0 21 ∧ y = -1)
/-- the tapes are the same -/
def RTp (I J : IMem) : Prop := ∃ L : Nat, L ≤ 400 ∧ I 144 1 = L ∧ J 0 12 = L ∧ ∀ j, j < L → I 145 j = J 6 j ∧ 0 ≤ J 6 j ∧ J 6 j < 256
theorem text2 (fu : Nat) (a1 x : Int) (ha : 0 ≤ a1 ∧ a1 ≤ 4) (hx : x = if a1 = 4 then 1 else 0) (I J : IMem) (hR : RTp I J) : par2 (f_R_understand fu 144 x I) (f_X_text fu 0 a1 J) OUT2 := by
  obtain ⟨L, hL, hI1, hJ12, hb⟩ := hR
  unfold f_R_understand f_X_text
  refine par2_bl (par_scan fu I L hL hI1 (fun j hj => by have := hb j hj; omega)) (fun _ I2 ⟨n, E, s5, lx⟩ => ?_)
  obtain ⟨T, hT⟩ : ∃ T : TXT, (⟨a1, I 145, L, n, I2 146, I2 147, I2 148, E⟩ : TXT) = T := ⟨_, rfl⟩
  have ho : OKT T := by
    rw [← hT]
    exact ⟨lx, hL, fun j hj => by have := hb j hj; show 0 ≤ I 145 j ∧ I 145 j < 256; omega⟩
  have hs : T.s = a1 := by rw [← hT]
  have hTn : T.n = n := by rw [← hT]
  have hTL : T.L = L := by rw [← hT]
  have hTb : T.b = I 145 := by rw [← hT]
  have hTK : T.K = I2 146 ∧ T.P = I2 147 ∧ T.V = I2 148 ∧ T.E = E := by rw [← hT]; exact ⟨rfl, rfl, rfl, rfl⟩
  -- the class's start
  refine par2_bl (P := fun _ I5 => I5 144 5 = (n + 1 : Nat) ∧ I5 144 10 = 0 ∧ I5 144 11 = -1 ∧ (∀ j, I5 146 j = I2 146 j ∧ I5 147 j = I2 147 j ∧ I5 148 j = I2 148 j)) ?_ (fun _ I5 ⟨b5, b10, b11, ba⟩ => ?_)
  · unfold f_R_forget
    refine par_zw (par_zw (par_zw (par_zr ⟨?_, ?_, if_pos ⟨rfl, rfl⟩, fun j => ⟨?_, ?_, ?_⟩⟩)))
    · exact (up_j (by omega) _).trans ((up_j (by omega) _).trans ((up_j (by omega) _).trans s5))
    · exact (up_j (by omega) _).trans (if_pos ⟨rfl, rfl⟩)
    · exact (up_o (by omega) _).trans ((up_o (by omega) _).trans (up_o (by omega) _))
    · exact (up_o (by omega) _).trans ((up_o (by omega) _).trans (up_o (by omega) _))
    · exact (up_o (by omega) _).trans ((up_o (by omega) _).trans (up_o (by omega) _))
  refine par2_gl (fun _ => ?_)
  refine par2_zwl ?_
  refine par2_bl (P := fun _ I7 => I7 144 5 = (n + 1 : Nat) ∧ I7 144 10 = 0 ∧ I7 144 11 = -1 ∧ I7 144 9 = x ∧ (∀ j, I7 146 j = I2 146 j ∧ I7 147 j = I2 147 j ∧ I7 148 j = I2 148 j) ∧ I7 149 1 = 0 ∧ I7 149 4 = 0) ?_ (fun _ I7 ⟨c5, c10, c11, c9, ca, c1, c4⟩ => ?_)
  · unfold f_W_clear
    refine par_zw (par_zw (par_zr ⟨?_, ?_, ?_, ?_, fun j => ⟨?_, ?_, ?_⟩, ?_, if_pos ⟨rfl, rfl⟩⟩))
    · exact (up_o (by omega) _).trans ((up_o (by omega) _).trans ((up_j (by omega) _).trans b5))
    · exact (up_o (by omega) _).trans ((up_o (by omega) _).trans ((up_j (by omega) _).trans b10))
    · exact (up_o (by omega) _).trans ((up_o (by omega) _).trans ((up_j (by omega) _).trans b11))
    · exact (up_o (by omega) _).trans ((up_o (by omega) _).trans (if_pos ⟨rfl, rfl⟩))
    · exact (up_o (by omega) _).trans ((up_o (by omega) _).trans ((up_o (by omega) _).trans (ba j).1))
    · exact (up_o (by omega) _).trans ((up_o (by omega) _).trans ((up_o (by omega) _).trans (ba j).2.1))
    · exact (up_o (by omega) _).trans ((up_o (by omega) _).trans ((up_o (by omega) _).trans (ba j).2.2))
    · exact (up_j (by omega) _).trans (if_pos ⟨rfl, rfl⟩)
  refine par2_zwl ?_
  refine par2_bl (ct_start (T := T) fu ho (if_pos ⟨rfl, rfl⟩) ((up_j (by omega) _).trans c10) ((up_j (by omega) _).trans (by rw [c9, hx, hs])) ((up_j (by omega) _).trans (by rw [c5, hTn])) (fun j _ => by
    rw [hTK.1, hTK.2.1, hTK.2.2.1]
    exact ⟨(up_o (by omega) _).trans (ca j).1, (up_o (by omega) _).trans (ca j).2.1, (up_o (by omega) _).trans (ca j).2.2⟩) ((up_o (by omega) _).trans c1) ((up_j (by omega) _).trans c11)) (fun _ I8 ⟨ct, cl⟩ => ?_)
  have cl4 : I8 149 4 = 0 := cl.trans ((up_o (by omega) _).trans c4)
  -- the reference's start
  refine par2_zwr ?_
  refine par2_br (par_isIn fu a1 0 4 _) (fun y2 J2 ⟨e2, hy2⟩ => ?_)
  subst e2
  rw [if_neg (fun z => (hy2.mp z) ha)]
  refine par2_zwr (par2_zwr (par2_zwr (par2_zwr ?_)))
  obtain ⟨q0, p1, p2, p3, p4, p5⟩ := ho.1.2.2 0 (Nat.zero_le _)
  rw [ho.1.1] at p2
  generalize hJ3 : up (up (up (up (up J 0 17 0) 0 9 a1) 0 13 0) 0 10 0) 0 11 0 = J3
  have f0 : ∀ o i, ¬ (o = 0 ∧ (i = 17 ∨ i = 9 ∨ i = 13 ∨ i = 10 ∨ i = 11)) → J3 o i = J o i := by
    intro o i hoi
    rw [← hJ3]
    exact (if_neg (by omega)).trans ((if_neg (by omega)).trans ((if_neg (by omega)).trans ((if_neg (by omega)).trans (if_neg (by omega)))))
  have f11 : J3 0 11 = 0 := by rw [← hJ3]; exact if_pos ⟨rfl, rfl⟩
  have f10 : J3 0 10 = 0 := by rw [← hJ3]; exact (up_j (by omega) _).trans (if_pos ⟨rfl, rfl⟩)
  have f13 : J3 0 13 = (0 : Nat) := by rw [← hJ3]; exact (up_j (by omega) _).trans ((up_j (by omega) _).trans (if_pos ⟨rfl, rfl⟩))
  have f9 : J3 0 9 = a1 := by rw [← hJ3]; exact (up_j (by omega) _).trans ((up_j (by omega) _).trans ((up_j (by omega) _).trans (if_pos ⟨rfl, rfl⟩)))
  have f17 : J3 0 17 = 0 := by rw [← hJ3]; exact (up_j (by omega) _).trans ((up_j (by omega) _).trans ((up_j (by omega) _).trans ((up_j (by omega) _).trans (if_pos ⟨rfl, rfl⟩))))
  have tp3 : TP T.b T.L J3 := by
    rw [hTb, hTL]
    exact ⟨(f0 0 12 (by omega)).trans hJ12, hL, fun j hj => (f0 6 j (by omega)).trans (hb j hj).1.symm, fun j hj => by have := hb j hj; omega⟩
  clear hJ3
  refine par2_br (par_next0 fu T.b T.L 0 q0 (T.E 1) (T.K 0) (T.V 0) J3 tp3 f13 p2 p3 p4) (fun _ J4 ⟨e, k15, k13, k14, k16⟩ => ?_)
  have jt : JTk T (J3 0 20) 0 [] J4 := ⟨tp_ext tp3 e, (e 0 9 (by omega)).trans (f9.trans hs.symm), k15.trans p1.symm, k13, by rw [k14, f9, hs], k16, e 0 20 (by omega), (e 0 11 (by omega)).trans f11, fun i hi => absurd hi (Nat.not_lt_zero _), (e 0 17 (by omega)).trans f17⟩
  have inv : INV T (J3 0 20) 0 [] I8 J4 := ⟨⟨ho, ct, jt, Nat.zero_le _, Nat.le_refl _, Nat.le_refl _⟩, (fun i r hr => by cases hr), cl4, (e 0 10 (by omega)).trans f10, by decide⟩
  refine text57 (T := T) fu a1 _ (fun t l d I9 J9 h9 => ?_) (fun I9 J9 bd => ?_) fu fu 0 0 [] (J3 0 20) I8 J4 inv (by omega) (by omega)
  · obtain ⟨⟨_, gc, gj, _, _, _⟩, _, g4, g10, _⟩ := h9
    unfold kUn
    rw [if_pos gc.2.2.2.1]
    refine par2_r ?_
    refine par_zw (par_zw ?_)
    simp only [zj]
    rw [if_neg (c := (1 : Int) = 0) (by decide)]
    refine par_zw ?_
    rw [if_neg (c := (1 : Int) = 0) (by decide)]
    refine par_zl (par_zg (fun _ => par_zw ?_))
    have e17 := gj.2.2.2.2.2.2.2.2.2
    have cp : CP (J9 0 10) 0 (-1) (up (up (up J9 0 12 0) 0 19 (up J9 0 12 0 0 17)) 0 21 (-1)) := ⟨(up_j (by omega) _).trans ((up_j (by omega) _).trans (up_j (by omega) _)), (up_j (by omega) _).trans ((if_pos ⟨rfl, rfl⟩).trans ((up_j (by omega) _).trans e17)), if_pos ⟨rfl, rfl⟩⟩
    refine par_mono (cp_145 fu a1 _ 0 (-1) fu 0 _ (cp_up cp)) (fun y J10 ⟨hy, z1, z2, z3⟩ => ?_)
    exact Or.inl ⟨gc.2.2.2.1, z2, gc.2.2.2.2.2.2.2.2.2, z3, by rw [hy, g10, g4]⟩
  · unfold kUn
    obtain ⟨f, p, b1, b2, b3⟩ := bd
    rw [if_neg (by rw [b2.1]; exact b1)]
    refine par2_r ?_
    refine par_zw (par_zw ?_)
    simp only [zj]
    rw [if_pos trivial]
    refine par_zw ?_
    rw [if_pos trivial]
    refine par_zr (Or.inr ⟨by rw [b2.1]; exact b1, ?_, ?_, rfl⟩)
    · rw [b2.1]
      exact ((up_j (by omega) _).trans ((if_pos ⟨rfl, rfl⟩).trans ((up_j (by omega) _).trans b3.1))).symm
    · rw [b2.2]
      exact ((if_pos ⟨rfl, rfl⟩).trans ((up_j (by omega) _).trans ((up_j (by omega) _).trans b3.2))).symm
/-! feed: the same bytes -/
theorem iv255 : iv 255 = 255 := by decide +kernel
theorem msk (x y : BitVec 32) (h : ∀ i, i < 8 → x.getLsbD i = y.getLsbD i) : x &&& 255#32 = y &&& 255#32 := by
  apply BitVec.eq_of_getLsbD_eq
  intro i hi
  rw [BitVec.getLsbD_and, BitVec.getLsbD_and]
  rcases Nat.lt_or_ge i 8 with g | g
  · rw [h i g]
  · have : (255#32 : BitVec 32).getLsbD i = false := by
      have : ∀ i : Fin 32, 8 ≤ i.val → (255#32 : BitVec 32).getLsbD i.val = false := by decide
      exact this ⟨i, hi⟩ g
    rw [this, Bool.and_false, Bool.and_false]
theorem by_eq (a : Int) (w : Int) (hw : w = 0 ∨ w = 8 ∨ w = 16 ∨ w = 24) : wand (wushr a w) 255 = wand (wshr a w) 255 := by
  unfold wand wushr wshr
  rw [iv_of, iv_of, iv255]
  congr 1
  generalize iv a = x
  refine Int32.toBitVec_inj.mp ?_
  have key : ∀ k : Nat, k ≤ 24 → (x.toBitVec >>> k) &&& 255#32 = (x.toBitVec.sshiftRight k) &&& 255#32 := by
    intro k hk
    refine msk _ _ (fun i hi => ?_)
    rw [BitVec.getLsbD_ushiftRight, BitVec.getLsbD_sshiftRight]
    rw [if_pos (by omega)]
    simp
    omega
  rcases hw with rfl | rfl | rfl | rfl
  · exact key 0 (by omega)
  · exact key 8 (by omega)
  · exact key 16 (by omega)
  · exact key 24 (by omega)
theorem by_rng (a : Int) : 0 ≤ wand a 255 ∧ wand a 255 < 256 := by
  unfold wand
  rw [iv255]
  generalize iv a = x
  have h2 : (x.toBitVec &&& 255#32).toNat ≤ 255 := by
    rw [BitVec.toNat_and]
    exact Nat.and_le_right
  have h3 : (x &&& 255 : Int32).toInt = ((x.toBitVec &&& 255#32).toNat : Int) := by
    show (x.toBitVec &&& 255#32).toInt = _
    exact BitVec.toInt_eq_toNat_of_lt (by omega)
  rw [h3]
  omega
/-- byte e (0: the last) of a number -/
def bt (a : Int) (e : Nat) : Int := wand (wshr a (8 * (e : Int))) 255
theorem bt_c (a : Int) (e : Nat) (h : e < 4) : wand (wushr a (8 * (e : Int))) 255 = bt a e := by_eq a _ (by omega)
theorem par_take3 (fu : Nat) (a : Int) : ∀ (k m : Nat) (I : IMem) (L : Nat), k ≤ 4 → I 144 1 = L → L + k ≤ 400 → par (f_R_take_3 fu 144 a m (8 * (k : Int) - 8) I) (fun _ I' => I' 144 1 = (L + k : Nat) ∧ (∀ s, s < k → I' 145 (L + s) = bt a (k - 1 - s)) ∧ ∀ j, j < L → I' 145 j = I 145 j) := by
  intro k
  induction k with
  | zero =>
    intro m I L _ h1 _
    cases m with
    | zero => exact par_none
    | succ m =>
      show par (fb_R_take_3 fu 144 a (f_R_take_3 fu 144 a m) _ I) _
      unfold fb_R_take_3
      rw [if_pos (by decide)]
      exact par_zr ⟨h1, fun s hs => absurd hs (Nat.not_lt_zero _), fun _ _ => rfl⟩
  | succ k ih =>
    intro m I L h4 h1 h2
    cases m with
    | zero => exact par_none
    | succ m =>
      show par (fb_R_take_3 fu 144 a (f_R_take_3 fu 144 a m) _ I) _
      unfold fb_R_take_3
      simp only [zj]
      rw [if_neg (by omega), if_neg (by omega), if_pos (by omega)]
      refine par_zl (par_zg (fun _ => par_zw (par_zw (par_zl ?_))))
      rw [wr32_i2 (x := 8 * ((k + 1 : Nat) : Int) - 8 + -8) (by omega) (by omega), show 8 * ((k + 1 : Nat) : Int) - 8 + -8 = 8 * (k : Int) - 8 by omega, show 8 * ((k + 1 : Nat) : Int) - 8 = 8 * (k : Int) by omega, bt_c a k (by omega), show (I 144 1).toNat = L by omega]
      have e1 : up I (144 + 1) L (bt a k) 144 1 = L := (up_o (by omega) _).trans h1
      rw [e1, wr32_i2 (by omega) (by omega)]
      refine par_mono (ih m _ (L + 1) (by omega) (if_pos ⟨rfl, rfl⟩) (by omega)) (fun _ I' ⟨g1, g2, g3⟩ => ⟨by rw [g1]; congr 1; omega, fun s hs => ?_, fun j hj => ?_⟩)
      · cases s with
        | zero =>
          rw [g3 (L + 0) (by omega)]
          refine (up_o (by omega) _).trans ?_
          exact if_pos ⟨rfl, rfl⟩
        | succ s =>
          have := g2 s (by omega)
          rw [show L + (s + 1) = L + 1 + s by omega, this]
          congr 1
          omega
      · rw [g3 j (by omega)]
        exact (up_o (by omega) _).trans (up_j (by omega) _)
theorem par_take (fu : Nat) (a : Int) (I : IMem) (L : Nat) (h1 : I 144 1 = L) (h2 : L + 4 ≤ 400) : par (f_R_take fu 144 a I) (fun _ I' => I' 144 1 = (L + 4 : Nat) ∧ (∀ s, s < 4 → I' 145 (L + s) = bt a (3 - s)) ∧ ∀ j, j < L → I' 145 j = I 145 j) := par_take3 fu a 4 fu I L (Nat.le_refl _) h1 h2
/-- byte k of the twenty -/
def slb (a1 a2 a3 a4 a5 : Int) (k : Nat) : Int := if k < 4 then a1 else if k < 8 then a2 else if k < 12 then a3 else if k < 16 then a4 else a5
def fbt (a1 a2 a3 a4 a5 : Int) (k : Nat) : Int := bt (slb a1 a2 a3 a4 a5 k) (3 - k % 4)
theorem sh_ok : ∀ k : Fin 20, wr32 (24 - (wr32 (8 * (wrem ((k.val : Nat) : Int) 4)))) = 8 * ((3 - k.val % 4 : Nat) : Int) := by decide +kernel
theorem par_feed18 (fu : Nat) (a1 a2 a3 a4 a5 : Int) : ∀ (k m : Nat) (J : IMem) (L : Nat), k ≤ 20 → J 0 12 = L → L + k ≤ 400 → par (f_X_feed_18 fu 0 a1 a2 a3 a4 a5 m (20 - (k : Int)) J) (fun v J' => v = (L + k : Nat) ∧ J' 0 12 = (L + k : Nat) ∧ (∀ s, s < k → J' 6 (L + s) = fbt a1 a2 a3 a4 a5 (20 - k + s)) ∧ ∀ j, j < L → J' 6 j = J 6 j) := by
  intro k
  induction k with
  | zero =>
    intro m J L _ h1 _
    cases m with
    | zero => exact par_none
    | succ m =>
      show par (fb_X_feed_18 fu 0 a1 a2 a3 a4 a5 (f_X_feed_18 fu 0 a1 a2 a3 a4 a5 m) _ J) _
      unfold fb_X_feed_18
      rw [if_neg (by decide)]
      exact par_zr ⟨h1, h1, fun s hs => absurd hs (Nat.not_lt_zero _), fun _ _ => rfl⟩
  | succ k ih =>
    intro m J L h4 h1 h2
    cases m with
    | zero => exact par_none
    | succ m =>
      show par (fb_X_feed_18 fu 0 a1 a2 a3 a4 a5 (f_X_feed_18 fu 0 a1 a2 a3 a4 a5 m) _ J) _
      unfold fb_X_feed_18
      rw [if_pos (by omega)]
      refine par_zj (fun k1 ek1 => ?_)
      have hk1 : ∀ x : Int, x = slb a1 a2 a3 a4 a5 (20 - (k + 1)) → par (k1 x J) (fun v J' => v = (L + (k + 1) : Nat) ∧ J' 0 12 = (L + (k + 1) : Nat) ∧ (∀ s, s < k + 1 → J' 6 (L + s) = fbt a1 a2 a3 a4 a5 (20 - (k + 1) + s)) ∧ ∀ j, j < L → J' 6 j = J 6 j) := by
        intro x hx
        subst ek1
        refine par_zl (par_zg (fun _ => par_zw (par_zw (par_zl ?_))))
        have hsh := sh_ok ⟨20 - (k + 1), by omega⟩
        have ew : (((20 - (k + 1) : Nat) : Nat) : Int) = 20 - ((k + 1 : Nat) : Int) := by omega
        simp only [ew] at hsh
        rw [hsh, show (J 0 12).toNat = L by omega]
        rw [wr32_i2 (x := 20 - ((k + 1 : Nat) : Int) + 1) (by omega) (by omega), show 20 - ((k + 1 : Nat) : Int) + 1 = 20 - (k : Int) by omega]
        have e1 : ∀ v, up J (0 + 6) L v 0 12 = L := fun v => (up_o (by omega) _).trans h1
        rw [e1, wr32_i2 (by omega) (by omega)]
        refine par_mono (ih m _ (L + 1) (by omega) (if_pos ⟨rfl, rfl⟩) (by omega)) (fun v J' ⟨g0, g1, g2, g3⟩ => ⟨by rw [g0]; congr 1; omega, by rw [g1]; congr 1; omega, fun s hs => ?_, fun j hj => ?_⟩)
        · cases s with
          | zero =>
            rw [g3 (L + 0) (by omega)]
            refine (up_o (by omega) _).trans ((if_pos ⟨rfl, rfl⟩).trans ?_)
            unfold fbt bt
            rw [hx]; rfl
          | succ s =>
            have := g2 s (by omega)
            rw [show L + (s + 1) = L + 1 + s by omega, this]
            congr 1
            omega
        · rw [g3 j (by omega)]
          exact (up_o (by omega) _).trans (up_j (by omega) _)
      clear ek1
      unfold slb at hk1
      refine par_ite (fun c => hk1 _ ?_) (fun c => par_ite (fun c2 => hk1 _ ?_) (fun c2 => par_ite (fun c3 => hk1 _ ?_) (fun c3 => par_ite (fun c4 => hk1 _ ?_) (fun c4 => hk1 _ ?_))))
      · rw [if_pos (by omega)]
      · rw [if_neg (by omega), if_pos (by omega)]
      · rw [if_neg (by omega), if_neg (by omega), if_pos (by omega)]
      · rw [if_neg (by omega), if_neg (by omega), if_neg (by omega), if_pos (by omega)]
      · rw [if_neg (by omega), if_neg (by omega), if_neg (by omega), if_neg (by omega)]
theorem feed2 (fu : Nat) (a1 a2 a3 a4 a5 : Int) (I J : IMem) (h : RTp I J) : par2 (f_S_feed fu 0 a1 a2 a3 a4 a5 I) (f_X_feed fu 0 a1 a2 a3 a4 a5 J) (fun I' _ J' => RTp I' J') := by
  obtain ⟨L, hL, h1, h2, hb⟩ := h
  unfold f_S_feed f_X_feed
  rw [h2, wr32_i2 (x := (L : Int) + 20) (by omega) (by omega)]
  refine par2_bl (P := fun v I1 => I1 = I ∧ (v = 0 ↔ 380 < I 144 1)) ?_ (fun v I1 ⟨e, hv⟩ => ?_)
  · unfold f_R_hasRoomForFive
    exact par_ite (fun (q : 380 < I 144 1) => par_zr ⟨rfl, fun _ => q, fun _ => rfl⟩) (fun (q : ¬ 380 < I 144 1) => par_zr ⟨rfl, fun x => absurd x (by decide), fun x => absurd x q⟩)
  subst e
  by_cases c : 380 < L
  · rw [if_pos (hv.mpr (by omega)), if_pos (by omega)]
    exact par2_end ⟨L, hL, h1, h2, hb⟩
  · rw [if_neg (fun x => by have := hv.mp x; omega), if_neg (by omega)]
    refine par2_bl (par_take fu a1 I1 L h1 (by omega)) (fun _ I2 ⟨x1, y1, z1⟩ => ?_)
    refine par2_bl (par_take fu a2 I2 _ x1 (by omega)) (fun _ I3 ⟨x2, y2, z2⟩ => ?_)
    refine par2_bl (par_take fu a3 I3 _ x2 (by omega)) (fun _ I4 ⟨x3, y3, z3⟩ => ?_)
    refine par2_bl (par_take fu a4 I4 _ x3 (by omega)) (fun _ I5 ⟨x4, y4, z4⟩ => ?_)
    refine par2_bl (par_take fu a5 I5 _ x4 (by omega)) (fun _ I6 ⟨x5, y5, z5⟩ => ?_)
    refine par2_r (par_mono (par_feed18 fu a1 a2 a3 a4 a5 20 fu J L (Nat.le_refl _) h2 (by omega)) (fun y J' ⟨g0, g1, g2, g3⟩ => ?_))
    refine ⟨L + 20, by omega, by rw [x5], g1, fun j hj => ?_⟩
    by_cases hjL : j < L
    · have := hb j hjL
      rw [g3 j hjL, z5 j (by omega), z4 j (by omega), z3 j (by omega), z2 j (by omega), z1 j hjL]
      exact this
    · obtain ⟨s, rfl⟩ : ∃ s, j = L + s := ⟨j - L, by omega⟩
      have gs := g2 s (by omega)
      rw [show 20 - 20 + s = s by omega] at gs
      rw [gs]
      refine ⟨?_, by_rng _⟩
      unfold fbt slb
      by_cases c1 : s < 4
      · rw [if_pos c1, z5 _ (by omega), z4 _ (by omega), z3 _ (by omega), z2 _ (by omega), y1 s c1]; congr 1; omega
      by_cases c2 : s < 8
      · rw [if_neg c1, if_pos c2, z5 _ (by omega), z4 _ (by omega), z3 _ (by omega)]
        have := y2 (s - 4) (by omega)
        rw [show L + 4 + (s - 4) = L + s by omega] at this
        rw [this]; congr 1; omega
      by_cases c3 : s < 12
      · rw [if_neg c1, if_neg c2, if_pos c3, z5 _ (by omega), z4 _ (by omega)]
        have := y3 (s - 8) (by omega)
        rw [show L + 4 + 4 + (s - 8) = L + s by omega] at this
        rw [this]; congr 1; omega
      by_cases c4 : s < 16
      · rw [if_neg c1, if_neg c2, if_neg c3, if_pos c4, z5 _ (by omega)]
        have := y4 (s - 12) (by omega)
        rw [show L + 4 + 4 + 4 + (s - 12) = L + s by omega] at this
        rw [this]; congr 1; omega
      · rw [if_neg c1, if_neg c2, if_neg c3, if_neg c4]
        have := y5 (s - 16) (by omega)
        rw [show L + 4 + 4 + 4 + 4 + (s - 16) = L + s by omega] at this
        rw [this]; congr 1; omega
theorem end2 (fu : Nat) (a1 : Int) (I J : IMem) (h : RTp I J) : par2 (f_S_end fu 0 a1 I) (f_X_end fu 0 a1 J) (fun I' _ J' => RTp I' J') := by
  obtain ⟨L, hL, h1, h2, hb⟩ := h
  unfold f_S_end f_X_end
  refine par2_br (par_isIn fu a1 0 (J 0 12) J) (fun y J1 ⟨e, hy⟩ => ?_)
  subst e
  refine par2_bl (P := fun v I1 => (¬ (0 ≤ a1 ∧ a1 ≤ L) ∧ I1 = I) ∨ ((0 ≤ a1 ∧ a1 ≤ L) ∧ I1 = up I 144 1 a1)) ?_ (fun v I1 q => ?_)
  · show par (f_R_cut fu 144 a1 I) _
    unfold f_R_cut
    rw [h1]
    exact par_ite (fun _ => par_zr (Or.inl ⟨by omega, rfl⟩)) (fun _ => par_ite (fun _ => par_zr (Or.inl ⟨by omega, rfl⟩)) (fun _ => par_zw (par_zr (Or.inr ⟨by omega, rfl⟩))))
  refine par2_gl (fun _ => ?_)
  rw [h2] at hy
  rcases q with ⟨q, rfl⟩ | ⟨q, rfl⟩
  · rw [if_pos (hy.mpr q)]
    exact par2_end ⟨L, hL, h1, h2, hb⟩
  · rw [if_neg (fun x => hy.mp x q)]
    refine par2_zwr (par2_end ⟨a1.toNat, by omega, (if_pos ⟨rfl, rfl⟩).trans (by omega), (if_pos ⟨rfl, rfl⟩).trans (by omega), fun j hj => ?_⟩)
    rw [show up I 144 1 a1 145 j = I 145 j from up_o (by omega) _, show up J1 0 12 a1 6 j = J1 6 j from up_o (by omega) _]
    exact hb j (by omega)
/-! text, feed, end, fault: both memories together -/
def RFt (I J : IMem) : Prop := I 144 10 = J 0 19 ∧ I 144 11 = J 0 21
theorem und_v (fu : Nat) (x : Int) (I : IMem) : par (f_R_understand fu 144 x I) (fun v I' => (v = 1 ∧ I' 144 10 = 0) ∨ (v = 0 ∧ I' 144 10 ≠ 0)) := by
  unfold f_R_understand
  refine par_zb (Q1 := fun _ _ => True) (fun _ _ _ => trivial) (fun _ I1 _ => par_zb (Q1 := fun _ _ => True) (fun _ _ _ => trivial) (fun _ I2 _ => par_zg (fun _ => par_zw ?_)))
  refine par_zb (Q1 := fun _ _ => True) (fun _ _ _ => trivial) (fun _ I1 _ => par_zw (par_zb (Q1 := fun _ _ => True) (fun _ _ _ => trivial) (fun _ I2 _ => un_31 fu fu 0 I2)))
theorem text_j (fu : Nat) (a1 : Int) {I J : IMem} {r r2 : Int × IMem} (hR : RTp I J) (e1 : f_S_text fu 0 a1 I = some r) (e2 : f_X_text fu 0 a1 J = some r2) : r.1 = r2.1 ∧ RFt r.2 r2.2 := by
  have hbad : (¬ (0 ≤ a1 ∧ a1 ≤ 4)) → r2.1 = -1 ∧ r2.2 0 19 = 0 ∧ r2.2 0 21 = -1 := by
    intro hn
    have : par (f_X_text fu 0 a1 J) (fun y J' => y = -1 ∧ J' 0 19 = 0 ∧ J' 0 21 = -1) := by
      unfold f_X_text
      refine par_zw (par_zb (par_isIn fu a1 0 4 _) (fun y2 J2 ⟨e, hy⟩ => ?_))
      rw [if_pos (hy.mpr hn)]
      exact par_zw (par_zw (par_zw (par_zr ⟨rfl, (up_j (by omega) _).trans (if_pos ⟨rfl, rfl⟩), if_pos ⟨rfl, rfl⟩⟩)))
    exact this r2.1 r2.2 e2
  have hfg : ∀ I2, par (zb (f_R_forget fu (0 + 144) I2) fun _ I4 => zr (-1) I4) (fun v I' => v = -1 ∧ I' 144 10 = 0 ∧ I' 144 11 = -1) := by
    intro I2
    unfold f_R_forget
    refine par_zb (Q1 := fun _ I' => I' 144 10 = 0 ∧ I' 144 11 = -1) (par_zw (par_zw (par_zw (par_zr ⟨(up_j (by omega) _).trans (if_pos ⟨rfl, rfl⟩), if_pos ⟨rfl, rfl⟩⟩)))) (fun _ _ h => par_zr ⟨rfl, h⟩)
  have key : par (f_S_text fu 0 a1 I) (fun v I' => (¬ (0 ≤ a1 ∧ a1 ≤ 4) ∧ v = -1 ∧ I' 144 10 = 0 ∧ I' 144 11 = -1) ∨ ((0 ≤ a1 ∧ a1 ≤ 4) ∧ v = r2.1 ∧ RFt I' r2.2)) := by
    unfold f_S_text
    simp only [zj]
    refine par_ite (fun c => par_mono (hfg I) (fun v I' h => Or.inl ⟨by omega, h⟩)) (fun c => par_ite (fun c2 => par_mono (hfg I) (fun v I' h => Or.inl ⟨by omega, h⟩)) (fun c2 => ?_))
    have ha : 0 ≤ a1 ∧ a1 ≤ 4 := by omega
    have go : ∀ x : Int, x = (if a1 = 4 then 1 else 0) → par (zb (f_R_understand fu (0 + 144) x I) fun y9 I10 => if y9 = 0 then zr (-1) I10 else zg (0 ≤ a1 ∧ a1 < 5) (zb (f_W_copyFrom fu (0 + 16 + 5 * a1.toNat) (0 + 149) I10) fun _ I14 => zr (I14 (0 + 149) 4) I14)) (fun v I' => (¬ (0 ≤ a1 ∧ a1 ≤ 4) ∧ v = -1 ∧ I' 144 10 = 0 ∧ I' 144 11 = -1) ∨ ((0 ≤ a1 ∧ a1 ≤ 4) ∧ v = r2.1 ∧ RFt I' r2.2)) := by
      intro x hx
      have p2 : par (f_R_understand fu 144 x I) (fun _ I' => OUT2 I' r2.1 r2.2) := fun v I' e => text2 fu a1 x ha hx I J hR v I' r2.1 r2.2 e e2
      refine par_zb (par_and (und_v fu x I) p2) (fun v I10 ⟨hv, ho⟩ => ?_)
      rcases hv with ⟨e, h0⟩ | ⟨e, h0⟩
      · rw [if_neg (by omega)]
        rcases ho with ⟨_, o2, o3, o4, o5⟩ | ⟨o1, _⟩
        · refine par_zg (fun _ => par_zb (Q1 := fun _ I14 => I14 144 = I10 144 ∧ I14 149 = I10 149) (fun v I14 e14 => ?_) (fun _ I14 ⟨w1, w2⟩ => par_zr (Or.inr ⟨ha, ?_, ?_⟩)))
          · have f := fr_W_copyFrom (fun q => q < 100) fu (0 + 16 + 5 * a1.toNat) (0 + 149) I10 (by omega) (by omega) (by omega) (by omega) e14
            exact ⟨f 144 (by omega), f 149 (by omega)⟩
          · show I14 149 4 = _
            rw [w2, o5]
          · unfold RFt
            rw [w1]
            exact ⟨h0.trans o2.symm, o3.trans o4.symm⟩
        · exact absurd h0 o1
      · rw [if_pos e]
        rcases ho with ⟨o1, _⟩ | ⟨_, o2, o3, o4⟩
        · exact absurd o1 h0
        · exact par_zr (Or.inr ⟨ha, o4.symm, o2, o3⟩)
    exact par_ite (fun c4 => go 1 (if_pos c4).symm) (fun c4 => go 0 (if_neg c4).symm)
  rcases key r.1 r.2 e1 with ⟨k1, k2, k3, k4⟩ | ⟨k1, k2, k3⟩
  · obtain ⟨b1, b2, b3⟩ := hbad k1
    exact ⟨k2.trans b1.symm, k3.trans b2.symm, k4.trans b3.symm⟩
  · exact ⟨k2, k3⟩
theorem fault_j (fu : Nat) (a1 : Int) {I J : IMem} {r r2 : Int × IMem} (h : RFt I J) (e1 : f_S_fault fu 0 a1 I = some r) (e2 : f_X_fault fu 0 a1 J = some r2) : r.1 = r2.1 := by
  have k2 : par (f_X_fault fu 0 a1 J) (fun y _ => y = if a1 = 0 then J 0 19 else if a1 = 1 then J 0 21 else -1) := by
    unfold f_X_fault
    refine par_ite (fun c => par_zr ?_) (fun c => par_ite (fun c2 => par_zr ?_) (fun c2 => par_zr ?_))
    · rw [if_pos c]
    · rw [if_neg c, if_pos c2]
    · rw [if_neg c, if_neg c2]
  have k1 : par (f_S_fault fu 0 a1 I) (fun y _ => y = if a1 = 0 then I 144 10 else if a1 = 1 then I 144 11 else -1) := by
    unfold f_S_fault
    refine par_ite (fun c => par_zr ?_) (fun c => ?_)
    · rw [if_pos c]
    · rw [if_neg c]
      refine par_ite (fun c2 => par_zr ?_) (fun c2 => par_zr ?_)
      · rw [if_pos c2]
      · rw [if_neg c2]
  rw [k1 r.1 r.2 e1, k2 r2.1 r2.2 e2, h.1, h.2]
