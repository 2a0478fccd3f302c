/-! a line of a text -/
abbrev LRec : Type := List (Int × Int) × List (Int × Int) × Int
abbrev LRec.E (r : LRec) : List (Int × Int) := r.1
abbrev LRec.B (r : LRec) : List (Int × Int) := r.2.1
abbrev LRec.v (r : LRec) : Int := r.2.2
def ex (s : Int) (r : LRec) : List Int := if s = 4 then [r.v] else enc r.E
def XS (s : Int) (l : List LRec) : List Int := l.flatMap (fun r => ex s r ++ enc r.B)
def PX (l : List LRec) : List (Int × Int) := l.flatMap (fun r => r.E ++ r.B)
theorem xs_app (s : Int) (l : List LRec) (r : LRec) : XS s (l ++ [r]) = XS s l ++ (ex s r ++ enc r.B) := by
  unfold XS
  rw [List.flatMap_append]
  show _ ++ ((ex s r ++ enc r.B) ++ []) = _
  rw [List.append_nil]
theorem px_app (l : List LRec) (r : LRec) : PX (l ++ [r]) = PX l ++ (r.E ++ r.B) := by
  unfold PX
  rw [List.flatMap_append]
  show _ ++ ((r.E ++ r.B) ++ []) = _
  rw [List.append_nil]
/-- where the lines' steps lie, in the class's draft and in the reference's -/
def LA (s : Int) (l : List LRec) (I J : IMem) : Prop := ∀ i r, l[i]? = some r → I 151 (i + 1) = ((XS s (l.take (i + 1))).length : Nat) ∧ I 152 i = ((XS s (l.take i)).length + (ex s r).length : Nat) ∧ J 4 (4 * i + 1) = ((PX (l.take i)).length : Nat) ∧ J 4 (4 * i + 2) = ((PX (l.take i)).length + r.E.length : Nat) ∧ J 4 (4 * i + 3) = ((PX (l.take (i + 1))).length : Nat) ∧ (s = 4 → r.E = [] ∧ J 4 (4 * i) = r.v)
def LEc (I I' : IMem) : Prop := (∀ j, I' 151 j = I 151 j) ∧ (∀ j, I' 152 j = I 152 j) ∧ I' 149 4 = I 149 4
def LEx (J J' : IMem) : Prop := (∀ j, J' 4 j = J 4 j) ∧ J' 0 10 = J 0 10
theorem lec_r (I : IMem) : LEc I I := ⟨fun _ => rfl, fun _ => rfl, rfl⟩
theorem lex_r (J : IMem) : LEx J J := ⟨fun _ => rfl, rfl⟩
theorem lec_t {I I1 I2 : IMem} (h : LEc I I1) (g : LEc I1 I2) : LEc I I2 := ⟨fun j => (g.1 j).trans (h.1 j), fun j => (g.2.1 j).trans (h.2.1 j), g.2.2.trans h.2.2⟩
theorem lex_t {J J1 J2 : IMem} (h : LEx J J1) (g : LEx J1 J2) : LEx J J2 := ⟨fun j => (g.1 j).trans (h.1 j), g.2.trans h.2⟩
def MCl (q j : Nat) : Prop := q = 144 ∨ q = 150 ∨ (q = 149 ∧ j = 1)
def MXl (q j : Nat) : Prop := (q = 0 ∧ j ≠ 10) ∨ q = 5
theorem lec_of {I I' : IMem} (h : ∀ q j, ¬ MCl q j → I' q j = I q j) : LEc I I' := ⟨fun j => h 151 j (by unfold MCl; omega), fun j => h 152 j (by unfold MCl; omega), h 149 4 (by unfold MCl; omega)⟩
theorem lex_of {J J' : IMem} (h : ∀ q j, ¬ MXl q j → J' q j = J q j) : LEx J J' := ⟨fun j => h 4 j (by unfold MXl; omega), h 0 10 (by unfold MXl; omega)⟩
theorem mc0 (j : Nat) : MCl 144 j := Or.inl rfl
theorem mc6 (j : Nat) : MCl 150 j := Or.inr (Or.inl rfl)
theorem mc5 : MCl 149 1 := Or.inr (Or.inr ⟨rfl, rfl⟩)
theorem mx5 (j : Nat) : MXl 5 j := Or.inr rfl
theorem mx0 {j : Nat} (h : j ≠ 10) : MXl 0 j := Or.inl ⟨rfl, h⟩
theorem le_exp (fu : Nat) (d : Int) (I : IMem) : par (f_R_expect fu 144 d I) (fun _ I' => LEc I I') := fun v I' e => lec_of (fc_R_expect MCl fu 144 d I (mc0 _) (mc0 _) (mc0 _) (mc0 _) (mc0 _) e)
theorem le_add (fu : Nat) (x : Int) (I : IMem) : par (f_W_addStep fu 149 x I) (fun _ I' => LEc I I') := fun v I' e => lec_of (by
  intro q j hq
  revert e
  unfold f_W_addStep
  intro e
  have : par (f_W_addStep fu 149 x I) (fun _ I' => I' q j = I q j) := by
    unfold f_W_addStep
    refine par_ite (fun _ => par_zr rfl) (fun _ => par_ite (fun _ => ?_) (fun _ => par_zr rfl))
    refine par_zl (par_zg (fun _ => par_zw (par_zw (par_zr ?_))))
    have h1 : ¬ (q = 149 ∧ j = 1) := fun x => hq (Or.inr (Or.inr x))
    have h2 : q ≠ 150 := fun x => hq (Or.inr (Or.inl x))
    exact (if_neg h1).trans (up_o h2 _)
  exact this v I' e)
theorem le_sum {fu : Nat} {I I' : IMem} {x : Int} (e : f_R_readSum fu 144 I = some (x, I')) : LEc I I' := lec_of (fc_R_readSum MCl fu 144 I mc6 (mc0 _) (mc0 _) (mc0 _) (mc0 _) (mc0 _) mc5 e)
theorem le_ei {fu : Nat} {a : Int} {I I' : IMem} {x : Int} (e : f_R_readEither fu 144 a I = some (x, I')) : LEc I I' := lec_of (fc_R_readEither MCl fu 144 a I mc6 (mc0 _) (mc0 _) (mc0 _) (mc0 _) (mc0 _) mc5 e)
theorem lx_sum {fu : Nat} {J J' : IMem} {y : Int} (e : f_X_sumUp fu 0 J = some (y, J')) : LEx J J' := lex_of (fc_X_sumUp MXl fu 0 J mx5 (mx0 (by decide)) (mx0 (by decide)) (mx0 (by decide)) (mx0 (by decide)) (mx0 (by decide)) (mx0 (by decide)) (mx0 (by decide)) e)
theorem lx_any {fu : Nat} {J J' : IMem} {y : Int} (e : f_X_any fu 0 J = some (y, J')) : LEx J J' := lex_of (fc_X_any MXl fu 0 J mx5 (mx0 (by decide)) (mx0 (by decide)) (mx0 (by decide)) (mx0 (by decide)) (mx0 (by decide)) (mx0 (by decide)) (mx0 (by decide)) (mx0 (by decide)) e)
theorem lx_next (fu : Nat) (J : IMem) : par (f_X_next0 fu 0 J) (fun _ J' => LEx J J') := fun v J' e => lex_of (fc_X_next0 MXl fu 0 J (mx0 (by decide)) (mx0 (by decide)) (mx0 (by decide)) (mx0 (by decide)) e)
theorem lx_need (fu : Nat) (d : Int) (J : IMem) : par (f_X_need fu 0 d J) (fun _ J' => LEx J J') := fun v J' e => lex_of (fc_X_need MXl fu 0 d J (mx0 (by decide)) (mx0 (by decide)) (mx0 (by decide)) (mx0 (by decide)) (mx0 (by decide)) (mx0 (by decide)) e)
theorem lx_number (fu : Nat) (a c : Int) (J : IMem) : par (f_X_number fu 0 a c J) (fun _ J' => LEx J J') := fun v J' e => lex_of (fc_X_number MXl fu 0 a c J (mx0 (by decide)) (mx0 (by decide)) (mx0 (by decide)) (mx0 (by decide)) (mx0 (by decide)) (mx0 (by decide)) e)
/-! the class's line in pieces -/
def cK14 (fu : Nat) (I15 : IMem) : Res := zb (f_R_expect fu 144 59 I15) fun _ I17 => zb (f_W_closeLine fu (144 + 5) I17) fun _ I20 => zr 0 I20
def cK22 (fu : Nat) (I23 : IMem) : Res := zb (f_R_expect fu 144 1 I23) fun _ I25 => zb (f_R_readEither fu 144 0 I25) fun _ I28 => cK14 fu I28
def cK9 (fu : Nat) (I10 : IMem) : Res := zb (f_W_startWhen fu (144 + 5) I10) fun _ I12 => if I12 144 9 = 0 then (if I12 144 7 = 1 then cK22 fu I12 else cK14 fu I12) else cK22 fu I12
def cK4 (fu : Nat) (x3 : Int) (I5 : IMem) : Res := zb (f_R_expect fu 144 x3 I5) fun _ I7 => if I7 144 9 = 0 then (zb (f_R_readSum fu 144 I7) fun _ I31 => cK9 fu I31) else (zb (f_R_readTarget fu 144 I7) fun _ I34 => cK9 fu I34)
theorem line_eq (fu : Nat) (x3 : Int) (I : IMem) (h : (I 144 9 = 0 ∧ x3 = 0) ∨ (I 144 9 ≠ 0 ∧ x3 = 11)) : f_R_readLine fu 144 I = if I 144 7 = x3 then (zb (f_W_isFull fu (144 + 5) I) fun y36 I37 => if y36 = 0 then cK4 fu x3 I37 else zb (f_R_fail fu 144 3 I37) fun _ I40 => cK4 fu x3 I40) else cK4 fu x3 I := by
  unfold f_R_readLine cK4 cK9 cK22 cK14
  simp only [zj]
  rcases h with ⟨h, rfl⟩ | ⟨h, rfl⟩
  · rw [if_pos h]
  · rw [if_neg h]
theorem sk_when (fu : Nat) (I : IMem) : par (f_W_startWhen fu 149 I) (fun _ I' => FSt I I') := by
  unfold f_W_startWhen
  refine par_ite (fun _ => par_zr (fst_r I)) (fun _ => par_ite (fun _ => ?_) (fun _ => par_zr (fst_r I)))
  exact par_zl (par_zg (fun _ => par_zw (par_zr ⟨up_o (by omega) _, up_o (by omega) _⟩)))
theorem sk_close (fu : Nat) (I : IMem) : par (f_W_closeLine fu 149 I) (fun _ I' => FSt I I') := by
  unfold f_W_closeLine
  refine par_ite (fun _ => par_zr (fst_r I)) (fun _ => par_ite (fun _ => ?_) (fun _ => par_zr (fst_r I)))
  exact par_zw (par_zl (par_zg (fun _ => par_zw (par_zr ⟨(up_o (by omega) _).trans (up_o (by omega) _), (up_o (by omega) _).trans (up_o (by omega) _)⟩))))
theorem sk_K14 (fu : Nat) {I : IMem} (h : I 144 10 ≠ 0) : par (cK14 fu I) (fun _ I' => FSt I I') := by
  unfold cK14
  exact par_zb (sk_exp fu 59 h) (fun _ I1 f1 => par_zb (sk_close fu I1) (fun _ I2 f2 => par_zr (fst_t f1 f2)))
theorem sk_K22 (fu : Nat) {I : IMem} (h : I 144 10 ≠ 0) : par (cK22 fu I) (fun _ I' => FSt I I') := by
  unfold cK22
  exact par_zb (sk_exp fu 1 h) (fun _ I1 f1 => par_zb (sk_either fu 40 0 (fst_n f1 h)) (fun _ I2 f2 => par_mono (sk_K14 fu (fst_n (fst_t f1 f2) h)) (fun _ I3 f3 => fst_t (fst_t f1 f2) f3)))
theorem sk_K9 (fu : Nat) {I : IMem} (h : I 144 10 ≠ 0) : par (cK9 fu I) (fun _ I' => FSt I I') := by
  unfold cK9
  refine par_zb (sk_when fu I) (fun _ I1 f1 => ?_)
  have g14 := par_mono (sk_K14 fu (fst_n f1 h)) (fun _ I3 f3 => fst_t f1 f3)
  have g22 := par_mono (sk_K22 fu (fst_n f1 h)) (fun _ I3 f3 => fst_t f1 f3)
  exact par_ite (fun _ => par_ite (fun _ => g22) (fun _ => g14)) (fun _ => g22)
theorem sk_target (fu : Nat) {I : IMem} (h : I 144 10 ≠ 0) : par (f_R_readTarget fu 144 I) (fun _ I' => FSt I I') := by
  unfold f_R_readTarget
  refine par_zj (fun k1 ek1 => ?_)
  have hk : ∀ I1, FSt I I1 → par (k1 I1) (fun _ I' => FSt I I') := by
    intro I1 f1
    subst ek1
    exact par_zb (sk_add fu _ I1) (fun _ I2 f2 => par_zb (sk_exp fu 16 (fst_n (fst_t f1 f2) h)) (fun _ I3 f3 => par_zr (fst_t (fst_t f1 f2) f3)))
  clear ek1
  exact par_ite (fun _ => par_ite (fun _ => hk I (fst_r I)) (fun _ => par_zb (sk_fail fu 2 h) (fun _ I1 f1 => hk I1 f1))) (fun _ => hk I (fst_r I))
theorem sk_K4 (fu : Nat) (x3 : Int) {I : IMem} (h : I 144 10 ≠ 0) : par (cK4 fu x3 I) (fun _ I' => FSt I I') := by
  unfold cK4
  refine par_zb (sk_exp fu x3 h) (fun _ I1 f1 => ?_)
  exact par_ite (fun _ => par_zb (sk_sum fu (fst_n f1 h)) (fun _ I2 f2 => par_mono (sk_K9 fu (fst_n (fst_t f1 f2) h)) (fun _ I3 f3 => fst_t (fst_t f1 f2) f3))) (fun _ => par_zb (sk_target fu (fst_n f1 h)) (fun _ I2 f2 => par_mono (sk_K9 fu (fst_n (fst_t f1 f2) h)) (fun _ I3 f3 => fst_t (fst_t f1 f2) f3)))
/-! the reference's line in pieces; the two lines agree -/
def xK16 (fu : Nat) (I17 : IMem) : Res := zl (wr32 ((wr32 (4 * (I17 0 10))) + 3)) fun x19 =>
                    zg (0 ≤ x19 ∧ x19 < 64) (zw I17 (0 + 4) x19.toNat (I17 0 11) fun I18 =>
                    zb (f_X_need fu 0 159 I18) fun y20 I21 =>
                    zg (y20 = 0 ∨ y20 = 1) (zr y20 I21))
def xK23 (fu : Nat) (I24 : IMem) : Res := zb (f_X_need fu 0 3 I24) fun y25 I26 =>
                      if y25 = 0 then (
                        zr 0 I26)
                      else (
                        zb (f_X_any fu 0 I26) fun y28 I29 =>
                        if y28 = 0 then (
                          zr 0 I29)
                        else (
                          xK16 fu I29))
def xK12 (fu : Nat) (x3 : Int) (I13 : IMem) : Res := zl (wr32 ((wr32 (4 * (I13 0 10))) + 2)) fun x15 =>
                zg (0 ≤ x15 ∧ x15 < 64) (zw I13 (0 + 4) x15.toNat (I13 0 11) fun I14 =>
                    if x3 = 0 then (
                      if I14 0 14 = 3 then (
                        xK23 fu I14)
                      else (
                        xK16 fu I14))
                    else (
                      xK23 fu I14))
def xK1 (fu : Nat) (x3 : Int) (I2 : IMem) : Res := zw I2 0 20 0 fun I4 =>
            zb (f_X_next0 fu 0 I4) fun _ I6 =>
            zl (wr32 (4 * (I6 0 10))) fun x9 =>
            zg (0 ≤ x9 ∧ x9 < 64) (zw I6 (0 + 4) x9.toNat (I6 0 16) fun I8 =>
            zl (wr32 ((wr32 (4 * (I8 0 10))) + 1)) fun x11 =>
            zg (0 ≤ x11 ∧ x11 < 64) (zw I8 (0 + 4) x11.toNat (I8 0 11) fun I10 =>
              if x3 = 0 then (
                zb (f_X_sumUp fu 0 I10) fun y31 I32 =>
                if y31 = 0 then (
                  zr 0 I32)
                else (
                  xK12 fu x3 I32))
              else (
                zb (f_X_number fu 0 0 5 I10) fun y34 I35 =>
                if y34 = 0 then (
                  zr 0 I35)
                else (
                  xK12 fu x3 I35))))
theorem xline_eq (fu : Nat) (J : IMem) : f_X_aLine fu 0 J = if J 0 14 = 7 then (if J 0 10 = 16 then (zb (f_X_bad fu 0 3 J) fun y37 I38 => zg (y37 = 0 ∨ y37 = 1) (zr y37 I38)) else (if J 0 9 = 4 then xK1 fu 1 J else xK1 fu 0 J)) else (zb (f_X_bad fu 0 1 J) fun y40 I41 => zg (y40 = 0 ∨ y40 = 1) (zr y40 I41)) := rfl
theorem ct_up {T : TXT} {t : Nat} {xs : List Int} {I : IMem} {o j : Nat} {v : Int} (h : CTk T t xs I) (ho : o ≠ 144 ∧ o ≠ 146 ∧ o ≠ 147 ∧ o ≠ 148 ∧ o ≠ 150) (hj : o = 149 → j ≠ 1) : CTk T t xs (up I o j v) := by
  obtain ⟨h6, h7, h8, h10, h9, h5, ha, hl, hx⟩ := h
  have c : ∀ p, p ≠ o → ∀ i, up I o j v p i = I p i := fun p hp i => up_o hp i
  refine ⟨(c _ (by omega) _).trans h6, (c _ (by omega) _).trans h7, (c _ (by omega) _).trans h8, (c _ (by omega) _).trans h10, (c _ (by omega) _).trans h9, (c _ (by omega) _).trans h5, fun i hi => ⟨(c _ (by omega) _).trans (ha i hi).1, (c _ (by omega) _).trans (ha i hi).2.1, (c _ (by omega) _).trans (ha i hi).2.2⟩, ?_, fun i hi => (c _ (by omega) _).trans (hx.1 i hi), (c _ (by omega) _).trans hx.2⟩
  refine Eq.trans ?_ hl
  exact if_neg (fun x => by have := hj x.1.symm; omega)
theorem jt_up4 {T : TXT} {d : Int} {t : Nat} {ps : List (Int × Int)} {J : IMem} {j : Nat} {v : Int} (h : JTk T d t ps J) : JTk T d t ps (up J 4 j v) := by
  obtain ⟨hT, h9, h15, h13, h14, h16, h20, h11, hp⟩ := h
  have c : ∀ p, p ≠ 4 → ∀ i, up J 4 j v p i = J p i := fun p hp i => up_o hp i
  exact ⟨⟨(c _ (by omega) _).trans hT.1, hT.2.1, fun i hi => (c _ (by omega) _).trans (hT.2.2.1 i hi), hT.2.2.2⟩, (c _ (by omega) _).trans h9, (c _ (by omega) _).trans h15, (c _ (by omega) _).trans h13, (c _ (by omega) _).trans h14, fun x => (c _ (by omega) _).trans (h16 x), (c _ (by omega) _).trans h20, (c _ (by omega) _).trans h11, fun i hi => ⟨(c _ (by omega) _).trans (hp.1 i hi).1, (c _ (by omega) _).trans (hp.1 i hi).2⟩, (c _ (by omega) _).trans hp.2⟩
/-- a line under way: its first part is laid -/
def LHt (s : Int) (l : List LRec) (E : List (Int × Int)) (v : Int) (w2 : Prop) (I J : IMem) : Prop := LA s l I J ∧ I 149 4 = l.length ∧ J 0 10 = l.length ∧ l.length < 16 ∧ J 4 (4 * l.length + 1) = ((PX l).length : Nat) ∧ (s = 4 → E = [] ∧ J 4 (4 * l.length) = v) ∧ (w2 → I 152 l.length = ((XS s l).length + (ex s ⟨E, [], v⟩).length : Nat) ∧ J 4 (4 * l.length + 2) = ((PX l).length + E.length : Nat))
theorem lt_of_get {l : List LRec} {i : Nat} {r : LRec} (h : l[i]? = some r) : i < l.length := by
  rcases Nat.lt_or_ge i l.length with g | g
  · exact g
  · rw [List.getElem?_eq_none g] at h; cases h
theorem la_fr {s : Int} {l : List LRec} {I J I' J' : IMem} (h : LA s l I J) (hc : (∀ j, j ≤ l.length → I' 151 j = I 151 j) ∧ ∀ j, j < l.length → I' 152 j = I 152 j) (hx : ∀ j, j < 4 * l.length → J' 4 j = J 4 j) : LA s l I' J' := by
  intro i r hr
  have hi := lt_of_get hr
  obtain ⟨h1, h2, h3, h4, h5, h6⟩ := h i r hr
  exact ⟨(hc.1 _ (by omega)).trans h1, (hc.2 _ hi).trans h2, (hx _ (by omega)).trans h3, (hx _ (by omega)).trans h4, (hx _ (by omega)).trans h5, fun x => ⟨(h6 x).1, (hx _ (by omega)).trans (h6 x).2⟩⟩
theorem lh_fr {s : Int} {l : List LRec} {E : List (Int × Int)} {v : Int} {w2 : Prop} {I J I' J' : IMem} (h : LHt s l E v w2 I J) (hc : LEc I I') (hx : LEx J J') : LHt s l E v w2 I' J' := by
  obtain ⟨h1, h2, h3, h4, h5, h6, h7⟩ := h
  exact ⟨la_fr h1 ⟨fun j _ => hc.1 j, fun j _ => hc.2.1 j⟩ (fun j _ => hx.1 j), hc.2.2.trans h2, hx.2.trans h3, h4, (hx.1 _).trans h5, fun x => ⟨(h6 x).1, (hx.1 _).trans (h6 x).2⟩, fun x => ⟨(hc.2.1 _).trans (h7 x).1, (hx.1 _).trans (h7 x).2⟩⟩
def OUL (T : TXT) (t : Nat) (l : List LRec) (I : IMem) (y : Int) (J : IMem) : Prop := (y = 1 ∧ ∃ (t' : Nat) (r : LRec), t < t' ∧ PSt T 0 t' (XS T.s (l ++ [r])) (PX (l ++ [r])) I J ∧ LA T.s (l ++ [r]) I J ∧ I 149 4 = (l.length + 1 : Nat) ∧ J 0 10 = l.length ∧ l.length < 16) ∨ (y = 0 ∧ BDt I J)
theorem k14_2 {T : TXT} {t0 t : Nat} {l : List LRec} {E B : List (Int × Int)} {v : Int} {I J : IMem} (fu : Nat) (h0 : t0 ≤ t) (hl : LHt T.s l E v True I J) (h : PSt T 0 t (XS T.s l ++ (ex T.s ⟨E, B, v⟩ ++ enc B)) (PX l ++ (E ++ B)) I J) : par2 (cK14 fu I) (xK16 fu J) (OUL T t0 l) := by
  obtain ⟨ho, hc, hj, ht, hx, hp⟩ := h
  obtain ⟨l1, l2, l3, l4, l5, l6, l7⟩ := hl
  obtain ⟨l8, l9⟩ := l7 trivial
  unfold cK14 xK16
  rw [l3, wr32_i2 (x := 4 * (l.length : Int)) (by omega) (by omega), wr32_i2 (x := 4 * (l.length : Int) + 3) (by omega) (by omega)]
  refine par2_zlr (par2_gr (fun _ => par2_zwr ?_))
  rw [show (4 * (l.length : Int) + 3).toNat = 4 * l.length + 3 by omega]
  have j1 : JTk T 0 t (PX l ++ (E ++ B)) (up J (0 + 4) (4 * l.length + 3) (J 0 11)) := jt_up4 hj
  have e3 : up J (0 + 4) (4 * l.length + 3) (J 0 11) 4 (4 * l.length + 3) = J 0 11 := if_pos ⟨rfl, rfl⟩
  have e4 : ∀ j, j ≠ 4 * l.length + 3 → up J (0 + 4) (4 * l.length + 3) (J 0 11) 4 j = J 4 j := fun j hj => up_j hj _
  have e5 : up J (0 + 4) (4 * l.length + 3) (J 0 11) 0 10 = J 0 10 := up_o (by omega) _
  generalize up J (0 + 4) (4 * l.length + 3) (J 0 11) = J1 at j1 e3 e4 e5
  have e159 := (tm_all (s := T.s) (okt_k ho ht).1).2.2.2.2.2.2.2.2.1 159 (by omega)
  refine par2_bl (par_and (ct_exp fu 59 ho hc ht (by decide)) (le_exp fu 59 I)) (fun _ I2 ⟨c2, lc2⟩ => par2_br (par_and (jt_need fu ho j1 ht 159 59 e159 (by decide)) (lx_need fu 159 J1)) (fun y2 J2 ⟨j2, lx2⟩ => ?_))
  refine par2_gr (fun _ => ?_)
  rcases c2 with ⟨q1, q2, q3⟩ | ⟨q1, q2⟩
  · rcases j2 with ⟨r1, r2, r3⟩ | ⟨r1, r2, r3⟩
    · rw [r2]
      refine par2_l ?_
      have b4 : I2 149 4 = l.length := lc2.2.2.trans l2
      have b1 := q2.2.2.2.2.2.2.2.1
      unfold f_W_closeLine
      refine par_zb (Q1 := fun _ I3 => CTk T (t + 1) (XS T.s l ++ (ex T.s ⟨E, B, v⟩ ++ enc B)) I3 ∧ I3 149 4 = (l.length + 1 : Nat) ∧ I3 151 (l.length + 1) = I2 149 1 ∧ (∀ j, j ≠ l.length + 1 → I3 151 j = I2 151 j) ∧ ∀ j, I3 152 j = I2 152 j) ?_ (fun _ I3 ⟨d1, d2, d3, d4, d5⟩ => par_zr ?_)
      · show par (if I2 149 4 < 0 then _ else _) _
        rw [b4, if_neg (by omega), if_pos (by omega), wr32_i2 (by omega) (by omega)]
        refine par_zw (par_zl (par_zg (fun _ => par_zw (par_zr ?_))))
        have a4 : up I2 149 4 ((l.length : Int) + 1) 149 4 = (l.length : Int) + 1 := if_pos ⟨rfl, rfl⟩
        show CTk T (t + 1) _ (up (up I2 149 4 ((l.length : Int) + 1)) (149 + 2) (up I2 149 4 ((l.length : Int) + 1) 149 4).toNat (up I2 149 4 ((l.length : Int) + 1) 149 1)) ∧ _
        rw [a4, show ((l.length : Int) + 1).toNat = l.length + 1 by omega]
        refine ⟨ct_up (ct_up q2 (by omega) (fun _ => by omega)) (by omega) (fun x => by omega), (up_o (by omega) _).trans a4, (if_pos ⟨rfl, rfl⟩).trans (up_j (by omega) _), fun j hj => (up_j hj _).trans (up_o (by omega) _), fun j => (up_o (by omega) _).trans (up_o (by omega) _)⟩
      · refine Or.inl ⟨rfl, t + 1, ⟨E, B, v⟩, by omega, ⟨ho, ?_, ?_, q3, ?_, ?_⟩, ?_, d2, lx2.2.trans (e5.trans l3), l4⟩
        · rw [xs_app]; exact d1
        · rw [px_app]; exact r3
        · rw [xs_app]; exact Nat.le_succ_of_le hx
        · rw [px_app]; exact Nat.le_succ_of_le hp
        · intro i r hr
          by_cases hi : i < l.length
          · rw [List.getElem?_append_left hi] at hr
            obtain ⟨k1, k2, k3, k4, k5, k6⟩ := l1 i r hr
            have t1 : (l ++ [(⟨E, B, v⟩ : LRec)]).take (i + 1) = l.take (i + 1) := List.take_append_of_le_length (by omega)
            have t2 : (l ++ [(⟨E, B, v⟩ : LRec)]).take i = l.take i := List.take_append_of_le_length (by omega)
            rw [t1, t2]
            exact ⟨(d4 _ (by omega)).trans ((lc2.1 _).trans k1), (d5 _).trans ((lc2.2.1 _).trans k2), (lx2.1 _).trans ((e4 _ (by omega)).trans k3), (lx2.1 _).trans ((e4 _ (by omega)).trans k4), (lx2.1 _).trans ((e4 _ (by omega)).trans k5), fun x => ⟨(k6 x).1, (lx2.1 _).trans ((e4 _ (by omega)).trans (k6 x).2)⟩⟩
          · have hlt := lt_of_get hr
            rw [List.length_append] at hlt
            have hi' : i = l.length := by simp only [List.length_cons, List.length_nil] at hlt; omega
            subst hi'
            rw [List.getElem?_append_right (Nat.le_refl _), Nat.sub_self] at hr
            cases hr
            have t1 : (l ++ [(⟨E, B, v⟩ : LRec)]).take (l.length + 1) = l ++ [⟨E, B, v⟩] := List.take_of_length_le (by rw [List.length_append]; exact Nat.le_refl _)
            have t2 : (l ++ [(⟨E, B, v⟩ : LRec)]).take l.length = l := by rw [List.take_append_of_le_length (Nat.le_refl _), List.take_length]
            rw [t1, t2, xs_app, px_app]
            refine ⟨d3.trans b1, (d5 _).trans ((lc2.2.1 _).trans l8), (lx2.1 _).trans ((e4 _ (by omega)).trans l5), (lx2.1 _).trans ((e4 _ (by omega)).trans l9), (lx2.1 _).trans (e3.trans hj.2.2.2.2.2.2.2.1), fun x => ⟨(l6 x).1, (lx2.1 _).trans ((e4 _ (by omega)).trans (l6 x).2)⟩⟩
    · exact absurd q1 r1
  · rcases j2 with ⟨r1, r2, r3⟩ | ⟨r1, r2, r3⟩
    · exact absurd r1 q1
    · rw [r2]
      have bd : BDt I2 J2 := ⟨1, _, by decide, q2, r3⟩
      exact par2_l (par_zb (sk_close fu I2) (fun _ I3 f3 => par_zr (Or.inr ⟨rfl, bd_fst bd f3⟩)))
theorem k22_2 {T : TXT} {t0 t : Nat} {l : List LRec} {E : List (Int × Int)} {v : Int} {I J : IMem} (fu : Nat) (h0 : t0 ≤ t) (hl : LHt T.s l E v True I J) (h : PSt T 0 t (XS T.s l ++ ex T.s ⟨E, [], v⟩) (PX l ++ E) I J) : par2 (cK22 fu I) (xK23 fu J) (OUL T t0 l) := by
  obtain ⟨ho, hc, hj, ht, hx, hp⟩ := h
  unfold cK22 xK23
  have e3 := (tm_all (s := T.s) (okt_k ho ht).1).2.2.1
  refine par2_bl (par_and (ct_exp fu 1 ho hc ht (by decide)) (le_exp fu 1 I)) (fun _ I2 ⟨c2, lc2⟩ => par2_br (par_and (jt_need fu ho hj ht 3 1 e3 (by decide)) (lx_need fu 3 J)) (fun y2 J2 ⟨j2, lx2⟩ => ?_))
  rcases c2 with ⟨q1, q2, q3⟩ | ⟨q1, q2⟩
  · rcases j2 with ⟨r1, r2, r3⟩ | ⟨r1, r2, r3⟩
    · rw [if_neg (by omega)]
      refine par2_b (any2 fu ⟨ho, q2, r3, q3, by omega, by omega⟩) (fun x3 I3 y3 J3 e1 e2 ou => ?_)
      rcases ou with ⟨ey, t3, it, g1, g2, g3, g4⟩ | ⟨ey, bd⟩
      · rw [if_neg (by omega)]
        refine k14_2 (t := t3) (B := it) (E := E) (v := v) fu (by omega) (lh_fr hl (lec_t lc2 (le_ei e1)) (lex_t lx2 (lx_any e2))) ?_
        rw [← List.append_assoc, ← List.append_assoc]
        exact g4
      · rw [if_pos ey]
        exact par2_l (par_mono (sk_K14 fu (bd_n bd)) (fun _ I4 f4 => Or.inr ⟨rfl, bd_fst bd f4⟩))
    · exact absurd q1 r1
  · rcases j2 with ⟨r1, r2, r3⟩ | ⟨r1, r2, r3⟩
    · exact absurd r1 q1
    · rw [if_pos r2]
      have bd : BDt I2 J2 := ⟨1, _, by decide, q2, r3⟩
      exact par2_l (par_zb (sk_either fu 40 0 (bd_n bd)) (fun _ I3 f3 => par_mono (sk_K14 fu (fst_n f3 (bd_n bd))) (fun _ I4 f4 => Or.inr ⟨rfl, bd_fst bd (fst_t f3 f4)⟩)))
/-! a whole line on both sides -/
theorem k9_2 {T : TXT} {t0 t : Nat} {l : List LRec} {E : List (Int × Int)} {v : Int} {I J : IMem} (fu : Nat) (x3 : Int) (hx3 : (T.s = 4 ∧ x3 = 1) ∨ (T.s ≠ 4 ∧ x3 = 0)) (h0 : t0 ≤ t) (hl : LHt T.s l E v False I J) (h : PSt T 0 t (XS T.s l ++ ex T.s ⟨E, [], v⟩) (PX l ++ E) I J) : par2 (cK9 fu I) (xK12 fu x3 J) (OUL T t0 l) := by
  obtain ⟨ho, hc, hj, ht, hx, hp⟩ := h
  obtain ⟨l1, l2, l3, l4, l5, l6, l7⟩ := hl
  unfold cK9 xK12
  rw [l3, wr32_i2 (x := 4 * (l.length : Int)) (by omega) (by omega), wr32_i2 (x := 4 * (l.length : Int) + 2) (by omega) (by omega)]
  refine par2_zlr (par2_gr (fun _ => par2_zwr ?_))
  rw [show (4 * (l.length : Int) + 2).toNat = 4 * l.length + 2 by omega]
  have j1 : JTk T 0 t (PX l ++ E) (up J (0 + 4) (4 * l.length + 2) (J 0 11)) := jt_up4 hj
  have e3 : up J (0 + 4) (4 * l.length + 2) (J 0 11) 4 (4 * l.length + 2) = ((PX l).length + E.length : Nat) := by
    refine (if_pos ⟨rfl, rfl⟩).trans (hj.2.2.2.2.2.2.2.1.trans ?_)
    rw [List.length_append]
  have e4 : ∀ j, j ≠ 4 * l.length + 2 → up J (0 + 4) (4 * l.length + 2) (J 0 11) 4 j = J 4 j := fun j hj => up_j hj _
  have e5 : up J (0 + 4) (4 * l.length + 2) (J 0 11) 0 10 = J 0 10 := up_o (by omega) _
  generalize up J (0 + 4) (4 * l.length + 2) (J 0 11) = J1 at j1 e3 e4 e5
  refine par2_bl (P := fun _ I1 => CTk T t (XS T.s l ++ ex T.s ⟨E, [], v⟩) I1 ∧ I1 152 l.length = ((XS T.s l).length + (ex T.s ⟨E, [], v⟩).length : Nat) ∧ (∀ j, j ≠ l.length → I1 152 j = I 152 j) ∧ (∀ j, I1 151 j = I 151 j) ∧ I1 149 4 = I 149 4) ?_ (fun _ I1 ⟨d1, d2, d3, d4, d5⟩ => ?_)
  · show par (f_W_startWhen fu 149 I) _
    unfold f_W_startWhen
    rw [l2, if_neg (by omega), if_pos (by omega)]
    refine par_zl (par_zg (fun _ => par_zw (par_zr ?_)))
    rw [show (l.length : Int).toNat = l.length from rfl]
    refine ⟨ct_up hc (by omega) (fun x => by omega), ?_, fun j hj => up_j hj _, fun j => up_o (by omega) _, (up_o (by omega) _).trans l2⟩
    refine (if_pos ⟨rfl, rfl⟩).trans (hc.2.2.2.2.2.2.2.1.trans ?_)
    rw [List.length_append]
  · have hl1 : LHt T.s l E v True I1 J1 := ⟨la_fr l1 ⟨fun j _ => d4 j, fun j hj => d3 j (by omega)⟩ (fun j hj => e4 j (by omega)), d5.trans l2, e5.trans l3, l4, (e4 _ (by omega)).trans l5, fun x => ⟨(l6 x).1, (e4 _ (by omega)).trans (l6 x).2⟩, fun _ => ⟨d2, e3⟩⟩
    have ps1 : PSt T 0 t (XS T.s l ++ ex T.s ⟨E, [], v⟩) (PX l ++ E) I1 J1 := ⟨ho, d1, j1, ht, hx, hp⟩
    have e31 := (tm_all (s := T.s) (okt_k ho ht).1).2.2.1
    have h9 := d1.2.2.2.2.1
    have h7 := d1.2.1
    have h14 := j1.2.2.2.2.1
    rcases hx3 with ⟨hs, rfl⟩ | ⟨hs, rfl⟩
    · rw [if_pos hs] at h9
      rw [if_neg (by omega), if_neg (by decide)]
      exact k22_2 fu h0 hl1 ps1
    · rw [if_neg hs] at h9
      rw [if_pos h9, if_pos rfl, h7, h14]
      by_cases k1 : T.K t = 1
      · rw [if_pos k1, if_pos (e31.mpr k1)]
        exact k22_2 fu h0 hl1 ps1
      · rw [if_neg k1, if_neg (fun x => k1 (e31.mp x))]
        refine k14_2 (t := t) (B := []) (E := E) (v := v) fu h0 hl1 ?_
        rw [enc_nil, List.append_nil, List.append_nil]
        exact ps1
/-- the number of a line of the lines' text -/
def OUG (T : TXT) (d : Int) (t : Nat) (xs : List Int) (ps : List (Int × Int)) (I0 J0 I : IMem) (y : Int) (J : IMem) : Prop := (y = 1 ∧ CTk T (t + 1) (xs ++ [T.V t]) I ∧ T.K t = 16 ∧ JTk T d (t + 1) ps J ∧ t + 1 ≤ T.n ∧ LEc I0 I ∧ LEx J0 J) ∨ (y = 0 ∧ BDt I J)
theorem targ2 {T : TXT} {d : Int} {t : Nat} {xs : List Int} {ps : List (Int × Int)} {I J : IMem} (fu : Nat) (h : PSt T d t xs ps I J) : par2 (f_R_readTarget fu 144 I) (f_X_number fu 0 0 5 J) (OUG T d t xs ps I J) := by
  obtain ⟨ho, hc, hj, ht, hx, hp⟩ := h
  have hk := okt_k ho ht
  have hn := ho.1.2.1
  obtain ⟨a0, a2, a3, a4, a5, a6, a7, aU, aS, aE⟩ := tm_all (s := T.s) hk.1
  have hxl : xs.length < 400 ∨ T.K t ≠ 16 := by
    by_cases c : T.K t = 16
    · exact Or.inl (by have := hk.2.1; omega)
    · exact Or.inr c
  refine par2_of (P1 := fun I' => (T.K t = 16 ∧ T.V t ≤ 5 ∧ CTk T (t + 1) (xs ++ [T.V t]) I' ∧ t < T.n ∧ LEc I I') ∨ (T.K t = 16 ∧ 5 < T.V t ∧ CF I' 2 (T.P t)) ∨ (T.K t ≠ 16 ∧ CF I' 1 (T.P t))) (P2 := fun y J' => (T.K t = 16 ∧ T.V t ≤ 5 ∧ y = 1 ∧ JTk T d (t + 1) ps J' ∧ LEx J J') ∨ (T.K t = 16 ∧ 5 < T.V t ∧ y = 0 ∧ JF J' 2 (T.P t)) ∨ (T.K t ≠ 16 ∧ y = 0 ∧ JF J' 1 (T.P t))) ?_ ?_ ?_
  · unfold f_R_readTarget
    simp only [zj]
    rw [hc.2.1, hc.2.2.1]
    refine par_ite (fun c => par_ite (fun c2 => ?_) (fun c2 => ?_)) (fun c => ?_)
    · refine par_zb (par_and (ct_add fu _ hc (by omega)) (le_add fu _ I)) (fun _ I1 ⟨c1, le1⟩ => par_zb (par_and (ct_exp fu 16 ho c1 ht (by decide)) (le_exp fu 16 I1)) (fun _ I2 ⟨c2', le2⟩ => par_zr ?_))
      rcases c2' with ⟨q1, q2, q3⟩ | ⟨q1, q2⟩
      · exact Or.inl ⟨c, by omega, q2, q3, lec_t le1 le2⟩
      · exact absurd c q1
    · refine par_zb (ct_fail fu 2 ho hc ht) (fun _ I1 c1 => par_zb (sk_add fu _ I1) (fun _ I2 f2 => ?_))
      have hf : I2 144 10 ≠ 0 := by rw [f2.1, c1.1]; decide
      refine par_zb (sk_exp fu 16 hf) (fun _ I3 f3 => par_zr (Or.inr (Or.inl ⟨c, by omega, f3.1.trans (f2.1.trans c1.1), f3.2.trans (f2.2.trans c1.2)⟩)))
    · unfold f_W_addStep f_R_expect
      refine par_zb (Q1 := fun _ I1 => I1 144 7 = T.K t ∧ I1 144 10 = 0 ∧ I1 144 6 = t ∧ I1 147 t = T.P t) ?_ (fun _ I1 ⟨b1, b2, b3, b4⟩ => ?_)
      · have e0 : I 144 7 = T.K t ∧ I 144 10 = 0 ∧ I 144 6 = t ∧ I 147 t = T.P t := ⟨hc.2.1, hc.2.2.2.1, hc.1, (hc.2.2.2.2.2.2.1 t ht).2.1⟩
        refine par_ite (fun _ => par_zr e0) (fun _ => par_ite (fun _ => ?_) (fun _ => par_zr e0))
        refine par_zl (par_zg (fun _ => par_zw (par_zw (par_zr ⟨?_, ?_, ?_, ?_⟩))))
        · exact (up_o (by omega) _).trans ((up_o (by omega) _).trans e0.1)
        · exact (up_o (by omega) _).trans ((up_o (by omega) _).trans e0.2.1)
        · exact (up_o (by omega) _).trans ((up_o (by omega) _).trans e0.2.2.1)
        · exact (up_o (by omega) _).trans ((up_o (by omega) _).trans e0.2.2.2)
      · rw [b1, if_neg c]
        refine par_zb (Q1 := fun _ I2 => CF I2 1 (T.P t)) (par_zb (Q1 := fun _ I2 => CF I2 1 (T.P t)) ?_ (fun _ I2 c2 => par_zr c2)) (fun _ I3 c3 => par_zr (Or.inr (Or.inr ⟨c, c3⟩)))
        unfold f_R_fail
        rw [if_pos b2, if_neg (by omega), if_neg (by omega)]
        refine par_zw (par_zl (par_zg (fun _ => par_zw (par_zr ⟨(up_j (by omega) _).trans (if_pos ⟨rfl, rfl⟩), ?_⟩))))
        refine (if_pos ⟨rfl, rfl⟩).trans ?_
        rw [up_j (i := 6) (by omega), b3]
        exact (up_o (by omega) _).trans b4
  · unfold f_X_number
    rw [hj.2.2.2.2.1]
    refine par_ite (fun c => ?_) (fun c => ?_)
    · have c16 := a2.mp c
      rw [hj.2.2.2.2.2.1 c16]
      have hv := hk.2.2 c16
      refine par_zb (par_isIn fu _ 0 5 J) (fun y J1 ⟨e, hy⟩ => ?_)
      subst e
      refine par_ite (fun c0 => ?_) (fun c0 => ?_)
      · exact par_zb (jt_bad fu 2 hj) (fun y2 J2 g2 => par_zg (fun _ => par_zr (Or.inr (Or.inl ⟨c16, by have := hy.mp c0; omega, g2.1, g2.2⟩))))
      · have hv5 : T.V t ≤ 5 := by
          rcases Int.lt_or_le 5 (T.V t) with x | x
          · exact absurd (hy.mpr (by omega)) c0
          · exact x
        exact par_zb (par_and (jt_next fu ho hj (by have := hk.2.1; omega)) (lx_next fu J1)) (fun _ J2 ⟨g2, lx2⟩ => par_zr (Or.inl ⟨c16, hv5, rfl, g2, lx2⟩))
    · exact par_zb (jt_bad fu 1 hj) (fun y2 J2 g2 => par_zg (fun _ => par_zr (Or.inr (Or.inr ⟨fun x => c (a2.mpr x), g2.1, g2.2⟩))))
  · intro I' y J' p1 p2
    rcases p1 with ⟨b1, b2, b3, b4, b5⟩ | ⟨b1, b2, b3⟩ | ⟨b1, b2⟩
    · rcases p2 with ⟨c1, c2, c3, c4, c5⟩ | ⟨c1, c2, c3⟩ | ⟨c1, c2⟩
      · exact Or.inl ⟨c3, b3, b1, c4, b4, b5, c5⟩
      · omega
      · exact absurd b1 c1
    · rcases p2 with ⟨c1, c2, c3, c4, c5⟩ | ⟨c1, c2, c3, c4⟩ | ⟨c1, c2⟩
      · omega
      · exact Or.inr ⟨c3, 2, _, by decide, b3, c4⟩
      · exact absurd b1 c1
    · rcases p2 with ⟨c1, c2, c3, c4, c5⟩ | ⟨c1, c2, c3, c4⟩ | ⟨c1, c2, c3⟩
      · exact absurd c1 b1
      · exact absurd c1 b1
      · exact Or.inr ⟨c2, 1, _, by decide, b2, c3⟩
theorem line2 {T : TXT} {d : Int} {t : Nat} {l : List LRec} {I J : IMem} (fu : Nat) (hl : LA T.s l I J ∧ I 149 4 = l.length ∧ J 0 10 = l.length ∧ l.length ≤ 16) (h : PSt T d t (XS T.s l) (PX l) I J) : par2 (f_R_readLine fu 144 I) (f_X_aLine fu 0 J) (OUL T t l) := by
  obtain ⟨ho, hc, hj, ht, hx, hp⟩ := h
  obtain ⟨l1, l2, l3, l4⟩ := hl
  have hn := ho.1.2.1
  have hkd := okt_k ho ht
  obtain ⟨a0, a2, a3, a4, a5, a6, a7, aU, aS, aE⟩ := tm_all (s := T.s) hkd.1
  have h9 := hc.2.2.2.2.1
  have hK := hc.2.1
  have hJ := hj.2.2.2.2.1
  rw [← hJ] at a7
  -- the keyword
  obtain ⟨kw, xt, hkw, hk1, hk2⟩ : ∃ kw xt : Int, ((T.s = 4 ∧ kw = 11 ∧ xt = 1) ∨ (T.s ≠ 4 ∧ kw = 0 ∧ xt = 0)) ∧ ((I 144 9 = 0 ∧ kw = 0) ∨ (I 144 9 ≠ 0 ∧ kw = 11)) ∧ (if J 0 9 = 4 then xK1 fu 1 J else xK1 fu 0 J) = xK1 fu xt J := by
    by_cases hs : T.s = 4
    · rw [if_pos hs] at h9
      exact ⟨11, 1, Or.inl ⟨hs, rfl, rfl⟩, Or.inr ⟨by omega, rfl⟩, if_pos (hj.2.1.trans hs)⟩
    · rw [if_neg hs] at h9
      exact ⟨0, 0, Or.inr ⟨hs, rfl, rfl⟩, Or.inl ⟨h9, rfl⟩, if_neg (fun x => hs (hj.2.1.symm.trans x))⟩
  rw [line_eq fu kw I hk1, xline_eq, hk2, hK]
  by_cases ck : T.K t = kw
  · rw [if_pos ck, if_pos (a7.mpr (by omega)), l3]
    have htn : t < T.n := by have := hkd.2.1; omega
    by_cases cf : l.length = 16
    · rw [if_pos (by omega)]
      refine par2_br (jt_bad fu 3 hj) (fun y J1 j1 => par2_gr (fun _ => ?_))
      rw [j1.1]
      refine par2_l (par_zb (Q1 := fun v I1 => v ≠ 0 ∧ I1 = I) ?_ (fun v I1 ⟨e1, e2⟩ => ?_))
      · show par (f_W_isFull fu 149 I) _
        unfold f_W_isFull
        rw [l2, if_neg (by omega)]
        exact par_zr ⟨by decide, rfl⟩
      · subst e2
        rw [if_neg e1]
        refine par_zb (ct_fail fu 3 ho hc ht) (fun _ I2 c2 => ?_)
        have bd : BDt I2 J1 := ⟨3, _, by decide, c2, j1.2⟩
        exact par_mono (sk_K4 fu kw (bd_n bd)) (fun _ I3 f3 => Or.inr ⟨rfl, bd_fst bd f3⟩)
    · rw [if_neg (by omega)]
      refine par2_bl (P := fun v I1 => v = 0 ∧ I1 = I) ?_ (fun v I1 ⟨e1, e2⟩ => ?_)
      · show par (f_W_isFull fu 149 I) _
        unfold f_W_isFull
        rw [l2, if_pos (by omega)]
        exact par_zr ⟨rfl, rfl⟩
      subst e2
      rw [if_pos e1]
      unfold cK4 xK1
      refine par2_bl (par_and (ct_exp fu kw ho hc ht (by omega)) (le_exp fu kw I1)) (fun _ I2 ⟨c2, lc2⟩ => ?_)
      rcases c2 with ⟨q1, q2, q3⟩ | ⟨q1, q2⟩
      · refine par2_zwr ?_
        have j0 := jt_d 0 hj
        have x0 : LEx J (up J 0 20 0) := ⟨fun j => up_o (by omega) _, up_j (by omega) _⟩
        generalize up J 0 20 0 = J0 at j0 x0
        refine par2_br (par_and (jt_next fu ho j0 htn) (lx_next fu J0)) (fun _ J1 ⟨j1, lx1⟩ => ?_)
        have x1 := lex_t x0 lx1
        have e10 : J1 0 10 = l.length := x1.2.trans l3
        rw [e10, wr32_i2 (x := 4 * (l.length : Int)) (by omega) (by omega)]
        refine par2_zlr (par2_gr (fun _ => par2_zwr ?_))
        rw [show (4 * (l.length : Int)).toNat = 4 * l.length by omega]
        have j2 : JTk T 0 (t + 1) (PX l) (up J1 (0 + 4) (4 * l.length) (J1 0 16)) := jt_up4 j1
        have y1 : up J1 (0 + 4) (4 * l.length) (J1 0 16) 4 (4 * l.length) = J1 0 16 := if_pos ⟨rfl, rfl⟩
        have y2 : ∀ j, j ≠ 4 * l.length → up J1 (0 + 4) (4 * l.length) (J1 0 16) 4 j = J 4 j := fun j hj => (up_j hj _).trans (x1.1 j)
        have y3 : up J1 (0 + 4) (4 * l.length) (J1 0 16) 0 10 = l.length := (up_o (by omega) _).trans e10
        have j16 := j1.2.2.2.2.2.1
        generalize up J1 (0 + 4) (4 * l.length) (J1 0 16) = J2 at j2 y1 y2 y3
        rw [y3, wr32_i2 (x := 4 * (l.length : Int)) (by omega) (by omega), wr32_i2 (x := 4 * (l.length : Int) + 1) (by omega) (by omega)]
        refine par2_zlr (par2_gr (fun _ => par2_zwr ?_))
        rw [show (4 * (l.length : Int) + 1).toNat = 4 * l.length + 1 by omega]
        have j3 : JTk T 0 (t + 1) (PX l) (up J2 (0 + 4) (4 * l.length + 1) (J2 0 11)) := jt_up4 j2
        have z1 : up J2 (0 + 4) (4 * l.length + 1) (J2 0 11) 4 (4 * l.length + 1) = ((PX l).length : Nat) := (if_pos ⟨rfl, rfl⟩).trans j2.2.2.2.2.2.2.2.1
        have z0 : up J2 (0 + 4) (4 * l.length + 1) (J2 0 11) 4 (4 * l.length) = J1 0 16 := (up_j (by omega) _).trans y1
        have z2 : ∀ j, j < 4 * l.length → up J2 (0 + 4) (4 * l.length + 1) (J2 0 11) 4 j = J 4 j := fun j hj => (up_j (by omega) _).trans (y2 j (by omega))
        have z3 : up J2 (0 + 4) (4 * l.length + 1) (J2 0 11) 0 10 = l.length := (up_o (by omega) _).trans y3
        generalize up J2 (0 + 4) (4 * l.length + 1) (J2 0 11) = J3 at j3 z0 z1 z2 z3
        have la3 : LA T.s l I2 J3 := la_fr l1 ⟨fun j _ => lc2.1 j, fun j _ => lc2.2.1 j⟩ z2
        have h92 := q2.2.2.2.2.1
        rcases hkw with ⟨hs, ekw, rfl⟩ | ⟨hs, ekw, rfl⟩
        · -- the lines' text
          rw [if_pos hs] at h92
          rw [if_neg (by omega), if_neg (by decide)]
          refine par2_b (targ2 fu (ps := PX l) (xs := XS T.s l) ⟨ho, q2, j3, q3, by omega, by omega⟩) (fun x4 I4 y4 J4 e1 e2 ou => ?_)
          rcases ou with ⟨ey, c4, k16, j4, t4, lc4, lx4⟩ | ⟨ey, bd⟩
          · rw [if_neg (by omega)]
            have eex : ex T.s ⟨[], [], T.V (t + 1)⟩ = [T.V (t + 1)] := if_pos hs
            refine k9_2 (t := t + 1 + 1) (E := []) (v := T.V (t + 1)) fu 1 (Or.inl ⟨hs, rfl⟩) (by omega) ⟨la_fr la3 ⟨fun j _ => lc4.1 j, fun j _ => lc4.2.1 j⟩ (fun j _ => lx4.1 j), lc4.2.2.trans (lc2.2.2.trans l2), lx4.2.trans z3, by omega, (lx4.1 _).trans z1, fun _ => ⟨rfl, (lx4.1 _).trans (z0.trans (j16 k16))⟩, fun x => x.elim⟩ ⟨ho, ?_, ?_, t4, ?_, ?_⟩
            · rw [eex]; exact c4
            · rw [List.append_nil]; exact j4
            · rw [eex, List.length_append]; show (XS T.s l).length + 1 ≤ t + 1 + 1; omega
            · rw [List.append_nil]; omega
          · rw [if_pos ey]
            exact par2_l (par_mono (sk_K9 fu (bd_n bd)) (fun _ I5 f5 => Or.inr ⟨rfl, bd_fst bd f5⟩))
        · -- a rule
          rw [if_neg hs] at h92
          rw [if_pos h92, if_pos rfl]
          refine par2_b (sum2 fu (ps := PX l) (xs := XS T.s l) ⟨ho, q2, j3, q3, by omega, by omega⟩) (fun x4 I4 y4 J4 e1 e2 ou => ?_)
          rcases ou with ⟨ey, t4, it, g1, g2, g3, g4⟩ | ⟨ey, bd⟩
          · rw [if_neg (by omega)]
            have eex : ex T.s ⟨it, [], 0⟩ = enc it := if_neg hs
            have lc4 := le_sum e1
            have lx4 := lx_sum e2
            refine k9_2 (t := t4) (E := it) (v := 0) fu 0 (Or.inr ⟨hs, rfl⟩) (by omega) ⟨la_fr la3 ⟨fun j _ => lc4.1 j, fun j _ => lc4.2.1 j⟩ (fun j _ => lx4.1 j), lc4.2.2.trans (lc2.2.2.trans l2), lx4.2.trans z3, by omega, (lx4.1 _).trans z1, fun x => absurd x hs, fun x => x.elim⟩ ?_
            rw [eex]; exact g4
          · rw [if_pos ey]
            exact par2_l (par_mono (sk_K9 fu (bd_n bd)) (fun _ I5 f5 => Or.inr ⟨rfl, bd_fst bd f5⟩))
      · exact absurd ck q1
  · rw [if_neg ck, if_neg (fun x => ck (by have := a7.mp x; omega))]
    refine par2_br (jt_bad fu 1 hj) (fun y J1 j1 => par2_gr (fun _ => ?_))
    rw [j1.1]
    unfold cK4
    refine par2_l (par_zb (ct_exp fu kw ho hc ht (by omega)) (fun _ I2 c2 => ?_))
    rcases c2 with ⟨q1, q2, q3⟩ | ⟨q1, q2⟩
    · exact absurd q1 ck
    · have bd : BDt I2 J1 := ⟨1, _, by decide, q2, j1.2⟩
      exact par_ite (fun _ => par_zb (sk_sum fu (bd_n bd)) (fun _ I3 f3 => par_mono (sk_K9 fu (fst_n f3 (bd_n bd))) (fun _ I4 f4 => Or.inr ⟨rfl, bd_fst bd (fst_t f3 f4)⟩))) (fun _ => par_zb (sk_target fu (bd_n bd)) (fun _ I3 f3 => par_mono (sk_K9 fu (fst_n f3 (bd_n bd))) (fun _ I4 f4 => Or.inr ⟨rfl, bd_fst bd (fst_t f3 f4)⟩)))
