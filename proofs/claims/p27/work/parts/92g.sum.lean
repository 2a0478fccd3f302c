/-! two runs side by side -/
def par2 (m1 m2 : Res) (Q : IMem → Int → IMem → Prop) : Prop := ∀ x I y J, m1 = some (x, I) → m2 = some (y, J) → Q I y J
theorem par2_end {Q : IMem → Int → IMem → Prop} {x y : Int} {I J : IMem} (h : Q I y J) : par2 (zr x I) (zr y J) Q := by
  intro x' I' y' J' e1 e2; cases e1; cases e2; exact h
/-- the reference is at its end -/
theorem par2_l {Q : IMem → Int → IMem → Prop} {m : Res} {y : Int} {J : IMem} (h : par m (fun _ I => Q I y J)) : par2 m (zr y J) Q := by
  intro x' I' y' J' e1 e2; cases e2; exact h _ _ e1
theorem par2_r {Q : IMem → Int → IMem → Prop} {m : Res} {x : Int} {I : IMem} (h : par m (fun y J => Q I y J)) : par2 (zr x I) m Q := by
  intro x' I' y' J' e1 e2; cases e1; exact h _ _ e2
theorem par2_b {Q1 Q : IMem → Int → IMem → Prop} {m1 m2 : Res} {k1 k2 : Int → IMem → Res} (h1 : par2 m1 m2 Q1) (h2 : ∀ x I y J, m1 = some (x, I) → m2 = some (y, J) → Q1 I y J → par2 (k1 x I) (k2 y J) Q) : par2 (zb m1 k1) (zb m2 k2) Q := by
  intro x I y J e1 e2
  obtain ⟨x1, I1, a1, a2⟩ := of_zb e1
  obtain ⟨y1, J1, b1, b2⟩ := of_zb e2
  exact h2 x1 I1 y1 J1 a1 b1 (h1 x1 I1 y1 J1 a1 b1) x I y J a2 b2
theorem par2_bl {Q : IMem → Int → IMem → Prop} {P : Int → IMem → Prop} {m1 m2 : Res} {k1 : Int → IMem → Res} (h1 : par m1 P) (h2 : ∀ x I, P x I → par2 (k1 x I) m2 Q) : par2 (zb m1 k1) m2 Q := by
  intro x I y J e1 e2
  obtain ⟨x1, I1, a1, a2⟩ := of_zb e1
  exact h2 x1 I1 (h1 x1 I1 a1) x I y J a2 e2
theorem par2_br {Q : IMem → Int → IMem → Prop} {P : Int → IMem → Prop} {m1 m2 : Res} {k2 : Int → IMem → Res} (h1 : par m2 P) (h2 : ∀ y J, P y J → par2 m1 (k2 y J) Q) : par2 m1 (zb m2 k2) Q := by
  intro x I y J e1 e2
  obtain ⟨y1, J1, a1, a2⟩ := of_zb e2
  exact h2 y1 J1 (h1 y1 J1 a1) x I y J e1 a2
theorem par2_gl {Q : IMem → Int → IMem → Prop} {c : Prop} [Decidable c] {k m2 : Res} (h : c → par2 k m2 Q) : par2 (zg c k) m2 Q := by
  intro x I y J e1 e2
  obtain ⟨hc, e⟩ := of_zg e1
  exact h hc x I y J e e2
theorem par2_gr {Q : IMem → Int → IMem → Prop} {c : Prop} [Decidable c] {k m1 : Res} (h : c → par2 m1 k Q) : par2 m1 (zg c k) Q := by
  intro x I y J e1 e2
  obtain ⟨hc, e⟩ := of_zg e2
  exact h hc x I y J e1 e
theorem par2_il {Q : IMem → Int → IMem → Prop} {c : Prop} [Decidable c] {A B m2 : Res} (h1 : c → par2 A m2 Q) (h2 : ¬ c → par2 B m2 Q) : par2 (if c then A else B) m2 Q := by
  by_cases h : c
  · rw [if_pos h]; exact h1 h
  · rw [if_neg h]; exact h2 h
theorem par2_ir {Q : IMem → Int → IMem → Prop} {c : Prop} [Decidable c] {A B m1 : Res} (h1 : c → par2 m1 A Q) (h2 : ¬ c → par2 m1 B Q) : par2 m1 (if c then A else B) Q := by
  by_cases h : c
  · rw [if_pos h]; exact h1 h
  · rw [if_neg h]; exact h2 h
theorem par2_nl {Q : IMem → Int → IMem → Prop} {m2 : Res} : par2 none m2 Q := by intro x I y J e1 e2; cases e1
theorem par2_nr {Q : IMem → Int → IMem → Prop} {m1 : Res} : par2 m1 none Q := by intro x I y J e1 e2; cases e2
theorem par2_zlr {Q : IMem → Int → IMem → Prop} {m1 : Res} {v : Int} {k : Int → Res} (h : par2 m1 (k v) Q) : par2 m1 (zl v k) Q := h
theorem par2_zll {Q : IMem → Int → IMem → Prop} {m2 : Res} {v : Int} {k : Int → Res} (h : par2 (k v) m2 Q) : par2 (zl v k) m2 Q := h
theorem par2_zwr {Q : IMem → Int → IMem → Prop} {m1 : Res} {I : IMem} {o j : Nat} {v : Int} {k : IMem → Res} (h : par2 m1 (k (up I o j v)) Q) : par2 m1 (zw I o j v k) Q := h
theorem par2_jl {Q : IMem → Int → IMem → Prop} {m2 : Res} {α : Type} {K : α} {M : α → Res} (h : ∀ k, k = K → par2 (M k) m2 Q) : par2 (zj K M) m2 Q := h K rfl
theorem par2_jr {Q : IMem → Int → IMem → Prop} {m1 : Res} {α : Type} {K : α} {M : α → Res} (h : ∀ k, k = K → par2 m1 (M k) Q) : par2 m1 (zj K M) Q := h K rfl
theorem par2_mono {Q1 Q : IMem → Int → IMem → Prop} {m1 m2 : Res} (h1 : par2 m1 m2 Q1) (h : ∀ I y J, Q1 I y J → Q I y J) : par2 m1 m2 Q := fun x I y J e1 e2 => h I y J (h1 x I y J e1 e2)

/-! a text as tokens; both sides at one token -/
abbrev TXT : Type := Int × (Nat → Int) × Nat × Nat × (Nat → Int) × (Nat → Int) × (Nat → Int) × (Nat → Nat)
abbrev TXT.s (T : TXT) : Int := T.1
abbrev TXT.b (T : TXT) : Nat → Int := T.2.1
abbrev TXT.L (T : TXT) : Nat := T.2.2.1
abbrev TXT.n (T : TXT) : Nat := T.2.2.2.1
abbrev TXT.K (T : TXT) : Nat → Int := T.2.2.2.2.1
abbrev TXT.P (T : TXT) : Nat → Int := T.2.2.2.2.2.1
abbrev TXT.V (T : TXT) : Nat → Int := T.2.2.2.2.2.2.1
abbrev TXT.E (T : TXT) : Nat → Nat := T.2.2.2.2.2.2.2
def KD (k : Int) : Prop := (0 ≤ k ∧ k ≤ 18) ∨ SG k
def OKT (T : TXT) : Prop := LEXD T.b T.L T.n T.K T.P T.V T.E ∧ T.L ≤ 400 ∧ ∀ j, j < T.L → 0 ≤ T.b j ∧ T.b j < 256
theorem okt_k {T : TXT} (h : OKT T) {t : Nat} (ht : t ≤ T.n) : KD (T.K t) ∧ (T.K t = 17 ↔ t = T.n) ∧ (T.K t = 16 → 0 ≤ T.V t ∧ T.V t ≤ 9999) := by
  obtain ⟨q, h1, h2, h3, h4, h5⟩ := h.1.2.2 t ht
  refine ⟨?_, h5, fun k16 => ?_⟩
  · unfold KD
    rcases h4 with c | c | c | c
    · omega
    · have := wk_rng (sg T.b q (T.E (t + 1) - q)); omega
    · have := c.2.2.2.1; have := c.2.2.2.2; omega
    · by_cases s : SG (T.b q)
      · rw [c.2.2.2.2.2.1 s]; exact Or.inr s
      · rw [c.2.2.2.2.2.2 s]; exact Or.inl (by omega)
  · rcases h4 with c | c | c | c
    · omega
    · have := wk_rng (sg T.b q (T.E (t + 1) - q)); omega
    · have h4 : T.E (t + 1) - q ≤ 4 := by
        rcases Nat.lt_or_ge 4 (T.E (t + 1) - q) with y | y
        · have := c.2.2.2.2 y; omega
        · exact y
      rw [(c.2.2.2.1 h4).2]
      obtain ⟨r1, r2, r3, r4⟩ := c.2.2.1
      exact nu_rng h4 (fun i h1 h2 => r3 i h1 (by omega))
    · exfalso
      by_cases s : SG (T.b q)
      · have := c.2.2.2.2.2.1 s; unfold SG at s; omega
      · have := c.2.2.2.2.2.2 s; omega
def CTk (T : TXT) (t : Nat) (xs : List Int) (I : IMem) : Prop := I 144 6 = t ∧ I 144 7 = T.K t ∧ I 144 8 = T.V t ∧ I 144 10 = 0 ∧ I 144 9 = (if T.s = 4 then 1 else 0) ∧ I 144 5 = (T.n + 1 : Nat) ∧ (∀ j, j ≤ T.n → I 146 j = T.K j ∧ I 147 j = T.P j ∧ I 148 j = T.V j) ∧ I 149 1 = xs.length ∧ (∀ i, i < xs.length → I 150 i = xs.getD i 0) ∧ I 144 11 = -1
def JTk (T : TXT) (d : Int) (t : Nat) (ps : List (Int × Int)) (J : IMem) : Prop := TP T.b T.L J ∧ J 0 9 = T.s ∧ J 0 15 = T.P t ∧ J 0 13 = T.E (t + 1) ∧ J 0 14 = tm T.s (T.K t) ∧ (T.K t = 16 → J 0 16 = T.V t) ∧ J 0 20 = d ∧ J 0 11 = ps.length ∧ (∀ i, i < ps.length → J 5 (2 * i) = (ps.getD i (0, 0)).1 ∧ J 5 (2 * i + 1) = (ps.getD i (0, 0)).2) ∧ J 0 17 = 0
/-- a fault -/
def CF (I : IMem) (f p : Int) : Prop := I 144 10 = f ∧ I 144 11 = p
def JF (J : IMem) (f p : Int) : Prop := J 0 17 = f ∧ J 0 18 = p
theorem ct_fail {T : TXT} {t : Nat} {xs : List Int} {I : IMem} (fu : Nat) (f : Int) (ho : OKT T) (h : CTk T t xs I) (ht : t ≤ T.n) : par (f_R_fail fu 144 f I) (fun _ I' => CF I' f (T.P t)) := by
  obtain ⟨h6, h7, h8, h10, h9, h5, ha, hl, hx⟩ := h
  have hn := ho.1.2.1
  unfold f_R_fail
  rw [if_pos h10, if_neg (by omega), if_neg (by omega)]
  refine par_zw (par_zl (par_zg (fun _ => par_zw (par_zr ⟨(up_j (by omega) _).trans (if_pos ⟨rfl, rfl⟩), ?_⟩))))
  refine (if_pos ⟨rfl, rfl⟩).trans ?_
  rw [up_j (i := 6) (by omega), h6]
  exact (up_o (by omega) _).trans (ha t ht).2.1
theorem ct_adv {T : TXT} {t : Nat} {xs : List Int} {I : IMem} (fu : Nat) (ho : OKT T) (h : CTk T t xs I) (ht : t < T.n) : par (f_R_advance fu 144 I) (fun _ I' => CTk T (t + 1) xs I') := by
  obtain ⟨h6, h7, h8, h10, h9, h5, ha, hl, hx⟩ := h
  have hn := ho.1.2.1
  unfold f_R_advance
  refine par_zl ?_
  rw [h6, show wr32 ((t : Int) + 1) = ((t + 1 : Nat) : Int) by rw [wr32_i2 (by omega) (by omega)]; rfl]
  rw [if_pos h10, if_neg (by omega), if_neg (by omega), h5, if_pos (by omega)]
  refine par_zw (par_zg (fun _ => par_zw (par_zg (fun _ => par_zw (par_zr ?_)))))
  rw [show ((t + 1 : Nat) : Int).toNat = t + 1 from rfl]
  have g := ha (t + 1) ht
  refine ⟨?_, ?_, ?_, ?_, ?_, ?_, fun j hj => ?_, ?_, fun i hi => ?_, ?_⟩
  · exact (up_j (by omega) _).trans ((up_j (by omega) _).trans (if_pos ⟨rfl, rfl⟩))
  · refine (up_j (by omega) _).trans ((if_pos ⟨rfl, rfl⟩).trans ?_)
    exact (up_o (by omega) _).trans g.1
  · refine (if_pos ⟨rfl, rfl⟩).trans ?_
    exact (up_o (by omega) _).trans ((up_o (by omega) _).trans g.2.2)
  · exact (up_j (by omega) _).trans ((up_j (by omega) _).trans ((up_j (by omega) _).trans h10))
  · exact (up_j (by omega) _).trans ((up_j (by omega) _).trans ((up_j (by omega) _).trans h9))
  · exact (up_j (by omega) _).trans ((up_j (by omega) _).trans ((up_j (by omega) _).trans h5))
  · have e : ∀ o, o ≠ 144 → ∀ i, up (up (up I 144 6 ((t + 1 : Nat) : Int)) 144 7 (up I 144 6 ((t + 1 : Nat) : Int) (144 + 2) (t + 1))) 144 8 (up (up I 144 6 ((t + 1 : Nat) : Int)) 144 7 (up I 144 6 ((t + 1 : Nat) : Int) (144 + 2) (t + 1)) (144 + 4) (t + 1)) o i = I o i := fun o ho i => (up_o ho _).trans ((up_o ho _).trans (up_o ho _))
    exact ⟨(e 146 (by omega) j).trans (ha j hj).1, (e 147 (by omega) j).trans (ha j hj).2.1, (e 148 (by omega) j).trans (ha j hj).2.2⟩
  · exact (up_o (by omega) _).trans ((up_o (by omega) _).trans ((up_o (by omega) _).trans hl))
  · exact (up_o (by omega) _).trans ((up_o (by omega) _).trans ((up_o (by omega) _).trans (hx.1 i hi)))
  · exact (up_j (by omega) _).trans ((up_j (by omega) _).trans ((up_j (by omega) _).trans hx.2))
theorem ct_add {T : TXT} {t : Nat} {xs : List Int} {I : IMem} (fu : Nat) (x : Int) (h : CTk T t xs I) (hl4 : xs.length < 400) : par (f_W_addStep fu 149 x I) (fun _ I' => CTk T t (xs ++ [x]) I') := by
  obtain ⟨h6, h7, h8, h10, h9, h5, ha, hl, hx⟩ := h
  unfold f_W_addStep
  rw [if_neg (by omega), if_pos (by omega)]
  refine par_zl (par_zg (fun _ => par_zw (par_zw (par_zr ?_))))
  have e : (I 149 1).toNat = xs.length := by omega
  rw [e]
  have c : ∀ o, o ≠ 149 → o ≠ 150 → ∀ i w, up (up I (149 + 1) xs.length x) 149 1 w o i = I o i := fun o h1 h2 i w => (up_o h1 _).trans (up_o h2 _)
  refine ⟨(c _ (by omega) (by omega) _ _).trans h6, (c _ (by omega) (by omega) _ _).trans h7, (c _ (by omega) (by omega) _ _).trans h8, (c _ (by omega) (by omega) _ _).trans h10, (c _ (by omega) (by omega) _ _).trans h9, (c _ (by omega) (by omega) _ _).trans h5, fun j hj => ⟨(c _ (by omega) (by omega) _ _).trans (ha j hj).1, (c _ (by omega) (by omega) _ _).trans (ha j hj).2.1, (c _ (by omega) (by omega) _ _).trans (ha j hj).2.2⟩, ?_, fun i hi => ?_, (c _ (by omega) (by omega) _ _).trans hx.2⟩
  · refine (if_pos ⟨rfl, rfl⟩).trans ?_
    rw [show up I (149 + 1) xs.length x 149 1 = I 149 1 from up_o (by omega) _, hl, List.length_append, wr32_i2 (by omega) (by omega)]
    rfl
  · refine (up_o (by omega) _).trans ?_
    rw [List.length_append] at hi
    by_cases hil : i = xs.length
    · subst hil
      refine (if_pos ⟨rfl, rfl⟩).trans ?_
      rw [List.getD_eq_getElem?_getD, List.getElem?_append_right (Nat.le_refl _), Nat.sub_self]
      rfl
    · refine (up_j hil _).trans ?_
      have : i < xs.length := by simp only [List.length_cons, List.length_nil] at hi; omega
      rw [hx.1 i this, List.getD_eq_getElem?_getD, List.getD_eq_getElem?_getD, List.getElem?_append_left this]
theorem jt_bad {T : TXT} {d : Int} {t : Nat} {ps : List (Int × Int)} {J : IMem} (fu : Nat) (f : Int) (h : JTk T d t ps J) : par (f_X_bad fu 0 f J) (fun y J' => y = 0 ∧ JF J' f (T.P t)) := by
  unfold f_X_bad
  refine par_zw (par_zw (par_zr ⟨rfl, (up_j (by omega) _).trans (if_pos ⟨rfl, rfl⟩), (if_pos ⟨rfl, rfl⟩).trans ?_⟩))
  exact (up_j (by omega) _).trans h.2.2.1
theorem jt_next {T : TXT} {d : Int} {t : Nat} {ps : List (Int × Int)} {J : IMem} (fu : Nat) (ho : OKT T) (h : JTk T d t ps J) (ht : t < T.n) : par (f_X_next0 fu 0 J) (fun _ J' => JTk T d (t + 1) ps J') := by
  obtain ⟨hT, h9, h15, h13, h14, h16, h20, h11, hp⟩ := h
  obtain ⟨q, g1, g2, g3, g4, g5⟩ := ho.1.2.2 (t + 1) ht
  refine par_mono (par_next0 fu T.b T.L (T.E (t + 1)) q (T.E (t + 1 + 1)) (T.K (t + 1)) (T.V (t + 1)) J hT h13 g2 g3 g4) (fun _ J' ⟨e, k15, k13, k14, k16⟩ => ?_)
  refine ⟨tp_ext hT e, (e 0 9 (by omega)).trans h9, k15.trans g1.symm, k13, by rw [k14, h9], k16, (e 0 20 (by omega)).trans h20, (e 0 11 (by omega)).trans h11, fun i hi => ⟨(e 5 _ (by omega)).trans (hp.1 i hi).1, (e 5 _ (by omega)).trans (hp.1 i hi).2⟩, (e 0 17 (by omega)).trans hp.2⟩
theorem jt_lay {T : TXT} {d : Int} {t : Nat} {ps : List (Int × Int)} {J : IMem} (fu : Nat) (k v : Int) (h : JTk T d t ps J) (hl : ps.length < 410) : par (f_X_lay fu 0 k v J) (fun _ J' => JTk T d t (ps ++ [(k, v)]) J') := by
  obtain ⟨hT, h9, h15, h13, h14, h16, h20, h11, hp⟩ := h
  unfold f_X_lay
  rw [h11, wr32_i2 (x := 2 * (ps.length : Int)) (by omega) (by omega)]
  refine par_zl (par_zg (fun _ => par_zw (par_zl ?_)))
  have e1 : (2 * (ps.length : Int)).toNat = 2 * ps.length := by omega
  rw [e1]
  have e2 : up J (0 + 5) (2 * ps.length) k 0 11 = ps.length := (up_o (by omega) _).trans h11
  rw [e2, wr32_i2 (x := 2 * (ps.length : Int)) (by omega) (by omega), wr32_i2 (x := 2 * (ps.length : Int) + 1) (by omega) (by omega)]
  have e3 : (2 * (ps.length : Int) + 1).toNat = 2 * ps.length + 1 := by omega
  rw [e3]
  refine par_zg (fun _ => par_zw (par_zw (par_zr ?_)))
  have c : ∀ o i, o ≠ 5 → ¬ (o = 0 ∧ i = 11) → ∀ w, up (up (up J (0 + 5) (2 * ps.length) k) (0 + 5) (2 * ps.length + 1) v) 0 11 w o i = J o i := fun o i h1 h2 w => (if_neg h2).trans ((up_o h1 _).trans (up_o h1 _))
  refine ⟨⟨(c _ _ (by omega) (by omega) _).trans hT.1, hT.2.1, fun j hj => (c _ _ (by omega) (by omega) _).trans (hT.2.2.1 j hj), hT.2.2.2⟩, (c _ _ (by omega) (by omega) _).trans h9, (c _ _ (by omega) (by omega) _).trans h15, (c _ _ (by omega) (by omega) _).trans h13, (c _ _ (by omega) (by omega) _).trans h14, fun x => (c _ _ (by omega) (by omega) _).trans (h16 x), (c _ _ (by omega) (by omega) _).trans h20, ?_, fun i hi => ?_, (c _ _ (by omega) (by omega) _).trans hp.2⟩
  · refine (if_pos ⟨rfl, rfl⟩).trans ?_
    rw [show up (up J (0 + 5) (2 * ps.length) k) (0 + 5) (2 * ps.length + 1) v 0 11 = ps.length from (up_o (by omega) _).trans e2, List.length_append, wr32_i2 (by omega) (by omega)]
    rfl
  · rw [List.length_append] at hi
    by_cases hil : i = ps.length
    · subst hil
      have hg : (ps ++ [(k, v)]).getD ps.length (0, 0) = (k, v) := by
        rw [List.getD_eq_getElem?_getD, List.getElem?_append_right (Nat.le_refl _), Nat.sub_self]; rfl
      rw [hg]
      exact ⟨(up_o (by omega) _).trans ((up_j (by omega) _).trans (if_pos ⟨rfl, rfl⟩)), (up_o (by omega) _).trans (if_pos ⟨rfl, rfl⟩)⟩
    · have hi' : i < ps.length := by simp only [List.length_cons, List.length_nil] at hi; omega
      have hg : (ps ++ [(k, v)]).getD i (0, 0) = ps.getD i (0, 0) := by
        rw [List.getD_eq_getElem?_getD, List.getD_eq_getElem?_getD, List.getElem?_append_left hi']
      rw [hg]
      exact ⟨(up_o (by omega) _).trans ((up_j (by omega) _).trans ((up_j (by omega) _).trans (hp.1 i hi').1)), (up_o (by omega) _).trans ((up_j (by omega) _).trans ((up_j (by omega) _).trans (hp.1 i hi').2))⟩
/-! the two parsers: what they lay, a unit, a divisor -/
def em (k : Int) : Int :=
  if k = 1 then 10007 else if k = 2 then 10009 else if k = 3 then 10010 else if k = 4 then 10011 else if k = 5 then 10012 else if k = 6 then 10013
  else if k = 7 then 10008 else if k = 8 then 10014 else if k = 9 then 10015 else if k = 10 then 10005 else if k = 11 then 10006
  else if k = 12 then -1 else if k = 13 then -2 else if k = 14 then -3 else if k = 16 then -5 else if k = 17 then -6 else if k = 18 then -7
  else if k = 19 then -10 else if k = 20 then -8 else -9
/-- the class's steps for one of the reference's -/
def enI (x : Int × Int) : List Int := if x.1 = 0 then [x.2] else if x.1 = 15 then [x.2, -4] else [em x.1]
def enc (it : List (Int × Int)) : List Int := it.flatMap enI
theorem enc_app (a c : List (Int × Int)) : enc (a ++ c) = enc a ++ enc c := List.flatMap_append
theorem enc_one (x : Int × Int) : enc [x] = enI x := by show enI x ++ [] = _; rw [List.append_nil]
theorem enc_nil : enc [] = [] := rfl
def PSt (T : TXT) (d : Int) (t : Nat) (xs : List Int) (ps : List (Int × Int)) (I J : IMem) : Prop := OKT T ∧ CTk T t xs I ∧ JTk T d t ps J ∧ t ≤ T.n ∧ xs.length ≤ t ∧ ps.length ≤ t
def BDt (I J : IMem) : Prop := ∃ f p, f ≠ 0 ∧ CF I f p ∧ JF J f p
def OUT (T : TXT) (d : Int) (t : Nat) (xs : List Int) (ps : List (Int × Int)) (I : IMem) (y : Int) (J : IMem) : Prop :=
  (y = 1 ∧ ∃ (t' : Nat) (it : List (Int × Int)), t < t' ∧ (enc it).length + t ≤ t' ∧ it.length + t ≤ t' ∧ PSt T d t' (xs ++ enc it) (ps ++ it) I J) ∨ (y = 0 ∧ BDt I J)
theorem par2_of {P1 : IMem → Prop} {P2 : Int → IMem → Prop} {Q : IMem → Int → IMem → Prop} {m1 m2 : Res} (h1 : par m1 (fun _ I => P1 I)) (h2 : par m2 P2) (h : ∀ I y J, P1 I → P2 y J → Q I y J) : par2 m1 m2 Q := fun x I y J e1 e2 => h I y J (h1 x I e1) (h2 y J e2)
/-- the kinds that a unit may be, but numbers -/
abbrev isU (s k : Int) : Prop := (s = 4 ∧ 5 ≤ k ∧ k ≤ 8) ∨ (s ≠ 4 ∧ 7 ≤ k ∧ k ≤ 15)
theorem tm_sg {s k : Int} (h : SG k) : tm s k = k + 100 := by
  unfold SG at h
  rcases h with rfl | rfl | rfl | rfl | rfl | rfl | rfl | rfl | rfl | rfl <;> rfl
theorem kd_cases {k : Int} (h : KD k) : (k = 0 ∨ k = 1 ∨ k = 2 ∨ k = 3 ∨ k = 4 ∨ k = 5 ∨ k = 6 ∨ k = 7 ∨ k = 8 ∨ k = 9 ∨ k = 10 ∨ k = 11 ∨ k = 12 ∨ k = 13 ∨ k = 14 ∨ k = 15 ∨ k = 16 ∨ k = 17 ∨ k = 18) ∨ SG k := by
  rcases h with h | h
  · exact Or.inl (by omega)
  · exact Or.inr h
/-- what the reference's token tells of the class's kind -/
theorem tm_all {s k : Int} (h : KD k) : (tm s k = 0 ↔ k = 17) ∧ (tm s k = 2 ↔ k = 16) ∧ (tm s k = 3 ↔ k = 1) ∧ (tm s k = 4 ↔ k = 2) ∧ (tm s k = 5 ↔ k = 3) ∧ (tm s k = 6 ↔ k = 4) ∧ (tm s k = 7 ↔ (s = 4 ∧ k = 11) ∨ (s ≠ 4 ∧ k = 0)) ∧ ((41 ≤ tm s k ∧ tm s k ≤ 51) ↔ isU s k) ∧ (∀ c, 140 ≤ c → (tm s k = c ↔ k = c - 100)) ∧ (isU s k → ∀ v, enI (tm s k - 40, v) = [10000 + k]) := by
  by_cases hs : s = 4
  · subst hs
    rcases kd_cases h with h | h
    · rcases h with rfl | rfl | rfl | rfl | rfl | rfl | rfl | rfl | rfl | rfl | rfl | rfl | rfl | rfl | rfl | rfl | rfl | rfl | rfl <;>
        refine ⟨by decide, by decide, by decide, by decide, by decide, by decide, by decide, by decide, fun c hc => ?_, fun g v => ?_⟩ <;> first | (unfold tm; simp; omega) | exact absurd g (by decide) | rfl
    · rw [tm_sg h]
      unfold SG at h
      unfold isU
      refine ⟨by omega, by omega, by omega, by omega, by omega, by omega, by omega, by omega, fun c hc => by omega, fun g => by omega⟩
  · have hr := tm_r (k := k) hs
    rcases kd_cases h with h | h
    · rcases h with rfl | rfl | rfl | rfl | rfl | rfl | rfl | rfl | rfl | rfl | rfl | rfl | rfl | rfl | rfl | rfl | rfl | rfl | rfl <;>
        rw [hr] <;> unfold isU <;> simp [hs] <;> first | done | omega | (intros; omega) | (intros; rfl) | (refine ⟨?_, ?_⟩ <;> intros <;> first | omega | rfl)
    · rw [tm_sg h]
      unfold SG at h
      unfold isU
      refine ⟨by omega, by omega, by omega, by omega, by omega, by omega, by omega, by omega, fun c hc => by omega, fun g => by omega⟩
/-! units, divisors, and what stays once there is a fault -/
def FSt (I I' : IMem) : Prop := I' 144 10 = I 144 10 ∧ I' 144 11 = I 144 11
theorem fst_r (I : IMem) : FSt I I := ⟨rfl, rfl⟩
theorem fst_t {I I1 I2 : IMem} (h : FSt I I1) (g : FSt I1 I2) : FSt I I2 := ⟨g.1.trans h.1, g.2.trans h.2⟩
theorem fst_n {I I1 : IMem} (h : FSt I I1) (g : I 144 10 ≠ 0) : I1 144 10 ≠ 0 := by rw [h.1]; exact g
theorem sk_adv (fu : Nat) {I : IMem} (h : I 144 10 ≠ 0) : par (f_R_advance fu 144 I) (fun _ I' => FSt I I') := by
  unfold f_R_advance
  refine par_zl ?_
  rw [if_neg h]
  exact par_zr (fst_r I)
theorem sk_fail (fu : Nat) (f : Int) {I : IMem} (h : I 144 10 ≠ 0) : par (f_R_fail fu 144 f I) (fun _ I' => FSt I I') := by
  unfold f_R_fail
  rw [if_neg h]
  exact par_zr (fst_r I)
theorem sk_exp (fu : Nat) (due : Int) {I : IMem} (h : I 144 10 ≠ 0) : par (f_R_expect fu 144 due I) (fun _ I' => FSt I I') := by
  unfold f_R_expect
  exact par_ite (fun _ => par_zb (sk_adv fu h) (fun _ _ g => par_zr g)) (fun _ => par_zb (sk_fail fu 1 h) (fun _ _ g => par_zr g))
theorem sk_add (fu : Nat) (x : Int) (I : IMem) : par (f_W_addStep fu 149 x I) (fun _ I' => FSt I I') := by
  unfold f_W_addStep
  refine par_ite (fun _ => par_zr (fst_r I)) (fun _ => par_ite (fun _ => ?_) (fun _ => par_zr (fst_r I)))
  exact par_zl (par_zg (fun _ => par_zw (par_zw (par_zr ⟨(up_o (by omega) _).trans (up_o (by omega) _), (up_o (by omega) _).trans (up_o (by omega) _)⟩))))
theorem sk_unit (fu : Nat) {I : IMem} (h : I 144 10 ≠ 0) : par (f_R_readUnit fu 144 I) (fun _ I' => FSt I I') := by
  unfold f_R_readUnit
  refine par_zj (fun k1 ek1 => ?_)
  have hk1 : ∀ x3, par (k1 x3 I) (fun _ I' => FSt I I') := by
    intro x3
    subst ek1
    refine par_zj (fun k4 ek4 => ?_)
    have hk4 : ∀ x6, par (k4 x6 I) (fun _ I' => FSt I I') := by
      intro x6
      subst ek4
      refine par_ite (fun _ => par_zb (sk_add fu _ I) (fun _ I1 g1 => par_zb (sk_adv fu (fst_n g1 h)) (fun _ I2 g2 => par_zr (fst_t g1 g2)))) (fun _ => ?_)
      refine par_zj (fun k7 ek7 => ?_)
      have hk7 : par (k7 I) (fun _ I' => FSt I I') := by
        subst ek7
        exact par_zb (sk_fail fu 1 h) (fun _ _ g => par_zr g)
      clear ek7
      exact par_ite (fun _ => hk7) (fun _ => par_ite (fun _ => hk7) (fun _ => par_zb (sk_add fu _ I) (fun _ I1 g1 => par_zb (sk_adv fu (fst_n g1 h)) (fun _ I2 g2 => par_zr (fst_t g1 g2)))))
    clear ek4
    exact par_ite (fun _ => hk4 _) (fun _ => hk4 _)
  clear ek1
  exact par_ite (fun _ => hk1 _) (fun _ => hk1 _)
theorem sk_div (fu : Nat) {I : IMem} (h : I 144 10 ≠ 0) : par (f_R_readDivisor fu 144 I) (fun _ I' => FSt I I') := by
  unfold f_R_readDivisor
  refine par_ite (fun _ => par_ite (fun _ => par_zb (sk_fail fu 2 h) (fun _ _ g => par_zr g)) (fun _ => ?_)) (fun _ => par_zb (sk_fail fu 1 h) (fun _ _ g => par_zr g))
  exact par_zb (sk_add fu _ I) (fun _ I1 g1 => par_zb (sk_add fu _ I1) (fun _ I2 g2 => par_zb (sk_adv fu (fst_n (fst_t g1 g2) h)) (fun _ I3 g3 => par_zr (fst_t (fst_t g1 g2) g3))))
def kSum (fu : Nat) : Int → IMem → Res := fun (x41 : Int) (I40 : IMem) =>
      if x41 = 0 then (
        zr 0 I40)
      else (
        zb (f_W_addStep fu (144 + 5) x41 I40) fun _ I43 =>
        zr 0 I43)
theorem sk_kSum (fu : Nat) (x : Int) (I : IMem) : par (kSum fu x I) (fun _ I' => FSt I I') := by
  unfold kSum
  exact par_ite (fun _ => par_zr (fst_r I)) (fun _ => par_zb (sk_add fu _ I) (fun _ _ g => par_zr g))
theorem sk_sum8 (fu : Nat) : ∀ (m : Nat) (w1 w2 : Int) (I : IMem), I 144 10 ≠ 0 → par (f_R_readSum_8 fu (kSum fu) 144 m w1 w2 I) (fun _ I' => FSt I I') := by
  intro m
  cases m with
  | zero => intro _ _ _ _; exact par_none
  | succ m =>
    intro w1 w2 I h
    show par (fb_R_readSum_8 fu (kSum fu) 144 (f_R_readSum_8 fu (kSum fu) 144 m) w1 w2 I) _
    unfold fb_R_readSum_8
    rw [if_neg h]
    exact par_ite (fun _ => sk_kSum fu w1 I) (fun _ => sk_kSum fu w1 I)
theorem sk_sum (fu : Nat) {I : IMem} (h : I 144 10 ≠ 0) : par (f_R_readSum fu 144 I) (fun _ I' => FSt I I') := by
  unfold f_R_readSum
  exact par_zb (sk_unit fu h) (fun _ I1 g1 => par_mono (sk_sum8 fu fu 0 0 I1 (fst_n g1 h)) (fun _ _ g => fst_t g1 g))

theorem ct_exp {T : TXT} {t : Nat} {xs : List Int} {I : IMem} (fu : Nat) (due : Int) (ho : OKT T) (h : CTk T t xs I) (ht : t ≤ T.n) (hd : due ≠ 17) : par (f_R_expect fu 144 due I) (fun _ I' => (T.K t = due ∧ CTk T (t + 1) xs I' ∧ t < T.n) ∨ (T.K t ≠ due ∧ CF I' 1 (T.P t))) := by
  unfold f_R_expect
  rw [h.2.1]
  refine par_ite (fun c => ?_) (fun c => par_zb (ct_fail fu 1 ho h ht) (fun _ _ g => par_zr (Or.inr ⟨c, g⟩)))
  have hn : t < T.n := by
    have := (okt_k ho ht).2.1
    omega
  exact par_zb (ct_adv fu ho h hn) (fun _ _ g => par_zr (Or.inl ⟨c, g, hn⟩))
theorem cunit {T : TXT} {t : Nat} {xs : List Int} {I : IMem} (fu : Nat) (ho : OKT T) (h : CTk T t xs I) (ht : t ≤ T.n) (hl : xs.length ≤ t) : par (f_R_readUnit fu 144 I) (fun _ I' => (T.K t = 16 ∧ t < T.n ∧ CTk T (t + 1) (xs ++ [T.V t]) I') ∨ (isU T.s (T.K t) ∧ t < T.n ∧ CTk T (t + 1) (xs ++ [10000 + T.K t]) I') ∨ (T.K t ≠ 16 ∧ ¬ isU T.s (T.K t) ∧ CF I' 1 (T.P t))) := by
  have hk := okt_k ho ht
  have hn := ho.1.2.1
  have key : ∀ (x3 x6 : Int), (isU T.s (T.K t) ↔ x3 ≤ T.K t ∧ T.K t ≤ x6) → par (zj (fun (x3 : Int) (I2 : IMem) =>
        zj (fun (x6 : Int) (I5 : IMem) =>
            if I5 144 7 = 16 then (
              zb (f_W_addStep fu (144 + 5) (I5 144 8) I5) fun _ I19 =>
              zb (f_R_advance fu 144 I19) fun _ I22 =>
              zr 0 I22)
            else (
              zj (fun  (I8 : IMem) =>
                  zb (f_R_fail fu 144 1 I8) fun _ I10 =>
                  zr 0 I10) fun k7 =>
                if I5 144 7 < x3 then (
                  k7 I5)
                else (
                  if x6 < I5 144 7 then (
                    k7 I5)
                  else (
                    zb (f_W_addStep fu (144 + 5) (wr32 (10000 + (I5 144 7))) I5) fun _ I13 =>
                    zb (f_R_advance fu 144 I13) fun _ I16 =>
                    zr 0 I16)))) fun k4 => k4 x6 I2) fun k1 => k1 x3 I) (fun _ I' => (T.K t = 16 ∧ t < T.n ∧ CTk T (t + 1) (xs ++ [T.V t]) I') ∨ (isU T.s (T.K t) ∧ t < T.n ∧ CTk T (t + 1) (xs ++ [10000 + T.K t]) I') ∨ (T.K t ≠ 16 ∧ ¬ isU T.s (T.K t) ∧ CF I' 1 (T.P t))) := by
    intro x3 x6 hx
    simp only [zj]
    rw [h.2.1, h.2.2.1]
    refine par_ite (fun c => ?_) (fun c => ?_)
    · have hn' : t < T.n := by have := hk.2.1; omega
      exact par_zb (ct_add fu _ h (by omega)) (fun _ I1 g1 => par_zb (ct_adv fu ho g1 hn') (fun _ I2 g2 => par_zr (Or.inl ⟨c, hn', g2⟩)))
    · refine par_ite (fun c1 => ?_) (fun c1 => par_ite (fun c2 => ?_) (fun c2 => ?_))
      · exact par_zb (ct_fail fu 1 ho h ht) (fun _ _ g => par_zr (Or.inr (Or.inr ⟨c, fun u => by have := hx.mp u; omega, g⟩)))
      · exact par_zb (ct_fail fu 1 ho h ht) (fun _ _ g => par_zr (Or.inr (Or.inr ⟨c, fun u => by have := hx.mp u; omega, g⟩)))
      · have hu : isU T.s (T.K t) := hx.mpr ⟨by omega, by omega⟩
        have hr : 5 ≤ T.K t ∧ T.K t ≤ 15 := by unfold isU at hu; omega
        have hn' : t < T.n := by have := hk.2.1; omega
        rw [wr32_i2 (by omega) (by omega)]
        exact par_zb (ct_add fu _ h (by omega)) (fun _ I1 g1 => par_zb (ct_adv fu ho g1 hn') (fun _ I2 g2 => par_zr (Or.inr (Or.inl ⟨hu, hn', g2⟩))))
  have h9 := h.2.2.2.2.1
  by_cases hs : T.s = 4
  · rw [if_pos hs] at h9
    have := key 5 8 (by unfold isU; omega)
    unfold f_R_readUnit
    simp only [zj] at this ⊢
    rw [if_neg (by omega), if_neg (by omega)]
    exact this
  · rw [if_neg hs] at h9
    have := key 7 15 (by unfold isU; omega)
    unfold f_R_readUnit
    simp only [zj] at this ⊢
    rw [if_pos h9, if_pos h9]
    exact this
theorem xunit {T : TXT} {d : Int} {t : Nat} {ps : List (Int × Int)} {J : IMem} (fu : Nat) (ho : OKT T) (h : JTk T d t ps J) (ht : t ≤ T.n) (hl : ps.length ≤ t) : par (f_X_unit fu 0 J) (fun y J' => (T.K t = 16 ∧ y = 1 ∧ JTk T d (t + 1) (ps ++ [(0, T.V t)]) J') ∨ (isU T.s (T.K t) ∧ y = 1 ∧ ∃ v, JTk T d (t + 1) (ps ++ [(tm T.s (T.K t) - 40, v)]) J') ∨ (T.K t ≠ 16 ∧ ¬ isU T.s (T.K t) ∧ y = 0 ∧ JF J' 1 (T.P t))) := by
  have hk := okt_k ho ht
  have hn := ho.1.2.1
  have ha := tm_all (s := T.s) hk.1
  obtain ⟨a0, a2, a3, a4, a5, a6, a7, aU, aS, aE⟩ := ha
  unfold f_X_unit
  rw [h.2.2.2.2.1]
  refine par_zb (par_isIn fu _ 41 51 J) (fun y1 J1 ⟨e, hy⟩ => ?_)
  subst e
  rw [aU] at hy
  simp only [zj]
  rw [h.2.2.2.2.1]
  refine par_ite (fun c => ?_) (fun c => par_ite (fun c1 => ?_) (fun c1 => ?_))
  · have c16 := a2.mp c
    have hnu : ¬ isU T.s (T.K t) := by unfold isU; omega
    rw [if_pos (hy.mpr hnu), h.2.2.2.2.2.1 c16]
    refine par_zb (jt_lay fu 0 _ h (by omega)) (fun _ J2 g2 => par_zb (jt_next fu ho g2 (by have := hk.2.1; omega)) (fun _ J3 g3 => par_zr (Or.inl ⟨c16, rfl, g3⟩)))
  · refine par_zb (jt_bad fu 1 h) (fun y2 J2 g2 => par_zg (fun _ => par_zr (Or.inr (Or.inr ⟨fun x => c (a2.mpr x), hy.mp c1, g2⟩))))
  · have hu : isU T.s (T.K t) := Classical.byContradiction fun x => c1 (hy.mpr x)
    have hr := aU.mpr hu
    rw [if_neg c1, wr32_i2 (by omega) (by omega)]
    refine par_zb (jt_lay fu _ _ h (by omega)) (fun _ J2 g2 => par_zb (jt_next fu ho g2 (by have := hk.2.1; unfold isU at hu; omega)) (fun _ J3 g3 => par_zr (Or.inr (Or.inl ⟨hu, rfl, _, g3⟩))))
theorem unit2 {T : TXT} {d : Int} {t : Nat} {xs : List Int} {ps : List (Int × Int)} {I J : IMem} (fu : Nat) (h : PSt T d t xs ps I J) : par2 (f_R_readUnit fu 144 I) (f_X_unit fu 0 J) (OUT T d t xs ps) := by
  obtain ⟨ho, hc, hj, ht, hx, hp⟩ := h
  refine par2_of (cunit fu ho hc ht hx) (xunit fu ho hj ht hp) (fun I' y J' p1 p2 => ?_)
  have hk := okt_k ho ht
  rcases p1 with ⟨b1, b2, b3⟩ | ⟨b1, b2, b3⟩ | ⟨b1, b2, b3⟩
  · rcases p2 with ⟨c1, c2, c3⟩ | ⟨c1, c2, c3⟩ | ⟨c1, c2, c3, c4⟩
    · refine Or.inl ⟨c2, t + 1, [(0, T.V t)], Nat.lt_succ_self _, ?_, ?_, ho, ?_, c3, b2, ?_, ?_⟩
      · rw [enc_one]; show 1 + t ≤ t + 1; omega
      · show 1 + t ≤ t + 1; omega
      · rw [enc_one]; exact b3
      · rw [enc_one, List.length_append]; show xs.length + 1 ≤ t + 1; omega
      · rw [List.length_append]; show ps.length + 1 ≤ t + 1; omega
    · unfold isU at c1; omega
    · exact absurd b1 c1
  · rcases p2 with ⟨c1, c2, c3⟩ | ⟨c1, c2, v, c3⟩ | ⟨c1, c2, c3, c4⟩
    · unfold isU at b1; omega
    · have e := (tm_all (s := T.s) hk.1).2.2.2.2.2.2.2.2.2 c1 v
      refine Or.inl ⟨c2, t + 1, [(tm T.s (T.K t) - 40, v)], Nat.lt_succ_self _, ?_, ?_, ho, ?_, c3, b2, ?_, ?_⟩
      · rw [enc_one, e]; show 1 + t ≤ t + 1; omega
      · show 1 + t ≤ t + 1; omega
      · rw [enc_one, e]; exact b3
      · rw [enc_one, e, List.length_append]; show xs.length + 1 ≤ t + 1; omega
      · rw [List.length_append]; show ps.length + 1 ≤ t + 1; omega
    · exact absurd b1 c2
  · rcases p2 with ⟨c1, c2, c3⟩ | ⟨c1, c2, c3⟩ | ⟨c1, c2, c3, c4⟩
    · exact absurd c1 b1
    · exact absurd c1 b2
    · exact Or.inr ⟨c3, 1, T.P t, by decide, b3, c4⟩
/-! sums: the class's one loop against the reference's two -/
theorem out_bad {T : TXT} {d : Int} {t : Nat} {xs : List Int} {ps : List (Int × Int)} {I : IMem} {J : IMem} (h : BDt I J) : OUT T d t xs ps I 0 J := Or.inr ⟨rfl, h⟩
theorem bd_fst {I I' J : IMem} (h : BDt I J) (g : FSt I I') : BDt I' J := by
  obtain ⟨f, p, h1, h2, h3⟩ := h
  exact ⟨f, p, h1, ⟨g.1.trans h2.1, g.2.trans h2.2⟩, h3⟩
theorem bd_n {I J : IMem} (h : BDt I J) : I 144 10 ≠ 0 := by
  obtain ⟨f, p, h1, h2, h3⟩ := h
  rw [h2.1]; exact h1
/-- from one token on to another: what is laid in between -/
theorem out_t {T : TXT} {d : Int} {t t1 : Nat} {xs : List Int} {ps it : List (Int × Int)} {I J : IMem} {y : Int} (h1 : t ≤ t1) (h2 : (enc it).length + t ≤ t1) (h3 : it.length + t ≤ t1) (h : OUT T d t1 (xs ++ enc it) (ps ++ it) I y J) : OUT T d t xs ps I y J := by
  rcases h with ⟨e, t2, it2, g1, g2, g3, g4⟩ | h
  · refine Or.inl ⟨e, t2, it ++ it2, by omega, ?_, ?_, ?_⟩
    · rw [enc_app, List.length_append]; omega
    · rw [List.length_append]; omega
    · rw [enc_app, ← List.append_assoc, ← List.append_assoc]; exact g4
  · exact Or.inr h
/-- what the reference does once its product is read: w1 waits -/
def konT (fu m3 : Nat) (w1 : Int) : Int → IMem → Res := fun y I => if y = 0 then zr 0 I else if w1 = 0 then f_X_sumUp_9 fu 0 m3 I else zb (f_X_lay fu 0 (if w1 = -1 then 12 else 13) 0 I) fun _ I16 => f_X_sumUp_9 fu 0 m3 I16
theorem zb_assoc (m : Res) (k1 k2 : Int → IMem → Res) : zb (zb m k1) k2 = zb m (fun v I => zb (k1 v I) k2) := by
  cases m with
  | none => rfl
  | some r => rfl
/-- it so far, with w1 waiting -/
def WT (w1 : Int) (k : Nat) : Prop := (w1 = 0 ∧ k = 0) ∨ ((w1 = -1 ∨ w1 = -2) ∧ k = 1)
theorem kon_0 {Q : IMem → Int → IMem → Prop} {fu m3 : Nat} {w1 : Int} {J : IMem} {m : Res} (h : par m (fun _ I => Q I 0 J)) : par2 m (konT fu m3 w1 0 J) Q := by
  unfold konT
  rw [if_pos rfl]
  exact par2_l h
/-- laying the step that waits -/
theorem lay_w {T : TXT} {d : Int} {t tj : Nat} {xs : List Int} {ps : List (Int × Int)} {I J : IMem} (fu : Nat) (w1 : Int) (hw : w1 = -1 ∨ w1 = -2) (ho : OKT T) (hc : CTk T t xs I) (hx : xs.length < 400) (hj : JTk T d tj ps J) (hp : ps.length < 410) : par (f_W_addStep fu 149 w1 I) (fun _ I' => CTk T t (xs ++ enc [((if w1 = -1 then (12 : Int) else 13), 0)]) I') ∧ par (f_X_lay fu 0 (if w1 = -1 then 12 else 13) 0 J) (fun _ J' => JTk T d tj (ps ++ [((if w1 = -1 then (12 : Int) else 13), 0)]) J') := by
  have e : enc [((if w1 = -1 then (12 : Int) else 13), 0)] = [w1] := by
    rw [enc_one]
    rcases hw with rfl | rfl <;> rfl
  rw [e]
  exact ⟨ct_add fu w1 hc hx, jt_lay fu _ 0 hj hp⟩
/-- the state in the loop: since t0, it0 laid, w1 waiting -/
def LPt (T : TXT) (d : Int) (t0 t : Nat) (xs0 : List Int) (ps0 it : List (Int × Int)) (w1 : Int) (I J : IMem) : Prop := ∃ k, WT w1 k ∧ t0 < t ∧ (enc it).length + k + t0 ≤ t ∧ it.length + k + t0 ≤ t ∧ PSt T d t (xs0 ++ enc it) (ps0 ++ it) I J ∧ xs0.length ≤ t0 ∧ ps0.length ≤ t0
theorem wt_len {w1 : Int} {it : List (Int × Int)} : (enc [((if w1 = -1 then (12 : Int) else 13), 0)]).length = 1 ∧ ([((if w1 = -1 then (12 : Int) else 13), 0)] : List (Int × Int)).length = 1 := by
  by_cases h : w1 = -1
  · rw [if_pos h]; exact ⟨rfl, rfl⟩
  · rw [if_neg h]; exact ⟨rfl, rfl⟩
/-- what waits is laid by both -/
theorem lp_lay {T : TXT} {d : Int} {t0 t : Nat} {xs0 : List Int} {ps0 it : List (Int × Int)} {w1 : Int} {I J : IMem} (fu : Nat) (hw : w1 ≠ 0) (h : LPt T d t0 t xs0 ps0 it w1 I J) : ∃ it', par (f_W_addStep fu 149 w1 I) (fun _ I' => CTk T t (xs0 ++ enc it') I') ∧ par (f_X_lay fu 0 (if w1 = -1 then 12 else 13) 0 J) (fun _ J' => JTk T d t (ps0 ++ it') J') ∧ (enc it').length + t0 ≤ t ∧ it'.length + t0 ≤ t := by
  obtain ⟨k, hk, h1, h2, h3, ⟨ho, hc, hj, ht, hx, hp⟩, h5, h6⟩ := h
  have hn := ho.1.2.1
  rcases hk with ⟨e, _⟩ | ⟨e, ek⟩
  · exact absurd e hw
  rw [List.length_append] at hx hp
  have g := lay_w fu w1 e ho hc (by rw [List.length_append]; omega) hj (by rw [List.length_append]; omega)
  have hl := wt_len (w1 := w1) (it := it)
  refine ⟨it ++ [((if w1 = -1 then (12 : Int) else 13), 0)], ?_, ?_, ?_, ?_⟩
  · rw [enc_app, ← List.append_assoc]; exact g.1
  · rw [← List.append_assoc]; exact g.2
  · rw [enc_app, List.length_append, hl.1]; omega
  · rw [List.length_append, hl.2]; omega
/-- a divisor -/
def OUD (T : TXT) (d : Int) (t : Nat) (xs : List Int) (ps : List (Int × Int)) (Jv : Int) (I : IMem) (y : Int) (J : IMem) : Prop :=
  (y = 1 ∧ ∃ v, Jv = v ∧ CTk T (t + 1) (xs ++ [v, -4]) I ∧ t + 1 ≤ T.n ∧ JTk T d (t + 1) ps J) ∨ (y = 0 ∧ BDt I J)
theorem div2 {T : TXT} {d : Int} {t : Nat} {xs : List Int} {ps : List (Int × Int)} {I J : IMem} (fu : Nat) (h : PSt T d t xs ps I J) (hx1 : xs.length < t) : par2 (f_R_readDivisor fu 144 I) (f_X_number fu 0 1 9999 J) (OUD T d t xs ps (J 0 16)) := by
  obtain ⟨ho, hc, hj, ht, hx, hp⟩ := h
  have hk := okt_k ho ht
  have hn := ho.1.2.1
  obtain ⟨a0, a2, a3, a4, a5, a6, a7, aU, aS, aE⟩ := tm_all (s := T.s) hk.1
  unfold f_R_readDivisor f_X_number
  rw [hc.2.1, hc.2.2.1, hj.2.2.2.2.1]
  refine par2_il (fun c => ?_) (fun c => ?_)
  · rw [if_pos (a2.mpr c), hj.2.2.2.2.2.1 c]
    have hv := hk.2.2 c
    have htn : t < T.n := by have := hk.2.1; omega
    refine par2_br (par_isIn fu _ 1 9999 J) (fun y J1 ⟨e, hy⟩ => ?_)
    subst e
    refine par2_il (fun c0 => ?_) (fun c0 => ?_)
    · rw [if_pos (hy.mpr (by omega))]
      refine par2_br (jt_bad fu 2 hj) (fun y2 J2 g2 => par2_gr (fun _ => ?_))
      rw [g2.1]
      exact par2_l (par_zb (ct_fail fu 2 ho hc ht) (fun _ I1 f1 => par_zr (Or.inr ⟨rfl, 2, _, by decide, f1, g2.2⟩)))
    · rw [if_neg (fun x => by have := hy.mp x; omega)]
      refine par2_br (jt_next fu ho hj htn) (fun y2 J2 j2 => ?_)
      refine par2_l (par_zb (ct_add fu _ hc (by omega)) (fun _ I1 c1 => par_zb (ct_add fu (-4) c1 ?_) (fun _ I2 c2 => par_zb (ct_adv fu ho c2 htn) (fun _ I3 c3 => par_zr (Or.inl ⟨rfl, T.V t, rfl, ?_, htn, j2⟩)))))
      · rw [List.length_append]; show xs.length + 1 < 400; omega
      · rw [List.append_assoc] at c3; exact c3
  · rw [if_neg (fun x => c (a2.mp x))]
    refine par2_br (jt_bad fu 1 hj) (fun y2 J2 g2 => par2_gr (fun _ => ?_))
    rw [g2.1]
    exact par2_l (par_zb (ct_fail fu 1 ho hc ht) (fun _ I1 f1 => par_zr (Or.inr ⟨rfl, 1, _, by decide, f1, g2.2⟩)))
theorem xp_times {fu m : Nat} {J : IMem} (h : J 0 14 = 142) : f_X_product_9 fu 0 (m + 1) J = zb (f_X_next0 fu 0 J) fun _ I10 => zb (f_X_unit fu 0 I10) fun y12 I13 => if y12 = 0 then zr 0 I13 else zb (f_X_lay fu 0 14 0 I13) fun _ I16 => f_X_product_9 fu 0 m I16 := by
  show fb_X_product_9 fu 0 (f_X_product_9 fu 0 m) J = _
  unfold fb_X_product_9
  simp only [zj]
  rw [if_pos h, if_neg (by omega)]
  rfl
theorem xp_part {fu m : Nat} {J : IMem} (h : J 0 14 = 147) : f_X_product_9 fu 0 (m + 1) J = zb (f_X_next0 fu 0 J) fun _ I10 => zb (f_X_number fu 0 1 9999 I10) fun y12 I13 => if y12 = 0 then zr 0 I13 else zb (f_X_lay fu 0 15 (I10 0 16) I13) fun _ I16 => f_X_product_9 fu 0 m I16 := by
  show fb_X_product_9 fu 0 (f_X_product_9 fu 0 m) J = _
  unfold fb_X_product_9
  simp only [zj]
  rw [if_neg (by omega), if_pos h, if_pos h]
  rfl
theorem xp_end {fu m : Nat} {J : IMem} (h : J 0 14 ≠ 142) (g : J 0 14 ≠ 147) : f_X_product_9 fu 0 (m + 1) J = zr 1 J := by
  show fb_X_product_9 fu 0 (f_X_product_9 fu 0 m) J = _
  unfold fb_X_product_9
  simp only [zj]
  rw [if_neg h, if_neg g]
theorem xs_go {fu m : Nat} {J : IMem} (how : Int) (h : (J 0 14 = 143 ∧ how = 12) ∨ (J 0 14 = 145 ∧ how = 13)) : f_X_sumUp_9 fu 0 (m + 1) J = zb (f_X_next0 fu 0 J) fun _ I10 => zb (f_X_product fu 0 I10) fun y12 I13 => if y12 = 0 then zr 0 I13 else zb (f_X_lay fu 0 how 0 I13) fun _ I16 => f_X_sumUp_9 fu 0 m I16 := by
  show fb_X_sumUp_9 fu 0 (f_X_sumUp_9 fu 0 m) J = _
  unfold fb_X_sumUp_9
  simp only [zj]
  rcases h with ⟨h, rfl⟩ | ⟨h, rfl⟩
  · rw [if_pos h, if_pos h]
  · rw [if_neg (by omega), if_pos h, if_neg (by omega)]
theorem xs_end {fu m : Nat} {J : IMem} (h : J 0 14 ≠ 143) (g : J 0 14 ≠ 145) : f_X_sumUp_9 fu 0 (m + 1) J = zr 1 J := by
  show fb_X_sumUp_9 fu 0 (f_X_sumUp_9 fu 0 m) J = _
  unfold fb_X_sumUp_9
  simp only [zj]
  rw [if_neg h, if_neg g]
theorem cs_times {fu m : Nat} {w1 w2 : Int} {I : IMem} (h : I 144 7 = 42) (h2 : 0 ≤ w2 ∧ w2 < 400) (h0 : I 144 10 = 0) : f_R_readSum_8 fu (kSum fu) 144 (m + 1) w1 w2 I = zb (f_R_advance fu 144 I) fun _ I32 => zb (f_R_readUnit fu 144 I32) fun _ I35 => zb (f_W_addStep fu 149 (-3) I35) fun _ I38 => f_R_readSum_8 fu (kSum fu) 144 m w1 (w2 + 1) I38 := by
  show fb_R_readSum_8 fu (kSum fu) 144 (f_R_readSum_8 fu (kSum fu) 144 m) w1 w2 I = _
  unfold fb_R_readSum_8
  simp only [zj, zl]
  rw [if_pos h2.2, if_pos h0, h, if_pos rfl, wr32_i2 (by omega) (by omega)]
theorem cs_part {fu m : Nat} {w1 w2 : Int} {I : IMem} (h : I 144 7 = 47) (h2 : 0 ≤ w2 ∧ w2 < 400) (h0 : I 144 10 = 0) : f_R_readSum_8 fu (kSum fu) 144 (m + 1) w1 w2 I = zb (f_R_advance fu 144 I) fun _ I32 => zb (f_R_readDivisor fu 144 I32) fun _ I35 => f_R_readSum_8 fu (kSum fu) 144 m w1 (w2 + 1) I35 := by
  show fb_R_readSum_8 fu (kSum fu) 144 (f_R_readSum_8 fu (kSum fu) 144 m) w1 w2 I = _
  unfold fb_R_readSum_8
  simp only [zj, zl]
  rw [if_pos h2.2, if_pos h0, h, if_neg (by decide), if_pos rfl, wr32_i2 (by omega) (by omega)]
theorem cs_go {fu m : Nat} {w1 w2 : Int} {I : IMem} (how : Int) (h : (I 144 7 = 43 ∧ how = -1) ∨ (I 144 7 = 45 ∧ how = -2)) (h2 : 0 ≤ w2 ∧ w2 < 400) (h0 : I 144 10 = 0) : f_R_readSum_8 fu (kSum fu) 144 (m + 1) w1 w2 I = zb (f_R_advance fu 144 I) fun _ I12 => if w1 = 0 then (zb (f_R_readUnit fu 144 I12) fun _ I20 => f_R_readSum_8 fu (kSum fu) 144 m how (w2 + 1) I20) else zb (f_W_addStep fu 149 w1 I12) fun _ I23 => (zb (f_R_readUnit fu 144 I23) fun _ I20 => f_R_readSum_8 fu (kSum fu) 144 m how (w2 + 1) I20) := by
  show fb_R_readSum_8 fu (kSum fu) 144 (f_R_readSum_8 fu (kSum fu) 144 m) w1 w2 I = _
  unfold fb_R_readSum_8
  simp only [zj, zl]
  rw [wr32_i2 (x := w2 + 1) (by omega) (by omega)]
  rcases h with ⟨h, rfl⟩ | ⟨h, rfl⟩
  · rw [if_pos h2.2, if_pos h0, h, if_neg (by decide), if_neg (by decide), if_pos rfl]
    rfl
  · rw [if_pos h2.2, if_pos h0, h, if_neg (by decide), if_neg (by decide), if_neg (by decide), if_pos rfl]
    rfl
theorem cs_end {fu m : Nat} {w1 w2 : Int} {I : IMem} (h42 : I 144 7 ≠ 42) (h47 : I 144 7 ≠ 47) (h43 : I 144 7 ≠ 43) (h45 : I 144 7 ≠ 45) (h2 : 0 ≤ w2 ∧ w2 < 400) (h0 : I 144 10 = 0) : f_R_readSum_8 fu (kSum fu) 144 (m + 1) w1 w2 I = kSum fu w1 I := by
  show fb_R_readSum_8 fu (kSum fu) 144 (f_R_readSum_8 fu (kSum fu) 144 m) w1 w2 I = _
  unfold fb_R_readSum_8
  simp only [zj, zl]
  rw [if_pos h2.2, if_pos h0, if_neg h42, if_neg h47, if_neg h43, if_neg h45]
theorem sum8 {T : TXT} {d : Int} {t0 : Nat} {xs0 : List Int} {ps0 : List (Int × Int)} (fu : Nat) : ∀ (m m2 m3 : Nat) (w1 w2 : Int) (t : Nat) (it : List (Int × Int)) (I J : IMem), LPt T d t0 t xs0 ps0 it w1 I J → 0 ≤ w2 → w2 < t → par2 (f_R_readSum_8 fu (kSum fu) 144 m w1 w2 I) (zb (f_X_product_9 fu 0 m2 J) (konT fu m3 w1)) (OUT T d t0 xs0 ps0) := by
  intro m
  induction m with
  | zero => intro m2 m3 w1 w2 t it I J _ _ _; exact par2_nl
  | succ m ih =>
    intro m2 m3 w1 w2 t it I J h hw0 hw2
    cases m2 with
    | zero => intro x I' y J' e1 e2; cases e2
    | succ m2 =>
    have h0 := h
    obtain ⟨k, hk, h1, h2, h3, hps, h5, h6⟩ := h0
    have hps0 := hps
    obtain ⟨ho, hc, hj, ht, hx, hp⟩ := hps0
    have hn := ho.1.2.1
    have hkd := okt_k ho ht
    obtain ⟨a0, a2, a3, a4, a5, a6, a7, aU, aS, aE⟩ := tm_all (s := T.s) hkd.1
    have e142 := aS 142 (by omega)
    have e143 := aS 143 (by omega)
    have e145 := aS 145 (by omega)
    have e147 := aS 147 (by omega)
    have hK := hc.2.1
    have h10 := hc.2.2.2.1
    have hJ := hj.2.2.2.2.1
    rw [← hJ] at e142 e143 e145 e147
    have hlx := hx
    have hlp := hp
    rw [List.length_append] at hlx hlp
    have hwb : 0 ≤ w2 ∧ w2 < 400 := by omega
    by_cases c42 : T.K t = 42
    · -- times
      have htn : t < T.n := by have := hkd.2.1; omega
      rw [cs_times (hK.trans c42) hwb h10, xp_times (e142.mpr (by omega)), zb_assoc]
      refine par2_bl (ct_adv fu ho hc htn) (fun _ I1 c1 => par2_br (jt_next fu ho hj htn) (fun _ J1 j1 => ?_))
      rw [zb_assoc]
      have ps1 : PSt T d (t + 1) (xs0 ++ enc it) (ps0 ++ it) I1 J1 := ⟨ho, c1, j1, htn, by omega, by omega⟩
      refine par2_b (unit2 fu ps1) (fun _ I2 y J2 _ _ ou => ?_)
      rcases ou with ⟨ey, t2, it2, g1, g2, g3, g4⟩ | ⟨ey, bd⟩
      · rw [if_neg (by omega), zb_assoc]
        obtain ⟨_, c2, j2, ht2, hx2, hp2⟩ := g4
        have l2 := hx2
        have lp2 := hp2
        rw [List.length_append, List.length_append] at l2 lp2
        refine par2_bl (ct_add fu (-3) c2 (by rw [List.length_append, List.length_append]; omega)) (fun _ I3 c3 => par2_br (jt_lay fu 14 0 j2 (by rw [List.length_append, List.length_append]; omega)) (fun _ J3 j3 => ?_))
        have en : enc (it ++ (it2 ++ [(14, 0)])) = enc it ++ (enc it2 ++ [-3]) := by rw [enc_app, enc_app, enc_one]; rfl
        refine ih m2 m3 w1 (w2 + 1) t2 (it ++ (it2 ++ [(14, 0)])) I3 J3 ⟨k, hk, by omega, ?_, ?_, ⟨ho, ?_, ?_, ht2, ?_, ?_⟩, h5, h6⟩ (by omega) (by omega)
        · rw [en]; simp only [List.length_append, List.length_cons, List.length_nil]; omega
        · simp only [List.length_append, List.length_cons, List.length_nil]; omega
        · rw [en]; simpa only [List.append_assoc] using c3
        · simpa only [List.append_assoc] using j3
        · rw [en]; simp only [List.length_append, List.length_cons, List.length_nil]; omega
        · simp only [List.length_append, List.length_cons, List.length_nil]; omega
      · subst ey
        rw [if_pos rfl]
        refine kon_0 (par_zb (sk_add fu _ I2) (fun _ I3 f3 => par_mono (sk_sum8 fu m w1 _ I3 (fst_n f3 (bd_n bd))) (fun _ I4 f4 => out_bad (bd_fst bd (fst_t f3 f4)))))
    by_cases c47 : T.K t = 47
    · -- part
      have htn : t < T.n := by have := hkd.2.1; omega
      rw [cs_part (hK.trans c47) hwb h10, xp_part (e147.mpr (by omega)), zb_assoc]
      refine par2_bl (ct_adv fu ho hc htn) (fun _ I1 c1 => par2_br (jt_next fu ho hj htn) (fun _ J1 j1 => ?_))
      rw [zb_assoc]
      have ps1 : PSt T d (t + 1) (xs0 ++ enc it) (ps0 ++ it) I1 J1 := ⟨ho, c1, j1, htn, by omega, by omega⟩
      refine par2_b (div2 fu ps1 (by rw [List.length_append]; omega)) (fun _ I2 y J2 _ _ ou => ?_)
      rcases ou with ⟨ey, v, ev, c2, ht2, j2⟩ | ⟨ey, bd⟩
      · rw [if_neg (by omega), zb_assoc, ev]
        refine par2_br (jt_lay fu 15 v j2 (by rw [List.length_append]; omega)) (fun _ J3 j3 => ?_)
        have en : enc (it ++ [(15, v)]) = enc it ++ [v, -4] := by rw [enc_app, enc_one]; rfl
        refine ih m2 m3 w1 (w2 + 1) (t + 1 + 1) (it ++ [(15, v)]) I2 J3 ⟨k, hk, by omega, ?_, ?_, ⟨ho, ?_, ?_, ht2, ?_, ?_⟩, h5, h6⟩ (by omega) (by omega)
        · rw [en]; simp only [List.length_append, List.length_cons, List.length_nil]; omega
        · simp only [List.length_append, List.length_cons, List.length_nil]; omega
        · rw [en]; simpa only [List.append_assoc] using c2
        · simpa only [List.append_assoc] using j3
        · rw [en]; simp only [List.length_append, List.length_cons, List.length_nil]; omega
        · simp only [List.length_append, List.length_cons, List.length_nil]; omega
      · subst ey
        rw [if_pos rfl]
        refine kon_0 (par_mono (sk_sum8 fu m w1 _ I2 (bd_n bd)) (fun _ I4 f4 => out_bad (bd_fst bd f4)))
    rw [xp_end (fun x => c42 (by have := e142.mp x; omega)) (fun x => c47 (by have := e147.mp x; omega))]
    show par2 _ (konT fu m3 w1 1 J) _
    unfold konT
    rw [if_neg (by decide)]
    by_cases cpm : T.K t = 43 ∨ T.K t = 45
    · -- plus, minus
      have htn : t < T.n := by have := hkd.2.1; omega
      obtain ⟨how, hhow⟩ : ∃ how : Int, (T.K t = 43 ∧ how = -1) ∨ (T.K t = 45 ∧ how = -2) := by
        rcases cpm with q | q
        · exact ⟨-1, Or.inl ⟨q, rfl⟩⟩
        · exact ⟨-2, Or.inr ⟨q, rfl⟩⟩
      rw [cs_go how (by rw [hK]; exact hhow) hwb h10]
      have go : ∀ (it' : List (Int × Int)) (I1 J1 : IMem) (m3 : Nat), CTk T (t + 1) (xs0 ++ enc it') I1 → JTk T d t (ps0 ++ it') J1 → (enc it').length + t0 ≤ t → it'.length + t0 ≤ t → par2 (zb (f_R_readUnit fu 144 I1) fun _ I20 => f_R_readSum_8 fu (kSum fu) 144 m how (w2 + 1) I20) (f_X_sumUp_9 fu 0 m3 J1) (OUT T d t0 xs0 ps0) := by
        intro it' I1 J1 m3 c1 j1 l1 l2
        cases m3 with
        | zero => exact par2_nr
        | succ m3 =>
        rw [xs_go (if how = -1 then 12 else 13) (by
          have hJ1 := j1.2.2.2.2.1
          rw [hJ1, ← hJ]
          rcases hhow with ⟨q, e⟩ | ⟨q, e⟩
          · exact Or.inl ⟨e143.mpr (by omega), if_pos e⟩
          · exact Or.inr ⟨e145.mpr (by omega), if_neg (by omega)⟩)]
        refine par2_br (jt_next fu ho j1 htn) (fun _ J2 j2 => ?_)
        unfold f_X_product
        rw [zb_assoc]
        have ps2 : PSt T d (t + 1) (xs0 ++ enc it') (ps0 ++ it') I1 J2 := ⟨ho, c1, j2, htn, by rw [List.length_append]; omega, by rw [List.length_append]; omega⟩
        refine par2_b (unit2 fu ps2) (fun _ I3 y J3 _ _ ou => ?_)
        rcases ou with ⟨ey, t2, it2, g1, g2, g3, g4⟩ | ⟨ey, bd⟩
        · rw [if_neg (by omega)]
          have hkon : (fun (y12 : Int) (I13 : IMem) => if y12 = 0 then zr 0 I13 else zb (f_X_lay fu 0 (if how = -1 then 12 else 13) 0 I13) fun _ I16 => f_X_sumUp_9 fu 0 m3 I16) = konT fu m3 how := by
            unfold konT
            funext y12 I13
            rw [if_neg (c := how = 0) (by omega)]
          rw [hkon]
          have en : enc (it' ++ it2) = enc it' ++ enc it2 := enc_app _ _
          refine ih fu m3 how (w2 + 1) t2 (it' ++ it2) I3 J3 ⟨1, Or.inr ⟨by omega, rfl⟩, by omega, ?_, ?_, ?_, h5, h6⟩ (by omega) (by omega)
          · rw [en, List.length_append]; omega
          · rw [List.length_append]; omega
          · rw [en, ← List.append_assoc, ← List.append_assoc]; exact g4
        · subst ey
          rw [if_pos rfl]
          show par2 _ (zr 0 J3) _
          exact par2_l (par_mono (sk_sum8 fu m _ _ I3 (bd_n bd)) (fun _ I4 f4 => out_bad (bd_fst bd f4)))
      refine par2_bl (ct_adv fu ho hc htn) (fun _ I1 c1 => ?_)
      by_cases hw : w1 = 0
      · rw [if_pos hw, if_pos hw]
        exact go it I1 J m3 c1 hj (by omega) (by omega)
      · rw [if_neg hw, if_neg hw]
        rcases hk with ⟨e, _⟩ | ⟨e, ek⟩
        · exact absurd e hw
        have gl := lay_w (xs := xs0 ++ enc it) (ps := ps0 ++ it) fu w1 e ho c1 (by rw [List.length_append]; omega) hj (by rw [List.length_append]; omega)
        have hl := wt_len (w1 := w1) (it := it)
        refine par2_bl gl.1 (fun _ I2 c2 => par2_br gl.2 (fun _ J2 j2 => ?_))
        refine go (it ++ [((if w1 = -1 then (12 : Int) else 13), 0)]) I2 J2 m3 ?_ ?_ ?_ ?_
        · rw [enc_app, ← List.append_assoc]; exact c2
        · rw [← List.append_assoc]; exact j2
        · rw [enc_app, List.length_append, hl.1]; omega
        · rw [List.length_append, hl.2]; omega
    · -- the end
      rw [cs_end (by rw [hK]; exact c42) (by rw [hK]; exact c47) (by rw [hK]; exact fun x => cpm (Or.inl x)) (by rw [hK]; exact fun x => cpm (Or.inr x)) hwb h10]
      unfold kSum
      have fin : ∀ (m3 : Nat) (J1 : IMem), J1 0 14 = J 0 14 → f_X_sumUp_9 fu 0 m3 J1 = none ∨ f_X_sumUp_9 fu 0 m3 J1 = zr 1 J1 := by
        intro m3 J1 e
        cases m3 with
        | zero => exact Or.inl rfl
        | succ m3 => exact Or.inr (xs_end (by rw [e]; exact fun x => cpm (Or.inl (by have := e143.mp x; omega))) (by rw [e]; exact fun x => cpm (Or.inr (by have := e145.mp x; omega))))
      by_cases hw : w1 = 0
      · rw [if_pos hw, if_pos hw]
        rcases fin m3 J rfl with e | e
        · rw [e]; exact par2_nr
        · rw [e]
          exact par2_end (Or.inl ⟨rfl, t, it, h1, by omega, by omega, hps⟩)
      · rw [if_neg hw, if_neg hw]
        obtain ⟨it', p1, p2, l1, l2⟩ := lp_lay fu hw h
        refine par2_bl p1 (fun _ I2 c2 => par2_br p2 (fun _ J2 j2 => ?_))
        rcases fin m3 J2 (j2.2.2.2.2.1.trans hJ.symm) with e | e
        · rw [e]; exact par2_nr
        · rw [e]
          exact par2_end (Or.inl ⟨rfl, t, it', h1, l1, l2, ho, c2, j2, ht, by rw [List.length_append]; omega, by rw [List.length_append]; omega⟩)
theorem sum2 {T : TXT} {d : Int} {t : Nat} {xs : List Int} {ps : List (Int × Int)} {I J : IMem} (fu : Nat) (h : PSt T d t xs ps I J) : par2 (f_R_readSum fu 144 I) (f_X_sumUp fu 0 J) (OUT T d t xs ps) := by
  unfold f_R_readSum f_X_sumUp f_X_product
  rw [zb_assoc]
  refine par2_b (unit2 fu h) (fun _ I1 y J1 _ _ ou => ?_)
  rcases ou with ⟨ey, t2, it2, g1, g2, g3, g4⟩ | ⟨ey, bd⟩
  · rw [if_neg (by omega)]
    have hkon : (fun (y1 : Int) (I2 : IMem) => if y1 = 0 then zr 0 I2 else f_X_sumUp_9 fu 0 fu I2) = konT fu fu 0 := by
      unfold konT
      funext y1 I2
      rw [if_pos (c := (0 : Int) = 0) rfl]
    rw [hkon]
    exact sum8 fu fu fu fu 0 0 t2 it2 I1 J1 ⟨0, Or.inl ⟨rfl, rfl⟩, g1, by omega, by omega, g4, h.2.2.2.2.1, h.2.2.2.2.2⟩ (by omega) (by omega)
  · subst ey
    rw [if_pos rfl]
    show par2 _ (zr 0 J1) _
    exact par2_l (par_mono (sk_sum8 fu fu _ _ I1 (bd_n bd)) (fun _ I4 f4 => out_bad (bd_fst bd f4)))
