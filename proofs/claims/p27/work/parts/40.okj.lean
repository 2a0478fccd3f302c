/-! safety: the shallow functions are defined (by program, with hints for the loops) -/
def sat (x : Res) (Q : Int → IMem → Prop) : Prop := ∃ v I, x = some (v, I) ∧ Q v I
theorem sat_zr {Q : Int → IMem → Prop} {v : Int} {I : IMem} (h : Q v I) : sat (zr v I) Q := ⟨v, I, rfl, h⟩
theorem sat_zl {Q : Int → IMem → Prop} {v : Int} {k : Int → Res} (hv : inr v) (h : ∀ x, x = v → -2147483648 ≤ x → x < 2147483648 → sat (k x) Q) : sat (zl v k) Q := h v rfl hv.1 hv.2
theorem sat_zw {Q : Int → IMem → Prop} {I : IMem} {o j : Nat} {v : Int} {k : IMem → Res} (hI : RG I) (hv : inr v) (h : ∀ I1 : IMem, (∀ p i, I1 p i = if p = o ∧ i = j then v else I p i) → RG I1 → sat (k I1) Q) : sat (zw I o j v k) Q := h _ (fun _ _ => rfl) (hI.up hv)
theorem sat_zc {Q : Int → IMem → Prop} {I : IMem} {o0 o1 : Nat} {sp dp n : Int} {k : IMem → Res} (hI : RG I) (h : ∀ I1 : IMem, (∀ p i, I1 p i = if p = o1 ∧ dp.toNat ≤ i ∧ i < dp.toNat + n.toNat then I o0 (sp.toNat + (i - dp.toNat)) else I p i) → RG I1 → sat (k I1) Q) : sat (zc I o0 sp o1 dp n k) Q := h _ (fun _ _ => rfl) hI.cpy
theorem sat_zg {Q : Int → IMem → Prop} {c : Prop} [Decidable c] {k : Res} (hc : c) (h : c → sat k Q) : sat (zg c k) Q := by
  unfold zg
  rw [if_pos hc]
  exact h hc
theorem sat_ite {Q : Int → IMem → Prop} {c : Prop} [Decidable c] {A B : Res} (h1 : c → sat A Q) (h2 : ¬ c → sat B Q) : sat (if c then A else B) Q := by
  by_cases h : c
  · rw [if_pos h]; exact h1 h
  · rw [if_neg h]; exact h2 h
theorem sat_zb {Q1 Q : Int → IMem → Prop} {m : Res} {k : Int → IMem → Res} (h1 : sat m Q1) (h2 : ∀ v I, m = some (v, I) → Q1 v I → sat (k v I) Q) : sat (zb m k) Q := by
  obtain ⟨v, I, e, q⟩ := h1
  unfold zb
  rw [e]
  exact h2 v I e q
theorem sat_zj {Q : Int → IMem → Prop} {α : Type} {K : α} {M : α → Res} (h : ∀ k, k = K → sat (M k) Q) : sat (zj K M) Q := h K rfl
theorem sat_mono {Q1 Q : Int → IMem → Prop} {m : Res} (h1 : sat m Q1) (h : ∀ v I, Q1 v I → Q v I) : sat m Q := by
  obtain ⟨v, I, e, q⟩ := h1
  exact ⟨v, I, e, h v I q⟩
theorem wr32_i2 {x : Int} (h1 : -2147483648 ≤ x) (h2 : x < 2147483648) : wr32 x = x := wr32_id ⟨h1, h2⟩
def CI (I : IMem) (c : Nat) : Prop := ∀ l : Nat, l < 6 → 0 ≤ I c l ∧ I c l ≤ 40
def GC (I : IMem) : Prop := RG I ∧ CI I 9 ∧ CI I 49 ∧ CI I 90
theorem ci_up {I : IMem} {o j c : Nat} {v : Int} (h : CI I c) (ho : o ≠ c ∨ (0 ≤ v ∧ v ≤ 40)) : CI (up I o j v) c := by
  intro l hl
  show 0 ≤ (if c = o ∧ l = j then v else I c l) ∧ (if c = o ∧ l = j then v else I c l) ≤ 40
  split
  · rename_i q
    exact ho.elim (fun e => absurd q.1.symm e) id
  · exact h l hl
theorem gc_up {I : IMem} {o j : Nat} {v : Int} (h : GC I) (hv : inr v) (ho : (o ≠ 9 ∧ o ≠ 49 ∧ o ≠ 90) ∨ (0 ≤ v ∧ v ≤ 40)) : GC (up I o j v) :=
  ⟨h.1.up hv, ci_up h.2.1 (ho.imp (fun q => q.1) id), ci_up h.2.2.1 (ho.imp (fun q => q.2.1) id), ci_up h.2.2.2 (ho.imp (fun q => q.2.2) id)⟩
theorem ci_cpy {I : IMem} {o0 sp o1 dp n c : Nat} (h : CI I c) (ho : o1 ≠ c ∨ (CI I o0 ∧ sp = dp ∧ dp + n ≤ 6)) : CI (cpy I o0 sp o1 dp n) c := by
  intro l hl
  show 0 ≤ (if c = o1 ∧ dp ≤ l ∧ l < dp + n then I o0 (sp + (l - dp)) else I c l) ∧ (if c = o1 ∧ dp ≤ l ∧ l < dp + n then I o0 (sp + (l - dp)) else I c l) ≤ 40
  split
  · rename_i q
    rcases ho with e | ⟨h0, e, h1⟩
    · exact absurd q.1.symm e
    · exact h0 _ (by omega)
  · exact h l hl
theorem gc_cpy {I : IMem} {o0 o1 : Nat} {sp dp n : Int} (h : GC I) (ho : (o1 ≠ 9 ∧ o1 ≠ 49 ∧ o1 ≠ 90) ∨ ((o0 = 9 ∨ o0 = 49 ∨ o0 = 90) ∧ sp = dp ∧ 0 ≤ dp ∧ 0 ≤ n ∧ dp + n ≤ 6)) : GC (cpy I o0 sp.toNat o1 dp.toNat n.toNat) := by
  have key : ∀ c, c = 9 ∨ c = 49 ∨ c = 90 → CI I c → CI (cpy I o0 sp.toNat o1 dp.toNat n.toNat) c := by
    intro c hc hcc
    refine ci_cpy hcc ?_
    rcases ho with ho | ⟨h0, e, h1, h2, h3⟩
    · exact Or.inl (by omega)
    · refine Or.inr ⟨?_, by omega, by omega⟩
      rcases h0 with rfl | rfl | rfl
      · exact h.2.1
      · exact h.2.2.1
      · exact h.2.2.2
  exact ⟨h.1.cpy, key 9 (Or.inl rfl) h.2.1, key 49 (Or.inr (Or.inl rfl)) h.2.2.1, key 90 (Or.inr (Or.inr rfl)) h.2.2.2⟩
theorem ci_at {I : IMem} {o l : Nat} (h : GC I) (ho : o = 7 ∨ o = 47 ∨ o = 88) (hl : l < 6) : 0 ≤ I (o + 2) l ∧ I (o + 2) l ≤ 40 := by
  rcases ho with rfl | rfl | rfl
  · exact h.2.1 l hl
  · exact h.2.2.1 l hl
  · exact h.2.2.2 l hl
theorem sat_zwC {Q : Int → IMem → Prop} {I : IMem} {o j : Nat} {v : Int} {k : IMem → Res} (hI : GC I) (hv : inr v) (ho : (o ≠ 9 ∧ o ≠ 49 ∧ o ≠ 90) ∨ (0 ≤ v ∧ v ≤ 40)) (h : ∀ I1 : IMem, (∀ p i, I1 p i = if p = o ∧ i = j then v else I p i) → GC I1 → sat (k I1) Q) : sat (zw I o j v k) Q := h _ (fun _ _ => rfl) (gc_up hI hv ho)
theorem sat_zcC {Q : Int → IMem → Prop} {I : IMem} {o0 o1 : Nat} {sp dp n : Int} {k : IMem → Res} (hI : GC I) (ho : (o1 ≠ 9 ∧ o1 ≠ 49 ∧ o1 ≠ 90) ∨ ((o0 = 9 ∨ o0 = 49 ∨ o0 = 90) ∧ sp = dp ∧ 0 ≤ dp ∧ 0 ≤ n ∧ dp + n ≤ 6)) (h : ∀ I1 : IMem, (∀ p i, I1 p i = if p = o1 ∧ dp.toNat ≤ i ∧ i < dp.toNat + n.toNat then I o0 (sp.toNat + (i - dp.toNat)) else I p i) → GC I1 → sat (k I1) Q) : sat (zc I o0 sp o1 dp n k) Q := h _ (fun _ _ => rfl) (gc_cpy hI ho)
theorem lz0 : ((lenJ.getD 0 0 : Nat) : Int) = 86 := by decide +kernel
theorem lz1 : ((lenJ.getD 1 0 : Nat) : Int) = 10 := by decide +kernel
theorem wdiv_i2 {a c : Int} (ha2 : a < 2147483648) (h0 : 0 ≤ a) (hc : 0 < c) (hc2 : c < 2147483648) : wdiv a c = a / c := by
  obtain ⟨x, rfl⟩ : ∃ x : Nat, a = (x : Int) := ⟨a.toNat, by omega⟩
  obtain ⟨z, rfl⟩ : ∃ z : Nat, c = (z : Int) := ⟨c.toNat, by omega⟩
  have h := Nat.div_le_self x z
  unfold wdiv
  rw [← nI_iv (by omega), ← nI_iv (by omega), pk_div (by omega) (by omega) (by omega)]
  show _ = ((x / z : Nat) : Int)
  generalize x / z = k at h ⊢
  exact nI_toInt (by omega)
theorem wrem_i2 {a c : Int} (ha2 : a < 2147483648) (h0 : 0 ≤ a) (hc : 0 < c) (hc2 : c < 2147483648) : wrem a c = a % c := by
  obtain ⟨x, rfl⟩ : ∃ x : Nat, a = (x : Int) := ⟨a.toNat, by omega⟩
  obtain ⟨z, rfl⟩ : ∃ z : Nat, c = (z : Int) := ⟨c.toNat, by omega⟩
  have h := Nat.mod_le x z
  unfold wrem
  rw [← nI_iv (by omega), ← nI_iv (by omega), pk_rem (by omega) (by omega) (by omega)]
  show _ = ((x % z : Nat) : Int)
  generalize x % z = k at h ⊢
  exact nI_toInt (by omega)
theorem ok_JA_fill_5 (fu : Nat) (o0 : Nat) (n0 : Nat) (p1 : Int) (p3 : Int) (hfu : 5000000000 < fu) (hn0 : n0 < 1000000) (qp1 : inr p1) (qp3 : inr p3) (h3 : p3 ≤ (n0 : Int)) {Q_ : Int → IMem → Prop} (hret : ∀ v I, inr v → RG I → (True) → sat (zr v I) Q_) : ∀ (m : Nat) (w2 : Int) (I0 : IMem), inr w2 → RG I0 → (0 ≤ w2) → (p3 - w2).toNat < m → sat (f_JA_fill_5 fu o0 n0 p1 p3 m w2 I0) Q_ := by
  intro m
  induction m with
  | zero => intro w2 I0 _ _ _ h0; exact absurd h0 (Nat.not_lt_zero _)
  | succ m hR_ =>
    intro w2 I0 ⟨aw2, bw2⟩ hRI0 hinv hmeas
    show sat (fb_JA_fill_5 fu o0 n0 p1 p3 (f_JA_fill_5 fu o0 n0 p1 p3 m) w2 I0) Q_
    unfold fb_JA_fill_5
    obtain ⟨ap1, bp1⟩ := qp1
    obtain ⟨ap3, bp3⟩ := qp3
    refine sat_ite (fun q_1 => ?_) (fun q_1 => ?_)
    · refine sat_zg (by first | omega | grind | grind [wr32]) (fun g_2 => ?_)
      refine sat_zw hRI0 ⟨ap1, bp1⟩ (fun I2 eI2 hRI2 => ?_)
      refine sat_zl (wr32_in _) (fun x3 hx3 ax3 bx3 => ?_)
      try simp (disch := omega) only [wr32_i2, wdiv_i2, wrem_i2] at hx3
      exact hR_ x3 I2 ⟨ax3, bx3⟩ hRI2 (by first | omega | (simp (disch := omega) only [wr32_i2, wdiv_i2, wrem_i2]; omega) | grind | grind [wr32]) (by first | omega | (simp (disch := omega) only [wr32_i2, wdiv_i2, wrem_i2]; omega) | grind | grind [wr32])
    · exact hret _ _ (lit_in rfl) hRI0 trivial
theorem ok_JA_fill (fu : Nat) (o0 n0 : Nat) (a1 : Int) (I0 : IMem) (hfu : 5000000000 < fu) (hRI0 : RG I0) (hn0 : n0 < 1000000) (qa1 : inr a1) : sat (f_JA_fill fu o0 n0 a1 I0) (fun v I => inr v ∧ RG I ∧ (True)) := by
  unfold f_JA_fill
  obtain ⟨aa1, ba1⟩ := qa1
  refine sat_zl (nat_in hn0) (fun x1 hx1 ax1 bx1 => ?_)
  refine ok_JA_fill_5 fu o0 n0 a1 x1 hfu (by omega) ⟨aa1, ba1⟩ ⟨ax1, bx1⟩ (by first | omega | (simp (disch := omega) only [wr32_i2, wdiv_i2, wrem_i2]; omega) | grind | grind [wr32]) (fun v I h1 h2 h3 => sat_zr ⟨h1, h2, (by first | exact trivial | exact h3 | grind)⟩) fu 0 I0 (lit_in rfl) hRI0 (by first | omega | (simp (disch := omega) only [wr32_i2, wdiv_i2, wrem_i2]; omega) | grind | grind [wr32]) (by first | omega | (simp (disch := omega) only [wr32_i2, wdiv_i2, wrem_i2]; omega) | grind | grind [wr32])
theorem ok_JL_canEncode (fu : Nat) (a0 : Int) (I0 : IMem) (hfu : 5000000000 < fu) (hRI0 : RG I0) (qa0 : inr a0) : sat (f_JL_canEncode fu a0 I0) (fun v I => inr v ∧ RG I ∧ (I = I0 ∧ (True))) := by
  unfold f_JL_canEncode
  obtain ⟨aa0, ba0⟩ := qa0
  refine sat_ite (fun q_1 => ?_) (fun q_1 => ?_)
  · exact sat_zr ⟨(lit_in rfl), hRI0, ⟨rfl, trivial⟩⟩
  · refine sat_ite (fun q_2 => ?_) (fun q_2 => ?_)
    · exact sat_zr ⟨(lit_in rfl), hRI0, ⟨rfl, trivial⟩⟩
    · exact sat_zr ⟨(lit_in rfl), hRI0, ⟨rfl, trivial⟩⟩
theorem ok_JL_indexOfChar_7 {Ib : IMem} (fu : Nat) (s0 : Nat) (p3 : Int) (p4 : Int) (hfu : 5000000000 < fu) (hs0 : s0 < 18) (qp3 : inr p3) (qp4 : inr p4) (h3 : p3 ≤ (lenJ.getD s0 0 : Nat)) {Q_ : Int → IMem → Prop} (hret : ∀ v I, inr v → RG I → (I = Ib ∧ (True)) → sat (zr v I) Q_) : ∀ (m : Nat) (w5 : Int) (I0 : IMem), inr w5 → RG I0 → (I0 = Ib ∧ (0 ≤ w5)) → (p3 - w5).toNat < m → sat (f_JL_indexOfChar_7 fu s0 p3 p4 m w5 I0) Q_ := by
  intro m
  induction m with
  | zero => intro w5 I0 _ _ _ h0; exact absurd h0 (Nat.not_lt_zero _)
  | succ m hR_ =>
    intro w5 I0 ⟨aw5, bw5⟩ hRI0 hinv hmeas
    have einv := hinv.1; replace hinv := hinv.2; subst einv
    show sat (fb_JL_indexOfChar_7 fu s0 p3 p4 (f_JL_indexOfChar_7 fu s0 p3 p4 m) w5 I0) Q_
    unfold fb_JL_indexOfChar_7
    obtain ⟨ap3, bp3⟩ := qp3
    obtain ⟨ap4, bp4⟩ := qp4
    refine sat_ite (fun q_1 => ?_) (fun q_1 => ?_)
    · refine sat_zg (by first | omega | grind | grind [wr32]) (fun g_2 => ?_)
      refine sat_ite (fun q_3 => ?_) (fun q_3 => ?_)
      · exact hret _ _ ⟨aw5, bw5⟩ hRI0 ⟨rfl, trivial⟩
      · refine sat_zl (wr32_in _) (fun x2 hx2 ax2 bx2 => ?_)
        try simp (disch := omega) only [wr32_i2, wdiv_i2, wrem_i2] at hx2
        exact hR_ x2 I0 ⟨ax2, bx2⟩ hRI0 ⟨rfl, (by first | omega | (simp (disch := omega) only [wr32_i2, wdiv_i2, wrem_i2]; omega) | grind | grind [wr32])⟩ (by first | omega | (simp (disch := omega) only [wr32_i2, wdiv_i2, wrem_i2]; omega) | grind | grind [wr32])
    · exact hret _ _ (lit_in rfl) hRI0 ⟨rfl, trivial⟩
theorem ok_JL_indexOfChar (fu : Nat) (s0 : Nat) (a1 : Int) (a2 : Int) (a3 : Int) (I0 : IMem) (hfu : 5000000000 < fu) (hRI0 : RG I0) (hs0 : s0 < 18) (qa1 : inr a1) (qa2 : inr a2) (qa3 : inr a3) (h2 : 0 ≤ a2) (h3 : a3 ≤ (lenJ.getD s0 0 : Nat)) : sat (f_JL_indexOfChar fu s0 a1 a2 a3 I0) (fun v I => inr v ∧ RG I ∧ (I = I0 ∧ (True))) := by
  unfold f_JL_indexOfChar
  obtain ⟨aa1, ba1⟩ := qa1
  obtain ⟨aa2, ba2⟩ := qa2
  obtain ⟨aa3, ba3⟩ := qa3
  refine sat_zl (wi2b_in _) (fun x1 hx1 ax1 bx1 => ?_)
  refine ok_JL_indexOfChar_7 (Ib := I0) fu s0 a3 x1 hfu (by omega) ⟨aa3, ba3⟩ ⟨ax1, bx1⟩ (by first | omega | (simp (disch := omega) only [wr32_i2, wdiv_i2, wrem_i2]; omega) | grind | grind [wr32]) (fun v I h1 h2 h3 => sat_zr ⟨h1, h2, ⟨h3.1, (by have h4 := h3.2; first | exact trivial | exact h4 | omega | grind)⟩⟩) fu a2 I0 ⟨aa2, ba2⟩ hRI0 ⟨rfl, (by first | omega | (simp (disch := omega) only [wr32_i2, wdiv_i2, wrem_i2]; omega) | grind | grind [wr32])⟩ (by first | omega | (simp (disch := omega) only [wr32_i2, wdiv_i2, wrem_i2]; omega) | grind | grind [wr32])
theorem ok_JM_max (fu : Nat) (a0 : Int) (a1 : Int) (I0 : IMem) (hfu : 5000000000 < fu) (hRI0 : RG I0) (qa0 : inr a0) (qa1 : inr a1) : sat (f_JM_max fu a0 a1 I0) (fun v I => inr v ∧ RG I ∧ (I = I0 ∧ (v = (if a0 < a1 then a1 else a0)))) := by
  unfold f_JM_max
  obtain ⟨aa0, ba0⟩ := qa0
  obtain ⟨aa1, ba1⟩ := qa1
  refine sat_ite (fun q_1 => ?_) (fun q_1 => ?_)
  · exact sat_zr ⟨⟨aa1, ba1⟩, hRI0, ⟨rfl, (by first | omega | (simp (disch := omega) only [wr32_i2, wdiv_i2, wrem_i2]; omega) | grind | grind [wr32])⟩⟩
  · exact sat_zr ⟨⟨aa0, ba0⟩, hRI0, ⟨rfl, (by first | omega | (simp (disch := omega) only [wr32_i2, wdiv_i2, wrem_i2]; omega) | grind | grind [wr32])⟩⟩
theorem ok_JM_min (fu : Nat) (a0 : Int) (a1 : Int) (I0 : IMem) (hfu : 5000000000 < fu) (hRI0 : RG I0) (qa0 : inr a0) (qa1 : inr a1) : sat (f_JM_min fu a0 a1 I0) (fun v I => inr v ∧ RG I ∧ (I = I0 ∧ (v = (if a0 < a1 then a0 else a1)))) := by
  unfold f_JM_min
  obtain ⟨aa0, ba0⟩ := qa0
  obtain ⟨aa1, ba1⟩ := qa1
  refine sat_ite (fun q_1 => ?_) (fun q_1 => ?_)
  · exact sat_zr ⟨⟨aa1, ba1⟩, hRI0, ⟨rfl, (by first | omega | (simp (disch := omega) only [wr32_i2, wdiv_i2, wrem_i2]; omega) | grind | grind [wr32])⟩⟩
  · exact sat_zr ⟨⟨aa0, ba0⟩, hRI0, ⟨rfl, (by first | omega | (simp (disch := omega) only [wr32_i2, wdiv_i2, wrem_i2]; omega) | grind | grind [wr32])⟩⟩
theorem ok_JL_indexOf (fu : Nat) (s0 : Nat) (a1 : Int) (a2 : Int) (a3 : Int) (I0 : IMem) (hfu : 5000000000 < fu) (hRI0 : RG I0) (hs0 : s0 < 18) (qa1 : inr a1) (qa2 : inr a2) (qa3 : inr a3) : sat (f_JL_indexOf fu s0 a1 a2 a3 I0) (fun v I => inr v ∧ RG I ∧ (I = I0 ∧ (True))) := by
  unfold f_JL_indexOf
  obtain ⟨aa1, ba1⟩ := qa1
  obtain ⟨aa2, ba2⟩ := qa2
  obtain ⟨aa3, ba3⟩ := qa3
  refine sat_zb (ok_JL_canEncode fu a1 I0 hfu hRI0 ⟨aa1, ba1⟩) (fun y1 I2 c_1 ⟨⟨ay1, by1⟩, _, pI2⟩ => ?_)
  have eI2 := pI2.1.symm; replace pI2 := pI2.2; subst eI2
  refine sat_ite (fun q_2 => ?_) (fun q_2 => ?_)
  · exact sat_zr ⟨(lit_in rfl), hRI0, ⟨rfl, trivial⟩⟩
  · refine sat_zb (ok_JM_max fu a2 0 I0 hfu hRI0 ⟨aa2, ba2⟩ (lit_in rfl)) (fun y4 I5 c_3 ⟨⟨ay4, by4⟩, _, pI5⟩ => ?_)
    have eI5 := pI5.1.symm; replace pI5 := pI5.2; subst eI5
    refine sat_zb (ok_JM_min fu a3 ((lenJ.getD s0 0 : Nat)) I0 hfu hRI0 ⟨aa3, ba3⟩ (lenJ_in (by omega))) (fun y7 I8 c_4 ⟨⟨ay7, by7⟩, _, pI8⟩ => ?_)
    have eI8 := pI8.1.symm; replace pI8 := pI8.2; subst eI8
    refine sat_ite (fun q_5 => ?_) (fun q_5 => ?_)
    · refine sat_zb (ok_JL_indexOfChar fu s0 a1 y4 y7 I0 hfu hRI0 (by omega) ⟨aa1, ba1⟩ ⟨ay4, by4⟩ ⟨ay7, by7⟩ (by first | omega | (simp (disch := omega) only [wr32_i2, wdiv_i2, wrem_i2]; omega) | grind | grind [wr32]) (by first | omega | (simp (disch := omega) only [wr32_i2, wdiv_i2, wrem_i2]; omega) | grind | grind [wr32])) (fun y10 I11 c_6 ⟨⟨ay10, by10⟩, _, pI11⟩ => ?_)
      have eI11 := pI11.1.symm; replace pI11 := pI11.2; subst eI11
      exact sat_zr ⟨⟨ay10, by10⟩, hRI0, ⟨rfl, trivial⟩⟩
    · exact sat_zr ⟨(lit_in rfl), hRI0, ⟨rfl, trivial⟩⟩
theorem ok_JS_isLatin1 (fu : Nat) (s0 : Nat) (I0 : IMem) (hfu : 5000000000 < fu) (hRI0 : RG I0) (hs0 : s0 < 18) : sat (f_JS_isLatin1 fu s0 I0) (fun v I => inr v ∧ RG I ∧ (I = I0 ∧ (v = 1))) := by
  unfold f_JS_isLatin1
  exact sat_zr ⟨(lit_in rfl), hRI0, ⟨rfl, (by first | omega | (simp (disch := omega) only [wr32_i2, wdiv_i2, wrem_i2]; omega) | grind | grind [wr32])⟩⟩
theorem ok_JS_coder (fu : Nat) (s0 : Nat) (I0 : IMem) (hfu : 5000000000 < fu) (hRI0 : RG I0) (hs0 : s0 < 18) : sat (f_JS_coder fu s0 I0) (fun v I => inr v ∧ RG I ∧ (I = I0 ∧ (v = 0))) := by
  unfold f_JS_coder
  exact sat_zr ⟨(lit_in rfl), hRI0, ⟨rfl, (by first | omega | (simp (disch := omega) only [wr32_i2, wdiv_i2, wrem_i2]; omega) | grind | grind [wr32])⟩⟩
theorem wshr_0 {x : Int} (h : inr x) : wshr x 0 = x := by
  unfold wshr
  have e : (iv x >>> (iv 0 &&& 31)) = iv x := by
    have e0 : (iv 0 &&& 31) = 0 := by decide +kernel
    rw [e0]
    exact Int32.shiftRight_zero
  rw [e, iv_toInt h]
theorem ok_JS_length (fu : Nat) (s0 : Nat) (I0 : IMem) (hfu : 5000000000 < fu) (hRI0 : RG I0) (hs0 : s0 < 18) : sat (f_JS_length fu s0 I0) (fun v I => inr v ∧ RG I ∧ (I = I0 ∧ (v = (lenJ.getD s0 0 : Nat)))) :=
  ⟨_, _, rfl, wshr_in _ _, hRI0, rfl, wshr_0 (lenJ_in hs0)⟩
theorem wand_255 (a : Int) : 0 ≤ wand a 255 ∧ wand a 255 < 256 := by
  have h1 : (iv a &&& iv 255).toBitVec.toNat < 2 ^ 8 := by
    rw [Int32.toBitVec_and, BitVec.toNat_and]
    exact Nat.and_lt_two_pow _ (by decide)
  unfold wand
  have h2 : (iv a &&& iv 255).toInt = ((iv a &&& iv 255).toBitVec.toNat : Int) := by
    show (iv a &&& iv 255).toBitVec.toInt = _
    rw [BitVec.toInt_eq_toNat_of_lt (by omega)]
  omega
theorem wi2c_rng (a : Int) : 0 ≤ wi2c a ∧ wi2c a < 65536 := by
  unfold wi2c
  have h1 : ((iv a).toUInt32 % 65536).toNat < 65536 := by
    rw [UInt32.toNat_mod]
    exact Nat.mod_lt _ (by decide)
  have h2 : ((iv a).toUInt32 % 65536).toInt32.toInt = (((iv a).toUInt32 % 65536).toNat : Int) := by
    show ((iv a).toUInt32 % 65536).toBitVec.toInt = _
    rw [BitVec.toInt_eq_toNat_of_lt (by show 2 * ((iv a).toUInt32 % 65536).toNat < _; omega)]
    rfl
  omega
theorem ch_rng (i j : Nat) : 0 ≤ wi2c (wand (bytZ i j) 255) ∧ wi2c (wand (bytZ i j) 255) < 65536 := wi2c_rng _
theorem fm60 {a : Int} (h : inr a) : -60 < wrem a 60 ∧ wrem a 60 < 60 ∧ (0 ≤ a → 0 ≤ wrem a 60) ∧ (a < 0 → wrem a 60 ≤ 0) ∧ (wxor a 60 < 0 ↔ a < 0) := by
  have hx : wxor a 60 < 0 ↔ a < 0 := by
    unfold wxor
    have e1 : (iv a ^^^ iv 60).toInt = (iv a ^^^ iv 60).toBitVec.toInt := rfl
    have e2 : (iv a).toInt = (iv a).toBitVec.toInt := rfl
    have m1 := BitVec.msb_eq_toInt (x := (iv a ^^^ iv 60).toBitVec)
    have m2 := BitVec.msb_eq_toInt (x := (iv a).toBitVec)
    rw [Int32.toBitVec_xor, BitVec.msb_xor, show (iv 60).toBitVec.msb = false by decide +kernel, Bool.xor_false, m2] at m1
    have hlt : a < 0 ↔ (iv a).toBitVec.toInt < 0 := by rw [← e2, iv_toInt h]
    rw [e1, hlt, Int32.toBitVec_xor]
    exact (decide_eq_decide.mp m1).symm
  have hd : (iv a / iv 60).toInt = a.tdiv 60 := by
    rw [Int32.toInt_div, iv_toInt h, iv_toInt ⟨by decide, by decide⟩]
    unfold inr at h
    have h1 : -2147483648 ≤ a.tdiv 60 ∧ a.tdiv 60 < 2147483648 := by
      rcases Int.le_total 0 a with h0 | h0
      · rw [Int.tdiv_eq_ediv_of_nonneg h0]; omega
      · obtain ⟨c, rfl⟩ : ∃ c, a = -c := ⟨-a, by omega⟩
        rw [Int.neg_tdiv, Int.tdiv_eq_ediv_of_nonneg (by omega)]; omega
    unfold Int.bmod
    simp only []
    omega
  have hr : wrem a 60 = a - a.tdiv 60 * 60 := by
    unfold wrem
    have e : iv a / iv 60 = iv (a.tdiv 60) := by rw [← hd]; exact (iv_of _).symm
    unfold inr at h
    rw [e, iv_mul, iv_sub, iv_toInt (wr32_in _)]
    rcases Int.le_total 0 a with h0 | h0
    · rw [Int.tdiv_eq_ediv_of_nonneg h0]
      rw [wr32_i2 (x := a / 60 * 60) (by omega) (by omega), wr32_i2 (by omega) (by omega)]
    · obtain ⟨c, rfl⟩ : ∃ c, a = -c := ⟨-a, by omega⟩
      rw [Int.neg_tdiv, Int.tdiv_eq_ediv_of_nonneg (by omega)]
      rw [wr32_i2 (x := -(c / 60) * 60) (by omega) (by omega), wr32_i2 (by omega) (by omega)]
  refine ⟨?_, ?_, ?_, ?_, hx⟩
  all_goals
    rw [hr]
    rcases Int.le_total 0 a with h0 | h0
    · rw [Int.tdiv_eq_ediv_of_nonneg h0]; omega
    · obtain ⟨c, rfl⟩ : ∃ c, a = -c := ⟨-a, by omega⟩
      rw [Int.neg_tdiv, Int.tdiv_eq_ediv_of_nonneg (by omega)]; omega
theorem ok_JS_indexOf_1 (fu : Nat) (s0 : Nat) (a1 : Int) (a2 : Int) (I0 : IMem) (hfu : 5000000000 < fu) (hRI0 : RG I0) (hs0 : s0 < 18) (qa1 : inr a1) (qa2 : inr a2) : sat (f_JS_indexOf_1 fu s0 a1 a2 I0) (fun v I => inr v ∧ RG I ∧ (I = I0 ∧ (True))) := by
  unfold f_JS_indexOf_1
  obtain ⟨aa1, ba1⟩ := qa1
  obtain ⟨aa2, ba2⟩ := qa2
  refine sat_zb (ok_JS_isLatin1 fu s0 I0 hfu hRI0 (by omega)) (fun y1 I2 c_1 ⟨⟨ay1, by1⟩, _, pI2⟩ => ?_)
  have eI2 := pI2.1.symm; replace pI2 := pI2.2; subst eI2
  refine sat_ite (fun q_2 => ?_) (fun q_2 => ?_)
  · refine sat_zb (ok_JS_length fu s0 I0 hfu hRI0 (by omega)) (fun y4 I5 c_3 ⟨⟨ay4, by4⟩, _, pI5⟩ => ?_)
    have eI5 := pI5.1.symm; replace pI5 := pI5.2; subst eI5
    have ly4 := lz0; have my4 := lz1
    exfalso
    first | omega | grind
  · refine sat_zb (ok_JS_length fu s0 I0 hfu hRI0 (by omega)) (fun y7 I8 c_4 ⟨⟨ay7, by7⟩, _, pI8⟩ => ?_)
    have eI8 := pI8.1.symm; replace pI8 := pI8.2; subst eI8
    have ly7 := lz0; have my7 := lz1
    refine sat_zb (ok_JL_indexOf fu s0 a1 a2 y7 I0 hfu hRI0 (by omega) ⟨aa1, ba1⟩ ⟨aa2, ba2⟩ ⟨ay7, by7⟩) (fun y10 I11 c_5 ⟨⟨ay10, by10⟩, _, pI11⟩ => ?_)
    have eI11 := pI11.1.symm; replace pI11 := pI11.2; subst eI11
    exact sat_zr ⟨⟨ay10, by10⟩, hRI0, ⟨rfl, trivial⟩⟩
theorem ok_JS_indexOf (fu : Nat) (s0 : Nat) (a1 : Int) (I0 : IMem) (hfu : 5000000000 < fu) (hRI0 : RG I0) (hs0 : s0 < 18) (qa1 : inr a1) : sat (f_JS_indexOf fu s0 a1 I0) (fun v I => inr v ∧ RG I ∧ (I = I0 ∧ (True))) := by
  unfold f_JS_indexOf
  obtain ⟨aa1, ba1⟩ := qa1
  refine sat_zb (ok_JS_indexOf_1 fu s0 a1 0 I0 hfu hRI0 (by omega) ⟨aa1, ba1⟩ (lit_in rfl)) (fun y1 I2 c_1 ⟨⟨ay1, by1⟩, _, pI2⟩ => ?_)
  have eI2 := pI2.1.symm; replace pI2 := pI2.2; subst eI2
  exact sat_zr ⟨⟨ay1, by1⟩, hRI0, ⟨rfl, trivial⟩⟩
theorem ok_JP_checkIndex (fu : Nat) (a0 : Int) (a1 : Int) (I0 : IMem) (hfu : 5000000000 < fu) (hRI0 : RG I0) (qa0 : inr a0) (qa1 : inr a1) (h0 : 0 ≤ a0 ∧ a0 < a1) : sat (f_JP_checkIndex fu a0 a1 I0) (fun v I => inr v ∧ RG I ∧ (I = I0 ∧ (True))) := by
  unfold f_JP_checkIndex
  obtain ⟨aa0, ba0⟩ := qa0
  obtain ⟨aa1, ba1⟩ := qa1
  refine sat_zj (fun k1 ek1 => ?_)
  have hk1 : ∀ (I2 : IMem), RG I2 → (I2 = I0 ∧ (False)) → sat (k1 I2) (fun v I => inr v ∧ RG I ∧ (I = I0 ∧ (True))) := by
    intro I2  hRI2 jk1
    subst ek1
    have ejk1 := jk1.1.symm; replace jk1 := jk1.2; subst ejk1
    exfalso
    first | omega | grind
  clear ek1
  refine sat_ite (fun q_1 => ?_) (fun q_1 => ?_)
  · exact hk1 I0 hRI0 ⟨rfl, (by first | omega | (simp (disch := omega) only [wr32_i2, wdiv_i2, wrem_i2]; omega) | grind | grind [wr32])⟩
  · refine sat_ite (fun q_2 => ?_) (fun q_2 => ?_)
    · exact sat_zr ⟨⟨aa0, ba0⟩, hRI0, ⟨rfl, trivial⟩⟩
    · exact hk1 I0 hRI0 ⟨rfl, (by first | omega | (simp (disch := omega) only [wr32_i2, wdiv_i2, wrem_i2]; omega) | grind | grind [wr32])⟩
theorem ok_JS_checkIndex (fu : Nat) (a0 : Int) (a1 : Int) (I0 : IMem) (hfu : 5000000000 < fu) (hRI0 : RG I0) (qa0 : inr a0) (qa1 : inr a1) (h0 : 0 ≤ a0 ∧ a0 < a1) : sat (f_JS_checkIndex fu a0 a1 I0) (fun v I => inr v ∧ RG I ∧ (I = I0 ∧ (True))) := by
  unfold f_JS_checkIndex
  obtain ⟨aa0, ba0⟩ := qa0
  obtain ⟨aa1, ba1⟩ := qa1
  refine sat_zb (ok_JP_checkIndex fu a0 a1 I0 hfu hRI0 ⟨aa0, ba0⟩ ⟨aa1, ba1⟩ (by first | omega | (simp (disch := omega) only [wr32_i2, wdiv_i2, wrem_i2]; omega) | grind | grind [wr32])) (fun y2 I3 c_1 ⟨⟨ay2, by2⟩, _, pI3⟩ => ?_)
  have eI3 := pI3.1.symm; replace pI3 := pI3.2; subst eI3
  exact sat_zr ⟨(lit_in rfl), hRI0, ⟨rfl, trivial⟩⟩
theorem ok_JL_charAt (fu : Nat) (s0 : Nat) (a1 : Int) (I0 : IMem) (hfu : 5000000000 < fu) (hRI0 : RG I0) (hs0 : s0 < 18) (qa1 : inr a1) (h0 : 0 ≤ a1 ∧ a1 < (lenJ.getD s0 0 : Nat)) : sat (f_JL_charAt fu s0 a1 I0) (fun v I => inr v ∧ RG I ∧ (I = I0 ∧ (v = wi2c (wand (bytZ s0 a1.toNat) 255)))) := by
  unfold f_JL_charAt
  obtain ⟨aa1, ba1⟩ := qa1
  have hch := ch_rng s0 a1.toNat
  refine sat_zb (ok_JS_checkIndex fu a1 ((lenJ.getD s0 0 : Nat)) I0 hfu hRI0 ⟨aa1, ba1⟩ (lenJ_in (by omega)) (by first | omega | (simp (disch := omega) only [wr32_i2, wdiv_i2, wrem_i2]; omega) | grind | grind [wr32])) (fun u_1 I2 c_2 ⟨⟨au_1, bu_1⟩, _, pI2⟩ => ?_)
  have eI2 := pI2.1.symm; replace pI2 := pI2.2; subst eI2
  refine sat_zg (by first | omega | grind | grind [wr32]) (fun g_3 => ?_)
  refine sat_zg (by first | omega | grind | grind [wr32]) (fun g_4 => ?_)
  exact sat_zr ⟨(wi2c_in _), hRI0, ⟨rfl, (by first | omega | (simp (disch := omega) only [wr32_i2, wdiv_i2, wrem_i2]; omega) | grind | grind [wr32])⟩⟩
theorem ok_JS_charAt (fu : Nat) (s0 : Nat) (a1 : Int) (I0 : IMem) (hfu : 5000000000 < fu) (hRI0 : RG I0) (hs0 : s0 < 18) (qa1 : inr a1) (h0 : 0 ≤ a1 ∧ a1 < (lenJ.getD s0 0 : Nat)) : sat (f_JS_charAt fu s0 a1 I0) (fun v I => inr v ∧ RG I ∧ (I = I0 ∧ (v = wi2c (wand (bytZ s0 a1.toNat) 255)))) := by
  unfold f_JS_charAt
  obtain ⟨aa1, ba1⟩ := qa1
  have hch := ch_rng s0 a1.toNat
  refine sat_zb (ok_JS_isLatin1 fu s0 I0 hfu hRI0 (by omega)) (fun y1 I2 c_1 ⟨⟨ay1, by1⟩, _, pI2⟩ => ?_)
  have eI2 := pI2.1.symm; replace pI2 := pI2.2; subst eI2
  refine sat_ite (fun q_2 => ?_) (fun q_2 => ?_)
  · exfalso
    first | omega | grind
  · refine sat_zb (ok_JL_charAt fu s0 a1 I0 hfu hRI0 (by omega) ⟨aa1, ba1⟩ (by first | omega | (simp (disch := omega) only [wr32_i2, wdiv_i2, wrem_i2]; omega) | grind | grind [wr32])) (fun y4 I5 c_3 ⟨⟨ay4, by4⟩, _, pI5⟩ => ?_)
    have eI5 := pI5.1.symm; replace pI5 := pI5.2; subst eI5
    refine sat_zg (by first | omega | grind | grind [wr32]) (fun g_4 => ?_)
    exact sat_zr ⟨⟨ay4, by4⟩, hRI0, ⟨rfl, (by first | omega | (simp (disch := omega) only [wr32_i2, wdiv_i2, wrem_i2]; omega) | grind | grind [wr32])⟩⟩
theorem ok_JM_floorMod (fu : Nat) (a0 : Int) (a1 : Int) (I0 : IMem) (hfu : 5000000000 < fu) (hRI0 : RG I0) (qa0 : inr a0) (qa1 : inr a1) (h0 : a1 ≠ 0) : sat (f_JM_floorMod fu a0 a1 I0) (fun v I => inr v ∧ RG I ∧ (I = I0 ∧ (a1 = 60 → 0 ≤ v ∧ v < 60))) := by
  unfold f_JM_floorMod
  obtain ⟨aa0, ba0⟩ := qa0
  obtain ⟨aa1, ba1⟩ := qa1
  have hfm := fm60 ⟨aa0, ba0⟩
  refine sat_zg (by first | omega | grind | grind [wr32]) (fun g_1 => ?_)
  refine sat_zl (wrem_in _ _) (fun x1 hx1 ax1 bx1 => ?_)
  try simp (disch := omega) only [wr32_i2, wdiv_i2, wrem_i2] at hx1
  refine sat_ite (fun q_2 => ?_) (fun q_2 => ?_)
  · refine sat_ite (fun q_3 => ?_) (fun q_3 => ?_)
    · exact sat_zr ⟨⟨ax1, bx1⟩, hRI0, ⟨rfl, (by first | omega | (simp (disch := omega) only [wr32_i2, wdiv_i2, wrem_i2]; omega) | grind | grind [wr32])⟩⟩
    · exact sat_zr ⟨(wr32_in _), hRI0, ⟨rfl, (by first | omega | (simp (disch := omega) only [wr32_i2, wdiv_i2, wrem_i2]; omega) | grind | grind [wr32])⟩⟩
  · exact sat_zr ⟨⟨ax1, bx1⟩, hRI0, ⟨rfl, (by first | omega | (simp (disch := omega) only [wr32_i2, wdiv_i2, wrem_i2]; omega) | grind | grind [wr32])⟩⟩
theorem ok_JA_fillC (fu : Nat) (o0 n0 : Nat) (a1 : Int) (I0 : IMem) (hfu : 5000000000 < fu) (hRI0 : GC I0) (To : o0 ≠ 9 ∧ o0 ≠ 49 ∧ o0 ≠ 90) (hn0 : n0 < 1000000) (qa1 : inr a1) : sat (f_JA_fill fu o0 n0 a1 I0) (fun v I => inr v ∧ GC I ∧ True) := by
  obtain ⟨v, I, e, h1, h2, -⟩ := ok_JA_fill fu o0 n0 a1 I0 hfu hRI0.1 hn0 qa1
  have hf := fr_JA_fill (fun q => q = o0) fu o0 n0 a1 I0 rfl e
  have k : ∀ c, c ≠ o0 → CI I0 c → CI I c := fun c hc h => by
    have e1 : I c = I0 c := hf c hc
    intro l hl
    rw [e1]
    exact h l hl
  exact ⟨v, I, e, h1, ⟨h2, k 9 (Ne.symm To.1) hRI0.2.1, k 49 (Ne.symm To.2.1) hRI0.2.2.1, k 90 (Ne.symm To.2.2) hRI0.2.2.2⟩, trivial⟩
