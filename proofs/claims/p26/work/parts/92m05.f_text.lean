/-! text, with the law that is laid -/
/-- the class's draft of a law -/
def LD (s : Int) (l : List LRec) (I : IMem) : Prop := I 149 4 = l.length ∧ (∀ i, i < (XS s l).length → I 150 i = (XS s l).getD i 0) ∧ ∀ (i : Nat) (r : LRec), l[i]? = some r → I 151 (i + 1) = ((XS s (l.take (i + 1))).length : Nat) ∧ I 152 i = ((XS s (l.take i)).length + (ex s r).length : Nat)
def OUT3 (k : Nat) (J0 I : IMem) (y : Int) (J : IMem) : Prop := (I 144 10 = 0 ∧ ∃ l : List LRec, LD k l I ∧ LX 1 k l J ∧ LOK k l ∧ ∀ j, ¬ TC k j → J 1 j = J0 1 j) ∨ (I 144 10 ≠ 0 ∧ ∀ j, J 1 j = J0 1 j)
theorem text2q (fu k : Nat) (hk : k < 5) (a1 x : Int) (hak : a1 = (k : Int)) (hx : x = if a1 = 4 then 1 else 0) (I J : IMem) (hR : RTp I J) : par2 (f_R_understand fu 144 x I) (f_X_text fu 0 a1 J) (OUT3 k J) := by
  have ha : 0 ≤ a1 ∧ a1 ≤ 4 := by omega
  obtain ⟨L, hL, hI1, hJ12, hb⟩ := hR
  unfold f_R_understand f_X_text
  refine par2_bl (par_scan fu I L hL hI1 (fun j hj => by have := hb j hj; omega)) (fun _ I2 ⟨n, E, s5, lx⟩ => ?_)
  obtain ⟨T, hT⟩ : ∃ T : TXT, (⟨a1, I 145, L, n, I2 146, I2 147, I2 148, E⟩ : TXT) = T := ⟨_, rfl⟩
  have ho : OKT T := by
    rw [← hT]
    exact ⟨lx, hL, fun j hj => by have := hb j hj; show 0 ≤ I 145 j ∧ I 145 j < 256; omega⟩
  have hs : T.s = a1 := by rw [← hT]
  have hTn : T.n = n := by rw [← hT]
  have hTL : T.L = L := by rw [← hT]
  have hTb : T.b = I 145 := by rw [← hT]
  have hTK : T.K = I2 146 ∧ T.P = I2 147 ∧ T.V = I2 148 ∧ T.E = E := by rw [← hT]; exact ⟨rfl, rfl, rfl, rfl⟩
  -- the class's start
  refine par2_bl (P := fun _ I5 => I5 144 5 = (n + 1 : Nat) ∧ I5 144 10 = 0 ∧ I5 144 11 = -1 ∧ (∀ j, I5 146 j = I2 146 j ∧ I5 147 j = I2 147 j ∧ I5 148 j = I2 148 j)) ?_ (fun _ I5 ⟨b5, b10, b11, ba⟩ => ?_)
  · unfold f_R_forget
    refine par_zw (par_zw (par_zw (par_zr ⟨?_, ?_, if_pos ⟨rfl, rfl⟩, fun j => ⟨?_, ?_, ?_⟩⟩)))
    · exact (up_j (by omega) _).trans ((up_j (by omega) _).trans ((up_j (by omega) _).trans s5))
    · exact (up_j (by omega) _).trans (if_pos ⟨rfl, rfl⟩)
    · exact (up_o (by omega) _).trans ((up_o (by omega) _).trans (up_o (by omega) _))
    · exact (up_o (by omega) _).trans ((up_o (by omega) _).trans (up_o (by omega) _))
    · exact (up_o (by omega) _).trans ((up_o (by omega) _).trans (up_o (by omega) _))
  refine par2_gl (fun _ => ?_)
  refine par2_zwl ?_
  refine par2_bl (P := fun _ I7 => I7 144 5 = (n + 1 : Nat) ∧ I7 144 10 = 0 ∧ I7 144 11 = -1 ∧ I7 144 9 = x ∧ (∀ j, I7 146 j = I2 146 j ∧ I7 147 j = I2 147 j ∧ I7 148 j = I2 148 j) ∧ I7 149 1 = 0 ∧ I7 149 4 = 0) ?_ (fun _ I7 ⟨c5, c10, c11, c9, ca, c1, c4⟩ => ?_)
  · unfold f_W_clear
    refine par_zw (par_zw (par_zr ⟨?_, ?_, ?_, ?_, fun j => ⟨?_, ?_, ?_⟩, ?_, if_pos ⟨rfl, rfl⟩⟩))
    · exact (up_o (by omega) _).trans ((up_o (by omega) _).trans ((up_j (by omega) _).trans b5))
    · exact (up_o (by omega) _).trans ((up_o (by omega) _).trans ((up_j (by omega) _).trans b10))
    · exact (up_o (by omega) _).trans ((up_o (by omega) _).trans ((up_j (by omega) _).trans b11))
    · exact (up_o (by omega) _).trans ((up_o (by omega) _).trans (if_pos ⟨rfl, rfl⟩))
    · exact (up_o (by omega) _).trans ((up_o (by omega) _).trans ((up_o (by omega) _).trans (ba j).1))
    · exact (up_o (by omega) _).trans ((up_o (by omega) _).trans ((up_o (by omega) _).trans (ba j).2.1))
    · exact (up_o (by omega) _).trans ((up_o (by omega) _).trans ((up_o (by omega) _).trans (ba j).2.2))
    · exact (up_j (by omega) _).trans (if_pos ⟨rfl, rfl⟩)
  refine par2_zwl ?_
  refine par2_bl (ct_start (T := T) fu ho (if_pos ⟨rfl, rfl⟩) ((up_j (by omega) _).trans c10) ((up_j (by omega) _).trans (by rw [c9, hx, hs])) ((up_j (by omega) _).trans (by rw [c5, hTn])) (fun j _ => by
    rw [hTK.1, hTK.2.1, hTK.2.2.1]
    exact ⟨(up_o (by omega) _).trans (ca j).1, (up_o (by omega) _).trans (ca j).2.1, (up_o (by omega) _).trans (ca j).2.2⟩) ((up_o (by omega) _).trans c1) ((up_j (by omega) _).trans c11)) (fun _ I8 ⟨ct, cl⟩ => ?_)
  have cl4 : I8 149 4 = 0 := cl.trans ((up_o (by omega) _).trans c4)
  -- the reference's start
  refine par2_zwr ?_
  refine par2_br (par_isIn fu a1 0 4 _) (fun y2 J2 ⟨e2, hy2⟩ => ?_)
  subst e2
  rw [if_neg (fun z => (hy2.mp z) ha)]
  refine par2_zwr (par2_zwr (par2_zwr (par2_zwr ?_)))
  obtain ⟨q0, p1, p2, p3, p4, p5⟩ := ho.1.2.2 0 (Nat.zero_le _)
  rw [ho.1.1] at p2
  generalize hJ3 : up (up (up (up (up J 0 17 0) 0 9 a1) 0 13 0) 0 10 0) 0 11 0 = J3
  have f0 : ∀ o i, ¬ (o = 0 ∧ (i = 17 ∨ i = 9 ∨ i = 13 ∨ i = 10 ∨ i = 11)) → J3 o i = J o i := by
    intro o i hoi
    rw [← hJ3]
    exact (if_neg (by omega)).trans ((if_neg (by omega)).trans ((if_neg (by omega)).trans ((if_neg (by omega)).trans (if_neg (by omega)))))
  have f11 : J3 0 11 = 0 := by rw [← hJ3]; exact if_pos ⟨rfl, rfl⟩
  have f10 : J3 0 10 = 0 := by rw [← hJ3]; exact (up_j (by omega) _).trans (if_pos ⟨rfl, rfl⟩)
  have f13 : J3 0 13 = (0 : Nat) := by rw [← hJ3]; exact (up_j (by omega) _).trans ((up_j (by omega) _).trans (if_pos ⟨rfl, rfl⟩))
  have f9 : J3 0 9 = a1 := by rw [← hJ3]; exact (up_j (by omega) _).trans ((up_j (by omega) _).trans ((up_j (by omega) _).trans (if_pos ⟨rfl, rfl⟩)))
  have f17 : J3 0 17 = 0 := by rw [← hJ3]; exact (up_j (by omega) _).trans ((up_j (by omega) _).trans ((up_j (by omega) _).trans ((up_j (by omega) _).trans (if_pos ⟨rfl, rfl⟩))))
  have tp3 : TP T.b T.L J3 := by
    rw [hTb, hTL]
    exact ⟨(f0 0 12 (by omega)).trans hJ12, hL, fun j hj => (f0 6 j (by omega)).trans (hb j hj).1.symm, fun j hj => by have := hb j hj; omega⟩
  have fw3 : J3 1 = J 1 := funext (fun i => f0 1 i (by omega))
  clear hJ3
  refine par2_br (par_next0 fu T.b T.L 0 q0 (T.E 1) (T.K 0) (T.V 0) J3 tp3 f13 p2 p3 p4) (fun _ J4 ⟨e, k15, k13, k14, k16⟩ => ?_)
  have jt : JTk T (J3 0 20) 0 [] J4 := ⟨tp_ext tp3 e, (e 0 9 (by omega)).trans (f9.trans hs.symm), k15.trans p1.symm, k13, by rw [k14, f9, hs], k16, e 0 20 (by omega), (e 0 11 (by omega)).trans f11, fun i hi => absurd hi (Nat.not_lt_zero _), (e 0 17 (by omega)).trans f17⟩
  have inv : INV T (J3 0 20) 0 [] I8 J4 := ⟨⟨ho, ct, jt, Nat.zero_le _, Nat.le_refl _, Nat.le_refl _⟩, (fun i r hr => by cases hr), cl4, (e 0 10 (by omega)).trans f10, by decide⟩
  have hw4 : J4 1 = J 1 := (funext (fun i => e 1 i (by omega))).trans fw3
  refine text57q (T := T) fu a1 _ (J 1) (fun t l d I9 J9 h9 gr9 w9 => ?_) (fun I9 J9 bd w9 => ?_) fu fu 0 0 [] (J3 0 20) I8 J4 inv (fun i r hr => by cases hr) hw4 (by omega) (by omega)
  · have h9' := h9
    obtain ⟨⟨_, gc, gj, gt, gx, gp⟩, gl, g4, g10, g16⟩ := h9'
    unfold kUn
    rw [if_pos gc.2.2.2.1]
    refine par2_r ?_
    refine par_zw' (fun Ja ea => par_zw' (fun Jb eb => ?_))
    simp only [zj]
    rw [if_neg (c := (1 : Int) = 0) (by decide)]
    refine par_zw' (fun Jc ec => ?_)
    rw [if_neg (c := (1 : Int) = 0) (by decide)]
    subst hak
    have hn := ho.1.2.1
    have hL' := ho.2.1
    have ld : LD T.s l I9 := ⟨g4, gc.2.2.2.2.2.2.2.2.1, fun i r hr => ⟨(gl i r hr).1, (gl i r hr).2.1⟩⟩
    have lo : LOK T.s l := ⟨g16, by omega, by omega, gr9⟩
    rw [hs] at ld lo
    refine par_mono (xc_all (fu := fu) (J' := Jc) k hk hs h9 (fun q j hq => by rw [ec, if_neg (by omega), eb, if_neg (by omega), ea, if_neg (by omega)]) (by rw [ec, if_neg (by omega), eb, if_neg (by omega), ea, if_neg (by omega)]) (by rw [ec, if_neg (by omega), eb, if_neg (by omega), ea, if_neg (by omega)])) (fun y J10 ⟨z1, z2⟩ => ?_)
    exact Or.inl ⟨gc.2.2.2.1, l, ld, z1, lo, fun j hj => (z2 j hj).trans (congrFun w9 j)⟩
  · unfold kUn
    obtain ⟨f, p, b1, b2, b3⟩ := bd
    rw [if_neg (by rw [b2.1]; exact b1)]
    refine par2_r ?_
    refine par_zw' (fun Ja ea => par_zw' (fun Jb eb => ?_))
    simp only [zj]
    rw [if_pos trivial]
    refine par_zw' (fun Jc ec => ?_)
    rw [if_pos trivial]
    exact par_zr (Or.inr ⟨by rw [b2.1]; exact b1, fun j => by rw [ec, if_neg (by omega), eb, if_neg (by omega), ea, if_neg (by omega)]; exact congrFun w9 j⟩)
theorem text_lw (fu : Nat) (a1 : Int) {I J : IMem} (hR : RTp I J) (z : I 151 0 = 0) {x y : Int} {I' J' : IMem} (e1 : f_S_text fu 0 a1 I = some (x, I')) (e2 : f_X_text fu 0 a1 J = some (y, J')) : I' 151 0 = 0 ∧ (((∀ j, J' 1 j = J 1 j) ∧ ∀ q j, q < 100 → I' q j = I q j) ∨ ∃ k : Nat, k < 5 ∧ LWR 1 1 k I' J' ∧ (∀ j, ¬ TC k j → J' 1 j = J 1 j) ∧ ∀ q j, q < 100 → ¬ (16 + 5 * k ≤ q ∧ q < 20 + 5 * k) → I' q j = I q j) := by
  by_cases ha : 0 ≤ a1 ∧ a1 ≤ 4
  · obtain ⟨k, hk, hak⟩ : ∃ k : Nat, k < 5 ∧ a1 = (k : Int) := ⟨a1.toNat, by omega, by omega⟩
    have key : par (f_S_text fu 0 a1 I) (fun _ I' => I' 151 0 = 0 ∧ (((∀ j, J' 1 j = J 1 j) ∧ ∀ q j, q < 100 → I' q j = I q j) ∨ ∃ k : Nat, k < 5 ∧ LWR 1 1 k I' J' ∧ (∀ j, ¬ TC k j → J' 1 j = J 1 j) ∧ ∀ q j, q < 100 → ¬ (16 + 5 * k ≤ q ∧ q < 20 + 5 * k) → I' q j = I q j)) := by
      unfold f_S_text
      simp only [zj]
      rw [if_neg (show ¬ a1 < 0 by omega), if_neg (show ¬ 4 < a1 by omega)]
      have go : ∀ x : Int, x = (if a1 = 4 then 1 else 0) → par (zb (f_R_understand fu (0 + 144) x I) fun y9 I10 => if y9 = 0 then zr (-1) I10 else zg (0 ≤ a1 ∧ a1 < 5) (zb (f_W_copyFrom fu (0 + 16 + 5 * a1.toNat) (0 + 149) I10) fun _ I14 => zr (I14 (0 + 149) 4) I14)) (fun _ I' => I' 151 0 = 0 ∧ (((∀ j, J' 1 j = J 1 j) ∧ ∀ q j, q < 100 → I' q j = I q j) ∨ ∃ k : Nat, k < 5 ∧ LWR 1 1 k I' J' ∧ (∀ j, ¬ TC k j → J' 1 j = J 1 j) ∧ ∀ q j, q < 100 → ¬ (16 + 5 * k ≤ q ∧ q < 20 + 5 * k) → I' q j = I q j)) := by
        intro x hx
        have p2 : par (f_R_understand fu 144 x I) (fun _ I' => OUT3 k J I' y J') := fun v I2 e => text2q fu k hk a1 x hak hx I J hR v I2 y J' e e2
        have p3 : par (f_R_understand fu 144 x I) (fun _ I' => ∀ q j, q < 100 → I' q j = I q j) := fun v I2 e q j hq => congrFun (fr_R_understand (fun q => 100 ≤ q) fu 144 x I (by omega) (by omega) (by omega) (by omega) (by omega) (by omega) (by omega) (by omega) e q (by omega)) j
        refine par_zb (par_and (par_and (und_v fu x I) p2) (par_and (z_und x I) p3)) (fun v I10 ⟨⟨hv, ho⟩, hz, hf⟩ => ?_)
        rcases hv with ⟨e, h0⟩ | ⟨e, h0⟩
        · rw [if_neg (by omega)]
          rcases ho with ⟨_, l, ld, lx, lo, fj⟩ | ⟨o1, _⟩
          · have ek : 0 + 16 + 5 * a1.toNat = 1 + 15 + 5 * k := by omega
            rw [ek]
            refine par_zg (fun _ => par_zb (cv_wcopy (fu := fu) (1 + 15 + 5 * k) (0 + 149) (by omega) I10) (fun _ I14 ⟨⟨c1, c2, c3, c4⟩, c5⟩ => par_zr ⟨?_, Or.inr ⟨k, hk, ⟨l, ⟨c1.trans ld.1, fun i hi => ?_, ?_, fun i r hr => ⟨?_, ?_⟩⟩, lx, lo⟩, fj, fun q j hq hn => ?_⟩⟩))
            · rw [c5 _ _ (by omega)]; exact hz.trans z
            · exact (c2 i (by have := lo.2.1; omega)).trans (ld.2.1 i hi)
            · exact (c3 0 (by decide)).trans (hz.trans z)
            · exact (c3 (i + 1) (by have := lt_of_get hr; have := lo.1; omega)).trans (ld.2.2 i r hr).1
            · exact (c4 i (by have := lt_of_get hr; have := lo.1; omega)).trans (ld.2.2 i r hr).2
            · exact (c5 _ _ (by omega)).trans (hf q j hq)
          · exact absurd h0 o1
        · rw [if_pos e]
          rcases ho with ⟨o1, _⟩ | ⟨_, o2⟩
          · exact absurd o1 h0
          · exact par_zr ⟨hz.trans z, Or.inl ⟨o2, hf⟩⟩
      exact par_ite (fun c4 => go 1 (if_pos c4).symm) (fun c4 => go 0 (if_neg c4).symm)
    exact key x I' e1
  · have k1 : par (f_S_text fu 0 a1 I) (fun _ I' => ∀ q j, q ≠ 144 → I' q j = I q j) := by
      unfold f_S_text
      simp only [zj]
      have hfg : par (zb (f_R_forget fu (0 + 144) I) fun _ I4 => zr (-1) I4) (fun _ I' => ∀ q j, q ≠ 144 → I' q j = I q j) := by
        unfold f_R_forget
        exact par_zb (Q1 := fun _ I' => ∀ q j, q ≠ 144 → I' q j = I q j) (par_zw (par_zw (par_zw (par_zr (fun q j hq => (up_o (by omega) _).trans ((up_o (by omega) _).trans (up_o (by omega) _))))))) (fun _ _ h => par_zr h)
      exact par_ite (fun _ => hfg) (fun c => par_ite (fun _ => hfg) (fun c2 => absurd ⟨by omega, by omega⟩ ha))
    have k2 : par (f_X_text fu 0 a1 J) (fun _ J' => ∀ j, J' 1 j = J 1 j) := by
      unfold f_X_text
      refine par_zw (par_zb (par_isIn fu a1 0 4 _) (fun y2 J2 ⟨e, hy⟩ => ?_))
      rw [if_pos (hy.mpr ha)]
      subst e
      exact par_zw (par_zw (par_zw (par_zr (fun j => (up_o (by omega) _).trans ((up_o (by omega) _).trans ((up_o (by omega) _).trans (up_o (by omega) _)))))))
    exact ⟨(k1 x I' e1 151 0 (by decide)).trans z, Or.inl ⟨k2 y J' e2, fun q j hq => k1 x I' e1 q j (by omega)⟩⟩
/-- another law's cells -/
theorem lwr_ot {k k2 : Nat} {I J I' J' : IMem} (hk : k < 5) (hk2 : k2 < 5) (hne : k2 ≠ k) (h : LWR 1 1 k2 I J) (b2 : ∀ j, ¬ TC k j → J' 1 j = J 1 j) (b3 : ∀ q j, q < 100 → ¬ (16 + 5 * k ≤ q ∧ q < 20 + 5 * k) → I' q j = I q j) : LWR 1 1 k2 I' J' := by
  obtain ⟨l, lc, lx, lo⟩ := h
  refine ⟨l, lc_mv lc (fun d j hd => b3 _ _ (by omega) (by omega)), ?_, lo⟩
  obtain ⟨a1, a2, a3⟩ := lx
  have o1 := lo.1
  have o3 := lo.2.2.1
  have tc : ∀ j, (j = 1580 + k2 ∨ TR k2 j ∨ (1910 + 820 * k2 ≤ j ∧ j < 2730 + 820 * k2)) → J' 1 j = J 1 j := fun j hj => b2 j (by unfold TC TR; unfold TR at hj; omega)
  refine ⟨?_, fun i hi => ⟨?_, ?_⟩, fun i r hr => ?_⟩
  · rw [tc _ (Or.inl rfl)]; exact a1
  · rw [tc _ (Or.inr (Or.inr (by omega)))]; exact (a2 i hi).1
  · rw [tc _ (Or.inr (Or.inr (by omega)))]; exact (a2 i hi).2
  · have hi := lt_of_get hr
    obtain ⟨c3, c4, c5, c6⟩ := a3 i r hr
    refine ⟨?_, ?_, ?_, fun q => ⟨(c6 q).1, ?_⟩⟩
    · rw [tc _ (Or.inr (Or.inl (by unfold TR; omega)))]; exact c3
    · rw [tc _ (Or.inr (Or.inl (by unfold TR; omega)))]; exact c4
    · rw [tc _ (Or.inr (Or.inl (by unfold TR; omega)))]; exact c5
    · rw [tc _ (Or.inr (Or.inl (by unfold TR; omega)))]; exact (c6 q).2
theorem pj_text {fu : Nat} {I J : IMem} (a1 : Int) (h : RJ I J) : pq (f_S_text fu 0 a1 I) (f_X_text fu 0 a1 J) EQJ := by
  intro x I' y J' e1 e2
  have h' := h
  obtain ⟨⟨hR, hz11, hA⟩, n11, i8, him, hZ, hP, hT, hF⟩ := h'
  obtain ⟨p1, p2⟩ := text_j fu a1 hT e1 e2
  obtain ⟨q1, q2⟩ := text_lw fu a1 hT hZ.2.2 e1 e2
  have fI : ∀ q j, ¬ ((16 ≤ q ∧ q < 41) ∨ q = 144 ∨ (146 ≤ q ∧ q ≤ 152)) → I' q j = I q j := fun q j hq => congrFun (fr_S_text (fun q => (16 ≤ q ∧ q < 41) ∨ q = 144 ∨ (146 ≤ q ∧ q ≤ 152)) fu 0 a1 I (fun q a b => by omega) (by omega) (by omega) (by omega) (by omega) (by omega) (by omega) (by omega) (by omega) e1 q hq) j
  have fJ : ∀ q j, ¬ (q = 1 ∨ q = 4 ∨ q = 5 ∨ (q = 0 ∧ 9 ≤ j ∧ j ≤ 21)) → J' q j = J q j := fc_X_text (fun q j => q = 1 ∨ q = 4 ∨ q = 5 ∨ (q = 0 ∧ 9 ≤ j ∧ j ≤ 21)) fu 0 a1 J (fun j => by omega) (fun j => by omega) (fun j => by omega) (by omega) (by omega) (by omega) (by omega) (by omega) (by omega) (by omega) (by omega) (by omega) (by omega) (by omega) (by omega) (by omega) e2
  have w1 : ∀ j, j < 1580 ∨ 6010 ≤ j → J' 1 j = J 1 j := by
    intro j hj
    rcases q2 with ⟨b1, _⟩ | ⟨k, hk, _, b2, _⟩
    · exact b1 j
    · exact b2 j (by unfold TC TR; omega)
  have hW : HW 1 1 I' J' := by
    rcases q2 with ⟨b1, b2⟩ | ⟨k, hk, b1, b2, b3⟩
    · exact hw_mv hR.2.2.2.2 (fun d j a c e => b2 (1 + d) j (by omega)) (fun j _ _ => b1 j)
    · intro k2 hk2
      by_cases y : k2 = k
      · subst y; exact b1
      · exact lwr_ot hk hk2 y (hR.2.2.2.2 k2 hk2) b2 b3
  have hR' : HR 1 1 I' J' := ⟨hs_mv hR.1 (fun d j hd => fI _ _ (by omega)) (fun j hj => w1 j (by omega)), hy_mv hR.2.1 (fun j => fI _ _ (by omega)) (fun j _ _ => w1 j (by omega)), hp_mv hR.2.2.1 (fun j => ⟨fI _ _ (by omega), fI _ _ (by omega)⟩) (fun j hj => w1 j (by omega)), hl_mv hR.2.2.2.1 (fun j => ⟨fI _ _ (by omega), fI _ _ (by omega)⟩) (fun j _ _ => w1 j (by omega)), hW⟩
  refine ⟨rj_mv h ⟨hR', ?_, ?_, ?_⟩ (fI _ _ (by omega)) (fun q j hq => ?_) (fun q j hq => fJ _ _ (by omega)) (pk_mv hP (fun q j hq => fI _ _ (by omega)) (fun q j hq => ?_) (fun k hk => ?_)) ⟨0, Nat.zero_le _, ja_S_text fu a1 I e1, ja_X_text fu a1 J e2, fun j hj => absurd hj (Nat.not_lt_zero _)⟩ p2, p1⟩
  · rw [fI _ _ (by omega), fJ _ _ (by omega)]; exact hz11
  · rw [fI _ _ (by omega)]; exact hA.1
  · rw [fI _ _ (by omega)]; exact hA.2
  · by_cases y : q = 151 ∧ j = 0
    · rw [y.1, y.2, q1, hZ.2.2]
    · exact fI _ _ (by omega)
  · by_cases y : q = 1
    · subst y; exact w1 _ (by omega)
    · exact fJ _ _ (by omega)
  · have k1 := hk.1
    exact ⟨⟨k1, by rw [w1 _ (by omega)]; exact hk.2⟩, w1 _ (by omega), w1 _ (by omega)⟩
