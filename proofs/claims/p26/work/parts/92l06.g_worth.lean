/-! WORTH and the line of a comer on both sides -/
/-- an equation out of the solver's sight -/
def Wq (a b : Int) : Prop := a = b
theorem Wq.e {a b : Int} (h : Wq a b) : a = b := h
/-- the facts of a group for a RULE, by the reference's memory -/
def WF (J : IMem) (l p : Nat) (left taken : Int) : Nat → Int := fun y => if y = 1 then J 1 (140 + 6 * (40 * l + p) + 2) else if y = 2 then left else if y = 3 then p else if y = 4 then l else if y = 5 then J 1 (140 + 6 * (40 * l + p) + 5) else if y = 6 then J 1 (140 + 6 * (40 * l + p) + 4) else if y = 7 then J 1 (140 + 6 * (40 * l + p) + 3) else if y = 8 then taken else J 1 (130 + l) - 1 - p
theorem one9 {y : Int} (h1 : 1 ≤ y) (h2 : y ≤ 9) : y = 1 ∨ y = 2 ∨ y = 3 ∨ y = 4 ∨ y = 5 ∨ y = 6 ∨ y = 7 ∨ y = 8 ∨ y = 9 := by omega
section
variable {fu : Nat}
theorem xv_worth {l p k : Nat} {left taken : Int} {J : IMem} {law : List LRec} (hl : l < 6) (hp : (p : Int) < J 1 (130 + l)) (hm : J 1 (130 + l) ≤ 40) (hk : k < 4) (hf : J 1 6 = k) (ho : LOK k law) (h : LX 1 k law J) : par (f_X_worth fu 0 l p left taken J) (fun v J' => v = lval k (WF J l p left taken) law ∧ ∀ q j, q ≠ 7 → q ≠ 8 → J' q j = J q j) := by
  have hp4 : p < 40 := by omega
  unfold f_X_worth
  simp only [zl_e]
  rw [ev_of2 fu 0 l p _ hl hp4, zb_zr]
  refine par_zw' (fun I1 e1 => par_zw' (fun I2 e2 => par_zw' (fun I3 e3 => par_zw' (fun I4 e4 => ?_))))
  rw [ev_of5 fu 0 l p _ hl hp4, zb_zr]
  refine par_zw' (fun I5 e5 => ?_)
  rw [ev_of4 fu 0 l p _ hl hp4, zb_zr]
  refine par_zw' (fun I6 e6 => ?_)
  rw [ev_of3 fu 0 l p _ hl hp4, zb_zr]
  refine par_zw' (fun I7 e7 => par_zw' (fun I8 e8 => ?_))
  have w1 : Wq (wr32 (130 + (l : Int))) (((130 + l : Nat) : Int)) := by show wr32 (130 + (l : Int)) = ((130 + l : Nat) : Int); rw [wr32_i2 (by omega) (by omega)]; omega
  rw [w1.e]
  refine par_zg (fun _ => par_zw' (fun I9 e9 => ?_))
  rw [show ((130 + l : Nat) : Int).toNat = 130 + l from rfl] at e9
  have f8 : ∀ q j, q ≠ 8 → I8 q j = J q j := fun q j hq => by rw [e8, if_neg (by omega), e7, if_neg (by omega), e6, if_neg (by omega), e5, if_neg (by omega), e4, if_neg (by omega), e3, if_neg (by omega), e2, if_neg (by omega), e1, if_neg (by omega)]
  have f9 : ∀ q j, q ≠ 8 → I9 q j = J q j := fun q j hq => by rw [e9, if_neg (by omega)]; exact f8 q j hq
  have f4 : ∀ q j, q ≠ 8 → I4 q j = J q j := fun q j hq => by rw [e4, if_neg (by omega), e3, if_neg (by omega), e2, if_neg (by omega), e1, if_neg (by omega)]
  have f5 : ∀ q j, q ≠ 8 → I5 q j = J q j := fun q j hq => by rw [e5, if_neg (by omega)]; exact f4 q j hq
  have f6 : ∀ q j, q ≠ 8 → I6 q j = J q j := fun q j hq => by rw [e6, if_neg (by omega)]; exact f5 q j hq
  have ag : AG k (I9 8) (WF J l p left taken) := by
    intro y y1 y2 y3
    have y9 : y ≤ 9 := by omega
    rcases one9 y1 y9 with rfl | rfl | rfl | rfl | rfl | rfl | rfl | rfl | rfl
    · show I9 8 1 = J 1 (140 + 6 * (40 * l + p) + 2)
      rw [e9, if_neg (by omega), e8, if_neg (by omega), e7, if_neg (by omega), e6, if_neg (by omega), e5, if_neg (by omega), e4, if_neg (by omega), e3, if_neg (by omega), e2, if_neg (by omega), e1, if_pos (by omega)]
    · show I9 8 2 = left
      rw [e9, if_neg (by omega), e8, if_neg (by omega), e7, if_neg (by omega), e6, if_neg (by omega), e5, if_neg (by omega), e4, if_neg (by omega), e3, if_neg (by omega), e2, if_pos (by omega)]
    · show I9 8 3 = (p : Int)
      rw [e9, if_neg (by omega), e8, if_neg (by omega), e7, if_neg (by omega), e6, if_neg (by omega), e5, if_neg (by omega), e4, if_neg (by omega), e3, if_pos (by omega)]
    · show I9 8 4 = (l : Int)
      rw [e9, if_neg (by omega), e8, if_neg (by omega), e7, if_neg (by omega), e6, if_neg (by omega), e5, if_neg (by omega), e4, if_pos (by omega)]
    · show I9 8 5 = J 1 (140 + 6 * (40 * l + p) + 5)
      rw [e9, if_neg (by omega), e8, if_neg (by omega), e7, if_neg (by omega), e6, if_neg (by omega), e5, if_pos (by omega)]
      exact f4 _ _ (by decide)
    · show I9 8 6 = J 1 (140 + 6 * (40 * l + p) + 4)
      rw [e9, if_neg (by omega), e8, if_neg (by omega), e7, if_neg (by omega), e6, if_pos (by omega)]
      exact f5 _ _ (by decide)
    · show I9 8 7 = J 1 (140 + 6 * (40 * l + p) + 3)
      rw [e9, if_neg (by omega), e8, if_neg (by omega), e7, if_pos (by omega)]
      exact f6 _ _ (by decide)
    · show I9 8 8 = taken
      rw [e9, if_neg (by omega), e8, if_pos (by omega)]
    · show I9 8 9 = J 1 (130 + l) - 1 - p
      rw [e9, if_pos (by omega), f8 _ _ (by decide)]
      show wr32 (wr32 (J 1 (130 + l) - 1) - p) = _
      rw [wr32_i2 (x := J 1 (130 + l) - 1) (by omega) (by omega), wr32_i2 (by omega) (by omega)]
  have hx : LX 1 k law I9 := lx_mv (by omega) ho h (fun j _ _ => f9 _ _ (by decide))
  show par (zb (f_X_firstLine fu 0 (J 1 6) I9) _) _
  rw [hf]
  refine par_zb (xv_first (by omega) ho I9 hx ag) (fun y J1 ⟨g1, g2⟩ => ?_)
  rcases g2 with ⟨g2, g3⟩ | ⟨i, r, hr, g2, g3⟩
  · rw [if_pos g2]
    exact par_zr ⟨g3.symm, fun q j h7 h8 => (g1 q j h7).trans (f9 q j h8)⟩
  · have hi := lt_of_get hr
    have o1 := ho.1
    rw [if_neg (by omega), g2]
    have w2 : Wq (wr32 (1670 + ((16 * k + i : Nat) : Int))) (((1670 + 16 * k + i : Nat) : Int)) := by show wr32 (1670 + ((16 * k + i : Nat) : Int)) = ((1670 + 16 * k + i : Nat) : Int); rw [wr32_i2 (by omega) (by omega)]; omega
    have w3 : Wq (wr32 (1750 + ((16 * k + i : Nat) : Int))) (((1750 + 16 * k + i : Nat) : Int)) := by show wr32 (1750 + ((16 * k + i : Nat) : Int)) = ((1750 + 16 * k + i : Nat) : Int); rw [wr32_i2 (by omega) (by omega)]; omega
    rw [w2.e, w3.e]
    refine par_zg (fun _ => par_zg (fun _ => ?_))
    have hx1 : LX 1 k law J1 := lx_mv (by omega) ho hx (fun j _ _ => g1 _ _ (by decide))
    obtain ⟨p1, p2, _, _⟩ := hx1.2.2 i r hr
    have hg := ho.2.2.2 i r hr
    obtain ⟨b, hb⟩ := hg.1 (by omega)
    have hxx := px_at hr
    have hlen := ho.2.2.1
    rw [hxx, List.length_append, List.length_append, List.length_append] at hlen
    have hseg := seg2_of (c := fun j => J1 1 (1910 + 820 * k + j)) (PX law) 0 (fun t ht => by rw [Nat.zero_add]; exact hx1.2.1 t ht)
    rw [hxx] at hseg
    have sg := (seg2_app _ _ _ (seg2_app _ _ _ hseg).2).1
    have sg1 := (seg2_app _ _ _ sg).1
    rw [Nat.zero_add] at sg1
    have ag1 : AG k (J1 8) (WF J l p left taken) := fun y a c d => by rw [g1 _ _ (by decide)]; exact ag y a c d
    refine par_zb (Q1 := fun v J' => v = evV (J1 8) r.E ∧ ∀ q j, q ≠ 7 → J' q j = J1 q j) ?_ (fun v J2 ⟨g4, g5⟩ => par_zr ⟨?_, fun q j h7 h8 => (g5 q j h7).trans ((g1 q j h7).trans (f9 q j h8))⟩)
    · show par (f_X_comesTo fu 0 (k : Int) (J1 1 (1670 + 16 * k + i)) (J1 1 (1750 + 16 * k + i)) J1) _
      rw [p1, p2]
      exact cmx_val k _ (by omega) r.E J1 _ (by omega) sg1 hb (by omega)
    · rw [g4, g3, if_neg (by omega), evV_ag ag1 hb]
theorem cv_weigh {hb l p : Nat} {left taken : Int} {I : IMem} (hl : l < 6) (hp4 : p < 40) (hm : I (hb + 8) l ≤ 40 ∧ 0 ≤ I (hb + 8) l) : par (f_H_weigh fu hb ((40 * l + p : Nat) : Int) left taken I) (fun _ I' => (∀ q j, q ≠ hb + 13 → I' q j = I q j) ∧ I' (hb + 13) 7 = I (hb + 7) (6 * (40 * l + p) + 2) ∧ I' (hb + 13) 9 = left ∧ I' (hb + 13) 10 = p ∧ I' (hb + 13) 11 = l ∧ I' (hb + 13) 12 = I (hb + 7) (6 * (40 * l + p) + 5) ∧ I' (hb + 13) 13 = I (hb + 7) (6 * (40 * l + p) + 4) ∧ I' (hb + 13) 8 = I (hb + 7) (6 * (40 * l + p) + 3) ∧ I' (hb + 13) 14 = taken ∧ I' (hb + 13) 15 = I (hb + 8) l - 1 - p) := by
  have hk : 40 * l + p < 240 := by omega
  have d1 : (40 * l + p) / 40 = l := by omega
  have d2 : (40 * l + p) % 40 = p := by omega
  unfold f_H_weigh
  simp only [zl_e]
  rw [wd40 _ hk, wr40 _ hk, d1, d2, ev_get2 fu (hb + 6) _ _ hk, zb_zr]
  refine par_zw' (fun I1 e1 => par_zw' (fun I2 e2 => par_zw' (fun I3 e3 => par_zw' (fun I4 e4 => ?_))))
  rw [ev_get5 fu (hb + 6) _ _ hk, zb_zr]
  refine par_zw' (fun I5 e5 => ?_)
  rw [ev_get4 fu (hb + 6) _ _ hk, zb_zr]
  refine par_zw' (fun I6 e6 => ?_)
  rw [ev_get3 fu (hb + 6) _ _ hk, zb_zr]
  refine par_zw' (fun I7 e7 => par_zw' (fun I8 e8 => ?_))
  have f4 : ∀ q j, q ≠ hb + 13 → I4 q j = I q j := fun q j hq => by rw [e4, if_neg (by omega), e3, if_neg (by omega), e2, if_neg (by omega), e1, if_neg (by omega)]
  have f5 : ∀ q j, q ≠ hb + 13 → I5 q j = I q j := fun q j hq => by rw [e5, if_neg (by omega)]; exact f4 q j hq
  have f6 : ∀ q j, q ≠ hb + 13 → I6 q j = I q j := fun q j hq => by rw [e6, if_neg (by omega)]; exact f5 q j hq
  have f8 : ∀ q j, q ≠ hb + 13 → I8 q j = I q j := fun q j hq => by rw [e8, if_neg (by omega), e7, if_neg (by omega)]; exact f6 q j hq
  have c8 : I8 (hb + 6 + 2) l = I (hb + 8) l := f8 _ _ (by omega)
  rw [ev_countOf fu (hb + 6) l I8 hl (by rw [c8]; exact hm.1), zb_zr, c8]
  refine par_zw' (fun I9 e9 => par_zr ⟨fun q j hq => by rw [e9, if_neg (by omega)]; exact f8 q j hq, ?_, ?_, ?_, ?_, ?_, ?_, ?_, ?_, ?_⟩)
  · rw [e9, if_neg (by omega), e8, if_neg (by omega), e7, if_neg (by omega), e6, if_neg (by omega), e5, if_neg (by omega), e4, if_neg (by omega), e3, if_neg (by omega), e2, if_neg (by omega), e1, if_pos (by omega)]
  · rw [e9, if_neg (by omega), e8, if_neg (by omega), e7, if_neg (by omega), e6, if_neg (by omega), e5, if_neg (by omega), e4, if_neg (by omega), e3, if_neg (by omega), e2, if_pos (by omega)]
  · rw [e9, if_neg (by omega), e8, if_neg (by omega), e7, if_neg (by omega), e6, if_neg (by omega), e5, if_neg (by omega), e4, if_neg (by omega), e3, if_pos (by omega)]
  · rw [e9, if_neg (by omega), e8, if_neg (by omega), e7, if_neg (by omega), e6, if_neg (by omega), e5, if_neg (by omega), e4, if_pos (by omega)]
  · rw [e9, if_neg (by omega), e8, if_neg (by omega), e7, if_neg (by omega), e6, if_neg (by omega), e5, if_pos (by omega)]
    exact f4 _ _ (by omega)
  · rw [e9, if_neg (by omega), e8, if_neg (by omega), e7, if_neg (by omega), e6, if_pos (by omega)]
    exact f5 _ _ (by omega)
  · rw [e9, if_neg (by omega), e8, if_neg (by omega), e7, if_pos (by omega)]
    exact f6 _ _ (by omega)
  · rw [e9, if_neg (by omega), e8, if_pos (by omega)]
  · rw [e9, if_pos (by omega), wr32_i2 (x := I (hb + 8) l - p) (by omega) (by omega), wr32_i2 (by omega) (by omega)]
    omega
/-- weighed: the class's facts are the reference's -/
theorem cv_facts {hb l p : Nat} {left taken : Int} {s : Int} {I J : IMem} (hs : s ≠ 4) (hL : HL hb 1 I J) (hl : l < 6) (hp : (p : Int) < J 1 (130 + l)) : par (f_H_weigh fu hb ((40 * l + p : Nat) : Int) left taken I) (fun _ I' => (∀ q j, q ≠ hb + 13 → I' q j = I q j) ∧ FMAP s (I' (hb + 13)) (WF J l p left taken)) := by
  obtain ⟨c1, c2, c3⟩ := hl_c hL hl
  refine par_mono (cv_weigh hl (by omega) (by omega)) (fun _ I' ⟨g0, g7, g9, g10, g11, g12, g13, g8, g14, g15⟩ => ⟨g0, ?_⟩)
  intro y y1 y2 y3
  have y9 : y ≤ 9 := by omega
  rcases one9 y1 y9 with rfl | rfl | rfl | rfl | rfl | rfl | rfl | rfl | rfl
  · exact g7.trans (hl_r hL hl hp (by decide))
  · exact g9
  · exact g10
  · exact g11
  · exact g12.trans (hl_r hL hl hp (by decide))
  · exact g13.trans (hl_r hL hl hp (by decide))
  · exact g8.trans (hl_r hL hl hp (by decide))
  · exact g14
  · rw [c1] at g15; exact g15
/-- the shortest line from i on, b the best till there -/
def shR (c : Nat → Int) : Nat → Nat → Nat → Nat
  | 0, _, b => b
  | n + 1, i, b => shR c n (i + 1) (if c i < c b then i else b)
theorem cv_short (o : Nat) (I : IMem) : ∀ (m n i b : Nat), i + n = 6 → b < 6 → par (f_L_shortest_4 fu o m (b : Int) (i : Int) I) (fun v I' => I' = I ∧ v = (shR (I (o + 2)) n i b : Nat)) := by
  intro m
  induction m with
  | zero => intro _ _ _ _ _; exact par_none
  | succ m ih =>
    intro n i b hi hb
    show par (fb_L_shortest_4 fu o (f_L_shortest_4 fu o m) (b : Int) (i : Int) I) _
    unfold fb_L_shortest_4
    cases n with
    | zero =>
      rw [if_neg (by omega)]
      exact par_zr ⟨rfl, rfl⟩
    | succ n =>
      rw [if_pos (by omega)]
      refine par_zg (fun _ => par_zg (fun _ => ?_))
      simp only [zl_e, zj_e]
      have e4 : Wq (wr32 ((i : Int) + 1)) (((i + 1 : Nat) : Int)) := by show wr32 ((i : Int) + 1) = ((i + 1 : Nat) : Int); rw [wr32_i2 (by omega) (by omega)]; rfl
      rw [e4.e]
      show par (if I (o + 2) i < I (o + 2) b then _ else _) _
      refine par_ite (fun q => ?_) (fun q => ?_)
      · have g := ih n (i + 1) i (by omega) (by omega)
        have e : shR (I (o + 2)) (n + 1) i b = shR (I (o + 2)) n (i + 1) i := by
          show shR _ n (i + 1) (if I (o + 2) i < I (o + 2) b then i else b) = _
          rw [if_pos q]
        rw [e]; exact g
      · have g := ih n (i + 1) b (by omega) hb
        have e : shR (I (o + 2)) (n + 1) i b = shR (I (o + 2)) n (i + 1) b := by
          show shR _ n (i + 1) (if I (o + 2) i < I (o + 2) b then i else b) = _
          rw [if_neg q]
        rw [e]; exact g
theorem xv_short {Q : Int → IMem → Prop} (k : Int → IMem → Res) (p1 p2 : Int) (J : IMem) (c : Nat → Int) (hc : ∀ l, l < 6 → J 1 (130 + l) = c l) : ∀ (m n i b : Nat), i + n = 6 → b < 6 → par (k ((shR c n i b : Nat) : Int) J) Q → par (f_X_lineFor_38 fu k 0 p1 p2 m (b : Int) (i : Int) J) Q := by
  intro m
  induction m with
  | zero => intro _ _ _ _ _ _; exact par_none
  | succ m ih =>
    intro n i b hi hb hk
    show par (fb_X_lineFor_38 fu k 0 p1 p2 (f_X_lineFor_38 fu k 0 p1 p2 m) (b : Int) (i : Int) J) _
    unfold fb_X_lineFor_38
    cases n with
    | zero =>
      rw [if_neg (by omega)]
      exact hk
    | succ n =>
      rw [if_pos (by omega)]
      have w1 : Wq (wr32 (130 + (i : Int))) (((130 + i : Nat) : Int)) := by show wr32 (130 + (i : Int)) = ((130 + i : Nat) : Int); rw [wr32_i2 (by omega) (by omega)]; omega
      have w2 : Wq (wr32 (130 + (b : Int))) (((130 + b : Nat) : Int)) := by show wr32 (130 + (b : Int)) = ((130 + b : Nat) : Int); rw [wr32_i2 (by omega) (by omega)]; omega
      simp only [zl_e, zj_e]
      rw [w1.e, w2.e]
      refine par_zg (fun _ => par_zg (fun _ => ?_))
      have e4 : Wq (wr32 ((i : Int) + 1)) (((i + 1 : Nat) : Int)) := by show wr32 ((i : Int) + 1) = ((i + 1 : Nat) : Int); rw [wr32_i2 (by omega) (by omega)]; rfl
      rw [e4.e]
      show par (if J 1 (130 + i) < J 1 (130 + b) then _ else _) _
      rw [hc i (by omega), hc b hb]
      have e : shR c (n + 1) i b = shR c n (i + 1) (if c i < c b then i else b) := rfl
      rw [e] at hk
      refine par_ite (fun q => ?_) (fun q => ?_)
      · rw [if_pos q] at hk
        exact ih n (i + 1) i (by omega) (by omega) hk
      · rw [if_neg q] at hk
        exact ih n (i + 1) b (by omega) hb hk
/-- the facts of a comer, for THE LINES -/
def EF (c : Nat → Int) (says sort : Int) : Nat → Int := fun y => if y = 1 then says else if y = 7 then sort else if y = 10 then ((shR c 5 1 0 : Nat) : Int) else c 0
theorem wand1 (x : Int) : wand x 1 = 0 ∨ wand x 1 = 1 := by
  have h1 : (iv x &&& iv 1).toBitVec.toNat < 2 ^ 1 := by
    rw [Int32.toBitVec_and, BitVec.toNat_and]
    exact Nat.and_lt_two_pow _ (by decide)
  have h2 : (iv x &&& iv 1).toBitVec.toInt = ((iv x &&& iv 1).toBitVec.toNat : Int) := BitVec.toInt_eq_toNat_of_lt (by omega)
  have h3 : wand x 1 = (iv x &&& iv 1).toBitVec.toInt := rfl
  omega
theorem lv4_rng {l : List LRec} {F : Nat → Int} (ho : ∀ (i : Nat) (r : LRec), l[i]? = some r → GRL 4 r) : 0 ≤ lval 4 F l ∧ lval 4 F l ≤ 5 := by
  induction l with
  | nil =>
    show (0 : Int) ≤ 0 ∧ (0 : Int) ≤ 5
    exact ⟨Int.le_refl _, by decide⟩
  | cons r t ih =>
    have h := ih (fun i r' hr => ho (i + 1) r' (by simpa using hr))
    have h0 := (ho 0 r rfl).2.2 rfl
    show 0 ≤ (if r.B = [] ∨ evV F r.B = 1 then (if (4 : Int) = 4 then r.v else evV F r.E) else lval 4 F t) ∧ (if r.B = [] ∨ evV F r.B = 1 then (if (4 : Int) = 4 then r.v else evV F r.E) else lval 4 F t) ≤ 5
    split
    · rw [if_pos rfl]; exact h0
    · exact h
/-- where a comer goes -/
def LFv (z : Int) (law : List LRec) (c : Nat → Int) (says sort : Int) : Int := if z = -1 then lval 4 (EF c says sort) law else if 4 < says then 0 else wand (wshr z (wr32 (says - 1))) 1
theorem lf_rng {z says sort : Int} {law : List LRec} {c : Nat → Int} (ho : ∀ (i : Nat) (r : LRec), law[i]? = some r → GRL 4 r) : 0 ≤ LFv z law c says sort ∧ LFv z law c says sort ≤ 5 := by
  unfold LFv
  split
  · exact lv4_rng ho
  · split
    · exact ⟨Int.le_refl _, by decide⟩
    · have := wand1 (wshr z (wr32 (says - 1))); omega
theorem cv_lineFor {hb : Nat} {says sort : Int} {I : IMem} {law : List LRec} (ho : LOK 4 law) (h : LC (hb + 35) 4 law I) : par (f_H_lineFor fu hb says sort I) (fun v I' => v = LFv (I hb 11) law (I (hb + 8)) says sort ∧ ∀ q j, q ≠ hb + 13 → q ≠ hb + 39 → I' q j = I q j) := by
  unfold f_H_lineFor LFv
  refine par_ite (fun q => ?_) (fun q => ?_)
  · rw [if_pos q]
    refine par_zw' (fun I1 e1 => par_zw' (fun I2 e2 => ?_))
    have f2 : ∀ q j, q ≠ hb + 13 → I2 q j = I q j := fun q j hq => by rw [e2, if_neg (by omega), e1, if_neg (by omega)]
    unfold f_L_shortest
    refine par_zb (cv_short (hb + 6) I2 fu 5 1 0 (by decide) (by decide)) (fun v I3 ⟨g1, g2⟩ => ?_)
    have g1' := g1.symm
    subst g1'
    have c2 : I2 (hb + 6 + 2) = I (hb + 8) := funext (fun j => f2 _ _ (by omega))
    rw [c2] at g2
    refine par_zw' (fun I4 e4 => par_zw' (fun I5 e5 => ?_))
    have f5 : ∀ q j, q ≠ hb + 13 → I5 q j = I q j := fun q j hq => by rw [e5, if_neg (by omega), e4, if_neg (by omega)]; exact f2 q j hq
    have fm : FMAP 4 (I5 (hb + 13)) (EF (I (hb + 8)) says sort) := by
      intro y y1 y2 y3
      rcases (show y = 1 ∨ y = 7 ∨ y = 10 ∨ y = 11 by omega) with rfl | rfl | rfl | rfl
      · show I5 (hb + 13) 7 = says
        rw [e5, if_neg (by omega), e4, if_neg (by omega), e2, if_neg (by omega), e1, if_pos (by omega)]
      · show I5 (hb + 13) 8 = sort
        rw [e5, if_neg (by omega), e4, if_neg (by omega), e2, if_pos (by omega)]
      · show I5 (hb + 13) 5 = _
        rw [e5, if_neg (by omega), e4, if_pos (by omega), g2]
        rfl
      · show I5 (hb + 13) 6 = I (hb + 8) 0
        rw [e5, if_pos (by omega), e4, if_neg (by omega)]
        exact f2 _ _ (by omega)
    refine par_zb (cv_value (F := EF (I (hb + 8)) says sort) (fun d hd => by omega) ho I5 (lc_mv h (fun d j hd => f5 _ _ (by omega))) fm) (fun v I6 ⟨g3, g4⟩ => par_zr ⟨g3, fun q j h1 h2 => (g4 q j (by omega)).trans (f5 q j h1)⟩)
  · rw [if_neg q]
    refine par_ite (fun q2 => ?_) (fun q2 => ?_)
    · rw [if_pos q2]; exact par_zr ⟨rfl, fun _ _ _ _ => rfl⟩
    · rw [if_neg q2]; exact par_zr ⟨rfl, fun _ _ _ _ => rfl⟩
theorem xv_lineFor {says sort : Int} {J : IMem} {law : List LRec} {c : Nat → Int} (hc : ∀ l, l < 6 → J 1 (130 + l) = c l) (ho : LOK 4 law) (h : LX 1 4 law J) : par (f_X_lineFor fu 0 says sort J) (fun v J' => v = LFv (J 0 22) law c says sort ∧ ∀ q j, q ≠ 7 → q ≠ 8 → J' q j = J q j) := by
  unfold f_X_lineFor LFv
  refine par_ite (fun q => ?_) (fun q => ?_)
  · rw [if_pos q]
    refine xv_short _ says sort J c hc fu 5 1 0 (by decide) (by decide) ?_
    refine par_zw' (fun I1 e1 => par_zw' (fun I2 e2 => par_zw' (fun I3 e3 => par_zw' (fun I4 e4 => ?_))))
    have f3 : ∀ q j, q ≠ 8 → I3 q j = J q j := fun q j hq => by rw [e3, if_neg (by omega), e2, if_neg (by omega), e1, if_neg (by omega)]
    have f4 : ∀ q j, q ≠ 8 → I4 q j = J q j := fun q j hq => by rw [e4, if_neg (by omega)]; exact f3 q j hq
    have ag : AG 4 (I4 8) (EF c says sort) := by
      intro y y1 y2 y3
      rcases (show y = 1 ∨ y = 7 ∨ y = 10 ∨ y = 11 by omega) with rfl | rfl | rfl | rfl
      · show I4 8 1 = says
        rw [e4, if_neg (by omega), e3, if_neg (by omega), e2, if_neg (by omega), e1, if_pos (by omega)]
      · show I4 8 7 = sort
        rw [e4, if_neg (by omega), e3, if_neg (by omega), e2, if_pos (by omega)]
      · show I4 8 10 = _
        rw [e4, if_neg (by omega), e3, if_pos (by omega)]
        rfl
      · show I4 8 11 = c 0
        rw [e4, if_pos (by omega)]
        exact (f3 _ _ (by decide)).trans (hc 0 (by decide))
    have hx : LX 1 4 law I4 := lx_mv (by decide) ho h (fun j _ _ => f4 _ _ (by decide))
    refine par_zb (xv_first (k := 4) (by decide) ho I4 hx ag) (fun y J1 ⟨g1, g2⟩ => ?_)
    rcases g2 with ⟨g2, g3⟩ | ⟨i, r, hr, g2, g3⟩
    · rw [if_pos g2]
      exact par_zr ⟨g3.symm, fun q j h7 h8 => (g1 q j h7).trans (f4 q j h8)⟩
    · have hi := lt_of_get hr
      have o1 := ho.1
      rw [if_neg (by omega), g2]
      have w2 : Wq (wr32 (1590 + ((16 * 4 + i : Nat) : Int))) (((1590 + 16 * 4 + i : Nat) : Int)) := by show wr32 (1590 + ((16 * 4 + i : Nat) : Int)) = ((1590 + 16 * 4 + i : Nat) : Int); rw [wr32_i2 (by omega) (by omega)]; omega
      simp only [zl_e]
      rw [w2.e]
      refine par_zg (fun _ => par_zr ⟨?_, fun q j h7 h8 => (g1 q j h7).trans (f4 q j h8)⟩)
      have hx1 : LX 1 4 law J1 := lx_mv (by decide) ho hx (fun j _ _ => g1 _ _ (by decide))
      have := ((hx1.2.2 i r hr).2.2.2 rfl).2
      refine Eq.trans (b := J1 1 (1590 + 16 * 4 + i)) rfl (this.trans ?_)
      exact (g3.trans (if_pos rfl)).symm
  · rw [if_neg q]
    by_cases q2 : says < 5
    · rw [if_pos q2, if_neg (show ¬ 4 < says by omega)]
      refine par_ite (fun q3 => par_zr ⟨q3.symm, fun _ _ _ _ => rfl⟩) (fun q3 => par_zr ⟨?_, fun _ _ _ _ => rfl⟩)
      have := wand1 (wshr (J 0 22) (wr32 (says - 1)))
      omega
    · rw [if_neg q2, if_pos (show 4 < says by omega)]
      exact par_zr ⟨rfl, fun _ _ _ _ => rfl⟩
end
