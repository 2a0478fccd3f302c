/-! WORTH and the line of a comer on both sides -/
/-- an equation out of the solver's sight -/
def Wq (a b : Int) : Prop := a = b
theorem Wq.e {a b : Int} (h : Wq a b) : a = b := h
/-- the facts of a group for a RULE, by the reference's memory -/
def WF (J : IMem) (l p : Nat) (left taken : Int) : Nat → Int := fun y => if y = 1 then J 1 (140 + 6 * (40 * l + p) + 2) else if y = 2 then left else if y = 3 then p else if y = 4 then l else if y = 5 then J 1 (140 + 6 * (40 * l + p) + 5) else if y = 6 then J 1 (140 + 6 * (40 * l + p) + 4) else if y = 7 then J 1 (140 + 6 * (40 * l + p) + 3) else if y = 8 then taken else J 1 (130 + l) - 1 - p
theorem one9 {y : Int} (h1 : 1 ≤ y) (h2 : y ≤ 9) : y = 1 ∨ y = 2 ∨ y = 3 ∨ y = 4 ∨ y = 5 ∨ y = 6 ∨ y = 7 ∨ y = 8 ∨ y = 9 := by omega
section
variable {fu : Nat}
theorem xv_worth {l p k : Nat} {left taken : Int} {J : IMem} {law : List LRec} (hl : l < 6) (hp : (p : Int) < J 1 (130 + l)) (hm : J 1 (130 + l) ≤ 40) (hk : k < 4) (hf : J 1 6 = k) (ho : LOK k law) (h : LX 1 k law J) : par (f_X_worth fu 0 l p left taken J) (fun v J' => v = lval k (WF J l p left taken) law ∧ ∀ q j, q ≠ 7 → q ≠ 8 → J' q j = J q j) := by
  have hp4 : p < 40 := by omega
  unfold f_X_worth
  simp only [zl_e]
  rw [ev_of2 fu 0 l p _ hl hp4, zb_zr]
  refine par_zw' (fun I1 e1 => par_zw' (fun I2 e2 => par_zw' (fun I3 e3 => par_zw' (fun I4 e4 => ?_))))
  rw [ev_of5 fu 0 l p _ hl hp4, zb_zr]
  refine par_zw' (fun I5 e5 => ?_)
  rw [ev_of4 fu 0 l p _ hl hp4, zb_zr]
  refine par_zw' (fun I6 e6 => ?_)
  rw [ev_of3 fu 0 l p _ hl hp4, zb_zr]
  refine par_zw' (fun I7 e7 => par_zw' (fun I8 e8 => ?_))
  have w1 : Wq (wr32 (130 + (l : Int))) (((130 + l : Nat) : Int)) := by show wr32 (130 + (l : Int)) = ((130 + l : Nat) : Int); rw [wr32_i2 (by omega) (by omega)]; omega
  rw [w1.e]
  refine par_zg (fun _ => par_zw' (fun I9 e9 => ?_))
  rw [show ((130 + l : Nat) : Int).toNat = 130 + l from rfl] at e9
  have f8 : ∀ q j, q ≠ 8 → I8 q j = J q j := fun q j hq => by rw [e8, if_neg (by omega), e7, if_neg (by omega), e6, if_neg (by omega), e5, if_neg (by omega), e4, if_neg (by omega), e3, if_neg (by omega), e2, if_neg (by omega), e1, if_neg (by omega)]
  have f9 : ∀ q j, q ≠ 8 → I9 q j = J q j := fun q j hq => by rw [e9, if_neg (by omega)]; exact f8 q j hq
  have f4 : ∀ q j, q ≠ 8 → I4 q j = J q j := fun q j hq => by rw [e4, if_neg (by omega), e3, if_neg (by omega), e2, if_neg (by omega), e1, if_neg (by omega)]
  have f5 : ∀ q j, q ≠ 8 → I5 q j = J q j := fun q j hq => by rw [e5, if_neg (by omega)]; exact f4 q j hq
  have f6 : ∀ q j, q ≠ 8 → I6 q j = J q j := fun q j hq => by rw [e6, if_neg (by omega)]; exact f5 q j hq
  have ag : AG k (I9 8) (WF J l p left taken) := by
    intro y y1 y2 y3
    have y9 : y ≤ 9 := by omega
    rcases one9 y1 y9 with rfl | rfl | rfl | rfl | rfl | rfl | rfl | rfl | rfl
    · show I9 8 1 = J 1 (140 + 6 * (40 * l + p) + 2)
      rw [e9, if_neg (by omega), e8, if_neg (by omega), e7, if_neg (by omega), e6, if_neg (by omega), e5, if_neg (by omega), e4, if_neg (by omega), e3, if_neg (by omega), e2, if_neg (by omega), e1, if_pos (by omega)]
    · show I9 8 2 = left
      rw [e9, if_neg (by omega), e8, if_neg (by omega), e7, if_neg (by omega), e6, if_neg (by omega), e5, if_neg (by omega), e4, if_neg (by omega), e3, if_neg (by omega), e2, if_pos (by omega)]
    · show I9 8 3 = (p : Int)
      rw [e9, if_neg (by omega), e8, if_neg (by omega), e7, if_neg (by omega), e6, if_neg (by omega), e5, if_neg (by omega), e4, if_neg (by omega), e3, if_pos (by omega)]
    · show I9 8 4 = (l : Int)
      rw [e9, if_neg (by omega), e8, if_neg (by omega), e7, if_neg (by omega), e6, if_neg (by omega), e5, if_neg (by omega), e4, if_pos (by omega)]
    · show I9 8 5 = J 1 (140 + 6 * (40 * l + p) + 5)
      rw [e9, if_neg (by omega), e8, if_neg (by omega), e7, if_neg (by omega), e6, if_neg (by omega), e5, if_pos (by omega)]
      exact f4 _ _ (by decide)
    · show I9 8 6 = J 1 (140 + 6 * (40 * l + p) + 4)
      rw [e9, if_neg (by omega), e8, if_neg (by omega), e7, if_neg (by omega), e6, if_pos (by omega)]
      exact f5 _ _ (by decide)
    · show I9 8 7 = J 1 (140 + 6 * (40 * l + p) + 3)
      rw [e9, if_neg (by omega), e8, if_neg (by omega), e7, if_pos (by omega)]
      exact f6 _ _ (by decide)
    · show I9 8 8 = taken
      rw [e9, if_neg (by omega), e8, if_pos (by omega)]
    · show I9 8 9 = J 1 (130 + l) - 1 - p
      rw [e9, if_pos (by omega), f8 _ _ (by decide)]
      show wr32 (wr32 (J 1 (130 + l) - 1) - p) = _
      rw [wr32_i2 (x := J 1 (130 + l) - 1) (by omega) (by omega), wr32_i2 (by omega) (by omega)]
  have hx : LX 1 k law I9 := lx_mv (by omega) ho h (fun j _ _ => f9 _ _ (by decide))
  show par (zb (f_X_firstLine fu 0 (J 1 6) I9) _) _
  rw [hf]
  refine par_zb (xv_first (by omega) ho I9 hx ag) (fun y J1 ⟨g1, g2⟩ => ?_)
  rcases g2 with ⟨g2, g3⟩ | ⟨i, r, hr, g2, g3⟩
  · rw [if_pos g2]
    exact par_zr ⟨g3.symm, fun q j h7 h8 => (g1 q j h7).trans (f9 q j h8)⟩
  · have hi := lt_of_get hr
    have o1 := ho.1
    rw [if_neg (by omega), g2]
    have w2 : Wq (wr32 (1670 + ((16 * k + i : Nat) : Int))) (((1670 + 16 * k + i : Nat) : Int)) := by show wr32 (1670 + ((16 * k + i : Nat) : Int)) = ((1670 + 16 * k + i : Nat) : Int); rw [wr32_i2 (by omega) (by omega)]; omega
    have w3 : Wq (wr32 (1750 + ((16 * k + i : Nat) : Int))) (((1750 + 16 * k + i : Nat) : Int)) := by show wr32 (1750 + ((16 * k + i : Nat) : Int)) = ((1750 + 16 * k + i : Nat) : Int); rw [wr32_i2 (by omega) (by omega)]; omega
    rw [w2.e, w3.e]
    refine par_zg (fun _ => par_zg (fun _ => ?_))
    have hx1 : LX 1 k law J1 := lx_mv (by omega) ho hx (fun j _ _ => g1 _ _ (by decide))
    obtain ⟨p1, p2, _, _⟩ := hx1.2.2 i r hr
    have hg := ho.2.2.2 i r hr
    obtain ⟨b, hb⟩ := hg.1 (by omega)
    have hxx := px_at hr
    have hlen := ho.2.2.1
    rw [hxx, List.length_append, List.length_append, List.length_append] at hlen
    have hseg := seg2_of (c := fun j => J1 1 (1910 + 820 * k + j)) (PX law) 0 (fun t ht => by rw [Nat.zero_add]; exact hx1.2.1 t ht)
    rw [hxx] at hseg
    have sg := (seg2_app _ _ _ (seg2_app _ _ _ hseg).2).1
    have sg1 := (seg2_app _ _ _ sg).1
    rw [Nat.zero_add] at sg1
    have ag1 : AG k (J1 8) (WF J l p left taken) := fun y a c d => by rw [g1 _ _ (by decide)]; exact ag y a c d
    refine par_zb (Q1 := fun v J' => v = evV (J1 8) r.E ∧ ∀ q j, q ≠ 7 → J' q j = J1 q j) ?_ (fun v J2 ⟨g4, g5⟩ => par_zr ⟨?_, fun q j h7 h8 => (g5 q j h7).trans ((g1 q j h7).trans (f9 q j h8))⟩)
    · show par (f_X_comesTo fu 0 (k : Int) (J1 1 (1670 + 16 * k + i)) (J1 1 (1750 + 16 * k + i)) J1) _
      rw [p1, p2]
      exact cmx_val k _ (by omega) r.E J1 _ (by omega) sg1 hb (by omega)
    · rw [g4, g3, if_neg (by omega), evV_ag ag1 hb]
theorem cv_weigh {hb l p : Nat} {left taken : Int} {I : IMem} (hl : l < 6) (hp4 : p < 40) (hm : I (hb + 8) l ≤ 40 ∧ 0 ≤ I (hb + 8) l) : par (f_H_weigh fu hb ((40 * l + p : Nat) : Int) left taken I) (fun _ I' => (∀ q j, q ≠ hb + 13 → I' q j = I q j) ∧ I' (hb + 13) 7 = I (hb + 7) (6 * (40 * l + p) + 2) ∧ I' (hb + 13) 9 = left ∧ I' (hb + 13) 10 = p ∧ I' (hb + 13) 11 = l ∧ I' (hb + 13) 12 = I (hb + 7) (6 * (40 * l + p) + 5) ∧ I' (hb + 13) 13 = I (hb + 7) (6 * (40 * l + p) + 4) ∧ I' (hb + 13) 8 = I (hb + 7) (6 * (40 * l + p) + 3) ∧ I' (hb + 13) 14 = taken ∧ I' (hb + 13) 15 = I (hb + 8) l - 1 - p) := by
  have hk : 40 * l + p < 240 := by omega
  have d1 : (40 * l + p) / 40 = l := by omega
  have d2 : (40 * l + p) % 40 = p := by omega
  unfold f_H_weigh
  simp only [zl_e]
  rw [wd40 _ hk, wr40 _ hk, d1, d2, ev_get2 fu (hb + 6) _ _ hk, zb_zr]
  refine par_zw' (fun I1 e1 => par_zw' (fun I2 e2 => par_zw' (fun I3 e3 => par_zw' (fun I4 e4 => ?_))))
  rw [ev_get5 fu (hb + 6) _ _ hk, zb_zr]
  refine par_zw' (fun I5 e5 => ?_)
  rw [ev_get4 fu (hb + 6) _ _ hk, zb_zr]
  refine par_zw' (fun I6 e6 => ?_)
  rw [ev_get3 fu (hb + 6) _ _ hk, zb_zr]
  refine par_zw' (fun I7 e7 => par_zw' (fun I8 e8 => ?_))
  have f4 : ∀ q j, q ≠ hb + 13 → I4 q j = I q j := fun q j hq => by rw [e4, if_neg (by omega), e3, if_neg (by omega), e2, if_neg (by omega), e1, if_neg (by omega)]
  have f5 : ∀ q j, q ≠ hb + 13 → I5 q j = I q j := fun q j hq => by rw [e5, if_neg (by omega)]; exact f4 q j hq
  have f6 : ∀ q j, q ≠ hb + 13 → I6 q j = I q j := fun q j hq => by rw [e6, if_neg (by omega)]; exact f5 q j hq
  have f8 : ∀ q j, q ≠ hb + 13 → I8 q j = I q j := fun q j hq => by rw [e8, if_neg (by omega), e7, if_neg (by omega)]; exact f6 q j hq
  have c8 : I8 (hb + 6 + 2) l = I (hb + 8) l := f8 _ _ (by omega)
  rw [ev_countOf fu (hb + 6) l I8 hl (by rw [c8]; exact hm.1), zb_zr, c8]
  refine par_zw' (fun I9 e9 => par_zr ⟨fun q j hq => by rw [e9, if_neg (by omega)]; exact f8 q j hq, ?_, ?_, ?_, ?_, ?_, ?_, ?_, ?_, ?_⟩)
  · rw [e9, if_neg (by omega), e8, if_neg (by omega), e7, if_neg (by omega), e6, if_neg (by omega), e5, if_neg (by omega), e4, if_neg (by omega), e3, if_neg (by omega), e2, if_neg (by omega), e1, if_pos (by omega)]
  · rw [e9, if_neg (by omega), e8, if_neg (by omega), e7, if_neg (by omega), e6, if_neg (by omega), e5, if_neg (by omega), e4, if_neg (by omega), e3, if_neg (by omega), e2, if_pos (by omega)]
  · rw [e9, if_neg (by omega), e8, if_neg (by omega), e7, if_neg (by omega), e6, if_neg (by omega), e5, if_neg (by omega), e4, if_neg (by omega), e3, if_pos (by omega)]
  · rw [e9, if_neg (by omega), e8, if_neg (by omega), e7, if_neg (by omega), e6, if_neg (by omega), e5, if_neg (by omega), e4, if_pos (by omega)]
  · rw [e9, if_neg (by omega), e8, if_neg (by omega), e7, if_neg (by omega), e6, if_neg (by omega), e5, if_pos (by omega)]
    exact f4 _ _ (by omega)
  · rw [e9, if_neg (by omega), e8, if_neg (by omega), e7, if_neg (by omega), e6, if_pos (by omega)]
    exact f5 _ _ (by omega)
  · rw [e9, if_neg (by omega), e8, if_neg (by omega), e7, if_pos (by omega)]
    exact f6 _ _ (by omega)
  · rw [e9, if_neg (by omega), e8, if_pos (by omega)]
  · rw [e9, if_pos (by omega), wr32_i2 (x := I (hb + 8) l - p) (by omega) (by omega), wr32_i2 (by omega) (by omega)]
    omega
/-- weighed: the class's facts are the reference's -/
theorem cv_facts {hb l p : Nat} {left taken : Int} {s : Int} {I J : IMem} (hs : s ≠ 4) (hL : HL hb 1 I J) (hl : l < 6) (hp : (p : Int) < J 1 (130 + l)) : par (f_H_weigh fu hb ((40 * l + p : Nat) : Int) left taken I) (fun _ I' => (∀ q j, q ≠ hb + 13 → I' q j = I q j) ∧ FMAP s (I' (hb + 13)) (WF J l p left taken)) := by
  obtain ⟨c1, c2, c3⟩ := hl_c hL hl
  refine par_mono (cv_weigh hl (by omega) (by omega)) (fun _ I' ⟨g0, g7, g9, g10, g11, g12, g13, g8, g14, g15⟩ => ⟨g0, ?_⟩)
  intro y y1 y2 y3
  have y9 : y ≤ 9 := by omega
  rcases one9 y1 y9 with rfl | rfl | rfl | rfl | rfl | rfl | rfl | rfl | rfl
  · exact g7.trans (hl_r hL hl hp (by decide))
  · exact g9
  · exact g10
  · exact g11
  · exact g12.trans (hl_r hL hl hp (by decide))
  · exact g13.trans (hl_r hL hl hp (by decide))
  · exact g8.trans (hl_r hL hl hp (by decide))
  · exact g14
  · rw [c1] at g15; exact g15
/-- the shortest line from i on, b the best till there -/
def shR (c : Nat → Int) : Nat → Nat → Nat → Nat
  | 0, _, b => b
  | n + 1, i, b => shR c n (i + 1) (if c i < c b then i else b)
theorem cv_short (o : Nat) (I : IMem) : ∀ (m n i b : Nat), i + n = 6 → b < 6 → par (f_L_shortest_4 fu o m (b : Int) (i : Int) I) (fun v I' => I' = I ∧ v = (shR (I (o + 2)) n i b : Nat)) := by
  intro m
  induction m with
  | zero => intro _ _ _ _ _; exact par_none
  | succ m ih =>
    intro n i b hi hb
    show par (fb_L_shortest_4 fu o (f_L_shortest_4 fu o m) (b : Int) (i : Int) I) _
    unfold fb_L_shortest_4
    cases n with
    | zero =>
      rw [if_neg (by omega)]
      exact par_zr ⟨rfl, rfl⟩
    | succ n =>
      rw [if_pos (by omega)]
      refine par_zg (fun _ => par_zg (fun _ => ?_))
      simp only [zl_e, zj_e]
      have e4 : Wq (wr32 ((i : Int) + 1)) (((i + 1 : Nat) : Int)) := by show wr32 ((i : Int) + 1) = ((i + 1 : Nat) : Int); rw [wr32_i2 (by omega) (by omega)]; rfl
      rw [e4.e]
      show par (if I (o + 2) i < I (o + 2) b then _ else _) _
      refine par_ite (fun q => ?_) (fun q => ?_)
      · have g := ih n (i + 1) i (by omega) (by omega)
        have e : shR (I (o + 2)) (n + 1) i b = shR (I (o + 2)) n (i + 1) i := by
          show shR _ n (i + 1) (if I (o + 2) i < I (o + 2) b then i else b) = _
          rw [if_pos q]
        rw [e]; exact g
      · have g := ih n (i + 1) b (by omega) hb
        have e : shR (I (o + 2)) (n + 1) i b = shR (I (o + 2)) n (i + 1) b := by
          show shR _ n (i + 1) (if I (o + 2) i < I (o + 2) b then i else b) = _
          rw [if_neg q]
        rw [e]; exact g
theorem xv_short {Q : Int → IMem → Prop} (k : Int → IMem → Res) (p1 p2 : Int) (J : IMem) (c : Nat → Int) (hc : ∀ l, l < 6 → J 1 (130 + l) = c l) : ∀ (m n i b : Nat), i + n = 6 → b < 6 → par (k ((shR c n i b : Nat) : Int) J) Q → par (f_X_lineFor_38 fu k 0 p1 p2 m (b : Int) (i : Int) J) Q := by
  intro m
  induction m with
  | zero => intro _ _ _ _ _ _; exact par_none
  | succ m ih =>
    intro n i b hi hb hk
    show par (fb_X_lineFor_38 fu k 0 p1 p2 (f_X_lineFor_38 fu k 0 p1 p2 m) (b : Int) (i : Int) J) _
    unfold fb_X_lineFor_38
    cases n with
    | zero =>
      rw [if_neg (by omega)]
      exact hk
    | succ n =>
      rw [if_pos (by omega)]
      have w1 : Wq (wr32 (130 + (i : Int))) (((130 + i : Nat) : Int)) := by show wr32 (130 + (i : Int)) = ((130 + i : Nat) : Int); rw [wr32_i2 (by omega) (by omega)]; omega
      have w2 : Wq (wr32 (130 + (b : Int))) (((130 + b : Nat) : Int)) := by show wr32 (130 + (b : Int)) = ((130 + b : Nat) : Int); rw [wr32_i2 (by omega) (by omega)]; omega
      simp only [zl_e, zj_e]
      rw [w1.e, w2.e]
      refine par_zg (fun _ => par_zg (fun _ => ?_))
      have e4 : Wq (wr32 ((i : Int) + 1)) (((i + 1 : Nat) : Int)) := by show wr32 ((i : Int) + 1) = ((i + 1 : Nat) : Int); rw [wr32_i2 (by omega) (by omega)]; rfl
      rw [e4.e]
      show par (if J 1 (130 + i) < J 1 (130 + b) then _ else _) _
      rw [hc i (by omega), hc b hb]
      have e : shR c (n + 1) i b = shR c n (i + 1) (if c i < c b then i else b) := rfl
      rw [e] at hk
      refine par_ite (fun q => ?_) (fun q => ?_)
      · rw [if_pos q] at hk
        exact ih n (i + 1) i (by omega) (by omega) hk
      · rw [if_neg q] at hk
        exact ih n (i + 1) b (by omega) hb hk
/-- the facts of a comer, for THE LINES -/
def EF (c : Nat → Int) (says sort : Int) : Nat → Int := fun y => if y = 1 then says else if y = 7 then sort else if y = 10 then ((shR c 5 1 0 : Nat) : Int) else c 0
theorem wand1 (x : Int) : wand x 1 = 0 ∨ wand x 1 = 1 := by
  have h1 : (iv x &&& iv 1).toBitVec.toNat < 2 ^ 1 := by
    rw [Int32.toBitVec_and, BitVec.toNat_and]
    exact Nat.and_lt_two_pow _ (by decide)
  have h2 : (iv x &&& iv 1).toBitVec.toInt = ((iv x &&& iv 1).toBitVec.toNat : Int) := BitVec.toInt_eq_toNat_of_lt (by omega)
  have h3 : wand x 1 = (iv x &&& iv 1).toBitVec.toInt := rfl
  omega
theorem lv4_rng {l : List LRec} {F : Nat → Int} (ho : ∀ (i : Nat) (r : LRec), l[i]? = some r → GRL 4 r) : 0 ≤ lval 4 F l ∧ lval 4 F l ≤ 5 := by
  induction l with
  | nil =>
    show (0 : Int) ≤ 0 ∧ (0 : Int) ≤ 5
    exact ⟨Int.le_refl _, by decide⟩
  | cons r t ih =>
    have h := ih (fun i r' hr => ho (i + 1) r' (by simpa using hr))
    have h0 := (ho 0 r rfl).2.2 rfl
    show 0 ≤ (if r.B = [] ∨ evV F r.B = 1 then (if (4 : Int) = 4 then r.v else evV F r.E) else lval 4 F t) ∧ (if r.B = [] ∨ evV F r.B = 1 then (if (4 : Int) = 4 then r.v else evV F r.E) else lval 4 F t) ≤ 5
    split
    · rw [if_pos rfl]; exact h0
    · exact h
/-- where a comer goes -/
def LFv (z : Int) (law : List LRec) (c : Nat → Int) (says sort : Int) : Int := if z = -1 then lval 4 (EF c says sort) law else if 4 < says then 0 else wand (wshr z (wr32 (says - 1))) 1
theorem lf_rng {z says sort : Int} {law : List LRec} {c : Nat → Int} (ho : ∀ (i : Nat) (r : LRec), law[i]? = some r → GRL 4 r) : 0 ≤ LFv z law c says sort ∧ LFv z law c says sort ≤ 5 := by
  unfold LFv
  split
  · exact lv4_rng ho
  · split
    · exact ⟨Int.le_refl _, by decide⟩
    · have := wand1 (wshr z (wr32 (says - 1))); omega
theorem cv_lineFor {hb : Nat} {says sort : Int} {I : IMem} {law : List LRec} (ho : LOK 4 law) (h : LC (hb + 35) 4 law I) : par (f_H_lineFor fu hb says sort I) (fun v I' => v = LFv (I hb 11) law (I (hb + 8)) says sort ∧ ∀ q j, q ≠ hb + 13 → q ≠ hb + 39 → I' q j = I q j) := by
  unfold f_H_lineFor LFv
  refine par_ite (fun q => ?_) (fun q => ?_)
  · rw [if_pos q]
    refine par_zw' (fun I1 e1 => par_zw' (fun I2 e2 => ?_))
    have f2 : ∀ q j, q ≠ hb + 13 → I2 q j = I q j := fun q j hq => by rw [e2, if_neg (by omega), e1, if_neg (by omega)]
    unfold f_L_shortest
    refine par_zb (cv_short (hb + 6) I2 fu 5 1 0 (by decide) (by decide)) (fun v I3 ⟨g1, g2⟩ => ?_)
    have g1' := g1.symm
    subst g1'
    have c2 : I2 (hb + 6 + 2) = I (hb + 8) := funext (fun j => f2 _ _ (by omega))
    rw [c2] at g2
    refine par_zw' (fun I4 e4 => par_zw' (fun I5 e5 => ?_))
    have f5 : ∀ q j, q ≠ hb + 13 → I5 q j = I q j := fun q j hq => by rw [e5, if_neg (by omega), e4, if_neg (by omega)]; exact f2 q j hq
    have fm : FMAP 4 (I5 (hb + 13)) (EF (I (hb + 8)) says sort) := by
      intro y y1 y2 y3
      rcases (show y = 1 ∨ y = 7 ∨ y = 10 ∨ y = 11 by omega) with rfl | rfl | rfl | rfl
      · show I5 (hb + 13) 7 = says
        rw [e5, if_neg (by omega), e4, if_neg (by omega), e2, if_neg (by omega), e1, if_pos (by omega)]
      · show I5 (hb + 13) 8 = sort
        rw [e5, if_neg (by omega), e4, if_neg (by omega), e2, if_pos (by omega)]
      · show I5 (hb + 13) 5 = _
        rw [e5, if_neg (by omega), e4, if_pos (by omega), g2]
        rfl
      · show I5 (hb + 13) 6 = I (hb + 8) 0
        rw [e5, if_pos (by omega), e4, if_neg (by omega)]
        exact f2 _ _ (by omega)
    refine par_zb (cv_value (F := EF (I (hb + 8)) says sort) (fun d hd => by omega) ho I5 (lc_mv h (fun d j hd => f5 _ _ (by omega))) fm) (fun v I6 ⟨g3, g4⟩ => par_zr ⟨g3, fun q j h1 h2 => (g4 q j (by omega)).trans (f5 q j h1)⟩)
  · rw [if_neg q]
    refine par_ite (fun q2 => ?_) (fun q2 => ?_)
    · rw [if_pos q2]; exact par_zr ⟨rfl, fun _ _ _ _ => rfl⟩
    · rw [if_neg q2]; exact par_zr ⟨rfl, fun _ _ _ _ => rfl⟩
theorem xv_lineFor {says sort : Int} {J : IMem} {law : List LRec} {c : Nat → Int} (hc : ∀ l, l < 6 → J 1 (130 + l) = c l) (ho : LOK 4 law) (h : LX 1 4 law J) : par (f_X_lineFor fu 0 says sort J) (fun v J' => v = LFv (J 0 22) law c says sort ∧ ∀ q j, q ≠ 7 → q ≠ 8 → J' q j = J q j) := by
  unfold f_X_lineFor LFv
  refine par_ite (fun q => ?_) (fun q => ?_)
  · rw [if_pos q]
    refine xv_short _ says sort J c hc fu 5 1 0 (by decide) (by decide) ?_
    refine par_zw' (fun I1 e1 => par_zw' (fun I2 e2 => par_zw' (fun I3 e3 => par_zw' (fun I4 e4 => ?_))))
    have f3 : ∀ q j, q ≠ 8 → I3 q j = J q j := fun q j hq => by rw [e3, if_neg (by omega), e2, if_neg (by omega), e1, if_neg (by omega)]
    have f4 : ∀ q j, q ≠ 8 → I4 q j = J q j := fun q j hq => by rw [e4, if_neg (by omega)]; exact f3 q j hq
    have ag : AG 4 (I4 8) (EF c says sort) := by
      intro y y1 y2 y3
      rcases (show y = 1 ∨ y = 7 ∨ y = 10 ∨ y = 11 by omega) with rfl | rfl | rfl | rfl
      · show I4 8 1 = says
        rw [e4, if_neg (by omega), e3, if_neg (by omega), e2, if_neg (by omega), e1, if_pos (by omega)]
      · show I4 8 7 = sort
        rw [e4, if_neg (by omega), e3, if_neg (by omega), e2, if_pos (by omega)]
      · show I4 8 10 = _
        rw [e4, if_neg (by omega), e3, if_pos (by omega)]
        rfl
      · show I4 8 11 = c 0
        rw [e4, if_pos (by omega)]
        exact (f3 _ _ (by decide)).trans (hc 0 (by decide))
    have hx : LX 1 4 law I4 := lx_mv (by decide) ho h (fun j _ _ => f4 _ _ (by decide))
    refine par_zb (xv_first (k := 4) (by decide) ho I4 hx ag) (fun y J1 ⟨g1, g2⟩ => ?_)
    rcases g2 with ⟨g2, g3⟩ | ⟨i, r, hr, g2, g3⟩
    · rw [if_pos g2]
      exact par_zr ⟨g3.symm, fun q j h7 h8 => (g1 q j h7).trans (f4 q j h8)⟩
    · have hi := lt_of_get hr
      have o1 := ho.1
      rw [if_neg (by omega), g2]
      have w2 : Wq (wr32 (1590 + ((16 * 4 + i : Nat) : Int))) (((1590 + 16 * 4 + i : Nat) : Int)) := by show wr32 (1590 + ((16 * 4 + i : Nat) : Int)) = ((1590 + 16 * 4 + i : Nat) : Int); rw [wr32_i2 (by omega) (by omega)]; omega
      simp only [zl_e]
      rw [w2.e]
      refine par_zg (fun _ => par_zr ⟨?_, fun q j h7 h8 => (g1 q j h7).trans (f4 q j h8)⟩)
      have hx1 : LX 1 4 law J1 := lx_mv (by decide) ho hx (fun j _ _ => g1 _ _ (by decide))
      have := ((hx1.2.2 i r hr).2.2.2 rfl).2
      refine Eq.trans (b := J1 1 (1590 + 16 * 4 + i)) rfl (this.trans ?_)
      exact (g3.trans (if_pos rfl)).symm
  · rw [if_neg q]
    by_cases q2 : says < 5
    · rw [if_pos q2, if_neg (show ¬ 4 < says by omega)]
      refine par_ite (fun q3 => par_zr ⟨q3.symm, fun _ _ _ _ => rfl⟩) (fun q3 => par_zr ⟨?_, fun _ _ _ _ => rfl⟩)
      have := wand1 (wshr (J 0 22) (wr32 (says - 1)))
      omega
    · rw [if_neg q2, if_pos (show 4 < says by omega)]
      exact par_zr ⟨rfl, fun _ _ _ _ => rfl⟩
end
/-! a group comes, on both sides -/
def HA (hb : Nat) (I : IMem) : Prop := I (hb + 14) 4 = 0 ∧ I (hb + 14) 5 = 0
def HX (hb : Nat) (I J : IMem) : Prop := HR hb 1 I J ∧ I hb 11 = J 0 22 ∧ HA hb I
section
variable {fu : Nat}
theorem cv_append {hb l o2 n2 a : Nat} {I : IMem} (hl : l < 6) (hc : 0 ≤ I (hb + 8) l ∧ I (hb + 8) l ≤ 40) (ha : a + 6 ≤ n2) (hn : n2 < 1000) : par (f_L_append fu (hb + 6) (l : Int) o2 n2 (a : Int) I) (fun v I' => (v = 0 ∧ I (hb + 8) l = 40 ∧ I' = I) ∨ (v = 1 ∧ I (hb + 8) l < 40 ∧ ∀ q j, I' q j = if q = hb + 8 ∧ j = l then I (hb + 8) l + 1 else if q = hb + 7 ∧ 6 * (40 * l + (I (hb + 8) l).toNat) ≤ j ∧ j < 6 * (40 * l + (I (hb + 8) l).toNat) + 6 then I o2 (a + (j - 6 * (40 * l + (I (hb + 8) l).toNat))) else I q j)) := by
  unfold f_L_append
  rw [ev_isLine, if_pos (by omega), zb_zr, if_neg (by decide)]
  refine par_zg (fun _ => ?_)
  show par (if I (hb + 8) l < 40 then _ else _) _
  refine par_ite (fun q => ?_) (fun q => par_zr (Or.inl ⟨rfl, by omega, rfl⟩))
  rw [if_neg (by omega), if_neg (by rw [wr32_i2 (by omega) (by omega)]; omega)]
  refine par_zg (fun _ => ?_)
  simp only [zl_e]
  generalize hcn : (I (hb + 8) l).toNat = c
  have w1 : Wq (wr32 (wr32 ((l : Int) * 40) + I (hb + 6 + 2) (l : Int).toNat)) (((40 * l + c : Nat) : Int)) := by
    show (wr32 (wr32 ((l : Int) * 40) + I (hb + 6 + 2) (l : Int).toNat)) = (((40 * l + c : Nat) : Int))
    rw [wr32_i2 (x := (l : Int) * 40) (by omega) (by omega)]
    show wr32 ((l : Int) * 40 + I (hb + 8) l) = _
    rw [wr32_i2 (by omega) (by omega)]; omega
  rw [w1.e]
  have w2 : Wq (wr32 (((40 * l + c : Nat) : Int) * 6)) (((6 * (40 * l + c) : Nat) : Int)) := by show wr32 (((40 * l + c : Nat) : Int) * 6) = ((6 * (40 * l + c) : Nat) : Int); rw [wr32_i2 (by omega) (by omega)]; omega
  rw [w2.e]
  refine par_zg (fun _ => par_zc' (fun I1 e1 => par_zg (fun _ => par_zg (fun _ => par_zw' (fun I2 e2 => par_zr (Or.inr ⟨rfl, q, fun p j => ?_⟩))))))
  rw [e2]
  have c1 : I1 (hb + 6 + 2) (l : Int).toNat = I (hb + 8) l := by
    rw [e1, if_neg (by omega)]; rfl
  rw [c1, wr32_i2 (x := I (hb + 8) l + 1) (by omega) (by omega)]
  show (if p = hb + 8 ∧ j = l then _ else _) = _
  by_cases h1 : p = hb + 8 ∧ j = l
  · rw [if_pos h1, if_pos h1]
  · rw [if_neg h1, if_neg h1, e1]
    by_cases h2 : p = hb + 7 ∧ 6 * (40 * l + c) ≤ j ∧ j < 6 * (40 * l + c) + 6
    · rw [if_pos h2, if_pos (by omega)]
      rfl
    · rw [if_neg h2, if_neg (by omega)]
/-- a row's cells -/
def RWc (a2 a3 a4 a5 a6 a7 : Int) : Nat → Int := fun f => if f = 0 then a2 else if f = 1 then a3 else if f = 2 then a4 else if f = 3 then a5 else if f = 4 then a6 else a7
theorem xv_stands {l : Nat} {a2 a3 a4 a5 a6 a7 : Int} {J : IMem} (hl : l < 6) (hc : 0 ≤ J 1 (130 + l) ∧ J 1 (130 + l) ≤ 40) : par (f_X_stands fu 0 (l : Int) a2 a3 a4 a5 a6 a7 J) (fun v J' => (v = 0 ∧ J 1 (130 + l) = 40 ∧ (∀ q j, ¬ (q = 1 ∧ j = 76) → ¬ (q = 0 ∧ j = 24) → J' q j = J q j) ∧ J' 1 76 = wr32 (J 1 76 + 1) ∧ (J' 0 24 = 0 ↔ J 0 24 = 0 ∧ a2 ≠ J 0 23)) ∨ (v = 1 ∧ J 1 (130 + l) < 40 ∧ ∀ q j, J' q j = if q = 1 ∧ j = 130 + l then J 1 (130 + l) + 1 else if q = 1 ∧ 140 + 6 * (40 * l + (J 1 (130 + l)).toNat) ≤ j ∧ j < 140 + 6 * (40 * l + (J 1 (130 + l)).toNat) + 6 then RWc a2 a3 a4 a5 a6 a7 (j - (140 + 6 * (40 * l + (J 1 (130 + l)).toNat))) else J q j)) := by
  unfold f_X_stands
  have w1 : Wq (wr32 (130 + (l : Int))) (((130 + l : Nat) : Int)) := by show wr32 (130 + (l : Int)) = ((130 + l : Nat) : Int); rw [wr32_i2 (by omega) (by omega)]; omega
  simp only [zl_e, zj_e]
  rw [w1.e]
  refine par_zg (fun _ => ?_)
  show par (if J 1 (130 + l) = 40 then _ else _) _
  refine par_ite (fun q => ?_) (fun q => ?_)
  · refine par_zw' (fun I1 e1 => ?_)
    have h24 : I1 0 24 = J 0 24 := by rw [e1, if_neg (by omega)]
    have h23 : I1 0 23 = J 0 23 := by rw [e1, if_neg (by omega)]
    rw [h24, h23]
    have fin : ∀ v : Int, (v = 0 ↔ J 0 24 = 0 ∧ a2 ≠ J 0 23) → par (zg (v = 0 ∨ v = 1) (zw I1 0 24 v fun I24 => zr 0 I24)) (fun v J' => (v = 0 ∧ J 1 (130 + l) = 40 ∧ (∀ q j, ¬ (q = 1 ∧ j = 76) → ¬ (q = 0 ∧ j = 24) → J' q j = J q j) ∧ J' 1 76 = wr32 (J 1 76 + 1) ∧ (J' 0 24 = 0 ↔ J 0 24 = 0 ∧ a2 ≠ J 0 23)) ∨ (v = 1 ∧ J 1 (130 + l) < 40 ∧ ∀ q j, J' q j = if q = 1 ∧ j = 130 + l then J 1 (130 + l) + 1 else if q = 1 ∧ 140 + 6 * (40 * l + (J 1 (130 + l)).toNat) ≤ j ∧ j < 140 + 6 * (40 * l + (J 1 (130 + l)).toNat) + 6 then RWc a2 a3 a4 a5 a6 a7 (j - (140 + 6 * (40 * l + (J 1 (130 + l)).toNat))) else J q j)) := by
      intro v hv
      refine par_zg (fun _ => par_zw' (fun I2 e2 => par_zr (Or.inl ⟨rfl, q, fun p j h1 h2 => ?_, ?_, ?_⟩)))
      · rw [e2, if_neg h2, e1, if_neg (by omega)]
      · rw [e2, if_neg (by omega), e1, if_pos (by omega)]
      · rw [e2, if_pos ⟨rfl, rfl⟩]; exact hv
    refine par_ite (fun q2 => par_ite (fun q3 => ?_) (fun q3 => ?_)) (fun q2 => ?_)
    · exact fin 1 ⟨fun x => absurd x (by decide), fun x => absurd q3 x.2⟩
    · exact fin 0 ⟨fun _ => ⟨q2, q3⟩, fun _ => rfl⟩
    · exact fin 1 ⟨fun x => absurd x (by decide), fun x => absurd x.1 q2⟩
  · refine par_zg (fun _ => ?_)
    generalize hcn : (J 1 (130 + l)).toNat = c
    have w2 : J (0 + 1) ((130 + l : Nat) : Int).toNat = (c : Int) := by
      show J 1 (130 + l) = _
      omega
    rw [w2, ev_cell fu l c J hl (by omega), zb_zr]
    have wn : ∀ f : Nat, f < 6 → wr32 (((140 + 6 * (40 * l + c) : Nat) : Int) + (f : Int)) = ((140 + 6 * (40 * l + c) + f : Nat) : Int) := fun f hf => by rw [wr32_i2 (by omega) (by omega)]; omega
    have n0 : Wq (wr32 (((140 + 6 * (40 * l + c) : Nat) : Int) + 0)) (((140 + 6 * (40 * l + c) + 0 : Nat) : Int)) := wn 0 (by decide)
    have n1 : Wq (wr32 (((140 + 6 * (40 * l + c) : Nat) : Int) + 1)) (((140 + 6 * (40 * l + c) + 1 : Nat) : Int)) := wn 1 (by decide)
    have n2 : Wq (wr32 (((140 + 6 * (40 * l + c) : Nat) : Int) + 2)) (((140 + 6 * (40 * l + c) + 2 : Nat) : Int)) := wn 2 (by decide)
    have n3 : Wq (wr32 (((140 + 6 * (40 * l + c) : Nat) : Int) + 3)) (((140 + 6 * (40 * l + c) + 3 : Nat) : Int)) := wn 3 (by decide)
    have n4 : Wq (wr32 (((140 + 6 * (40 * l + c) : Nat) : Int) + 4)) (((140 + 6 * (40 * l + c) + 4 : Nat) : Int)) := wn 4 (by decide)
    have n5 : Wq (wr32 (((140 + 6 * (40 * l + c) : Nat) : Int) + 5)) (((140 + 6 * (40 * l + c) + 5 : Nat) : Int)) := wn 5 (by decide)
    rw [n0.e, n1.e, n2.e, n3.e, n4.e, n5.e]
    refine par_zg (fun _ => par_zw' (fun I0 e0 => par_zg (fun _ => par_zw' (fun I1 e1 => par_zg (fun _ => par_zw' (fun I2 e2 => par_zg (fun _ => par_zw' (fun I3 e3 => par_zg (fun _ => par_zw' (fun I4 e4 => par_zg (fun _ => par_zw' (fun I5 e5 => par_zg (fun _ => par_zg (fun _ => par_zw' (fun I6 e6 => par_zr (Or.inr ⟨rfl, by omega, fun p j => ?_⟩))))))))))))))))
    have hm : I5 (0 + 1) ((130 + l : Nat) : Int).toNat = J 1 (130 + l) := by
      rw [e5, if_neg (by omega), e4, if_neg (by omega), e3, if_neg (by omega), e2, if_neg (by omega), e1, if_neg (by omega), e0, if_neg (by omega)]
      rfl
    rw [e6, hm, wr32_i2 (x := J 1 (130 + l) + 1) (by omega) (by omega)]
    show (if p = 1 ∧ j = 130 + l then _ else _) = _
    by_cases h1 : p = 1 ∧ j = 130 + l
    · rw [if_pos h1, if_pos h1]
    · rw [if_neg h1, if_neg h1]
      by_cases h2 : p = 1 ∧ 140 + 6 * (40 * l + c) ≤ j ∧ j < 140 + 6 * (40 * l + c) + 6
      · rw [if_pos h2]
        obtain ⟨f, hf, rfl⟩ : ∃ f, f < 6 ∧ j = 140 + 6 * (40 * l + c) + f := ⟨j - (140 + 6 * (40 * l + c)), by omega, by omega⟩
        rw [Nat.add_sub_cancel_left]
        rcases (show f = 0 ∨ f = 1 ∨ f = 2 ∨ f = 3 ∨ f = 4 ∨ f = 5 by omega) with rfl | rfl | rfl | rfl | rfl | rfl
        · rw [e5, if_neg (by omega), e4, if_neg (by omega), e3, if_neg (by omega), e2, if_neg (by omega), e1, if_neg (by omega), e0, if_pos (by omega)]; rfl
        · rw [e5, if_neg (by omega), e4, if_neg (by omega), e3, if_neg (by omega), e2, if_neg (by omega), e1, if_pos (by omega)]; rfl
        · rw [e5, if_neg (by omega), e4, if_neg (by omega), e3, if_neg (by omega), e2, if_pos (by omega)]; rfl
        · rw [e5, if_neg (by omega), e4, if_neg (by omega), e3, if_pos (by omega)]; rfl
        · rw [e5, if_neg (by omega), e4, if_pos (by omega)]; rfl
        · rw [e5, if_pos (by omega)]; rfl
      · rw [if_neg h2, e5, if_neg (by omega), e4, if_neg (by omega), e3, if_neg (by omega), e2, if_neg (by omega), e1, if_neg (by omega), e0, if_neg (by omega)]
/-- one more row on both sides -/
theorem hl_add {hb l : Nat} {I J I' J' : IMem} {R : Nat → Int} (h : HL hb 1 I J) (hl : l < 6) (hc : J 1 (130 + l) < 40) (h8 : ∀ j, I' (hb + 8) j = if j = l then I (hb + 8) l + 1 else I (hb + 8) j)
    (h7 : ∀ j, I' (hb + 7) j = if 6 * (40 * l + (J 1 (130 + l)).toNat) ≤ j ∧ j < 6 * (40 * l + (J 1 (130 + l)).toNat) + 6 then R (j - 6 * (40 * l + (J 1 (130 + l)).toNat)) else I (hb + 7) j)
    (hJ : ∀ j, 130 ≤ j → j < 1580 → J' 1 j = if j = 130 + l then J 1 (130 + l) + 1 else if 140 + 6 * (40 * l + (J 1 (130 + l)).toNat) ≤ j ∧ j < 140 + 6 * (40 * l + (J 1 (130 + l)).toNat) + 6 then R (j - (140 + 6 * (40 * l + (J 1 (130 + l)).toNat))) else J 1 j) : HL hb 1 I' J' := by
  intro l2 hl2
  obtain ⟨a, b, c⟩ := h l2 hl2
  obtain ⟨a0, b0, c0⟩ := h l hl
  generalize hcn : (J 1 (130 + l)).toNat = n at h7 hJ
  by_cases e : l2 = l
  · subst e
    have j0 : J' 1 (130 + l2) = J 1 (130 + l2) + 1 := by rw [hJ _ (by omega) (by omega), if_pos rfl]
    refine ⟨?_, by omega, fun p f hp hf => ?_⟩
    · rw [h8, if_pos rfl, j0, a]
    · rw [j0] at hp
      rw [hJ _ (by omega) (by omega), if_neg (show ¬ 140 + 6 * (40 * l2 + p) + f = 130 + l2 by omega), h7]
      by_cases hpn : p = n
      · subst hpn
        rw [if_pos (by omega), if_pos (by omega)]
        congr 1
        omega
      · rw [if_neg (by omega), if_neg (by omega)]
        exact c p f (by omega) hf
  · have j0 : J' 1 (130 + l2) = J 1 (130 + l2) := by rw [hJ _ (by omega) (by omega), if_neg (by omega), if_neg (by omega)]
    refine ⟨?_, by rw [j0]; exact b, fun p f hp hf => ?_⟩
    · rw [h8, if_neg e, j0]; exact a
    · rw [j0] at hp
      rw [h7, hJ _ (by omega) (by omega), if_neg (by omega), if_neg (by omega), if_neg (by omega)]
      exact c p f hp hf
/-- what a comer leaves on both sides -/
theorem enter2 {hb : Nat} {size says sort : Int} {I J : IMem} (h : HX hb I J) (hg : RG J) : pq (f_H_enter fu hb size says sort I) (f_X_comes fu 0 size says sort J) (fun x I' y J' => x = y ∧ HX hb I' J') := by
  obtain ⟨⟨hS, hY, hP, hL, hW⟩, hz, hA⟩ := h
  obtain ⟨law, lc, lx, lo⟩ := hW 4 (by decide)
  have hcJ : ∀ l, l < 6 → J 1 (130 + l) = I (hb + 8) l := fun l hl => (hl_c hL hl).1.symm
  unfold f_H_enter f_X_comes
  refine pq_br (P := fun v J' => v = LFv (J 0 22) law (I (hb + 8)) says sort ∧ ∀ q j, q ≠ 7 → q ≠ 8 → J' q j = J q j) (xv_lineFor hcJ lo lx) (fun y1 J1 _ ⟨gy, gJ⟩ => ?_)
  refine pq_zwl' (fun I1 e1 => pq_zwl' (fun I2 e2 => pq_zwl' (fun I3 e3 => pq_zwl' (fun I4 e4 => pq_zwl' (fun I5 e5 => ?_)))))
  have f4 : ∀ q j, q ≠ hb + 14 → I4 q j = I q j := fun q j hq => by rw [e4, if_neg (by omega), e3, if_neg (by omega), e2, if_neg (by omega), e1, if_neg (by omega)]
  have f5 : ∀ q j, q ≠ hb + 14 → ¬ (q = hb ∧ j = 7) → I5 q j = I q j := fun q j hq h0 => by rw [e5, if_neg h0]; exact f4 q j hq
  have c5 : I5 hb 7 = wr32 (I hb 7 + 1) := by rw [e5, if_pos ⟨rfl, rfl⟩, f4 _ _ (by omega)]
  refine pq_bl (P := fun v I' => v = LFv (I hb 11) law (I (hb + 8)) says sort ∧ ∀ q j, q ≠ hb + 13 → q ≠ hb + 39 → I' q j = I5 q j) ?_ (fun x1 I6 _ ⟨gx, gI⟩ => ?_)
  · have g := cv_lineFor (fu := fu) (hb := hb) (says := says) (sort := sort) (I := I5) lo (lc_mv (ol := hb + 15 + 5 * 4) lc (fun d j hd => by rw [show hb + 35 + d = hb + 15 + 5 * 4 + d by omega]; exact f5 _ _ (by omega) (by omega)))
    have z1 : I5 hb 11 = I hb 11 := f5 _ _ (by omega) (by omega)
    have z2 : I5 (hb + 8) = I (hb + 8) := funext (fun j => f5 _ _ (by omega) (by omega))
    rw [z1, z2] at g
    exact g
  have hxy : x1 = y1 := by rw [gx, gy, hz]
  have rng := lf_rng (z := I hb 11) (says := says) (sort := sort) (c := I (hb + 8)) (law := law) lo.2.2.2
  rw [← gx] at rng
  obtain ⟨l, hl, rfl⟩ : ∃ l : Nat, l < 6 ∧ x1 = (l : Int) := ⟨x1.toNat, by omega, by omega⟩
  subst hxy
  have f6 : ∀ q j, q ≠ hb + 13 → q ≠ hb + 39 → q ≠ hb + 14 → ¬ (q = hb ∧ j = 7) → I6 q j = I q j := fun q j h1 h2 h3 h4 => (gI q j h1 h2).trans (f5 q j h3 h4)
  have f14 : ∀ j, I6 (hb + 14) j = I5 (hb + 14) j := fun j => gI _ _ (by omega) (by omega)
  obtain ⟨b1, b2, b3⟩ := hl_c hL hl
  have cc : I6 (hb + 8) l = J 1 (130 + l) := (f6 _ _ (by omega) (by omega) (by omega) (by omega)).trans b1
  have gc := hg 1 7
  have hcame := hS.2.2.1
  unfold inr at gc
  have wn : Wq (wr32 (wr32 (J 1 7 + 1) - 1)) (J 1 7) := by show wr32 (wr32 (J 1 7 + 1) - 1) = J 1 7; unfold wr32; omega
  refine pq_zwr' (fun J2 e2' => ?_)
  have k2 : ∀ q j, q ≠ 7 → q ≠ 8 → ¬ (q = 1 ∧ j = 7) → J2 q j = J q j := fun q j h1 h2 h3 => by rw [e2', if_neg (by omega)]; exact gJ q j h1 h2
  have k7 : J2 1 7 = wr32 (J 1 7 + 1) := by rw [e2', if_pos ⟨rfl, rfl⟩]; show wr32 (J1 1 7 + 1) = _; rw [gJ _ _ (by decide) (by decide)]
  have jc : J2 1 (130 + l) = J 1 (130 + l) := k2 _ _ (by decide) (by decide) (by omega)
  have k7' : J2 (0 + 1) 7 = wr32 (J 1 7 + 1) := k7
  rw [k7', wn.e]
  refine pq_bl (cv_append (fu := fu) (hb := hb) (o2 := hb + 14) (n2 := 6) (a := 0) hl (by omega) (by decide) (by decide)) (fun x2 I7 _ hx2 => pq_br (xv_stands (fu := fu) hl (by omega)) (fun y2 J3 _ hy2 => ?_))
  have rowA : ∀ f, f < 6 → I6 (hb + 14) (0 + f) = RWc (J 1 7) size says sort 0 0 f := by
    intro f hf
    rw [f14, Nat.zero_add]
    rcases (show f = 0 ∨ f = 1 ∨ f = 2 ∨ f = 3 ∨ f = 4 ∨ f = 5 by omega) with rfl | rfl | rfl | rfl | rfl | rfl
    · rw [e5, if_neg (by omega), e4, if_neg (by omega), e3, if_neg (by omega), e2, if_neg (by omega), e1, if_pos (by omega)]; exact hcame
    · rw [e5, if_neg (by omega), e4, if_neg (by omega), e3, if_neg (by omega), e2, if_pos (by omega)]; rfl
    · rw [e5, if_neg (by omega), e4, if_neg (by omega), e3, if_pos (by omega)]; rfl
    · rw [e5, if_neg (by omega), e4, if_pos (by omega)]; rfl
    · rw [e5, if_neg (by omega), e4, if_neg (by omega), e3, if_neg (by omega), e2, if_neg (by omega), e1, if_neg (by omega)]; exact hA.1
    · rw [e5, if_neg (by omega), e4, if_neg (by omega), e3, if_neg (by omega), e2, if_neg (by omega), e1, if_neg (by omega)]; exact hA.2
  have hA6 : HA hb I6 := ⟨rowA 4 (by decide), rowA 5 (by decide)⟩
  have cam6 : I6 hb 7 = wr32 (J 1 7 + 1) := by rw [gI _ _ (by omega) (by omega), c5, hcame]
  -- the other parts, with or without the row
  have rest : ∀ I' J' : IMem, (∀ q j, q ≠ hb + 7 → q ≠ hb + 8 → ¬ (q = hb + 10 ∧ j = 6) → I' q j = I6 q j) → (∀ q j, ¬ (q = 1 ∧ (j = 76 ∨ (130 ≤ j ∧ j < 1580))) → ¬ (q = 0 ∧ j = 24) → J' q j = J2 q j) → HS hb 1 I' J' ∧ HP hb 1 I' J' ∧ HW hb 1 I' J' ∧ I' hb 11 = J' 0 22 ∧ HA hb I' := by
    intro I' J' hi hj
    have gi : ∀ q j, q ≠ hb + 13 → q ≠ hb + 39 → q ≠ hb + 14 → ¬ (q = hb ∧ j = 7) → q ≠ hb + 7 → q ≠ hb + 8 → ¬ (q = hb + 10 ∧ j = 6) → I' q j = I q j := fun q j h1 h2 h3 h4 h5 h6 h7 => (hi q j h5 h6 h7).trans (f6 q j h1 h2 h3 h4)
    have gj : ∀ j, j ≠ 7 → j ≠ 76 → ¬ (130 ≤ j ∧ j < 1580) → J' 1 j = J 1 j := fun j h1 h2 h3 => (hj 1 j (by omega) (by omega)).trans (k2 1 j (by decide) (by decide) (by omega))
    refine ⟨?_, hp_mv hP (fun j => ⟨gi _ _ (by omega) (by omega) (by omega) (by omega) (by omega) (by omega) (by omega), gi _ _ (by omega) (by omega) (by omega) (by omega) (by omega) (by omega) (by omega)⟩) (fun j hq => gj j (by omega) (by omega) (by omega)), hw_mv hW (fun d j h1 h2 h3 => gi _ _ (by omega) (by omega) (by omega) (by omega) (by omega) (by omega) (by omega)) (fun j h1 h2 => gj j (by omega) (by omega) (by omega)), ?_, ?_⟩
    · obtain ⟨a1, a2, a3, a4, a5, a6, a7⟩ := hS
      refine ⟨fun k hk => ?_, ?_, ?_, fun k hk => ?_, fun k h3 h4 => ?_, fun k hk => ?_, fun k h3 h4 => ?_⟩
      · rw [gi _ _ (by omega) (by omega) (by omega) (by omega) (by omega) (by omega) (by omega), gj _ (by omega) (by omega) (by omega)]; exact a1 k hk
      · rw [gi _ _ (by omega) (by omega) (by omega) (by omega) (by omega) (by omega) (by omega), gj _ (by omega) (by omega) (by omega)]; exact a2
      · rw [hi _ _ (by omega) (by omega) (by omega), cam6, hj _ _ (by omega) (by omega), k7]
      · rw [gi _ _ (by omega) (by omega) (by omega) (by omega) (by omega) (by omega) (by omega), gj _ (by omega) (by omega) (by omega)]; exact a4 k hk
      · rw [gi _ _ (by omega) (by omega) (by omega) (by omega) (by omega) (by omega) (by omega), gj _ (by omega) (by omega) (by omega)]; exact a5 k h3 h4
      · rw [gi _ _ (by omega) (by omega) (by omega) (by omega) (by omega) (by omega) (by omega), gj _ (by omega) (by omega) (by omega)]; exact a6 k hk
      · rw [gi _ _ (by omega) (by omega) (by omega) (by omega) (by omega) (by omega) (by omega), gj _ (by omega) (by omega) (by omega)]; exact a7 k h3 h4
    · rw [gi _ _ (by omega) (by omega) (by omega) (by omega) (by omega) (by omega) (by omega), hj _ _ (by omega) (by omega), k2 _ _ (by decide) (by decide) (by omega)]; exact hz
    · exact ⟨(hi _ _ (by omega) (by omega) (by omega)).trans hA6.1, (hi _ _ (by omega) (by omega) (by omega)).trans hA6.2⟩
  rcases hx2 with ⟨rfl, x2c, rfl⟩ | ⟨rfl, x2c, x2e⟩
  · rcases hy2 with ⟨rfl, y2c, y2f, y2a, y2l⟩ | ⟨rfl, y2c, y2e⟩
    · rw [if_pos rfl, if_pos rfl]
      refine pq_zwl' (fun I8 e8 => pq_end ⟨rfl, ?_⟩)
      obtain ⟨r1, r2, r3, r4, r5⟩ := rest I8 J3 (fun q j h1 h2 h3 => by rw [e8, if_neg h3]) (fun q j h1 h2 => y2f q j (by omega) h2)
      have gi : ∀ j, I8 (hb + 10) j = if j = 6 then wr32 (I (hb + 10) 6 + 1) else I (hb + 10) j := by
        intro j
        rw [e8]
        by_cases h6 : j = 6
        · rw [if_pos ⟨rfl, h6⟩, if_pos h6, f6 _ _ (by omega) (by omega) (by omega) (by omega)]
        · rw [if_neg (fun q => h6 q.2), if_neg h6, f6 _ _ (by omega) (by omega) (by omega) (by omega)]
      have gj : ∀ j, 70 ≤ j → j < 110 → J3 1 j = if j = 76 then wr32 (J 1 76 + 1) else J 1 j := by
        intro j h1 h2
        by_cases h6 : j = 76
        · subst h6
          rw [if_pos rfl, y2a, k2 _ _ (by decide) (by decide) (by omega)]
        · rw [if_neg h6, y2f _ _ (by omega) (by omega), k2 _ _ (by decide) (by decide) (by omega)]
      refine ⟨⟨r1, ⟨fun k hk => ?_, fun s h3 h4 => ⟨?_, ?_, ?_⟩⟩, r2, hl_mv hL (fun j => ⟨?_, ?_⟩) (fun j h1 h2 => ?_), r3⟩, r4, r5⟩
      · rw [gi, gj _ (by omega) (by omega)]
        by_cases h6 : k = 6
        · subst h6
          rw [if_pos rfl, if_pos rfl, hY.1 6 (by decide)]
        · rw [if_neg h6, if_neg (by omega)]; exact hY.1 k hk
      · rw [gi, gj _ (by omega) (by omega), if_neg (by omega), if_neg (by omega)]; exact (hY.2 s h3 h4).1
      · rw [gi, gj _ (by omega) (by omega), if_neg (by omega), if_neg (by omega)]; exact (hY.2 s h3 h4).2.1
      · rw [gi, gj _ (by omega) (by omega), if_neg (by omega), if_neg (by omega)]; exact (hY.2 s h3 h4).2.2
      · rw [e8, if_neg (by omega)]; exact f6 _ _ (by omega) (by omega) (by omega) (by omega)
      · rw [e8, if_neg (by omega)]; exact f6 _ _ (by omega) (by omega) (by omega) (by omega)
      · rw [y2f _ _ (by omega) (by omega)]; exact k2 _ _ (by decide) (by decide) (by omega)
    · omega
  · rcases hy2 with ⟨rfl, y2c, y2f, y2a, y2l⟩ | ⟨rfl, y2c, y2e⟩
    · omega
    · rw [if_neg (by decide), if_neg (by decide)]
      refine pq_end ⟨rfl, ?_⟩
      rw [jc] at y2e
      rw [cc] at x2e
      obtain ⟨r1, r2, r3, r4, r5⟩ := rest I7 J3 (fun q j h1 h2 h3 => by rw [x2e, if_neg (by omega), if_neg (by omega)]) (fun q j h1 h2 => by rw [y2e, if_neg (by omega), if_neg (by omega)])
      refine ⟨⟨r1, hy_mv hY (fun j => ?_) (fun j h1 h2 => ?_), r2, hl_add (R := RWc (J 1 7) size says sort 0 0) hL hl (by omega) (fun j => ?_) (fun j => ?_) (fun j h1 h2 => ?_), r3⟩, r4, r5⟩
      · rw [x2e, if_neg (by omega), if_neg (by omega)]; exact f6 _ _ (by omega) (by omega) (by omega) (by omega)
      · rw [y2e, if_neg (by omega), if_neg (by omega)]; exact k2 _ _ (by decide) (by decide) (by omega)
      · rw [x2e]
        by_cases h1 : j = l
        · rw [if_pos ⟨rfl, h1⟩, if_pos h1, b1]
        · rw [if_neg (fun q => h1 q.2), if_neg h1, if_neg (by omega)]; exact f6 _ _ (by omega) (by omega) (by omega) (by omega)
      · rw [x2e, if_neg (by omega)]
        by_cases h1 : 6 * (40 * l + (J 1 (130 + l)).toNat) ≤ j ∧ j < 6 * (40 * l + (J 1 (130 + l)).toNat) + 6
        · rw [if_pos ⟨rfl, h1⟩, if_pos h1]
          exact rowA _ (by omega)
        · rw [if_neg (fun q => h1 q.2), if_neg h1]; exact f6 _ _ (by omega) (by omega) (by omega) (by omega)
      · rw [y2e]
        by_cases h3 : j = 130 + l
        · rw [if_pos ⟨rfl, h3⟩, if_pos h3]
        · rw [if_neg (fun q => h3 q.2), if_neg h3]
          by_cases h4 : 140 + 6 * (40 * l + (J 1 (130 + l)).toNat) ≤ j ∧ j < 140 + 6 * (40 * l + (J 1 (130 + l)).toNat) + 6
          · rw [if_pos ⟨rfl, h4⟩, if_pos h4]
          · rw [if_neg (fun q => h4 q.2), if_neg h4]; exact k2 _ _ (by decide) (by decide) (by omega)
end
/-! who is found for the chair: the best of those that fit, on both sides -/
/-- the first best of the spots below n: which, how much -/
def amF (e : Nat → Bool) (v : Nat → Int) (lo : Int) : Nat → Int × Int
  | 0 => (-1, lo)
  | k + 1 => if e k = true ∧ (amF e v lo k).2 < v k then ((k : Int), v k) else amF e v lo k
theorem amF_gap {e : Nat → Bool} {v : Nat → Int} {lo : Int} {a : Nat} : ∀ b : Nat, a ≤ b → (∀ k, a ≤ k → k < b → e k = false) → amF e v lo b = amF e v lo a := by
  intro b
  induction b with
  | zero => intro h _; rw [show a = 0 by omega]
  | succ b ih =>
    intro h hk
    by_cases e1 : a = b + 1
    · rw [e1]
    · show (if e b = true ∧ (amF e v lo b).2 < v b then ((b : Int), v b) else amF e v lo b) = _
      rw [if_neg (fun q => by rw [hk b (by omega) (by omega)] at q; exact absurd q.1 (by decide))]
      exact ih (by omega) (fun k h1 h2 => hk k h1 (by omega))
theorem amF_eq {e e2 : Nat → Bool} {v v2 : Nat → Int} {lo : Int} : ∀ n : Nat, (∀ k, k < n → e2 k = e k) → (∀ k, k < n → e k = true → v2 k = v k) → amF e2 v2 lo n = amF e v lo n := by
  intro n
  induction n with
  | zero => intro _ _; rfl
  | succ n ih =>
    intro h1 h2
    show (if e2 n = true ∧ (amF e2 v2 lo n).2 < v2 n then ((n : Int), v2 n) else amF e2 v2 lo n) = (if e n = true ∧ (amF e v lo n).2 < v n then ((n : Int), v n) else amF e v lo n)
    rw [ih (fun k hk => h1 k (by omega)) (fun k hk => h2 k (by omega)), h1 n (by omega)]
    by_cases q : e n = true
    · rw [h2 n (by omega) q]
    · rw [if_neg (fun z => q z.1), if_neg (fun z => q z.1)]
theorem amF_rng {e : Nat → Bool} {v : Nat → Int} {lo : Int} : ∀ n : Nat, (amF e v lo n = (-1, lo)) ∨ ∃ k : Nat, k < n ∧ e k = true ∧ (amF e v lo n).1 = (k : Int) ∧ (amF e v lo n).2 = v k ∧ lo < v k := by
  intro n
  induction n with
  | zero => exact Or.inl rfl
  | succ n ih =>
    show ((if e n = true ∧ (amF e v lo n).2 < v n then ((n : Int), v n) else amF e v lo n) = (-1, lo)) ∨ ∃ k : Nat, k < n + 1 ∧ e k = true ∧ (if e n = true ∧ (amF e v lo n).2 < v n then ((n : Int), v n) else amF e v lo n).1 = (k : Int) ∧ (if e n = true ∧ (amF e v lo n).2 < v n then ((n : Int), v n) else amF e v lo n).2 = v k ∧ lo < v k
    by_cases q : e n = true ∧ (amF e v lo n).2 < v n
    · rw [if_pos q]
      refine Or.inr ⟨n, by omega, q.1, rfl, rfl, ?_⟩
      rcases ih with h | ⟨k, h1, h2, h3, h4, h5⟩
      · rw [h] at q; exact q.2
      · rw [h4] at q; omega
    · rw [if_neg q]
      rcases ih with h | ⟨k, h1, h2, h3, h4, h5⟩
      · exact Or.inl h
      · exact Or.inr ⟨k, by omega, h2, h3, h4, h5⟩
/-- who fits, by the reference's memory -/
def eF (J : IMem) (k : Nat) : Bool := decide (((k % 40 : Nat) : Int) < J 1 (130 + k / 40) ∧ ((k % 40 : Nat) : Int) < J 1 (10 + k / 40) ∧ J 9 k = 0 ∧ J 12 k = 0 ∧ J 1 (140 + 6 * k + 2) ≤ J 0 30 ∧ ¬ 0 < J 0 33 ∧ (J 1 (140 + 6 * k + 3) = 1 → 0 < J 0 34) ∧ (J 1 (140 + 6 * k + 3) = 2 → J 0 31 = 0))
theorem ef_iff (J : IMem) {l p : Nat} (hp : p < 40) : eF J (40 * l + p) = true ↔ ((p : Int) < J 1 (130 + l) ∧ (p : Int) < J 1 (10 + l) ∧ J 9 (40 * l + p) = 0 ∧ J 12 (40 * l + p) = 0 ∧ J 1 (140 + 6 * (40 * l + p) + 2) ≤ J 0 30 ∧ ¬ 0 < J 0 33 ∧ (J 1 (140 + 6 * (40 * l + p) + 3) = 1 → 0 < J 0 34) ∧ (J 1 (140 + 6 * (40 * l + p) + 3) = 2 → J 0 31 = 0)) := by
  unfold eF
  rw [decide_eq_true_iff, show (40 * l + p) % 40 = p by omega, show (40 * l + p) / 40 = l by omega]
theorem ef_same {J J' : IMem} (h : ∀ q j, q ≠ 7 → q ≠ 8 → J' q j = J q j) : eF J' = eF J := by
  funext k
  unfold eF
  rw [h 1 _ (by decide) (by decide), h 1 _ (by decide) (by decide), h 9 _ (by decide) (by decide), h 12 _ (by decide) (by decide), h 1 _ (by decide) (by decide), h 0 _ (by decide) (by decide), h 0 _ (by decide) (by decide), h 1 _ (by decide) (by decide), h 0 _ (by decide) (by decide), h 0 _ (by decide) (by decide)]
theorem ev_isOpen (fu l p : Nat) (J : IMem) (hl : l < 6) (hp : p < 40) : f_X_isOpen fu 0 (l : Int) (p : Int) J = zr (if (p : Int) < J 1 (10 + l) ∧ J 9 (40 * l + p) = 0 ∧ J 12 (40 * l + p) = 0 then 1 else 0) J := by
  unfold f_X_isOpen
  have w1 : Wq (wr32 (10 + (l : Int))) (((10 + l : Nat) : Int)) := by show wr32 (10 + (l : Int)) = ((10 + l : Nat) : Int); rw [wr32_i2 (by omega) (by omega)]; omega
  have w2 : Wq (wr32 (wr32 (40 * (l : Int)) + (p : Int))) (((40 * l + p : Nat) : Int)) := by show wr32 (wr32 (40 * (l : Int)) + (p : Int)) = ((40 * l + p : Nat) : Int); rw [wr32_i2 (x := 40 * (l : Int)) (by omega) (by omega), wr32_i2 (by omega) (by omega)]; omega
  simp only [zl_e]
  rw [w1.e, w2.e, zg_t (by omega)]
  show (if (p : Int) < J 1 (10 + l) then _ else _) = _
  by_cases h1 : (p : Int) < J 1 (10 + l)
  · rw [if_pos h1, zg_t (by omega)]
    show (if J 9 (40 * l + p) = 0 then _ else _) = _
    by_cases h2 : J 9 (40 * l + p) = 0
    · rw [if_pos h2, zg_t (by omega)]
      show (if J 12 (40 * l + p) = 0 then _ else _) = _
      by_cases h3 : J 12 (40 * l + p) = 0
      · rw [if_pos h3, if_pos ⟨h1, h2, h3⟩]
      · rw [if_neg h3, if_neg (fun q => h3 q.2.2)]
    · rw [if_neg h2, if_neg (fun q => h2 q.2.1)]
  · rw [if_neg h1, if_neg (fun q => h1 q.1)]
theorem ev_xfits (fu l p : Nat) (J : IMem) (hl : l < 6) (hp : (p : Int) < J 1 (130 + l)) (hp4 : p < 40) : f_X_fits fu 0 (l : Int) (p : Int) J = zr (if eF J (40 * l + p) = true then 1 else 0) J := by
  unfold f_X_fits
  have key : ∀ v : Bool, v = eF J (40 * l + p) → (if eF J (40 * l + p) = true then (1 : Int) else 0) = (if v = true then 1 else 0) := fun v hv => by rw [hv]
  have yes : ((p : Int) < J 1 (130 + l) ∧ (p : Int) < J 1 (10 + l) ∧ J 9 (40 * l + p) = 0 ∧ J 12 (40 * l + p) = 0 ∧ J 1 (140 + 6 * (40 * l + p) + 2) ≤ J 0 30 ∧ ¬ 0 < J 0 33 ∧ (J 1 (140 + 6 * (40 * l + p) + 3) = 1 → 0 < J 0 34) ∧ (J 1 (140 + 6 * (40 * l + p) + 3) = 2 → J 0 31 = 0)) → zr (if eF J (40 * l + p) = true then 1 else 0) J = zr 1 J := fun h => by rw [if_pos ((ef_iff J hp4).mpr h)]
  have no : ¬ ((p : Int) < J 1 (130 + l) ∧ (p : Int) < J 1 (10 + l) ∧ J 9 (40 * l + p) = 0 ∧ J 12 (40 * l + p) = 0 ∧ J 1 (140 + 6 * (40 * l + p) + 2) ≤ J 0 30 ∧ ¬ 0 < J 0 33 ∧ (J 1 (140 + 6 * (40 * l + p) + 3) = 1 → 0 < J 0 34) ∧ (J 1 (140 + 6 * (40 * l + p) + 3) = 2 → J 0 31 = 0)) → zr (if eF J (40 * l + p) = true then 1 else 0) J = zr 0 J := fun h => by rw [if_neg (fun q => h ((ef_iff J hp4).mp q))]
  rw [ev_isOpen fu l p J hl hp4, zb_zr]
  by_cases h1 : (p : Int) < J 1 (10 + l) ∧ J 9 (40 * l + p) = 0 ∧ J 12 (40 * l + p) = 0
  · rw [if_pos h1, if_neg (by decide), ev_of2 fu 0 l p J hl hp4, zb_zr]
    show (if J 0 30 < J 1 (140 + 6 * (40 * l + p) + 2) then _ else _) = _
    by_cases h2 : J 0 30 < J 1 (140 + 6 * (40 * l + p) + 2)
    · rw [if_pos h2, no (fun q => by have := q.2.2.2.2.1; omega)]
    · rw [if_neg h2]
      by_cases h3 : 0 < J 0 33
      · rw [if_pos h3, no (fun q => q.2.2.2.2.2.1 h3)]
      · rw [if_neg h3, ev_of3 fu 0 l p J hl hp4, zb_zr]
        show (if J 1 (140 + 6 * (40 * l + p) + 3) = 1 then _ else _) = _
        by_cases h4 : J 1 (140 + 6 * (40 * l + p) + 3) = 1
        · rw [if_pos h4]
          by_cases h5 : 0 < J 0 34
          · rw [if_pos h5, yes ⟨hp, h1.1, h1.2.1, h1.2.2, by omega, h3, fun _ => h5, fun q => by omega⟩]
          · rw [if_neg h5, no (fun q => h5 (q.2.2.2.2.2.2.1 h4))]
        · rw [if_neg h4]
          by_cases h6 : J 1 (140 + 6 * (40 * l + p) + 3) = 2
          · rw [if_pos h6]
            by_cases h5 : J 0 31 = 0
            · rw [if_pos h5, yes ⟨hp, h1.1, h1.2.1, h1.2.2, by omega, h3, fun q => absurd q h4, fun _ => h5⟩]
            · rw [if_neg h5, no (fun q => h5 (q.2.2.2.2.2.2.2 h6))]
          · rw [if_neg h6, yes ⟨hp, h1.1, h1.2.1, h1.2.2, by omega, h3, fun q => absurd q h4, fun q => absurd q h6⟩]
  · rw [if_neg h1, if_pos rfl, no (fun q => h1 ⟨q.2.1, q.2.2.1, q.2.2.2.1⟩)]
/-- the law in force, as the reference has it -/
def LWX (J : IMem) (k : Nat) (law : List LRec) : Prop := k < 4 ∧ J 1 6 = k ∧ LOK k law ∧ LX 1 k law J
/-- what is compared: how often passed, or the worth -/
def vF (J : IMem) (by1 : Bool) (k : Nat) (law : List LRec) (s : Nat) : Int := if by1 then J 1 (140 + 6 * s + 5) else lval k (WF J (s / 40) (s % 40) (J 0 30) (J 0 31)) law
def loF (J : IMem) (by1 : Bool) : Int := if by1 then J 1 5 - 1 else 0
/-- the reference's two values against the fold's -/
def ST2 (s : Int × Int) (w2 w3 lo : Int) : Prop := w2 = s.1 ∧ (w2 = -1 → s.2 = lo) ∧ (w2 ≠ -1 → w3 = s.2 ∧ lo < s.2)
theorem wf_same {J J' : IMem} (h : ∀ q j, q ≠ 7 → q ≠ 8 → J' q j = J q j) (l p : Nat) (a c : Int) : WF J' l p a c = WF J l p a c := by
  funext y
  unfold WF
  rw [h 1 _ (by decide) (by decide), h 1 _ (by decide) (by decide), h 1 _ (by decide) (by decide), h 1 _ (by decide) (by decide), h 1 _ (by decide) (by decide)]
theorem lwx_same {J J' : IMem} {k : Nat} {law : List LRec} (h : LWX J k law) (g : ∀ j, (j = 6 ∨ (1580 ≤ j ∧ j < 6010)) → J' 1 j = J 1 j) : LWX J' k law :=
  ⟨h.1, (g 6 (Or.inl rfl)).trans h.2.1, h.2.2.1, lx_mv (by have := h.1; omega) h.2.2.1 h.2.2.2 (fun j a c => g j (Or.inr ⟨a, c⟩))⟩
section
variable {fu : Nat} {Q : Int → IMem → Prop}
theorem xv_find17 (by1 : Bool) (b : Int) (hb : b = if by1 then 1 else 0) (kk : Int → Int → IMem → Res) (J0 : IMem) {k : Nat} {law : List LRec} (hw : LWX J0 k law) {l : Nat} (hl : l < 6) (hc : 0 ≤ J0 1 (130 + l) ∧ J0 1 (130 + l) ≤ 40) (hbd : inr (J0 1 5)) : ∀ (m p : Nat) (w2 w3 : Int) (J : IMem), (∀ q j, q ≠ 7 → q ≠ 8 → J q j = J0 q j) → (p : Int) ≤ J0 1 (130 + l) → ST2 (amF (eF J0) (vF J0 by1 k law) (loF J0 by1) (40 * l + p)) w2 w3 (loF J0 by1) →
    (∀ (w2 w3 : Int) (J' : IMem), (∀ q j, q ≠ 7 → q ≠ 8 → J' q j = J0 q j) → ST2 (amF (eF J0) (vF J0 by1 k law) (loF J0 by1) (40 * (l + 1))) w2 w3 (loF J0 by1) → par (kk w2 w3 J') Q) → par (f_X_finds_17 fu kk 0 b (l : Int) m w2 w3 (p : Int) J) Q := by
  intro m
  induction m with
  | zero => intro _ _ _ _ _ _ _ _; exact par_none
  | succ m ih =>
    intro p w2 w3 J hJ hp hs hk
    show par (fb_X_finds_17 fu kk 0 b (l : Int) (f_X_finds_17 fu kk 0 b (l : Int) m) w2 w3 (p : Int) J) Q
    unfold fb_X_finds_17
    have w1 : Wq (wr32 (130 + (l : Int))) (((130 + l : Nat) : Int)) := by show wr32 (130 + (l : Int)) = ((130 + l : Nat) : Int); rw [wr32_i2 (by omega) (by omega)]; omega
    have hm : J 1 (130 + l) = J0 1 (130 + l) := hJ _ _ (by decide) (by decide)
    simp only [zl_e, zj_e]
    rw [w1.e]
    refine par_zg (fun _ => ?_)
    show par (if (p : Int) < J 1 (130 + l) then _ else _) _
    rw [hm]
    by_cases hpc : (p : Int) < J0 1 (130 + l)
    · rw [if_pos hpc]
      have hp4 : p < 40 := by omega
      have wn : Wq (wr32 ((p : Int) + 1)) (((p + 1 : Nat) : Int)) := by show wr32 ((p : Int) + 1) = ((p + 1 : Nat) : Int); rw [wr32_i2 (by omega) (by omega)]; rfl
      have wk : Wq (wr32 (wr32 (40 * (l : Int)) + (p : Int))) (((40 * l + p : Nat) : Int)) := by show wr32 (wr32 (40 * (l : Int)) + (p : Int)) = ((40 * l + p : Nat) : Int); rw [wr32_i2 (x := 40 * (l : Int)) (by omega) (by omega), wr32_i2 (by omega) (by omega)]; omega
      rw [ev_xfits fu l p J hl (by rw [hm]; exact hpc) hp4, zb_zr, ef_same hJ, wn.e, wk.e]
      have stp : amF (eF J0) (vF J0 by1 k law) (loF J0 by1) (40 * l + (p + 1)) = if eF J0 (40 * l + p) = true ∧ (amF (eF J0) (vF J0 by1 k law) (loF J0 by1) (40 * l + p)).2 < vF J0 by1 k law (40 * l + p) then (((40 * l + p : Nat) : Int), vF J0 by1 k law (40 * l + p)) else amF (eF J0) (vF J0 by1 k law) (loF J0 by1) (40 * l + p) := rfl
      have skip : ∀ J' : IMem, (∀ q j, q ≠ 7 → q ≠ 8 → J' q j = J0 q j) → ¬ (eF J0 (40 * l + p) = true ∧ (amF (eF J0) (vF J0 by1 k law) (loF J0 by1) (40 * l + p)).2 < vF J0 by1 k law (40 * l + p)) → par (f_X_finds_17 fu kk 0 b (l : Int) m w2 w3 ((p + 1 : Nat) : Int) J') Q := by
        intro J' h1 h2
        rw [if_neg h2] at stp
        exact ih (p + 1) w2 w3 J' h1 (by omega) (by rw [stp]; exact hs) hk
      have take : ∀ (J' : IMem) (v : Int), (∀ q j, q ≠ 7 → q ≠ 8 → J' q j = J0 q j) → v = vF J0 by1 k law (40 * l + p) → eF J0 (40 * l + p) = true → (amF (eF J0) (vF J0 by1 k law) (loF J0 by1) (40 * l + p)).2 < v → loF J0 by1 < v → par (f_X_finds_17 fu kk 0 b (l : Int) m ((40 * l + p : Nat) : Int) v ((p + 1 : Nat) : Int) J') Q := by
        intro J' v h1 hv h2 h3 h4
        rw [if_pos ⟨h2, by rw [← hv]; exact h3⟩] at stp
        refine ih (p + 1) _ v J' h1 (by omega) ?_ hk
        rw [stp]
        exact ⟨rfl, fun q => by omega, fun _ => ⟨hv, by rw [← hv]; exact h4⟩⟩
      by_cases he : eF J0 (40 * l + p) = true
      · rw [if_pos he, if_neg (by decide)]
        obtain ⟨s1, s2, s3⟩ := hs
        -- behind the value
        have dec : ∀ (J' : IMem) (v : Int), (∀ q j, q ≠ 7 → q ≠ 8 → J' q j = J0 q j) → v = vF J0 by1 k law (40 * l + p) → loF J0 by1 < v → par (if w2 = -1 then f_X_finds_17 fu kk 0 b (l : Int) m ((40 * l + p : Nat) : Int) v ((p + 1 : Nat) : Int) J' else if w3 < v then f_X_finds_17 fu kk 0 b (l : Int) m ((40 * l + p : Nat) : Int) v ((p + 1 : Nat) : Int) J' else f_X_finds_17 fu kk 0 b (l : Int) m w2 w3 ((p + 1 : Nat) : Int) J') Q := by
          intro J' v h1 hv h4
          refine par_ite (fun q => take J' v h1 hv he (by rw [s2 q]; exact h4) h4) (fun q => par_ite (fun q2 => take J' v h1 hv he (by rw [← (s3 q).1]; exact q2) h4) (fun q2 => skip J' h1 (fun z => by rw [← hv, ← (s3 q).1] at z; exact q2 z.2)))
        cases by1 with
        | false =>
          have hb0 : b = 0 := hb
          rw [if_pos hb0]
          have h30 : J 0 30 = J0 0 30 := hJ _ _ (by decide) (by decide)
          have h31 : J 0 31 = J0 0 31 := hJ _ _ (by decide) (by decide)
          have hw' := lwx_same (J' := J) hw (fun j _ => hJ _ _ (by decide) (by decide))
          refine par_zb (xv_worth (fu := fu) hl (by rw [hm]; exact hpc) (by rw [hm]; exact hc.2) hw'.1 hw'.2.1 hw'.2.2.1 hw'.2.2.2) (fun v J1 ⟨g1, g2⟩ => ?_)
          have hJ1 : ∀ q j, q ≠ 7 → q ≠ 8 → J1 q j = J0 q j := fun q j a c => (g2 q j a c).trans (hJ q j a c)
          have hv : v = vF J0 false k law (40 * l + p) := by
            rw [g1]
            show _ = lval k (WF J0 ((40 * l + p) / 40) ((40 * l + p) % 40) (J0 0 30) (J0 0 31)) law
            rw [show (40 * l + p) / 40 = l by omega, show (40 * l + p) % 40 = p by omega, wf_same hJ, h30, h31]
          rw [if_pos hb0]
          refine par_ite (fun q => skip J1 hJ1 (fun z => ?_)) (fun q => dec J1 v hJ1 hv (by show (0 : Int) < v; omega))
          have z2 := z.2
          rw [← hv] at z2
          by_cases hw2 : w2 = -1
          · rw [s2 hw2] at z2; have : loF J0 false = 0 := rfl; omega
          · have := (s3 hw2).2; have h0 : loF J0 false = 0 := rfl; omega
        | true =>
          have hb1 : b = 1 := hb
          rw [if_neg (by omega), ev_of5 fu 0 l p J hl hp4, zb_zr, if_neg (by omega)]
          have hv : J (0 + 1) (140 + 6 * (40 * l + p) + 5) = vF J0 true k law (40 * l + p) := hJ _ _ (by decide) (by decide)
          have h5 : J (0 + 1) 5 = J0 1 5 := hJ _ _ (by decide) (by decide)
          rw [h5]
          have hlo : loF J0 true = J0 1 5 - 1 := rfl
          refine par_ite (fun q => skip J hJ (fun z => ?_)) (fun q => dec J _ hJ hv (by rw [hlo]; omega))
          have z2 := z.2
          rw [← hv] at z2
          by_cases hw2 : w2 = -1
          · rw [s2 hw2] at z2; omega
          · have := (s3 hw2).2; omega
      · rw [if_neg he, if_pos rfl]
        exact skip J hJ (fun z => he z.1)
    · rw [if_neg hpc]
      refine hk w2 w3 J hJ ?_
      have g : amF (eF J0) (vF J0 by1 k law) (loF J0 by1) (40 * (l + 1)) = amF (eF J0) (vF J0 by1 k law) (loF J0 by1) (40 * l + p) := by
        refine amF_gap (40 * (l + 1)) (by omega) (fun s h1 h2 => ?_)
        obtain ⟨p', hp', rfl⟩ : ∃ p', p' < 40 ∧ s = 40 * l + p' := ⟨s - 40 * l, by omega, by omega⟩
        cases h : eF J0 (40 * l + p') with
        | false => rfl
        | true => have := ((ef_iff J0 hp').mp h).1; omega
      rw [g]; exact hs
theorem xv_find7 (by1 : Bool) (b : Int) (hb : b = if by1 then 1 else 0) (J0 : IMem) {k : Nat} {law : List LRec} (hw : LWX J0 k law) (hc : ∀ l, l < 6 → 0 ≤ J0 1 (130 + l) ∧ J0 1 (130 + l) ≤ 40) (hbd : inr (J0 1 5)) : ∀ (m l : Nat) (w2 w3 : Int) (J : IMem), l ≤ 6 → (∀ q j, q ≠ 7 → q ≠ 8 → J q j = J0 q j) → ST2 (amF (eF J0) (vF J0 by1 k law) (loF J0 by1) (40 * l)) w2 w3 (loF J0 by1) → par (f_X_finds_7 fu 0 b m w2 w3 (l : Int) J) (fun y J' => y = (amF (eF J0) (vF J0 by1 k law) (loF J0 by1) 240).1 ∧ ∀ q j, q ≠ 7 → q ≠ 8 → J' q j = J0 q j) := by
  intro m
  induction m with
  | zero => intro _ _ _ _ _ _ _; exact par_none
  | succ m ih =>
    intro l w2 w3 J hl hJ hs
    show par (fb_X_finds_7 fu 0 b (f_X_finds_7 fu 0 b m) w2 w3 (l : Int) J) _
    unfold fb_X_finds_7
    by_cases h6 : l < 6
    · rw [if_pos (by omega)]
      refine xv_find17 by1 b hb _ J0 hw h6 (hc l h6) hbd fu 0 w2 w3 J hJ (hc l h6).1 hs (fun w2' w3' J' h1 h2 => ?_)
      simp only [zl_e]
      have wn : Wq (wr32 ((l : Int) + 1)) (((l + 1 : Nat) : Int)) := by show wr32 ((l : Int) + 1) = ((l + 1 : Nat) : Int); rw [wr32_i2 (by omega) (by omega)]; rfl
      rw [wn.e]
      exact ih (l + 1) w2' w3' J' h6 h1 h2
    · rw [if_neg (by omega)]
      have : l = 6 := by omega
      subst this
      exact par_zr ⟨hs.1, hJ⟩
theorem xv_finds (by1 : Bool) (b : Int) (hb : b = if by1 then 1 else 0) (J : IMem) {k : Nat} {law : List LRec} (hw : LWX J k law) (hc : ∀ l, l < 6 → 0 ≤ J 1 (130 + l) ∧ J 1 (130 + l) ≤ 40) (hbd : inr (J 1 5)) : par (f_X_finds fu 0 b J) (fun y J' => y = (amF (eF J) (vF J by1 k law) (loF J by1) 240).1 ∧ ∀ q j, q ≠ 7 → q ≠ 8 → J' q j = J q j) :=
  xv_find7 by1 b hb J hw hc hbd fu 0 (-1) 0 J (by decide) (fun _ _ _ _ => rfl) ⟨rfl, fun _ => rfl, fun q => absurd rfl q⟩
end
/-! what is seen, who is found: the class -/
def SN (c s : Nat → Int) (lg : Int) (k : Nat) : Prop := ((k % 40 : Nat) : Int) < c (k / 40) ∧ ((k % 40 : Nat) : Int) < s (k / 40) + (if ((k / 40 : Nat) : Int) = lg then 1 else 0)
/-- the spots below K that are seen, in their order -/
def SLI (a c s : Nat → Int) (lg : Int) (K n : Nat) : Prop := (∀ i, i < n → ∃ k : Nat, k < K ∧ a i = (k : Int) ∧ SN c s lg k) ∧ (∀ i j, i < j → j < n → a i < a j) ∧ ∀ k, k < K → SN c s lg k → ∃ i, i < n ∧ a i = (k : Int)
section
variable {fu : Nat} {Q : Int → IMem → Prop}
theorem cv_seen46 (kk : Int → IMem → Res) (o o1 : Nat) (p2 : Int) (c s : Nat → Int) {l : Nat} (hl : l < 6) (hc : 0 ≤ c l ∧ c l ≤ 40) (hs : 0 ≤ s l + (if (l : Int) = p2 then 1 else 0) ∧ s l + (if (l : Int) = p2 then 1 else 0) ≤ 24) (p5 : Int) (h5 : p5 = if s l + (if (l : Int) = p2 then 1 else 0) < c l then s l + (if (l : Int) = p2 then 1 else 0) else c l) (I0 : IMem) : ∀ (m n p : Nat) (I : IMem), (∀ q, q ≠ o1 → I q = I0 q) → (p : Int) ≤ p5 → n ≤ 24 * l + p → SLI (I o1) c s p2 (40 * l + p) n →
    (∀ (n : Nat) (I' : IMem), (∀ q, q ≠ o1 → I' q = I0 q) → n ≤ 24 * (l + 1) → SLI (I' o1) c s p2 (40 * (l + 1)) n → par (kk (n : Int) I') Q) → par (f_L_listSeen_46 fu kk o o1 144 p2 (l : Int) p5 m (n : Int) (p : Int) I) Q := by
  intro m
  induction m with
  | zero => intro _ _ _ _ _ _ _ _; exact par_none
  | succ m ih =>
    intro n p I hI hp hn hS hk
    show par (fb_L_listSeen_46 fu kk o o1 144 p2 (l : Int) p5 (f_L_listSeen_46 fu kk o o1 144 p2 (l : Int) p5 m) (n : Int) (p : Int) I) Q
    unfold fb_L_listSeen_46
    have d5 : p5 ≤ 24 ∧ p5 ≤ c l ∧ p5 ≤ s l + (if (l : Int) = p2 then 1 else 0) := by
      rw [h5]
      split <;> omega
    have e5 : p5 = c l ∨ p5 = s l + (if (l : Int) = p2 then 1 else 0) := by
      rw [h5]
      by_cases z5 : s l + (if (l : Int) = p2 then 1 else 0) < c l
      · rw [if_pos z5]; exact Or.inr rfl
      · rw [if_neg z5]; exact Or.inl rfl
    by_cases h : (p : Int) < p5
    · rw [if_pos h]
      simp only [zl_e, zj_e]
      rw [if_pos (by omega)]
      have w1 : Wq (wr32 (wr32 ((l : Int) * 40) + (p : Int))) (((40 * l + p : Nat) : Int)) := by show wr32 (wr32 ((l : Int) * 40) + (p : Int)) = ((40 * l + p : Nat) : Int); rw [wr32_i2 (x := (l : Int) * 40) (by omega) (by omega), wr32_i2 (by omega) (by omega)]; omega
      have w2 : Wq (wr32 ((n : Int) + 1)) (((n + 1 : Nat) : Int)) := by show wr32 ((n : Int) + 1) = ((n + 1 : Nat) : Int); rw [wr32_i2 (by omega) (by omega)]; rfl
      have w3 : Wq (wr32 ((p : Int) + 1)) (((p + 1 : Nat) : Int)) := by show wr32 ((p : Int) + 1) = ((p + 1 : Nat) : Int); rw [wr32_i2 (by omega) (by omega)]; rfl
      rw [w1.e, w2.e, w3.e]
      refine par_zg (fun _ => par_zw' (fun I1 e1 => ?_))
      rw [show ((n : Nat) : Int).toNat = n from rfl] at e1
      have a1 : ∀ i, I1 o1 i = if i = n then ((40 * l + p : Nat) : Int) else I o1 i := by
        intro i
        rw [e1]
        by_cases q : i = n
        · rw [if_pos ⟨rfl, q⟩, if_pos q]
        · rw [if_neg (fun z => q z.2), if_neg q]
      obtain ⟨s1, s2, s3⟩ := hS
      refine ih (n + 1) (p + 1) I1 (fun q hq => ?_) (by omega) (by omega) ⟨fun i hi => ?_, fun i j hij hj => ?_, fun k hk1 hk2 => ?_⟩ hk
      · rw [← hI q hq]; funext i; rw [e1, if_neg (fun z => hq z.1)]
      · rw [a1]
        by_cases q : i = n
        · rw [if_pos q]
          refine ⟨40 * l + p, by omega, rfl, ?_⟩
          unfold SN
          rw [show (40 * l + p) % 40 = p by omega, show (40 * l + p) / 40 = l by omega]
          exact ⟨by omega, by omega⟩
        · rw [if_neg q]
          obtain ⟨k, k1, k2, k3⟩ := s1 i (by omega)
          exact ⟨k, by omega, k2, k3⟩
      · rw [a1, a1, if_neg (by omega)]
        by_cases q : j = n
        · rw [if_pos q]
          obtain ⟨k, k1, k2, k3⟩ := s1 i (by omega)
          omega
        · rw [if_neg q]; exact s2 i j hij (by omega)
      · by_cases q : k = 40 * l + p
        · exact ⟨n, by omega, by rw [a1, if_pos rfl, q]⟩
        · obtain ⟨i, i1, i2⟩ := s3 k (by omega) hk2
          exact ⟨i, by omega, by rw [a1, if_neg (by omega)]; exact i2⟩
    · rw [if_neg h]
      obtain ⟨s1, s2, s3⟩ := hS
      refine hk n I hI (by omega) ⟨fun i hi => ?_, s2, fun k hk1 hk2 => ?_⟩
      · obtain ⟨k, k1, k2, k3⟩ := s1 i hi
        exact ⟨k, by omega, k2, k3⟩
      · by_cases q : k < 40 * l + p
        · exact s3 k q hk2
        · exfalso
          obtain ⟨p', hp', rfl⟩ : ∃ p', p' < 40 ∧ k = 40 * l + p' := ⟨k - 40 * l, by omega, by omega⟩
          unfold SN at hk2
          rw [show (40 * l + p') % 40 = p' by omega, show (40 * l + p') / 40 = l by omega] at hk2
          omega
theorem cv_seen5 (o o1 : Nat) (p2 : Int) (h1 : o1 ≠ o + 2 ∧ o1 ≠ o + 3) (I0 : IMem) (hc : ∀ l, l < 6 → 0 ≤ I0 (o + 2) l ∧ I0 (o + 2) l ≤ 40) (hs : ∀ l : Nat, l < 6 → 0 ≤ I0 (o + 3) l + (if (l : Int) = p2 then 1 else 0) ∧ I0 (o + 3) l + (if (l : Int) = p2 then 1 else 0) ≤ 24) : ∀ (m n l : Nat) (I : IMem), (∀ q, q ≠ o1 → I q = I0 q) → l ≤ 6 → n ≤ 24 * l → SLI (I o1) (I0 (o + 2)) (I0 (o + 3)) p2 (40 * l) n → par (f_L_listSeen_5 fu o o1 144 p2 m (n : Int) (l : Int) I) (fun v I' => ∃ n : Nat, v = n ∧ n ≤ 144 ∧ SLI (I' o1) (I0 (o + 2)) (I0 (o + 3)) p2 240 n ∧ ∀ q, q ≠ o1 → I' q = I0 q) := by
  intro m
  induction m with
  | zero => intro _ _ _ _ _ _ _; exact par_none
  | succ m ih =>
    intro n l I hI hl hn hS
    show par (fb_L_listSeen_5 fu o o1 144 p2 (f_L_listSeen_5 fu o o1 144 p2 m) (n : Int) (l : Int) I) _
    unfold fb_L_listSeen_5
    by_cases h6 : l < 6
    · rw [if_pos (by omega)]
      refine par_zg (fun _ => par_zg (fun _ => ?_))
      have g : ∀ x : Int, x = (if (l : Int) = p2 then 1 else 0) → par (zb (f_JM_min fu (I (o + 2) (l : Int).toNat) (wr32 ((I (o + 3) (l : Int).toNat) + x)) I) fun y4 I5 => f_L_listSeen_46 fu (fun (x14 : Int) (I13 : IMem) => zl (wr32 ((l : Int) + 1)) fun x15 => f_L_listSeen_5 fu o o1 144 p2 m x14 x15 I13) o o1 144 p2 (l : Int) y4 fu (n : Int) 0 I5) (fun v I' => ∃ n : Nat, v = n ∧ n ≤ 144 ∧ SLI (I' o1) (I0 (o + 2)) (I0 (o + 3)) p2 240 n ∧ ∀ q, q ≠ o1 → I' q = I0 q) := by
        intro x hx
        rw [ev_min, zb_zr, show ((l : Nat) : Int).toNat = l from rfl, hI _ (fun z => h1.1 z.symm), hI _ (fun z => h1.2 z.symm)]
        have a1 := hc l h6
        have a2 := hs l h6
        rw [← hx] at a2
        rw [wr32_i2 (x := I0 (o + 3) l + x) (by omega) (by omega)]
        refine cv_seen46 _ o o1 p2 (I0 (o + 2)) (I0 (o + 3)) h6 a1 (by rw [← hx]; exact a2) _ (by rw [← hx]) I0 fu n 0 I hI ?_ (by omega) hS (fun n' I' f1 f2 f3 => ?_)
        · split <;> omega
        · simp only [zl_e]
          have wn : Wq (wr32 ((l : Int) + 1)) (((l + 1 : Nat) : Int)) := by show wr32 ((l : Int) + 1) = ((l + 1 : Nat) : Int); rw [wr32_i2 (by omega) (by omega)]; rfl
          rw [wn.e]
          exact ih n' (l + 1) I' f1 h6 f2 f3
      simp only [zj_e]
      refine par_ite (fun q => ?_) (fun q => ?_)
      · exact g 1 (by rw [if_pos q])
      · exact g 0 (by rw [if_neg q])
    · rw [if_neg (by omega)]
      have : l = 6 := by omega
      subst this
      exact par_zr ⟨n, rfl, hn, hS, hI⟩
theorem cv_seen (o o1 : Nat) (p2 : Int) (h1 : o1 ≠ o + 2 ∧ o1 ≠ o + 3) (I : IMem) (hc : ∀ l, l < 6 → 0 ≤ I (o + 2) l ∧ I (o + 2) l ≤ 40) (hs : ∀ l : Nat, l < 6 → 0 ≤ I (o + 3) l + (if (l : Int) = p2 then 1 else 0) ∧ I (o + 3) l + (if (l : Int) = p2 then 1 else 0) ≤ 24) : par (f_L_listSeen fu o o1 144 p2 I) (fun v I' => ∃ n : Nat, v = n ∧ n ≤ 144 ∧ SLI (I' o1) (I (o + 2)) (I (o + 3)) p2 240 n ∧ ∀ q, q ≠ o1 → I' q = I q) :=
  cv_seen5 o o1 p2 h1 I hc hs fu 0 0 I (fun _ _ => rfl) (by decide) (by decide) ⟨fun i hi => absurd hi (Nat.not_lt_zero _), fun i j _ hj => absurd hj (Nat.not_lt_zero _), fun k hk => absurd hk (Nat.not_lt_zero _)⟩
theorem ev_cstands (fu oc k : Nat) (I : IMem) (hk : k < 240) : f_C_stands fu oc (k : Int) I = zr (if I (oc + 1) k = 0 then 1 else 0) I := by
  unfold f_C_stands
  rw [if_neg (by omega), if_pos (by omega), zg_t (by omega)]
  show (if I (oc + 1) k = 0 then _ else _) = _
  by_cases h : I (oc + 1) k = 0
  · rw [if_pos h, if_pos h]
  · rw [if_neg h, if_neg h]
theorem ev_cfits (fu oc hb k : Nat) (I : IMem) (hk : k < 240) : f_C_fits fu oc hb (k : Int) I = zr (if I (oc + 1) k = 0 ∧ I oc 10 = 0 ∧ I (hb + 7) (6 * k + 2) ≤ I oc 7 ∧ (I (hb + 7) (6 * k + 3) = 1 → I oc 11 ≠ 0) ∧ (I (hb + 7) (6 * k + 3) = 2 → I oc 8 = 0) then 1 else 0) I := by
  unfold f_C_fits
  rw [ev_cstands fu oc k I hk, zb_zr]
  by_cases h1 : I (oc + 1) k = 0
  · rw [if_pos h1, if_neg (by decide)]
    by_cases h2 : I oc 10 = 0
    · rw [if_pos h2, ev_get2 fu (hb + 6) k I hk, zb_zr]
      show (if I oc 7 < I (hb + 7) (6 * k + 2) then _ else _) = _
      by_cases h3 : I oc 7 < I (hb + 7) (6 * k + 2)
      · rw [if_pos h3, if_neg (fun q => by have := q.2.2.1; omega)]
      · rw [if_neg h3, ev_get3 fu (hb + 6) k I hk, zb_zr]
        simp only [zj_e]
        show (if I (hb + 7) (6 * k + 3) = 1 then (if I oc 11 = 0 then _ else (if I (hb + 7) (6 * k + 3) = 2 then _ else _)) else (if I (hb + 7) (6 * k + 3) = 2 then _ else _)) = _
        by_cases h4 : I (hb + 7) (6 * k + 3) = 1
        · rw [if_pos h4]
          by_cases h5 : I oc 11 = 0
          · rw [if_pos h5, if_neg (fun q => q.2.2.2.1 h4 h5)]
          · rw [if_neg h5, if_neg (by omega), if_pos ⟨h1, h2, by omega, fun _ => h5, fun q => by omega⟩]
        · rw [if_neg h4]
          by_cases h6 : I (hb + 7) (6 * k + 3) = 2
          · rw [if_pos h6]
            by_cases h5 : I oc 8 = 0
            · rw [if_pos h5, if_pos ⟨h1, h2, by omega, fun q => absurd q h4, fun _ => h5⟩]
            · rw [if_neg h5, if_neg (fun q => h5 (q.2.2.2.2 h6))]
          · rw [if_neg h6, if_pos ⟨h1, h2, by omega, fun q => absurd q h4, fun q => absurd q h6⟩]
    · rw [if_neg h2, if_neg (fun q => h2 q.2.1)]
  · rw [if_neg h1, if_pos rfl, if_neg (fun q => h1 q.1)]
/-- the spot at which the i-th turn of the class's loop looks -/
def nxS (a : Nat → Int) (n i : Nat) : Nat := if i < n then (a i).toNat else 240
theorem nxS_0 {a c s : Nat → Int} {lg : Int} {n : Nat} (h : SLI a c s lg 240 n) {e : Nat → Bool} (he : ∀ k, k < 240 → e k = true → SN c s lg k) (v : Nat → Int) (lo : Int) : amF e v lo (nxS a n 0) = (-1, lo) := by
  have : amF e v lo (nxS a n 0) = amF e v lo 0 := by
    refine amF_gap _ (Nat.zero_le _) (fun k _ hk => ?_)
    cases hek : e k with
    | false => rfl
    | true =>
      exfalso
      unfold nxS at hk
      by_cases hn : 0 < n
      · rw [if_pos hn] at hk
        obtain ⟨k0, q1, q2, _⟩ := h.1 0 hn
        obtain ⟨i, i1, i2⟩ := h.2.2 k (by omega) (he k (by omega) hek)
        by_cases hi0 : i = 0
        · subst hi0; omega
        · have := h.2.1 0 i (by omega) i1; omega
      · rw [if_neg hn] at hk
        obtain ⟨i, i1, i2⟩ := h.2.2 k hk (he k hk hek)
        omega
  rw [this]; rfl
theorem nxS_s {a c s : Nat → Int} {lg : Int} {n i k : Nat} (h : SLI a c s lg 240 n) {e : Nat → Bool} (he : ∀ k, k < 240 → e k = true → SN c s lg k) (v : Nat → Int) (lo : Int) (hi : i < n) (hk : a i = (k : Int)) : amF e v lo (nxS a n (i + 1)) = if e k = true ∧ (amF e v lo (nxS a n i)).2 < v k then ((k : Int), v k) else amF e v lo (nxS a n i) := by
  have e0 : nxS a n i = k := by unfold nxS; rw [if_pos hi, hk]; rfl
  obtain ⟨k0, q1, q2, q3⟩ := h.1 i hi
  rw [e0]
  show _ = amF e v lo (k + 1)
  have hb : k + 1 ≤ nxS a n (i + 1) ∧ nxS a n (i + 1) ≤ 240 := by
    unfold nxS
    by_cases hn : i + 1 < n
    · rw [if_pos hn]
      have := h.2.1 i (i + 1) (by omega) hn
      obtain ⟨k1, p1, p2, _⟩ := h.1 (i + 1) hn
      omega
    · rw [if_neg hn]; omega
  refine amF_gap _ hb.1 (fun k2 h1 h2 => ?_)
  cases hek : e k2 with
  | false => rfl
  | true =>
    exfalso
    obtain ⟨i2, j1, j2⟩ := h.2.2 k2 (by omega) (he k2 (by omega) hek)
    have a1 : i < i2 := by
      rcases Nat.lt_trichotomy i i2 with x | x | x
      · exact x
      · subst x; omega
      · have := h.2.1 i2 i x hi; omega
    unfold nxS at h2
    by_cases hn : i + 1 < n
    · rw [if_pos hn] at h2
      obtain ⟨k1, p1, p2, _⟩ := h.1 (i + 1) hn
      by_cases hx : i2 = i + 1
      · subst hx; omega
      · have := h.2.1 (i + 1) i2 (by omega) j1; omega
    · omega
theorem nxS_n {a : Nat → Int} {n : Nat} : nxS a n n = 240 := by unfold nxS; rw [if_neg (Nat.lt_irrefl _)]
/-- the class's search by how often passed -/
theorem cv_most (oc hb : Nat) (I : IMem) {c s : Nat → Int} {n : Nat} (hn : n ≤ 144) (h5 : I oc 5 = n) (hS : SLI (I (oc + 5)) c s (-1) 240 n) {e : Nat → Bool} {v : Nat → Int} (he : ∀ k, k < 240 → e k = true → SN c s (-1) k) (hf : ∀ k, k < 240 → SN c s (-1) k → (e k = true ↔ (I (oc + 1) k = 0 ∧ I oc 10 = 0 ∧ I (hb + 7) (6 * k + 2) ≤ I oc 7 ∧ (I (hb + 7) (6 * k + 3) = 1 → I oc 11 ≠ 0) ∧ (I (hb + 7) (6 * k + 3) = 2 → I oc 8 = 0))) ∧ I (hb + 7) (6 * k + 5) = v k) (bd lo : Int) (hbd : 0 < bd) : ∀ (m i : Nat) (w3 w4 : Int), i ≤ n → amF e v lo (nxS (I (oc + 5)) n i) = (w4, w3) → par (f_C_mostPassed_17 fu oc hb bd m w3 w4 (i : Int) I) (fun x I' => I' = I ∧ x = (amF e v lo 240).1) := by
  intro m
  induction m with
  | zero => intro _ _ _ _ _; exact par_none
  | succ m ih =>
    intro i w3 w4 hi hw
    show par (fb_C_mostPassed_17 fu oc hb bd (f_C_mostPassed_17 fu oc hb bd m) w3 w4 (i : Int) I) _
    unfold fb_C_mostPassed_17
    rw [h5]
    by_cases hin : i < n
    · rw [if_pos (by omega), if_pos (by omega), if_pos hbd]
      refine par_zg (fun _ => ?_)
      obtain ⟨k, k1, k2, k3⟩ := hS.1 i hin
      have stp := nxS_s hS he v lo hin k2
      obtain ⟨f1, f2⟩ := hf k k1 k3
      simp only [zl_e, zj_e]
      have wn : Wq (wr32 ((i : Int) + 1)) (((i + 1 : Nat) : Int)) := by show wr32 ((i : Int) + 1) = ((i + 1 : Nat) : Int); rw [wr32_i2 (by omega) (by omega)]; rfl
      rw [show ((i : Nat) : Int).toNat = i from rfl, k2, ev_get5 fu (hb + 6) k I k1, zb_zr, wn.e]
      rw [hw] at stp
      have f2' : I (hb + 6 + 1) (6 * k + 5) = v k := f2
      rw [f2']
      refine par_ite (fun q => par_zg (fun _ => ?_)) (fun q => ?_)
      · rw [k2, ev_cfits fu oc hb k I k1, zb_zr]
        by_cases hek : e k = true
        · rw [if_pos (f1.mp hek), if_neg (by decide)]
          refine par_zg (fun _ => ?_)
          rw [k2]
          refine ih (i + 1) (v k) (k : Int) hin ?_
          rw [stp, if_pos ⟨hek, q⟩]
        · rw [if_neg (fun z => hek (f1.mpr z)), if_pos rfl]
          refine ih (i + 1) w3 w4 hin ?_
          rw [stp, if_neg (fun z => hek z.1)]
      · refine ih (i + 1) w3 w4 hin ?_
        rw [stp, if_neg (fun z => q z.2)]
    · rw [if_neg (by omega)]
      have : i = n := by omega
      subst this
      rw [nxS_n] at hw
      exact par_zr ⟨rfl, by rw [hw]⟩
end
/-! the class's search by worth -/
section
variable {fu : Nat}
theorem cv_worthy (oc hb kl : Nat) (hd : hb + 40 ≤ oc) (hkl : kl < 4) (I0 J : IMem) {law : List LRec} (hL : HL hb 1 I0 J) (ho : LOK kl law) (hlc : LC (hb + 15 + 5 * kl) kl law I0) {n : Nat} (hn : n ≤ 144) (h5 : I0 oc 5 = n) (hS : SLI (I0 (oc + 5)) (I0 (hb + 8)) (I0 (hb + 9)) (-1) 240 n) {e : Nat → Bool} {v : Nat → Int} (he : ∀ k, k < 240 → e k = true → SN (I0 (hb + 8)) (I0 (hb + 9)) (-1) k) (hf : ∀ k, k < 240 → SN (I0 (hb + 8)) (I0 (hb + 9)) (-1) k → (e k = true ↔ (I0 (oc + 1) k = 0 ∧ I0 oc 10 = 0 ∧ I0 (hb + 7) (6 * k + 2) ≤ I0 oc 7 ∧ (I0 (hb + 7) (6 * k + 3) = 1 → I0 oc 11 ≠ 0) ∧ (I0 (hb + 7) (6 * k + 3) = 2 → I0 oc 8 = 0)))) (hv : ∀ k, k < 240 → v k = lval kl (WF J (k / 40) (k % 40) (I0 oc 7) (I0 oc 8)) law) (p2 : Int)
    (hp2 : p2 = 0 → ∀ i k, i < n → I0 (oc + 5) i = ((k : Nat) : Int) → e k = true → I0 (oc + 6) i = v k) : ∀ (m i : Nat) (w4 w5 : Int) (I : IMem), i ≤ n → (∀ q j, q ≠ hb + 13 → q ≠ hb + 15 + 5 * kl + 4 → q ≠ oc + 6 → I q j = I0 q j) → (∀ i' k, (i' < i ∨ p2 = 0) → i' < n → I0 (oc + 5) i' = ((k : Nat) : Int) → e k = true → I (oc + 6) i' = v k) → amF e v 0 (nxS (I0 (oc + 5)) n i) = (w5, w4) → par (f_C_worthiest_14 fu oc hb p2 (hb + 15 + 5 * kl) m w4 w5 (i : Int) I) (fun x I' => x = (amF e v 0 240).1 ∧ (∀ q j, q ≠ hb + 13 → q ≠ hb + 15 + 5 * kl + 4 → q ≠ oc + 6 → I' q j = I0 q j) ∧ ∀ i k, i < n → I0 (oc + 5) i = ((k : Nat) : Int) → e k = true → I' (oc + 6) i = v k) := by
  intro m
  induction m with
  | zero => intro _ _ _ _ _ _ _ _; exact par_none
  | succ m ih =>
    intro i w4 w5 I hi hI hwo hw
    show par (fb_C_worthiest_14 fu oc hb p2 (hb + 15 + 5 * kl) (f_C_worthiest_14 fu oc hb p2 (hb + 15 + 5 * kl) m) w4 w5 (i : Int) I) _
    unfold fb_C_worthiest_14
    have g5 : I oc 5 = n := (hI _ _ (by omega) (by omega) (by omega)).trans h5
    have ga : ∀ j, I (oc + 5) j = I0 (oc + 5) j := fun j => hI _ _ (by omega) (by omega) (by omega)
    rw [g5]
    by_cases hin : i < n
    · rw [if_pos (by omega), if_pos (by omega)]
      refine par_zg (fun _ => ?_)
      obtain ⟨k, k1, k2, k3⟩ := hS.1 i hin
      have stp := nxS_s hS he v 0 hin k2
      have f1 := hf k k1 k3
      rw [hw] at stp
      have wn : Wq (wr32 ((i : Int) + 1)) (((i + 1 : Nat) : Int)) := by show wr32 ((i : Int) + 1) = ((i + 1 : Nat) : Int); rw [wr32_i2 (by omega) (by omega)]; rfl
      simp only [zl_e, zj_e]
      rw [show ((i : Nat) : Int).toNat = i from rfl, ga, k2, ev_cfits fu oc hb k I k1, zb_zr, wn.e]
      have t1 : I (oc + 1) k = I0 (oc + 1) k := hI _ _ (by omega) (by omega) (by omega)
      have t2 : ∀ j, I oc j = I0 oc j := fun j => hI _ _ (by omega) (by omega) (by omega)
      have t3 : ∀ j, I (hb + 7) j = I0 (hb + 7) j := fun j => hI _ _ (by omega) (by omega) (by omega)
      rw [t1, t2, t2, t2, t2, t3, t3]
      have skip : ∀ I1 : IMem, (∀ q j, q ≠ hb + 13 → q ≠ hb + 15 + 5 * kl + 4 → q ≠ oc + 6 → I1 q j = I0 q j) → (∀ i' k, (i' < i + 1 ∨ p2 = 0) → i' < n → I0 (oc + 5) i' = ((k : Nat) : Int) → e k = true → I1 (oc + 6) i' = v k) → ¬ (e k = true ∧ w4 < v k) → par (f_C_worthiest_14 fu oc hb p2 (hb + 15 + 5 * kl) m w4 w5 ((i + 1 : Nat) : Int) I1) (fun x I' => x = (amF e v 0 240).1 ∧ (∀ q j, q ≠ hb + 13 → q ≠ hb + 15 + 5 * kl + 4 → q ≠ oc + 6 → I' q j = I0 q j) ∧ ∀ i k, i < n → I0 (oc + 5) i = ((k : Nat) : Int) → e k = true → I' (oc + 6) i = v k) := fun I1 a b z => ih (i + 1) w4 w5 I1 hin a b (by rw [stp, if_neg z])
      by_cases hek : e k = true
      · rw [if_pos (f1.mp hek), if_neg (by decide)]
        -- with the worth in its place
        have dec : ∀ I1 : IMem, (∀ q j, q ≠ hb + 13 → q ≠ hb + 15 + 5 * kl + 4 → q ≠ oc + 6 → I1 q j = I0 q j) → (∀ i' k, (i' < i + 1 ∨ p2 = 0) → i' < n → I0 (oc + 5) i' = ((k : Nat) : Int) → e k = true → I1 (oc + 6) i' = v k) → par (zg (0 ≤ (i : Int) ∧ (i : Int) < 144) (if w4 < I1 (oc + 6) i then zg (0 ≤ (i : Int) ∧ (i : Int) < 144) (zg (0 ≤ (i : Int) ∧ (i : Int) < 144) (f_C_worthiest_14 fu oc hb p2 (hb + 15 + 5 * kl) m (I1 (oc + 6) i) (I1 (oc + 5) i) ((i + 1 : Nat) : Int) I1)) else f_C_worthiest_14 fu oc hb p2 (hb + 15 + 5 * kl) m w4 w5 ((i + 1 : Nat) : Int) I1)) (fun x I' => x = (amF e v 0 240).1 ∧ (∀ q j, q ≠ hb + 13 → q ≠ hb + 15 + 5 * kl + 4 → q ≠ oc + 6 → I' q j = I0 q j) ∧ ∀ i k, i < n → I0 (oc + 5) i = ((k : Nat) : Int) → e k = true → I' (oc + 6) i = v k) := by
          intro I1 a b
          have ew : I1 (oc + 6) i = v k := b i k (Or.inl (by omega)) hin k2 hek
          have es : I1 (oc + 5) i = (k : Int) := (a _ _ (by omega) (by omega) (by omega)).trans k2
          rw [ew, es]
          refine par_zg (fun _ => par_ite (fun q => par_zg (fun _ => par_zg (fun _ => ih (i + 1) (v k) (k : Int) I1 hin a b (by rw [stp, if_pos ⟨hek, q⟩])))) (fun q => skip I1 a b (fun z => q z.2)))
        refine par_ite (fun q => ?_) (fun q => ?_)
        · exact dec I hI (fun i' k' hh => hwo i' k' (Or.inr q))
        · refine par_zg (fun _ => ?_)
          have kc : (((k % 40 : Nat) : Int) < J 1 (130 + k / 40)) := by
            have := k3.1
            rw [(hl_c hL (by omega)).1] at this
            exact this
          have hL1 : HL hb 1 I J := hl_mv hL (fun j => ⟨t3 j, hI _ _ (by omega) (by omega) (by omega)⟩) (fun _ _ _ => rfl)
          have ek : (k : Nat) = 40 * (k / 40) + k % 40 := by omega
          have gw := cv_facts (fu := fu) (hb := hb) (l := k / 40) (p := k % 40) (left := I0 oc 7) (taken := I0 oc 8) (s := (kl : Int)) (I := I) (J := J) (by omega) hL1 (by omega) kc
          rw [← ek] at gw
          rw [ga, k2]
          refine par_zb gw (fun _ I1 ⟨g1, g2⟩ => ?_)
          have hlc1 : LC (hb + 15 + 5 * kl) kl law I1 := lc_mv hlc (fun d j hd => by rw [g1 _ _ (by omega)]; exact hI _ _ (by omega) (by omega) (by omega))
          refine par_zb (cv_value (F := WF J (k / 40) (k % 40) (I0 oc 7) (I0 oc 8)) (fun d hd => by omega) ho I1 hlc1 g2) (fun y I2 ⟨g3, g4⟩ => ?_)
          refine par_zg (fun _ => par_zw' (fun I3 e3 => ?_))
          have hI3 : ∀ q j, q ≠ hb + 13 → q ≠ hb + 15 + 5 * kl + 4 → q ≠ oc + 6 → I3 q j = I0 q j := fun q j a b c => by rw [e3, if_neg (by omega), g4 _ _ (by omega), g1 _ _ a]; exact hI q j a b c
          refine dec I3 hI3 (fun i' k' hh hin' hk' hek' => ?_)
          rw [e3]
          by_cases q2 : i' = i
          · subst q2
            rw [if_pos ⟨rfl, rfl⟩, g3]
            have : k' = k := by omega
            subst this
            exact (hv k' k1).symm
          · rw [if_neg (fun z => q2 z.2), g4 _ _ (by omega), g1 _ _ (by omega)]
            exact hwo i' k' (by omega) hin' hk' hek'
      · rw [if_neg (fun z => hek (f1.mpr z)), if_pos rfl]
        refine skip I hI (fun i' k' hh hin' hk' hek' => ?_) (fun z => hek z.1)
        by_cases q2 : i' = i
        · subst q2
          have : k' = k := by omega
          subst this
          exact absurd hek' hek
        · exact hwo i' k' (by omega) hin' hk' hek'
    · rw [if_neg (by omega)]
      have : i = n := by omega
      subst this
      rw [nxS_n] at hw
      exact par_zr ⟨by rw [hw], hI, fun i' k' hi' hk' hek' => hwo i' k' (Or.inl hi') hi' hk' hek'⟩
end
/-! one sits, one is found out: both sides -/
section
variable {fu : Nat}
theorem cv_sit (oc k : Nat) (size sort mark : Int) (I : IMem) (hk : k < 240) (ht : 0 ≤ I oc 8 ∧ I oc 8 < 8) : par (f_C_sit fu oc (k : Int) size sort mark I) (fun _ I' => ∀ q j, I' q j = if q = oc ∧ j = 11 then (if I oc 11 = 0 then (if sort = 1 then 0 else 1) else 1) else if q = oc ∧ j = 10 then (if I oc 10 = 0 then (if sort = 2 then 1 else 0) else 1) else if q = oc ∧ j = 7 then wr32 (I oc 7 - size) else if q = oc ∧ j = 8 then I oc 8 + 1 else if q = oc + 3 ∧ j = (I oc 8).toNat then size else if q = oc + 2 ∧ j = (I oc 8).toNat then (k : Int) else if q = oc + 1 ∧ j = k then mark else I q j) := by
  unfold f_C_sit
  rw [if_neg (by omega), if_pos (by omega), if_neg (by omega), if_pos ht.2]
  refine par_zg (fun _ => par_zw' (fun I1 e1 => ?_))
  rw [show ((k : Nat) : Int).toNat = k from rfl] at e1
  have a1 : I1 oc 8 = I oc 8 := by rw [e1, if_neg (by omega)]
  simp only [zl_e]
  rw [a1]
  refine par_zg (fun _ => par_zw' (fun I2 e2 => ?_))
  have a2 : I2 oc 8 = I oc 8 := by rw [e2, if_neg (by omega), a1]
  rw [a2]
  refine par_zg (fun _ => par_zw' (fun I3 e3 => ?_))
  have a3 : I3 oc 8 = I oc 8 := by rw [e3, if_neg (by omega), a2]
  rw [a3, wr32_i2 (x := I oc 8 + 1) (by omega) (by omega)]
  refine par_zw' (fun I4 e4 => ?_)
  have a4 : I4 oc 7 = I oc 7 := by rw [e4, if_neg (by omega), e3, if_neg (by omega), e2, if_neg (by omega), e1, if_neg (by omega)]
  rw [a4]
  refine par_zw' (fun I5 e5 => ?_)
  have b5 : ∀ q j, I5 q j = if q = oc ∧ j = 7 then wr32 (I oc 7 - size) else if q = oc ∧ j = 8 then I oc 8 + 1 else if q = oc + 3 ∧ j = (I oc 8).toNat then size else if q = oc + 2 ∧ j = (I oc 8).toNat then (k : Int) else if q = oc + 1 ∧ j = k then mark else I q j := fun q j => by rw [e5, e4, e3, e2, e1]
  have a10 : I5 oc 10 = I oc 10 := by rw [b5, if_neg (by omega), if_neg (by omega), if_neg (by omega), if_neg (by omega), if_neg (by omega)]
  have a11 : I5 oc 11 = I oc 11 := by rw [b5, if_neg (by omega), if_neg (by omega), if_neg (by omega), if_neg (by omega), if_neg (by omega)]
  clear e5 e4 e3 e2 e1
  have last : ∀ (d : Int) (I6 : IMem), (∀ q j, I6 q j = if q = oc ∧ j = 10 then d else I5 q j) → d = (if I oc 10 = 0 then (if sort = 2 then 1 else 0) else 1) → ∀ c : Int, c = (if I oc 11 = 0 then (if sort = 1 then 0 else 1) else 1) → par (zg (c = 0 ∨ c = 1) (zw I6 oc 11 c fun I16 => zr 0 I16)) (fun _ I' => ∀ q j, I' q j = if q = oc ∧ j = 11 then (if I oc 11 = 0 then (if sort = 1 then 0 else 1) else 1) else if q = oc ∧ j = 10 then (if I oc 10 = 0 then (if sort = 2 then 1 else 0) else 1) else if q = oc ∧ j = 7 then wr32 (I oc 7 - size) else if q = oc ∧ j = 8 then I oc 8 + 1 else if q = oc + 3 ∧ j = (I oc 8).toNat then size else if q = oc + 2 ∧ j = (I oc 8).toNat then (k : Int) else if q = oc + 1 ∧ j = k then mark else I q j) := by
    intro d I6 e6 hd c hc
    refine par_zg (fun _ => par_zw' (fun I7 e7 => par_zr (fun q j => ?_)))
    rw [e7, e6, b5, hd, hc]
  have mid : ∀ d : Int, d = (if I oc 10 = 0 then (if sort = 2 then 1 else 0) else 1) → par (zg (d = 0 ∨ d = 1) (zw I5 oc 10 d fun I11 => if I11 oc 11 = 0 then (if sort = 1 then zg ((0 : Int) = 0 ∨ (0 : Int) = 1) (zw I11 oc 11 0 fun I16 => zr 0 I16) else zg ((1 : Int) = 0 ∨ (1 : Int) = 1) (zw I11 oc 11 1 fun I16 => zr 0 I16)) else zg ((1 : Int) = 0 ∨ (1 : Int) = 1) (zw I11 oc 11 1 fun I16 => zr 0 I16))) (fun _ I' => ∀ q j, I' q j = if q = oc ∧ j = 11 then (if I oc 11 = 0 then (if sort = 1 then 0 else 1) else 1) else if q = oc ∧ j = 10 then (if I oc 10 = 0 then (if sort = 2 then 1 else 0) else 1) else if q = oc ∧ j = 7 then wr32 (I oc 7 - size) else if q = oc ∧ j = 8 then I oc 8 + 1 else if q = oc + 3 ∧ j = (I oc 8).toNat then size else if q = oc + 2 ∧ j = (I oc 8).toNat then (k : Int) else if q = oc + 1 ∧ j = k then mark else I q j) := by
    intro d hd
    refine par_zg (fun _ => par_zw' (fun I6 e6 => ?_))
    have c11 : I6 oc 11 = I oc 11 := by rw [e6, if_neg (by omega), a11]
    rw [c11]
    by_cases z : I oc 11 = 0
    · rw [if_pos z]
      by_cases z2 : sort = 1
      · rw [if_pos z2]; exact last d I6 e6 hd 0 (by rw [if_pos z, if_pos z2])
      · rw [if_neg z2]; exact last d I6 e6 hd 1 (by rw [if_pos z, if_neg z2])
    · rw [if_neg z]; exact last d I6 e6 hd 1 (by rw [if_neg z])
  simp only [zj_e]
  rw [a10]
  by_cases z : I oc 10 = 0
  · rw [if_pos z]
    by_cases z2 : sort = 2
    · rw [if_pos z2]; exact mid 1 (by rw [if_pos z, if_pos z2])
    · rw [if_neg z2]; exact mid 0 (by rw [if_pos z, if_neg z2])
  · rw [if_neg z]; exact mid 1 (by rw [if_neg z])
theorem xv_takes (l p : Nat) (size : Int) (J : IMem) (hl : l < 6) (hp : p < 40) (ht : 0 ≤ J 0 31 ∧ J 0 31 < 8) : par (f_X_takes fu 0 (l : Int) (p : Int) size J) (fun _ J' => ∀ q j, J' q j = if q = 0 ∧ j = 34 then wr32 (J 0 34 + (if J 1 (140 + 6 * (40 * l + p) + 3) = 1 then 0 else 1)) else if q = 0 ∧ j = 33 then wr32 (J 0 33 + (if J 1 (140 + 6 * (40 * l + p) + 3) = 2 then 1 else 0)) else if q = 0 ∧ j = 30 then wr32 (J 0 30 - size) else if q = 0 ∧ j = 31 then J 0 31 + 1 else if q = 11 ∧ j = (J 0 31).toNat then ((40 * l + p : Nat) : Int) else if q = 9 ∧ j = 40 * l + p then size else J q j) := by
  unfold f_X_takes
  have wk : Wq (wr32 (wr32 (40 * (l : Int)) + (p : Int))) (((40 * l + p : Nat) : Int)) := by show wr32 (wr32 (40 * (l : Int)) + (p : Int)) = ((40 * l + p : Nat) : Int); rw [wr32_i2 (x := 40 * (l : Int)) (by omega) (by omega), wr32_i2 (by omega) (by omega)]; omega
  simp only [zl_e, zj_e, Nat.zero_add]
  rw [wk.e]
  refine par_zg (fun _ => par_zw' (fun I1 e1 => ?_))
  rw [show ((40 * l + p : Nat) : Int).toNat = 40 * l + p from rfl] at e1
  have a1 : I1 0 31 = J 0 31 := by rw [e1, if_neg (by omega)]
  rw [a1]
  refine par_zg (fun _ => par_zw' (fun I2 e2 => ?_))
  have a2 : I2 0 31 = J 0 31 := by rw [e2, if_neg (by omega), a1]
  rw [a2, wr32_i2 (x := J 0 31 + 1) (by omega) (by omega)]
  refine par_zw' (fun I3 e3 => ?_)
  have a3 : I3 0 30 = J 0 30 := by rw [e3, if_neg (by omega), e2, if_neg (by omega), e1, if_neg (by omega)]
  rw [a3]
  refine par_zw' (fun I4 e4 => ?_)
  have b4 : ∀ q j, I4 q j = if q = 0 ∧ j = 30 then wr32 (J 0 30 - size) else if q = 0 ∧ j = 31 then J 0 31 + 1 else if q = 11 ∧ j = (J 0 31).toNat then ((40 * l + p : Nat) : Int) else if q = 9 ∧ j = 40 * l + p then size else J q j := fun q j => by rw [e4, e3, e2, e1]
  have srt : I4 (0 + 1) (140 + 6 * (40 * l + p) + 3) = J 1 (140 + 6 * (40 * l + p) + 3) := by rw [b4, if_neg (by omega), if_neg (by omega), if_neg (by omega), if_neg (by omega)]
  have a33 : I4 0 33 = J 0 33 := by rw [b4, if_neg (by omega), if_neg (by omega), if_neg (by omega), if_neg (by omega)]
  have a34 : I4 0 34 = J 0 34 := by rw [b4, if_neg (by omega), if_neg (by omega), if_neg (by omega), if_neg (by omega)]
  clear e4 e3 e2 e1
  rw [ev_of3 fu 0 l p I4 hl hp, zb_zr, srt, a33]
  have mid : ∀ d : Int, d = (if J 1 (140 + 6 * (40 * l + p) + 3) = 2 then 1 else 0) → par (zw I4 0 33 (wr32 (J 0 33 + d)) fun I13 => zb (f_X_of fu 0 (l : Int) (p : Int) 3 I13) fun y14 I15 => if y14 = 1 then zw I15 0 34 (wr32 (I13 0 34 + 0)) fun I20 => zr 0 I20 else zw I15 0 34 (wr32 (I13 0 34 + 1)) fun I20 => zr 0 I20) (fun _ J' => ∀ q j, J' q j = if q = 0 ∧ j = 34 then wr32 (J 0 34 + (if J 1 (140 + 6 * (40 * l + p) + 3) = 1 then 0 else 1)) else if q = 0 ∧ j = 33 then wr32 (J 0 33 + (if J 1 (140 + 6 * (40 * l + p) + 3) = 2 then 1 else 0)) else if q = 0 ∧ j = 30 then wr32 (J 0 30 - size) else if q = 0 ∧ j = 31 then J 0 31 + 1 else if q = 11 ∧ j = (J 0 31).toNat then ((40 * l + p : Nat) : Int) else if q = 9 ∧ j = 40 * l + p then size else J q j) := by
    intro d hd
    refine par_zw' (fun I5 e5 => ?_)
    rw [ev_of3 fu 0 l p I5 hl hp, zb_zr]
    have s5 : I5 (0 + 1) (140 + 6 * (40 * l + p) + 3) = J 1 (140 + 6 * (40 * l + p) + 3) := by rw [e5, if_neg (by omega), srt]
    have z34 : I5 0 34 = J 0 34 := by rw [e5, if_neg (by omega), a34]
    rw [s5, z34]
    by_cases z : J 1 (140 + 6 * (40 * l + p) + 3) = 1
    · rw [if_pos z]
      refine par_zw' (fun I6 e6 => par_zr (fun q j => ?_))
      rw [e6, e5, b4, hd, if_pos z]
    · rw [if_neg z]
      refine par_zw' (fun I6 e6 => par_zr (fun q j => ?_))
      rw [e6, e5, b4, hd, if_neg z]
  by_cases z : J 1 (140 + 6 * (40 * l + p) + 3) = 2
  · rw [if_pos z]; exact mid 1 (by rw [if_pos z])
  · rw [if_neg z]; exact mid 0 (by rw [if_neg z])
theorem cv_found (oc hb k : Nat) (I : IMem) (hk : k < 240) (ho : hb + 40 ≤ oc) (hn : 0 ≤ I oc 9 ∧ I oc 9 ≤ 143) : par (f_C_findOut fu oc hb (k : Int) I) (fun _ I' => ∀ q j, I' q j = if q = hb + 10 ∧ j = 5 then wr32 (I (hb + 10) 5 + 1) else if q = oc ∧ j = 9 then I oc 9 + 1 else if q = oc + 4 ∧ 6 * (I oc 9).toNat ≤ j ∧ j < 6 * (I oc 9).toNat + 6 then (if j - 6 * (I oc 9).toNat = 2 then I (hb + 7) (6 * k + 1) else I (hb + 7) (6 * k + (j - 6 * (I oc 9).toNat))) else if q = oc + 1 ∧ j = k then 2 else I q j) := by
  unfold f_C_findOut
  obtain ⟨n, hnn⟩ : ∃ n : Nat, I oc 9 = (n : Int) := ⟨(I oc 9).toNat, by omega⟩
  rw [hnn, show ((n : Nat) : Int).toNat = n from rfl]
  have w1 : Wq (wr32 ((n : Int) * 6)) (((6 * n : Nat) : Int)) := by show wr32 ((n : Int) * 6) = ((6 * n : Nat) : Int); rw [wr32_i2 (by omega) (by omega)]; omega
  have w2 : Wq (wr32 ((k : Int) * 6)) (((6 * k : Nat) : Int)) := by show wr32 ((k : Int) * 6) = ((6 * k : Nat) : Int); rw [wr32_i2 (by omega) (by omega)]; omega
  have w3 : Wq (wr32 (((6 * n : Nat) : Int) + 1)) (((6 * n + 1 : Nat) : Int)) := by show wr32 (((6 * n : Nat) : Int) + 1) = ((6 * n + 1 : Nat) : Int); rw [wr32_i2 (by omega) (by omega)]; omega
  have w4 : Wq (wr32 (((6 * n : Nat) : Int) + 2)) (((6 * n + 2 : Nat) : Int)) := by show wr32 (((6 * n : Nat) : Int) + 2) = ((6 * n + 2 : Nat) : Int); rw [wr32_i2 (by omega) (by omega)]; omega
  simp only [zl_e]
  rw [w1.e, w2.e, w3.e, w4.e, if_neg (by omega), if_pos (by omega), if_neg (by omega), if_neg (by rw [wr32_i2 (by omega) (by omega)]; omega)]
  refine par_zg (fun _ => par_zw' (fun I1 e1 => par_zg (fun _ => par_zc' (fun I2 e2 => par_zg (fun _ => par_zg (fun _ => par_zw' (fun I3 e3 => par_zw' (fun I4 e4 => par_zw' (fun I5 e5 => par_zr (fun q j => ?_))))))))))
  rw [show ((k : Nat) : Int).toNat = k from rfl] at e1
  have n2 : ((6 * n : Nat) : Int).toNat = 6 * n := rfl
  have n3 : ((6 * k : Nat) : Int).toNat = 6 * k := rfl
  have n4 : (6 : Int).toNat = 6 := rfl
  rw [n2, n3, n4] at e2
  rw [show ((6 * n + 2 : Nat) : Int).toNat = 6 * n + 2 from rfl, show ((6 * n + 1 : Nat) : Int).toNat = 6 * n + 1 from rfl] at e3
  have r1 : ∀ f, f < 6 → I2 (oc + 4) (6 * n + f) = I (hb + 7) (6 * k + f) := by
    intro f hf
    rw [e2, if_pos (by omega), e1, if_neg (by omega), show 6 * k + (6 * n + f - 6 * n) = 6 * k + f by omega]
  have a9 : I3 oc 9 = (n : Int) := by rw [e3, if_neg (by omega), e2, if_neg (by omega), e1, if_neg (by omega), hnn]
  have a5 : I4 (hb + 10) 5 = I (hb + 10) 5 := by rw [e4, if_neg (by omega), e3, if_neg (by omega), e2, if_neg (by omega), e1, if_neg (by omega)]
  rw [e5, a5, e4, a9, wr32_i2 (x := (n : Int) + 1) (by omega) (by omega), e3]
  by_cases h1 : q = hb + 10 ∧ j = 5
  · rw [if_pos h1, if_pos h1]
  rw [if_neg h1, if_neg h1]
  by_cases h2 : q = oc ∧ j = 9
  · rw [if_pos h2, if_pos h2]
  rw [if_neg h2, if_neg h2]
  by_cases h3 : q = oc + 4 ∧ 6 * n ≤ j ∧ j < 6 * n + 6
  · rw [if_pos h3]
    obtain ⟨f, hf, rfl⟩ : ∃ f, f < 6 ∧ j = 6 * n + f := ⟨j - 6 * n, by omega, by omega⟩
    rw [Nat.add_sub_cancel_left]
    by_cases h4 : f = 2
    · rw [if_pos (by omega), if_pos h4]; exact r1 1 (by decide)
    · rw [if_neg (by omega), if_neg h4, h3.1]; exact r1 f hf
  · rw [if_neg h3, if_neg (by omega), e2, if_neg (by omega), e1]
end
/-! a filling under way on both sides -/
def INL (J : IMem) (k : Nat) : Prop := k < 240 ∧ ((k % 40 : Nat) : Int) < J 1 (130 + k / 40)
/-- the parts that can be -/
def PTS (J : IMem) : Prop := ∀ z : Int, 1 ≤ z → z ≤ 8 → 0 ≤ J 1 (16 + z).toNat ∧ J 1 (16 + z).toNat < z
theorem pts_mv {J J' : IMem} (h : PTS J) (g : ∀ j, 17 ≤ j → j ≤ 24 → J' 1 j = J 1 j) : PTS J' := fun z z1 z2 => by
  rw [g _ (by omega) (by omega)]; exact h z z1 z2
def MKR (m s f z : Int) : Prop := (m = 0 ∧ s = 0 ∧ f = 0) ∨ (m = 1 ∧ s = z ∧ 1 ≤ s ∧ f = 0) ∨ (m = 2 ∧ s = 0 ∧ f = 1) ∨ (m = 3 ∧ 1 ≤ s ∧ s < z ∧ f = 0)
def sm (c : Nat → Int) : Nat → Int
  | 0 => 0
  | n + 1 => sm c n + c n
theorem sm_eq {c d : Nat → Int} : ∀ n : Nat, (∀ i, i < n → d i = c i) → sm d n = sm c n := by
  intro n
  induction n with
  | zero => intro _; rfl
  | succ n ih =>
    intro h
    show sm d n + d n = sm c n + c n
    rw [ih (fun i hi => h i (by omega)), h n (by omega)]
def FRl (oc : Nat) (I J : IMem) : Prop :=
  (I oc 7 = J 0 30 ∧ I oc 8 = J 0 31 ∧ I oc 9 = J 0 32) ∧
  (0 ≤ J 0 30 ∧ 0 ≤ J 0 31 ∧ J 0 30 + J 0 31 ≤ 8 ∧ 0 ≤ J 0 32) ∧
  (((I oc 10 = 0 ∧ J 0 33 = 0) ∨ (I oc 10 = 1 ∧ 0 < J 0 33)) ∧ J 0 33 ≤ J 0 31) ∧
  (((I oc 11 = 0 ∧ J 0 34 = 0) ∨ (I oc 11 = 1 ∧ 0 < J 0 34)) ∧ J 0 34 ≤ J 0 31) ∧
  (∀ k, k < 240 → MKR (I (oc + 1) k) (J 9 k) (J 12 k) (J 1 (141 + 6 * k))) ∧
  (∀ i : Nat, (i : Int) < J 0 31 → ∃ k : Nat, INL J k ∧ J 11 i = k ∧ I (oc + 2) i = k ∧ I (oc + 3) i = J 9 k ∧ 1 ≤ J 9 k ∧ J 9 k ≤ 8) ∧
  (∀ i : Nat, (i : Int) < J 0 32 → ∃ k : Nat, INL J k ∧ J 10 i = k ∧ J 12 k = 1 ∧ ∀ f, f < 6 → I (oc + 4) (6 * i + f) = if f = 2 then J 1 (140 + 6 * k + 1) else J 1 (140 + 6 * k + f)) ∧
  J 1 1 = J 0 30 + sm (I (oc + 3)) (J 0 31).toNat
theorem frl_fr {oc : Nat} {I J I' J' : IMem} (h : FRl oc I J) (h1 : ∀ q j, (q = oc ∧ 7 ≤ j ∧ j ≤ 11) ∨ (oc + 1 ≤ q ∧ q ≤ oc + 4) → I' q j = I q j) (h2 : ∀ q j, (q = 0 ∧ 30 ≤ j ∧ j ≤ 34) ∨ (9 ≤ q ∧ q ≤ 12) ∨ (q = 1 ∧ (j = 1 ∨ (130 ≤ j ∧ j < 1580))) → J' q j = J q j) : FRl oc I' J' := by
  obtain ⟨⟨a1, a2, a3⟩, b, c, d, e, f, g, s⟩ := h
  have w1 := h2 0 30 (by omega)
  have w2 := h2 0 31 (by omega)
  have w3 := h2 0 32 (by omega)
  have w4 := h2 0 33 (by omega)
  have w5 := h2 0 34 (by omega)
  refine ⟨⟨?_, ?_, ?_⟩, ?_, ?_, ?_, fun k hk => ?_, fun i hi => ?_, fun i hi => ?_, ?_⟩
  · rw [h1 _ _ (by omega), w1]; exact a1
  · rw [h1 _ _ (by omega), w2]; exact a2
  · rw [h1 _ _ (by omega), w3]; exact a3
  · rw [w1, w2, w3]; exact b
  · rw [h1 _ _ (by omega), w4, w2]; exact c
  · rw [h1 _ _ (by omega), w5, w2]; exact d
  · rw [h1 _ _ (by omega), h2 9 _ (by omega), h2 12 _ (by omega), h2 1 _ (by omega)]; exact e k hk
  · rw [w2] at hi
    obtain ⟨k, k1, k2, k3, k4, k5⟩ := f i hi
    have kk := k1.1
    refine ⟨k, ⟨kk, by rw [h2 1 _ (by omega)]; exact k1.2⟩, ?_, ?_, ?_, ?_⟩
    · rw [h2 11 _ (by omega)]; exact k2
    · rw [h1 _ _ (by omega)]; exact k3
    · rw [h1 _ _ (by omega), h2 9 _ (by omega)]; exact k4
    · rw [h2 9 _ (by omega)]; exact k5
  · rw [w3] at hi
    obtain ⟨k, k1, k2, k3, k4⟩ := g i hi
    have kk := k1.1
    refine ⟨k, ⟨kk, by rw [h2 1 _ (by omega)]; exact k1.2⟩, ?_, ?_, fun f hf => ?_⟩
    · rw [h2 10 _ (by omega)]; exact k2
    · rw [h2 12 _ (by omega)]; exact k3
    · rw [h1 _ _ (by omega), h2 1 (140 + 6 * k + 1) (by omega), h2 1 (140 + 6 * k + f) (by omega)]; exact k4 f hf
  · rw [h2 1 1 (by omega), w1, w2, sm_eq (c := I (oc + 3)) _ (fun i _ => h1 _ _ (by omega))]; exact s
/-- one more sits, on both sides -/
theorem frl_sit {oc k : Nat} {I J I' J' : IMem} {size sort mark : Int} (h : FRl oc I J) (hk : INL J k) (hm : I (oc + 1) k = 0) (hz : 1 ≤ size ∧ size ≤ J 0 30) (hs : sort = J 1 (140 + 6 * k + 3)) (hmk : (mark = 1 ∧ size = J 1 (141 + 6 * k)) ∨ (mark = 3 ∧ size < J 1 (141 + 6 * k)))
    (h1 : ∀ q j, (q = oc ∧ 7 ≤ j ∧ j ≤ 11) ∨ (oc + 1 ≤ q ∧ q ≤ oc + 4) → I' q j = if q = oc ∧ j = 11 then (if I oc 11 = 0 then (if sort = 1 then 0 else 1) else 1) else if q = oc ∧ j = 10 then (if I oc 10 = 0 then (if sort = 2 then 1 else 0) else 1) else if q = oc ∧ j = 7 then wr32 (I oc 7 - size) else if q = oc ∧ j = 8 then I oc 8 + 1 else if q = oc + 3 ∧ j = (I oc 8).toNat then size else if q = oc + 2 ∧ j = (I oc 8).toNat then (k : Int) else if q = oc + 1 ∧ j = k then mark else I q j)
    (h2 : ∀ q j, q ≠ 7 → q ≠ 8 → J' q j = if q = 0 ∧ j = 34 then wr32 (J 0 34 + (if sort = 1 then 0 else 1)) else if q = 0 ∧ j = 33 then wr32 (J 0 33 + (if sort = 2 then 1 else 0)) else if q = 0 ∧ j = 30 then wr32 (J 0 30 - size) else if q = 0 ∧ j = 31 then J 0 31 + 1 else if q = 11 ∧ j = (J 0 31).toNat then (k : Int) else if q = 9 ∧ j = k then size else J q j) : FRl oc I' J' := by
  obtain ⟨⟨a1, a2, a3⟩, ⟨b1, b2, b3, b4⟩, ⟨c1, c2⟩, ⟨d1, d2⟩, e, f, g, s⟩ := h
  have jw : ∀ j, J' 1 j = J 1 j := fun j => by rw [h2 _ _ (by decide) (by decide), if_neg (by omega), if_neg (by omega), if_neg (by omega), if_neg (by omega), if_neg (by omega), if_neg (by omega)]
  have j30 : J' 0 30 = J 0 30 - size := by
    rw [h2 _ _ (by decide) (by decide), if_neg (by omega), if_neg (by omega), if_pos (by omega), wr32_i2 (by omega) (by omega)]
  have j31 : J' 0 31 = J 0 31 + 1 := by rw [h2 _ _ (by decide) (by decide), if_neg (by omega), if_neg (by omega), if_neg (by omega), if_pos (by omega)]
  have j32 : J' 0 32 = J 0 32 := by rw [h2 _ _ (by decide) (by decide), if_neg (by omega), if_neg (by omega), if_neg (by omega), if_neg (by omega), if_neg (by omega), if_neg (by omega)]
  have j9 : ∀ j, J' 9 j = if j = k then size else J 9 j := by
    intro j
    rw [h2 _ _ (by decide) (by decide), if_neg (by omega), if_neg (by omega), if_neg (by omega), if_neg (by omega), if_neg (by omega)]
    by_cases q : j = k
    · rw [if_pos ⟨rfl, q⟩, if_pos q]
    · rw [if_neg (fun z => q z.2), if_neg q]
  have j12 : ∀ j, J' 12 j = J 12 j := fun j => by rw [h2 _ _ (by decide) (by decide), if_neg (by omega), if_neg (by omega), if_neg (by omega), if_neg (by omega), if_neg (by omega), if_neg (by omega)]
  have j10 : ∀ j, J' 10 j = J 10 j := fun j => by rw [h2 _ _ (by decide) (by decide), if_neg (by omega), if_neg (by omega), if_neg (by omega), if_neg (by omega), if_neg (by omega), if_neg (by omega)]
  have j11 : ∀ j, J' 11 j = if j = (J 0 31).toNat then (k : Int) else J 11 j := by
    intro j
    rw [h2 _ _ (by decide) (by decide), if_neg (by omega), if_neg (by omega), if_neg (by omega), if_neg (by omega)]
    by_cases q : j = (J 0 31).toNat
    · rw [if_pos ⟨rfl, q⟩, if_pos q]
    · rw [if_neg (fun z => q z.2), if_neg q, if_neg (by omega)]
  have i1 : ∀ j, I' (oc + 1) j = if j = k then mark else I (oc + 1) j := by
    intro j
    rw [h1 _ _ (by omega), if_neg (by omega), if_neg (by omega), if_neg (by omega), if_neg (by omega), if_neg (by omega), if_neg (by omega)]
    by_cases q : j = k
    · rw [if_pos ⟨rfl, q⟩, if_pos q]
    · rw [if_neg (fun z => q z.2), if_neg q]
  have i2 : ∀ j, I' (oc + 2) j = if j = (I oc 8).toNat then (k : Int) else I (oc + 2) j := by
    intro j
    rw [h1 _ _ (by omega), if_neg (by omega), if_neg (by omega), if_neg (by omega), if_neg (by omega), if_neg (by omega)]
    by_cases q : j = (I oc 8).toNat
    · rw [if_pos ⟨rfl, q⟩, if_pos q]
    · rw [if_neg (fun z => q z.2), if_neg q, if_neg (by omega)]
  have i3 : ∀ j, I' (oc + 3) j = if j = (I oc 8).toNat then size else I (oc + 3) j := by
    intro j
    rw [h1 _ _ (by omega), if_neg (by omega), if_neg (by omega), if_neg (by omega), if_neg (by omega)]
    by_cases q : j = (I oc 8).toNat
    · rw [if_pos ⟨rfl, q⟩, if_pos q]
    · rw [if_neg (fun z => q z.2), if_neg q, if_neg (by omega), if_neg (by omega)]
  have i4 : ∀ j, I' (oc + 4) j = I (oc + 4) j := by
    intro j
    rw [h1 _ _ (by omega), if_neg (by omega), if_neg (by omega), if_neg (by omega), if_neg (by omega), if_neg (by omega), if_neg (by omega), if_neg (by omega)]
  have mk0 := e k hk.1
  rw [hm] at mk0
  have s0 : J 9 k = 0 := by unfold MKR at mk0; omega
  refine ⟨⟨?_, ?_, ?_⟩, by rw [j30, j31, j32]; omega, ?_, ?_, fun k2 hk2 => ?_, fun i hi => ?_, fun i hi => ?_, ?_⟩
  · rw [h1 _ _ (by omega), if_neg (by omega), if_neg (by omega), if_pos (by omega), j30, a1, wr32_i2 (by omega) (by omega)]
  · rw [h1 _ _ (by omega), if_neg (by omega), if_neg (by omega), if_neg (by omega), if_pos (by omega), j31, a2]
  · rw [h1 _ _ (by omega), if_neg (by omega), if_neg (by omega), if_neg (by omega), if_neg (by omega), if_neg (by omega), if_neg (by omega), if_neg (by omega), j32]; exact a3
  · have z33 : J' 0 33 = J 0 33 + (if sort = 2 then 1 else 0) := by
      rw [h2 _ _ (by decide) (by decide), if_neg (by omega), if_pos (by omega)]
      split <;> exact wr32_i2 (by omega) (by omega)
    have y10 : I' oc 10 = if I oc 10 = 0 then (if sort = 2 then 1 else 0) else 1 := by rw [h1 _ _ (by omega), if_neg (by omega), if_pos (by omega)]
    rw [z33, y10, j31]
    rcases c1 with ⟨p, q⟩ | ⟨p, q⟩
    · rw [if_pos p]
      split <;> omega
    · rw [if_neg (by omega)]
      split <;> omega
  · have z34 : J' 0 34 = J 0 34 + (if sort = 1 then 0 else 1) := by
      rw [h2 _ _ (by decide) (by decide), if_pos (by omega)]
      split <;> exact wr32_i2 (by omega) (by omega)
    have y11 : I' oc 11 = if I oc 11 = 0 then (if sort = 1 then 0 else 1) else 1 := by rw [h1 _ _ (by omega), if_pos (by omega)]
    rw [z34, y11, j31]
    rcases d1 with ⟨p, q⟩ | ⟨p, q⟩
    · rw [if_pos p]
      split <;> omega
    · rw [if_neg (by omega)]
      split <;> omega
  · rw [i1, j9, j12, jw]
    by_cases q : k2 = k
    · subst q
      rw [if_pos rfl, if_pos rfl]
      unfold MKR at mk0 ⊢
      omega
    · rw [if_neg q, if_neg q]; exact e k2 hk2
  · rw [j31] at hi
    by_cases q : i = (J 0 31).toNat
    · refine ⟨k, ⟨hk.1, by rw [jw]; exact hk.2⟩, ?_, ?_, ?_, ?_⟩
      · rw [j11, if_pos q]
      · rw [i2, if_pos (by omega)]
      · rw [i3, if_pos (by omega), j9, if_pos rfl]
      · rw [j9, if_pos rfl]; omega
    · obtain ⟨k2, k3, k4, k5, k6, k7⟩ := f i (by omega)
      have hne : k2 ≠ k := by intro z; subst z; omega
      refine ⟨k2, ⟨k3.1, by rw [jw]; exact k3.2⟩, ?_, ?_, ?_, ?_⟩
      · rw [j11, if_neg q]; exact k4
      · rw [i2, if_neg (by omega)]; exact k5
      · rw [i3, if_neg (by omega), j9, if_neg hne]; exact k6
      · rw [j9, if_neg hne]; exact k7
  · rw [j32] at hi
    obtain ⟨k2, k3, k4, k5, k6⟩ := g i hi
    refine ⟨k2, ⟨k3.1, by rw [jw]; exact k3.2⟩, ?_, ?_, fun f hf => ?_⟩
    · rw [j10]; exact k4
    · rw [j12]; exact k5
    · rw [i4, jw, jw]; exact k6 f hf
  · rw [jw, j30, j31, show (J 0 31 + 1).toNat = (J 0 31).toNat + 1 by omega]
    show _ = _ + (sm (I' (oc + 3)) (J 0 31).toNat + I' (oc + 3) (J 0 31).toNat)
    rw [i3 (J 0 31).toNat, if_pos (by omega), sm_eq (c := I (oc + 3)) _ (fun i hi => by rw [i3, if_neg (by omega)])]
    omega
/-- one more is found out, on both sides -/
theorem frl_found {oc k : Nat} {I J I' J' : IMem} (h : FRl oc I J) (hk : INL J k) (hm : I (oc + 1) k = 0) (hn : J 0 32 ≤ 143) (hr : ∀ f, f < 6 → I' (oc + 4) (6 * (J 0 32).toNat + f) = if f = 2 then J 1 (140 + 6 * k + 1) else J 1 (140 + 6 * k + f))
    (h1 : ∀ q j, (q = oc ∧ 7 ≤ j ∧ j ≤ 11) ∨ (oc + 1 ≤ q ∧ q ≤ oc + 4) → ¬ (q = oc + 4 ∧ 6 * (J 0 32).toNat ≤ j ∧ j < 6 * (J 0 32).toNat + 6) → I' q j = if q = oc ∧ j = 9 then I oc 9 + 1 else if q = oc + 1 ∧ j = k then 2 else I q j)
    (h2 : ∀ q j, J' q j = if q = 1 ∧ j = 75 then wr32 (J 1 75 + 1) else if q = 0 ∧ j = 32 then J 0 32 + 1 else if q = 10 ∧ j = (J 0 32).toNat then (k : Int) else if q = 12 ∧ j = k then 1 else J q j) : FRl oc I' J' := by
  obtain ⟨⟨a1, a2, a3⟩, ⟨b1, b2, b3, b4⟩, c, d, e, f, g, s⟩ := h
  have jw : ∀ j, j ≠ 75 → J' 1 j = J 1 j := fun j hj => by rw [h2, if_neg (by omega), if_neg (by omega), if_neg (by omega), if_neg (by omega)]
  have j0 : ∀ j, j ≠ 32 → J' 0 j = J 0 j := fun j hj => by rw [h2, if_neg (by omega), if_neg (by omega), if_neg (by omega), if_neg (by omega)]
  have j32 : J' 0 32 = J 0 32 + 1 := by rw [h2, if_neg (by omega), if_pos (by omega)]
  have j9 : ∀ j, J' 9 j = J 9 j := fun j => by rw [h2, if_neg (by omega), if_neg (by omega), if_neg (by omega), if_neg (by omega)]
  have j11 : ∀ j, J' 11 j = J 11 j := fun j => by rw [h2, if_neg (by omega), if_neg (by omega), if_neg (by omega), if_neg (by omega)]
  have j12 : ∀ j, J' 12 j = if j = k then 1 else J 12 j := by
    intro j
    rw [h2, if_neg (by omega), if_neg (by omega), if_neg (by omega)]
    by_cases q : j = k
    · rw [if_pos ⟨rfl, q⟩, if_pos q]
    · rw [if_neg (fun z => q z.2), if_neg q]
  have j10 : ∀ j, J' 10 j = if j = (J 0 32).toNat then (k : Int) else J 10 j := by
    intro j
    rw [h2, if_neg (by omega), if_neg (by omega)]
    by_cases q : j = (J 0 32).toNat
    · rw [if_pos ⟨rfl, q⟩, if_pos q]
    · rw [if_neg (fun z => q z.2), if_neg q, if_neg (by omega)]
  have i0 : ∀ j, 7 ≤ j → j ≤ 11 → j ≠ 9 → I' oc j = I oc j := fun j x y z => by rw [h1 _ _ (by omega) (by omega), if_neg (by omega), if_neg (by omega)]
  have i1 : ∀ j, I' (oc + 1) j = if j = k then 2 else I (oc + 1) j := by
    intro j
    rw [h1 _ _ (by omega) (by omega), if_neg (by omega)]
    by_cases q : j = k
    · rw [if_pos ⟨rfl, q⟩, if_pos q]
    · rw [if_neg (fun z => q z.2), if_neg q]
  have i2 : ∀ j, I' (oc + 2) j = I (oc + 2) j := fun j => by rw [h1 _ _ (by omega) (by omega), if_neg (by omega), if_neg (by omega)]
  have i3 : ∀ j, I' (oc + 3) j = I (oc + 3) j := fun j => by rw [h1 _ _ (by omega) (by omega), if_neg (by omega), if_neg (by omega)]
  have mk0 := e k hk.1
  rw [hm] at mk0
  refine ⟨⟨?_, ?_, ?_⟩, by rw [j0 30 (by decide), j0 31 (by decide), j32]; omega, ?_, ?_, fun k2 hk2 => ?_, fun i hi => ?_, fun i hi => ?_, ?_⟩
  · rw [i0 _ (by omega) (by omega) (by omega), j0 _ (by decide)]; exact a1
  · rw [i0 _ (by omega) (by omega) (by omega), j0 _ (by decide)]; exact a2
  · rw [h1 _ _ (by omega) (by omega), if_pos ⟨rfl, rfl⟩, j32, a3]
  · rw [i0 _ (by omega) (by omega) (by omega), j0 33 (by decide), j0 31 (by decide)]; exact c
  · rw [i0 _ (by omega) (by omega) (by omega), j0 34 (by decide), j0 31 (by decide)]; exact d
  · rw [i1, j9, j12, jw _ (by omega)]
    by_cases q : k2 = k
    · subst q
      rw [if_pos rfl, if_pos rfl]
      unfold MKR at mk0 ⊢
      omega
    · rw [if_neg q, if_neg q]; exact e k2 hk2
  · rw [j0 31 (by decide)] at hi
    obtain ⟨k2, k3, k4, k5, k6, k7⟩ := f i hi
    have kk := k3.1
    exact ⟨k2, ⟨kk, by rw [jw _ (by omega)]; exact k3.2⟩, by rw [j11]; exact k4, by rw [i2]; exact k5, by rw [i3, j9]; exact k6, by rw [j9]; exact k7⟩
  · rw [j32] at hi
    by_cases q : i = (J 0 32).toNat
    · have kk := hk.1
      refine ⟨k, ⟨kk, by rw [jw _ (by omega)]; exact hk.2⟩, ?_, ?_, fun f hf => ?_⟩
      · rw [j10, if_pos q]
      · rw [j12, if_pos rfl]
      · rw [q, hr f hf, jw _ (by omega), jw _ (by omega)]
    · obtain ⟨k2, k3, k4, k5, k6⟩ := g i (by omega)
      have kk := k3.1
      refine ⟨k2, ⟨kk, by rw [jw _ (by omega)]; exact k3.2⟩, ?_, ?_, fun f hf => ?_⟩
      · rw [j10, if_neg q]; exact k4
      · rw [j12]; split
        · rfl
        · exact k5
      · rw [h1 _ _ (by omega) (by omega), if_neg (by omega), if_neg (by omega), jw _ (by omega), jw _ (by omega)]; exact k6 f hf
  · rw [jw 1 (by decide), j0 30 (by decide), j0 31 (by decide), sm_eq (c := I (oc + 3)) _ (fun i _ => i3 i)]; exact s
/-! the chair is filled, on both sides -/
def cBODY (fu oc hb : Nat) (k_66 : IMem → Res) (R_ : Int → Int → IMem → Res) (w3 : Int) (x13 x14 : Int) (I12 : IMem) : Res :=
          if x14 = (-1) then (
            k_66 I12)
          else (
            zb (f_L_get fu (hb + 6) x14 1 I12) fun y15 I16 =>
              if I16 oc 7 < y15 then (
                zb (f_C_findOut fu oc hb x14 I16) fun _ I29 =>
                R_ x13 (wr32 (w3 + 1)) I29)
              else (
                zb (f_L_get fu (hb + 6) x14 3 I16) fun y22 I23 =>
                zb (f_C_sit fu oc x14 y15 y22 1 I23) fun _ I26 =>
                R_ 1 (wr32 (w3 + 1)) I26))
theorem fill_eq (fu oc hb : Nat) (k_66 k_127 : IMem → Res) (R_ : Int → Int → IMem → Res) (w2 w3 : Int) (I0 : IMem) : fb_C_fill_30 fu k_66 k_127 oc hb R_ w2 w3 I0 = if 144 < w3 then k_127 I0 else zb (f_C_mostPassed fu oc hb I0) fun y8 I9 => if y8 = (-1) then (zb (f_C_worthiest fu oc hb w2 I9) fun y31 I32 => cBODY fu oc hb k_66 R_ w3 0 y31 I32) else cBODY fu oc hb k_66 R_ w3 w2 y8 I9 := rfl
def xB7 (fu : Nat) (k_39 R_ : IMem → Res) (x9 : Int) (I8 : IMem) : Res :=
            if x9 = (-1) then (
              k_39 I8)
            else (
              zb (f_X_of fu 0 (wdiv x9 40) (wrem x9 40) 1 I8) fun y12 I13 =>
              if I13 0 30 < y12 then (
                zg (0 ≤ x9 ∧ x9 < 240) (zw I13 (0 + 12) x9.toNat 1 fun I21 =>
                zl (I21 0 32) fun x23 =>
                zg (0 ≤ x23 ∧ x23 < 240) (zw I21 (0 + 10) x23.toNat x9 fun I22 =>
                zw I22 0 32 (wr32 ((I22 0 32) + 1)) fun I24 =>
                zw I24 (0 + 1) 75 (wr32 ((I24 (0 + 1) 75) + 1)) fun I25 =>
                R_ I25)))
              else (
                zb (f_X_of fu 0 (wdiv x9 40) (wrem x9 40) 1 I13) fun y15 I16 =>
                zb (f_X_takes fu 0 (wdiv x9 40) (wrem x9 40) y15 I16) fun _ I19 =>
                R_ I19))
def xB4 (fu : Nat) (k_39 R_ : IMem → Res) (x6 : Int) (I5 : IMem) : Res :=
          if x6 = (-1) then (
            zb (f_X_finds fu 0 0 I5) fun y26 I27 =>
            xB7 fu k_39 R_ y26 I27)
          else (
            xB7 fu k_39 R_ x6 I5)
theorem fills_eq (fu : Nat) (k_39 R_ : IMem → Res) (J : IMem) : fb_X_fills_4 fu k_39 0 R_ J = if 0 < J 1 5 then (zb (f_X_finds fu 0 1 J) fun y29 I30 => xB4 fu k_39 R_ y29 I30) else xB4 fu k_39 R_ (-1) J := by
  unfold fb_X_fills_4 xB4 xB7
  simp only [zl_e, zj_e, Nat.zero_add]
def FIV (oc hb kl : Nat) (law : List LRec) (n : Nat) (I J : IMem) : Prop :=
  (HS hb 1 I J ∧ HY hb 1 I J ∧ HP hb 1 I J ∧ HL hb 1 I J ∧ HW hb 1 I J) ∧ FRl oc I J ∧ LWX J kl law ∧ LC (hb + 15 + 5 * kl) kl law I ∧
  (n ≤ 144 ∧ I oc 5 = n ∧ SLI (I (oc + 5)) (I (hb + 8)) (I (hb + 9)) (-1) 240 n) ∧ (∀ k, INL J k → 1 ≤ J 1 (141 + 6 * k) ∧ J 1 (141 + 6 * k) ≤ 8) ∧
  (∀ k, k < 240 → I (oc + 1) k ≠ 3) ∧ (inr (J 1 5) ∧ PTS J) ∧
  J 0 31 + J 0 32 = cnt (fun i => I (oc + 1) (I (oc + 5) i).toNat) n
section
variable {fu oc hb kl n : Nat} {law : List LRec} {I J : IMem}
theorem sn_iff (h : FIV oc hb kl law n I J) {k : Nat} (hk : k < 240) : SN (I (hb + 8)) (I (hb + 9)) (-1) k ↔ (((k % 40 : Nat) : Int) < J 1 (130 + k / 40) ∧ ((k % 40 : Nat) : Int) < J 1 (10 + k / 40)) := by
  obtain ⟨⟨hS, _, _, hL, _⟩, _⟩ := h
  unfold SN
  rw [(hl_c hL (by omega)).1, hS.2.2.2.1 (k / 40) (by omega), if_neg (by omega)]
  constructor
  · rintro ⟨a, b⟩; exact ⟨a, by omega⟩
  · rintro ⟨a, b⟩; exact ⟨a, by omega⟩
theorem ef_sn (h : FIV oc hb kl law n I J) : ∀ k, k < 240 → eF J k = true → SN (I (hb + 8)) (I (hb + 9)) (-1) k := by
  intro k hk he
  unfold eF at he
  rw [decide_eq_true_iff] at he
  exact (sn_iff h hk).mpr ⟨he.1, he.2.1⟩
theorem row_eq (h : FIV oc hb kl law n I J) {k f : Nat} (hk : INL J k) (hf : f < 6) : I (hb + 7) (6 * k + f) = J 1 (140 + 6 * k + f) := by
  obtain ⟨⟨_, _, _, hL, _⟩, _⟩ := h
  have := hl_r hL (l := k / 40) (p := k % 40) (f := f) (by have := hk.1; omega) hk.2 hf
  rw [show 40 * (k / 40) + k % 40 = k by omega] at this
  exact this
theorem fit_iff (h : FIV oc hb kl law n I J) : ∀ k, k < 240 → SN (I (hb + 8)) (I (hb + 9)) (-1) k → (eF J k = true ↔ (I (oc + 1) k = 0 ∧ I oc 10 = 0 ∧ I (hb + 7) (6 * k + 2) ≤ I oc 7 ∧ (I (hb + 7) (6 * k + 3) = 1 → I oc 11 ≠ 0) ∧ (I (hb + 7) (6 * k + 3) = 2 → I oc 8 = 0))) := by
  intro k hk hs
  have s := (sn_iff h hk).mp hs
  have hin : INL J k := ⟨hk, s.1⟩
  have r2 := row_eq h hin (f := 2) (by decide)
  have r3 := row_eq h hin (f := 3) (by decide)
  obtain ⟨_, hF, _⟩ := h
  obtain ⟨⟨a1, a2, a3⟩, _, ⟨c, _⟩, ⟨d, _⟩, e, _⟩ := hF
  have mk := e k hk
  unfold eF
  rw [decide_eq_true_iff, r2, r3, a1, a2]
  unfold MKR at mk
  constructor
  · rintro ⟨_, _, x3, x4, x5, x6, x7, x8⟩
    exact ⟨by omega, by omega, x5, fun z => by have := x7 z; omega, x8⟩
  · rintro ⟨x1, x2, x3, x4, x5⟩
    exact ⟨s.1, s.2, by omega, by omega, x3, by omega, fun z => by have := x4 z; omega, x5⟩
/-- the other parts of the state, while the chair is filled -/
theorem hr_fill {I' J' : IMem} (h : HS hb 1 I J ∧ HY hb 1 I J ∧ HP hb 1 I J ∧ HL hb 1 I J ∧ HW hb 1 I J) (hkl : kl < 5) (h1 : ∀ q j, hb ≤ q → q < hb + 40 → q ≠ hb + 13 → q ≠ hb + 15 + 5 * kl + 4 → q ≠ hb + 10 → I' q j = I q j) (h10 : ∀ j, j ≠ 5 → I' (hb + 10) j = I (hb + 10) j) (h2 : ∀ j, j ≠ 75 → J' 1 j = J 1 j) (h5 : I' (hb + 10) 5 = J' 1 75) : HS hb 1 I' J' ∧ HY hb 1 I' J' ∧ HP hb 1 I' J' ∧ HL hb 1 I' J' ∧ HW hb 1 I' J' := by
  obtain ⟨hS, hY, hP, hL, hW⟩ := h
  refine ⟨hs_mv hS (fun d j q => h1 _ _ (by omega) (by omega) (by omega) (by omega) (by omega)) (fun j q => h2 j (by omega)), ⟨fun k hk => ?_, fun s h3 h4 => ⟨?_, ?_, ?_⟩⟩, hp_mv hP (fun j => ⟨h1 _ _ (by omega) (by omega) (by omega) (by omega) (by omega), h1 _ _ (by omega) (by omega) (by omega) (by omega) (by omega)⟩) (fun j q => h2 j (by omega)), hl_mv hL (fun j => ⟨h1 _ _ (by omega) (by omega) (by omega) (by omega) (by omega), h1 _ _ (by omega) (by omega) (by omega) (by omega) (by omega)⟩) (fun j _ _ => h2 j (by omega)), hw_mv hW (fun d j a b c => h1 _ _ (by omega) (by omega) (by omega) (by omega) (by omega)) (fun j _ _ => h2 j (by omega))⟩
  · by_cases q : k = 5
    · subst q; exact h5
    · rw [h10 _ q, h2 _ (by omega)]; exact hY.1 k hk
  · rw [h10 _ (by omega), h2 _ (by omega)]; exact (hY.2 s h3 h4).1
  · rw [h10 _ (by omega), h2 _ (by omega)]; exact (hY.2 s h3 h4).2.1
  · rw [h10 _ (by omega), h2 _ (by omega)]; exact (hY.2 s h3 h4).2.2
/-- the searches change nothing that counts -/
theorem fiv_same {I' J' : IMem} (h : FIV oc hb kl law n I J) (hd : hb + 40 ≤ oc) (hkl : kl < 4) (h1 : ∀ q j, q ≠ hb + 13 → q ≠ hb + 15 + 5 * kl + 4 → q ≠ oc + 6 → I' q j = I q j) (h2 : ∀ q j, q ≠ 7 → q ≠ 8 → J' q j = J q j) : FIV oc hb kl law n I' J' := by
  obtain ⟨hr, hF, hX, hC, ⟨n1, n2, n3⟩, hz, h3, hb5, hc⟩ := h
  have e5 : I' (oc + 5) = I (oc + 5) := funext (fun j => h1 _ _ (by omega) (by omega) (by omega))
  have e8 : I' (hb + 8) = I (hb + 8) := funext (fun j => h1 _ _ (by omega) (by omega) (by omega))
  have e9 : I' (hb + 9) = I (hb + 9) := funext (fun j => h1 _ _ (by omega) (by omega) (by omega))
  have e1 : I' (oc + 1) = I (oc + 1) := funext (fun j => h1 _ _ (by omega) (by omega) (by omega))
  refine ⟨hr_fill (kl := kl) hr (by omega) (fun q j _ _ a b _ => h1 q j a b (by omega)) (fun j _ => h1 _ _ (by omega) (by omega) (by omega)) (fun j _ => h2 _ _ (by decide) (by decide)) ?_, frl_fr hF (fun q j a => h1 _ _ (by omega) (by omega) (by omega)) (fun q j a => h2 _ _ (by omega) (by omega)), lwx_same hX (fun j _ => h2 _ _ (by decide) (by decide)), lc_mv hC (fun d j a => h1 _ _ (by omega) (by omega) (by omega)), ⟨n1, ?_, ?_⟩, fun k hk => ?_, fun k hk => ?_, ?_, ?_⟩
  · rw [h1 _ _ (by omega) (by omega) (by omega), h2 _ _ (by decide) (by decide)]; exact hr.2.1.1 5 (by decide)
  · rw [h1 _ _ (by omega) (by omega) (by omega)]; exact n2
  · rw [e5, e8, e9]; exact n3
  · rw [h2 1 _ (by decide) (by decide)]
    exact hz k ⟨hk.1, by have := hk.2; rw [h2 1 _ (by decide) (by decide)] at this; exact this⟩
  · rw [e1]; exact h3 k hk
  · exact ⟨by rw [h2 1 _ (by decide) (by decide)]; exact hb5.1, pts_mv hb5.2 (fun j _ _ => h2 _ _ (by decide) (by decide))⟩
  · rw [h2 0 _ (by decide) (by decide), h2 0 _ (by decide) (by decide), e1, e5]; exact hc
/-- the class's worths are those that the reference would reckon -/
def WOK (oc kl : Nat) (law : List LRec) (n : Nat) (I J : IMem) : Prop := ∀ i k, i < n → I (oc + 5) i = ((k : Nat) : Int) → eF J k = true → I (oc + 6) i = vF J false kl law k
theorem cnt_seen (h : FIV oc hb kl law n I J) {k : Nat} (hk : k < 240) (hs : SN (I (hb + 8)) (I (hb + 9)) (-1) k) (hm : I (oc + 1) k = 0) {f : Nat → Int} (hf : ∀ j, f j = if j = k then f k else I (oc + 1) j) (hne : f k ≠ 0) : cnt (fun i => f (I (oc + 5) i).toNat) n = cnt (fun i => I (oc + 1) (I (oc + 5) i).toNat) n + 1 ∧ cnt (fun i => I (oc + 1) (I (oc + 5) i).toNat) n + 1 ≤ n := by
  obtain ⟨_, _, _, _, ⟨n1, n2, n3⟩, _⟩ := h
  obtain ⟨i, hi, e⟩ := n3.2.2 k hk hs
  have h0 : (fun i => I (oc + 1) (I (oc + 5) i).toNat) i = 0 := by
    show I (oc + 1) (I (oc + 5) i).toNat = 0
    rw [e]; exact hm
  have h1 : (fun i => f (I (oc + 5) i).toNat) i ≠ 0 := by
    show f (I (oc + 5) i).toNat ≠ 0
    rw [e]; exact hne
  refine ⟨?_, cnt_lt (f := fun i => I (oc + 1) (I (oc + 5) i).toNat) (i := i) h0 n hi⟩
  have key : ∀ m : Nat, m ≤ n → cnt (fun i => f (I (oc + 5) i).toNat) m = cnt (fun i => I (oc + 1) (I (oc + 5) i).toNat) m + (if i < m then 1 else 0) := by
    intro m
    induction m with
    | zero => intro _; rfl
    | succ m ih =>
      intro hm'
      have ihm := ih (by omega)
      show cnt (fun i => f (I (oc + 5) i).toNat) m + (if f (I (oc + 5) m).toNat = 0 then 0 else 1) = cnt (fun i => I (oc + 1) (I (oc + 5) i).toNat) m + (if I (oc + 1) (I (oc + 5) m).toNat = 0 then 0 else 1) + _
      rw [ihm]
      by_cases q : m = i
      · subst q
        have ek : (I (oc + 5) m).toNat = k := by rw [e]; rfl
        rw [ek, if_neg (by omega), if_neg hne, if_pos hm, if_pos (by omega)]
      · have hne2 : (I (oc + 5) m).toNat ≠ k := by
          obtain ⟨k2, q1, q2, _⟩ := n3.1 m (by omega)
          intro z
          rcases Nat.lt_or_ge m i with x | x
          · have := n3.2.1 m i x hi; omega
          · have := n3.2.1 i m (by omega) (by omega); omega
        rw [hf (I (oc + 5) m).toNat, if_neg hne2]
        have : (if i < m then (1 : Int) else 0) = if i < m + 1 then 1 else 0 := by
          by_cases w : i < m
          · rw [if_pos w, if_pos (by omega)]
          · rw [if_neg w, if_neg (by omega)]
        rw [this]
        omega
  have := key n (Nat.le_refl _)
  rw [if_pos hi] at this
  exact this
/-- a filling that sat one -/
theorem fiv_sit {I' J' : IMem} {k : Nat} (h : FIV oc hb kl law n I J) (hd : hb + 40 ≤ oc) (hkl : kl < 4) (he : eF J k = true) (hk : k < 240) (hz : J 1 (141 + 6 * k) ≤ J 0 30)
    (h1 : ∀ q j, I' q j = if q = oc ∧ j = 11 then (if I oc 11 = 0 then (if J 1 (140 + 6 * k + 3) = 1 then 0 else 1) else 1) else if q = oc ∧ j = 10 then (if I oc 10 = 0 then (if J 1 (140 + 6 * k + 3) = 2 then 1 else 0) else 1) else if q = oc ∧ j = 7 then wr32 (I oc 7 - J 1 (141 + 6 * k)) else if q = oc ∧ j = 8 then I oc 8 + 1 else if q = oc + 3 ∧ j = (I oc 8).toNat then J 1 (141 + 6 * k) else if q = oc + 2 ∧ j = (I oc 8).toNat then (k : Int) else if q = oc + 1 ∧ j = k then 1 else I q j)
    (h2 : ∀ q j, J' q j = if q = 0 ∧ j = 34 then wr32 (J 0 34 + (if J 1 (140 + 6 * k + 3) = 1 then 0 else 1)) else if q = 0 ∧ j = 33 then wr32 (J 0 33 + (if J 1 (140 + 6 * k + 3) = 2 then 1 else 0)) else if q = 0 ∧ j = 30 then wr32 (J 0 30 - J 1 (141 + 6 * k)) else if q = 0 ∧ j = 31 then J 0 31 + 1 else if q = 11 ∧ j = (J 0 31).toNat then (k : Int) else if q = 9 ∧ j = k then J 1 (141 + 6 * k) else J q j) : FIV oc hb kl law n I' J' := by
  have hs := ef_sn h k hk he
  have s := (sn_iff h hk).mp hs
  have hin : INL J k := ⟨hk, s.1⟩
  have hm := ((fit_iff h k hk hs).mp he).1
  have hcs := @cnt_seen oc hb kl n law I J h k hk hs hm
  obtain ⟨hr, hF, hX, hC, ⟨n1, n2, n3⟩, hzz, h3, hb5, hc⟩ := h
  have z1 := hzz k hin
  have fo : ∀ q j, q < oc → I' q j = I q j := fun q j hq => by rw [h1, if_neg (by omega), if_neg (by omega), if_neg (by omega), if_neg (by omega), if_neg (by omega), if_neg (by omega), if_neg (by omega)]
  have f5 : ∀ j, I' (oc + 5) j = I (oc + 5) j := fun j => by rw [h1, if_neg (by omega), if_neg (by omega), if_neg (by omega), if_neg (by omega), if_neg (by omega), if_neg (by omega), if_neg (by omega)]
  have jw : ∀ j, J' 1 j = J 1 j := fun j => by rw [h2, if_neg (by omega), if_neg (by omega), if_neg (by omega), if_neg (by omega), if_neg (by omega), if_neg (by omega)]
  have i1 : ∀ j, I' (oc + 1) j = if j = k then 1 else I (oc + 1) j := by
    intro j
    rw [h1, if_neg (by omega), if_neg (by omega), if_neg (by omega), if_neg (by omega), if_neg (by omega), if_neg (by omega)]
    by_cases q : j = k
    · rw [if_pos ⟨rfl, q⟩, if_pos q]
    · rw [if_neg (fun z => q z.2), if_neg q]
  refine ⟨hr_fill (kl := kl) hr (by omega) (fun q j _ a _ _ _ => fo q j (by omega)) (fun j _ => fo _ _ (by omega)) (fun j _ => jw j) ?_, ?_, lwx_same hX (fun j _ => jw j), lc_mv hC (fun d j a => fo _ _ (by omega)), ⟨n1, ?_, ?_⟩, fun k2 hk2 => ?_, fun k2 hk2 => ?_, ⟨by rw [jw]; exact hb5.1, pts_mv hb5.2 (fun j _ _ => jw j)⟩, ?_⟩
  · rw [fo _ _ (by omega), jw]; exact hr.2.1.1 5 (by decide)
  · exact frl_sit (size := J 1 (141 + 6 * k)) (sort := J 1 (140 + 6 * k + 3)) (mark := 1) hF hin hm ⟨z1.1, hz⟩ rfl (Or.inl ⟨rfl, rfl⟩) (fun q j _ => h1 q j) (fun q j _ _ => h2 q j)
  · rw [h1, if_neg (by omega), if_neg (by omega), if_neg (by omega), if_neg (by omega), if_neg (by omega), if_neg (by omega), if_neg (by omega)]; exact n2
  · rw [show I' (oc + 5) = I (oc + 5) from funext f5, show I' (hb + 8) = I (hb + 8) from funext (fun j => fo _ _ (by omega)), show I' (hb + 9) = I (hb + 9) from funext (fun j => fo _ _ (by omega))]; exact n3
  · rw [jw]; exact hzz k2 ⟨hk2.1, by have := hk2.2; rw [jw] at this; exact this⟩
  · rw [i1]
    split
    · decide
    · exact h3 k2 hk2
  · have j31 : J' 0 31 = J 0 31 + 1 := by rw [h2, if_neg (by omega), if_neg (by omega), if_neg (by omega), if_pos (by omega)]
    have j32 : J' 0 32 = J 0 32 := by rw [h2, if_neg (by omega), if_neg (by omega), if_neg (by omega), if_neg (by omega), if_neg (by omega), if_neg (by omega)]
    have g := (hcs (f := I' (oc + 1)) (fun j => by rw [i1 j, i1 k, if_pos rfl]) (by rw [i1, if_pos rfl]; decide)).1
    rw [j31, j32, show I' (oc + 5) = I (oc + 5) from funext f5, g]
    omega
theorem fiv_found {I' J' : IMem} {k : Nat} (h : FIV oc hb kl law n I J) (hd : hb + 40 ≤ oc) (hkl : kl < 4) (he : eF J k = true) (hk : k < 240)
    (h1 : ∀ q j, I' q j = if q = hb + 10 ∧ j = 5 then wr32 (I (hb + 10) 5 + 1) else if q = oc ∧ j = 9 then I oc 9 + 1 else if q = oc + 4 ∧ 6 * (I oc 9).toNat ≤ j ∧ j < 6 * (I oc 9).toNat + 6 then (if j - 6 * (I oc 9).toNat = 2 then I (hb + 7) (6 * k + 1) else I (hb + 7) (6 * k + (j - 6 * (I oc 9).toNat))) else if q = oc + 1 ∧ j = k then 2 else I q j)
    (h2 : ∀ q j, J' q j = if q = 1 ∧ j = 75 then wr32 (J 1 75 + 1) else if q = 0 ∧ j = 32 then J 0 32 + 1 else if q = 10 ∧ j = (J 0 32).toNat then (k : Int) else if q = 12 ∧ j = k then 1 else J q j) : FIV oc hb kl law n I' J' ∧ (∀ k2, k2 < 240 → eF J' k2 = true → k2 ≠ k ∧ eF J k2 = true) := by
  have hs := ef_sn h k hk he
  have s := (sn_iff h hk).mp hs
  have hin : INL J k := ⟨hk, s.1⟩
  have hm := ((fit_iff h k hk hs).mp he).1
  have hcs := @cnt_seen oc hb kl n law I J h k hk hs hm
  have hro : ∀ f, f < 6 → I (hb + 7) (6 * k + f) = J 1 (140 + 6 * k + f) := fun f hf => row_eq h hin hf
  obtain ⟨hr, hF, hX, hC, ⟨n1, n2, n3⟩, hzz, h3, hb5, hc⟩ := h
  have a9 := hF.1.2.2
  have b4 := hF.2.1
  have fo : ∀ q j, q < oc → ¬ (q = hb + 10 ∧ j = 5) → I' q j = I q j := fun q j hq h5 => by rw [h1, if_neg h5, if_neg (by omega), if_neg (by omega), if_neg (by omega)]
  have f5 : ∀ j, I' (oc + 5) j = I (oc + 5) j := fun j => by rw [h1, if_neg (by omega), if_neg (by omega), if_neg (by omega), if_neg (by omega)]
  have jw : ∀ j, j ≠ 75 → J' 1 j = J 1 j := fun j hj => by rw [h2, if_neg (by omega), if_neg (by omega), if_neg (by omega), if_neg (by omega)]
  have j0 : ∀ j, j ≠ 32 → J' 0 j = J 0 j := fun j hj => by rw [h2, if_neg (by omega), if_neg (by omega), if_neg (by omega), if_neg (by omega)]
  have j9 : ∀ j, J' 9 j = J 9 j := fun j => by rw [h2, if_neg (by omega), if_neg (by omega), if_neg (by omega), if_neg (by omega)]
  have j12 : ∀ j, J' 12 j = if j = k then 1 else J 12 j := by
    intro j
    rw [h2, if_neg (by omega), if_neg (by omega), if_neg (by omega)]
    by_cases q : j = k
    · rw [if_pos ⟨rfl, q⟩, if_pos q]
    · rw [if_neg (fun z => q z.2), if_neg q]
  have i1 : ∀ j, I' (oc + 1) j = if j = k then 2 else I (oc + 1) j := by
    intro j
    rw [h1, if_neg (by omega), if_neg (by omega), if_neg (by omega)]
    by_cases q : j = k
    · rw [if_pos ⟨rfl, q⟩, if_pos q]
    · rw [if_neg (fun z => q z.2), if_neg q]
  have g := hcs (f := I' (oc + 1)) (fun j => by rw [i1 j, i1 k, if_pos rfl]) (by rw [i1, if_pos rfl]; decide)
  refine ⟨⟨hr_fill (kl := kl) hr (by omega) (fun q j _ a _ _ b => fo q j (by omega) (by omega)) (fun j hj => fo _ _ (by omega) (by omega)) jw ?_, ?_, lwx_same hX (fun j hj => jw j (by omega)), lc_mv hC (fun d j a => fo _ _ (by omega) (by omega)), ⟨n1, ?_, ?_⟩, fun k2 hk2 => ?_, fun k2 hk2 => ?_, ⟨by rw [jw 5 (by decide)]; exact hb5.1, pts_mv hb5.2 (fun j a b => jw j (by omega))⟩, ?_⟩, fun k2 hk2 he2 => ?_⟩
  · rw [h1, if_pos ⟨rfl, rfl⟩, h2, if_pos ⟨rfl, rfl⟩, hr.2.1.1 5 (by decide)]
  · refine frl_found hF hin hm (by omega) (fun f hf => ?_) (fun q j a b => ?_) h2
    · rw [h1, if_neg (by omega), if_neg (by omega), a9, if_pos (by omega), show 6 * (J 0 32).toNat + f - 6 * (J 0 32).toNat = f by omega]
      split
      · exact hro 1 (by decide)
      · exact hro f hf
    · rw [h1, if_neg (by omega), a9]
      by_cases c : q = oc ∧ j = 9
      · rw [if_pos c, if_pos c]
      · rw [if_neg c, if_neg c, if_neg b]
  · rw [h1, if_neg (by omega), if_neg (by omega), if_neg (by omega), if_neg (by omega)]; exact n2
  · rw [show I' (oc + 5) = I (oc + 5) from funext f5, show I' (hb + 8) = I (hb + 8) from funext (fun j => fo _ _ (by omega) (by omega)), show I' (hb + 9) = I (hb + 9) from funext (fun j => fo _ _ (by omega) (by omega))]; exact n3
  · have kk := hk2.1
    rw [jw _ (by omega)]; exact hzz k2 ⟨hk2.1, by have := hk2.2; rw [jw _ (by omega)] at this; exact this⟩
  · rw [i1]
    split
    · decide
    · exact h3 k2 hk2
  · have j32 : J' 0 32 = J 0 32 + 1 := by rw [h2, if_neg (by omega), if_pos (by omega)]
    rw [j0 31 (by decide), j32, show I' (oc + 5) = I (oc + 5) from funext f5, g.1]
    omega
  · unfold eF at he2 ⊢
    rw [decide_eq_true_iff] at he2 ⊢
    obtain ⟨x1, x2, x3, x4, x5, x6, x7, x8⟩ := he2
    rw [j12] at x4
    have hne : k2 ≠ k := fun z => by rw [if_pos z] at x4; exact absurd x4 (by decide)
    rw [if_neg hne] at x4
    rw [jw _ (by omega)] at x1 x2 x5 x7 x8
    rw [j9] at x3
    rw [j0 _ (by decide)] at x5 x6 x7 x8
    exact ⟨hne, x1, x2, x3, x4, x5, x6, x7, x8⟩
end
/-! the filling's loop -/
section
variable {fu oc hb kl n : Nat} {law : List LRec} {Q : Int → IMem → Int → IMem → Prop}
theorem cv_mostP {I J : IMem} (h : FIV oc hb kl law n I J) (hd : hb + 40 ≤ oc) : par (f_C_mostPassed fu oc hb I) (fun x I' => I' = I ∧ x = if 0 < J 1 5 then (amF (eF J) (vF J true kl law) (loF J true) 240).1 else -1) := by
  unfold f_C_mostPassed
  have b1 : I (hb + 1) 4 = J 1 5 := h.1.1.1 4 (by decide)
  have hb5 := h.2.2.2.2.2.2.2.1.1
  have hn := h.2.2.2.2.1
  simp only [zl_e]
  rw [b1]
  by_cases hp : 0 < J 1 5
  · rw [if_pos hp]
    have hr := hb5
    unfold inr at hr
    rw [wr32_i2 (x := J 1 5 - 1) (by omega) (by omega)]
    refine cv_most (fu := fu) oc hb I hn.1 hn.2.1 hn.2.2 (ef_sn h) (v := vF J true kl law) (fun k hk hs => ⟨fit_iff h k hk hs, ?_⟩) (J 1 5) (J 1 5 - 1) hp fu 0 (J 1 5 - 1) (-1) (Nat.zero_le _) (nxS_0 hn.2.2 (ef_sn h) _ _)
    exact row_eq h ⟨hk, ((sn_iff h hk).mp hs).1⟩ (by decide)
  · rw [if_neg hp]
    cases fu with
    | zero => exact par_none
    | succ f =>
    show par (fb_C_mostPassed_17 (f + 1) oc hb (J 1 5) (f_C_mostPassed_17 (f + 1) oc hb (J 1 5) f) (wr32 (J 1 5 - 1)) (-1) 0 I) _
    unfold fb_C_mostPassed_17
    exact par_ite (fun _ => par_ite (fun _ => by rw [if_neg hp]; exact par_zr ⟨rfl, rfl⟩) (fun _ => par_zr ⟨rfl, rfl⟩)) (fun _ => par_zr ⟨rfl, rfl⟩)
theorem cv_worthyP {I J : IMem} (h : FIV oc hb kl law n I J) (hd : hb + 40 ≤ oc) (w2 : Int) (hw : w2 = 0 → WOK oc kl law n I J) : par (f_C_worthiest fu oc hb w2 I) (fun x I' => x = (amF (eF J) (vF J false kl law) 0 240).1 ∧ FIV oc hb kl law n I' J ∧ WOK oc kl law n I' J) := by
  have hX := h.2.2.1
  have hkl := hX.1
  have b5 : I (hb + 1) 5 = (kl : Int) := (h.1.1.1 5 (by decide)).trans hX.2.1
  have hn := h.2.2.2.2.1
  have hF := h.2.1
  unfold f_C_worthiest
  rw [ev_law fu hb I (by rw [b5]; omega), zb_zr, b5, show ((kl : Nat) : Int).toNat = kl from rfl, show ((hb + 15 + 5 * kl : Nat) : Int).toNat = hb + 15 + 5 * kl from rfl]
  refine par_mono (cv_worthy (fu := fu) oc hb kl hd hkl I J h.1.2.2.2.1 hX.2.2.1 h.2.2.2.1 hn.1 hn.2.1 hn.2.2 (ef_sn h) (fit_iff h) (v := vF J false kl law) (fun k hk => ?_) w2 (fun q => hw q) fu 0 0 (-1) I (Nat.zero_le _) (fun _ _ _ _ _ => rfl) (fun i' k hh hi' hk' hek => ?_) (nxS_0 hn.2.2 (ef_sn h) _ _)) (fun x I' ⟨g1, g2, g3⟩ => ⟨g1, fiv_same h hd hkl g2 (fun _ _ _ _ => rfl), fun i k hi hk he => ?_⟩)
  · show lval kl (WF J (k / 40) (k % 40) (J 0 30) (J 0 31)) law = _
    rw [hF.1.1, hF.1.2.1]
  · rcases hh with hh | hh
    · exact absurd hh (Nat.not_lt_zero _)
    · exact hw hh i' k hi' hk' hek
  · rw [g2 _ _ (by omega) (by omega) (by omega)] at hk
    exact g3 i k hi hk he
theorem fill_body (hd : hb + 40 ≤ oc) (kA kX : IMem → Res) (m m2 : Nat) (kA' : IMem → Res)
    (ih : ∀ (w2 w3 : Int) (I J : IMem), FIV oc hb kl law n I J → (w2 = 0 → WOK oc kl law n I J) → w3 = J 0 31 + J 0 32 → pq (f_C_fill_30 fu kA kA' oc hb m w2 w3 I) (f_X_fills_4 fu kX 0 m2 J) Q)
    (hend : ∀ I J, FIV oc hb kl law n I J → pq (kA I) (kX J) Q) (w2 w3 y : Int) (I J : IMem) (h : FIV oc hb kl law n I J) (hw : w2 = 0 → WOK oc kl law n I J) (h3 : w3 = J 0 31 + J 0 32) (hy : y = -1 ∨ ∃ k : Nat, y = (k : Int) ∧ k < 240 ∧ eF J k = true) : pq (cBODY fu oc hb kA (f_C_fill_30 fu kA kA' oc hb m) w3 w2 y I) (xB7 fu kX (f_X_fills_4 fu kX 0 m2) y J) Q := by
  unfold cBODY xB7
  rcases hy with hy | ⟨k, rfl, hk, he⟩
  · rw [if_pos hy, if_pos hy]
    exact hend I J h
  · rw [if_neg (by omega), if_neg (by omega)]
    have hkl := h.2.2.1.1
    have hs := ef_sn h k hk he
    have s := (sn_iff h hk).mp hs
    have hin : INL J k := ⟨hk, s.1⟩
    have hm := ((fit_iff h k hk hs).mp he).1
    have r1 := row_eq h hin (f := 1) (by decide)
    have r3 := row_eq h hin (f := 3) (by decide)
    have hF := h.2.1
    have hz := h.2.2.2.2.2.1 k hin
    have ek : 40 * (k / 40) + k % 40 = k := by omega
    have cnt1 := (cnt_seen h hk hs hm (f := fun j => if j = k then 1 else I (oc + 1) j) (fun j => by
      show (if j = k then (1 : Int) else I (oc + 1) j) = if j = k then (if k = k then 1 else I (oc + 1) k) else I (oc + 1) j
      rw [if_pos (rfl : k = k)]) (by show (if k = k then (1 : Int) else _) ≠ 0; rw [if_pos rfl]; decide)).2
    have hc := h.2.2.2.2.2.2.2.2
    have hn := h.2.2.2.2.1.1
    have b := hF.2.1
    rw [ev_get1 fu (hb + 6) k I hk, zb_zr, wd40 k hk, wr40 k hk, ev_of1 fu 0 (k / 40) (k % 40) J (by omega) (by omega), zb_zr, ek]
    have e1 : I (hb + 6 + 1) (6 * k + 1) = J 1 (141 + 6 * k) := by
      rw [show 141 + 6 * k = 140 + 6 * k + 1 by omega]; exact r1
    have e2 : J (0 + 1) (140 + 6 * k + 1) = J 1 (141 + 6 * k) := by rw [show 141 + 6 * k = 140 + 6 * k + 1 by omega]
    rw [e1, e2, hF.1.1]
    have w4 : Wq (wr32 (w3 + 1)) (w3 + 1) := wr32_i2 (by omega) (by omega)
    rw [w4.e]
    refine pq_ii Iff.rfl (fun q _ => ?_) (fun q _ => ?_)
    · refine pq_bl (cv_found (fu := fu) oc hb k I hk hd (by rw [hF.1.2.2]; omega)) (fun _ I1 _ g1 => ?_)
      refine pq_gr (fun _ => pq_zwr' (fun J1 e1 => ?_))
      have c1 : J1 0 32 = J 0 32 := by rw [e1, if_neg (by omega)]
      rw [c1]
      refine pq_zlr (pq_gr (fun _ => pq_zwr' (fun J2 e2 => ?_)))
      have c2 : J2 0 32 = J 0 32 := by rw [e2, if_neg (by omega), c1]
      rw [c2, wr32_i2 (x := J 0 32 + 1) (by omega) (by omega)]
      refine pq_zwr' (fun J3 e3 => ?_)
      have c3 : J3 (0 + 1) 75 = J 1 75 := by rw [e3, if_neg (by omega), e2, if_neg (by omega), e1, if_neg (by omega)]
      rw [c3]
      refine pq_zwr' (fun J4 e4 => ?_)
      have b4 : ∀ q j, J4 q j = if q = 1 ∧ j = 75 then wr32 (J 1 75 + 1) else if q = 0 ∧ j = 32 then J 0 32 + 1 else if q = 10 ∧ j = (J 0 32).toNat then (k : Int) else if q = 12 ∧ j = k then 1 else J q j := by
        intro q j
        rw [e4, e3, e2, e1]
        simp only [Nat.zero_add]
        rfl
      obtain ⟨g2, g3⟩ := fiv_found h hd hkl he hk g1 b4
      refine ih w2 (w3 + 1) I1 J4 g2 (fun z i k2 hi hk2 he2 => ?_) ?_
      · have hk2' : I (oc + 5) i = (k2 : Int) := by
          rw [← hk2, g1, if_neg (by omega), if_neg (by omega), if_neg (by omega), if_neg (by omega)]
        have k240 : k2 < 240 := by
          obtain ⟨k3, q1, q2, _⟩ := h.2.2.2.2.1.2.2.1 i hi
          omega
        obtain ⟨x1, x2⟩ := g3 k2 k240 he2
        rw [g1, if_neg (by omega), if_neg (by omega), if_neg (by omega), if_neg (by omega), hw z i k2 hi hk2' x2]
        show lval kl (WF J (k2 / 40) (k2 % 40) (J 0 30) (J 0 31)) law = lval kl (WF J4 (k2 / 40) (k2 % 40) (J4 0 30) (J4 0 31)) law
        have j30 : J4 0 30 = J 0 30 := by rw [b4, if_neg (by omega), if_neg (by omega), if_neg (by omega), if_neg (by omega)]
        have j31 : J4 0 31 = J 0 31 := by rw [b4, if_neg (by omega), if_neg (by omega), if_neg (by omega), if_neg (by omega)]
        have jw : ∀ j, j ≠ 75 → J4 1 j = J 1 j := fun j hj => by rw [b4, if_neg (by omega), if_neg (by omega), if_neg (by omega), if_neg (by omega)]
        have : WF J4 (k2 / 40) (k2 % 40) (J 0 30) (J 0 31) = WF J (k2 / 40) (k2 % 40) (J 0 30) (J 0 31) := by
          funext y
          unfold WF
          rw [jw _ (by omega), jw _ (by omega), jw _ (by omega), jw _ (by omega), jw _ (by omega)]
        rw [j30, j31, this]
      · rw [b4, if_neg (by omega), if_neg (by omega), if_neg (by omega), if_neg (by omega), b4, if_neg (by omega), if_pos ⟨rfl, rfl⟩]
        omega
    · rw [ev_get3 fu (hb + 6) k I hk, zb_zr, ev_of1 fu 0 (k / 40) (k % 40) J (by omega) (by omega), zb_zr, ek, e2]
      have e3 : I (hb + 6 + 1) (6 * k + 3) = J 1 (140 + 6 * k + 3) := r3
      rw [e3]
      have ht : 0 ≤ J 0 31 ∧ J 0 31 < 8 := by omega
      have gt := xv_takes (fu := fu) (k / 40) (k % 40) (J 1 (141 + 6 * k)) J (by omega) (by omega) ht
      rw [ek] at gt
      refine pq_bl (cv_sit (fu := fu) oc k (J 1 (141 + 6 * k)) (J 1 (140 + 6 * k + 3)) 1 I hk (by rw [hF.1.2.1]; exact ht)) (fun _ I1 _ g1 => pq_br gt (fun _ J1 _ g2 => ?_))
      have g3 := fiv_sit h hd hkl he hk (by omega) g1 g2
      refine ih 1 (w3 + 1) I1 J1 g3 (fun z => absurd z (by decide)) ?_
      rw [g2, if_neg (by omega), if_neg (by omega), if_neg (by omega), if_pos ⟨rfl, rfl⟩, g2, if_neg (by omega), if_neg (by omega), if_neg (by omega), if_neg (by omega), if_neg (by omega), if_neg (by omega)]
      omega
theorem fill_loop (hd : hb + 40 ≤ oc) (kA kA' kX : IMem → Res) (hend : ∀ I J, FIV oc hb kl law n I J → pq (kA I) (kX J) Q) : ∀ (m m2 : Nat) (w2 w3 : Int) (I J : IMem), FIV oc hb kl law n I J → (w2 = 0 → WOK oc kl law n I J) → w3 = J 0 31 + J 0 32 → pq (f_C_fill_30 fu kA kA' oc hb m w2 w3 I) (f_X_fills_4 fu kX 0 m2 J) Q := by
  intro m
  induction m with
  | zero => intro _ _ _ _ _ _ _ _; exact pq_nl
  | succ m ih =>
    intro m2 w2 w3 I J h hw h3
    cases m2 with
    | zero => exact pq_nr
    | succ m2 =>
    show pq (fb_C_fill_30 fu kA kA' oc hb (f_C_fill_30 fu kA kA' oc hb m) w2 w3 I) (fb_X_fills_4 fu kX 0 (f_X_fills_4 fu kX 0 m2) J) Q
    rw [fill_eq, fills_eq]
    have hc := h.2.2.2.2.2.2.2.2
    have hn := h.2.2.2.2.1.1
    have cb := (cnt_nn (fun i => I (oc + 1) (I (oc + 5) i).toNat) n).2
    have hkl := h.2.2.1.1
    have hX := h.2.2.1
    have hcc : ∀ l, l < 6 → 0 ≤ J 1 (130 + l) ∧ J 1 (130 + l) ≤ 40 := fun l hl => ((hl_c h.1.2.2.2.1 hl).2)
    have hb5 := h.2.2.2.2.2.2.2.1.1
    rw [if_neg (by omega)]
    have rngy : ∀ (by1 : Bool) (lo : Int), (amF (eF J) (vF J by1 kl law) lo 240).1 = -1 ∨ ∃ k : Nat, (amF (eF J) (vF J by1 kl law) lo 240).1 = (k : Int) ∧ k < 240 ∧ eF J k = true := by
      intro by1 lo
      rcases amF_rng (e := eF J) (v := vF J by1 kl law) (lo := lo) 240 with q | ⟨k, q1, q2, q3, _⟩
      · exact Or.inl (by rw [q])
      · exact Or.inr ⟨k, q3, q1, q2⟩
    have body := fun (w2 y : Int) (I' J' : IMem) => fill_body (fu := fu) (Q := Q) hd kA kX m m2 kA' (ih m2) hend w2 w3 y I' J'
    -- by worth
    have worth : ∀ J1 : IMem, (∀ q j, q ≠ 7 → q ≠ 8 → J1 q j = J q j) → pq (zb (f_C_worthiest fu oc hb w2 I) fun y31 I32 => cBODY fu oc hb kA (f_C_fill_30 fu kA kA' oc hb m) w3 0 y31 I32) (zb (f_X_finds fu 0 0 J1) fun y26 I27 => xB7 fu kX (f_X_fills_4 fu kX 0 m2) y26 I27) Q := by
      intro J1 f1
      have h1 := fiv_same (I' := I) (J' := J1) h hd hkl (fun _ _ _ _ _ => rfl) f1
      have ee : eF J1 = eF J := ef_same f1
      have ev : vF J1 false kl law = vF J false kl law := by
        funext s
        show lval kl (WF J1 (s / 40) (s % 40) (J1 0 30) (J1 0 31)) law = lval kl (WF J (s / 40) (s % 40) (J 0 30) (J 0 31)) law
        rw [wf_same f1, f1 0 30 (by decide) (by decide), f1 0 31 (by decide) (by decide)]
      refine pq_bl (cv_worthyP (fu := fu) h hd w2 hw) (fun x I1 _ ⟨g1, g2, g3⟩ => pq_br (xv_finds (fu := fu) false 0 rfl J1 h1.2.2.1 (fun l hl => by rw [f1 1 _ (by decide) (by decide)]; exact hcc l hl) (by rw [f1 1 _ (by decide) (by decide)]; exact hb5)) (fun y J2 _ ⟨g4, g5⟩ => ?_))
      have f2 : ∀ q j, q ≠ 7 → q ≠ 8 → J2 q j = J q j := fun q j a b => (g5 q j a b).trans (f1 q j a b)
      have hxy : x = y := by
        rw [g1, g4, ee, ev]
        rfl
      subst hxy
      have h2 := fiv_same (I' := I1) (J' := J2) g2 hd hkl (fun _ _ _ _ _ => rfl) f2
      have ee2 : eF J2 = eF J := ef_same f2
      have ev2 : vF J2 false kl law = vF J false kl law := by
        funext s
        show lval kl (WF J2 (s / 40) (s % 40) (J2 0 30) (J2 0 31)) law = lval kl (WF J (s / 40) (s % 40) (J 0 30) (J 0 31)) law
        rw [wf_same f2, f2 0 30 (by decide) (by decide), f2 0 31 (by decide) (by decide)]
      refine body 0 x I1 J2 h2 (fun _ i k hi hk he => ?_) ?_ ?_
      · rw [ev2]
        rw [ee2] at he
        exact g3 i k hi hk he
      · rw [f2 0 31 (by decide) (by decide), f2 0 32 (by decide) (by decide)]; exact h3
      · rw [ee2, g1]; exact rngy false 0
    by_cases hp : 0 < J 1 5
    · rw [if_pos hp]
      refine pq_bl (cv_mostP (fu := fu) h hd) (fun x I1 _ ⟨g1, g2⟩ => pq_br (xv_finds (fu := fu) true 1 rfl J hX hcc hb5) (fun y J1 _ ⟨g4, g5⟩ => ?_))
      subst g1
      rw [if_pos hp] at g2
      have hxy : x = y := g2.trans g4.symm
      subst hxy
      unfold xB4
      by_cases hx : x = -1
      · rw [if_pos hx, if_pos hx]
        exact worth J1 g5
      · rw [if_neg hx, if_neg hx]
        have h2 := fiv_same (I' := I1) (J' := J1) h hd hkl (fun _ _ _ _ _ => rfl) g5
        have ee2 : eF J1 = eF J := ef_same g5
        refine body w2 x I1 J1 h2 (fun z i k hi hk he => ?_) ?_ ?_
        · rw [ee2] at he
          have := hw z i k hi hk he
          rw [this]
          show lval kl (WF J (k / 40) (k % 40) (J 0 30) (J 0 31)) law = lval kl (WF J1 (k / 40) (k % 40) (J1 0 30) (J1 0 31)) law
          rw [wf_same g5, g5 0 30 (by decide) (by decide), g5 0 31 (by decide) (by decide)]
        · rw [g5 0 31 (by decide) (by decide), g5 0 32 (by decide) (by decide)]; exact h3
        · rw [ee2, g2]; exact rngy true _
    · rw [if_neg hp]
      refine pq_bl (cv_mostP (fu := fu) h hd) (fun x I1 _ ⟨g1, g2⟩ => ?_)
      subst g1
      rw [if_neg hp] at g2
      rw [if_pos g2]
      unfold xB4
      rw [if_pos rfl]
      exact worth J (fun _ _ _ _ => rfl)
end
