/-! WORTH and the line of a comer on both sides -/
/-- the facts of a group for a RULE, by the reference's memory -/
def WF (J : IMem) (l p : Nat) (left taken : Int) : Nat → Int := fun y => if y = 1 then J 1 (140 + 6 * (40 * l + p) + 2) else if y = 2 then left else if y = 3 then p else if y = 4 then l else if y = 5 then J 1 (140 + 6 * (40 * l + p) + 5) else if y = 6 then J 1 (140 + 6 * (40 * l + p) + 4) else if y = 7 then J 1 (140 + 6 * (40 * l + p) + 3) else if y = 8 then taken else J 1 (130 + l) - 1 - p
theorem one9 {y : Int} (h1 : 1 ≤ y) (h2 : y ≤ 9) : y = 1 ∨ y = 2 ∨ y = 3 ∨ y = 4 ∨ y = 5 ∨ y = 6 ∨ y = 7 ∨ y = 8 ∨ y = 9 := by omega
section
variable {fu : Nat}
theorem xv_worth {l p k : Nat} {left taken : Int} {J : IMem} {law : List LRec} (hl : l < 6) (hp : (p : Int) < J 1 (130 + l)) (hm : J 1 (130 + l) ≤ 40) (hk : k < 4) (hf : J 1 6 = k) (ho : LOK k law) (h : LX 1 k law J) : par (f_X_worth fu 0 l p left taken J) (fun v J' => v = lval k (WF J l p left taken) law ∧ ∀ q j, q ≠ 7 → q ≠ 8 → J' q j = J q j) := by
  have hp4 : p < 40 := by omega
  unfold f_X_worth
  simp only [zl_e]
  rw [ev_of2 fu 0 l p _ hl hp4, zb_zr]
  refine par_zw' (fun I1 e1 => par_zw' (fun I2 e2 => par_zw' (fun I3 e3 => par_zw' (fun I4 e4 => ?_))))
  rw [ev_of5 fu 0 l p _ hl hp4, zb_zr]
  refine par_zw' (fun I5 e5 => ?_)
  rw [ev_of4 fu 0 l p _ hl hp4, zb_zr]
  refine par_zw' (fun I6 e6 => ?_)
  rw [ev_of3 fu 0 l p _ hl hp4, zb_zr]
  refine par_zw' (fun I7 e7 => par_zw' (fun I8 e8 => ?_))
  have w1 : wr32 (130 + (l : Int)) = ((130 + l : Nat) : Int) := by rw [wr32_i2 (by omega) (by omega)]; omega
  rw [w1]
  refine par_zg (fun _ => par_zw' (fun I9 e9 => ?_))
  rw [show ((130 + l : Nat) : Int).toNat = 130 + l from rfl] at e9
  have f8 : ∀ q j, q ≠ 8 → I8 q j = J q j := fun q j hq => by rw [e8, if_neg (by omega), e7, if_neg (by omega), e6, if_neg (by omega), e5, if_neg (by omega), e4, if_neg (by omega), e3, if_neg (by omega), e2, if_neg (by omega), e1, if_neg (by omega)]
  have f9 : ∀ q j, q ≠ 8 → I9 q j = J q j := fun q j hq => by rw [e9, if_neg (by omega)]; exact f8 q j hq
  have f4 : ∀ q j, q ≠ 8 → I4 q j = J q j := fun q j hq => by rw [e4, if_neg (by omega), e3, if_neg (by omega), e2, if_neg (by omega), e1, if_neg (by omega)]
  have f5 : ∀ q j, q ≠ 8 → I5 q j = J q j := fun q j hq => by rw [e5, if_neg (by omega)]; exact f4 q j hq
  have f6 : ∀ q j, q ≠ 8 → I6 q j = J q j := fun q j hq => by rw [e6, if_neg (by omega)]; exact f5 q j hq
  have ag : AG k (I9 8) (WF J l p left taken) := by
    intro y y1 y2 y3
    have y9 : y ≤ 9 := by omega
    rcases one9 y1 y9 with rfl | rfl | rfl | rfl | rfl | rfl | rfl | rfl | rfl
    · show I9 8 1 = J 1 (140 + 6 * (40 * l + p) + 2)
      rw [e9, if_neg (by omega), e8, if_neg (by omega), e7, if_neg (by omega), e6, if_neg (by omega), e5, if_neg (by omega), e4, if_neg (by omega), e3, if_neg (by omega), e2, if_neg (by omega), e1, if_pos (by omega)]
    · show I9 8 2 = left
      rw [e9, if_neg (by omega), e8, if_neg (by omega), e7, if_neg (by omega), e6, if_neg (by omega), e5, if_neg (by omega), e4, if_neg (by omega), e3, if_neg (by omega), e2, if_pos (by omega)]
    · show I9 8 3 = (p : Int)
      rw [e9, if_neg (by omega), e8, if_neg (by omega), e7, if_neg (by omega), e6, if_neg (by omega), e5, if_neg (by omega), e4, if_neg (by omega), e3, if_pos (by omega)]
    · show I9 8 4 = (l : Int)
      rw [e9, if_neg (by omega), e8, if_neg (by omega), e7, if_neg (by omega), e6, if_neg (by omega), e5, if_neg (by omega), e4, if_pos (by omega)]
    · show I9 8 5 = J 1 (140 + 6 * (40 * l + p) + 5)
      rw [e9, if_neg (by omega), e8, if_neg (by omega), e7, if_neg (by omega), e6, if_neg (by omega), e5, if_pos (by omega)]
      exact f4 _ _ (by decide)
    · show I9 8 6 = J 1 (140 + 6 * (40 * l + p) + 4)
      rw [e9, if_neg (by omega), e8, if_neg (by omega), e7, if_neg (by omega), e6, if_pos (by omega)]
      exact f5 _ _ (by decide)
    · show I9 8 7 = J 1 (140 + 6 * (40 * l + p) + 3)
      rw [e9, if_neg (by omega), e8, if_neg (by omega), e7, if_pos (by omega)]
      exact f6 _ _ (by decide)
    · show I9 8 8 = taken
      rw [e9, if_neg (by omega), e8, if_pos (by omega)]
    · show I9 8 9 = J 1 (130 + l) - 1 - p
      rw [e9, if_pos (by omega), f8 _ _ (by decide)]
      show wr32 (wr32 (J 1 (130 + l) - 1) - p) = _
      rw [wr32_i2 (x := J 1 (130 + l) - 1) (by omega) (by omega), wr32_i2 (by omega) (by omega)]
  have hx : LX 1 k law I9 := lx_mv (by omega) ho h (fun j _ _ => f9 _ _ (by decide))
  show par (zb (f_X_firstLine fu 0 (J 1 6) I9) _) _
  rw [hf]
  refine par_zb (xv_first (by omega) ho I9 hx ag) (fun y J1 ⟨g1, g2⟩ => ?_)
  rcases g2 with ⟨g2, g3⟩ | ⟨i, r, hr, g2, g3⟩
  · rw [if_pos g2]
    exact par_zr ⟨g3.symm, fun q j h7 h8 => (g1 q j h7).trans (f9 q j h8)⟩
  · have hi := lt_of_get hr
    have o1 := ho.1
    rw [if_neg (by omega), g2]
    have w2 : wr32 (1670 + ((16 * k + i : Nat) : Int)) = ((1670 + 16 * k + i : Nat) : Int) := by rw [wr32_i2 (by omega) (by omega)]; omega
    have w3 : wr32 (1750 + ((16 * k + i : Nat) : Int)) = ((1750 + 16 * k + i : Nat) : Int) := by rw [wr32_i2 (by omega) (by omega)]; omega
    rw [w2, w3]
    refine par_zg (fun _ => par_zg (fun _ => ?_))
    have hx1 : LX 1 k law J1 := lx_mv (by omega) ho hx (fun j _ _ => g1 _ _ (by decide))
    obtain ⟨p1, p2, _, _⟩ := hx1.2.2 i r hr
    have hg := ho.2.2.2 i r hr
    obtain ⟨b, hb⟩ := hg.1 (by omega)
    have hxx := px_at hr
    have hlen := ho.2.2.1
    rw [hxx, List.length_append, List.length_append, List.length_append] at hlen
    have hseg := seg2_of (c := fun j => J1 1 (1910 + 820 * k + j)) (PX law) 0 (fun t ht => by rw [Nat.zero_add]; exact hx1.2.1 t ht)
    rw [hxx] at hseg
    have sg := (seg2_app _ _ _ (seg2_app _ _ _ hseg).2).1
    have sg1 := (seg2_app _ _ _ sg).1
    rw [Nat.zero_add] at sg1
    have ag1 : AG k (J1 8) (WF J l p left taken) := fun y a c d => by rw [g1 _ _ (by decide)]; exact ag y a c d
    refine par_zb (Q1 := fun v J' => v = evV (J1 8) r.E ∧ ∀ q j, q ≠ 7 → J' q j = J1 q j) ?_ (fun v J2 ⟨g4, g5⟩ => par_zr ⟨?_, fun q j h7 h8 => (g5 q j h7).trans ((g1 q j h7).trans (f9 q j h8))⟩)
    · show par (f_X_comesTo fu 0 (k : Int) (J1 1 (1670 + 16 * k + i)) (J1 1 (1750 + 16 * k + i)) J1) _
      rw [p1, p2]
      exact cmx_val k _ (by omega) r.E J1 _ (by omega) sg1 hb (by omega)
    · rw [g4, g3, if_neg (by omega), evV_ag ag1 hb]
theorem cv_weigh {hb l p : Nat} {left taken : Int} {I : IMem} (hl : l < 6) (hp4 : p < 40) (hm : I (hb + 8) l ≤ 40 ∧ 0 ≤ I (hb + 8) l) : par (f_H_weigh fu hb ((40 * l + p : Nat) : Int) left taken I) (fun _ I' => (∀ q j, q ≠ hb + 13 → I' q j = I q j) ∧ I' (hb + 13) 7 = I (hb + 7) (6 * (40 * l + p) + 2) ∧ I' (hb + 13) 9 = left ∧ I' (hb + 13) 10 = p ∧ I' (hb + 13) 11 = l ∧ I' (hb + 13) 12 = I (hb + 7) (6 * (40 * l + p) + 5) ∧ I' (hb + 13) 13 = I (hb + 7) (6 * (40 * l + p) + 4) ∧ I' (hb + 13) 8 = I (hb + 7) (6 * (40 * l + p) + 3) ∧ I' (hb + 13) 14 = taken ∧ I' (hb + 13) 15 = I (hb + 8) l - 1 - p) := by
  have hk : 40 * l + p < 240 := by omega
  have d1 : (40 * l + p) / 40 = l := by omega
  have d2 : (40 * l + p) % 40 = p := by omega
  unfold f_H_weigh
  simp only [zl_e]
  rw [wd40 _ hk, wr40 _ hk, d1, d2, ev_get2 fu (hb + 6) _ _ hk, zb_zr]
  refine par_zw' (fun I1 e1 => par_zw' (fun I2 e2 => par_zw' (fun I3 e3 => par_zw' (fun I4 e4 => ?_))))
  rw [ev_get5 fu (hb + 6) _ _ hk, zb_zr]
  refine par_zw' (fun I5 e5 => ?_)
  rw [ev_get4 fu (hb + 6) _ _ hk, zb_zr]
  refine par_zw' (fun I6 e6 => ?_)
  rw [ev_get3 fu (hb + 6) _ _ hk, zb_zr]
  refine par_zw' (fun I7 e7 => par_zw' (fun I8 e8 => ?_))
  have f4 : ∀ q j, q ≠ hb + 13 → I4 q j = I q j := fun q j hq => by rw [e4, if_neg (by omega), e3, if_neg (by omega), e2, if_neg (by omega), e1, if_neg (by omega)]
  have f5 : ∀ q j, q ≠ hb + 13 → I5 q j = I q j := fun q j hq => by rw [e5, if_neg (by omega)]; exact f4 q j hq
  have f6 : ∀ q j, q ≠ hb + 13 → I6 q j = I q j := fun q j hq => by rw [e6, if_neg (by omega)]; exact f5 q j hq
  have f8 : ∀ q j, q ≠ hb + 13 → I8 q j = I q j := fun q j hq => by rw [e8, if_neg (by omega), e7, if_neg (by omega)]; exact f6 q j hq
  have c8 : I8 (hb + 6 + 2) l = I (hb + 8) l := f8 _ _ (by omega)
  rw [ev_countOf fu (hb + 6) l I8 hl (by rw [c8]; exact hm.1), zb_zr, c8]
  refine par_zw' (fun I9 e9 => par_zr ⟨fun q j hq => by rw [e9, if_neg (by omega)]; exact f8 q j hq, ?_, ?_, ?_, ?_, ?_, ?_, ?_, ?_, ?_⟩)
  · rw [e9, if_neg (by omega), e8, if_neg (by omega), e7, if_neg (by omega), e6, if_neg (by omega), e5, if_neg (by omega), e4, if_neg (by omega), e3, if_neg (by omega), e2, if_neg (by omega), e1, if_pos (by omega)]
  · rw [e9, if_neg (by omega), e8, if_neg (by omega), e7, if_neg (by omega), e6, if_neg (by omega), e5, if_neg (by omega), e4, if_neg (by omega), e3, if_neg (by omega), e2, if_pos (by omega)]
  · rw [e9, if_neg (by omega), e8, if_neg (by omega), e7, if_neg (by omega), e6, if_neg (by omega), e5, if_neg (by omega), e4, if_neg (by omega), e3, if_pos (by omega)]
  · rw [e9, if_neg (by omega), e8, if_neg (by omega), e7, if_neg (by omega), e6, if_neg (by omega), e5, if_neg (by omega), e4, if_pos (by omega)]
  · rw [e9, if_neg (by omega), e8, if_neg (by omega), e7, if_neg (by omega), e6, if_neg (by omega), e5, if_pos (by omega)]
    exact f4 _ _ (by omega)
  · rw [e9, if_neg (by omega), e8, if_neg (by omega), e7, if_neg (by omega), e6, if_pos (by omega)]
    exact f5 _ _ (by omega)
  · rw [e9, if_neg (by omega), e8, if_neg (by omega), e7, if_pos (by omega)]
    exact f6 _ _ (by omega)
  · rw [e9, if_neg (by omega), e8, if_pos (by omega)]
  · rw [e9, if_pos (by omega), wr32_i2 (x := I (hb + 8) l - p) (by omega) (by omega), wr32_i2 (by omega) (by omega)]
    omega
/-- weighed: the class's facts are the reference's -/
theorem cv_facts {hb l p : Nat} {left taken : Int} {s : Int} {I J : IMem} (hs : s ≠ 4) (hL : HL hb 1 I J) (hl : l < 6) (hp : (p : Int) < J 1 (130 + l)) : par (f_H_weigh fu hb ((40 * l + p : Nat) : Int) left taken I) (fun _ I' => (∀ q j, q ≠ hb + 13 → I' q j = I q j) ∧ FMAP s (I' (hb + 13)) (WF J l p left taken)) := by
  obtain ⟨c1, c2, c3⟩ := hl_c hL hl
  refine par_mono (cv_weigh hl (by omega) (by omega)) (fun _ I' ⟨g0, g7, g9, g10, g11, g12, g13, g8, g14, g15⟩ => ⟨g0, ?_⟩)
  intro y y1 y2 y3
  have y9 : y ≤ 9 := by omega
  rcases one9 y1 y9 with rfl | rfl | rfl | rfl | rfl | rfl | rfl | rfl | rfl
  · exact g7.trans (hl_r hL hl hp (by decide))
  · exact g9
  · exact g10
  · exact g11
  · exact g12.trans (hl_r hL hl hp (by decide))
  · exact g13.trans (hl_r hL hl hp (by decide))
  · exact g8.trans (hl_r hL hl hp (by decide))
  · exact g14
  · rw [c1] at g15; exact g15
/-- the shortest line from i on, b the best till there -/
def shR (c : Nat → Int) : Nat → Nat → Nat → Nat
  | 0, _, b => b
  | n + 1, i, b => shR c n (i + 1) (if c i < c b then i else b)
theorem cv_short (o : Nat) (I : IMem) : ∀ (m n i b : Nat), i + n = 6 → b < 6 → par (f_L_shortest_4 fu o m (b : Int) (i : Int) I) (fun v I' => I' = I ∧ v = (shR (I (o + 2)) n i b : Nat)) := by
  intro m
  induction m with
  | zero => intro _ _ _ _ _; exact par_none
  | succ m ih =>
    intro n i b hi hb
    show par (fb_L_shortest_4 fu o (f_L_shortest_4 fu o m) (b : Int) (i : Int) I) _
    unfold fb_L_shortest_4
    cases n with
    | zero =>
      rw [if_neg (by omega)]
      exact par_zr ⟨rfl, rfl⟩
    | succ n =>
      rw [if_pos (by omega)]
      refine par_zg (fun _ => par_zg (fun _ => ?_))
      simp only [zl_e, zj_e]
      have e4 : wr32 ((i : Int) + 1) = ((i + 1 : Nat) : Int) := by rw [wr32_i2 (by omega) (by omega)]; rfl
      rw [e4]
      show par (if I (o + 2) i < I (o + 2) b then _ else _) _
      refine par_ite (fun q => ?_) (fun q => ?_)
      · have g := ih n (i + 1) i (by omega) (by omega)
        have e : shR (I (o + 2)) (n + 1) i b = shR (I (o + 2)) n (i + 1) i := by
          show shR _ n (i + 1) (if I (o + 2) i < I (o + 2) b then i else b) = _
          rw [if_pos q]
        rw [e]; exact g
      · have g := ih n (i + 1) b (by omega) hb
        have e : shR (I (o + 2)) (n + 1) i b = shR (I (o + 2)) n (i + 1) b := by
          show shR _ n (i + 1) (if I (o + 2) i < I (o + 2) b then i else b) = _
          rw [if_neg q]
        rw [e]; exact g
theorem xv_short {Q : Int → IMem → Prop} (k : Int → IMem → Res) (p1 p2 : Int) (J : IMem) (c : Nat → Int) (hc : ∀ l, l < 6 → J 1 (130 + l) = c l) : ∀ (m n i b : Nat), i + n = 6 → b < 6 → par (k ((shR c n i b : Nat) : Int) J) Q → par (f_X_lineFor_38 fu k 0 p1 p2 m (b : Int) (i : Int) J) Q := by
  intro m
  induction m with
  | zero => intro _ _ _ _ _ _; exact par_none
  | succ m ih =>
    intro n i b hi hb hk
    show par (fb_X_lineFor_38 fu k 0 p1 p2 (f_X_lineFor_38 fu k 0 p1 p2 m) (b : Int) (i : Int) J) _
    unfold fb_X_lineFor_38
    cases n with
    | zero =>
      rw [if_neg (by omega)]
      exact hk
    | succ n =>
      rw [if_pos (by omega)]
      have w1 : wr32 (130 + (i : Int)) = ((130 + i : Nat) : Int) := by rw [wr32_i2 (by omega) (by omega)]; omega
      have w2 : wr32 (130 + (b : Int)) = ((130 + b : Nat) : Int) := by rw [wr32_i2 (by omega) (by omega)]; omega
      simp only [zl_e, zj_e]
      rw [w1, w2]
      refine par_zg (fun _ => par_zg (fun _ => ?_))
      have e4 : wr32 ((i : Int) + 1) = ((i + 1 : Nat) : Int) := by rw [wr32_i2 (by omega) (by omega)]; rfl
      rw [e4]
      show par (if J 1 (130 + i) < J 1 (130 + b) then _ else _) _
      rw [hc i (by omega), hc b hb]
      have e : shR c (n + 1) i b = shR c n (i + 1) (if c i < c b then i else b) := rfl
      rw [e] at hk
      refine par_ite (fun q => ?_) (fun q => ?_)
      · rw [if_pos q] at hk
        exact ih n (i + 1) i (by omega) (by omega) hk
      · rw [if_neg q] at hk
        exact ih n (i + 1) b (by omega) hb hk
/-- the facts of a comer, for THE LINES -/
def EF (c : Nat → Int) (says sort : Int) : Nat → Int := fun y => if y = 1 then says else if y = 7 then sort else if y = 10 then ((shR c 5 1 0 : Nat) : Int) else c 0
theorem wand1 (x : Int) : wand x 1 = 0 ∨ wand x 1 = 1 := by
  have h1 : (iv x &&& iv 1).toBitVec.toNat < 2 ^ 1 := by
    rw [Int32.toBitVec_and, BitVec.toNat_and]
    exact Nat.and_lt_two_pow _ (by decide)
  have h2 : (iv x &&& iv 1).toBitVec.toInt = ((iv x &&& iv 1).toBitVec.toNat : Int) := BitVec.toInt_eq_toNat_of_lt (by omega)
  have h3 : wand x 1 = (iv x &&& iv 1).toBitVec.toInt := rfl
  omega
theorem lv4_rng {l : List LRec} {F : Nat → Int} (ho : ∀ i r, l[i]? = some r → GRL 4 r) : 0 ≤ lval 4 F l ∧ lval 4 F l ≤ 5 := by
  induction l with
  | nil => exact ⟨Int.le_refl _, by decide⟩
  | cons r t ih =>
    have h := ih (fun i r' hr => ho (i + 1) r' (by simpa using hr))
    have h0 := (ho 0 r rfl).2.2 rfl
    show 0 ≤ (if r.B = [] ∨ evV F r.B = 1 then (if (4 : Int) = 4 then r.v else evV F r.E) else lval 4 F t) ∧ (if r.B = [] ∨ evV F r.B = 1 then (if (4 : Int) = 4 then r.v else evV F r.E) else lval 4 F t) ≤ 5
    split
    · rw [if_pos rfl]; exact h0
    · exact h
/-- where a comer goes -/
def LFv (z : Int) (law : List LRec) (c : Nat → Int) (says sort : Int) : Int := if z = -1 then lval 4 (EF c says sort) law else if 4 < says then 0 else wand (wshr z (wr32 (says - 1))) 1
theorem lf_rng {z says sort : Int} {law : List LRec} {c : Nat → Int} (ho : ∀ i r, law[i]? = some r → GRL 4 r) : 0 ≤ LFv z law c says sort ∧ LFv z law c says sort ≤ 5 := by
  unfold LFv
  split
  · exact lv4_rng ho
  · split
    · exact ⟨Int.le_refl _, by decide⟩
    · have := wand1 (wshr z (wr32 (says - 1))); omega
theorem cv_lineFor {hb : Nat} {says sort : Int} {I : IMem} {law : List LRec} (ho : LOK 4 law) (h : LC (hb + 35) 4 law I) : par (f_H_lineFor fu hb says sort I) (fun v I' => v = LFv (I hb 11) law (I (hb + 8)) says sort ∧ ∀ q j, q ≠ hb + 13 → q ≠ hb + 39 → I' q j = I q j) := by
  unfold f_H_lineFor LFv
  refine par_ite (fun q => ?_) (fun q => ?_)
  · rw [if_pos q]
    refine par_zw' (fun I1 e1 => par_zw' (fun I2 e2 => ?_))
    have f2 : ∀ q j, q ≠ hb + 13 → I2 q j = I q j := fun q j hq => by rw [e2, if_neg (by omega), e1, if_neg (by omega)]
    unfold f_L_shortest
    refine par_zb (cv_short (hb + 6) I2 fu 5 1 0 (by decide) (by decide)) (fun v I3 ⟨g1, g2⟩ => ?_)
    have g1' := g1.symm
    subst g1'
    have c2 : I2 (hb + 6 + 2) = I (hb + 8) := funext (fun j => f2 _ _ (by omega))
    rw [c2] at g2
    refine par_zw' (fun I4 e4 => par_zw' (fun I5 e5 => ?_))
    have f5 : ∀ q j, q ≠ hb + 13 → I5 q j = I q j := fun q j hq => by rw [e5, if_neg (by omega), e4, if_neg (by omega)]; exact f2 q j hq
    have fm : FMAP 4 (I5 (hb + 13)) (EF (I (hb + 8)) says sort) := by
      intro y y1 y2 y3
      rcases (show y = 1 ∨ y = 7 ∨ y = 10 ∨ y = 11 by omega) with rfl | rfl | rfl | rfl
      · show I5 (hb + 13) 7 = says
        rw [e5, if_neg (by omega), e4, if_neg (by omega), e2, if_neg (by omega), e1, if_pos (by omega)]
      · show I5 (hb + 13) 8 = sort
        rw [e5, if_neg (by omega), e4, if_neg (by omega), e2, if_pos (by omega)]
      · show I5 (hb + 13) 5 = _
        rw [e5, if_neg (by omega), e4, if_pos (by omega), g2]
        rfl
      · show I5 (hb + 13) 6 = I (hb + 8) 0
        rw [e5, if_pos (by omega), e4, if_neg (by omega)]
        exact f2 _ _ (by omega)
    refine par_zb (cv_value (F := EF (I (hb + 8)) says sort) (fun d hd => by omega) ho I5 (lc_mv h (fun d j hd => f5 _ _ (by omega))) fm) (fun v I6 ⟨g3, g4⟩ => par_zr ⟨g3, fun q j h1 h2 => (g4 q j (by omega)).trans (f5 q j h1)⟩)
  · rw [if_neg q]
    refine par_ite (fun q2 => ?_) (fun q2 => ?_)
    · rw [if_pos q2]; exact par_zr ⟨rfl, fun _ _ _ _ => rfl⟩
    · rw [if_neg q2]; exact par_zr ⟨rfl, fun _ _ _ _ => rfl⟩
theorem xv_lineFor {says sort : Int} {J : IMem} {law : List LRec} {c : Nat → Int} (hc : ∀ l, l < 6 → J 1 (130 + l) = c l) (ho : LOK 4 law) (h : LX 1 4 law J) : par (f_X_lineFor fu 0 says sort J) (fun v J' => v = LFv (J 0 22) law c says sort ∧ ∀ q j, q ≠ 7 → q ≠ 8 → J' q j = J q j) := by
  unfold f_X_lineFor LFv
  refine par_ite (fun q => ?_) (fun q => ?_)
  · rw [if_pos q]
    refine xv_short _ says sort J c hc fu 5 1 0 (by decide) (by decide) ?_
    refine par_zw' (fun I1 e1 => par_zw' (fun I2 e2 => par_zw' (fun I3 e3 => par_zw' (fun I4 e4 => ?_))))
    have f3 : ∀ q j, q ≠ 8 → I3 q j = J q j := fun q j hq => by rw [e3, if_neg (by omega), e2, if_neg (by omega), e1, if_neg (by omega)]
    have f4 : ∀ q j, q ≠ 8 → I4 q j = J q j := fun q j hq => by rw [e4, if_neg (by omega)]; exact f3 q j hq
    have ag : AG 4 (I4 8) (EF c says sort) := by
      intro y y1 y2 y3
      rcases (show y = 1 ∨ y = 7 ∨ y = 10 ∨ y = 11 by omega) with rfl | rfl | rfl | rfl
      · show I4 8 1 = says
        rw [e4, if_neg (by omega), e3, if_neg (by omega), e2, if_neg (by omega), e1, if_pos (by omega)]
      · show I4 8 7 = sort
        rw [e4, if_neg (by omega), e3, if_neg (by omega), e2, if_pos (by omega)]
      · show I4 8 10 = _
        rw [e4, if_neg (by omega), e3, if_pos (by omega)]
        rfl
      · show I4 8 11 = c 0
        rw [e4, if_pos (by omega)]
        exact (f3 _ _ (by decide)).trans (hc 0 (by decide))
    have hx : LX 1 4 law I4 := lx_mv (by decide) ho h (fun j _ _ => f4 _ _ (by decide))
    refine par_zb (xv_first (k := 4) (by decide) ho I4 hx ag) (fun y J1 ⟨g1, g2⟩ => ?_)
    rcases g2 with ⟨g2, g3⟩ | ⟨i, r, hr, g2, g3⟩
    · rw [if_pos g2]
      exact par_zr ⟨g3.symm, fun q j h7 h8 => (g1 q j h7).trans (f4 q j h8)⟩
    · have hi := lt_of_get hr
      have o1 := ho.1
      rw [if_neg (by omega), g2]
      have w2 : wr32 (1590 + ((16 * 4 + i : Nat) : Int)) = ((1590 + 16 * 4 + i : Nat) : Int) := by rw [wr32_i2 (by omega) (by omega)]; omega
      simp only [zl_e]
      rw [w2]
      refine par_zg (fun _ => par_zr ⟨?_, fun q j h7 h8 => (g1 q j h7).trans (f4 q j h8)⟩)
      have hx1 : LX 1 4 law J1 := lx_mv (by decide) ho hx (fun j _ _ => g1 _ _ (by decide))
      have := ((hx1.2.2 i r hr).2.2.2 rfl).2
      refine Eq.trans (b := J1 1 (1590 + 16 * 4 + i)) rfl (this.trans ?_)
      exact (g3.trans (if_pos rfl)).symm
  · rw [if_neg q]
    by_cases q2 : says < 5
    · rw [if_pos q2, if_neg (by omega)]
      refine par_ite (fun q3 => par_zr ⟨q3.symm, fun _ _ _ _ => rfl⟩) (fun q3 => par_zr ⟨?_, fun _ _ _ _ => rfl⟩)
      have := wand1 (wshr (J 0 22) (wr32 (says - 1)))
      omega
    · rw [if_neg q2, if_pos (by omega)]
      exact par_zr ⟨rfl, fun _ _ _ _ => rfl⟩
end
/-! a group comes, on both sides -/
def HA (hb : Nat) (I : IMem) : Prop := I (hb + 14) 4 = 0 ∧ I (hb + 14) 5 = 0
def HX (hb : Nat) (I J : IMem) : Prop := HR hb 1 I J ∧ I hb 11 = J 0 22 ∧ HA hb I
section
variable {fu : Nat}
theorem cv_append {hb l o2 n2 a : Nat} {I : IMem} (hl : l < 6) (hc : 0 ≤ I (hb + 8) l ∧ I (hb + 8) l ≤ 40) (ha : a + 6 ≤ n2) (hn : n2 < 1000) : par (f_L_append fu (hb + 6) (l : Int) o2 n2 (a : Int) I) (fun v I' => (v = 0 ∧ I (hb + 8) l = 40 ∧ I' = I) ∨ (v = 1 ∧ I (hb + 8) l < 40 ∧ ∀ q j, I' q j = if q = hb + 8 ∧ j = l then I (hb + 8) l + 1 else if q = hb + 7 ∧ 6 * (40 * l + (I (hb + 8) l).toNat) ≤ j ∧ j < 6 * (40 * l + (I (hb + 8) l).toNat) + 6 then I o2 (a + (j - 6 * (40 * l + (I (hb + 8) l).toNat))) else I q j)) := by
  unfold f_L_append
  rw [ev_isLine, if_pos (by omega), zb_zr, if_neg (by decide)]
  refine par_zg (fun _ => ?_)
  show par (if I (hb + 8) l < 40 then _ else _) _
  refine par_ite (fun q => ?_) (fun q => par_zr (Or.inl ⟨rfl, by omega, rfl⟩))
  rw [if_neg (by omega), if_neg (by rw [wr32_i2 (by omega) (by omega)]; omega)]
  refine par_zg (fun _ => ?_)
  simp only [zl_e]
  generalize hcn : (I (hb + 8) l).toNat = c
  have w1 : wr32 (wr32 ((l : Int) * 40) + I (hb + 6 + 2) (l : Int).toNat) = ((40 * l + c : Nat) : Int) := by
    rw [wr32_i2 (x := (l : Int) * 40) (by omega) (by omega)]
    show wr32 ((l : Int) * 40 + I (hb + 8) l) = _
    rw [wr32_i2 (by omega) (by omega)]; omega
  rw [w1]
  have w2 : wr32 (((40 * l + c : Nat) : Int) * 6) = ((6 * (40 * l + c) : Nat) : Int) := by rw [wr32_i2 (by omega) (by omega)]; omega
  rw [w2]
  refine par_zg (fun _ => par_zc' (fun I1 e1 => par_zg (fun _ => par_zg (fun _ => par_zw' (fun I2 e2 => par_zr (Or.inr ⟨rfl, q, fun p j => ?_⟩))))))
  rw [e2]
  have c1 : I1 (hb + 6 + 2) (l : Int).toNat = I (hb + 8) l := by
    rw [e1, if_neg (by omega)]; rfl
  rw [c1, wr32_i2 (x := I (hb + 8) l + 1) (by omega) (by omega)]
  show (if p = hb + 8 ∧ j = l then _ else _) = _
  by_cases h1 : p = hb + 8 ∧ j = l
  · rw [if_pos h1, if_pos h1]
  · rw [if_neg h1, if_neg h1, e1]
    by_cases h2 : p = hb + 7 ∧ 6 * (40 * l + c) ≤ j ∧ j < 6 * (40 * l + c) + 6
    · rw [if_pos h2, if_pos (by omega)]
      rfl
    · rw [if_neg h2, if_neg (by omega)]
/-- a row's cells -/
def RWc (a2 a3 a4 a5 a6 a7 : Int) : Nat → Int := fun f => if f = 0 then a2 else if f = 1 then a3 else if f = 2 then a4 else if f = 3 then a5 else if f = 4 then a6 else a7
theorem xv_stands {l : Nat} {a2 a3 a4 a5 a6 a7 : Int} {J : IMem} (hl : l < 6) (hc : 0 ≤ J 1 (130 + l) ∧ J 1 (130 + l) ≤ 40) : par (f_X_stands fu 0 (l : Int) a2 a3 a4 a5 a6 a7 J) (fun v J' => (v = 0 ∧ J 1 (130 + l) = 40 ∧ (∀ q j, ¬ (q = 1 ∧ j = 76) → ¬ (q = 0 ∧ j = 24) → J' q j = J q j) ∧ J' 1 76 = wr32 (J 1 76 + 1) ∧ (J' 0 24 = 0 ↔ J 0 24 = 0 ∧ a2 ≠ J 0 23)) ∨ (v = 1 ∧ J 1 (130 + l) < 40 ∧ ∀ q j, J' q j = if q = 1 ∧ j = 130 + l then J 1 (130 + l) + 1 else if q = 1 ∧ 140 + 6 * (40 * l + (J 1 (130 + l)).toNat) ≤ j ∧ j < 140 + 6 * (40 * l + (J 1 (130 + l)).toNat) + 6 then RWc a2 a3 a4 a5 a6 a7 (j - (140 + 6 * (40 * l + (J 1 (130 + l)).toNat))) else J q j)) := by
  unfold f_X_stands
  have w1 : wr32 (130 + (l : Int)) = ((130 + l : Nat) : Int) := by rw [wr32_i2 (by omega) (by omega)]; omega
  simp only [zl_e, zj_e]
  rw [w1]
  refine par_zg (fun _ => ?_)
  show par (if J 1 (130 + l) = 40 then _ else _) _
  refine par_ite (fun q => ?_) (fun q => ?_)
  · refine par_zw' (fun I1 e1 => ?_)
    have h24 : I1 0 24 = J 0 24 := by rw [e1, if_neg (by omega)]
    have h23 : I1 0 23 = J 0 23 := by rw [e1, if_neg (by omega)]
    rw [h24, h23]
    have fin : ∀ v : Int, (v = 0 ↔ J 0 24 = 0 ∧ a2 ≠ J 0 23) → par (zg (v = 0 ∨ v = 1) (zw I1 0 24 v fun I24 => zr 0 I24)) (fun v J' => (v = 0 ∧ J 1 (130 + l) = 40 ∧ (∀ q j, ¬ (q = 1 ∧ j = 76) → ¬ (q = 0 ∧ j = 24) → J' q j = J q j) ∧ J' 1 76 = wr32 (J 1 76 + 1) ∧ (J' 0 24 = 0 ↔ J 0 24 = 0 ∧ a2 ≠ J 0 23)) ∨ (v = 1 ∧ J 1 (130 + l) < 40 ∧ ∀ q j, J' q j = if q = 1 ∧ j = 130 + l then J 1 (130 + l) + 1 else if q = 1 ∧ 140 + 6 * (40 * l + (J 1 (130 + l)).toNat) ≤ j ∧ j < 140 + 6 * (40 * l + (J 1 (130 + l)).toNat) + 6 then RWc a2 a3 a4 a5 a6 a7 (j - (140 + 6 * (40 * l + (J 1 (130 + l)).toNat))) else J q j)) := by
      intro v hv
      refine par_zg (fun _ => par_zw' (fun I2 e2 => par_zr (Or.inl ⟨rfl, q, fun p j h1 h2 => ?_, ?_, ?_⟩)))
      · rw [e2, if_neg h2, e1, if_neg (by omega)]
      · rw [e2, if_neg (by omega), e1, if_pos (by omega)]
      · rw [e2, if_pos ⟨rfl, rfl⟩]; exact hv
    refine par_ite (fun q2 => par_ite (fun q3 => ?_) (fun q3 => ?_)) (fun q2 => ?_)
    · exact fin 1 ⟨fun x => absurd x (by decide), fun x => absurd q3 x.2⟩
    · exact fin 0 ⟨fun _ => ⟨q2, q3⟩, fun _ => rfl⟩
    · exact fin 1 ⟨fun x => absurd x (by decide), fun x => absurd x.1 q2⟩
  · refine par_zg (fun _ => ?_)
    generalize hcn : (J 1 (130 + l)).toNat = c
    have w2 : J (0 + 1) ((130 + l : Nat) : Int).toNat = (c : Int) := by
      show J 1 (130 + l) = _
      omega
    rw [w2, ev_cell fu l c J hl (by omega), zb_zr]
    have wn : ∀ f : Nat, f < 6 → wr32 (((140 + 6 * (40 * l + c) : Nat) : Int) + (f : Int)) = ((140 + 6 * (40 * l + c) + f : Nat) : Int) := fun f hf => by rw [wr32_i2 (by omega) (by omega)]; omega
    have n0 : wr32 (((140 + 6 * (40 * l + c) : Nat) : Int) + 0) = ((140 + 6 * (40 * l + c) + 0 : Nat) : Int) := wn 0 (by decide)
    have n1 : wr32 (((140 + 6 * (40 * l + c) : Nat) : Int) + 1) = ((140 + 6 * (40 * l + c) + 1 : Nat) : Int) := wn 1 (by decide)
    have n2 : wr32 (((140 + 6 * (40 * l + c) : Nat) : Int) + 2) = ((140 + 6 * (40 * l + c) + 2 : Nat) : Int) := wn 2 (by decide)
    have n3 : wr32 (((140 + 6 * (40 * l + c) : Nat) : Int) + 3) = ((140 + 6 * (40 * l + c) + 3 : Nat) : Int) := wn 3 (by decide)
    have n4 : wr32 (((140 + 6 * (40 * l + c) : Nat) : Int) + 4) = ((140 + 6 * (40 * l + c) + 4 : Nat) : Int) := wn 4 (by decide)
    have n5 : wr32 (((140 + 6 * (40 * l + c) : Nat) : Int) + 5) = ((140 + 6 * (40 * l + c) + 5 : Nat) : Int) := wn 5 (by decide)
    rw [n0, n1, n2, n3, n4, n5]
    refine par_zg (fun _ => par_zw' (fun I0 e0 => par_zg (fun _ => par_zw' (fun I1 e1 => par_zg (fun _ => par_zw' (fun I2 e2 => par_zg (fun _ => par_zw' (fun I3 e3 => par_zg (fun _ => par_zw' (fun I4 e4 => par_zg (fun _ => par_zw' (fun I5 e5 => par_zg (fun _ => par_zg (fun _ => par_zw' (fun I6 e6 => par_zr (Or.inr ⟨rfl, by omega, fun p j => ?_⟩)))))))))))))))
    have hm : I5 (0 + 1) ((130 + l : Nat) : Int).toNat = J 1 (130 + l) := by
      rw [e5, if_neg (by omega), e4, if_neg (by omega), e3, if_neg (by omega), e2, if_neg (by omega), e1, if_neg (by omega), e0, if_neg (by omega)]
      rfl
    rw [e6, hm, wr32_i2 (x := J 1 (130 + l) + 1) (by omega) (by omega)]
    show (if p = 1 ∧ j = 130 + l then _ else _) = _
    by_cases h1 : p = 1 ∧ j = 130 + l
    · rw [if_pos h1, if_pos h1]
    · rw [if_neg h1, if_neg h1]
      by_cases h2 : p = 1 ∧ 140 + 6 * (40 * l + c) ≤ j ∧ j < 140 + 6 * (40 * l + c) + 6
      · rw [if_pos h2]
        obtain ⟨f, hf, rfl⟩ : ∃ f, f < 6 ∧ j = 140 + 6 * (40 * l + c) + f := ⟨j - (140 + 6 * (40 * l + c)), by omega, by omega⟩
        rw [Nat.add_sub_cancel_left]
        rcases (show f = 0 ∨ f = 1 ∨ f = 2 ∨ f = 3 ∨ f = 4 ∨ f = 5 by omega) with rfl | rfl | rfl | rfl | rfl | rfl
        · rw [e5, if_neg (by omega), e4, if_neg (by omega), e3, if_neg (by omega), e2, if_neg (by omega), e1, if_neg (by omega), e0, if_pos (by omega)]; rfl
        · rw [e5, if_neg (by omega), e4, if_neg (by omega), e3, if_neg (by omega), e2, if_neg (by omega), e1, if_pos (by omega)]; rfl
        · rw [e5, if_neg (by omega), e4, if_neg (by omega), e3, if_neg (by omega), e2, if_pos (by omega)]; rfl
        · rw [e5, if_neg (by omega), e4, if_neg (by omega), e3, if_pos (by omega)]; rfl
        · rw [e5, if_neg (by omega), e4, if_pos (by omega)]; rfl
        · rw [e5, if_pos (by omega)]; rfl
      · rw [if_neg h2, e5, if_neg (by omega), e4, if_neg (by omega), e3, if_neg (by omega), e2, if_neg (by omega), e1, if_neg (by omega), e0, if_neg (by omega)]
/-- one more row on both sides -/
theorem hl_add {hb l : Nat} {I J I' J' : IMem} {R : Nat → Int} (h : HL hb 1 I J) (hl : l < 6) (hc : J 1 (130 + l) < 40) (h8 : ∀ j, I' (hb + 8) j = if j = l then I (hb + 8) l + 1 else I (hb + 8) j)
    (h7 : ∀ j, I' (hb + 7) j = if 6 * (40 * l + (J 1 (130 + l)).toNat) ≤ j ∧ j < 6 * (40 * l + (J 1 (130 + l)).toNat) + 6 then R (j - 6 * (40 * l + (J 1 (130 + l)).toNat)) else I (hb + 7) j)
    (hJ : ∀ j, 130 ≤ j → j < 1580 → J' 1 j = if j = 130 + l then J 1 (130 + l) + 1 else if 140 + 6 * (40 * l + (J 1 (130 + l)).toNat) ≤ j ∧ j < 140 + 6 * (40 * l + (J 1 (130 + l)).toNat) + 6 then R (j - (140 + 6 * (40 * l + (J 1 (130 + l)).toNat))) else J 1 j) : HL hb 1 I' J' := by
  intro l2 hl2
  obtain ⟨a, b, c⟩ := h l2 hl2
  obtain ⟨a0, b0, c0⟩ := h l hl
  generalize hcn : (J 1 (130 + l)).toNat = n at h7 hJ
  by_cases e : l2 = l
  · subst e
    have j0 : J' 1 (130 + l2) = J 1 (130 + l2) + 1 := by rw [hJ _ (by omega) (by omega), if_pos rfl]
    refine ⟨?_, by omega, fun p f hp hf => ?_⟩
    · rw [h8, if_pos rfl, j0, a]
    · rw [j0] at hp
      rw [h7, hJ _ (by omega) (by omega), if_neg (by omega)]
      by_cases hpn : p = n
      · subst hpn
        rw [if_pos (by omega), if_pos (by omega)]
        congr 1
        omega
      · rw [if_neg (by omega), if_neg (by omega)]
        exact c p f (by omega) hf
  · have j0 : J' 1 (130 + l2) = J 1 (130 + l2) := by rw [hJ _ (by omega) (by omega), if_neg (by omega), if_neg (by omega)]
    refine ⟨?_, by rw [j0]; exact b, fun p f hp hf => ?_⟩
    · rw [h8, if_neg e, j0]; exact a
    · rw [j0] at hp
      rw [h7, hJ _ (by omega) (by omega), if_neg (by omega), if_neg (by omega), if_neg (by omega)]
      exact c p f hp hf
/-- what a comer leaves on both sides -/
theorem enter2 {hb : Nat} {size says sort : Int} {I J : IMem} (h : HX hb I J) (hg : RG J) : pq (f_H_enter fu hb size says sort I) (f_X_comes fu 0 size says sort J) (fun x I' y J' => x = y ∧ HX hb I' J') := by
  obtain ⟨⟨hS, hY, hP, hL, hW⟩, hz, hA⟩ := h
  obtain ⟨law, lc, lx, lo⟩ := hW 4 (by decide)
  have hcJ : ∀ l, l < 6 → J 1 (130 + l) = I (hb + 8) l := fun l hl => (hl_c hL hl).1.symm
  unfold f_H_enter f_X_comes
  refine pq_br (P := fun v J' => v = LFv (J 0 22) law (I (hb + 8)) says sort ∧ ∀ q j, q ≠ 7 → q ≠ 8 → J' q j = J q j) (xv_lineFor hcJ lo lx) (fun y1 J1 _ ⟨gy, gJ⟩ => ?_)
  refine pq_zwl' (fun I1 e1 => pq_zwl' (fun I2 e2 => pq_zwl' (fun I3 e3 => pq_zwl' (fun I4 e4 => pq_zwl' (fun I5 e5 => ?_)))))
  have f4 : ∀ q j, q ≠ hb + 14 → I4 q j = I q j := fun q j hq => by rw [e4, if_neg (by omega), e3, if_neg (by omega), e2, if_neg (by omega), e1, if_neg (by omega)]
  have f5 : ∀ q j, q ≠ hb + 14 → ¬ (q = hb ∧ j = 7) → I5 q j = I q j := fun q j hq h0 => by rw [e5, if_neg h0]; exact f4 q j hq
  have c5 : I5 hb 7 = wr32 (I hb 7 + 1) := by rw [e5, if_pos ⟨rfl, rfl⟩, f4 _ _ (by omega)]
  refine pq_bl (P := fun v I' => v = LFv (I hb 11) law (I (hb + 8)) says sort ∧ ∀ q j, q ≠ hb + 13 → q ≠ hb + 39 → I' q j = I5 q j) ?_ (fun x1 I6 _ ⟨gx, gI⟩ => ?_)
  · have g := cv_lineFor (fu := fu) (hb := hb) (says := says) (sort := sort) (I := I5) lo (lc_mv (ol := hb + 15 + 5 * 4) lc (fun d j hd => by rw [show hb + 35 + d = hb + 15 + 5 * 4 + d by omega]; exact f5 _ _ (by omega) (by omega)))
    have z1 : I5 hb 11 = I hb 11 := f5 _ _ (by omega) (by omega)
    have z2 : I5 (hb + 8) = I (hb + 8) := funext (fun j => f5 _ _ (by omega) (by omega))
    rw [z1, z2] at g
    exact g
  have hxy : x1 = y1 := by rw [gx, gy, hz]
  have rng := lf_rng (z := I hb 11) (says := says) (sort := sort) (c := I (hb + 8)) (law := law) lo.2.2.2
  rw [← gx] at rng
  obtain ⟨l, hl, rfl⟩ : ∃ l : Nat, l < 6 ∧ x1 = (l : Int) := ⟨x1.toNat, by omega, by omega⟩
  subst hxy
  have f6 : ∀ q j, q ≠ hb + 13 → q ≠ hb + 39 → q ≠ hb + 14 → ¬ (q = hb ∧ j = 7) → I6 q j = I q j := fun q j h1 h2 h3 h4 => (gI q j h1 h2).trans (f5 q j h3 h4)
  have f14 : ∀ j, I6 (hb + 14) j = I5 (hb + 14) j := fun j => gI _ _ (by omega) (by omega)
  obtain ⟨b1, b2, b3⟩ := hl_c hL hl
  have cc : I6 (hb + 8) l = J 1 (130 + l) := (f6 _ _ (by omega) (by omega) (by omega) (by omega)).trans b1
  have gc := hg 1 7
  have hcame := hS.2.2.1
  unfold inr at gc
  have wn : wr32 (wr32 (J 1 7 + 1) - 1) = J 1 7 := by unfold wr32; omega
  refine pq_zwr' (fun J2 e2' => ?_)
  have k2 : ∀ q j, q ≠ 7 → q ≠ 8 → ¬ (q = 1 ∧ j = 7) → J2 q j = J q j := fun q j h1 h2 h3 => by rw [e2', if_neg (by omega)]; exact gJ q j h1 h2
  have k7 : J2 1 7 = wr32 (J 1 7 + 1) := by rw [e2', if_pos ⟨rfl, rfl⟩]; show wr32 (J1 1 7 + 1) = _; rw [gJ _ _ (by decide) (by decide)]
  have jc : J2 1 (130 + l) = J 1 (130 + l) := k2 _ _ (by decide) (by decide) (by omega)
  have k7' : J2 (0 + 1) 7 = wr32 (J 1 7 + 1) := k7
  rw [k7', wn]
  refine pq_bl (cv_append (fu := fu) (hb := hb) (o2 := hb + 14) (n2 := 6) (a := 0) hl (by omega) (by decide) (by decide)) (fun x2 I7 _ hx2 => pq_br (xv_stands (fu := fu) hl (by omega)) (fun y2 J3 _ hy2 => ?_))
  have rowA : ∀ f, f < 6 → I6 (hb + 14) (0 + f) = RWc (J 1 7) size says sort 0 0 f := by
    intro f hf
    rw [f14, Nat.zero_add]
    rcases (show f = 0 ∨ f = 1 ∨ f = 2 ∨ f = 3 ∨ f = 4 ∨ f = 5 by omega) with rfl | rfl | rfl | rfl | rfl | rfl
    · rw [e5, if_neg (by omega), e4, if_neg (by omega), e3, if_neg (by omega), e2, if_neg (by omega), e1, if_pos (by omega)]; exact hcame
    · rw [e5, if_neg (by omega), e4, if_neg (by omega), e3, if_neg (by omega), e2, if_pos (by omega)]; rfl
    · rw [e5, if_neg (by omega), e4, if_neg (by omega), e3, if_pos (by omega)]; rfl
    · rw [e5, if_neg (by omega), e4, if_pos (by omega)]; rfl
    · rw [e5, if_neg (by omega), e4, if_neg (by omega), e3, if_neg (by omega), e2, if_neg (by omega), e1, if_neg (by omega)]; exact hA.1
    · rw [e5, if_neg (by omega), e4, if_neg (by omega), e3, if_neg (by omega), e2, if_neg (by omega), e1, if_neg (by omega)]; exact hA.2
  have hA6 : HA hb I6 := ⟨rowA 4 (by decide), rowA 5 (by decide)⟩
  have cam6 : I6 hb 7 = wr32 (J 1 7 + 1) := by rw [gI _ _ (by omega) (by omega), c5, hcame]
  -- the other parts, with or without the row
  have rest : ∀ I' J' : IMem, (∀ q j, q ≠ hb + 7 → q ≠ hb + 8 → ¬ (q = hb + 10 ∧ j = 6) → I' q j = I6 q j) → (∀ q j, ¬ (q = 1 ∧ (j = 76 ∨ (130 ≤ j ∧ j < 1580))) → ¬ (q = 0 ∧ j = 24) → J' q j = J2 q j) → HS hb 1 I' J' ∧ HP hb 1 I' J' ∧ HW hb 1 I' J' ∧ I' hb 11 = J' 0 22 ∧ HA hb I' := by
    intro I' J' hi hj
    have gi : ∀ q j, q ≠ hb + 13 → q ≠ hb + 39 → q ≠ hb + 14 → ¬ (q = hb ∧ j = 7) → q ≠ hb + 7 → q ≠ hb + 8 → ¬ (q = hb + 10 ∧ j = 6) → I' q j = I q j := fun q j h1 h2 h3 h4 h5 h6 h7 => (hi q j h5 h6 h7).trans (f6 q j h1 h2 h3 h4)
    have gj : ∀ j, j ≠ 7 → j ≠ 76 → ¬ (130 ≤ j ∧ j < 1580) → J' 1 j = J 1 j := fun j h1 h2 h3 => (hj 1 j (by omega) (by omega)).trans (k2 1 j (by decide) (by decide) (by omega))
    refine ⟨?_, hp_mv hP (fun j => ⟨gi _ _ (by omega) (by omega) (by omega) (by omega) (by omega) (by omega) (by omega), gi _ _ (by omega) (by omega) (by omega) (by omega) (by omega) (by omega) (by omega)⟩) (fun j hq => gj j (by omega) (by omega) (by omega)), hw_mv hW (fun d j h1 h2 h3 => gi _ _ (by omega) (by omega) (by omega) (by omega) (by omega) (by omega) (by omega)) (fun j h1 h2 => gj j (by omega) (by omega) (by omega)), ?_, ?_⟩
    · obtain ⟨a1, a2, a3, a4, a5, a6, a7⟩ := hS
      refine ⟨fun k hk => ?_, ?_, ?_, fun k hk => ?_, fun k h3 h4 => ?_, fun k hk => ?_, fun k h3 h4 => ?_⟩
      · rw [gi _ _ (by omega) (by omega) (by omega) (by omega) (by omega) (by omega) (by omega), gj _ (by omega) (by omega) (by omega)]; exact a1 k hk
      · rw [gi _ _ (by omega) (by omega) (by omega) (by omega) (by omega) (by omega) (by omega), gj _ (by omega) (by omega) (by omega)]; exact a2
      · rw [hi _ _ (by omega) (by omega) (by omega), cam6, hj _ _ (by omega) (by omega), k7]
      · rw [gi _ _ (by omega) (by omega) (by omega) (by omega) (by omega) (by omega) (by omega), gj _ (by omega) (by omega) (by omega)]; exact a4 k hk
      · rw [gi _ _ (by omega) (by omega) (by omega) (by omega) (by omega) (by omega) (by omega), gj _ (by omega) (by omega) (by omega)]; exact a5 k h3 h4
      · rw [gi _ _ (by omega) (by omega) (by omega) (by omega) (by omega) (by omega) (by omega), gj _ (by omega) (by omega) (by omega)]; exact a6 k hk
      · rw [gi _ _ (by omega) (by omega) (by omega) (by omega) (by omega) (by omega) (by omega), gj _ (by omega) (by omega) (by omega)]; exact a7 k h3 h4
    · rw [gi _ _ (by omega) (by omega) (by omega) (by omega) (by omega) (by omega) (by omega), hj _ _ (by omega) (by omega), k2 _ _ (by decide) (by decide) (by omega)]; exact hz
    · exact ⟨(hi _ _ (by omega) (by omega) (by omega)).trans hA6.1, (hi _ _ (by omega) (by omega) (by omega)).trans hA6.2⟩
  rcases hx2 with ⟨rfl, x2c, rfl⟩ | ⟨rfl, x2c, x2e⟩
  · rcases hy2 with ⟨rfl, y2c, y2f, y2a, y2l⟩ | ⟨rfl, y2c, y2e⟩
    · rw [if_pos rfl, if_pos rfl]
      refine pq_zwl' (fun I8 e8 => pq_end ⟨rfl, ?_⟩)
      obtain ⟨r1, r2, r3, r4, r5⟩ := rest I8 J3 (fun q j h1 h2 h3 => by rw [e8, if_neg h3]) (fun q j h1 h2 => y2f q j (by omega) h2)
      have gi : ∀ j, I8 (hb + 10) j = if j = 6 then wr32 (I (hb + 10) 6 + 1) else I (hb + 10) j := by
        intro j
        rw [e8]
        by_cases h6 : j = 6
        · rw [if_pos ⟨rfl, h6⟩, if_pos h6, f6 _ _ (by omega) (by omega) (by omega) (by omega)]
        · rw [if_neg (fun q => h6 q.2), if_neg h6, f6 _ _ (by omega) (by omega) (by omega) (by omega)]
      have gj : ∀ j, 70 ≤ j → j < 110 → J3 1 j = if j = 76 then wr32 (J 1 76 + 1) else J 1 j := by
        intro j h1 h2
        by_cases h6 : j = 76
        · subst h6
          rw [if_pos rfl, y2a, k2 _ _ (by decide) (by decide) (by omega)]
        · rw [if_neg h6, y2f _ _ (by omega) (by omega), k2 _ _ (by decide) (by decide) (by omega)]
      refine ⟨⟨r1, ⟨fun k hk => ?_, fun s h3 h4 => ⟨?_, ?_, ?_⟩⟩, r2, hl_mv hL (fun j => ⟨?_, ?_⟩) (fun j h1 h2 => ?_), r3⟩, r4, r5⟩
      · rw [gi, gj _ (by omega) (by omega)]
        by_cases h6 : k = 6
        · subst h6
          rw [if_pos rfl, if_pos rfl, hY.1 6 (by decide)]
        · rw [if_neg h6, if_neg (by omega)]; exact hY.1 k hk
      · rw [gi, gj _ (by omega) (by omega), if_neg (by omega), if_neg (by omega)]; exact (hY.2 s h3 h4).1
      · rw [gi, gj _ (by omega) (by omega), if_neg (by omega), if_neg (by omega)]; exact (hY.2 s h3 h4).2.1
      · rw [gi, gj _ (by omega) (by omega), if_neg (by omega), if_neg (by omega)]; exact (hY.2 s h3 h4).2.2
      · rw [e8, if_neg (by omega)]; exact f6 _ _ (by omega) (by omega) (by omega) (by omega)
      · rw [e8, if_neg (by omega)]; exact f6 _ _ (by omega) (by omega) (by omega) (by omega)
      · rw [y2f _ _ (by omega) (by omega)]; exact k2 _ _ (by decide) (by decide) (by omega)
    · omega
  · rcases hy2 with ⟨rfl, y2c, y2f, y2a, y2l⟩ | ⟨rfl, y2c, y2e⟩
    · omega
    · rw [if_neg (by decide), if_neg (by decide)]
      refine pq_end ⟨rfl, ?_⟩
      rw [jc] at y2e
      rw [cc] at x2e
      obtain ⟨r1, r2, r3, r4, r5⟩ := rest I7 J3 (fun q j h1 h2 h3 => by rw [x2e, if_neg (by omega), if_neg (by omega)]) (fun q j h1 h2 => by rw [y2e, if_neg (by omega), if_neg (by omega)])
      refine ⟨⟨r1, hy_mv hY (fun j => ?_) (fun j h1 h2 => ?_), r2, hl_add (R := RWc (J 1 7) size says sort 0 0) hL hl (by omega) (fun j => ?_) (fun j => ?_) (fun j h1 h2 => ?_), r3⟩, r4, r5⟩
      · rw [x2e, if_neg (by omega), if_neg (by omega)]; exact f6 _ _ (by omega) (by omega) (by omega) (by omega)
      · rw [y2e, if_neg (by omega), if_neg (by omega)]; exact k2 _ _ (by decide) (by decide) (by omega)
      · rw [x2e]
        by_cases h1 : j = l
        · rw [if_pos ⟨rfl, h1⟩, if_pos h1, b1]
        · rw [if_neg (fun q => h1 q.2), if_neg h1, if_neg (by omega)]; exact f6 _ _ (by omega) (by omega) (by omega) (by omega)
      · rw [x2e, if_neg (by omega)]
        by_cases h1 : 6 * (40 * l + (J 1 (130 + l)).toNat) ≤ j ∧ j < 6 * (40 * l + (J 1 (130 + l)).toNat) + 6
        · rw [if_pos ⟨rfl, h1⟩, if_pos h1]
          exact rowA _ (by omega)
        · rw [if_neg (fun q => h1 q.2), if_neg h1]; exact f6 _ _ (by omega) (by omega) (by omega) (by omega)
      · rw [y2e]
        by_cases h3 : j = 130 + l
        · rw [if_pos ⟨rfl, h3⟩, if_pos h3]
        · rw [if_neg (fun q => h3 q.2), if_neg h3]
          by_cases h4 : 140 + 6 * (40 * l + (J 1 (130 + l)).toNat) ≤ j ∧ j < 140 + 6 * (40 * l + (J 1 (130 + l)).toNat) + 6
          · rw [if_pos ⟨rfl, h4⟩, if_pos h4]
          · rw [if_neg (fun q => h4 q.2), if_neg h4]; exact k2 _ _ (by decide) (by decide) (by omega)
end
/-! who is found for the chair: the best of those that fit, on both sides -/
/-- the first best of the spots below n: which, how much -/
def amF (e : Nat → Bool) (v : Nat → Int) (lo : Int) : Nat → Int × Int
  | 0 => (-1, lo)
  | k + 1 => if e k = true ∧ (amF e v lo k).2 < v k then ((k : Int), v k) else amF e v lo k
theorem amF_gap {e : Nat → Bool} {v : Nat → Int} {lo : Int} {a : Nat} : ∀ b : Nat, a ≤ b → (∀ k, a ≤ k → k < b → e k = false) → amF e v lo b = amF e v lo a := by
  intro b
  induction b with
  | zero => intro h _; rw [show a = 0 by omega]
  | succ b ih =>
    intro h hk
    by_cases e1 : a = b + 1
    · rw [e1]
    · show (if e b = true ∧ (amF e v lo b).2 < v b then ((b : Int), v b) else amF e v lo b) = _
      rw [if_neg (fun q => by rw [hk b (by omega) (by omega)] at q; exact absurd q.1 (by decide))]
      exact ih (by omega) (fun k h1 h2 => hk k h1 (by omega))
theorem amF_eq {e e2 : Nat → Bool} {v v2 : Nat → Int} {lo : Int} : ∀ n : Nat, (∀ k, k < n → e2 k = e k) → (∀ k, k < n → e k = true → v2 k = v k) → amF e2 v2 lo n = amF e v lo n := by
  intro n
  induction n with
  | zero => intro _ _; rfl
  | succ n ih =>
    intro h1 h2
    show (if e2 n = true ∧ (amF e2 v2 lo n).2 < v2 n then ((n : Int), v2 n) else amF e2 v2 lo n) = (if e n = true ∧ (amF e v lo n).2 < v n then ((n : Int), v n) else amF e v lo n)
    rw [ih (fun k hk => h1 k (by omega)) (fun k hk => h2 k (by omega)), h1 n (by omega)]
    by_cases q : e n = true
    · rw [h2 n (by omega) q]
    · rw [if_neg (fun z => q z.1), if_neg (fun z => q z.1)]
theorem amF_rng {e : Nat → Bool} {v : Nat → Int} {lo : Int} : ∀ n : Nat, (amF e v lo n = (-1, lo)) ∨ ∃ k : Nat, k < n ∧ e k = true ∧ (amF e v lo n).1 = (k : Int) ∧ (amF e v lo n).2 = v k ∧ lo < v k := by
  intro n
  induction n with
  | zero => exact Or.inl rfl
  | succ n ih =>
    show ((if e n = true ∧ (amF e v lo n).2 < v n then ((n : Int), v n) else amF e v lo n) = (-1, lo)) ∨ ∃ k : Nat, k < n + 1 ∧ e k = true ∧ (if e n = true ∧ (amF e v lo n).2 < v n then ((n : Int), v n) else amF e v lo n).1 = (k : Int) ∧ (if e n = true ∧ (amF e v lo n).2 < v n then ((n : Int), v n) else amF e v lo n).2 = v k ∧ lo < v k
    by_cases q : e n = true ∧ (amF e v lo n).2 < v n
    · rw [if_pos q]
      refine Or.inr ⟨n, by omega, q.1, rfl, rfl, ?_⟩
      rcases ih with h | ⟨k, h1, h2, h3, h4, h5⟩
      · rw [h] at q; exact q.2
      · rw [h4] at q; omega
    · rw [if_neg q]
      rcases ih with h | ⟨k, h1, h2, h3, h4, h5⟩
      · exact Or.inl h
      · exact Or.inr ⟨k, by omega, h2, h3, h4, h5⟩
/-- who fits, by the reference's memory -/
def eF (J : IMem) (k : Nat) : Bool := decide (((k % 40 : Nat) : Int) < J 1 (130 + k / 40) ∧ ((k % 40 : Nat) : Int) < J 1 (10 + k / 40) ∧ J 9 k = 0 ∧ J 12 k = 0 ∧ J 1 (140 + 6 * k + 2) ≤ J 0 30 ∧ ¬ 0 < J 0 33 ∧ (J 1 (140 + 6 * k + 3) = 1 → 0 < J 0 34) ∧ (J 1 (140 + 6 * k + 3) = 2 → J 0 31 = 0))
theorem ef_iff (J : IMem) {l p : Nat} (hp : p < 40) : eF J (40 * l + p) = true ↔ ((p : Int) < J 1 (130 + l) ∧ (p : Int) < J 1 (10 + l) ∧ J 9 (40 * l + p) = 0 ∧ J 12 (40 * l + p) = 0 ∧ J 1 (140 + 6 * (40 * l + p) + 2) ≤ J 0 30 ∧ ¬ 0 < J 0 33 ∧ (J 1 (140 + 6 * (40 * l + p) + 3) = 1 → 0 < J 0 34) ∧ (J 1 (140 + 6 * (40 * l + p) + 3) = 2 → J 0 31 = 0)) := by
  unfold eF
  rw [decide_eq_true_iff, show (40 * l + p) % 40 = p by omega, show (40 * l + p) / 40 = l by omega]
theorem ef_same {J J' : IMem} (h : ∀ q j, q ≠ 7 → q ≠ 8 → J' q j = J q j) : eF J' = eF J := by
  funext k
  unfold eF
  rw [h 1 _ (by decide) (by decide), h 1 _ (by decide) (by decide), h 9 _ (by decide) (by decide), h 12 _ (by decide) (by decide), h 1 _ (by decide) (by decide), h 0 _ (by decide) (by decide), h 0 _ (by decide) (by decide), h 1 _ (by decide) (by decide), h 0 _ (by decide) (by decide), h 0 _ (by decide) (by decide)]
theorem ev_isOpen (fu l p : Nat) (J : IMem) (hl : l < 6) (hp : p < 40) : f_X_isOpen fu 0 (l : Int) (p : Int) J = zr (if (p : Int) < J 1 (10 + l) ∧ J 9 (40 * l + p) = 0 ∧ J 12 (40 * l + p) = 0 then 1 else 0) J := by
  unfold f_X_isOpen
  have w1 : wr32 (10 + (l : Int)) = ((10 + l : Nat) : Int) := by rw [wr32_i2 (by omega) (by omega)]; omega
  have w2 : wr32 (wr32 (40 * (l : Int)) + (p : Int)) = ((40 * l + p : Nat) : Int) := by rw [wr32_i2 (x := 40 * (l : Int)) (by omega) (by omega), wr32_i2 (by omega) (by omega)]; omega
  simp only [zl_e]
  rw [w1, w2, zg_t (by omega)]
  show (if (p : Int) < J 1 (10 + l) then _ else _) = _
  by_cases h1 : (p : Int) < J 1 (10 + l)
  · rw [if_pos h1, zg_t (by omega)]
    show (if J 9 (40 * l + p) = 0 then _ else _) = _
    by_cases h2 : J 9 (40 * l + p) = 0
    · rw [if_pos h2, zg_t (by omega)]
      show (if J 12 (40 * l + p) = 0 then _ else _) = _
      by_cases h3 : J 12 (40 * l + p) = 0
      · rw [if_pos h3, if_pos ⟨h1, h2, h3⟩]
      · rw [if_neg h3, if_neg (fun q => h3 q.2.2)]
    · rw [if_neg h2, if_neg (fun q => h2 q.2.1)]
  · rw [if_neg h1, if_neg (fun q => h1 q.1)]
theorem ev_xfits (fu l p : Nat) (J : IMem) (hl : l < 6) (hp : (p : Int) < J 1 (130 + l)) (hp4 : p < 40) : f_X_fits fu 0 (l : Int) (p : Int) J = zr (if eF J (40 * l + p) = true then 1 else 0) J := by
  unfold f_X_fits
  have key : ∀ v : Bool, v = eF J (40 * l + p) → (if eF J (40 * l + p) = true then (1 : Int) else 0) = (if v = true then 1 else 0) := fun v hv => by rw [hv]
  have yes : ((p : Int) < J 1 (130 + l) ∧ (p : Int) < J 1 (10 + l) ∧ J 9 (40 * l + p) = 0 ∧ J 12 (40 * l + p) = 0 ∧ J 1 (140 + 6 * (40 * l + p) + 2) ≤ J 0 30 ∧ ¬ 0 < J 0 33 ∧ (J 1 (140 + 6 * (40 * l + p) + 3) = 1 → 0 < J 0 34) ∧ (J 1 (140 + 6 * (40 * l + p) + 3) = 2 → J 0 31 = 0)) → zr (if eF J (40 * l + p) = true then 1 else 0) J = zr 1 J := fun h => by rw [if_pos ((ef_iff J hp4).mpr h)]
  have no : ¬ ((p : Int) < J 1 (130 + l) ∧ (p : Int) < J 1 (10 + l) ∧ J 9 (40 * l + p) = 0 ∧ J 12 (40 * l + p) = 0 ∧ J 1 (140 + 6 * (40 * l + p) + 2) ≤ J 0 30 ∧ ¬ 0 < J 0 33 ∧ (J 1 (140 + 6 * (40 * l + p) + 3) = 1 → 0 < J 0 34) ∧ (J 1 (140 + 6 * (40 * l + p) + 3) = 2 → J 0 31 = 0)) → zr (if eF J (40 * l + p) = true then 1 else 0) J = zr 0 J := fun h => by rw [if_neg (fun q => h ((ef_iff J hp4).mp q))]
  rw [ev_isOpen fu l p J hl hp4, zb_zr]
  by_cases h1 : (p : Int) < J 1 (10 + l) ∧ J 9 (40 * l + p) = 0 ∧ J 12 (40 * l + p) = 0
  · rw [if_pos h1, if_neg (by decide), ev_of2 fu 0 l p J hl hp4, zb_zr]
    show (if J 0 30 < J 1 (140 + 6 * (40 * l + p) + 2) then _ else _) = _
    by_cases h2 : J 0 30 < J 1 (140 + 6 * (40 * l + p) + 2)
    · rw [if_pos h2, no (fun q => by have := q.2.2.2.2.1; omega)]
    · rw [if_neg h2]
      by_cases h3 : 0 < J 0 33
      · rw [if_pos h3, no (fun q => q.2.2.2.2.2.1 h3)]
      · rw [if_neg h3, ev_of3 fu 0 l p J hl hp4, zb_zr]
        show (if J 1 (140 + 6 * (40 * l + p) + 3) = 1 then _ else _) = _
        by_cases h4 : J 1 (140 + 6 * (40 * l + p) + 3) = 1
        · rw [if_pos h4]
          by_cases h5 : 0 < J 0 34
          · rw [if_pos h5, yes ⟨hp, h1.1, h1.2.1, h1.2.2, by omega, h3, fun _ => h5, fun q => by omega⟩]
          · rw [if_neg h5, no (fun q => h5 (q.2.2.2.2.2.2.1 h4))]
        · rw [if_neg h4]
          by_cases h6 : J 1 (140 + 6 * (40 * l + p) + 3) = 2
          · rw [if_pos h6]
            by_cases h5 : J 0 31 = 0
            · rw [if_pos h5, yes ⟨hp, h1.1, h1.2.1, h1.2.2, by omega, h3, fun q => absurd q h4, fun _ => h5⟩]
            · rw [if_neg h5, no (fun q => h5 (q.2.2.2.2.2.2.2 h6))]
          · rw [if_neg h6, yes ⟨hp, h1.1, h1.2.1, h1.2.2, by omega, h3, fun q => absurd q h4, fun q => absurd q h6⟩]
  · rw [if_neg h1, if_pos rfl, no (fun q => h1 ⟨q.2.1, q.2.2.1, q.2.2.2.1⟩)]
/-- the law in force, as the reference has it -/
def LWX (J : IMem) (k : Nat) (law : List LRec) : Prop := k < 4 ∧ J 1 6 = k ∧ LOK k law ∧ LX 1 k law J
/-- what is compared: how often passed, or the worth -/
def vF (J : IMem) (by1 : Bool) (k : Nat) (law : List LRec) (s : Nat) : Int := if by1 then J 1 (140 + 6 * s + 5) else lval k (WF J (s / 40) (s % 40) (J 0 30) (J 0 31)) law
def loF (J : IMem) (by1 : Bool) : Int := if by1 then J 1 5 - 1 else 0
/-- the reference's two values against the fold's -/
def ST2 (s : Int × Int) (w2 w3 lo : Int) : Prop := w2 = s.1 ∧ (w2 = -1 → s.2 = lo) ∧ (w2 ≠ -1 → w3 = s.2 ∧ lo < s.2)
theorem wf_same {J J' : IMem} (h : ∀ q j, q ≠ 7 → q ≠ 8 → J' q j = J q j) (l p : Nat) (a c : Int) : WF J' l p a c = WF J l p a c := by
  funext y
  unfold WF
  rw [h 1 _ (by decide) (by decide), h 1 _ (by decide) (by decide), h 1 _ (by decide) (by decide), h 1 _ (by decide) (by decide), h 1 _ (by decide) (by decide)]
theorem lwx_same {J J' : IMem} {k : Nat} {law : List LRec} (h : LWX J k law) (g : ∀ j, (j = 6 ∨ (1580 ≤ j ∧ j < 6010)) → J' 1 j = J 1 j) : LWX J' k law :=
  ⟨h.1, (g 6 (Or.inl rfl)).trans h.2.1, h.2.2.1, lx_mv (by have := h.1; omega) h.2.2.1 h.2.2.2 (fun j a c => g j (Or.inr ⟨a, c⟩))⟩
section
variable {fu : Nat} {Q : Int → IMem → Prop}
theorem xv_find17 (by1 : Bool) (b : Int) (hb : b = if by1 then 1 else 0) (kk : Int → Int → IMem → Res) (J0 : IMem) {k : Nat} {law : List LRec} (hw : LWX J0 k law) {l : Nat} (hl : l < 6) (hc : 0 ≤ J0 1 (130 + l) ∧ J0 1 (130 + l) ≤ 40) (hbd : inr (J0 1 5)) : ∀ (m p : Nat) (w2 w3 : Int) (J : IMem), (∀ q j, q ≠ 7 → q ≠ 8 → J q j = J0 q j) → (p : Int) ≤ J0 1 (130 + l) → ST2 (amF (eF J0) (vF J0 by1 k law) (loF J0 by1) (40 * l + p)) w2 w3 (loF J0 by1) →
    (∀ (w2 w3 : Int) (J' : IMem), (∀ q j, q ≠ 7 → q ≠ 8 → J' q j = J0 q j) → ST2 (amF (eF J0) (vF J0 by1 k law) (loF J0 by1) (40 * (l + 1))) w2 w3 (loF J0 by1) → par (kk w2 w3 J') Q) → par (f_X_finds_17 fu kk 0 b (l : Int) m w2 w3 (p : Int) J) Q := by
  intro m
  induction m with
  | zero => intro _ _ _ _ _ _ _ _; exact par_none
  | succ m ih =>
    intro p w2 w3 J hJ hp hs hk
    show par (fb_X_finds_17 fu kk 0 b (l : Int) (f_X_finds_17 fu kk 0 b (l : Int) m) w2 w3 (p : Int) J) Q
    unfold fb_X_finds_17
    have w1 : wr32 (130 + (l : Int)) = ((130 + l : Nat) : Int) := by rw [wr32_i2 (by omega) (by omega)]; omega
    have hm : J 1 (130 + l) = J0 1 (130 + l) := hJ _ _ (by decide) (by decide)
    simp only [zl_e, zj_e]
    rw [w1]
    refine par_zg (fun _ => ?_)
    show par (if (p : Int) < J 1 (130 + l) then _ else _) _
    rw [hm]
    by_cases hpc : (p : Int) < J0 1 (130 + l)
    · rw [if_pos hpc]
      have hp4 : p < 40 := by omega
      have wn : wr32 ((p : Int) + 1) = ((p + 1 : Nat) : Int) := by rw [wr32_i2 (by omega) (by omega)]; rfl
      have wk : wr32 (wr32 (40 * (l : Int)) + (p : Int)) = ((40 * l + p : Nat) : Int) := by rw [wr32_i2 (x := 40 * (l : Int)) (by omega) (by omega), wr32_i2 (by omega) (by omega)]; omega
      rw [ev_xfits fu l p J hl (by rw [hm]; exact hpc) hp4, zb_zr, ef_same hJ, wn, wk]
      have stp : amF (eF J0) (vF J0 by1 k law) (loF J0 by1) (40 * l + (p + 1)) = if eF J0 (40 * l + p) = true ∧ (amF (eF J0) (vF J0 by1 k law) (loF J0 by1) (40 * l + p)).2 < vF J0 by1 k law (40 * l + p) then (((40 * l + p : Nat) : Int), vF J0 by1 k law (40 * l + p)) else amF (eF J0) (vF J0 by1 k law) (loF J0 by1) (40 * l + p) := rfl
      have skip : ∀ J' : IMem, (∀ q j, q ≠ 7 → q ≠ 8 → J' q j = J0 q j) → ¬ (eF J0 (40 * l + p) = true ∧ (amF (eF J0) (vF J0 by1 k law) (loF J0 by1) (40 * l + p)).2 < vF J0 by1 k law (40 * l + p)) → par (f_X_finds_17 fu kk 0 b (l : Int) m w2 w3 ((p + 1 : Nat) : Int) J') Q := by
        intro J' h1 h2
        rw [if_neg h2] at stp
        exact ih (p + 1) w2 w3 J' h1 (by omega) (by rw [stp]; exact hs) hk
      have take : ∀ (J' : IMem) (v : Int), (∀ q j, q ≠ 7 → q ≠ 8 → J' q j = J0 q j) → v = vF J0 by1 k law (40 * l + p) → eF J0 (40 * l + p) = true → (amF (eF J0) (vF J0 by1 k law) (loF J0 by1) (40 * l + p)).2 < v → loF J0 by1 < v → par (f_X_finds_17 fu kk 0 b (l : Int) m ((40 * l + p : Nat) : Int) v ((p + 1 : Nat) : Int) J') Q := by
        intro J' v h1 hv h2 h3 h4
        rw [if_pos ⟨h2, by rw [← hv]; exact h3⟩] at stp
        refine ih (p + 1) _ v J' h1 (by omega) ?_ hk
        rw [stp]
        exact ⟨rfl, fun q => by omega, fun _ => ⟨hv, by rw [← hv]; exact h4⟩⟩
      by_cases he : eF J0 (40 * l + p) = true
      · rw [if_pos he, if_neg (by decide)]
        obtain ⟨s1, s2, s3⟩ := hs
        -- behind the value
        have dec : ∀ (J' : IMem) (v : Int), (∀ q j, q ≠ 7 → q ≠ 8 → J' q j = J0 q j) → v = vF J0 by1 k law (40 * l + p) → loF J0 by1 < v → par (if w2 = -1 then f_X_finds_17 fu kk 0 b (l : Int) m ((40 * l + p : Nat) : Int) v ((p + 1 : Nat) : Int) J' else if w3 < v then f_X_finds_17 fu kk 0 b (l : Int) m ((40 * l + p : Nat) : Int) v ((p + 1 : Nat) : Int) J' else f_X_finds_17 fu kk 0 b (l : Int) m w2 w3 ((p + 1 : Nat) : Int) J') Q := by
          intro J' v h1 hv h4
          refine par_ite (fun q => take J' v h1 hv he (by rw [s2 q]; exact h4) h4) (fun q => par_ite (fun q2 => take J' v h1 hv he (by rw [← (s3 q).1]; exact q2) h4) (fun q2 => skip J' h1 (fun z => by rw [← hv, ← (s3 q).1] at z; exact q2 z.2)))
        cases by1 with
        | false =>
          have hb0 : b = 0 := hb
          rw [if_pos hb0]
          have h30 : J 0 30 = J0 0 30 := hJ _ _ (by decide) (by decide)
          have h31 : J 0 31 = J0 0 31 := hJ _ _ (by decide) (by decide)
          have hw' := lwx_same (J' := J) hw (fun j _ => hJ _ _ (by decide) (by decide))
          refine par_zb (xv_worth (fu := fu) hl (by rw [hm]; exact hpc) (by rw [hm]; exact hc.2) hw'.1 hw'.2.1 hw'.2.2.1 hw'.2.2.2) (fun v J1 ⟨g1, g2⟩ => ?_)
          have hJ1 : ∀ q j, q ≠ 7 → q ≠ 8 → J1 q j = J0 q j := fun q j a c => (g2 q j a c).trans (hJ q j a c)
          have hv : v = vF J0 false k law (40 * l + p) := by
            rw [g1]
            show _ = lval k (WF J0 ((40 * l + p) / 40) ((40 * l + p) % 40) (J0 0 30) (J0 0 31)) law
            rw [show (40 * l + p) / 40 = l by omega, show (40 * l + p) % 40 = p by omega, wf_same hJ, h30, h31]
          rw [if_pos hb0]
          refine par_ite (fun q => skip J1 hJ1 (fun z => ?_)) (fun q => dec J1 v hJ1 hv (by show (0 : Int) < v; omega))
          have z2 := z.2
          rw [← hv] at z2
          by_cases hw2 : w2 = -1
          · rw [s2 hw2] at z2; have : loF J0 false = 0 := rfl; omega
          · have := (s3 hw2).2; have h0 : loF J0 false = 0 := rfl; omega
        | true =>
          have hb1 : b = 1 := hb
          rw [if_neg (by omega), ev_of5 fu 0 l p J hl hp4, zb_zr, if_neg (by omega)]
          have hv : J (0 + 1) (140 + 6 * (40 * l + p) + 5) = vF J0 true k law (40 * l + p) := hJ _ _ (by decide) (by decide)
          have h5 : J (0 + 1) 5 = J0 1 5 := hJ _ _ (by decide) (by decide)
          rw [h5]
          have hlo : loF J0 true = J0 1 5 - 1 := rfl
          refine par_ite (fun q => skip J hJ (fun z => ?_)) (fun q => dec J _ hJ hv (by rw [hlo]; omega))
          have z2 := z.2
          rw [← hv] at z2
          by_cases hw2 : w2 = -1
          · rw [s2 hw2] at z2; omega
          · have := (s3 hw2).2; omega
      · rw [if_neg he, if_pos rfl]
        exact skip J hJ (fun z => he z.1)
    · rw [if_neg hpc]
      refine hk w2 w3 J hJ ?_
      have g : amF (eF J0) (vF J0 by1 k law) (loF J0 by1) (40 * (l + 1)) = amF (eF J0) (vF J0 by1 k law) (loF J0 by1) (40 * l + p) := by
        refine amF_gap (40 * (l + 1)) (by omega) (fun s h1 h2 => ?_)
        obtain ⟨p', hp', rfl⟩ : ∃ p', p' < 40 ∧ s = 40 * l + p' := ⟨s - 40 * l, by omega, by omega⟩
        cases h : eF J0 (40 * l + p') with
        | false => rfl
        | true => have := ((ef_iff J0 hp').mp h).1; omega
      rw [g]; exact hs
theorem xv_find7 (by1 : Bool) (b : Int) (hb : b = if by1 then 1 else 0) (J0 : IMem) {k : Nat} {law : List LRec} (hw : LWX J0 k law) (hc : ∀ l, l < 6 → 0 ≤ J0 1 (130 + l) ∧ J0 1 (130 + l) ≤ 40) (hbd : inr (J0 1 5)) : ∀ (m l : Nat) (w2 w3 : Int) (J : IMem), l ≤ 6 → (∀ q j, q ≠ 7 → q ≠ 8 → J q j = J0 q j) → ST2 (amF (eF J0) (vF J0 by1 k law) (loF J0 by1) (40 * l)) w2 w3 (loF J0 by1) → par (f_X_finds_7 fu 0 b m w2 w3 (l : Int) J) (fun y J' => y = (amF (eF J0) (vF J0 by1 k law) (loF J0 by1) 240).1 ∧ ∀ q j, q ≠ 7 → q ≠ 8 → J' q j = J0 q j) := by
  intro m
  induction m with
  | zero => intro _ _ _ _ _ _ _; exact par_none
  | succ m ih =>
    intro l w2 w3 J hl hJ hs
    show par (fb_X_finds_7 fu 0 b (f_X_finds_7 fu 0 b m) w2 w3 (l : Int) J) _
    unfold fb_X_finds_7
    by_cases h6 : l < 6
    · rw [if_pos (by omega)]
      refine xv_find17 by1 b hb _ J0 hw h6 (hc l h6) hbd fu 0 w2 w3 J hJ (hc l h6).1 hs (fun w2' w3' J' h1 h2 => ?_)
      simp only [zl_e]
      have wn : wr32 ((l : Int) + 1) = ((l + 1 : Nat) : Int) := by rw [wr32_i2 (by omega) (by omega)]; rfl
      rw [wn]
      exact ih (l + 1) w2' w3' J' h6 h1 h2
    · rw [if_neg (by omega)]
      have : l = 6 := by omega
      subst this
      exact par_zr ⟨hs.1, hJ⟩
theorem xv_finds (by1 : Bool) (b : Int) (hb : b = if by1 then 1 else 0) (J : IMem) {k : Nat} {law : List LRec} (hw : LWX J k law) (hc : ∀ l, l < 6 → 0 ≤ J 1 (130 + l) ∧ J 1 (130 + l) ≤ 40) (hbd : inr (J 1 5)) : par (f_X_finds fu 0 b J) (fun y J' => y = (amF (eF J) (vF J by1 k law) (loF J by1) 240).1 ∧ ∀ q j, q ≠ 7 → q ≠ 8 → J' q j = J q j) :=
  xv_find7 by1 b hb J hw hc hbd fu 0 (-1) 0 J (by decide) (fun _ _ _ _ => rfl) ⟨rfl, fun _ => rfl, fun q => absurd rfl q⟩
end
/-! what is seen, who is found: the class -/
def SN (c s : Nat → Int) (lg : Int) (k : Nat) : Prop := ((k % 40 : Nat) : Int) < c (k / 40) ∧ ((k % 40 : Nat) : Int) < s (k / 40) + (if ((k / 40 : Nat) : Int) = lg then 1 else 0)
/-- the spots below K that are seen, in their order -/
def SLI (a c s : Nat → Int) (lg : Int) (K n : Nat) : Prop := (∀ i, i < n → ∃ k : Nat, k < K ∧ a i = (k : Int) ∧ SN c s lg k) ∧ (∀ i j, i < j → j < n → a i < a j) ∧ ∀ k, k < K → SN c s lg k → ∃ i, i < n ∧ a i = (k : Int)
section
variable {fu : Nat} {Q : Int → IMem → Prop}
theorem cv_seen46 (kk : Int → IMem → Res) (o o1 : Nat) (p2 : Int) (c s : Nat → Int) {l : Nat} (hl : l < 6) (hc : 0 ≤ c l ∧ c l ≤ 40) (hs : 0 ≤ s l + (if (l : Int) = p2 then 1 else 0) ∧ s l + (if (l : Int) = p2 then 1 else 0) ≤ 24) (p5 : Int) (h5 : p5 = if s l + (if (l : Int) = p2 then 1 else 0) < c l then s l + (if (l : Int) = p2 then 1 else 0) else c l) (I0 : IMem) : ∀ (m n p : Nat) (I : IMem), (∀ q, q ≠ o1 → I q = I0 q) → (p : Int) ≤ p5 → n ≤ 24 * l + p → SLI (I o1) c s p2 (40 * l + p) n →
    (∀ (n : Nat) (I' : IMem), (∀ q, q ≠ o1 → I' q = I0 q) → n ≤ 24 * (l + 1) → SLI (I' o1) c s p2 (40 * (l + 1)) n → par (kk (n : Int) I') Q) → par (f_L_listSeen_46 fu kk o o1 144 p2 (l : Int) p5 m (n : Int) (p : Int) I) Q := by
  intro m
  induction m with
  | zero => intro _ _ _ _ _ _ _ _; exact par_none
  | succ m ih =>
    intro n p I hI hp hn hS hk
    show par (fb_L_listSeen_46 fu kk o o1 144 p2 (l : Int) p5 (f_L_listSeen_46 fu kk o o1 144 p2 (l : Int) p5 m) (n : Int) (p : Int) I) Q
    unfold fb_L_listSeen_46
    have d5 : p5 ≤ 24 ∧ p5 ≤ c l ∧ p5 ≤ s l + (if (l : Int) = p2 then 1 else 0) := by
      rw [h5]
      split <;> omega
    have e5 : p5 = c l ∨ p5 = s l + (if (l : Int) = p2 then 1 else 0) := by
      rw [h5]
      split
      · exact Or.inr rfl
      · exact Or.inl rfl
    by_cases h : (p : Int) < p5
    · rw [if_pos h]
      simp only [zl_e, zj_e]
      rw [if_pos (by omega)]
      have w1 : wr32 (wr32 ((l : Int) * 40) + (p : Int)) = ((40 * l + p : Nat) : Int) := by rw [wr32_i2 (x := (l : Int) * 40) (by omega) (by omega), wr32_i2 (by omega) (by omega)]; omega
      have w2 : wr32 ((n : Int) + 1) = ((n + 1 : Nat) : Int) := by rw [wr32_i2 (by omega) (by omega)]; rfl
      have w3 : wr32 ((p : Int) + 1) = ((p + 1 : Nat) : Int) := by rw [wr32_i2 (by omega) (by omega)]; rfl
      rw [w1, w2, w3]
      refine par_zg (fun _ => par_zw' (fun I1 e1 => ?_))
      rw [show ((n : Nat) : Int).toNat = n from rfl] at e1
      have a1 : ∀ i, I1 o1 i = if i = n then ((40 * l + p : Nat) : Int) else I o1 i := by
        intro i
        rw [e1]
        by_cases q : i = n
        · rw [if_pos ⟨rfl, q⟩, if_pos q]
        · rw [if_neg (fun z => q z.2), if_neg q]
      obtain ⟨s1, s2, s3⟩ := hS
      refine ih (n + 1) (p + 1) I1 (fun q hq => ?_) (by omega) (by omega) ⟨fun i hi => ?_, fun i j hij hj => ?_, fun k hk1 hk2 => ?_⟩ hk
      · rw [← hI q hq]; funext i; rw [e1, if_neg (fun z => hq z.1)]
      · rw [a1]
        by_cases q : i = n
        · rw [if_pos q]
          refine ⟨40 * l + p, by omega, rfl, ?_⟩
          unfold SN
          rw [show (40 * l + p) % 40 = p by omega, show (40 * l + p) / 40 = l by omega]
          exact ⟨by omega, by omega⟩
        · rw [if_neg q]
          obtain ⟨k, k1, k2, k3⟩ := s1 i (by omega)
          exact ⟨k, by omega, k2, k3⟩
      · rw [a1, a1, if_neg (by omega)]
        by_cases q : j = n
        · rw [if_pos q]
          obtain ⟨k, k1, k2, k3⟩ := s1 i (by omega)
          omega
        · rw [if_neg q]; exact s2 i j hij (by omega)
      · by_cases q : k = 40 * l + p
        · exact ⟨n, by omega, by rw [a1, if_pos rfl, q]⟩
        · obtain ⟨i, i1, i2⟩ := s3 k (by omega) hk2
          exact ⟨i, by omega, by rw [a1, if_neg (by omega)]; exact i2⟩
    · rw [if_neg h]
      obtain ⟨s1, s2, s3⟩ := hS
      refine hk n I hI (by omega) ⟨fun i hi => ?_, s2, fun k hk1 hk2 => ?_⟩
      · obtain ⟨k, k1, k2, k3⟩ := s1 i hi
        exact ⟨k, by omega, k2, k3⟩
      · by_cases q : k < 40 * l + p
        · exact s3 k q hk2
        · exfalso
          obtain ⟨p', hp', rfl⟩ : ∃ p', p' < 40 ∧ k = 40 * l + p' := ⟨k - 40 * l, by omega, by omega⟩
          unfold SN at hk2
          rw [show (40 * l + p') % 40 = p' by omega, show (40 * l + p') / 40 = l by omega] at hk2
          omega
theorem cv_seen5 (o o1 : Nat) (p2 : Int) (h1 : o1 ≠ o + 2 ∧ o1 ≠ o + 3) (I0 : IMem) (hc : ∀ l, l < 6 → 0 ≤ I0 (o + 2) l ∧ I0 (o + 2) l ≤ 40) (hs : ∀ l : Nat, l < 6 → 0 ≤ I0 (o + 3) l + (if (l : Int) = p2 then 1 else 0) ∧ I0 (o + 3) l + (if (l : Int) = p2 then 1 else 0) ≤ 24) : ∀ (m n l : Nat) (I : IMem), (∀ q, q ≠ o1 → I q = I0 q) → l ≤ 6 → n ≤ 24 * l → SLI (I o1) (I0 (o + 2)) (I0 (o + 3)) p2 (40 * l) n → par (f_L_listSeen_5 fu o o1 144 p2 m (n : Int) (l : Int) I) (fun v I' => ∃ n : Nat, v = n ∧ n ≤ 144 ∧ SLI (I' o1) (I0 (o + 2)) (I0 (o + 3)) p2 240 n ∧ ∀ q, q ≠ o1 → I' q = I0 q) := by
  intro m
  induction m with
  | zero => intro _ _ _ _ _ _ _; exact par_none
  | succ m ih =>
    intro n l I hI hl hn hS
    show par (fb_L_listSeen_5 fu o o1 144 p2 (f_L_listSeen_5 fu o o1 144 p2 m) (n : Int) (l : Int) I) _
    unfold fb_L_listSeen_5
    by_cases h6 : l < 6
    · rw [if_pos (by omega)]
      refine par_zg (fun _ => par_zg (fun _ => ?_))
      have g : ∀ x : Int, x = (if (l : Int) = p2 then 1 else 0) → par (zb (f_JM_min fu (I (o + 2) (l : Int).toNat) (wr32 ((I (o + 3) (l : Int).toNat) + x)) I) fun y4 I5 => f_L_listSeen_46 fu (fun (x14 : Int) (I13 : IMem) => zl (wr32 ((l : Int) + 1)) fun x15 => f_L_listSeen_5 fu o o1 144 p2 m x14 x15 I13) o o1 144 p2 (l : Int) y4 fu (n : Int) 0 I5) (fun v I' => ∃ n : Nat, v = n ∧ n ≤ 144 ∧ SLI (I' o1) (I0 (o + 2)) (I0 (o + 3)) p2 240 n ∧ ∀ q, q ≠ o1 → I' q = I0 q) := by
        intro x hx
        rw [ev_min, zb_zr, show ((l : Nat) : Int).toNat = l from rfl, hI _ (fun z => h1.1 z.symm), hI _ (fun z => h1.2 z.symm)]
        have a1 := hc l h6
        have a2 := hs l h6
        rw [← hx] at a2
        rw [wr32_i2 (x := I0 (o + 3) l + x) (by omega) (by omega)]
        refine cv_seen46 _ o o1 p2 (I0 (o + 2)) (I0 (o + 3)) h6 a1 (by rw [← hx]; exact a2) _ (by rw [← hx]) I0 fu n 0 I hI ?_ (by omega) hS (fun n' I' f1 f2 f3 => ?_)
        · split <;> omega
        · simp only [zl_e]
          have wn : wr32 ((l : Int) + 1) = ((l + 1 : Nat) : Int) := by rw [wr32_i2 (by omega) (by omega)]; rfl
          rw [wn]
          exact ih n' (l + 1) I' f1 h6 f2 f3
      simp only [zj_e]
      refine par_ite (fun q => ?_) (fun q => ?_)
      · exact g 1 (by rw [if_pos q])
      · exact g 0 (by rw [if_neg q])
    · rw [if_neg (by omega)]
      have : l = 6 := by omega
      subst this
      exact par_zr ⟨n, rfl, hn, hS, hI⟩
theorem cv_seen (o o1 : Nat) (p2 : Int) (h1 : o1 ≠ o + 2 ∧ o1 ≠ o + 3) (I : IMem) (hc : ∀ l, l < 6 → 0 ≤ I (o + 2) l ∧ I (o + 2) l ≤ 40) (hs : ∀ l : Nat, l < 6 → 0 ≤ I (o + 3) l + (if (l : Int) = p2 then 1 else 0) ∧ I (o + 3) l + (if (l : Int) = p2 then 1 else 0) ≤ 24) : par (f_L_listSeen fu o o1 144 p2 I) (fun v I' => ∃ n : Nat, v = n ∧ n ≤ 144 ∧ SLI (I' o1) (I (o + 2)) (I (o + 3)) p2 240 n ∧ ∀ q, q ≠ o1 → I' q = I q) :=
  cv_seen5 o o1 p2 h1 I hc hs fu 0 0 I (fun _ _ => rfl) (by decide) (by decide) ⟨fun i hi => absurd hi (Nat.not_lt_zero _), fun i j _ hj => absurd hj (Nat.not_lt_zero _), fun k hk => absurd hk (Nat.not_lt_zero _)⟩
theorem ev_cstands (fu oc k : Nat) (I : IMem) (hk : k < 240) : f_C_stands fu oc (k : Int) I = zr (if I (oc + 1) k = 0 then 1 else 0) I := by
  unfold f_C_stands
  rw [if_neg (by omega), if_pos (by omega), zg_t (by omega)]
  show (if I (oc + 1) k = 0 then _ else _) = _
  by_cases h : I (oc + 1) k = 0
  · rw [if_pos h, if_pos h]
  · rw [if_neg h, if_neg h]
theorem ev_cfits (fu oc hb k : Nat) (I : IMem) (hk : k < 240) : f_C_fits fu oc hb (k : Int) I = zr (if I (oc + 1) k = 0 ∧ I oc 10 = 0 ∧ I (hb + 7) (6 * k + 2) ≤ I oc 7 ∧ (I (hb + 7) (6 * k + 3) = 1 → I oc 11 ≠ 0) ∧ (I (hb + 7) (6 * k + 3) = 2 → I oc 8 = 0) then 1 else 0) I := by
  unfold f_C_fits
  rw [ev_cstands fu oc k I hk, zb_zr]
  by_cases h1 : I (oc + 1) k = 0
  · rw [if_pos h1, if_neg (by decide)]
    by_cases h2 : I oc 10 = 0
    · rw [if_pos h2, ev_get2 fu (hb + 6) k I hk, zb_zr]
      show (if I oc 7 < I (hb + 7) (6 * k + 2) then _ else _) = _
      by_cases h3 : I oc 7 < I (hb + 7) (6 * k + 2)
      · rw [if_pos h3, if_neg (fun q => by have := q.2.2.1; omega)]
      · rw [if_neg h3, ev_get3 fu (hb + 6) k I hk, zb_zr]
        simp only [zj_e]
        show (if I (hb + 7) (6 * k + 3) = 1 then (if I oc 11 = 0 then _ else (if I (hb + 7) (6 * k + 3) = 2 then _ else _)) else (if I (hb + 7) (6 * k + 3) = 2 then _ else _)) = _
        by_cases h4 : I (hb + 7) (6 * k + 3) = 1
        · rw [if_pos h4]
          by_cases h5 : I oc 11 = 0
          · rw [if_pos h5, if_neg (fun q => q.2.2.2.1 h4 h5)]
          · rw [if_neg h5, if_neg (by omega), if_pos ⟨h1, h2, by omega, fun _ => h5, fun q => by omega⟩]
        · rw [if_neg h4]
          by_cases h6 : I (hb + 7) (6 * k + 3) = 2
          · rw [if_pos h6]
            by_cases h5 : I oc 8 = 0
            · rw [if_pos h5, if_pos ⟨h1, h2, by omega, fun q => absurd q h4, fun _ => h5⟩]
            · rw [if_neg h5, if_neg (fun q => h5 (q.2.2.2.2 h6))]
          · rw [if_neg h6, if_pos ⟨h1, h2, by omega, fun q => absurd q h4, fun q => absurd q h6⟩]
    · rw [if_neg h2, if_neg (fun q => h2 q.2.1)]
  · rw [if_neg h1, if_pos rfl, if_neg (fun q => h1 q.1)]
/-- the spot at which the i-th turn of the class's loop looks -/
def nxS (a : Nat → Int) (n i : Nat) : Nat := if i < n then (a i).toNat else 240
theorem nxS_0 {a c s : Nat → Int} {lg : Int} {n : Nat} (h : SLI a c s lg 240 n) {e : Nat → Bool} (he : ∀ k, k < 240 → e k = true → SN c s lg k) (v : Nat → Int) (lo : Int) : amF e v lo (nxS a n 0) = (-1, lo) := by
  have : amF e v lo (nxS a n 0) = amF e v lo 0 := by
    refine amF_gap _ (Nat.zero_le _) (fun k _ hk => ?_)
    cases hek : e k with
    | false => rfl
    | true =>
      exfalso
      unfold nxS at hk
      by_cases hn : 0 < n
      · rw [if_pos hn] at hk
        obtain ⟨k0, q1, q2, _⟩ := h.1 0 hn
        obtain ⟨i, i1, i2⟩ := h.2.2 k (by omega) (he k (by omega) hek)
        by_cases hi0 : i = 0
        · subst hi0; omega
        · have := h.2.1 0 i (by omega) i1; omega
      · rw [if_neg hn] at hk
        obtain ⟨i, i1, i2⟩ := h.2.2 k hk (he k hk hek)
        omega
  rw [this]; rfl
theorem nxS_s {a c s : Nat → Int} {lg : Int} {n i k : Nat} (h : SLI a c s lg 240 n) {e : Nat → Bool} (he : ∀ k, k < 240 → e k = true → SN c s lg k) (v : Nat → Int) (lo : Int) (hi : i < n) (hk : a i = (k : Int)) : amF e v lo (nxS a n (i + 1)) = if e k = true ∧ (amF e v lo (nxS a n i)).2 < v k then ((k : Int), v k) else amF e v lo (nxS a n i) := by
  have e0 : nxS a n i = k := by unfold nxS; rw [if_pos hi, hk]; rfl
  obtain ⟨k0, q1, q2, q3⟩ := h.1 i hi
  rw [e0]
  show _ = amF e v lo (k + 1)
  have hb : k + 1 ≤ nxS a n (i + 1) ∧ nxS a n (i + 1) ≤ 240 := by
    unfold nxS
    by_cases hn : i + 1 < n
    · rw [if_pos hn]
      have := h.2.1 i (i + 1) (by omega) hn
      obtain ⟨k1, p1, p2, _⟩ := h.1 (i + 1) hn
      omega
    · rw [if_neg hn]; omega
  refine amF_gap _ hb.1 (fun k2 h1 h2 => ?_)
  cases hek : e k2 with
  | false => rfl
  | true =>
    exfalso
    obtain ⟨i2, j1, j2⟩ := h.2.2 k2 (by omega) (he k2 (by omega) hek)
    have a1 : i < i2 := by
      rcases Nat.lt_trichotomy i i2 with x | x | x
      · exact x
      · subst x; omega
      · have := h.2.1 i2 i x hi; omega
    unfold nxS at h2
    by_cases hn : i + 1 < n
    · rw [if_pos hn] at h2
      obtain ⟨k1, p1, p2, _⟩ := h.1 (i + 1) hn
      by_cases hx : i2 = i + 1
      · subst hx; omega
      · have := h.2.1 (i + 1) i2 (by omega) j1; omega
    · omega
theorem nxS_n {a : Nat → Int} {n : Nat} : nxS a n n = 240 := by unfold nxS; rw [if_neg (Nat.lt_irrefl _)]
/-- the class's search by how often passed -/
theorem cv_most (oc hb : Nat) (I : IMem) {c s : Nat → Int} {n : Nat} (hn : n ≤ 144) (h5 : I oc 5 = n) (hS : SLI (I (oc + 5)) c s (-1) 240 n) {e : Nat → Bool} {v : Nat → Int} (he : ∀ k, k < 240 → e k = true → SN c s (-1) k) (hf : ∀ k, k < 240 → SN c s (-1) k → (e k = true ↔ (I (oc + 1) k = 0 ∧ I oc 10 = 0 ∧ I (hb + 7) (6 * k + 2) ≤ I oc 7 ∧ (I (hb + 7) (6 * k + 3) = 1 → I oc 11 ≠ 0) ∧ (I (hb + 7) (6 * k + 3) = 2 → I oc 8 = 0))) ∧ I (hb + 7) (6 * k + 5) = v k) (bd lo : Int) (hbd : 0 < bd) : ∀ (m i : Nat) (w3 w4 : Int), i ≤ n → amF e v lo (nxS (I (oc + 5)) n i) = (w4, w3) → par (f_C_mostPassed_17 fu oc hb bd m w3 w4 (i : Int) I) (fun x I' => I' = I ∧ x = (amF e v lo 240).1) := by
  intro m
  induction m with
  | zero => intro _ _ _ _ _; exact par_none
  | succ m ih =>
    intro i w3 w4 hi hw
    show par (fb_C_mostPassed_17 fu oc hb bd (f_C_mostPassed_17 fu oc hb bd m) w3 w4 (i : Int) I) _
    unfold fb_C_mostPassed_17
    rw [h5]
    by_cases hin : i < n
    · rw [if_pos (by omega), if_pos (by omega), if_pos hbd]
      refine par_zg (fun _ => ?_)
      obtain ⟨k, k1, k2, k3⟩ := hS.1 i hin
      have stp := nxS_s hS he v lo hin k2
      obtain ⟨f1, f2⟩ := hf k k1 k3
      simp only [zl_e, zj_e]
      have wn : wr32 ((i : Int) + 1) = ((i + 1 : Nat) : Int) := by rw [wr32_i2 (by omega) (by omega)]; rfl
      rw [show ((i : Nat) : Int).toNat = i from rfl, k2, ev_get5 fu (hb + 6) k I k1, zb_zr, wn]
      rw [hw] at stp
      have f2' : I (hb + 6 + 1) (6 * k + 5) = v k := f2
      rw [f2']
      refine par_ite (fun q => par_zg (fun _ => ?_)) (fun q => ?_)
      · rw [k2, ev_cfits fu oc hb k I k1, zb_zr]
        by_cases hek : e k = true
        · rw [if_pos (f1.mp hek), if_neg (by decide)]
          refine par_zg (fun _ => ?_)
          rw [k2]
          refine ih (i + 1) (v k) (k : Int) hin ?_
          rw [stp, if_pos ⟨hek, q⟩]
        · rw [if_neg (fun z => hek (f1.mpr z)), if_pos rfl]
          refine ih (i + 1) w3 w4 hin ?_
          rw [stp, if_neg (fun z => hek z.1)]
      · refine ih (i + 1) w3 w4 hin ?_
        rw [stp, if_neg (fun z => q z.2)]
    · rw [if_neg (by omega)]
      have : i = n := by omega
      subst this
      rw [nxS_n] at hw
      exact par_zr ⟨rfl, by rw [hw]⟩
end
/-! the class's search by worth -/
section
variable {fu : Nat}
theorem cv_worthy (oc hb kl : Nat) (hd : hb + 40 ≤ oc) (hkl : kl < 4) (I0 J : IMem) {law : List LRec} (hL : HL hb 1 I0 J) (ho : LOK kl law) (hlc : LC (hb + 15 + 5 * kl) kl law I0) {n : Nat} (hn : n ≤ 144) (h5 : I0 oc 5 = n) (hS : SLI (I0 (oc + 5)) (I0 (hb + 8)) (I0 (hb + 9)) (-1) 240 n) {e : Nat → Bool} {v : Nat → Int} (he : ∀ k, k < 240 → e k = true → SN (I0 (hb + 8)) (I0 (hb + 9)) (-1) k) (hf : ∀ k, k < 240 → SN (I0 (hb + 8)) (I0 (hb + 9)) (-1) k → (e k = true ↔ (I0 (oc + 1) k = 0 ∧ I0 oc 10 = 0 ∧ I0 (hb + 7) (6 * k + 2) ≤ I0 oc 7 ∧ (I0 (hb + 7) (6 * k + 3) = 1 → I0 oc 11 ≠ 0) ∧ (I0 (hb + 7) (6 * k + 3) = 2 → I0 oc 8 = 0)))) (hv : ∀ k, k < 240 → v k = lval kl (WF J (k / 40) (k % 40) (I0 oc 7) (I0 oc 8)) law) (p2 : Int)
    (hp2 : p2 = 0 → ∀ i k, i < n → I0 (oc + 5) i = ((k : Nat) : Int) → e k = true → I0 (oc + 6) i = v k) : ∀ (m i : Nat) (w4 w5 : Int) (I : IMem), i ≤ n → (∀ q j, q ≠ hb + 13 → q ≠ hb + 15 + 5 * kl + 4 → q ≠ oc + 6 → I q j = I0 q j) → (∀ i' k, (i' < i ∨ p2 = 0) → i' < n → I0 (oc + 5) i' = ((k : Nat) : Int) → e k = true → I (oc + 6) i' = v k) → amF e v 0 (nxS (I0 (oc + 5)) n i) = (w5, w4) → par (f_C_worthiest_14 fu oc hb p2 (hb + 15 + 5 * kl) m w4 w5 (i : Int) I) (fun x I' => x = (amF e v 0 240).1 ∧ (∀ q j, q ≠ hb + 13 → q ≠ hb + 15 + 5 * kl + 4 → q ≠ oc + 6 → I' q j = I0 q j) ∧ ∀ i k, i < n → I0 (oc + 5) i = ((k : Nat) : Int) → e k = true → I' (oc + 6) i = v k) := by
  intro m
  induction m with
  | zero => intro _ _ _ _ _ _ _ _; exact par_none
  | succ m ih =>
    intro i w4 w5 I hi hI hwo hw
    show par (fb_C_worthiest_14 fu oc hb p2 (hb + 15 + 5 * kl) (f_C_worthiest_14 fu oc hb p2 (hb + 15 + 5 * kl) m) w4 w5 (i : Int) I) _
    unfold fb_C_worthiest_14
    have g5 : I oc 5 = n := (hI _ _ (by omega) (by omega) (by omega)).trans h5
    have ga : ∀ j, I (oc + 5) j = I0 (oc + 5) j := fun j => hI _ _ (by omega) (by omega) (by omega)
    rw [g5]
    by_cases hin : i < n
    · rw [if_pos (by omega), if_pos (by omega)]
      refine par_zg (fun _ => ?_)
      obtain ⟨k, k1, k2, k3⟩ := hS.1 i hin
      have stp := nxS_s hS he v 0 hin k2
      have f1 := hf k k1 k3
      rw [hw] at stp
      have wn : wr32 ((i : Int) + 1) = ((i + 1 : Nat) : Int) := by rw [wr32_i2 (by omega) (by omega)]; rfl
      simp only [zl_e, zj_e]
      rw [show ((i : Nat) : Int).toNat = i from rfl, ga, k2, ev_cfits fu oc hb k I k1, zb_zr, wn]
      have t1 : I (oc + 1) k = I0 (oc + 1) k := hI _ _ (by omega) (by omega) (by omega)
      have t2 : ∀ j, I oc j = I0 oc j := fun j => hI _ _ (by omega) (by omega) (by omega)
      have t3 : ∀ j, I (hb + 7) j = I0 (hb + 7) j := fun j => hI _ _ (by omega) (by omega) (by omega)
      rw [t1, t2, t2, t2, t2, t3, t3]
      have skip : ∀ I1 : IMem, (∀ q j, q ≠ hb + 13 → q ≠ hb + 15 + 5 * kl + 4 → q ≠ oc + 6 → I1 q j = I0 q j) → (∀ i' k, (i' < i + 1 ∨ p2 = 0) → i' < n → I0 (oc + 5) i' = ((k : Nat) : Int) → e k = true → I1 (oc + 6) i' = v k) → ¬ (e k = true ∧ w4 < v k) → par (f_C_worthiest_14 fu oc hb p2 (hb + 15 + 5 * kl) m w4 w5 ((i + 1 : Nat) : Int) I1) (fun x I' => x = (amF e v 0 240).1 ∧ (∀ q j, q ≠ hb + 13 → q ≠ hb + 15 + 5 * kl + 4 → q ≠ oc + 6 → I' q j = I0 q j) ∧ ∀ i k, i < n → I0 (oc + 5) i = ((k : Nat) : Int) → e k = true → I' (oc + 6) i = v k) := fun I1 a b z => ih (i + 1) w4 w5 I1 hin a b (by rw [stp, if_neg z])
      by_cases hek : e k = true
      · rw [if_pos (f1.mp hek), if_neg (by decide)]
        -- with the worth in its place
        have dec : ∀ I1 : IMem, (∀ q j, q ≠ hb + 13 → q ≠ hb + 15 + 5 * kl + 4 → q ≠ oc + 6 → I1 q j = I0 q j) → (∀ i' k, (i' < i + 1 ∨ p2 = 0) → i' < n → I0 (oc + 5) i' = ((k : Nat) : Int) → e k = true → I1 (oc + 6) i' = v k) → par (zg (0 ≤ (i : Int) ∧ (i : Int) < 144) (if w4 < I1 (oc + 6) i then zg (0 ≤ (i : Int) ∧ (i : Int) < 144) (zg (0 ≤ (i : Int) ∧ (i : Int) < 144) (f_C_worthiest_14 fu oc hb p2 (hb + 15 + 5 * kl) m (I1 (oc + 6) i) (I1 (oc + 5) i) ((i + 1 : Nat) : Int) I1)) else f_C_worthiest_14 fu oc hb p2 (hb + 15 + 5 * kl) m w4 w5 ((i + 1 : Nat) : Int) I1)) (fun x I' => x = (amF e v 0 240).1 ∧ (∀ q j, q ≠ hb + 13 → q ≠ hb + 15 + 5 * kl + 4 → q ≠ oc + 6 → I' q j = I0 q j) ∧ ∀ i k, i < n → I0 (oc + 5) i = ((k : Nat) : Int) → e k = true → I' (oc + 6) i = v k) := by
          intro I1 a b
          have ew : I1 (oc + 6) i = v k := b i k (Or.inl (by omega)) hin k2 hek
          have es : I1 (oc + 5) i = (k : Int) := (a _ _ (by omega) (by omega) (by omega)).trans k2
          rw [ew, es]
          refine par_zg (fun _ => par_ite (fun q => par_zg (fun _ => par_zg (fun _ => ih (i + 1) (v k) (k : Int) I1 hin a b (by rw [stp, if_pos ⟨hek, q⟩])))) (fun q => skip I1 a b (fun z => q z.2)))
        refine par_ite (fun q => ?_) (fun q => ?_)
        · exact dec I hI (fun i' k' hh => hwo i' k' (Or.inr q))
        · refine par_zg (fun _ => ?_)
          have kc : (((k % 40 : Nat) : Int) < J 1 (130 + k / 40)) := by
            have := k3.1
            rw [(hl_c hL (by omega)).1] at this
            exact this
          have hL1 : HL hb 1 I J := hl_mv hL (fun j => ⟨t3 j, hI _ _ (by omega) (by omega) (by omega)⟩) (fun _ _ _ => rfl)
          have ek : (k : Nat) = 40 * (k / 40) + k % 40 := by omega
          have gw := cv_facts (fu := fu) (hb := hb) (l := k / 40) (p := k % 40) (left := I0 oc 7) (taken := I0 oc 8) (s := (kl : Int)) (I := I) (J := J) (by omega) hL1 (by omega) kc
          rw [← ek] at gw
          rw [ga, k2]
          refine par_zb gw (fun _ I1 ⟨g1, g2⟩ => ?_)
          have hlc1 : LC (hb + 15 + 5 * kl) kl law I1 := lc_mv hlc (fun d j hd => by rw [g1 _ _ (by omega)]; exact hI _ _ (by omega) (by omega) (by omega))
          refine par_zb (cv_value (F := WF J (k / 40) (k % 40) (I0 oc 7) (I0 oc 8)) (fun d hd => by omega) ho I1 hlc1 g2) (fun y I2 ⟨g3, g4⟩ => ?_)
          refine par_zg (fun _ => par_zw' (fun I3 e3 => ?_))
          rw [show ((i : Nat) : Int).toNat = i from rfl] at e3
          have hI3 : ∀ q j, q ≠ hb + 13 → q ≠ hb + 15 + 5 * kl + 4 → q ≠ oc + 6 → I3 q j = I0 q j := fun q j a b c => by rw [e3, if_neg (by omega), g4 _ _ (by omega), g1 _ _ a]; exact hI q j a b c
          refine dec I3 hI3 (fun i' k' hh hin' hk' hek' => ?_)
          rw [e3]
          by_cases q2 : i' = i
          · subst q2
            rw [if_pos ⟨rfl, rfl⟩, g3]
            have : k' = k := by omega
            subst this
            exact (hv k' k1).symm
          · rw [if_neg (fun z => q2 z.2), g4 _ _ (by omega), g1 _ _ (by omega)]
            exact hwo i' k' (by omega) hin' hk' hek'
      · rw [if_neg (fun z => hek (f1.mpr z)), if_pos rfl]
        refine skip I hI (fun i' k' hh hin' hk' hek' => ?_) (fun z => hek z.1)
        by_cases q2 : i' = i
        · subst q2
          have : k' = k := by omega
          subst this
          exact absurd hek' hek
        · exact hwo i' k' (by omega) hin' hk' hek'
    · rw [if_neg (by omega)]
      have : i = n := by omega
      subst this
      rw [nxS_n] at hw
      exact par_zr ⟨by rw [hw], hI, fun i' k' hi' hk' hek' => hwo i' k' (Or.inl hi') hi' hk' hek'⟩
end
/-! one sits, one is found out: both sides -/
section
variable {fu : Nat}
theorem cv_sit (oc k : Nat) (size sort mark : Int) (I : IMem) (hk : k < 240) (ht : 0 ≤ I oc 8 ∧ I oc 8 < 8) : par (f_C_sit fu oc (k : Int) size sort mark I) (fun _ I' => ∀ q j, I' q j = if q = oc ∧ j = 11 then (if I oc 11 = 0 then (if sort = 1 then 0 else 1) else 1) else if q = oc ∧ j = 10 then (if I oc 10 = 0 then (if sort = 2 then 1 else 0) else 1) else if q = oc ∧ j = 7 then wr32 (I oc 7 - size) else if q = oc ∧ j = 8 then I oc 8 + 1 else if q = oc + 3 ∧ j = (I oc 8).toNat then size else if q = oc + 2 ∧ j = (I oc 8).toNat then (k : Int) else if q = oc + 1 ∧ j = k then mark else I q j) := by
  unfold f_C_sit
  rw [if_neg (by omega), if_pos (by omega), if_neg (by omega), if_pos ht.2]
  refine par_zg (fun _ => par_zw' (fun I1 e1 => ?_))
  rw [show ((k : Nat) : Int).toNat = k from rfl] at e1
  have a1 : I1 oc 8 = I oc 8 := by rw [e1, if_neg (by omega)]
  simp only [zl_e]
  rw [a1]
  refine par_zg (fun _ => par_zw' (fun I2 e2 => ?_))
  have a2 : I2 oc 8 = I oc 8 := by rw [e2, if_neg (by omega), a1]
  rw [a2]
  refine par_zg (fun _ => par_zw' (fun I3 e3 => ?_))
  have a3 : I3 oc 8 = I oc 8 := by rw [e3, if_neg (by omega), a2]
  rw [a3, wr32_i2 (x := I oc 8 + 1) (by omega) (by omega)]
  refine par_zw' (fun I4 e4 => ?_)
  have a4 : I4 oc 7 = I oc 7 := by rw [e4, if_neg (by omega), e3, if_neg (by omega), e2, if_neg (by omega), e1, if_neg (by omega)]
  rw [a4]
  refine par_zw' (fun I5 e5 => ?_)
  have b5 : ∀ q j, I5 q j = if q = oc ∧ j = 7 then wr32 (I oc 7 - size) else if q = oc ∧ j = 8 then I oc 8 + 1 else if q = oc + 3 ∧ j = (I oc 8).toNat then size else if q = oc + 2 ∧ j = (I oc 8).toNat then (k : Int) else if q = oc + 1 ∧ j = k then mark else I q j := fun q j => by rw [e5, e4, e3, e2, e1]
  have a10 : I5 oc 10 = I oc 10 := by rw [b5, if_neg (by omega), if_neg (by omega), if_neg (by omega), if_neg (by omega), if_neg (by omega)]
  have a11 : I5 oc 11 = I oc 11 := by rw [b5, if_neg (by omega), if_neg (by omega), if_neg (by omega), if_neg (by omega), if_neg (by omega)]
  clear e5 e4 e3 e2 e1
  have last : ∀ (d : Int) (I6 : IMem), (∀ q j, I6 q j = if q = oc ∧ j = 10 then d else I5 q j) → d = (if I oc 10 = 0 then (if sort = 2 then 1 else 0) else 1) → ∀ c : Int, c = (if I oc 11 = 0 then (if sort = 1 then 0 else 1) else 1) → par (zg (c = 0 ∨ c = 1) (zw I6 oc 11 c fun I16 => zr 0 I16)) (fun _ I' => ∀ q j, I' q j = if q = oc ∧ j = 11 then (if I oc 11 = 0 then (if sort = 1 then 0 else 1) else 1) else if q = oc ∧ j = 10 then (if I oc 10 = 0 then (if sort = 2 then 1 else 0) else 1) else if q = oc ∧ j = 7 then wr32 (I oc 7 - size) else if q = oc ∧ j = 8 then I oc 8 + 1 else if q = oc + 3 ∧ j = (I oc 8).toNat then size else if q = oc + 2 ∧ j = (I oc 8).toNat then (k : Int) else if q = oc + 1 ∧ j = k then mark else I q j) := by
    intro d I6 e6 hd c hc
    refine par_zg (fun _ => par_zw' (fun I7 e7 => par_zr (fun q j => ?_)))
    rw [e7, e6, b5, hd, hc]
  have mid : ∀ d : Int, d = (if I oc 10 = 0 then (if sort = 2 then 1 else 0) else 1) → par (zg (d = 0 ∨ d = 1) (zw I5 oc 10 d fun I11 => if I11 oc 11 = 0 then (if sort = 1 then zg ((0 : Int) = 0 ∨ (0 : Int) = 1) (zw I11 oc 11 0 fun I16 => zr 0 I16) else zg ((1 : Int) = 0 ∨ (1 : Int) = 1) (zw I11 oc 11 1 fun I16 => zr 0 I16)) else zg ((1 : Int) = 0 ∨ (1 : Int) = 1) (zw I11 oc 11 1 fun I16 => zr 0 I16))) (fun _ I' => ∀ q j, I' q j = if q = oc ∧ j = 11 then (if I oc 11 = 0 then (if sort = 1 then 0 else 1) else 1) else if q = oc ∧ j = 10 then (if I oc 10 = 0 then (if sort = 2 then 1 else 0) else 1) else if q = oc ∧ j = 7 then wr32 (I oc 7 - size) else if q = oc ∧ j = 8 then I oc 8 + 1 else if q = oc + 3 ∧ j = (I oc 8).toNat then size else if q = oc + 2 ∧ j = (I oc 8).toNat then (k : Int) else if q = oc + 1 ∧ j = k then mark else I q j) := by
    intro d hd
    refine par_zg (fun _ => par_zw' (fun I6 e6 => ?_))
    have c11 : I6 oc 11 = I oc 11 := by rw [e6, if_neg (by omega), a11]
    rw [c11]
    by_cases z : I oc 11 = 0
    · rw [if_pos z]
      by_cases z2 : sort = 1
      · rw [if_pos z2]; exact last d I6 e6 hd 0 (by rw [if_pos z, if_pos z2])
      · rw [if_neg z2]; exact last d I6 e6 hd 1 (by rw [if_pos z, if_neg z2])
    · rw [if_neg z]; exact last d I6 e6 hd 1 (by rw [if_neg z])
  simp only [zj_e]
  rw [a10]
  by_cases z : I oc 10 = 0
  · rw [if_pos z]
    by_cases z2 : sort = 2
    · rw [if_pos z2]; exact mid 1 (by rw [if_pos z, if_pos z2])
    · rw [if_neg z2]; exact mid 0 (by rw [if_pos z, if_neg z2])
  · rw [if_neg z]; exact mid 1 (by rw [if_neg z])
theorem xv_takes (l p : Nat) (size : Int) (J : IMem) (hl : l < 6) (hp : p < 40) (ht : 0 ≤ J 0 31 ∧ J 0 31 < 8) : par (f_X_takes fu 0 (l : Int) (p : Int) size J) (fun _ J' => ∀ q j, J' q j = if q = 0 ∧ j = 34 then wr32 (J 0 34 + (if J 1 (140 + 6 * (40 * l + p) + 3) = 1 then 0 else 1)) else if q = 0 ∧ j = 33 then wr32 (J 0 33 + (if J 1 (140 + 6 * (40 * l + p) + 3) = 2 then 1 else 0)) else if q = 0 ∧ j = 30 then wr32 (J 0 30 - size) else if q = 0 ∧ j = 31 then J 0 31 + 1 else if q = 11 ∧ j = (J 0 31).toNat then ((40 * l + p : Nat) : Int) else if q = 9 ∧ j = 40 * l + p then size else J q j) := by
  unfold f_X_takes
  have wk : wr32 (wr32 (40 * (l : Int)) + (p : Int)) = ((40 * l + p : Nat) : Int) := by rw [wr32_i2 (x := 40 * (l : Int)) (by omega) (by omega), wr32_i2 (by omega) (by omega)]; omega
  simp only [zl_e, zj_e, Nat.zero_add]
  rw [wk]
  refine par_zg (fun _ => par_zw' (fun I1 e1 => ?_))
  rw [show ((40 * l + p : Nat) : Int).toNat = 40 * l + p from rfl] at e1
  have a1 : I1 0 31 = J 0 31 := by rw [e1, if_neg (by omega)]
  rw [a1]
  refine par_zg (fun _ => par_zw' (fun I2 e2 => ?_))
  have a2 : I2 0 31 = J 0 31 := by rw [e2, if_neg (by omega), a1]
  rw [a2, wr32_i2 (x := J 0 31 + 1) (by omega) (by omega)]
  refine par_zw' (fun I3 e3 => ?_)
  have a3 : I3 0 30 = J 0 30 := by rw [e3, if_neg (by omega), e2, if_neg (by omega), e1, if_neg (by omega)]
  rw [a3]
  refine par_zw' (fun I4 e4 => ?_)
  have b4 : ∀ q j, I4 q j = if q = 0 ∧ j = 30 then wr32 (J 0 30 - size) else if q = 0 ∧ j = 31 then J 0 31 + 1 else if q = 11 ∧ j = (J 0 31).toNat then ((40 * l + p : Nat) : Int) else if q = 9 ∧ j = 40 * l + p then size else J q j := fun q j => by rw [e4, e3, e2, e1]
  have srt : I4 (0 + 1) (140 + 6 * (40 * l + p) + 3) = J 1 (140 + 6 * (40 * l + p) + 3) := by rw [b4, if_neg (by omega), if_neg (by omega), if_neg (by omega), if_neg (by omega)]
  have a33 : I4 0 33 = J 0 33 := by rw [b4, if_neg (by omega), if_neg (by omega), if_neg (by omega), if_neg (by omega)]
  have a34 : I4 0 34 = J 0 34 := by rw [b4, if_neg (by omega), if_neg (by omega), if_neg (by omega), if_neg (by omega)]
  clear e4 e3 e2 e1
  rw [ev_of3 fu 0 l p I4 hl hp, zb_zr, srt, a33]
  have mid : ∀ d : Int, d = (if J 1 (140 + 6 * (40 * l + p) + 3) = 2 then 1 else 0) → par (zw I4 0 33 (wr32 (J 0 33 + d)) fun I13 => zb (f_X_of fu 0 (l : Int) (p : Int) 3 I13) fun y14 I15 => if y14 = 1 then zw I15 0 34 (wr32 (I13 0 34 + 0)) fun I20 => zr 0 I20 else zw I15 0 34 (wr32 (I13 0 34 + 1)) fun I20 => zr 0 I20) (fun _ J' => ∀ q j, J' q j = if q = 0 ∧ j = 34 then wr32 (J 0 34 + (if J 1 (140 + 6 * (40 * l + p) + 3) = 1 then 0 else 1)) else if q = 0 ∧ j = 33 then wr32 (J 0 33 + (if J 1 (140 + 6 * (40 * l + p) + 3) = 2 then 1 else 0)) else if q = 0 ∧ j = 30 then wr32 (J 0 30 - size) else if q = 0 ∧ j = 31 then J 0 31 + 1 else if q = 11 ∧ j = (J 0 31).toNat then ((40 * l + p : Nat) : Int) else if q = 9 ∧ j = 40 * l + p then size else J q j) := by
    intro d hd
    refine par_zw' (fun I5 e5 => ?_)
    rw [ev_of3 fu 0 l p I5 hl hp, zb_zr]
    have s5 : I5 (0 + 1) (140 + 6 * (40 * l + p) + 3) = J 1 (140 + 6 * (40 * l + p) + 3) := by rw [e5, if_neg (by omega), srt]
    have z34 : I5 0 34 = J 0 34 := by rw [e5, if_neg (by omega), a34]
    rw [s5, z34]
    by_cases z : J 1 (140 + 6 * (40 * l + p) + 3) = 1
    · rw [if_pos z]
      refine par_zw' (fun I6 e6 => par_zr (fun q j => ?_))
      rw [e6, e5, b4, hd, if_pos z]
    · rw [if_neg z]
      refine par_zw' (fun I6 e6 => par_zr (fun q j => ?_))
      rw [e6, e5, b4, hd, if_neg z]
  by_cases z : J 1 (140 + 6 * (40 * l + p) + 3) = 2
  · rw [if_pos z]; exact mid 1 (by rw [if_pos z])
  · rw [if_neg z]; exact mid 0 (by rw [if_neg z])
theorem cv_found (oc hb k : Nat) (I : IMem) (hk : k < 240) (ho : hb + 40 ≤ oc) (hn : 0 ≤ I oc 9 ∧ I oc 9 ≤ 143) : par (f_C_findOut fu oc hb (k : Int) I) (fun _ I' => ∀ q j, I' q j = if q = hb + 10 ∧ j = 5 then wr32 (I (hb + 10) 5 + 1) else if q = oc ∧ j = 9 then I oc 9 + 1 else if q = oc + 4 ∧ 6 * (I oc 9).toNat ≤ j ∧ j < 6 * (I oc 9).toNat + 6 then (if j - 6 * (I oc 9).toNat = 2 then I (hb + 7) (6 * k + 1) else I (hb + 7) (6 * k + (j - 6 * (I oc 9).toNat))) else if q = oc + 1 ∧ j = k then 2 else I q j) := by
  unfold f_C_findOut
  obtain ⟨n, hnn⟩ : ∃ n : Nat, I oc 9 = (n : Int) := ⟨(I oc 9).toNat, by omega⟩
  rw [hnn, show ((n : Nat) : Int).toNat = n from rfl]
  have w1 : wr32 ((n : Int) * 6) = ((6 * n : Nat) : Int) := by rw [wr32_i2 (by omega) (by omega)]; omega
  have w2 : wr32 ((k : Int) * 6) = ((6 * k : Nat) : Int) := by rw [wr32_i2 (by omega) (by omega)]; omega
  have w3 : wr32 (((6 * n : Nat) : Int) + 1) = ((6 * n + 1 : Nat) : Int) := by rw [wr32_i2 (by omega) (by omega)]; omega
  have w4 : wr32 (((6 * n : Nat) : Int) + 2) = ((6 * n + 2 : Nat) : Int) := by rw [wr32_i2 (by omega) (by omega)]; omega
  simp only [zl_e]
  rw [w1, w2, w3, w4, if_neg (by omega), if_pos (by omega), if_neg (by omega), if_neg (by rw [wr32_i2 (by omega) (by omega)]; omega)]
  refine par_zg (fun _ => par_zw' (fun I1 e1 => par_zg (fun _ => par_zc' (fun I2 e2 => par_zg (fun _ => par_zg (fun _ => par_zw' (fun I3 e3 => par_zw' (fun I4 e4 => par_zw' (fun I5 e5 => par_zr (fun q j => ?_))))))))))
  rw [show ((k : Nat) : Int).toNat = k from rfl] at e1
  have n2 : ((6 * n : Nat) : Int).toNat = 6 * n := rfl
  have n3 : ((6 * k : Nat) : Int).toNat = 6 * k := rfl
  have n4 : (6 : Int).toNat = 6 := rfl
  rw [n2, n3, n4] at e2
  rw [show ((6 * n + 2 : Nat) : Int).toNat = 6 * n + 2 from rfl, show ((6 * n + 1 : Nat) : Int).toNat = 6 * n + 1 from rfl] at e3
  have r1 : ∀ f, f < 6 → I2 (oc + 4) (6 * n + f) = I (hb + 7) (6 * k + f) := by
    intro f hf
    rw [e2, if_pos (by omega), e1, if_neg (by omega)]
    congr 1
    omega
  have a9 : I3 oc 9 = (n : Int) := by rw [e3, if_neg (by omega), e2, if_neg (by omega), e1, if_neg (by omega), hnn]
  have a5 : I4 (hb + 10) 5 = I (hb + 10) 5 := by rw [e4, if_neg (by omega), e3, if_neg (by omega), e2, if_neg (by omega), e1, if_neg (by omega)]
  rw [e5, a5, e4, a9, wr32_i2 (x := (n : Int) + 1) (by omega) (by omega), e3]
  by_cases h1 : q = hb + 10 ∧ j = 5
  · rw [if_pos h1, if_pos h1]
  rw [if_neg h1, if_neg h1]
  by_cases h2 : q = oc ∧ j = 9
  · rw [if_pos h2, if_pos h2]
  rw [if_neg h2, if_neg h2]
  by_cases h3 : q = oc + 4 ∧ 6 * n ≤ j ∧ j < 6 * n + 6
  · rw [if_pos h3]
    obtain ⟨f, hf, rfl⟩ : ∃ f, f < 6 ∧ j = 6 * n + f := ⟨j - 6 * n, by omega, by omega⟩
    rw [Nat.add_sub_cancel_left]
    by_cases h4 : f = 2
    · rw [if_pos (by omega), if_pos h4]; exact r1 1 (by decide)
    · rw [if_neg (by omega), if_neg h4, h3.1]; exact r1 f hf
  · rw [if_neg h3, if_neg (by omega), e2, if_neg (by omega), e1]
end
/-! a filling under way on both sides -/
def INL (J : IMem) (k : Nat) : Prop := k < 240 ∧ ((k % 40 : Nat) : Int) < J 1 (130 + k / 40)
/-- the parts that can be -/
def PTS (J : IMem) : Prop := ∀ z : Int, 1 ≤ z → z ≤ 8 → 0 ≤ J 1 (16 + z).toNat ∧ J 1 (16 + z).toNat < z
theorem pts_mv {J J' : IMem} (h : PTS J) (g : ∀ j, 17 ≤ j → j ≤ 24 → J' 1 j = J 1 j) : PTS J' := fun z z1 z2 => by
  rw [g _ (by omega) (by omega)]; exact h z z1 z2
def MKR (m s f z : Int) : Prop := (m = 0 ∧ s = 0 ∧ f = 0) ∨ (m = 1 ∧ s = z ∧ 1 ≤ s ∧ f = 0) ∨ (m = 2 ∧ s = 0 ∧ f = 1) ∨ (m = 3 ∧ 1 ≤ s ∧ s < z ∧ f = 0)
def sm (c : Nat → Int) : Nat → Int
  | 0 => 0
  | n + 1 => sm c n + c n
theorem sm_eq {c d : Nat → Int} : ∀ n : Nat, (∀ i, i < n → d i = c i) → sm d n = sm c n := by
  intro n
  induction n with
  | zero => intro _; rfl
  | succ n ih =>
    intro h
    show sm d n + d n = sm c n + c n
    rw [ih (fun i hi => h i (by omega)), h n (by omega)]
def FRl (oc : Nat) (I J : IMem) : Prop :=
  (I oc 7 = J 0 30 ∧ I oc 8 = J 0 31 ∧ I oc 9 = J 0 32) ∧
  (0 ≤ J 0 30 ∧ 0 ≤ J 0 31 ∧ J 0 30 + J 0 31 ≤ 8 ∧ 0 ≤ J 0 32) ∧
  (((I oc 10 = 0 ∧ J 0 33 = 0) ∨ (I oc 10 = 1 ∧ 0 < J 0 33)) ∧ J 0 33 ≤ J 0 31) ∧
  (((I oc 11 = 0 ∧ J 0 34 = 0) ∨ (I oc 11 = 1 ∧ 0 < J 0 34)) ∧ J 0 34 ≤ J 0 31) ∧
  (∀ k, k < 240 → MKR (I (oc + 1) k) (J 9 k) (J 12 k) (J 1 (141 + 6 * k))) ∧
  (∀ i : Nat, (i : Int) < J 0 31 → ∃ k : Nat, INL J k ∧ J 11 i = k ∧ I (oc + 2) i = k ∧ I (oc + 3) i = J 9 k ∧ 1 ≤ J 9 k ∧ J 9 k ≤ 8) ∧
  (∀ i : Nat, (i : Int) < J 0 32 → ∃ k : Nat, INL J k ∧ J 10 i = k ∧ J 12 k = 1 ∧ ∀ f, f < 6 → I (oc + 4) (6 * i + f) = if f = 2 then J 1 (140 + 6 * k + 1) else J 1 (140 + 6 * k + f)) ∧
  J 1 1 = J 0 30 + sm (I (oc + 3)) (J 0 31).toNat
theorem frl_fr {oc : Nat} {I J I' J' : IMem} (h : FRl oc I J) (h1 : ∀ q j, (q = oc ∧ 7 ≤ j ∧ j ≤ 11) ∨ (oc + 1 ≤ q ∧ q ≤ oc + 4) → I' q j = I q j) (h2 : ∀ q j, (q = 0 ∧ 30 ≤ j ∧ j ≤ 34) ∨ (9 ≤ q ∧ q ≤ 12) ∨ (q = 1 ∧ (j = 1 ∨ (130 ≤ j ∧ j < 1580))) → J' q j = J q j) : FRl oc I' J' := by
  obtain ⟨⟨a1, a2, a3⟩, b, c, d, e, f, g, s⟩ := h
  have w1 := h2 0 30 (by omega)
  have w2 := h2 0 31 (by omega)
  have w3 := h2 0 32 (by omega)
  have w4 := h2 0 33 (by omega)
  have w5 := h2 0 34 (by omega)
  refine ⟨⟨?_, ?_, ?_⟩, ?_, ?_, ?_, fun k hk => ?_, fun i hi => ?_, fun i hi => ?_, ?_⟩
  · rw [h1 _ _ (by omega), w1]; exact a1
  · rw [h1 _ _ (by omega), w2]; exact a2
  · rw [h1 _ _ (by omega), w3]; exact a3
  · rw [w1, w2, w3]; exact b
  · rw [h1 _ _ (by omega), w4, w2]; exact c
  · rw [h1 _ _ (by omega), w5, w2]; exact d
  · rw [h1 _ _ (by omega), h2 9 _ (by omega), h2 12 _ (by omega), h2 1 _ (by omega)]; exact e k hk
  · rw [w2] at hi
    obtain ⟨k, k1, k2, k3, k4, k5⟩ := f i hi
    have kk := k1.1
    refine ⟨k, ⟨kk, by rw [h2 1 _ (by omega)]; exact k1.2⟩, ?_, ?_, ?_, ?_⟩
    · rw [h2 11 _ (by omega)]; exact k2
    · rw [h1 _ _ (by omega)]; exact k3
    · rw [h1 _ _ (by omega), h2 9 _ (by omega)]; exact k4
    · rw [h2 9 _ (by omega)]; exact k5
  · rw [w3] at hi
    obtain ⟨k, k1, k2, k3, k4⟩ := g i hi
    have kk := k1.1
    refine ⟨k, ⟨kk, by rw [h2 1 _ (by omega)]; exact k1.2⟩, ?_, ?_, fun f hf => ?_⟩
    · rw [h2 10 _ (by omega)]; exact k2
    · rw [h2 12 _ (by omega)]; exact k3
    · rw [h1 _ _ (by omega), h2 1 (140 + 6 * k + 1) (by omega), h2 1 (140 + 6 * k + f) (by omega)]; exact k4 f hf
  · rw [h2 1 1 (by omega), w1, w2, sm_eq (c := I (oc + 3)) _ (fun i _ => h1 _ _ (by omega))]; exact s
/-- one more sits, on both sides -/
theorem frl_sit {oc k : Nat} {I J I' J' : IMem} {size sort mark : Int} (h : FRl oc I J) (hk : INL J k) (hm : I (oc + 1) k = 0) (hz : 1 ≤ size ∧ size ≤ J 0 30) (hs : sort = J 1 (140 + 6 * k + 3)) (hmk : (mark = 1 ∧ size = J 1 (141 + 6 * k)) ∨ (mark = 3 ∧ size < J 1 (141 + 6 * k)))
    (h1 : ∀ q j, (q = oc ∧ 7 ≤ j ∧ j ≤ 11) ∨ (oc + 1 ≤ q ∧ q ≤ oc + 4) → I' q j = if q = oc ∧ j = 11 then (if I oc 11 = 0 then (if sort = 1 then 0 else 1) else 1) else if q = oc ∧ j = 10 then (if I oc 10 = 0 then (if sort = 2 then 1 else 0) else 1) else if q = oc ∧ j = 7 then wr32 (I oc 7 - size) else if q = oc ∧ j = 8 then I oc 8 + 1 else if q = oc + 3 ∧ j = (I oc 8).toNat then size else if q = oc + 2 ∧ j = (I oc 8).toNat then (k : Int) else if q = oc + 1 ∧ j = k then mark else I q j)
    (h2 : ∀ q j, q ≠ 7 → q ≠ 8 → J' q j = if q = 0 ∧ j = 34 then wr32 (J 0 34 + (if sort = 1 then 0 else 1)) else if q = 0 ∧ j = 33 then wr32 (J 0 33 + (if sort = 2 then 1 else 0)) else if q = 0 ∧ j = 30 then wr32 (J 0 30 - size) else if q = 0 ∧ j = 31 then J 0 31 + 1 else if q = 11 ∧ j = (J 0 31).toNat then (k : Int) else if q = 9 ∧ j = k then size else J q j) : FRl oc I' J' := by
  obtain ⟨⟨a1, a2, a3⟩, ⟨b1, b2, b3, b4⟩, ⟨c1, c2⟩, ⟨d1, d2⟩, e, f, g, s⟩ := h
  have jw : ∀ j, J' 1 j = J 1 j := fun j => by rw [h2 _ _ (by decide) (by decide), if_neg (by omega), if_neg (by omega), if_neg (by omega), if_neg (by omega), if_neg (by omega), if_neg (by omega)]
  have j30 : J' 0 30 = J 0 30 - size := by
    rw [h2 _ _ (by decide) (by decide), if_neg (by omega), if_neg (by omega), if_pos (by omega), wr32_i2 (by omega) (by omega)]
  have j31 : J' 0 31 = J 0 31 + 1 := by rw [h2 _ _ (by decide) (by decide), if_neg (by omega), if_neg (by omega), if_neg (by omega), if_pos (by omega)]
  have j32 : J' 0 32 = J 0 32 := by rw [h2 _ _ (by decide) (by decide), if_neg (by omega), if_neg (by omega), if_neg (by omega), if_neg (by omega), if_neg (by omega), if_neg (by omega)]
  have j9 : ∀ j, J' 9 j = if j = k then size else J 9 j := by
    intro j
    rw [h2 _ _ (by decide) (by decide), if_neg (by omega), if_neg (by omega), if_neg (by omega), if_neg (by omega), if_neg (by omega)]
    by_cases q : j = k
    · rw [if_pos ⟨rfl, q⟩, if_pos q]
    · rw [if_neg (fun z => q z.2), if_neg q]
  have j12 : ∀ j, J' 12 j = J 12 j := fun j => by rw [h2 _ _ (by decide) (by decide), if_neg (by omega), if_neg (by omega), if_neg (by omega), if_neg (by omega), if_neg (by omega), if_neg (by omega)]
  have j10 : ∀ j, J' 10 j = J 10 j := fun j => by rw [h2 _ _ (by decide) (by decide), if_neg (by omega), if_neg (by omega), if_neg (by omega), if_neg (by omega), if_neg (by omega), if_neg (by omega)]
  have j11 : ∀ j, J' 11 j = if j = (J 0 31).toNat then (k : Int) else J 11 j := by
    intro j
    rw [h2 _ _ (by decide) (by decide), if_neg (by omega), if_neg (by omega), if_neg (by omega), if_neg (by omega)]
    by_cases q : j = (J 0 31).toNat
    · rw [if_pos ⟨rfl, q⟩, if_pos q]
    · rw [if_neg (fun z => q z.2), if_neg q, if_neg (by omega)]
  have i1 : ∀ j, I' (oc + 1) j = if j = k then mark else I (oc + 1) j := by
    intro j
    rw [h1 _ _ (by omega), if_neg (by omega), if_neg (by omega), if_neg (by omega), if_neg (by omega), if_neg (by omega), if_neg (by omega)]
    by_cases q : j = k
    · rw [if_pos ⟨rfl, q⟩, if_pos q]
    · rw [if_neg (fun z => q z.2), if_neg q]
  have i2 : ∀ j, I' (oc + 2) j = if j = (I oc 8).toNat then (k : Int) else I (oc + 2) j := by
    intro j
    rw [h1 _ _ (by omega), if_neg (by omega), if_neg (by omega), if_neg (by omega), if_neg (by omega), if_neg (by omega)]
    by_cases q : j = (I oc 8).toNat
    · rw [if_pos ⟨rfl, q⟩, if_pos q]
    · rw [if_neg (fun z => q z.2), if_neg q, if_neg (by omega)]
  have i3 : ∀ j, I' (oc + 3) j = if j = (I oc 8).toNat then size else I (oc + 3) j := by
    intro j
    rw [h1 _ _ (by omega), if_neg (by omega), if_neg (by omega), if_neg (by omega), if_neg (by omega)]
    by_cases q : j = (I oc 8).toNat
    · rw [if_pos ⟨rfl, q⟩, if_pos q]
    · rw [if_neg (fun z => q z.2), if_neg q, if_neg (by omega), if_neg (by omega)]
  have i4 : ∀ j, I' (oc + 4) j = I (oc + 4) j := by
    intro j
    rw [h1 _ _ (by omega), if_neg (by omega), if_neg (by omega), if_neg (by omega), if_neg (by omega), if_neg (by omega), if_neg (by omega), if_neg (by omega)]
  have mk0 := e k hk.1
  rw [hm] at mk0
  have s0 : J 9 k = 0 := by unfold MKR at mk0; omega
  refine ⟨⟨?_, ?_, ?_⟩, by rw [j30, j31, j32]; omega, ?_, ?_, fun k2 hk2 => ?_, fun i hi => ?_, fun i hi => ?_, ?_⟩
  · rw [h1 _ _ (by omega), if_neg (by omega), if_neg (by omega), if_pos (by omega), j30, a1, wr32_i2 (by omega) (by omega)]
  · rw [h1 _ _ (by omega), if_neg (by omega), if_neg (by omega), if_neg (by omega), if_pos (by omega), j31, a2]
  · rw [h1 _ _ (by omega), if_neg (by omega), if_neg (by omega), if_neg (by omega), if_neg (by omega), if_neg (by omega), if_neg (by omega), if_neg (by omega), j32]; exact a3
  · have z33 : J' 0 33 = J 0 33 + (if sort = 2 then 1 else 0) := by
      rw [h2 _ _ (by decide) (by decide), if_neg (by omega), if_pos (by omega)]
      split <;> exact wr32_i2 (by omega) (by omega)
    have y10 : I' oc 10 = if I oc 10 = 0 then (if sort = 2 then 1 else 0) else 1 := by rw [h1 _ _ (by omega), if_neg (by omega), if_pos (by omega)]
    rw [z33, y10, j31]
    rcases c1 with ⟨p, q⟩ | ⟨p, q⟩
    · rw [if_pos p]
      split <;> omega
    · rw [if_neg (by omega)]
      split <;> omega
  · have z34 : J' 0 34 = J 0 34 + (if sort = 1 then 0 else 1) := by
      rw [h2 _ _ (by decide) (by decide), if_pos (by omega)]
      split <;> exact wr32_i2 (by omega) (by omega)
    have y11 : I' oc 11 = if I oc 11 = 0 then (if sort = 1 then 0 else 1) else 1 := by rw [h1 _ _ (by omega), if_pos (by omega)]
    rw [z34, y11, j31]
    rcases d1 with ⟨p, q⟩ | ⟨p, q⟩
    · rw [if_pos p]
      split <;> omega
    · rw [if_neg (by omega)]
      split <;> omega
  · rw [i1, j9, j12, jw]
    by_cases q : k2 = k
    · subst q
      rw [if_pos rfl, if_pos rfl]
      unfold MKR at mk0 ⊢
      omega
    · rw [if_neg q, if_neg q]; exact e k2 hk2
  · rw [j31] at hi
    by_cases q : i = (J 0 31).toNat
    · refine ⟨k, ⟨hk.1, by rw [jw]; exact hk.2⟩, ?_, ?_, ?_, ?_⟩
      · rw [j11, if_pos q]
      · rw [i2, if_pos (by omega)]
      · rw [i3, if_pos (by omega), j9, if_pos rfl]
      · rw [j9, if_pos rfl]; omega
    · obtain ⟨k2, k3, k4, k5, k6, k7⟩ := f i (by omega)
      have hne : k2 ≠ k := by intro z; subst z; omega
      refine ⟨k2, ⟨k3.1, by rw [jw]; exact k3.2⟩, ?_, ?_, ?_, ?_⟩
      · rw [j11, if_neg q]; exact k4
      · rw [i2, if_neg (by omega)]; exact k5
      · rw [i3, if_neg (by omega), j9, if_neg hne]; exact k6
      · rw [j9, if_neg hne]; exact k7
  · rw [j32] at hi
    obtain ⟨k2, k3, k4, k5, k6⟩ := g i hi
    refine ⟨k2, ⟨k3.1, by rw [jw]; exact k3.2⟩, ?_, ?_, fun f hf => ?_⟩
    · rw [j10]; exact k4
    · rw [j12]; exact k5
    · rw [i4, jw, jw]; exact k6 f hf
  · rw [jw, j30, j31, show (J 0 31 + 1).toNat = (J 0 31).toNat + 1 by omega]
    show _ = _ + (sm (I' (oc + 3)) (J 0 31).toNat + I' (oc + 3) (J 0 31).toNat)
    rw [i3 (J 0 31).toNat, if_pos (by omega), sm_eq (c := I (oc + 3)) _ (fun i hi => by rw [i3, if_neg (by omega)])]
    omega
/-- one more is found out, on both sides -/
theorem frl_found {oc k : Nat} {I J I' J' : IMem} (h : FRl oc I J) (hk : INL J k) (hm : I (oc + 1) k = 0) (hn : J 0 32 ≤ 143) (hr : ∀ f, f < 6 → I' (oc + 4) (6 * (J 0 32).toNat + f) = if f = 2 then J 1 (140 + 6 * k + 1) else J 1 (140 + 6 * k + f))
    (h1 : ∀ q j, (q = oc ∧ 7 ≤ j ∧ j ≤ 11) ∨ (oc + 1 ≤ q ∧ q ≤ oc + 4) → ¬ (q = oc + 4 ∧ 6 * (J 0 32).toNat ≤ j ∧ j < 6 * (J 0 32).toNat + 6) → I' q j = if q = oc ∧ j = 9 then I oc 9 + 1 else if q = oc + 1 ∧ j = k then 2 else I q j)
    (h2 : ∀ q j, J' q j = if q = 1 ∧ j = 75 then wr32 (J 1 75 + 1) else if q = 0 ∧ j = 32 then J 0 32 + 1 else if q = 10 ∧ j = (J 0 32).toNat then (k : Int) else if q = 12 ∧ j = k then 1 else J q j) : FRl oc I' J' := by
  obtain ⟨⟨a1, a2, a3⟩, ⟨b1, b2, b3, b4⟩, c, d, e, f, g, s⟩ := h
  have jw : ∀ j, j ≠ 75 → J' 1 j = J 1 j := fun j hj => by rw [h2, if_neg (by omega), if_neg (by omega), if_neg (by omega), if_neg (by omega)]
  have j0 : ∀ j, j ≠ 32 → J' 0 j = J 0 j := fun j hj => by rw [h2, if_neg (by omega), if_neg (by omega), if_neg (by omega), if_neg (by omega)]
  have j32 : J' 0 32 = J 0 32 + 1 := by rw [h2, if_neg (by omega), if_pos (by omega)]
  have j9 : ∀ j, J' 9 j = J 9 j := fun j => by rw [h2, if_neg (by omega), if_neg (by omega), if_neg (by omega), if_neg (by omega)]
  have j11 : ∀ j, J' 11 j = J 11 j := fun j => by rw [h2, if_neg (by omega), if_neg (by omega), if_neg (by omega), if_neg (by omega)]
  have j12 : ∀ j, J' 12 j = if j = k then 1 else J 12 j := by
    intro j
    rw [h2, if_neg (by omega), if_neg (by omega), if_neg (by omega)]
    by_cases q : j = k
    · rw [if_pos ⟨rfl, q⟩, if_pos q]
    · rw [if_neg (fun z => q z.2), if_neg q]
  have j10 : ∀ j, J' 10 j = if j = (J 0 32).toNat then (k : Int) else J 10 j := by
    intro j
    rw [h2, if_neg (by omega), if_neg (by omega)]
    by_cases q : j = (J 0 32).toNat
    · rw [if_pos ⟨rfl, q⟩, if_pos q]
    · rw [if_neg (fun z => q z.2), if_neg q, if_neg (by omega)]
  have i0 : ∀ j, 7 ≤ j → j ≤ 11 → j ≠ 9 → I' oc j = I oc j := fun j x y z => by rw [h1 _ _ (by omega) (by omega), if_neg (by omega), if_neg (by omega)]
  have i1 : ∀ j, I' (oc + 1) j = if j = k then 2 else I (oc + 1) j := by
    intro j
    rw [h1 _ _ (by omega) (by omega), if_neg (by omega)]
    by_cases q : j = k
    · rw [if_pos ⟨rfl, q⟩, if_pos q]
    · rw [if_neg (fun z => q z.2), if_neg q]
  have i2 : ∀ j, I' (oc + 2) j = I (oc + 2) j := fun j => by rw [h1 _ _ (by omega) (by omega), if_neg (by omega), if_neg (by omega)]
  have i3 : ∀ j, I' (oc + 3) j = I (oc + 3) j := fun j => by rw [h1 _ _ (by omega) (by omega), if_neg (by omega), if_neg (by omega)]
  have mk0 := e k hk.1
  rw [hm] at mk0
  refine ⟨⟨?_, ?_, ?_⟩, by rw [j0 30 (by decide), j0 31 (by decide), j32]; omega, ?_, ?_, fun k2 hk2 => ?_, fun i hi => ?_, fun i hi => ?_, ?_⟩
  · rw [i0 _ (by omega) (by omega) (by omega), j0 _ (by decide)]; exact a1
  · rw [i0 _ (by omega) (by omega) (by omega), j0 _ (by decide)]; exact a2
  · rw [h1 _ _ (by omega) (by omega), if_pos ⟨rfl, rfl⟩, j32, a3]
  · rw [i0 _ (by omega) (by omega) (by omega), j0 33 (by decide), j0 31 (by decide)]; exact c
  · rw [i0 _ (by omega) (by omega) (by omega), j0 34 (by decide), j0 31 (by decide)]; exact d
  · rw [i1, j9, j12, jw _ (by omega)]
    by_cases q : k2 = k
    · subst q
      rw [if_pos rfl, if_pos rfl]
      unfold MKR at mk0 ⊢
      omega
    · rw [if_neg q, if_neg q]; exact e k2 hk2
  · rw [j0 31 (by decide)] at hi
    obtain ⟨k2, k3, k4, k5, k6, k7⟩ := f i hi
    have kk := k3.1
    exact ⟨k2, ⟨kk, by rw [jw _ (by omega)]; exact k3.2⟩, by rw [j11]; exact k4, by rw [i2]; exact k5, by rw [i3, j9]; exact k6, by rw [j9]; exact k7⟩
  · rw [j32] at hi
    by_cases q : i = (J 0 32).toNat
    · have kk := hk.1
      refine ⟨k, ⟨kk, by rw [jw _ (by omega)]; exact hk.2⟩, ?_, ?_, fun f hf => ?_⟩
      · rw [j10, if_pos q]
      · rw [j12, if_pos rfl]
      · rw [q, hr f hf, jw _ (by omega), jw _ (by omega)]
    · obtain ⟨k2, k3, k4, k5, k6⟩ := g i (by omega)
      have kk := k3.1
      refine ⟨k2, ⟨kk, by rw [jw _ (by omega)]; exact k3.2⟩, ?_, ?_, fun f hf => ?_⟩
      · rw [j10, if_neg q]; exact k4
      · rw [j12]; split
        · rfl
        · exact k5
      · rw [h1 _ _ (by omega) (by omega), if_neg (by omega), if_neg (by omega), jw _ (by omega), jw _ (by omega)]; exact k6 f hf
  · rw [jw 1 (by decide), j0 30 (by decide), j0 31 (by decide), sm_eq (c := I (oc + 3)) _ (fun i _ => i3 i)]; exact s
/-! the chair is filled, on both sides -/
def cBODY (fu oc hb : Nat) (k_66 : IMem → Res) (R_ : Int → Int → IMem → Res) (w3 : Int) (x13 x14 : Int) (I12 : IMem) : Res :=
          if x14 = (-1) then (
            k_66 I12)
          else (
            zb (f_L_get fu (hb + 6) x14 1 I12) fun y15 I16 =>
              if I16 oc 7 < y15 then (
                zb (f_C_findOut fu oc hb x14 I16) fun _ I29 =>
                R_ x13 (wr32 (w3 + 1)) I29)
              else (
                zb (f_L_get fu (hb + 6) x14 3 I16) fun y22 I23 =>
                zb (f_C_sit fu oc x14 y15 y22 1 I23) fun _ I26 =>
                R_ 1 (wr32 (w3 + 1)) I26))
theorem fill_eq (fu oc hb : Nat) (k_66 k_127 : IMem → Res) (R_ : Int → Int → IMem → Res) (w2 w3 : Int) (I0 : IMem) : fb_C_fill_30 fu k_66 k_127 oc hb R_ w2 w3 I0 = if 144 < w3 then k_127 I0 else zb (f_C_mostPassed fu oc hb I0) fun y8 I9 => if y8 = (-1) then (zb (f_C_worthiest fu oc hb w2 I9) fun y31 I32 => cBODY fu oc hb k_66 R_ w3 0 y31 I32) else cBODY fu oc hb k_66 R_ w3 w2 y8 I9 := rfl
def xB7 (fu : Nat) (k_39 R_ : IMem → Res) (x9 : Int) (I8 : IMem) : Res :=
            if x9 = (-1) then (
              k_39 I8)
            else (
              zb (f_X_of fu 0 (wdiv x9 40) (wrem x9 40) 1 I8) fun y12 I13 =>
              if I13 0 30 < y12 then (
                zg (0 ≤ x9 ∧ x9 < 240) (zw I13 (0 + 12) x9.toNat 1 fun I21 =>
                zl (I21 0 32) fun x23 =>
                zg (0 ≤ x23 ∧ x23 < 240) (zw I21 (0 + 10) x23.toNat x9 fun I22 =>
                zw I22 0 32 (wr32 ((I22 0 32) + 1)) fun I24 =>
                zw I24 (0 + 1) 75 (wr32 ((I24 (0 + 1) 75) + 1)) fun I25 =>
                R_ I25)))
              else (
                zb (f_X_of fu 0 (wdiv x9 40) (wrem x9 40) 1 I13) fun y15 I16 =>
                zb (f_X_takes fu 0 (wdiv x9 40) (wrem x9 40) y15 I16) fun _ I19 =>
                R_ I19))
def xB4 (fu : Nat) (k_39 R_ : IMem → Res) (x6 : Int) (I5 : IMem) : Res :=
          if x6 = (-1) then (
            zb (f_X_finds fu 0 0 I5) fun y26 I27 =>
            xB7 fu k_39 R_ y26 I27)
          else (
            xB7 fu k_39 R_ x6 I5)
theorem fills_eq (fu : Nat) (k_39 R_ : IMem → Res) (J : IMem) : fb_X_fills_4 fu k_39 0 R_ J = if 0 < J 1 5 then (zb (f_X_finds fu 0 1 J) fun y29 I30 => xB4 fu k_39 R_ y29 I30) else xB4 fu k_39 R_ (-1) J := rfl
def FIV (oc hb kl : Nat) (law : List LRec) (n : Nat) (I J : IMem) : Prop :=
  (HS hb 1 I J ∧ HY hb 1 I J ∧ HP hb 1 I J ∧ HL hb 1 I J ∧ HW hb 1 I J) ∧ FRl oc I J ∧ LWX J kl law ∧ LC (hb + 15 + 5 * kl) kl law I ∧
  (n ≤ 144 ∧ I oc 5 = n ∧ SLI (I (oc + 5)) (I (hb + 8)) (I (hb + 9)) (-1) 240 n) ∧ (∀ k, INL J k → 1 ≤ J 1 (141 + 6 * k) ∧ J 1 (141 + 6 * k) ≤ 8) ∧
  (∀ k, k < 240 → I (oc + 1) k ≠ 3) ∧ (inr (J 1 5) ∧ PTS J) ∧
  J 0 31 + J 0 32 = cnt (fun i => I (oc + 1) (I (oc + 5) i).toNat) n
section
variable {fu oc hb kl n : Nat} {law : List LRec} {I J : IMem}
theorem sn_iff (h : FIV oc hb kl law n I J) {k : Nat} (hk : k < 240) : SN (I (hb + 8)) (I (hb + 9)) (-1) k ↔ (((k % 40 : Nat) : Int) < J 1 (130 + k / 40) ∧ ((k % 40 : Nat) : Int) < J 1 (10 + k / 40)) := by
  obtain ⟨⟨hS, _, _, hL, _⟩, _⟩ := h
  unfold SN
  rw [(hl_c hL (by omega)).1, hS.2.2.2.1 (k / 40) (by omega), if_neg (by omega)]
  constructor
  · rintro ⟨a, b⟩; exact ⟨a, by omega⟩
  · rintro ⟨a, b⟩; exact ⟨a, by omega⟩
theorem ef_sn (h : FIV oc hb kl law n I J) : ∀ k, k < 240 → eF J k = true → SN (I (hb + 8)) (I (hb + 9)) (-1) k := by
  intro k hk he
  unfold eF at he
  rw [decide_eq_true_iff] at he
  exact (sn_iff h hk).mpr ⟨he.1, he.2.1⟩
theorem row_eq (h : FIV oc hb kl law n I J) {k f : Nat} (hk : INL J k) (hf : f < 6) : I (hb + 7) (6 * k + f) = J 1 (140 + 6 * k + f) := by
  obtain ⟨⟨_, _, _, hL, _⟩, _⟩ := h
  have := hl_r hL (l := k / 40) (p := k % 40) (f := f) (by have := hk.1; omega) hk.2 hf
  rw [show 40 * (k / 40) + k % 40 = k by omega] at this
  exact this
theorem fit_iff (h : FIV oc hb kl law n I J) : ∀ k, k < 240 → SN (I (hb + 8)) (I (hb + 9)) (-1) k → (eF J k = true ↔ (I (oc + 1) k = 0 ∧ I oc 10 = 0 ∧ I (hb + 7) (6 * k + 2) ≤ I oc 7 ∧ (I (hb + 7) (6 * k + 3) = 1 → I oc 11 ≠ 0) ∧ (I (hb + 7) (6 * k + 3) = 2 → I oc 8 = 0))) := by
  intro k hk hs
  have s := (sn_iff h hk).mp hs
  have hin : INL J k := ⟨hk, s.1⟩
  have r2 := row_eq h hin (f := 2) (by decide)
  have r3 := row_eq h hin (f := 3) (by decide)
  obtain ⟨_, hF, _⟩ := h
  obtain ⟨⟨a1, a2, a3⟩, _, ⟨c, _⟩, ⟨d, _⟩, e, _⟩ := hF
  have mk := e k hk
  unfold eF
  rw [decide_eq_true_iff, r2, r3, a1, a2]
  unfold MKR at mk
  constructor
  · rintro ⟨_, _, x3, x4, x5, x6, x7, x8⟩
    exact ⟨by omega, by omega, x5, fun z => by have := x7 z; omega, x8⟩
  · rintro ⟨x1, x2, x3, x4, x5⟩
    exact ⟨s.1, s.2, by omega, by omega, x3, by omega, fun z => by have := x4 z; omega, x5⟩
/-- the other parts of the state, while the chair is filled -/
theorem hr_fill {I' J' : IMem} (h : HS hb 1 I J ∧ HY hb 1 I J ∧ HP hb 1 I J ∧ HL hb 1 I J ∧ HW hb 1 I J) (hkl : kl < 5) (h1 : ∀ q j, hb ≤ q → q < hb + 40 → q ≠ hb + 13 → q ≠ hb + 15 + 5 * kl + 4 → q ≠ hb + 10 → I' q j = I q j) (h10 : ∀ j, j ≠ 5 → I' (hb + 10) j = I (hb + 10) j) (h2 : ∀ j, j ≠ 75 → J' 1 j = J 1 j) (h5 : I' (hb + 10) 5 = J' 1 75) : HS hb 1 I' J' ∧ HY hb 1 I' J' ∧ HP hb 1 I' J' ∧ HL hb 1 I' J' ∧ HW hb 1 I' J' := by
  obtain ⟨hS, hY, hP, hL, hW⟩ := h
  refine ⟨hs_mv hS (fun d j q => h1 _ _ (by omega) (by omega) (by omega) (by omega) (by omega)) (fun j q => h2 j (by omega)), ⟨fun k hk => ?_, fun s h3 h4 => ⟨?_, ?_, ?_⟩⟩, hp_mv hP (fun j => ⟨h1 _ _ (by omega) (by omega) (by omega) (by omega) (by omega), h1 _ _ (by omega) (by omega) (by omega) (by omega) (by omega)⟩) (fun j q => h2 j (by omega)), hl_mv hL (fun j => ⟨h1 _ _ (by omega) (by omega) (by omega) (by omega) (by omega), h1 _ _ (by omega) (by omega) (by omega) (by omega) (by omega)⟩) (fun j _ _ => h2 j (by omega)), hw_mv hW (fun d j a b c => h1 _ _ (by omega) (by omega) (by omega) (by omega) (by omega)) (fun j _ _ => h2 j (by omega))⟩
  · by_cases q : k = 5
    · subst q; exact h5
    · rw [h10 _ q, h2 _ (by omega)]; exact hY.1 k hk
  · rw [h10 _ (by omega), h2 _ (by omega)]; exact (hY.2 s h3 h4).1
  · rw [h10 _ (by omega), h2 _ (by omega)]; exact (hY.2 s h3 h4).2.1
  · rw [h10 _ (by omega), h2 _ (by omega)]; exact (hY.2 s h3 h4).2.2
/-- the searches change nothing that counts -/
theorem fiv_same {I' J' : IMem} (h : FIV oc hb kl law n I J) (hd : hb + 40 ≤ oc) (hkl : kl < 4) (h1 : ∀ q j, q ≠ hb + 13 → q ≠ hb + 15 + 5 * kl + 4 → q ≠ oc + 6 → I' q j = I q j) (h2 : ∀ q j, q ≠ 7 → q ≠ 8 → J' q j = J q j) : FIV oc hb kl law n I' J' := by
  obtain ⟨hr, hF, hX, hC, ⟨n1, n2, n3⟩, hz, h3, hb5, hc⟩ := h
  have e5 : I' (oc + 5) = I (oc + 5) := funext (fun j => h1 _ _ (by omega) (by omega) (by omega))
  have e8 : I' (hb + 8) = I (hb + 8) := funext (fun j => h1 _ _ (by omega) (by omega) (by omega))
  have e9 : I' (hb + 9) = I (hb + 9) := funext (fun j => h1 _ _ (by omega) (by omega) (by omega))
  have e1 : I' (oc + 1) = I (oc + 1) := funext (fun j => h1 _ _ (by omega) (by omega) (by omega))
  refine ⟨hr_fill (kl := kl) hr (by omega) (fun q j _ _ a b _ => h1 q j a b (by omega)) (fun j _ => h1 _ _ (by omega) (by omega) (by omega)) (fun j _ => h2 _ _ (by decide) (by decide)) ?_, frl_fr hF (fun q j a => h1 _ _ (by omega) (by omega) (by omega)) (fun q j a => h2 _ _ (by omega) (by omega)), lwx_same hX (fun j _ => h2 _ _ (by decide) (by decide)), lc_mv hC (fun d j a => h1 _ _ (by omega) (by omega) (by omega)), ⟨n1, ?_, ?_⟩, fun k hk => ?_, fun k hk => ?_, ?_, ?_⟩
  · rw [h1 _ _ (by omega) (by omega) (by omega), h2 _ _ (by decide) (by decide)]; exact hr.2.1.1 5 (by decide)
  · rw [h1 _ _ (by omega) (by omega) (by omega)]; exact n2
  · rw [e5, e8, e9]; exact n3
  · rw [h2 1 _ (by decide) (by decide)]
    exact hz k ⟨hk.1, by have := hk.2; rw [h2 1 _ (by decide) (by decide)] at this; exact this⟩
  · rw [e1]; exact h3 k hk
  · exact ⟨by rw [h2 1 _ (by decide) (by decide)]; exact hb5.1, pts_mv hb5.2 (fun j _ _ => h2 _ _ (by decide) (by decide))⟩
  · rw [h2 0 _ (by decide) (by decide), h2 0 _ (by decide) (by decide), e1, e5]; exact hc
/-- the class's worths are those that the reference would reckon -/
def WOK (oc kl : Nat) (law : List LRec) (n : Nat) (I J : IMem) : Prop := ∀ i k, i < n → I (oc + 5) i = ((k : Nat) : Int) → eF J k = true → I (oc + 6) i = vF J false kl law k
theorem cnt_seen (h : FIV oc hb kl law n I J) {k : Nat} (hk : k < 240) (hs : SN (I (hb + 8)) (I (hb + 9)) (-1) k) (hm : I (oc + 1) k = 0) {f : Nat → Int} (hf : ∀ j, f j = if j = k then f k else I (oc + 1) j) (hne : f k ≠ 0) : cnt (fun i => f (I (oc + 5) i).toNat) n = cnt (fun i => I (oc + 1) (I (oc + 5) i).toNat) n + 1 ∧ cnt (fun i => I (oc + 1) (I (oc + 5) i).toNat) n + 1 ≤ n := by
  obtain ⟨_, _, _, _, ⟨n1, n2, n3⟩, _⟩ := h
  obtain ⟨i, hi, e⟩ := n3.2.2 k hk hs
  have h0 : (fun i => I (oc + 1) (I (oc + 5) i).toNat) i = 0 := by
    show I (oc + 1) (I (oc + 5) i).toNat = 0
    rw [e]; exact hm
  have h1 : (fun i => f (I (oc + 5) i).toNat) i ≠ 0 := by
    show f (I (oc + 5) i).toNat ≠ 0
    rw [e]; exact hne
  refine ⟨?_, cnt_lt h0 n hi⟩
  have key : ∀ m : Nat, m ≤ n → cnt (fun i => f (I (oc + 5) i).toNat) m = cnt (fun i => I (oc + 1) (I (oc + 5) i).toNat) m + (if i < m then 1 else 0) := by
    intro m
    induction m with
    | zero => intro _; rfl
    | succ m ih =>
      intro hm'
      have ihm := ih (by omega)
      show cnt (fun i => f (I (oc + 5) i).toNat) m + (if f (I (oc + 5) m).toNat = 0 then 0 else 1) = cnt (fun i => I (oc + 1) (I (oc + 5) i).toNat) m + (if I (oc + 1) (I (oc + 5) m).toNat = 0 then 0 else 1) + _
      rw [ihm]
      by_cases q : m = i
      · subst q
        have ek : (I (oc + 5) m).toNat = k := by rw [e]; rfl
        rw [ek, if_neg (by omega), if_neg hne, if_pos hm, if_pos (by omega)]
        omega
      · have hne2 : (I (oc + 5) m).toNat ≠ k := by
          obtain ⟨k2, q1, q2, _⟩ := n3.1 m (by omega)
          intro z
          rcases Nat.lt_or_ge m i with x | x
          · have := n3.2.1 m i x hi; omega
          · have := n3.2.1 i m (by omega) (by omega); omega
        rw [hf (I (oc + 5) m).toNat, if_neg hne2]
        have : (if i < m then (1 : Int) else 0) = if i < m + 1 then 1 else 0 := by
          by_cases w : i < m
          · rw [if_pos w, if_pos (by omega)]
          · rw [if_neg w, if_neg (by omega)]
        rw [this]
        omega
  have := key n (Nat.le_refl _)
  rw [if_pos hi] at this
  exact this
/-- a filling that sat one -/
theorem fiv_sit {I' J' : IMem} {k : Nat} (h : FIV oc hb kl law n I J) (hd : hb + 40 ≤ oc) (hkl : kl < 4) (he : eF J k = true) (hk : k < 240) (hz : J 1 (141 + 6 * k) ≤ J 0 30)
    (h1 : ∀ q j, I' q j = if q = oc ∧ j = 11 then (if I oc 11 = 0 then (if J 1 (140 + 6 * k + 3) = 1 then 0 else 1) else 1) else if q = oc ∧ j = 10 then (if I oc 10 = 0 then (if J 1 (140 + 6 * k + 3) = 2 then 1 else 0) else 1) else if q = oc ∧ j = 7 then wr32 (I oc 7 - J 1 (141 + 6 * k)) else if q = oc ∧ j = 8 then I oc 8 + 1 else if q = oc + 3 ∧ j = (I oc 8).toNat then J 1 (141 + 6 * k) else if q = oc + 2 ∧ j = (I oc 8).toNat then (k : Int) else if q = oc + 1 ∧ j = k then 1 else I q j)
    (h2 : ∀ q j, J' q j = if q = 0 ∧ j = 34 then wr32 (J 0 34 + (if J 1 (140 + 6 * k + 3) = 1 then 0 else 1)) else if q = 0 ∧ j = 33 then wr32 (J 0 33 + (if J 1 (140 + 6 * k + 3) = 2 then 1 else 0)) else if q = 0 ∧ j = 30 then wr32 (J 0 30 - J 1 (141 + 6 * k)) else if q = 0 ∧ j = 31 then J 0 31 + 1 else if q = 11 ∧ j = (J 0 31).toNat then (k : Int) else if q = 9 ∧ j = k then J 1 (141 + 6 * k) else J q j) : FIV oc hb kl law n I' J' := by
  have hs := ef_sn h k hk he
  have s := (sn_iff h hk).mp hs
  have hin : INL J k := ⟨hk, s.1⟩
  have hm := ((fit_iff h k hk hs).mp he).1
  have hcs := cnt_seen h hk hs hm
  obtain ⟨hr, hF, hX, hC, ⟨n1, n2, n3⟩, hzz, h3, hb5, hc⟩ := h
  have z1 := hzz k hin
  have fo : ∀ q j, q < oc → I' q j = I q j := fun q j hq => by rw [h1, if_neg (by omega), if_neg (by omega), if_neg (by omega), if_neg (by omega), if_neg (by omega), if_neg (by omega), if_neg (by omega)]
  have f5 : ∀ j, I' (oc + 5) j = I (oc + 5) j := fun j => by rw [h1, if_neg (by omega), if_neg (by omega), if_neg (by omega), if_neg (by omega), if_neg (by omega), if_neg (by omega), if_neg (by omega)]
  have jw : ∀ j, J' 1 j = J 1 j := fun j => by rw [h2, if_neg (by omega), if_neg (by omega), if_neg (by omega), if_neg (by omega), if_neg (by omega), if_neg (by omega)]
  have i1 : ∀ j, I' (oc + 1) j = if j = k then 1 else I (oc + 1) j := by
    intro j
    rw [h1, if_neg (by omega), if_neg (by omega), if_neg (by omega), if_neg (by omega), if_neg (by omega), if_neg (by omega)]
    by_cases q : j = k
    · rw [if_pos ⟨rfl, q⟩, if_pos q]
    · rw [if_neg (fun z => q z.2), if_neg q]
  refine ⟨hr_fill (kl := kl) hr (by omega) (fun q j _ a _ _ _ => fo q j (by omega)) (fun j _ => fo _ _ (by omega)) (fun j _ => jw j) ?_, ?_, lwx_same hX (fun j _ => jw j), lc_mv hC (fun d j a => fo _ _ (by omega)), ⟨n1, ?_, ?_⟩, fun k2 hk2 => ?_, fun k2 hk2 => ?_, ⟨by rw [jw]; exact hb5.1, pts_mv hb5.2 (fun j _ _ => jw j)⟩, ?_⟩
  · rw [fo _ _ (by omega), jw]; exact hr.2.1.1 5 (by decide)
  · exact frl_sit (size := J 1 (141 + 6 * k)) (sort := J 1 (140 + 6 * k + 3)) (mark := 1) hF hin hm ⟨z1.1, hz⟩ rfl (Or.inl ⟨rfl, rfl⟩) (fun q j _ => h1 q j) (fun q j _ _ => h2 q j)
  · rw [h1, if_neg (by omega), if_neg (by omega), if_neg (by omega), if_neg (by omega), if_neg (by omega), if_neg (by omega), if_neg (by omega)]; exact n2
  · rw [show I' (oc + 5) = I (oc + 5) from funext f5, show I' (hb + 8) = I (hb + 8) from funext (fun j => fo _ _ (by omega)), show I' (hb + 9) = I (hb + 9) from funext (fun j => fo _ _ (by omega))]; exact n3
  · rw [jw]; exact hzz k2 ⟨hk2.1, by have := hk2.2; rw [jw] at this; exact this⟩
  · rw [i1]
    split
    · decide
    · exact h3 k2 hk2
  · have j31 : J' 0 31 = J 0 31 + 1 := by rw [h2, if_neg (by omega), if_neg (by omega), if_neg (by omega), if_pos (by omega)]
    have j32 : J' 0 32 = J 0 32 := by rw [h2, if_neg (by omega), if_neg (by omega), if_neg (by omega), if_neg (by omega), if_neg (by omega), if_neg (by omega)]
    have g := (hcs (f := I' (oc + 1)) (fun j => by rw [i1 j, i1 k, if_pos rfl]) (by rw [i1, if_pos rfl]; decide)).1
    rw [j31, j32, show I' (oc + 5) = I (oc + 5) from funext f5, g]
    omega
theorem fiv_found {I' J' : IMem} {k : Nat} (h : FIV oc hb kl law n I J) (hd : hb + 40 ≤ oc) (hkl : kl < 4) (he : eF J k = true) (hk : k < 240)
    (h1 : ∀ q j, I' q j = if q = hb + 10 ∧ j = 5 then wr32 (I (hb + 10) 5 + 1) else if q = oc ∧ j = 9 then I oc 9 + 1 else if q = oc + 4 ∧ 6 * (I oc 9).toNat ≤ j ∧ j < 6 * (I oc 9).toNat + 6 then (if j - 6 * (I oc 9).toNat = 2 then I (hb + 7) (6 * k + 1) else I (hb + 7) (6 * k + (j - 6 * (I oc 9).toNat))) else if q = oc + 1 ∧ j = k then 2 else I q j)
    (h2 : ∀ q j, J' q j = if q = 1 ∧ j = 75 then wr32 (J 1 75 + 1) else if q = 0 ∧ j = 32 then J 0 32 + 1 else if q = 10 ∧ j = (J 0 32).toNat then (k : Int) else if q = 12 ∧ j = k then 1 else J q j) : FIV oc hb kl law n I' J' ∧ (∀ k2, k2 < 240 → eF J' k2 = true → k2 ≠ k ∧ eF J k2 = true) := by
  have hs := ef_sn h k hk he
  have s := (sn_iff h hk).mp hs
  have hin : INL J k := ⟨hk, s.1⟩
  have hm := ((fit_iff h k hk hs).mp he).1
  have hcs := cnt_seen h hk hs hm
  have hro : ∀ f, f < 6 → I (hb + 7) (6 * k + f) = J 1 (140 + 6 * k + f) := fun f hf => row_eq h hin hf
  obtain ⟨hr, hF, hX, hC, ⟨n1, n2, n3⟩, hzz, h3, hb5, hc⟩ := h
  have a9 := hF.1.2.2
  have b4 := hF.2.1
  have fo : ∀ q j, q < oc → ¬ (q = hb + 10 ∧ j = 5) → I' q j = I q j := fun q j hq h5 => by rw [h1, if_neg h5, if_neg (by omega), if_neg (by omega), if_neg (by omega)]
  have f5 : ∀ j, I' (oc + 5) j = I (oc + 5) j := fun j => by rw [h1, if_neg (by omega), if_neg (by omega), if_neg (by omega), if_neg (by omega)]
  have jw : ∀ j, j ≠ 75 → J' 1 j = J 1 j := fun j hj => by rw [h2, if_neg (by omega), if_neg (by omega), if_neg (by omega), if_neg (by omega)]
  have j0 : ∀ j, j ≠ 32 → J' 0 j = J 0 j := fun j hj => by rw [h2, if_neg (by omega), if_neg (by omega), if_neg (by omega), if_neg (by omega)]
  have j9 : ∀ j, J' 9 j = J 9 j := fun j => by rw [h2, if_neg (by omega), if_neg (by omega), if_neg (by omega), if_neg (by omega)]
  have j12 : ∀ j, J' 12 j = if j = k then 1 else J 12 j := by
    intro j
    rw [h2, if_neg (by omega), if_neg (by omega), if_neg (by omega)]
    by_cases q : j = k
    · rw [if_pos ⟨rfl, q⟩, if_pos q]
    · rw [if_neg (fun z => q z.2), if_neg q]
  have i1 : ∀ j, I' (oc + 1) j = if j = k then 2 else I (oc + 1) j := by
    intro j
    rw [h1, if_neg (by omega), if_neg (by omega), if_neg (by omega)]
    by_cases q : j = k
    · rw [if_pos ⟨rfl, q⟩, if_pos q]
    · rw [if_neg (fun z => q z.2), if_neg q]
  have g := hcs (f := I' (oc + 1)) (fun j => by rw [i1 j, i1 k, if_pos rfl]) (by rw [i1, if_pos rfl]; decide)
  refine ⟨⟨hr_fill (kl := kl) hr (by omega) (fun q j _ a _ _ b => fo q j (by omega) (by omega)) (fun j hj => fo _ _ (by omega) (by omega)) jw ?_, ?_, lwx_same hX (fun j hj => jw j (by omega)), lc_mv hC (fun d j a => fo _ _ (by omega) (by omega)), ⟨n1, ?_, ?_⟩, fun k2 hk2 => ?_, fun k2 hk2 => ?_, ⟨by rw [jw 5 (by decide)]; exact hb5.1, pts_mv hb5.2 (fun j a b => jw j (by omega))⟩, ?_⟩, fun k2 hk2 he2 => ?_⟩
  · rw [h1, if_pos ⟨rfl, rfl⟩, h2, if_pos ⟨rfl, rfl⟩, hr.2.1.1 5 (by decide)]
  · refine frl_found hF hin hm (by omega) (fun f hf => ?_) (fun q j a b => ?_) h2
    · rw [h1, if_neg (by omega), if_neg (by omega), a9, if_pos (by omega), show 6 * (J 0 32).toNat + f - 6 * (J 0 32).toNat = f by omega]
      split
      · exact hro 1 (by decide)
      · exact hro f hf
    · rw [h1, if_neg (by omega), a9]
      by_cases c : q = oc ∧ j = 9
      · rw [if_pos c, if_pos c]
      · rw [if_neg c, if_neg c, if_neg b]
  · rw [h1, if_neg (by omega), if_neg (by omega), if_neg (by omega), if_neg (by omega)]; exact n2
  · rw [show I' (oc + 5) = I (oc + 5) from funext f5, show I' (hb + 8) = I (hb + 8) from funext (fun j => fo _ _ (by omega) (by omega)), show I' (hb + 9) = I (hb + 9) from funext (fun j => fo _ _ (by omega) (by omega))]; exact n3
  · have kk := hk2.1
    rw [jw _ (by omega)]; exact hzz k2 ⟨hk2.1, by have := hk2.2; rw [jw _ (by omega)] at this; exact this⟩
  · rw [i1]
    split
    · decide
    · exact h3 k2 hk2
  · have j32 : J' 0 32 = J 0 32 + 1 := by rw [h2, if_neg (by omega), if_pos (by omega)]
    rw [j0 31 (by decide), j32, show I' (oc + 5) = I (oc + 5) from funext f5, g.1]
    omega
  · unfold eF at he2 ⊢
    rw [decide_eq_true_iff] at he2 ⊢
    obtain ⟨x1, x2, x3, x4, x5, x6, x7, x8⟩ := he2
    rw [j12] at x4
    have hne : k2 ≠ k := fun z => by rw [if_pos z] at x4; exact absurd x4 (by decide)
    rw [if_neg hne] at x4
    rw [jw _ (by omega)] at x1 x2 x5 x7 x8
    rw [j9] at x3
    rw [j0 _ (by decide)] at x5 x6 x7 x8
    exact ⟨hne, x1, x2, x3, x4, x5, x6, x7, x8⟩
end
/-! the filling's loop -/
section
variable {fu oc hb kl n : Nat} {law : List LRec} {Q : Int → IMem → Int → IMem → Prop}
theorem cv_mostP {I J : IMem} (h : FIV oc hb kl law n I J) (hd : hb + 40 ≤ oc) : par (f_C_mostPassed fu oc hb I) (fun x I' => I' = I ∧ x = if 0 < J 1 5 then (amF (eF J) (vF J true kl law) (loF J true) 240).1 else -1) := by
  unfold f_C_mostPassed
  have b1 : I (hb + 1) 4 = J 1 5 := h.1.1.1 4 (by decide)
  have hb5 := h.2.2.2.2.2.2.2.1.1
  have hn := h.2.2.2.2.1
  simp only [zl_e]
  rw [b1]
  by_cases hp : 0 < J 1 5
  · rw [if_pos hp]
    have hr := hb5
    unfold inr at hr
    rw [wr32_i2 (x := J 1 5 - 1) (by omega) (by omega)]
    refine cv_most (fu := fu) oc hb I hn.1 hn.2.1 hn.2.2 (ef_sn h) (v := vF J true kl law) (fun k hk hs => ⟨fit_iff h k hk hs, ?_⟩) (J 1 5) (J 1 5 - 1) hp fu 0 (J 1 5 - 1) (-1) (Nat.zero_le _) (nxS_0 hn.2.2 (ef_sn h) _ _)
    exact row_eq h ⟨hk, ((sn_iff h hk).mp hs).1⟩ (by decide)
  · rw [if_neg hp]
    cases fu with
    | zero => exact par_none
    | succ f =>
    show par (fb_C_mostPassed_17 (f + 1) oc hb (J 1 5) (f_C_mostPassed_17 (f + 1) oc hb (J 1 5) f) (wr32 (J 1 5 - 1)) (-1) 0 I) _
    unfold fb_C_mostPassed_17
    exact par_ite (fun _ => par_ite (fun _ => by rw [if_neg hp]; exact par_zr ⟨rfl, rfl⟩) (fun _ => par_zr ⟨rfl, rfl⟩)) (fun _ => par_zr ⟨rfl, rfl⟩)
theorem cv_worthyP {I J : IMem} (h : FIV oc hb kl law n I J) (hd : hb + 40 ≤ oc) (w2 : Int) (hw : w2 = 0 → WOK oc kl law n I J) : par (f_C_worthiest fu oc hb w2 I) (fun x I' => x = (amF (eF J) (vF J false kl law) 0 240).1 ∧ FIV oc hb kl law n I' J ∧ WOK oc kl law n I' J) := by
  have hX := h.2.2.1
  have hkl := hX.1
  have b5 : I (hb + 1) 5 = (kl : Int) := (h.1.1.1 5 (by decide)).trans hX.2.1
  have hn := h.2.2.2.2.1
  have hF := h.2.1
  unfold f_C_worthiest
  rw [ev_law fu hb I (by rw [b5]; omega), zb_zr, b5, show ((kl : Nat) : Int).toNat = kl from rfl, show ((hb + 15 + 5 * kl : Nat) : Int).toNat = hb + 15 + 5 * kl from rfl]
  refine par_mono (cv_worthy (fu := fu) oc hb kl hd hkl I J h.1.2.2.2.1 hX.2.2.1 h.2.2.2.1 hn.1 hn.2.1 hn.2.2 (ef_sn h) (fit_iff h) (v := vF J false kl law) (fun k hk => ?_) w2 (fun q => hw q) fu 0 0 (-1) I (Nat.zero_le _) (fun _ _ _ _ _ => rfl) (fun i' k hh hi' hk' hek => ?_) (nxS_0 hn.2.2 (ef_sn h) _ _)) (fun x I' ⟨g1, g2, g3⟩ => ⟨g1, fiv_same h hd hkl g2 (fun _ _ _ _ => rfl), fun i k hi hk he => ?_⟩)
  · show lval kl (WF J (k / 40) (k % 40) (J 0 30) (J 0 31)) law = _
    rw [hF.1.1, hF.1.2.1]
  · rcases hh with hh | hh
    · exact absurd hh (Nat.not_lt_zero _)
    · exact hw hh i' k hi' hk' hek
  · rw [g2 _ _ (by omega) (by omega) (by omega)] at hk
    exact g3 i k hi hk he
theorem fill_body (hd : hb + 40 ≤ oc) (kA kX : IMem → Res) (m m2 : Nat) (kA' : IMem → Res)
    (ih : ∀ (w2 w3 : Int) (I J : IMem), FIV oc hb kl law n I J → (w2 = 0 → WOK oc kl law n I J) → w3 = J 0 31 + J 0 32 → pq (f_C_fill_30 fu kA kA' oc hb m w2 w3 I) (f_X_fills_4 fu kX 0 m2 J) Q)
    (hend : ∀ I J, FIV oc hb kl law n I J → pq (kA I) (kX J) Q) (w2 w3 y : Int) (I J : IMem) (h : FIV oc hb kl law n I J) (hw : w2 = 0 → WOK oc kl law n I J) (h3 : w3 = J 0 31 + J 0 32) (hy : y = -1 ∨ ∃ k : Nat, y = (k : Int) ∧ k < 240 ∧ eF J k = true) : pq (cBODY fu oc hb kA (f_C_fill_30 fu kA kA' oc hb m) w3 w2 y I) (xB7 fu kX (f_X_fills_4 fu kX 0 m2) y J) Q := by
  unfold cBODY xB7
  rcases hy with hy | ⟨k, rfl, hk, he⟩
  · rw [if_pos hy, if_pos hy]
    exact hend I J h
  · rw [if_neg (by omega), if_neg (by omega)]
    have hkl := h.2.2.1.1
    have hs := ef_sn h k hk he
    have s := (sn_iff h hk).mp hs
    have hin : INL J k := ⟨hk, s.1⟩
    have hm := ((fit_iff h k hk hs).mp he).1
    have r1 := row_eq h hin (f := 1) (by decide)
    have r3 := row_eq h hin (f := 3) (by decide)
    have hF := h.2.1
    have hz := h.2.2.2.2.2.1 k hin
    have ek : 40 * (k / 40) + k % 40 = k := by omega
    have cnt1 := (cnt_seen h hk hs hm (f := fun j => if j = k then 1 else I (oc + 1) j) (fun j => by
      show (if j = k then (1 : Int) else I (oc + 1) j) = if j = k then (if k = k then 1 else I (oc + 1) k) else I (oc + 1) j
      rw [if_pos (rfl : k = k)]) (by show (if k = k then (1 : Int) else _) ≠ 0; rw [if_pos rfl]; decide)).2
    have hc := h.2.2.2.2.2.2.2.2
    have hn := h.2.2.2.2.1.1
    have b := hF.2.1
    rw [ev_get1 fu (hb + 6) k I hk, zb_zr, wd40 k hk, wr40 k hk, ev_of1 fu 0 (k / 40) (k % 40) J (by omega) (by omega), zb_zr, ek]
    have e1 : I (hb + 6 + 1) (6 * k + 1) = J 1 (141 + 6 * k) := by
      rw [show 141 + 6 * k = 140 + 6 * k + 1 by omega]; exact r1
    have e2 : J (0 + 1) (140 + 6 * k + 1) = J 1 (141 + 6 * k) := by rw [show 141 + 6 * k = 140 + 6 * k + 1 by omega]
    rw [e1, e2, hF.1.1]
    have w4 : wr32 (w3 + 1) = w3 + 1 := wr32_i2 (by omega) (by omega)
    rw [w4]
    refine pq_ii Iff.rfl (fun q _ => ?_) (fun q _ => ?_)
    · refine pq_bl (cv_found (fu := fu) oc hb k I hk hd (by rw [hF.1.2.2]; omega)) (fun _ I1 _ g1 => ?_)
      refine pq_gr (fun _ => pq_zwr' (fun J1 e1 => ?_))
      have c1 : J1 0 32 = J 0 32 := by rw [e1, if_neg (by omega)]
      rw [c1]
      refine pq_zlr (pq_gr (fun _ => pq_zwr' (fun J2 e2 => ?_)))
      have c2 : J2 0 32 = J 0 32 := by rw [e2, if_neg (by omega), c1]
      rw [c2, wr32_i2 (x := J 0 32 + 1) (by omega) (by omega)]
      refine pq_zwr' (fun J3 e3 => ?_)
      have c3 : J3 (0 + 1) 75 = J 1 75 := by rw [e3, if_neg (by omega), e2, if_neg (by omega), e1, if_neg (by omega)]
      rw [c3]
      refine pq_zwr' (fun J4 e4 => ?_)
      have b4 : ∀ q j, J4 q j = if q = 1 ∧ j = 75 then wr32 (J 1 75 + 1) else if q = 0 ∧ j = 32 then J 0 32 + 1 else if q = 10 ∧ j = (J 0 32).toNat then (k : Int) else if q = 12 ∧ j = k then 1 else J q j := by
        intro q j
        rw [e4, e3, e2, e1]
        simp only [Nat.zero_add]
        rfl
      obtain ⟨g2, g3⟩ := fiv_found h hd hkl he hk g1 b4
      refine ih w2 (w3 + 1) I1 J4 g2 (fun z i k2 hi hk2 he2 => ?_) ?_
      · have hk2' : I (oc + 5) i = (k2 : Int) := by
          rw [← hk2, g1, if_neg (by omega), if_neg (by omega), if_neg (by omega), if_neg (by omega)]
        have k240 : k2 < 240 := by
          obtain ⟨k3, q1, q2, _⟩ := h.2.2.2.2.1.2.2.1 i hi
          omega
        obtain ⟨x1, x2⟩ := g3 k2 k240 he2
        rw [g1, if_neg (by omega), if_neg (by omega), if_neg (by omega), if_neg (by omega), hw z i k2 hi hk2' x2]
        show lval kl (WF J (k2 / 40) (k2 % 40) (J 0 30) (J 0 31)) law = lval kl (WF J4 (k2 / 40) (k2 % 40) (J4 0 30) (J4 0 31)) law
        have j30 : J4 0 30 = J 0 30 := by rw [b4, if_neg (by omega), if_neg (by omega), if_neg (by omega), if_neg (by omega)]
        have j31 : J4 0 31 = J 0 31 := by rw [b4, if_neg (by omega), if_neg (by omega), if_neg (by omega), if_neg (by omega)]
        have jw : ∀ j, j ≠ 75 → J4 1 j = J 1 j := fun j hj => by rw [b4, if_neg (by omega), if_neg (by omega), if_neg (by omega), if_neg (by omega)]
        have : WF J4 (k2 / 40) (k2 % 40) (J 0 30) (J 0 31) = WF J (k2 / 40) (k2 % 40) (J 0 30) (J 0 31) := by
          funext y
          unfold WF
          rw [jw _ (by omega), jw _ (by omega), jw _ (by omega), jw _ (by omega), jw _ (by omega)]
        rw [j30, j31, this]
      · rw [b4, if_neg (by omega), if_neg (by omega), if_neg (by omega), if_neg (by omega), b4, if_neg (by omega), if_pos ⟨rfl, rfl⟩]
        omega
    · rw [ev_get3 fu (hb + 6) k I hk, zb_zr, ev_of1 fu 0 (k / 40) (k % 40) J (by omega) (by omega), zb_zr, ek, e2]
      have e3 : I (hb + 6 + 1) (6 * k + 3) = J 1 (140 + 6 * k + 3) := r3
      rw [e3]
      have ht : 0 ≤ J 0 31 ∧ J 0 31 < 8 := by omega
      have gt := xv_takes (fu := fu) (k / 40) (k % 40) (J 1 (141 + 6 * k)) J (by omega) (by omega) ht
      rw [ek] at gt
      refine pq_bl (cv_sit (fu := fu) oc k (J 1 (141 + 6 * k)) (J 1 (140 + 6 * k + 3)) 1 I hk (by rw [hF.1.2.1]; exact ht)) (fun _ I1 _ g1 => pq_br gt (fun _ J1 _ g2 => ?_))
      have g3 := fiv_sit h hd hkl he hk (by omega) g1 g2
      refine ih 1 (w3 + 1) I1 J1 g3 (fun z => absurd z (by decide)) ?_
      rw [g2, if_neg (by omega), if_neg (by omega), if_neg (by omega), if_pos ⟨rfl, rfl⟩, g2, if_neg (by omega), if_neg (by omega), if_neg (by omega), if_neg (by omega), if_neg (by omega), if_neg (by omega)]
      omega
theorem fill_loop (hd : hb + 40 ≤ oc) (kA kA' kX : IMem → Res) (hend : ∀ I J, FIV oc hb kl law n I J → pq (kA I) (kX J) Q) : ∀ (m m2 : Nat) (w2 w3 : Int) (I J : IMem), FIV oc hb kl law n I J → (w2 = 0 → WOK oc kl law n I J) → w3 = J 0 31 + J 0 32 → pq (f_C_fill_30 fu kA kA' oc hb m w2 w3 I) (f_X_fills_4 fu kX 0 m2 J) Q := by
  intro m
  induction m with
  | zero => intro _ _ _ _ _ _ _ _; exact pq_nl
  | succ m ih =>
    intro m2 w2 w3 I J h hw h3
    cases m2 with
    | zero => exact pq_nr
    | succ m2 =>
    show pq (fb_C_fill_30 fu kA kA' oc hb (f_C_fill_30 fu kA kA' oc hb m) w2 w3 I) (fb_X_fills_4 fu kX 0 (f_X_fills_4 fu kX 0 m2) J) Q
    rw [fill_eq, fills_eq]
    have hc := h.2.2.2.2.2.2.2.2
    have hn := h.2.2.2.2.1.1
    have cb := (cnt_nn (fun i => I (oc + 1) (I (oc + 5) i).toNat) n).2
    have hkl := h.2.2.1.1
    have hX := h.2.2.1
    have hcc : ∀ l, l < 6 → 0 ≤ J 1 (130 + l) ∧ J 1 (130 + l) ≤ 40 := fun l hl => ((hl_c h.1.2.2.2.1 hl).2)
    have hb5 := h.2.2.2.2.2.2.2.1.1
    rw [if_neg (by omega)]
    have rngy : ∀ (by1 : Bool) (lo : Int), (amF (eF J) (vF J by1 kl law) lo 240).1 = -1 ∨ ∃ k : Nat, (amF (eF J) (vF J by1 kl law) lo 240).1 = (k : Int) ∧ k < 240 ∧ eF J k = true := by
      intro by1 lo
      rcases amF_rng (e := eF J) (v := vF J by1 kl law) (lo := lo) 240 with q | ⟨k, q1, q2, q3, _⟩
      · exact Or.inl (by rw [q])
      · exact Or.inr ⟨k, q3, q1, q2⟩
    have body := fun (w2 y : Int) (I' J' : IMem) => fill_body (fu := fu) (Q := Q) hd kA kX m m2 kA' (ih m2) hend w2 w3 y I' J'
    -- by worth
    have worth : ∀ J1 : IMem, (∀ q j, q ≠ 7 → q ≠ 8 → J1 q j = J q j) → pq (zb (f_C_worthiest fu oc hb w2 I) fun y31 I32 => cBODY fu oc hb kA (f_C_fill_30 fu kA kA' oc hb m) w3 0 y31 I32) (zb (f_X_finds fu 0 0 J1) fun y26 I27 => xB7 fu kX (f_X_fills_4 fu kX 0 m2) y26 I27) Q := by
      intro J1 f1
      have h1 := fiv_same (I' := I) (J' := J1) h hd hkl (fun _ _ _ _ _ => rfl) f1
      have ee : eF J1 = eF J := ef_same f1
      have ev : vF J1 false kl law = vF J false kl law := by
        funext s
        show lval kl (WF J1 (s / 40) (s % 40) (J1 0 30) (J1 0 31)) law = lval kl (WF J (s / 40) (s % 40) (J 0 30) (J 0 31)) law
        rw [wf_same f1, f1 0 30 (by decide) (by decide), f1 0 31 (by decide) (by decide)]
      refine pq_bl (cv_worthyP (fu := fu) h hd w2 hw) (fun x I1 _ ⟨g1, g2, g3⟩ => pq_br (xv_finds (fu := fu) false 0 rfl J1 h1.2.2.1 (fun l hl => by rw [f1 1 _ (by decide) (by decide)]; exact hcc l hl) (by rw [f1 1 _ (by decide) (by decide)]; exact hb5)) (fun y J2 _ ⟨g4, g5⟩ => ?_))
      have f2 : ∀ q j, q ≠ 7 → q ≠ 8 → J2 q j = J q j := fun q j a b => (g5 q j a b).trans (f1 q j a b)
      have hxy : x = y := by
        rw [g1, g4, ee, ev]
        rfl
      subst hxy
      have h2 := fiv_same (I' := I1) (J' := J2) g2 hd hkl (fun _ _ _ _ _ => rfl) f2
      have ee2 : eF J2 = eF J := ef_same f2
      have ev2 : vF J2 false kl law = vF J false kl law := by
        funext s
        show lval kl (WF J2 (s / 40) (s % 40) (J2 0 30) (J2 0 31)) law = lval kl (WF J (s / 40) (s % 40) (J 0 30) (J 0 31)) law
        rw [wf_same f2, f2 0 30 (by decide) (by decide), f2 0 31 (by decide) (by decide)]
      refine body 0 x I1 J2 h2 (fun _ i k hi hk he => ?_) ?_ ?_
      · rw [ev2]
        rw [ee2] at he
        exact g3 i k hi hk he
      · rw [f2 0 31 (by decide) (by decide), f2 0 32 (by decide) (by decide)]; exact h3
      · rw [ee2, g1]; exact rngy false 0
    by_cases hp : 0 < J 1 5
    · rw [if_pos hp]
      refine pq_bl (cv_mostP (fu := fu) h hd) (fun x I1 _ ⟨g1, g2⟩ => pq_br (xv_finds (fu := fu) true 1 rfl J hX hcc hb5) (fun y J1 _ ⟨g4, g5⟩ => ?_))
      subst g1
      rw [if_pos hp] at g2
      have hxy : x = y := g2.trans g4.symm
      subst hxy
      unfold xB4
      by_cases hx : x = -1
      · rw [if_pos hx, if_pos hx]
        exact worth J1 g5
      · rw [if_neg hx, if_neg hx]
        have h2 := fiv_same (I' := I1) (J' := J1) h hd hkl (fun _ _ _ _ _ => rfl) g5
        have ee2 : eF J1 = eF J := ef_same g5
        refine body w2 x I1 J1 h2 (fun z i k hi hk he => ?_) ?_ ?_
        · rw [ee2] at he
          have := hw z i k hi hk he
          rw [this]
          show lval kl (WF J (k / 40) (k % 40) (J 0 30) (J 0 31)) law = lval kl (WF J1 (k / 40) (k % 40) (J1 0 30) (J1 0 31)) law
          rw [wf_same g5, g5 0 30 (by decide) (by decide), g5 0 31 (by decide) (by decide)]
        · rw [g5 0 31 (by decide) (by decide), g5 0 32 (by decide) (by decide)]; exact h3
        · rw [ee2, g2]; exact rngy true _
    · rw [if_neg hp]
      refine pq_bl (cv_mostP (fu := fu) h hd) (fun x I1 _ ⟨g1, g2⟩ => ?_)
      subst g1
      rw [if_neg hp] at g2
      rw [if_pos g2]
      unfold xB4
      rw [if_pos rfl]
      exact worth J (fun _ _ _ _ => rfl)
end
/-! one is parted, on both sides -/
/-- who may be parted, by the reference's memory -/
def pF (J : IMem) (kl : Nat) (law : List LRec) (k : Nat) : Prop := ((k % 40 : Nat) : Int) < J 1 (130 + k / 40) ∧ ¬ 0 < J 0 33 ∧ (((k % 40 : Nat) : Int) < J 1 (10 + k / 40) ∧ J 9 k = 0 ∧ J 12 k = 0) ∧ J 1 (140 + 6 * k + 3) = 0 ∧ J 1 (140 + 6 * k + 2) = J 1 (140 + 6 * k + 1) ∧ J 0 30 < J 1 (140 + 6 * k + 1) ∧ pz (J 1 (16 + J 1 (140 + 6 * k + 1)).toNat) (J 1 (140 + 6 * k + 1)) (J 0 30) ≠ 0 ∧ 1 ≤ lval kl (WF J (k / 40) (k % 40) (J 0 30) (J 0 31)) law
def pzF (J : IMem) (k : Nat) : Int := pz (J 1 (16 + J 1 (140 + 6 * k + 1)).toNat) (J 1 (140 + 6 * k + 1)) (J 0 30)
theorem pF_same {J J' : IMem} {kl : Nat} {law : List LRec} (h : ∀ q j, q ≠ 7 → q ≠ 8 → J' q j = J q j) (k : Nat) : pF J' kl law k ↔ pF J kl law k := by
  unfold pF
  rw [wf_same h]
  simp only [h 1 _ (by decide) (by decide), h 0 _ (by decide) (by decide), h 9 _ (by decide) (by decide), h 12 _ (by decide) (by decide)]
theorem ev_partOf (fu : Nat) (J : IMem) (z : Int) (h : 1 ≤ z ∧ z ≤ 8) (ha : 0 ≤ J 1 (16 + z).toNat ∧ J 1 (16 + z).toNat < z) : f_X_partOf fu 0 z J = zr (pz (J 1 (16 + z).toNat) z (J 0 30)) J := by
  unfold f_X_partOf pz
  simp only [zl_e, zj_e, Nat.zero_add]
  rw [wr32_i2 (x := 16 + z) (by omega) (by omega), zg_t (by omega), wr32_i2 (x := z - J 1 (16 + z).toNat) (by omega) (by omega)]
  generalize J 1 (16 + z).toNat = a at ha
  by_cases h0 : a = 0
  · rw [if_pos h0, if_pos h0]
  · rw [if_neg h0, if_neg h0]
    by_cases h1 : J 0 30 < a
    · rw [if_pos h1, if_neg (by omega : ¬ a ≤ J 0 30)]
      by_cases h2 : J 0 30 < z - a
      · rw [if_pos h2, if_neg (by omega : ¬ z - a ≤ J 0 30)]
      · rw [if_neg h2, if_pos (by omega : z - a ≤ J 0 30)]
        by_cases h3 : 0 < z - a
        · rw [if_pos h3, if_pos h3]
        · rw [if_neg h3, if_neg h3]
    · rw [if_neg h1, if_pos (by omega : a ≤ J 0 30)]
      by_cases h2 : J 0 30 < z - a
      · rw [if_pos h2, if_neg (by omega : ¬ z - a ≤ J 0 30)]
      · rw [if_neg h2, if_pos (by omega : z - a ≤ J 0 30)]
        by_cases h3 : a < z - a
        · rw [if_pos h3, if_pos h3]
        · rw [if_neg h3, if_neg h3]
section
variable {fu : Nat} {Q : Int → IMem → Prop}
theorem xv_part17 (kh : Int → Int → IMem → Res) (kn : IMem → Res) (J0 : IMem) {kl : Nat} {law : List LRec} (hw : LWX J0 kl law) (hz : ∀ k, INL J0 k → 1 ≤ J0 1 (141 + 6 * k) ∧ J0 1 (141 + 6 * k) ≤ 8) (hpt : PTS J0) (hd : ¬ 0 < J0 0 33) {l : Nat} (hl : l < 6) (hc : 0 ≤ J0 1 (130 + l) ∧ J0 1 (130 + l) ≤ 40) (hit : ∀ (J : IMem) (p : Nat), (∀ q j, q ≠ 7 → q ≠ 8 → J q j = J0 q j) → p < 40 → pF J0 kl law (40 * l + p) → (∀ k, k < 40 * l + p → ¬ pF J0 kl law k) → par (kh (p : Int) (J0 1 (140 + 6 * (40 * l + p) + 1)) J) Q) (non : ∀ (J : IMem), (∀ q j, q ≠ 7 → q ≠ 8 → J q j = J0 q j) → (∀ k, k < 40 * (l + 1) → ¬ pF J0 kl law k) → par (kn J) Q) : ∀ (m p : Nat) (J : IMem), (∀ q j, q ≠ 7 → q ≠ 8 → J q j = J0 q j) → (p : Int) ≤ J0 1 (130 + l) → (∀ k, k < 40 * l + p → ¬ pF J0 kl law k) → par (f_X_parts0_17 fu kh kn 0 (l : Int) m (p : Int) J) Q := by
  intro m
  induction m with
  | zero => intro _ _ _ _ _; exact par_none
  | succ m ih =>
    intro p J hJ hp hk
    show par (fb_X_parts0_17 fu kh kn 0 (l : Int) (f_X_parts0_17 fu kh kn 0 (l : Int) m) (p : Int) J) Q
    unfold fb_X_parts0_17
    have w1 : wr32 (130 + (l : Int)) = ((130 + l : Nat) : Int) := by rw [wr32_i2 (by omega) (by omega)]; omega
    have jw : ∀ j, J 1 j = J0 1 j := fun j => hJ _ _ (by decide) (by decide)
    have j0 : ∀ j, J 0 j = J0 0 j := fun j => hJ _ _ (by decide) (by decide)
    simp only [zl_e, zj_e]
    rw [w1]
    refine par_zg (fun _ => ?_)
    show par (if (p : Int) < J 1 (130 + l) then _ else _) _
    rw [jw]
    by_cases hpc : (p : Int) < J0 1 (130 + l)
    · rw [if_pos hpc]
      have hp4 : p < 40 := by omega
      have hin : INL J0 (40 * l + p) := ⟨by omega, by rw [show (40 * l + p) % 40 = p by omega, show (40 * l + p) / 40 = l by omega]; exact hpc⟩
      have wn : wr32 ((p : Int) + 1) = ((p + 1 : Nat) : Int) := by rw [wr32_i2 (by omega) (by omega)]; rfl
      rw [ev_of1 fu 0 l p J hl hp4, zb_zr, ev_isOpen fu l p J hl hp4, zb_zr, wn]
      have skip : ∀ J' : IMem, (∀ q j, q ≠ 7 → q ≠ 8 → J' q j = J0 q j) → ¬ pF J0 kl law (40 * l + p) → par (f_X_parts0_17 fu kh kn 0 (l : Int) m ((p + 1 : Nat) : Int) J') Q := fun J' h1 h2 => ih (p + 1) J' h1 (by omega) (fun k hk2 => by
        by_cases q : k = 40 * l + p
        · rw [q]; exact h2
        · exact hk k (by omega))
      have pf : pF J0 kl law (40 * l + p) ↔ ((p : Int) < J0 1 (130 + l) ∧ ¬ 0 < J0 0 33 ∧ ((p : Int) < J0 1 (10 + l) ∧ J0 9 (40 * l + p) = 0 ∧ J0 12 (40 * l + p) = 0) ∧ J0 1 (140 + 6 * (40 * l + p) + 3) = 0 ∧ J0 1 (140 + 6 * (40 * l + p) + 2) = J0 1 (140 + 6 * (40 * l + p) + 1) ∧ J0 0 30 < J0 1 (140 + 6 * (40 * l + p) + 1) ∧ pz (J0 1 (16 + J0 1 (140 + 6 * (40 * l + p) + 1)).toNat) (J0 1 (140 + 6 * (40 * l + p) + 1)) (J0 0 30) ≠ 0 ∧ 1 ≤ lval kl (WF J0 l p (J0 0 30) (J0 0 31)) law) := by
        unfold pF
        rw [show (40 * l + p) % 40 = p by omega, show (40 * l + p) / 40 = l by omega]
      have o1 : J (0 + 1) (140 + 6 * (40 * l + p) + 1) = J0 1 (140 + 6 * (40 * l + p) + 1) := jw _
      have z1 := hz _ hin
      rw [show 141 + 6 * (40 * l + p) = 140 + 6 * (40 * l + p) + 1 by omega] at z1
      rw [jw, hJ 9 _ (by decide) (by decide), hJ 12 _ (by decide) (by decide), o1]
      by_cases h1 : (p : Int) < J0 1 (10 + l) ∧ J0 9 (40 * l + p) = 0 ∧ J0 12 (40 * l + p) = 0
      · rw [if_pos h1, if_neg (by decide), ev_of3 fu 0 l p J hl hp4, zb_zr]
        show par (if J 1 (140 + 6 * (40 * l + p) + 3) = 0 then _ else _) _
        rw [jw]
        by_cases h2 : J0 1 (140 + 6 * (40 * l + p) + 3) = 0
        · rw [if_pos h2, ev_of2 fu 0 l p J hl hp4, zb_zr]
          show par (if J 1 (140 + 6 * (40 * l + p) + 2) = _ then _ else _) _
          rw [jw, j0]
          by_cases h3 : J0 1 (140 + 6 * (40 * l + p) + 2) = J0 1 (140 + 6 * (40 * l + p) + 1)
          · rw [if_pos h3]
            by_cases h4 : J0 0 30 < J0 1 (140 + 6 * (40 * l + p) + 1)
            · have pe := ev_partOf fu J (J0 1 (140 + 6 * (40 * l + p) + 1)) z1 (by rw [jw]; exact hpt _ z1.1 z1.2)
              rw [jw, j0] at pe
              rw [if_pos h4, pe, zb_zr]
              by_cases h5 : pz (J0 1 (16 + J0 1 (140 + 6 * (40 * l + p) + 1)).toNat) (J0 1 (140 + 6 * (40 * l + p) + 1)) (J0 0 30) = 0
              · rw [if_pos h5]; exact skip J hJ (fun z => (pf.mp z).2.2.2.2.2.2.1 h5)
              · rw [if_neg h5]
                have hw' := lwx_same (J' := J) hw (fun j _ => jw j)
                refine par_zb (xv_worth (fu := fu) (left := J 0 30) (taken := J 0 31) hl (by rw [jw]; exact hpc) (by rw [jw]; exact hc.2) hw'.1 hw'.2.1 hw'.2.2.1 hw'.2.2.2) (fun v J1 ⟨g1, g2⟩ => ?_)
                have hJ1 : ∀ q j, q ≠ 7 → q ≠ 8 → J1 q j = J0 q j := fun q j a c => (g2 q j a c).trans (hJ q j a c)
                rw [wf_same hJ, j0, j0] at g1
                refine par_ite (fun q => skip J1 hJ1 (fun z => by have := (pf.mp z).2.2.2.2.2.2.2; omega)) (fun q => ?_)
                exact hit J1 p hJ1 hp4 (pf.mpr ⟨hpc, hd, h1, h2, h3, h4, h5, by omega⟩) hk
            · rw [if_neg h4]; exact skip J hJ (fun z => h4 (pf.mp z).2.2.2.2.2.1)
          · rw [if_neg h3]; exact skip J hJ (fun z => h3 (pf.mp z).2.2.2.2.1)
        · rw [if_neg h2]; exact skip J hJ (fun z => h2 (pf.mp z).2.2.2.1)
      · rw [if_neg h1, if_pos rfl]; exact skip J hJ (fun z => h1 (pf.mp z).2.2.1)
    · rw [if_neg hpc]
      refine non J hJ (fun k hk2 => ?_)
      by_cases q : k < 40 * l + p
      · exact hk k q
      · intro z
        have := z.1
        rw [show k % 40 = k - 40 * l by omega, show k / 40 = l by omega] at this
        omega
theorem xv_part2 (kh : Int → Int → Int → IMem → Res) (J0 : IMem) {kl : Nat} {law : List LRec} (hw : LWX J0 kl law) (hz : ∀ k, INL J0 k → 1 ≤ J0 1 (141 + 6 * k) ∧ J0 1 (141 + 6 * k) ≤ 8) (hpt : PTS J0) (hc : ∀ l, l < 6 → 0 ≤ J0 1 (130 + l) ∧ J0 1 (130 + l) ≤ 40) (h33 : 0 ≤ J0 0 33) (hit : ∀ (J : IMem) (l p : Nat), (∀ q j, q ≠ 7 → q ≠ 8 → J q j = J0 q j) → l < 6 → p < 40 → pF J0 kl law (40 * l + p) → (∀ k, k < 40 * l + p → ¬ pF J0 kl law k) → par (kh (l : Int) (p : Int) (J0 1 (140 + 6 * (40 * l + p) + 1)) J) Q) (non : ∀ (J : IMem), (∀ q j, q ≠ 7 → q ≠ 8 → J q j = J0 q j) → (∀ k, k < 240 → ¬ pF J0 kl law k) → par (zr 0 J) Q) : ∀ (m l : Nat) (J : IMem), l ≤ 6 → (∀ q j, q ≠ 7 → q ≠ 8 → J q j = J0 q j) → (∀ k, k < 40 * l → ¬ pF J0 kl law k) → par (f_X_parts0_2 fu kh 0 m (l : Int) J) Q := by
  intro m
  induction m with
  | zero => intro _ _ _ _ _; exact par_none
  | succ m ih =>
    intro l J hl hJ hk
    show par (fb_X_parts0_2 fu kh 0 (f_X_parts0_2 fu kh 0 m) (l : Int) J) Q
    unfold fb_X_parts0_2
    have j0 : J 0 33 = J0 0 33 := hJ _ _ (by decide) (by decide)
    rw [j0]
    by_cases h6 : l < 6
    · rw [if_pos (by omega)]
      by_cases hd : J0 0 33 = 0
      · rw [if_pos hd]
        refine xv_part17 (fu := fu) _ _ J0 hw hz hpt (by omega) h6 (hc l h6) (fun J' p h1 h2 h3 h4 => hit J' l p h1 h6 h2 h3 h4) (fun J' h1 h2 => ?_) fu 0 J hJ (hc l h6).1 hk
        simp only [zl_e]
        have wn : wr32 ((l : Int) + 1) = ((l + 1 : Nat) : Int) := by rw [wr32_i2 (by omega) (by omega)]; rfl
        rw [wn]
        exact ih (l + 1) J' h6 h1 h2
      · rw [if_neg hd]
        exact non J hJ (fun k _ z => by have := z.2.1; omega)
    · rw [if_neg (by omega)]
      have : l = 6 := by omega
      subst this
      exact non J hJ hk
/-- parts0: nobody, or the first who may be parted -/
theorem xv_parts0 (J : IMem) {kl : Nat} {law : List LRec} (hw : LWX J kl law) (hz : ∀ k, INL J k → 1 ≤ J 1 (141 + 6 * k) ∧ J 1 (141 + 6 * k) ≤ 8) (hpt : PTS J) (hc : ∀ l, l < 6 → 0 ≤ J 1 (130 + l) ∧ J 1 (130 + l) ≤ 40) (h33 : 0 ≤ J 0 33) (h31 : 0 ≤ J 0 31 ∧ 0 ≤ J 0 30 ∧ J 0 30 + J 0 31 ≤ 8) : par (f_X_parts0 fu 0 J) (fun _ J' => ((∀ k, k < 240 → ¬ pF J kl law k) ∧ ∀ q j, q ≠ 7 → q ≠ 8 → J' q j = J q j) ∨ ∃ k, k < 240 ∧ pF J kl law k ∧ (∀ k', k' < k → ¬ pF J kl law k') ∧ (1 ≤ pzF J k ∧ pzF J k ≤ J 0 30 ∧ pzF J k < J 1 (141 + 6 * k)) ∧ ∀ q j, q ≠ 7 → q ≠ 8 → J' q j = if q = 0 ∧ j = 34 then wr32 (J 0 34 + (if (0 : Int) = 1 then 0 else 1)) else if q = 0 ∧ j = 33 then wr32 (J 0 33 + (if (0 : Int) = 2 then 1 else 0)) else if q = 0 ∧ j = 30 then wr32 (J 0 30 - pzF J k) else if q = 0 ∧ j = 31 then J 0 31 + 1 else if q = 11 ∧ j = (J 0 31).toNat then (k : Int) else if q = 9 ∧ j = k then pzF J k else J q j) := by
  unfold f_X_parts0
  refine xv_part2 (fu := fu) _ J hw hz hpt hc h33 (fun J1 l p h1 hl hp h2 h3 => ?_) (fun J1 h1 h2 => par_zr (Or.inl ⟨h2, h1⟩)) fu 0 J (by decide) (fun _ _ _ _ => rfl) (fun k hk => absurd hk (by omega))
  have jw : ∀ j, J1 1 j = J 1 j := fun j => h1 _ _ (by decide) (by decide)
  have j0 : ∀ j, J1 0 j = J 0 j := fun j => h1 _ _ (by decide) (by decide)
  have h2' := h2
  unfold pF at h2'
  obtain ⟨x1, x2, x3, x4, x5, x6, x7, x8⟩ := h2'
  have hin : INL J (40 * l + p) := ⟨by omega, x1⟩
  have z1 := hz _ hin
  rw [show 141 + 6 * (40 * l + p) = 140 + 6 * (40 * l + p) + 1 by omega] at z1
  have pt := hpt _ z1.1 z1.2
  have pe := ev_partOf fu J1 (J 1 (140 + 6 * (40 * l + p) + 1)) z1 (by rw [jw]; exact pt)
  rw [jw, j0] at pe
  rw [pe, zb_zr]
  have prg : 1 ≤ pzF J (40 * l + p) ∧ pzF J (40 * l + p) ≤ J 0 30 ∧ pzF J (40 * l + p) < J 1 (140 + 6 * (40 * l + p) + 1) := by
    unfold pzF
    unfold pz at x7 ⊢
    generalize J 1 (16 + J 1 (140 + 6 * (40 * l + p) + 1)).toNat = a at x7 pt ⊢
    by_cases c0 : a = 0
    · rw [if_pos c0] at x7; exact absurd rfl x7
    · rw [if_neg c0] at x7 ⊢
      split at x7 <;> rename_i c1
      · rw [if_pos c1]
        split <;> omega
      · rw [if_neg c1]
        split at x7 <;> rename_i c2
        · rw [if_pos c2]; omega
        · exact absurd rfl x7
  refine par_zb (xv_takes (fu := fu) l p (pzF J (40 * l + p)) J1 hl hp (by rw [j0]; omega)) (fun _ J2 g => par_zr (Or.inr ⟨40 * l + p, by omega, h2, h3, ⟨prg.1, prg.2.1, by rw [show 141 + 6 * (40 * l + p) = 140 + 6 * (40 * l + p) + 1 by omega]; exact prg.2.2⟩, fun q j h7 h8 => ?_⟩))
  rw [g, jw, x4, j0, j0, j0, j0, h1 q j h7 h8]
end
/-! one is parted: the class; a chair's filling, whole -/
theorem ev_plain (fu o k : Nat) (I : IMem) (hk : k < 240) : f_L_isPlainAndTrue fu o (k : Int) I = zr (if I (o + 1) (6 * k + 3) = 0 ∧ I (o + 1) (6 * k + 2) = I (o + 1) (6 * k + 1) then 1 else 0) I := by
  unfold f_L_isPlainAndTrue
  rw [ev_get3 fu o k I hk, zb_zr]
  by_cases h : I (o + 1) (6 * k + 3) = 0
  · rw [if_pos h, ev_get2 fu o k I hk, zb_zr, ev_get1 fu o k I hk, zb_zr]
    by_cases h2 : I (o + 1) (6 * k + 2) = I (o + 1) (6 * k + 1)
    · rw [if_pos h2, if_pos ⟨h, h2⟩]
    · rw [if_neg h2, if_neg (fun q => h2 q.2)]
  · rw [if_neg h, if_neg (fun q => h q.1)]
/-- the greater part that fits, in the class -/
theorem ev_cpart (fu oc hb k : Nat) (I : IMem) (hk : k < 240) (hz : 1 ≤ I (hb + 7) (6 * k + 1) ∧ I (hb + 7) (6 * k + 1) ≤ 8) (ha : 0 ≤ I (hb + 3) (I (hb + 7) (6 * k + 1)).toNat ∧ I (hb + 3) (I (hb + 7) (6 * k + 1)).toNat < I (hb + 7) (6 * k + 1)) : f_C_partThatFits fu oc hb (k : Int) I = zr (if I oc 7 < I (hb + 7) (6 * k + 1) ∧ I (oc + 1) k = 0 ∧ I (hb + 7) (6 * k + 3) = 0 ∧ I (hb + 7) (6 * k + 2) = I (hb + 7) (6 * k + 1) then pz (I (hb + 3) (I (hb + 7) (6 * k + 1)).toNat) (I (hb + 7) (6 * k + 1)) (I oc 7) else 0) I := by
  unfold f_C_partThatFits
  rw [ev_get1 fu (hb + 6) k I hk, zb_zr]
  show (if I oc 7 < I (hb + 7) (6 * k + 1) then _ else _) = _
  by_cases h1 : I oc 7 < I (hb + 7) (6 * k + 1)
  · rw [if_pos h1, ev_cstands fu oc k I hk, zb_zr]
    by_cases h2 : I (oc + 1) k = 0
    · rw [if_pos h2, if_neg (by decide), ev_plain fu (hb + 6) k I hk, zb_zr]
      by_cases h3 : I (hb + 7) (6 * k + 3) = 0 ∧ I (hb + 7) (6 * k + 2) = I (hb + 7) (6 * k + 1)
      · rw [if_pos h3, if_neg (by decide), if_pos ⟨h1, h2, h3⟩]
        simp only [zj_e]
        have e1 : I (hb + 6 + 1) (6 * k + 1) = I (hb + 7) (6 * k + 1) := rfl
        rw [e1, if_neg (by omega), if_neg (by omega), zg_t (by omega)]
        generalize I (hb + 7) (6 * k + 1) = z at hz ha h1
        generalize I (hb + 3) z.toNat = a at ha
        unfold pz
        by_cases h0 : a = 0
        · rw [if_pos h0, if_pos h0]
        · rw [if_neg h0, if_neg h0, wr32_i2 (x := z - a) (by omega) (by omega), ev_max, zb_zr]
          by_cases g : a < z - a
          · rw [if_pos g]
            by_cases g1 : I oc 7 < z - a
            · rw [if_pos g1, if_neg (by omega : ¬ z - a ≤ I oc 7), wr32_i2 (x := z - (z - a)) (by omega) (by omega)]
              by_cases g2 : I oc 7 < a
              · rw [if_pos (by omega : I oc 7 < z - (z - a)), if_neg (by omega : ¬ a ≤ I oc 7)]
              · rw [if_neg (by omega : ¬ I oc 7 < z - (z - a)), if_pos (by omega : a ≤ I oc 7)]
                congr 1
                omega
            · rw [if_neg g1, if_pos (by omega : z - a ≤ I oc 7), if_pos (by omega : a ≤ I oc 7), if_pos g]
          · rw [if_neg g]
            by_cases g1 : I oc 7 < a
            · rw [if_pos g1, wr32_i2 (x := z - a) (by omega) (by omega), if_neg (by omega : ¬ a ≤ I oc 7)]
              by_cases g2 : I oc 7 < z - a
              · rw [if_pos g2, if_neg (by omega : ¬ z - a ≤ I oc 7)]
              · rw [if_neg g2, if_pos (by omega : z - a ≤ I oc 7), if_pos (by omega)]
            · rw [if_neg g1, if_pos (by omega : a ≤ I oc 7)]
              by_cases g2 : z - a ≤ I oc 7
              · rw [if_pos g2, if_neg g]
              · rw [if_neg g2]
      · rw [if_neg h3, if_pos rfl, if_neg (fun q => h3 q.2.2)]
    · rw [if_neg h2, if_pos rfl, if_neg (fun q => h2 q.2.1)]
  · rw [if_neg h1, if_neg (fun q => h1 q.1)]
theorem pz_nn {a z l : Int} (ha : 0 ≤ a ∧ a < z) : 0 ≤ pz a z l := by
  unfold pz
  split
  · omega
  · split
    · split
      · split <;> omega
      · split <;> omega
    · split <;> omega
theorem pz_le {a z l : Int} (ha : 0 ≤ a ∧ a < z) : pz a z l ≤ z := by
  unfold pz
  split
  · omega
  · split
    · split
      · split <;> omega
      · split <;> omega
    · split <;> omega
theorem pz_left {a z l : Int} (h : 0 < pz a z l) : pz a z l ≤ l := by
  unfold pz at h ⊢
  split at h
  · omega
  · rename_i h0
    rw [if_neg h0]
    split at h
    · rename_i h1
      rw [if_pos h1]
      split at h
      · rename_i h2
        rw [if_pos h2]; exact h1
      · rename_i h2
        rw [if_neg h2]
        split at h
        · rename_i h3; rw [if_pos h3]; exact h3
        · omega
    · rename_i h1
      rw [if_neg h1]
      split at h
      · rename_i h3; rw [if_pos h3]; exact h3
      · omega
section
variable {fu oc hb kl n : Nat} {law : List LRec} {Q : Int → IMem → Prop}
theorem pF_iff {I J : IMem} (h : FIV oc hb kl law n I J) (hpt : PTS J) {k : Nat} (hk : k < 240) (hs : SN (I (hb + 8)) (I (hb + 9)) (-1) k) : pF J kl law k ↔ (I oc 10 = 0 ∧ (I oc 7 < I (hb + 7) (6 * k + 1) ∧ I (oc + 1) k = 0 ∧ I (hb + 7) (6 * k + 3) = 0 ∧ I (hb + 7) (6 * k + 2) = I (hb + 7) (6 * k + 1)) ∧ 0 < pz (I (hb + 3) (I (hb + 7) (6 * k + 1)).toNat) (I (hb + 7) (6 * k + 1)) (I oc 7) ∧ 0 < lval kl (WF J (k / 40) (k % 40) (J 0 30) (J 0 31)) law) ∧ pzF J k = pz (I (hb + 3) (I (hb + 7) (6 * k + 1)).toNat) (I (hb + 7) (6 * k + 1)) (I oc 7) := by
  have s := (sn_iff h hk).mp hs
  have hin : INL J k := ⟨hk, s.1⟩
  have r1 := row_eq h hin (f := 1) (by decide)
  have r2 := row_eq h hin (f := 2) (by decide)
  have r3 := row_eq h hin (f := 3) (by decide)
  have z1 := h.2.2.2.2.2.1 k hin
  rw [show 141 + 6 * k = 140 + 6 * k + 1 by omega] at z1
  have hF := h.2.1
  have mk := hF.2.2.2.2.1 k hk
  have h33 := hF.2.2.1
  have pt := hpt _ z1.1 z1.2
  have p3 : I (hb + 3) (J 1 (140 + 6 * k + 1)).toNat = J 1 (16 + J 1 (140 + 6 * k + 1)).toNat := by
    rw [h.1.1.2.2.2.2.1 _ (by omega) (by omega)]
    congr 1
    omega
  have nn := pz_nn (l := J 0 30) pt
  rw [r1, r2, r3, p3, hF.1.1]
  unfold pzF pF
  unfold MKR at mk
  refine ⟨⟨fun ⟨x1, x2, x3, x4, x5, x6, x7, x8⟩ => ⟨by omega, ⟨x6, by omega, x4, x5⟩, by omega, by omega⟩, fun ⟨y1, ⟨y2, y3, y4, y5⟩, y6, y7⟩ => ⟨s.1, by omega, ⟨s.2, by omega, by omega⟩, y4, y5, y2, by omega, by omega⟩⟩, rfl⟩
/-- what the class writes when one is parted -/
def cPT (oc hb kl k : Nat) (part : Int) (I I' : IMem) : Prop := ∀ q j, q ≠ hb + 13 → q ≠ hb + 15 + 5 * kl + 4 → I' q j = if q = hb + 7 ∧ (j = 6 * k + 1 ∨ j = 6 * k + 2) then I (hb + 7) (6 * k + 1) - part else if q = oc ∧ j = 11 then (if I oc 11 = 0 then (if (0 : Int) = 1 then 0 else 1) else 1) else if q = oc ∧ j = 10 then (if I oc 10 = 0 then (if (0 : Int) = 2 then 1 else 0) else 1) else if q = oc ∧ j = 7 then wr32 (I oc 7 - part) else if q = oc ∧ j = 8 then I oc 8 + 1 else if q = oc + 3 ∧ j = (I oc 8).toNat then part else if q = oc + 2 ∧ j = (I oc 8).toNat then (k : Int) else if q = oc + 1 ∧ j = k then 3 else I q j
theorem ev_put (fu o k f : Nat) (v : Int) (I : IMem) (hk : k < 240) (hf : f < 6) : f_L_put fu o (k : Int) (f : Int) v I = zw I (o + 1) (6 * k + f) v fun I2 => zr 0 I2 := by
  unfold f_L_put
  have e : wr32 (wr32 ((k : Int) * 6) + (f : Int)) = ((6 * k + f : Nat) : Int) := by
    rw [wr32_i2 (x := (k : Int) * 6) (by omega) (by omega), wr32_i2 (by omega) (by omega)]; omega
  simp only [zl_e]
  rw [e, if_neg (by omega), if_pos (by omega), zg_t (by omega)]
  rfl
theorem ev_put1 (fu o k : Nat) (v : Int) (I : IMem) (hk : k < 240) : f_L_put fu o (k : Int) 1 v I = zw I (o + 1) (6 * k + 1) v fun I2 => zr 0 I2 := ev_put fu o k 1 v I hk (by decide)
theorem ev_put2 (fu o k : Nat) (v : Int) (I : IMem) (hk : k < 240) : f_L_put fu o (k : Int) 2 v I = zw I (o + 1) (6 * k + 2) v fun I2 => zr 0 I2 := ev_put fu o k 2 v I hk (by decide)
theorem ev_put4 (fu o k : Nat) (v : Int) (I : IMem) (hk : k < 240) : f_L_put fu o (k : Int) 4 v I = zw I (o + 1) (6 * k + 4) v fun I2 => zr 0 I2 := ev_put fu o k 4 v I hk (by decide)
theorem ev_put5 (fu o k : Nat) (v : Int) (I : IMem) (hk : k < 240) : f_L_put fu o (k : Int) 5 v I = zw I (o + 1) (6 * k + 5) v fun I2 => zr 0 I2 := ev_put fu o k 5 v I hk (by decide)
theorem zb_zw (I : IMem) (o j : Nat) (v : Int) (k1 : IMem → Res) (k : Int → IMem → Res) : zb (zw I o j v k1) k = zw I o j v fun I2 => zb (k1 I2) k := rfl
theorem cv_part2 (hd : hb + 40 ≤ oc) {I0 J : IMem} (h : FIV oc hb kl law n I0 J) (hpt : PTS J) : ∀ (m i : Nat) (I : IMem), i ≤ n → (∀ q j, q ≠ hb + 13 → q ≠ hb + 15 + 5 * kl + 4 → I q j = I0 q j) → (∀ i' k, i' < i → I0 (oc + 5) i' = ((k : Nat) : Int) → ¬ pF J kl law k) → par (f_C_partOne_2 fu (fun (x18 : Int) (x19 : Int) (I17 : IMem) => zb (f_L_get fu (hb + 6) x18 1 I17) fun y20 I21 => zl (wr32 (y20 - x19)) fun x23 => zb (f_C_sit fu oc x18 x19 0 3 I21) fun _ I25 => zb (f_L_put fu (hb + 6) x18 1 x23 I25) fun _ I28 => zb (f_L_put fu (hb + 6) x18 2 x23 I28) fun _ I31 => zr 0 I31) oc hb m (i : Int) I) (fun _ I' => ((∀ k, k < 240 → ¬ pF J kl law k) ∧ ∀ q j, q ≠ hb + 13 → q ≠ hb + 15 + 5 * kl + 4 → I' q j = I0 q j) ∨ ∃ k, k < 240 ∧ pF J kl law k ∧ (∀ k', k' < k → ¬ pF J kl law k') ∧ cPT oc hb kl k (pzF J k) I0 I') := by
  have hkl := h.2.2.1.1
  have hX := h.2.2.1
  have hS := h.2.2.2.2.1
  have hF := h.2.1
  have b5 : I0 (hb + 1) 5 = (kl : Int) := (h.1.1.1 5 (by decide)).trans hX.2.1
  have psn : ∀ k, k < 240 → pF J kl law k → SN (I0 (hb + 8)) (I0 (hb + 9)) (-1) k := fun k hk z => (sn_iff h hk).mpr ⟨z.1, z.2.2.1.1⟩
  intro m
  induction m with
  | zero => intro _ _ _ _ _; exact par_none
  | succ m ih =>
    intro i I hi hI hno
    show par (fb_C_partOne_2 fu _ oc hb (f_C_partOne_2 fu _ oc hb m) (i : Int) I) _
    unfold fb_C_partOne_2
    have i5 : I oc 5 = (n : Int) := (hI _ _ (by omega) (by omega)).trans hS.2.1
    have i10 : I oc 10 = I0 oc 10 := hI _ _ (by omega) (by omega)
    rw [i5, i10]
    by_cases hin : i < n
    · rw [if_pos (by omega), if_pos (by omega)]
      by_cases hdear : I0 oc 10 = 0
      · rw [if_pos hdear]
        obtain ⟨k, k1, k2, k3⟩ := hS.2.2.1 i hin
        have ik : I (oc + 5) i = (k : Int) := (hI _ _ (by omega) (by omega)).trans k2
        have hpf := pF_iff h hpt k1 k3
        have s := (sn_iff h k1).mp k3
        have hink : INL J k := ⟨k1, s.1⟩
        have r1 := row_eq h hink (f := 1) (by decide)
        have z1 := h.2.2.2.2.2.1 k hink
        rw [show 141 + 6 * k = 140 + 6 * k + 1 by omega] at z1
        have pt := hpt _ z1.1 z1.2
        have p3 : I0 (hb + 3) (I0 (hb + 7) (6 * k + 1)).toNat = J 1 (16 + J 1 (140 + 6 * k + 1)).toNat := by
          rw [r1, h.1.1.2.2.2.2.1 _ (by omega) (by omega)]
          congr 1
          omega
        refine par_zg (fun _ => ?_)
        simp only [zl_e, zj_e]
        have wn : wr32 ((i : Int) + 1) = ((i + 1 : Nat) : Int) := by rw [wr32_i2 (by omega) (by omega)]; rfl
        have t7 : ∀ j, I (hb + 7) j = I0 (hb + 7) j := fun j => hI _ _ (by omega) (by omega)
        have t3 : ∀ j, I (hb + 3) j = I0 (hb + 3) j := fun j => hI _ _ (by omega) (by omega)
        have ec := ev_cpart fu oc hb k I k1 (by rw [t7, r1]; exact z1) (by rw [t7, t3, p3, r1]; exact pt)
        rw [t7, t7, t7, t3, hI oc 7 (by omega) (by omega), hI (oc + 1) k (by omega) (by omega)] at ec
        rw [show ((i : Nat) : Int).toNat = i from rfl, ik, ec, zb_zr, wn]
        have skip : ∀ I' : IMem, (∀ q j, q ≠ hb + 13 → q ≠ hb + 15 + 5 * kl + 4 → I' q j = I0 q j) → ¬ pF J kl law k → par (f_C_partOne_2 fu (fun (x18 : Int) (x19 : Int) (I17 : IMem) => zb (f_L_get fu (hb + 6) x18 1 I17) fun y20 I21 => zb (f_C_sit fu oc x18 x19 0 3 I21) fun _ I25 => zb (f_L_put fu (hb + 6) x18 1 (wr32 (y20 - x19)) I25) fun _ I28 => zb (f_L_put fu (hb + 6) x18 2 (wr32 (y20 - x19)) I28) fun _ I31 => zr 0 I31) oc hb m ((i + 1 : Nat) : Int) I') (fun _ I' => ((∀ k, k < 240 → ¬ pF J kl law k) ∧ ∀ q j, q ≠ hb + 13 → q ≠ hb + 15 + 5 * kl + 4 → I' q j = I0 q j) ∨ ∃ k, k < 240 ∧ pF J kl law k ∧ (∀ k', k' < k → ¬ pF J kl law k') ∧ cPT oc hb kl k (pzF J k) I0 I') := fun I' h1 h2 => ih (i + 1) I' hin h1 (fun i' k' hi' hk' => by
          by_cases q : i' = i
          · subst q
            have : k' = k := by omega
            rw [this]; exact h2
          · exact hno i' k' (by omega) hk')
        generalize hv : (if I0 oc 7 < I0 (hb + 7) (6 * k + 1) ∧ I0 (oc + 1) k = 0 ∧ I0 (hb + 7) (6 * k + 3) = 0 ∧ I0 (hb + 7) (6 * k + 2) = I0 (hb + 7) (6 * k + 1) then pz (I0 (hb + 3) (I0 (hb + 7) (6 * k + 1)).toNat) (I0 (hb + 7) (6 * k + 1)) (I0 oc 7) else 0) = part
        by_cases hpos : 0 < part
        · rw [if_pos hpos]
          have hcond : I0 oc 7 < I0 (hb + 7) (6 * k + 1) ∧ I0 (oc + 1) k = 0 ∧ I0 (hb + 7) (6 * k + 3) = 0 ∧ I0 (hb + 7) (6 * k + 2) = I0 (hb + 7) (6 * k + 1) := by
            rcases Classical.em (I0 oc 7 < I0 (hb + 7) (6 * k + 1) ∧ I0 (oc + 1) k = 0 ∧ I0 (hb + 7) (6 * k + 3) = 0 ∧ I0 (hb + 7) (6 * k + 2) = I0 (hb + 7) (6 * k + 1)) with q | q
            · exact q
            · rw [if_neg q] at hv; omega
          rw [if_pos hcond] at hv
          have hL1 : HL hb 1 I J := hl_mv h.1.2.2.2.1 (fun j => ⟨t7 j, hI _ _ (by omega) (by omega)⟩) (fun _ _ _ => rfl)
          have ek : (k : Nat) = 40 * (k / 40) + k % 40 := by omega
          have gw := cv_facts (fu := fu) (hb := hb) (l := k / 40) (p := k % 40) (left := I0 oc 7) (taken := I0 oc 8) (s := (kl : Int)) (I := I) (J := J) (by omega) hL1 (by omega) s.1
          rw [← ek] at gw
          rw [hI oc 7 (by omega) (by omega), hI oc 8 (by omega) (by omega)]
          refine par_zb gw (fun _ I1 ⟨g1, g2⟩ => ?_)
          have hI1 : ∀ q j, q ≠ hb + 13 → q ≠ hb + 15 + 5 * kl + 4 → I1 q j = I0 q j := fun q j a b => (g1 q j a).trans (hI q j a b)
          have b51 : I1 (hb + 1) 5 = (kl : Int) := (hI1 _ _ (by omega) (by omega)).trans b5
          rw [ev_law fu hb I1 (by rw [b51]; omega), zb_zr, b51, show ((kl : Nat) : Int).toNat = kl from rfl, show ((hb + 15 + 5 * kl : Nat) : Int).toNat = hb + 15 + 5 * kl from rfl]
          have hlc1 : LC (hb + 15 + 5 * kl) kl law I1 := lc_mv h.2.2.2.1 (fun d j hd => hI1 _ _ (by omega) (by omega))
          refine par_zb (cv_value (F := WF J (k / 40) (k % 40) (I0 oc 7) (I0 oc 8)) (fun d hd => by omega) hX.2.2.1 I1 hlc1 g2) (fun y I2 ⟨g3, g4⟩ => ?_)
          have hI2 : ∀ q j, q ≠ hb + 13 → q ≠ hb + 15 + 5 * kl + 4 → I2 q j = I0 q j := fun q j a b => (g4 q j b).trans (hI1 q j a b)
          rw [hF.1.1, hF.1.2.1] at g3
          refine par_ite (fun q => ?_) (fun q => skip I2 hI2 (fun z => by have := (hpf.1.mp z).2.2.2; omega))
          have hpk : pF J kl law k := hpf.1.mpr ⟨hdear, hcond, by rw [hv]; exact hpos, by omega⟩
          have hpe : pzF J k = part := by rw [hpf.2]; exact hv
          have e21 : I2 (hb + 6 + 1) (6 * k + 1) = I0 (hb + 7) (6 * k + 1) := hI2 _ _ (by omega) (by omega)
          rw [ev_get1 fu (hb + 6) k I2 k1, zb_zr, e21]
          have za : 1 ≤ I0 (hb + 7) (6 * k + 1) ∧ I0 (hb + 7) (6 * k + 1) ≤ 8 := by rw [r1]; exact z1
          have aa : 0 ≤ I0 (hb + 3) (I0 (hb + 7) (6 * k + 1)).toNat ∧ I0 (hb + 3) (I0 (hb + 7) (6 * k + 1)).toNat < I0 (hb + 7) (6 * k + 1) := by rw [p3, r1]; exact pt
          have pub : part ≤ I0 (hb + 7) (6 * k + 1) := by rw [← hv]; exact pz_le aa
          have plf : part ≤ I0 oc 7 := by rw [← hv]; exact pz_left (by rw [hv]; exact hpos)
          have w5 : wr32 (I0 (hb + 7) (6 * k + 1) - part) = I0 (hb + 7) (6 * k + 1) - part := wr32_i2 (by omega) (by omega)
          rw [w5]
          have ht : 0 ≤ I2 oc 8 ∧ I2 oc 8 < 8 := by
            rw [hI2 oc 8 (by omega) (by omega), hF.1.2.1]
            have := hF.2.1
            have h7 := hF.1.1
            omega
          refine par_zb (cv_sit (fu := fu) oc k part 0 3 I2 k1 ht) (fun _ I3 g5 => ?_)
          rw [ev_put1 fu (hb + 6) k _ I3 k1, zb_zw]
          refine par_zw' (fun I4 e4 => ?_)
          rw [zb_zr, ev_put2 fu (hb + 6) k _ I4 k1, zb_zw]
          refine par_zw' (fun I5 e5 => par_zr (Or.inr ⟨k, k1, hpk, fun k' hk' z => ?_, fun q j a b => ?_⟩))
          · obtain ⟨i', j1, j2⟩ := hS.2.2.2.2 k' (by omega) (psn k' (by omega) z)
            have : i' < i := by
              rcases Nat.lt_trichotomy i' i with w | w | w
              · exact w
              · subst w; omega
              · have := hS.2.2.2.1 i i' w j1; omega
            exact hno i' k' this j2 z
          · rw [e5, e4, g5, hpe]
            rw [hI2 q j a b, hI2 oc 11 (by omega) (by omega), hI2 oc 10 (by omega) (by omega), hI2 oc 7 (by omega) (by omega), hI2 oc 8 (by omega) (by omega)]
            by_cases c2 : q = hb + 7 ∧ (j = 6 * k + 1 ∨ j = 6 * k + 2)
            · rw [if_pos c2]
              by_cases c3 : j = 6 * k + 2
              · rw [if_pos (by omega)]
              · rw [if_neg (by omega), if_pos (by omega)]
            · rw [if_neg c2, if_neg (by omega), if_neg (by omega)]
        · rw [if_neg hpos]
          refine skip I hI (fun z => ?_)
          have zz := hpf.1.mp z
          rw [if_pos zz.2.1] at hv
          have := zz.2.2.1
          omega
      · rw [if_neg hdear]
        refine par_zr (Or.inl ⟨fun k hk z => ?_, hI⟩)
        have := hF.2.2.1.1
        have := z.2.1
        omega
    · rw [if_neg (by omega)]
      refine par_zr (Or.inl ⟨fun k hk z => ?_, hI⟩)
      obtain ⟨i', j1, j2⟩ := hS.2.2.2.2 k hk (psn k hk z)
      exact hno i' k (by omega) j2 z
/-- partOne: nobody, or the first who may be parted -/
theorem cv_partOne (hd : hb + 40 ≤ oc) {I J : IMem} (h : FIV oc hb kl law n I J) (hpt : PTS J) : par (f_C_partOne fu oc hb I) (fun _ I' => ((∀ k, k < 240 → ¬ pF J kl law k) ∧ ∀ q j, q ≠ hb + 13 → q ≠ hb + 15 + 5 * kl + 4 → I' q j = I q j) ∨ ∃ k, k < 240 ∧ pF J kl law k ∧ (∀ k', k' < k → ¬ pF J kl law k') ∧ cPT oc hb kl k (pzF J k) I I') :=
  cv_part2 hd h hpt fu 0 I (Nat.zero_le _) (fun _ _ _ _ => rfl) (fun _ _ hi => absurd hi (Nat.not_lt_zero _))
end
/-! a chair's filling, from its start -/
section
variable {fu : Nat}
theorem cv_zero (o : Nat) : ∀ (m i : Nat) (I : IMem), i ≤ 240 → (∀ j, j < i → I o j = 0) → par (f_JA_fill_5 fu o 240 0 240 m (i : Int) I) (fun _ I' => (∀ j, j < 240 → I' o j = 0) ∧ ∀ q, q ≠ o → I' q = I q) := by
  intro m
  induction m with
  | zero => intro _ _ _ _; exact par_none
  | succ m ih =>
    intro i I hi hz
    show par (fb_JA_fill_5 fu o 240 0 240 (f_JA_fill_5 fu o 240 0 240 m) (i : Int) I) _
    unfold fb_JA_fill_5
    by_cases h : i < 240
    · rw [if_pos (by omega)]
      refine par_zg (fun _ => par_zw' (fun I1 e1 => ?_))
      rw [show ((i : Nat) : Int).toNat = i from rfl] at e1
      simp only [zl_e]
      have wn : wr32 ((i : Int) + 1) = ((i + 1 : Nat) : Int) := by rw [wr32_i2 (by omega) (by omega)]; rfl
      rw [wn]
      refine par_mono (ih (i + 1) I1 h (fun j hj => ?_)) (fun _ I2 ⟨g1, g2⟩ => ⟨g1, fun q hq => ?_⟩)
      · rw [e1]
        by_cases z : j = i
        · rw [if_pos ⟨rfl, z⟩]
        · rw [if_neg (fun y => z y.2)]; exact hz j (by omega)
      · rw [g2 q hq]
        funext j
        rw [e1, if_neg (fun y => hq y.1)]
    · rw [if_neg (by omega)]
      exact par_zr ⟨fun j hj => hz j (by omega), fun _ _ => rfl⟩
theorem cv_clear (oc : Nat) (a : Int) (I : IMem) : par (f_C_clear fu oc a I) (fun _ I' => (∀ j, j < 240 → I' (oc + 1) j = 0) ∧ (I' oc 7 = a ∧ I' oc 8 = 0 ∧ I' oc 9 = 0 ∧ I' oc 10 = 0 ∧ I' oc 11 = 0) ∧ ∀ q j, q ≠ oc + 1 → ¬ (q = oc ∧ 7 ≤ j ∧ j ≤ 11) → I' q j = I q j) := by
  unfold f_C_clear f_JA_fill
  simp only [zl_e]
  refine par_zb (cv_zero (oc + 1) fu 0 I (by decide) (fun j hj => absurd hj (Nat.not_lt_zero _))) (fun _ I1 ⟨g1, g2⟩ => ?_)
  refine par_zw' (fun I2 e2 => par_zw' (fun I3 e3 => par_zw' (fun I4 e4 => par_zw' (fun I5 e5 => par_zw' (fun I6 e6 => par_zr ⟨fun j hj => ?_, ⟨?_, ?_, ?_, ?_, ?_⟩, fun q j h1 h2 => ?_⟩)))))
  · rw [e6, if_neg (by omega), e5, if_neg (by omega), e4, if_neg (by omega), e3, if_neg (by omega), e2, if_neg (by omega)]; exact g1 j hj
  · rw [e6, if_neg (by omega), e5, if_neg (by omega), e4, if_neg (by omega), e3, if_neg (by omega), e2, if_pos ⟨rfl, rfl⟩]
  · rw [e6, if_neg (by omega), e5, if_neg (by omega), e4, if_neg (by omega), e3, if_pos ⟨rfl, rfl⟩]
  · rw [e6, if_neg (by omega), e5, if_neg (by omega), e4, if_pos ⟨rfl, rfl⟩]
  · rw [e6, if_neg (by omega), e5, if_pos ⟨rfl, rfl⟩]
  · rw [e6, if_pos ⟨rfl, rfl⟩]
  · rw [e6, if_neg (by omega), e5, if_neg (by omega), e4, if_neg (by omega), e3, if_neg (by omega), e2, if_neg (by omega), g2 q h1]
theorem xv_beg2 {Q : Int → IMem → Prop} (kk : IMem → Res) (J0 : IMem) (hk : ∀ J, (∀ j, j < 240 → J 9 j = 0 ∧ J 12 j = 0) → (∀ q j, q ≠ 9 → q ≠ 12 → J q j = J0 q j) → par (kk J) Q) : ∀ (m i : Nat) (J : IMem), i ≤ 240 → (∀ j, j < i → J 9 j = 0 ∧ J 12 j = 0) → (∀ q j, q ≠ 9 → q ≠ 12 → J q j = J0 q j) → par (f_X_begins_2 fu kk 0 m (i : Int) J) Q := by
  intro m
  induction m with
  | zero => intro _ _ _ _ _; exact par_none
  | succ m ih =>
    intro i J hi hz hf
    show par (fb_X_begins_2 fu kk 0 (f_X_begins_2 fu kk 0 m) (i : Int) J) _
    unfold fb_X_begins_2
    by_cases h : i < 240
    · rw [if_pos (by omega)]
      refine par_zg (fun _ => par_zw' (fun I1 e1 => par_zg (fun _ => par_zw' (fun I2 e2 => ?_))))
      rw [show ((i : Nat) : Int).toNat = i from rfl] at e1 e2
      simp only [zl_e]
      have wn : wr32 ((i : Int) + 1) = ((i + 1 : Nat) : Int) := by rw [wr32_i2 (by omega) (by omega)]; rfl
      rw [wn]
      refine ih (i + 1) I2 h (fun j hj => ⟨?_, ?_⟩) (fun q j h1 h2 => ?_)
      · rw [e2, if_neg (by omega), e1]
        by_cases z : j = i
        · rw [if_pos (by omega)]
        · rw [if_neg (by omega)]; exact (hz j (by omega)).1
      · rw [e2]
        by_cases z : j = i
        · rw [if_pos (by omega)]
        · rw [if_neg (by omega), e1, if_neg (by omega)]; exact (hz j (by omega)).2
      · rw [e2, if_neg (by omega), e1, if_neg (by omega)]; exact hf q j h1 h2
    · rw [if_neg (by omega)]
      exact hk J (fun j hj => hz j (by omega)) hf
theorem xv_begins (J : IMem) : par (f_X_begins fu 0 J) (fun _ J' => (∀ j, j < 240 → J' 9 j = 0 ∧ J' 12 j = 0) ∧ (J' 0 30 = J 1 1 ∧ J' 0 31 = 0 ∧ J' 0 32 = 0 ∧ J' 0 33 = 0 ∧ J' 0 34 = 0) ∧ ∀ q j, q ≠ 9 → q ≠ 12 → ¬ (q = 0 ∧ 30 ≤ j ∧ j ≤ 34) → J' q j = J q j) := by
  unfold f_X_begins
  refine xv_beg2 (fu := fu) _ J (fun J1 g1 g2 => ?_) fu 0 J (by decide) (fun j hj => absurd hj (Nat.not_lt_zero _)) (fun _ _ _ _ => rfl)
  refine par_zw' (fun I2 e2 => par_zw' (fun I3 e3 => par_zw' (fun I4 e4 => par_zw' (fun I5 e5 => par_zw' (fun I6 e6 => par_zr ⟨fun j hj => ⟨?_, ?_⟩, ⟨?_, ?_, ?_, ?_, ?_⟩, fun q j h1 h2 h3 => ?_⟩)))))
  · rw [e6, if_neg (by omega), e5, if_neg (by omega), e4, if_neg (by omega), e3, if_neg (by omega), e2, if_neg (by omega)]; exact (g1 j hj).1
  · rw [e6, if_neg (by omega), e5, if_neg (by omega), e4, if_neg (by omega), e3, if_neg (by omega), e2, if_neg (by omega)]; exact (g1 j hj).2
  · rw [e6, if_neg (by omega), e5, if_neg (by omega), e4, if_neg (by omega), e3, if_neg (by omega), e2, if_pos ⟨rfl, rfl⟩]; exact g2 1 1 (by decide) (by decide)
  · rw [e6, if_neg (by omega), e5, if_neg (by omega), e4, if_neg (by omega), e3, if_pos ⟨rfl, rfl⟩]
  · rw [e6, if_neg (by omega), e5, if_neg (by omega), e4, if_pos ⟨rfl, rfl⟩]
  · rw [e6, if_neg (by omega), e5, if_pos ⟨rfl, rfl⟩]
  · rw [e6, if_pos ⟨rfl, rfl⟩]
  · rw [e6, if_neg (by omega), e5, if_neg (by omega), e4, if_neg (by omega), e3, if_neg (by omega), e2, if_neg (by omega), g2 q j h1 h2]
end
/-- the rows once one is parted in the class -/
def HLP (oc hb : Nat) (I J : IMem) : Prop := ∀ l, l < 6 → I (hb + 8) l = J 1 (130 + l) ∧ (0 ≤ J 1 (130 + l) ∧ J 1 (130 + l) ≤ 40) ∧ ∀ p f, (p : Int) < J 1 (130 + l) → f < 6 → I (hb + 7) (6 * (40 * l + p) + f) = if I (oc + 1) (40 * l + p) = 3 ∧ (f = 1 ∨ f = 2) then J 1 (140 + 6 * (40 * l + p) + 1) - J 9 (40 * l + p) else J 1 (140 + 6 * (40 * l + p) + f)
/-- a chair ready to go -/
def FE (oc hb : Nat) (I J : IMem) : Prop := (HS hb 1 I J ∧ HY hb 1 I J ∧ HP hb 1 I J ∧ HW hb 1 I J) ∧ HLP oc hb I J ∧ FRl oc I J
section
variable {fu oc hb : Nat} {I J : IMem}
theorem gx_facts (hg : GX 0 J) : (2 ≤ J 1 1 ∧ J 1 1 ≤ 8) ∧ (0 ≤ J 1 6 ∧ J 1 6 ≤ 3) ∧ (∀ l : Nat, l < 6 → 1 ≤ J 1 (10 + l) ∧ J 1 (10 + l) ≤ 24) ∧ PTS J ∧ (∀ k, INL J k → 1 ≤ J 1 (141 + 6 * k) ∧ J 1 (141 + 6 * k) ≤ 8) ∧ inr (J 1 5) ∧ 0 ≤ J 1 70 := by
  obtain ⟨hr, hw, _⟩ := hg
  obtain ⟨a, b, c, d, e, f, g, s, t⟩ := hw
  refine ⟨⟨a.1, a.2.1⟩, ⟨a.2.2.1, a.2.2.2.1⟩, b, fun z z1 z2 => ?_, fun k hk => ?_, hr 1 5, a.2.2.2.2.1⟩
  · have := c z.toNat (by omega) (by omega)
    rw [show (16 + z).toNat = 16 + z.toNat by omega]
    show 0 ≤ J (0 + 1) (16 + z.toNat) ∧ J (0 + 1) (16 + z.toNat) < z
    omega
  · have hk1 := hk.1
    have := g (k / 40) (k % 40) (by omega) hk.2
    rw [show 40 * (k / 40) + k % 40 = k by omega] at this
    exact this
theorem fill2 (h : HR hb 1 I J) (hg : GX 0 J) (hd : hb + 40 ≤ oc) : pq (f_C_fill fu oc hb I) (f_X_fills fu 0 J) (fun _ I' _ J' => FE oc hb I' J' ∧ J' 0 32 ≤ 144) := by
  obtain ⟨⟨s1, s2⟩, ⟨f1, f2⟩, gs, gpt, gz, gb, _⟩ := gx_facts hg
  obtain ⟨hS, hY, hP, hL, hW⟩ := h
  obtain ⟨kl, hkl, hk6⟩ : ∃ kl : Nat, kl < 4 ∧ J 1 6 = (kl : Int) := ⟨(J 1 6).toNat, by omega, by omega⟩
  obtain ⟨law, lc, lx, lo⟩ := hW kl (by omega)
  have b0 : I (hb + 1) 0 = J 1 1 := hS.1 0 (by decide)
  have hc : ∀ l, l < 6 → 0 ≤ J 1 (130 + l) ∧ J 1 (130 + l) ≤ 40 := fun l hl => (hl_c hL hl).2
  unfold f_C_fill f_X_fills
  rw [b0]
  refine pq_br (xv_begins (fu := fu) J) (fun _ J1 _ ⟨b1, ⟨b30, b31, b32, b33, b34⟩, bf⟩ => pq_bl (cv_clear (fu := fu) oc (J 1 1) I) (fun _ I1 _ ⟨c1, ⟨c7, c8, c9, c10, c11⟩, cf⟩ => ?_))
  have jw : ∀ j, J1 1 j = J 1 j := fun j => bf _ _ (by decide) (by decide) (by omega)
  have ih : ∀ q j, q < oc → I1 q j = I q j := fun q j hq => cf _ _ (by omega) (by omega)
  have sg : ∀ l : Nat, l < 6 → 0 ≤ I1 (hb + 6 + 3) l + (if (l : Int) = -1 then 1 else 0) ∧ I1 (hb + 6 + 3) l + (if (l : Int) = -1 then 1 else 0) ≤ 24 := by
    intro l hl
    have : I1 (hb + 6 + 3) l = J 1 (10 + l) := (ih _ _ (by omega)).trans (hS.2.2.2.1 l hl)
    have := gs l hl
    rw [if_neg (by omega)]
    omega
  have cg : ∀ l, l < 6 → 0 ≤ I1 (hb + 6 + 2) l ∧ I1 (hb + 6 + 2) l ≤ 40 := by
    intro l hl
    have e : I1 (hb + 6 + 2) l = J 1 (130 + l) := (ih _ _ (by omega)).trans (hl_c hL hl).1
    rw [e]; exact hc l hl
  refine pq_bl (cv_seen (fu := fu) (hb + 6) (oc + 5) (-1) (by omega) I1 cg sg) (fun v I2 _ ⟨n, hv, hn, hsl, h2⟩ => ?_)
  refine pq_zwl' (fun I3 e3 => ?_)
  have i3 : ∀ q j, q ≠ oc + 5 → ¬ (q = oc ∧ j = 5) → I3 q j = I1 q j := fun q j a b => by rw [e3, if_neg b, h2 q a]
  have a5 : I3 (oc + 5) = I2 (oc + 5) := funext (fun j => by rw [e3, if_neg (by omega)])
  have fiv : FIV oc hb kl law n I3 J1 := by
    have io : ∀ q j, q < oc → I3 q j = I q j := fun q j hq => (i3 q j (by omega) (by omega)).trans (ih q j hq)
    refine ⟨⟨hs_mv hS (fun d j q => io _ _ (by omega)) (fun j _ => jw j), hy_mv hY (fun j => io _ _ (by omega)) (fun j _ _ => jw j), hp_mv hP (fun j => ⟨io _ _ (by omega), io _ _ (by omega)⟩) (fun j _ => jw j), hl_mv hL (fun j => ⟨io _ _ (by omega), io _ _ (by omega)⟩) (fun j _ _ => jw j), hw_mv hW (fun d j _ _ _ => io _ _ (by omega)) (fun j _ _ => jw j)⟩, ?_, ⟨hkl, by rw [jw]; exact hk6, lo, lx_mv (by omega) lo lx (fun j _ _ => jw j)⟩, lc_mv lc (fun d j _ => io _ _ (by omega)), ⟨hn, ?_, ?_⟩, fun k hk => ?_, fun k hk => ?_, ⟨by rw [jw]; exact gb, pts_mv gpt (fun j _ _ => jw j)⟩, ?_⟩
    · refine ⟨⟨?_, ?_, ?_⟩, ?_, ?_, ?_, fun k hk => ?_, fun i hi => ?_, fun i hi => ?_, ?_⟩
      · rw [i3 _ _ (by omega) (by omega), c7, b30]
      · rw [i3 _ _ (by omega) (by omega), c8, b31]
      · rw [i3 _ _ (by omega) (by omega), c9, b32]
      · rw [b30, b31, b32]; omega
      · rw [i3 _ _ (by omega) (by omega), c10, b33, b31]; exact ⟨Or.inl ⟨rfl, rfl⟩, Int.le_refl _⟩
      · rw [i3 _ _ (by omega) (by omega), c11, b34, b31]; exact ⟨Or.inl ⟨rfl, rfl⟩, Int.le_refl _⟩
      · rw [i3 _ _ (by omega) (by omega), c1 k hk, (b1 k hk).1, (b1 k hk).2]; exact Or.inl ⟨rfl, rfl, rfl⟩
      · rw [b31] at hi; omega
      · rw [b32] at hi; omega
      · rw [jw, b30, b31]
        show J 1 1 = J 1 1 + 0
        omega
    · rw [e3, if_pos ⟨rfl, rfl⟩, hv]
    · rw [a5, show I3 (hb + 8) = I1 (hb + 6 + 2) from funext (fun j => i3 _ _ (by omega) (by omega)), show I3 (hb + 9) = I1 (hb + 6 + 3) from funext (fun j => i3 _ _ (by omega) (by omega))]; exact hsl
    · rw [jw]; exact gz k ⟨hk.1, by have := hk.2; rw [jw] at this; exact this⟩
    · rw [i3 _ _ (by omega) (by omega), c1 k hk]; decide
    · rw [b31, b32]
      have : ∀ m : Nat, m ≤ n → cnt (fun i => I3 (oc + 1) (I3 (oc + 5) i).toNat) m = 0 := by
        intro m
        induction m with
        | zero => intro _; rfl
        | succ m ihm =>
          intro hm
          show cnt (fun i => I3 (oc + 1) (I3 (oc + 5) i).toNat) m + (if I3 (oc + 1) (I3 (oc + 5) m).toNat = 0 then 0 else 1) = 0
          obtain ⟨k, k1, k2, _⟩ := hsl.1 m (by omega)
          rw [ihm (by omega), if_pos (by rw [i3 _ _ (by omega) (by omega)]; exact c1 _ (by rw [a5, k2]; omega))]
          rfl
      rw [this n (Nat.le_refl _)]
      rfl
  refine fill_loop (fu := fu) (n := n) (kl := kl) (law := law) hd _ _ _ (fun I4 J4 f4 => ?_) fu fu 1 0 I3 J1 fiv (fun z => absurd z (by decide)) (by rw [b31, b32]; rfl)
  have f4' := f4
  obtain ⟨⟨qS, qY, qP, qL, qW⟩, qF, qX, qC, qn, qz, q3, ⟨q5, qpt⟩, qc⟩ := f4'
  have qn144 : J4 0 32 ≤ 144 := by
    have := (cnt_nn (fun i => I4 (oc + 1) (I4 (oc + 5) i).toNat) n).2
    have := qn.1
    have := qF.2.1
    omega
  have hc4 : ∀ l, l < 6 → 0 ≤ J4 1 (130 + l) ∧ J4 1 (130 + l) ≤ 40 := fun l hl => (hl_c qL hl).2
  refine pq_bl (cv_partOne (fu := fu) hd f4 qpt) (fun _ I5 _ g1 => pq_br (xv_parts0 (fu := fu) J4 qX qz qpt hc4 (by have := qF.2.2.1.1; omega) (by have := qF.2.1; omega)) (fun _ J5 _ g2 => pq_end ?_))
  rcases g1 with ⟨g1, g3⟩ | ⟨k, k1, k2, k3, k4⟩
  · rcases g2 with ⟨g2, g4⟩ | ⟨k', p1, p2, p3, p4, p5⟩
    · have io : ∀ q j, q ≠ hb + 13 → q ≠ hb + 15 + 5 * kl + 4 → q ≠ oc + 6 → I5 q j = I4 q j := fun q j a b _ => g3 q j a b
      have f5 := fiv_same f4 hd hkl io g4
      obtain ⟨⟨xS, xY, xP, xL, xW⟩, xF, xX, xC, xn, xz, x3, _⟩ := f5
      refine ⟨⟨⟨xS, xY, xP, xW⟩, fun l hl => ⟨(xL l hl).1, (xL l hl).2.1, fun p f hp hf => ?_⟩, xF⟩, by rw [g4 0 32 (by decide) (by decide)]; exact qn144⟩
      have hp4 := (xL l hl).2.1.2
      rw [if_neg (fun z => x3 (40 * l + p) (by omega) z.1)]
      exact (xL l hl).2.2 p f hp hf
    · exact absurd p2 (g1 k' p1)
  · rcases g2 with ⟨g2, g4⟩ | ⟨k', p1, p2, p3, p4, p5⟩
    · exact absurd k2 (g2 k k1)
    · have hkk : k' = k := by
        rcases Nat.lt_trichotomy k' k with w | w | w
        · exact absurd p2 (k3 k' w)
        · exact w
        · exact absurd k2 (p3 k w)
      subst hkk
      have hin : INL J4 k' := ⟨p1, p2.1⟩
      have hs := (sn_iff f4 p1).mpr ⟨p2.1, p2.2.2.1.1⟩
      have hpf := (pF_iff f4 qpt p1 hs).1.mp p2
      have r1 := row_eq f4 hin (f := 1) (by decide)
      have jw4 : ∀ j, J5 1 j = J4 1 j := fun j => by rw [p5 _ _ (by decide) (by decide), if_neg (by omega), if_neg (by omega), if_neg (by omega), if_neg (by omega), if_neg (by omega), if_neg (by omega)]
      have io : ∀ q j, q < oc → q ≠ hb + 13 → q ≠ hb + 15 + 5 * kl + 4 → q ≠ hb + 7 → I5 q j = I4 q j := fun q j a b c d => by rw [k4 q j b c, if_neg (by omega), if_neg (by omega), if_neg (by omega), if_neg (by omega), if_neg (by omega), if_neg (by omega), if_neg (by omega), if_neg (by omega)]
      have i1 : ∀ j, I5 (oc + 1) j = if j = k' then 3 else I4 (oc + 1) j := by
        intro j
        rw [k4 _ _ (by omega) (by omega), if_neg (by omega), if_neg (by omega), if_neg (by omega), if_neg (by omega), if_neg (by omega), if_neg (by omega), if_neg (by omega)]
        by_cases q : j = k'
        · rw [if_pos ⟨rfl, q⟩, if_pos q]
        · rw [if_neg (fun z => q z.2), if_neg q]
      have j9 : ∀ j, J5 9 j = if j = k' then pzF J4 k' else J4 9 j := by
        intro j
        rw [p5 _ _ (by decide) (by decide), if_neg (by omega), if_neg (by omega), if_neg (by omega), if_neg (by omega), if_neg (by omega)]
        by_cases q : j = k'
        · rw [if_pos ⟨rfl, q⟩, if_pos q]
        · rw [if_neg (fun z => q z.2), if_neg q]
      refine ⟨⟨⟨hs_mv qS (fun d j q => io _ _ (by omega) (by omega) (by omega) (by omega)) (fun j _ => jw4 j), hy_mv qY (fun j => io _ _ (by omega) (by omega) (by omega) (by omega)) (fun j _ _ => jw4 j), hp_mv qP (fun j => ⟨io _ _ (by omega) (by omega) (by omega) (by omega), io _ _ (by omega) (by omega) (by omega) (by omega)⟩) (fun j _ => jw4 j), hw_mv qW (fun d j _ _ _ => io _ _ (by omega) (by omega) (by omega) (by omega)) (fun j _ _ => jw4 j)⟩, fun l hl => ⟨?_, ?_, fun p f hp hf => ?_⟩, ?_⟩, ?_⟩
      · rw [io _ _ (by omega) (by omega) (by omega) (by omega), jw4]; exact (qL l hl).1
      · rw [jw4]; exact (qL l hl).2.1
      · rw [jw4] at hp
        have hp4 := (qL l hl).2.1.2
        rw [i1, j9, jw4, jw4, k4 _ _ (by omega) (by omega)]
        by_cases q : 40 * l + p = k'
        · rw [if_pos q, if_pos q]
          by_cases qf : f = 1 ∨ f = 2
          · rw [if_pos (by omega), if_pos ⟨rfl, qf⟩, r1, q]
          · rw [if_neg (by omega), if_neg (fun z => qf z.2), if_neg (by omega), if_neg (by omega), if_neg (by omega), if_neg (by omega), if_neg (by omega), if_neg (by omega), if_neg (by omega)]
            exact (qL l hl).2.2 p f hp hf
        · rw [if_neg q, if_neg q, if_neg (by omega), if_neg (by omega), if_neg (by omega), if_neg (by omega), if_neg (by omega), if_neg (by omega), if_neg (by omega), if_neg (by omega), if_neg (fun z => q3 (40 * l + p) (by omega) z.1)]
          exact (qL l hl).2.2 p f hp hf
      · refine frl_sit (oc := oc) (k := k') (size := pzF J4 k') (sort := 0) (mark := 3) qF hin hpf.2.1.2.1 ⟨p4.1, p4.2.1⟩ p2.2.2.2.1.symm (Or.inr ⟨rfl, p4.2.2⟩) (fun q j a => ?_) (fun q j a b => p5 q j a b)
        rw [k4 q j (by omega) (by omega), if_neg (by omega)]
      · rw [p5 0 32 (by decide) (by decide), if_neg (by omega), if_neg (by omega), if_neg (by omega), if_neg (by omega), if_neg (by omega), if_neg (by omega)]; exact qn144
end
/-! those who sit are noted, on both sides -/
theorem wr32_wl (x y : Int) : wr32 (wr32 x + y) = wr32 (x + y) := by unfold wr32; omega
section
variable {fu : Nat}
theorem cv_note (hb i k z : Nat) (I : IMem) (hi : i < 8) (hk : k < 240) (hz : 1 ≤ z ∧ z ≤ 8) : par (f_H_note fu hb (i : Int) (k : Int) (z : Int) I) (fun _ I' => ∀ q j, I' q j = if q = hb + 11 ∧ j = 20 + i then (z : Int) else if q = hb + 11 ∧ j = 10 + i then I (hb + 7) (6 * k + 0) else if q = hb + 10 ∧ j = 2 then wr32 (I (hb + 10) 2 + z) else if q = hb + 10 ∧ j = 30 + z then (if I (hb + 10) (30 + z) < I (hb + 7) (6 * k + 4) then I (hb + 7) (6 * k + 4) else I (hb + 10) (30 + z)) else if q = hb + 10 ∧ j = 20 + z then wr32 (I (hb + 10) (20 + z) + I (hb + 7) (6 * k + 4)) else if q = hb + 10 ∧ j = 10 + z then wr32 (I (hb + 10) (10 + z) + 1) else I q j) := by
  unfold f_H_note
  rw [if_neg (by omega), if_pos (by omega), if_neg (by omega), if_neg (by omega), ev_get4 fu (hb + 6) k I hk, zb_zr]
  have w1 : wr32 (10 + (z : Int)) = ((10 + z : Nat) : Int) := by rw [wr32_i2 (by omega) (by omega)]; omega
  have w2 : wr32 (20 + (z : Int)) = ((20 + z : Nat) : Int) := by rw [wr32_i2 (by omega) (by omega)]; omega
  have w3 : wr32 (30 + (z : Int)) = ((30 + z : Nat) : Int) := by rw [wr32_i2 (by omega) (by omega)]; omega
  have w4 : wr32 (10 + (i : Int)) = ((10 + i : Nat) : Int) := by rw [wr32_i2 (by omega) (by omega)]; omega
  have w5 : wr32 (20 + (i : Int)) = ((20 + i : Nat) : Int) := by rw [wr32_i2 (by omega) (by omega)]; omega
  simp only [zl_e]
  rw [w1, w2, w3, w4, w5]
  refine par_zg (fun _ => par_zg (fun _ => par_zw' (fun I1 e1 => par_zg (fun _ => par_zg (fun _ => par_zw' (fun I2 e2 => par_zg (fun _ => ?_)))))))
  rw [ev_max, zb_zr]
  refine par_zg (fun _ => par_zw' (fun I3 e3 => par_zw' (fun I4 e4 => ?_)))
  rw [ev_get0 fu (hb + 6) k I4 hk, zb_zr]
  refine par_zg (fun _ => par_zw' (fun I5 e5 => par_zg (fun _ => par_zw' (fun I6 e6 => par_zr (fun q j => ?_)))))
  have n1 : ((10 + z : Nat) : Int).toNat = 10 + z := rfl
  have n2 : ((20 + z : Nat) : Int).toNat = 20 + z := rfl
  have n3 : ((30 + z : Nat) : Int).toNat = 30 + z := rfl
  have n4 : ((10 + i : Nat) : Int).toNat = 10 + i := rfl
  have n5 : ((20 + i : Nat) : Int).toNat = 20 + i := rfl
  rw [n1] at e1
  rw [n2] at e2
  rw [n3] at e3
  rw [n4] at e5
  rw [n5] at e6
  have a2 : I1 (hb + 10) (20 + z) = I (hb + 10) (20 + z) := by rw [e1, if_neg (by omega)]
  have a3 : I2 (hb + 10) (30 + z) = I (hb + 10) (30 + z) := by rw [e2, if_neg (by omega), e1, if_neg (by omega)]
  have a4 : I3 (hb + 10) 2 = I (hb + 10) 2 := by rw [e3, if_neg (by omega), e2, if_neg (by omega), e1, if_neg (by omega)]
  have a5 : I4 (hb + 6 + 1) (6 * k + 0) = I (hb + 7) (6 * k + 0) := by rw [e4, if_neg (by omega), e3, if_neg (by omega), e2, if_neg (by omega), e1, if_neg (by omega)]
  rw [e6, e5, e4, e3, e2, e1, a2, a3, a4, a5]
end
def NRl (oc hb : Nat) (i : Nat) (I0 J0 I J : IMem) : Prop :=
  (∀ q j, ¬ ((q = hb + 10 ∧ (j = 2 ∨ (11 ≤ j ∧ j ≤ 38))) ∨ (q = hb + 11 ∧ 10 ≤ j ∧ j ≤ 27)) → I q j = I0 q j) ∧
  (∀ q j, ¬ (q = 1 ∧ ((81 ≤ j ∧ j ≤ 108) ∨ (112 ≤ j ∧ j ≤ 127))) → J q j = J0 q j) ∧
  (∀ s, 1 ≤ s → s ≤ 8 → I (hb + 10) (10 + s) = J 1 (80 + s) ∧ I (hb + 10) (20 + s) = J 1 (90 + s) ∧ I (hb + 10) (30 + s) = J 1 (100 + s)) ∧
  (∀ t, t < 8 → I (hb + 11) (10 + t) = J 1 (112 + t) ∧ I (hb + 11) (20 + t) = J 1 (120 + t)) ∧
  I (hb + 10) 2 = wr32 (I0 (hb + 10) 2 + sm (I0 (oc + 3)) i)
section
variable {fu oc hb : Nat} {Q : Int → IMem → Int → IMem → Prop}
theorem note2 (hd : hb + 40 ≤ oc) (kC kX : IMem → Res) (p1 p2 : Int) (I0 J0 : IMem) (hF : FRl oc I0 J0) (hL : HLP oc hb I0 J0) (hend : ∀ I J, NRl oc hb (J0 0 31).toNat I0 J0 I J → pq (kC I) (kX J) Q) : ∀ (m m2 i : Nat) (I J : IMem), (i : Int) ≤ J0 0 31 → NRl oc hb i I0 J0 I J → pq (f_C_leave_9 fu kC oc hb p2 m (i : Int) I) (f_X_goesOff_61 fu kX 0 p1 m2 (i : Int) J) Q := by
  intro m
  induction m with
  | zero => intro _ _ _ _ _ _; exact pq_nl
  | succ m ih =>
    intro m2 i I J hi hN
    cases m2 with
    | zero => exact pq_nr
    | succ m2 =>
    show pq (fb_C_leave_9 fu kC oc hb p2 (f_C_leave_9 fu kC oc hb p2 m) (i : Int) I) (fb_X_goesOff_61 fu kX 0 p1 (f_X_goesOff_61 fu kX 0 p1 m2) (i : Int) J) Q
    unfold fb_C_leave_9 fb_X_goesOff_61
    have hN' := hN
    obtain ⟨n1, n2, n3, n4, n5⟩ := hN'
    have hF' := hF
    obtain ⟨⟨a1, a2, a3⟩, ⟨b1, b2, b3, b4⟩, _, _, e, fo, g, s⟩ := hF'
    have i8 : I oc 8 = J0 0 31 := (n1 _ _ (by omega)).trans a2
    have j31 : J 0 31 = J0 0 31 := n2 _ _ (by omega)
    rw [i8, j31]
    by_cases h : (i : Int) < J0 0 31
    · rw [if_pos h, if_pos (by omega), if_pos h]
      obtain ⟨k, k1, k2, k3, k4, k5, k6⟩ := fo i h
      obtain ⟨z, hz⟩ : ∃ z : Nat, J0 9 k = (z : Int) := ⟨(J0 9 k).toNat, by omega⟩
      have hk := k1.1
      have r : ∀ f, f < 6 → ¬ (f = 1 ∨ f = 2) → I0 (hb + 7) (6 * k + f) = J0 1 (140 + 6 * k + f) := by
        intro f hf h12
        have := (hL (k / 40) (by omega)).2.2 (k % 40) f k1.2 hf
        rw [show 40 * (k / 40) + k % 40 = k by omega, if_neg (fun q => h12 q.2)] at this
        exact this
      have s1 : I (oc + 2) i = (k : Int) := (n1 _ _ (by omega)).trans k3
      have s2 : I (oc + 3) i = (z : Int) := (n1 _ _ (by omega)).trans (k4.trans hz)
      have t1 : J 11 i = (k : Int) := (n2 _ _ (by omega)).trans k2
      have t2 : J 9 k = (z : Int) := (n2 _ _ (by omega)).trans hz
      refine pq_gl (fun _ => pq_gl (fun _ => ?_))
      rw [show ((i : Nat) : Int).toNat = i from rfl, s1, s2]
      refine pq_bl (cv_note (fu := fu) hb i k z I (by omega) hk (by omega)) (fun _ I1 _ g1 => ?_)
      have wn : wr32 ((i : Int) + 1) = ((i + 1 : Nat) : Int) := by rw [wr32_i2 (by omega) (by omega)]; rfl
      simp only [zl_e, zj_e, Nat.zero_add]
      rw [wn, t1, wd40 k hk, wr40 k hk]
      refine pq_gr (fun _ => pq_gr (fun _ => pq_gr (fun _ => pq_gr (fun _ => ?_))))
      rw [show ((k : Nat) : Int).toNat = k from rfl, t2, ev_of4 fu 0 (k / 40) (k % 40) J (by omega) (by omega), zb_zr, ev_of0 fu 0 (k / 40) (k % 40) J (by omega) (by omega), zb_zr, show 40 * (k / 40) + k % 40 = k by omega]
      have w1 : wr32 (112 + (i : Int)) = ((112 + i : Nat) : Int) := by rw [wr32_i2 (by omega) (by omega)]; omega
      have w2 : wr32 (120 + (i : Int)) = ((120 + i : Nat) : Int) := by rw [wr32_i2 (by omega) (by omega)]; omega
      have w3 : wr32 (80 + (z : Int)) = ((80 + z : Nat) : Int) := by rw [wr32_i2 (by omega) (by omega)]; omega
      have w4 : wr32 (90 + (z : Int)) = ((90 + z : Nat) : Int) := by rw [wr32_i2 (by omega) (by omega)]; omega
      have w5 : wr32 (100 + (z : Int)) = ((100 + z : Nat) : Int) := by rw [wr32_i2 (by omega) (by omega)]; omega
      rw [w1, w2, w3, w4, w5]
      have y4 : J (0 + 1) (140 + 6 * k + 4) = J0 1 (140 + 6 * k + 4) := n2 _ _ (by omega)
      have y0 : J (0 + 1) (140 + 6 * k + 0) = J0 1 (140 + 6 * k + 0) := n2 _ _ (by omega)
      rw [y4, y0]
      refine pq_gr (fun _ => pq_zwr' (fun J1 e1 => pq_gr (fun _ => pq_zwr' (fun J2 e2 => pq_gr (fun _ => pq_gr (fun _ => pq_zwr' (fun J3 e3 => pq_gr (fun _ => pq_gr (fun _ => pq_zwr' (fun J4 e4 => pq_gr (fun _ => ?_)))))))))))
      rw [show ((112 + i : Nat) : Int).toNat = 112 + i from rfl] at e1
      rw [show ((120 + i : Nat) : Int).toNat = 120 + i from rfl] at e2
      rw [show ((80 + z : Nat) : Int).toNat = 80 + z from rfl] at e3
      rw [show ((90 + z : Nat) : Int).toNat = 90 + z from rfl] at e4
      have c3 : J2 1 (80 + z) = J 1 (80 + z) := by rw [e2, if_neg (by omega), e1, if_neg (by omega)]
      have c4 : J3 1 (90 + z) = J 1 (90 + z) := by rw [e3, if_neg (by omega), e2, if_neg (by omega), e1, if_neg (by omega)]
      have c5 : J4 1 (100 + z) = J 1 (100 + z) := by rw [e4, if_neg (by omega), e3, if_neg (by omega), e2, if_neg (by omega), e1, if_neg (by omega)]
      have b4' : ∀ q j, J4 q j = if q = 1 ∧ j = 90 + z then wr32 (J 1 (90 + z) + J0 1 (140 + 6 * k + 4)) else if q = 1 ∧ j = 80 + z then wr32 (J 1 (80 + z) + 1) else if q = 1 ∧ j = 120 + i then (z : Int) else if q = 1 ∧ j = 112 + i then J0 1 (140 + 6 * k + 0) else J q j := fun q j => by rw [e4, e3, e2, e1, c3, c4]
      clear e4 e3 e2 e1
      -- with the longest told
      have fin : ∀ J5 : IMem, (∀ q j, J5 q j = if q = 1 ∧ j = 100 + z then (if J 1 (100 + z) < J0 1 (140 + 6 * k + 4) then J0 1 (140 + 6 * k + 4) else J 1 (100 + z)) else J4 q j) → NRl oc hb (i + 1) I0 J0 I1 J5 := by
        intro J5 e5
        have x4 : I (hb + 7) (6 * k + 4) = J0 1 (140 + 6 * k + 4) := (n1 _ _ (by omega)).trans (r 4 (by decide) (by decide))
        have x0 : I (hb + 7) (6 * k + 0) = J0 1 (140 + 6 * k + 0) := (n1 _ _ (by omega)).trans (r 0 (by decide) (by decide))
        refine ⟨fun q j hq => ?_, fun q j hq => ?_, fun s h1 h2 => ?_, fun t ht => ?_, ?_⟩
        · rw [g1, if_neg (by omega), if_neg (by omega), if_neg (by omega), if_neg (by omega), if_neg (by omega), if_neg (by omega)]; exact n1 q j hq
        · rw [e5, if_neg (by omega), b4', if_neg (by omega), if_neg (by omega), if_neg (by omega), if_neg (by omega)]; exact n2 q j hq
        · have q1 := n3 s h1 h2
          rw [g1, g1, g1, e5, e5, e5, b4', b4', b4']
          by_cases hs : s = z
          · subst hs
            refine ⟨?_, ?_, ?_⟩
            · rw [if_neg (by omega), if_neg (by omega), if_neg (by omega), if_neg (by omega), if_neg (by omega), if_pos ⟨rfl, rfl⟩, if_neg (by omega), if_neg (by omega), if_pos ⟨rfl, rfl⟩, q1.1]
            · rw [if_neg (by omega), if_neg (by omega), if_neg (by omega), if_neg (by omega), if_pos ⟨rfl, rfl⟩, if_neg (by omega), if_pos ⟨rfl, rfl⟩, q1.2.1, x4]
            · rw [if_neg (by omega), if_neg (by omega), if_neg (by omega), if_pos ⟨rfl, rfl⟩, if_pos ⟨rfl, rfl⟩, q1.2.2, x4]
          · refine ⟨?_, ?_, ?_⟩
            · rw [if_neg (by omega), if_neg (by omega), if_neg (by omega), if_neg (by omega), if_neg (by omega), if_neg (by omega), if_neg (by omega), if_neg (by omega), if_neg (by omega), if_neg (by omega), if_neg (by omega)]; exact q1.1
            · rw [if_neg (by omega), if_neg (by omega), if_neg (by omega), if_neg (by omega), if_neg (by omega), if_neg (by omega), if_neg (by omega), if_neg (by omega), if_neg (by omega), if_neg (by omega), if_neg (by omega)]; exact q1.2.1
            · rw [if_neg (by omega), if_neg (by omega), if_neg (by omega), if_neg (by omega), if_neg (by omega), if_neg (by omega), if_neg (by omega), if_neg (by omega), if_neg (by omega), if_neg (by omega), if_neg (by omega)]; exact q1.2.2
        · have q1 := n4 t ht
          rw [g1, g1, e5, e5, b4', b4']
          by_cases hs : t = i
          · subst hs
            refine ⟨?_, ?_⟩
            · rw [if_neg (by omega), if_pos ⟨rfl, rfl⟩, if_neg (by omega), if_neg (by omega), if_neg (by omega), if_neg (by omega), if_pos ⟨rfl, rfl⟩]; exact x0
            · rw [if_pos ⟨rfl, rfl⟩, if_neg (by omega), if_neg (by omega), if_neg (by omega), if_pos ⟨rfl, rfl⟩]
          · refine ⟨?_, ?_⟩
            · rw [if_neg (by omega), if_neg (by omega), if_neg (by omega), if_neg (by omega), if_neg (by omega), if_neg (by omega), if_neg (by omega), if_neg (by omega), if_neg (by omega), if_neg (by omega), if_neg (by omega)]; exact q1.1
            · rw [if_neg (by omega), if_neg (by omega), if_neg (by omega), if_neg (by omega), if_neg (by omega), if_neg (by omega), if_neg (by omega), if_neg (by omega), if_neg (by omega), if_neg (by omega), if_neg (by omega)]; exact q1.2
        · rw [g1, if_neg (by omega), if_neg (by omega), if_pos ⟨rfl, rfl⟩, n5, wr32_wl]
          show _ = wr32 (I0 (hb + 10) 2 + (sm (I0 (oc + 3)) i + I0 (oc + 3) i))
          rw [k4, hz]
          congr 1
          omega
      rw [show ((100 + z : Nat) : Int).toNat = 100 + z from rfl, c5]
      by_cases hl : J 1 (100 + z) < J0 1 (140 + 6 * k + 4)
      · rw [if_pos hl]
        refine pq_gr (fun _ => pq_zwr' (fun J5 e5 => ih m2 (i + 1) I1 J5 (by omega) (fin J5 (fun q j => ?_))))
        rw [e5, if_pos hl]
      · rw [if_neg hl]
        refine ih m2 (i + 1) I1 J4 (by omega) (fin J4 (fun q j => ?_))
        by_cases hq : q = 1 ∧ j = 100 + z
        · rw [if_pos hq, if_neg hl, hq.1, hq.2, c5]
        · rw [if_neg hq]
    · rw [if_neg h, if_neg h]
      refine hend I J ?_
      rw [show (J0 0 31).toNat = i by omega]
      exact hN
end
/-! the lines move up, on both sides -/
section
variable {fu : Nat} {Q : Int → IMem → Prop}
/-- the rearmost of a line that sits -/
def REAR (mk : Nat → Int) (c : Int) (R : Int) : Prop := (R = -1 ∧ ∀ p : Nat, (p : Int) < c → ¬ (mk p = 1 ∨ mk p = 3)) ∨ ∃ r : Nat, R = (r : Int) ∧ (r : Int) < c ∧ (mk r = 1 ∨ mk r = 3) ∧ ∀ p : Nat, r < p → (p : Int) < c → ¬ (mk p = 1 ∨ mk p = 3)
theorem cv_rear9 (o1 l : Nat) (hl : l < 6) (c : Int) (hc : 0 ≤ c ∧ c ≤ 40) (I : IMem) : ∀ (m j : Nat), (j : Int) ≤ c → (∀ p : Nat, j ≤ p → (p : Int) < c → ¬ (I o1 (40 * l + p) = 1 ∨ I o1 (40 * l + p) = 3)) → par (f_L_rearmostSitting_9 fu o1 240 (l : Int) m ((j : Int) - 1) I) (fun v I' => I' = I ∧ REAR (fun p => I o1 (40 * l + p)) c v) := by
  intro m
  induction m with
  | zero => intro _ _ _; exact par_none
  | succ m ih =>
    intro j hj hn
    show par (fb_L_rearmostSitting_9 fu o1 240 (l : Int) (f_L_rearmostSitting_9 fu o1 240 (l : Int) m) ((j : Int) - 1) I) _
    unfold fb_L_rearmostSitting_9
    cases j with
    | zero =>
      rw [if_pos (by omega)]
      exact par_zr ⟨rfl, Or.inl ⟨rfl, fun p hp => hn p (Nat.zero_le _) hp⟩⟩
    | succ j =>
      have e1 : ((j + 1 : Nat) : Int) - 1 = (j : Int) := by omega
      rw [e1, if_neg (by omega)]
      have w1 : wr32 (wr32 ((l : Int) * 40) + (j : Int)) = ((40 * l + j : Nat) : Int) := by rw [wr32_i2 (x := (l : Int) * 40) (by omega) (by omega), wr32_i2 (by omega) (by omega)]; omega
      have w2 : wr32 ((j : Int) + -1) = (j : Int) - 1 := by rw [wr32_i2 (by omega) (by omega)]; omega
      simp only [zl_e, zj_e]
      rw [w1, w2, if_pos (by omega)]
      refine par_zg (fun _ => ?_)
      show par (if I o1 (40 * l + j) = 1 then _ else _) _
      have yes : (I o1 (40 * l + j) = 1 ∨ I o1 (40 * l + j) = 3) → par (zr (j : Int) I) (fun v I' => I' = I ∧ REAR (fun p => I o1 (40 * l + p)) c v) := fun h => par_zr ⟨rfl, Or.inr ⟨j, rfl, by omega, h, fun p h1 h2 => hn p (by omega) h2⟩⟩
      refine par_ite (fun q => yes (Or.inl q)) (fun q => par_zg (fun _ => ?_))
      show par (if I o1 (40 * l + j) = 3 then _ else _) _
      refine par_ite (fun q2 => yes (Or.inr q2)) (fun q2 => ih j (by omega) (fun p h1 h2 => ?_))
      by_cases z : p = j
      · subst z; exact fun y => y.elim q q2
      · exact hn p (by omega) h2
theorem cv_rear (o o1 l : Nat) (hl : l < 6) (I : IMem) (hc : 0 ≤ I (o + 2) l ∧ I (o + 2) l ≤ 40) : par (f_L_rearmostSitting fu o o1 240 (l : Int) I) (fun v I' => I' = I ∧ REAR (fun p => I o1 (40 * l + p)) (I (o + 2) l) v) := by
  unfold f_L_rearmostSitting
  refine par_zg (fun _ => ?_)
  simp only [zl_e]
  rw [show ((l : Nat) : Int).toNat = l from rfl, wr32_i2 (x := I (o + 2) l - 1) (by omega) (by omega)]
  have e : I (o + 2) l - 1 = (((I (o + 2) l).toNat : Nat) : Int) - 1 := by omega
  have g := cv_rear9 (fu := fu) o1 l hl (I (o + 2) l) hc I fu (I (o + 2) l).toNat (by omega) (fun p h1 h2 => by omega)
  rw [← e] at g
  exact g
/-- how many sit behind -/
def sf (J : IMem) (l : Nat) : Nat → Int := fun p => if 0 < J 9 (40 * l + p) then 1 else 0
theorem xv_cnt16 (kk : Int → IMem → Res) (l : Nat) (hl : l < 6) (c : Nat) (hc : c ≤ 40) (J : IMem) (hk : par (kk (cnt (sf J l) c) J) Q) : ∀ (m p : Nat), p ≤ c → par (f_X_movesUp_16 fu kk 0 (l : Int) (c : Int) m (cnt (sf J l) p) (p : Int) J) Q := by
  intro m
  induction m with
  | zero => intro _ _; exact par_none
  | succ m ih =>
    intro p hp
    show par (fb_X_movesUp_16 fu kk 0 (l : Int) (c : Int) (f_X_movesUp_16 fu kk 0 (l : Int) (c : Int) m) (cnt (sf J l) p) (p : Int) J) Q
    unfold fb_X_movesUp_16
    have nn := cnt_nn (sf J l) p
    by_cases h : p < c
    · rw [if_pos (by omega)]
      have w1 : wr32 (wr32 (40 * (l : Int)) + (p : Int)) = ((40 * l + p : Nat) : Int) := by rw [wr32_i2 (x := 40 * (l : Int)) (by omega) (by omega), wr32_i2 (by omega) (by omega)]; omega
      have wn : wr32 ((p : Int) + 1) = ((p + 1 : Nat) : Int) := by rw [wr32_i2 (by omega) (by omega)]; rfl
      simp only [zl_e, zj_e, Nat.zero_add]
      rw [w1, wn]
      refine par_zg (fun _ => ?_)
      rw [show ((40 * l + p : Nat) : Int).toNat = 40 * l + p from rfl]
      have g := ih (p + 1) h
      have e : cnt (sf J l) (p + 1) = cnt (sf J l) p + (if sf J l p = 0 then 0 else 1) := rfl
      rw [e] at g
      unfold sf at g
      refine par_ite (fun q => ?_) (fun q => ?_)
      · rw [if_pos q, if_neg (by decide)] at g
        rw [wr32_i2 (by omega) (by omega)]
        exact g
      · rw [if_neg q, if_pos rfl] at g
        rw [wr32_i2 (by omega) (by omega)]
        exact g
    · rw [if_neg (by omega)]
      have : p = c := by omega
      subst this
      exact hk
/-- a row is copied forward -/
theorem xv_copy (kk : IMem → Res) (l p t : Nat) (hl : l < 6) (hp : p < 40) (ht : t ≤ p) (p2 p3 p4 p6 : Int) (J0 : IMem) (hk : ∀ J : IMem, (∀ q j, J q j = if q = 1 ∧ 140 + 6 * (40 * l + t) ≤ j ∧ j < 140 + 6 * (40 * l + t) + 6 then J0 1 (140 + 6 * (40 * l + p) + (j - (140 + 6 * (40 * l + t)))) else J0 q j) → par (kk J) Q) : ∀ (m f : Nat) (J : IMem), f ≤ 6 → (∀ q j, J q j = if q = 1 ∧ 140 + 6 * (40 * l + t) ≤ j ∧ j < 140 + 6 * (40 * l + t) + f then J0 1 (140 + 6 * (40 * l + p) + (j - (140 + 6 * (40 * l + t)))) else J0 q j) → par (f_X_movesUp_132 fu kk 0 (l : Int) p2 p3 p4 (p : Int) p6 ((140 + 6 * (40 * l + t) : Nat) : Int) m (f : Int) J) Q := by
  intro m
  induction m with
  | zero => intro _ _ _ _; exact par_none
  | succ m ih =>
    intro f J hf hJ
    show par (fb_X_movesUp_132 fu kk 0 (l : Int) p2 p3 p4 (p : Int) p6 ((140 + 6 * (40 * l + t) : Nat) : Int) (f_X_movesUp_132 fu kk 0 (l : Int) p2 p3 p4 (p : Int) p6 ((140 + 6 * (40 * l + t) : Nat) : Int) m) (f : Int) J) Q
    unfold fb_X_movesUp_132
    by_cases h : f < 6
    · rw [if_pos (by omega), ev_of fu 0 l p f J hl hp h, zb_zr]
      have w1 : wr32 (((140 + 6 * (40 * l + t) : Nat) : Int) + (f : Int)) = ((140 + 6 * (40 * l + t) + f : Nat) : Int) := by rw [wr32_i2 (by omega) (by omega)]; omega
      have wn : wr32 ((f : Int) + 1) = ((f + 1 : Nat) : Int) := by rw [wr32_i2 (by omega) (by omega)]; rfl
      simp only [zl_e, Nat.zero_add]
      rw [w1, wn]
      refine par_zg (fun _ => par_zw' (fun J1 e1 => ih (f + 1) J1 h (fun q j => ?_)))
      rw [show ((140 + 6 * (40 * l + t) + f : Nat) : Int).toNat = 140 + 6 * (40 * l + t) + f from rfl] at e1
      rw [e1]
      by_cases z : q = 1 ∧ j = 140 + 6 * (40 * l + t) + f
      · rw [if_pos z, if_pos (by omega), hJ, if_neg (by omega), z.2]
        congr 1
        omega
      · rw [if_neg z, hJ]
        by_cases y : q = 1 ∧ 140 + 6 * (40 * l + t) ≤ j ∧ j < 140 + 6 * (40 * l + t) + f
        · rw [if_pos y, if_pos (by omega)]
        · rw [if_neg y, if_neg (by omega)]
    · rw [if_neg (by omega)]
      have : f = 6 := by omega
      subst this
      exact hk J hJ
end
theorem pq_ofr {Q : Int → IMem → Int → IMem → Prop} {m1 m2 : Res} (h : ∀ x I, m1 = some (x, I) → par m2 (fun y J => Q x I y J)) : pq m1 m2 Q := fun x I y J e1 e2 => h x I e1 y J e2
theorem pq_tor {Q : Int → IMem → Int → IMem → Prop} {m1 m2 : Res} (h : pq m1 m2 Q) {x : Int} {I : IMem} (e : m1 = some (x, I)) : par m2 (fun y J => Q x I y J) := fun y J e2 => h x I y J e e2
theorem pq_ofl {Q : Int → IMem → Int → IMem → Prop} {m1 m2 : Res} (h : ∀ y J, m2 = some (y, J) → par m1 (fun x I => Q x I y J)) : pq m1 m2 Q := fun x I y J e1 e2 => h y J e2 x I e1
theorem pq_tol {Q : Int → IMem → Int → IMem → Prop} {m1 m2 : Res} (h : pq m1 m2 Q) {y : Int} {J : IMem} (e : m2 = some (y, J)) : par m1 (fun x I => Q x I y J) := fun x I e1 => h x I y J e1 e
/-- the reference's turn for a row that moves up -/
def xDD (x15 w4 w5 y23 : Int) (R_ : Int → Int → Int → IMem → Res) (I34 : IMem) : Res :=
                      zl (wr32 (y23 + 4)) fun x35 =>
                      zg (0 ≤ x35 ∧ x35 < 6190) (
                      zg (0 ≤ x35 ∧ x35 < 6190) (zw I34 (0 + 1) x35.toNat (wr32 ((I34 (0 + 1) x35.toNat) + 1)) fun I36 =>
                      zl (wr32 (y23 + 5)) fun x37 =>
                      zg (0 ≤ x37 ∧ x37 < 6190) (
                        if 0 < x15 then (
                          zg (0 ≤ x37 ∧ x37 < 6190) (zw I36 (0 + 1) x37.toNat (wr32 ((I36 (0 + 1) x37.toNat) + 1)) fun I41 =>
                          zl (wr32 (w4 + 1)) fun x42 =>
                          R_ x15 x42 (wr32 (w5 + 1)) I41))
                        else (
                          zg (0 ≤ x37 ∧ x37 < 6190) (zw I36 (0 + 1) x37.toNat (wr32 ((I36 (0 + 1) x37.toNat) + 0)) fun I41 =>
                          zl (wr32 (w4 + 1)) fun x42 =>
                          R_ x15 x42 (wr32 (w5 + 1)) I41)))))
def xDC (x11 x15 w4 w5 y23 : Int) (R_ : Int → Int → Int → IMem → Res) (I32 : IMem) : Res :=
                  zg (0 ≤ x11 ∧ x11 < 240) (
                    if 0 < I32 (0 + 9) x11.toNat then (
                      zl (wr32 (y23 + 1)) fun x43 =>
                      zg (0 ≤ x43 ∧ x43 < 6190) (
                      zg (0 ≤ x11 ∧ x11 < 240) (
                      zg (0 ≤ x43 ∧ x43 < 6190) (zw I32 (0 + 1) x43.toNat (wr32 ((I32 (0 + 1) x43.toNat) - (I32 (0 + 9) x11.toNat))) fun I44 =>
                      zl (wr32 (y23 + 1)) fun x45 =>
                      zg (0 ≤ x45 ∧ x45 < 6190) (
                      zl (wr32 (y23 + 2)) fun x47 =>
                      zg (0 ≤ x47 ∧ x47 < 6190) (zw I44 (0 + 1) x47.toNat (I44 (0 + 1) x45.toNat) fun I46 =>
                      xDD x15 w4 w5 y23 R_ I46))))))
                    else (
                      xDD x15 w4 w5 y23 R_ I32))
def xDB (fu : Nat) (p1 p2 x11 x15 w4 w5 : Int) (R_ : Int → Int → Int → IMem → Res) (I13 : IMem) : Res :=
          zg (0 ≤ x11 ∧ x11 < 240) (
            if I13 (0 + 12) x11.toNat = 0 then (
              zg (0 ≤ x11 ∧ x11 < 240) (
              zb (f_X_of fu 0 p1 w5 1 I13) fun y20 I21 =>
              if I13 (0 + 9) x11.toNat = y20 then (
                R_ x15 w4 (wr32 (w5 + 1)) I21)
              else (
                zb (f_X_cell fu p1 w4 I21) fun y23 I24 =>
                f_X_movesUp_132 fu (xDC x11 x15 w4 w5 y23 R_) 0 p1 p2 x15 w4 w5 x11 y23 fu 0 I24)))
            else (
              R_ x15 w4 (wr32 (w5 + 1)) I13))
theorem moves_eq (fu : Nat) (k_254 : Int → IMem → Res) (p1 p2 : Int) (R_ : Int → Int → Int → IMem → Res) (w3 w4 w5 : Int) (I0 : IMem) : fb_X_movesUp_57 fu k_254 0 p1 p2 R_ w3 w4 w5 I0 = if w5 < p2 then (zg (0 ≤ wr32 ((wr32 (40 * p1)) + w5) ∧ wr32 ((wr32 (40 * p1)) + w5) < 240) (if 0 < I0 (0 + 9) (wr32 ((wr32 (40 * p1)) + w5)).toNat then xDB fu p1 p2 (wr32 ((wr32 (40 * p1)) + w5)) (wr32 (w3 - 1)) w4 w5 R_ I0 else xDB fu p1 p2 (wr32 ((wr32 (40 * p1)) + w5)) (wr32 (w3 - 0)) w4 w5 R_ I0)) else k_254 w4 I0 := by
  unfold fb_X_movesUp_57 xDB xDC xDD
  simp only [zl_e, zj_e]
/-- the class's turn for a row that moves up -/
def cDK (fu o0 : Nat) (p2 p3 x4 w4 w5 : Int) (R_ : Int → Int → IMem → Res) (I13 : IMem) : Res :=
                  zl (wr32 ((wr32 (p2 * 40)) + w4)) fun x14 =>
                  zg ((0 : Int) ≤ wr32 (x4 * 6) ∧ (0 : Int) ≤ wr32 (x14 * 6) ∧ (0 : Int) ≤ 6 ∧ (wr32 (x4 * 6) : Int) + 6 ≤ 1440 ∧ (wr32 (x14 * 6) : Int) + 6 ≤ 1440) (zc I13 (o0 + 1) (wr32 (x4 * 6)) (o0 + 1) (wr32 (x14 * 6)) 6 fun I15 =>
                  zb (f_L_get fu o0 x14 4 I15) fun y16 I17 =>
                  zb (f_L_put fu o0 x14 4 (wr32 (y16 + 1)) I17) fun _ I20 =>
                  zb (f_L_get fu o0 x14 5 I20) fun y22 I23 =>
                    if w5 < p3 then (
                      zb (f_L_put fu o0 x14 5 (wr32 (y22 + 1)) I23) fun _ I29 =>
                      zl (wr32 (w4 + 1)) fun x31 =>
                      R_ x31 (wr32 (w5 + 1)) I29)
                    else (
                      zb (f_L_put fu o0 x14 5 (wr32 (y22 + 0)) I23) fun _ I29 =>
                      zl (wr32 (w4 + 1)) fun x31 =>
                      R_ x31 (wr32 (w5 + 1)) I29))
def cDM (fu o0 : Nat) (p2 p3 x4 w4 w5 : Int) (R_ : Int → Int → IMem → Res) (x7 : Int) (I6 : IMem) : Res :=
                if x7 = 0 then cDK fu o0 p2 p3 x4 w4 w5 R_ I6
                else (
                  if x7 = 3 then cDK fu o0 p2 p3 x4 w4 w5 R_ I6
                  else R_ w4 (wr32 (w5 + 1)) I6)
theorem depart_eq (fu : Nat) (k_159 : Int → IMem → Res) (o0 o1 n1 : Nat) (p2 p3 : Int) (R_ : Int → Int → IMem → Res) (w4 w5 : Int) (I0 : IMem) : fb_L_depart_21 fu k_159 o0 o1 n1 p2 p3 R_ w4 w5 I0 = zg (0 ≤ p2 ∧ p2 < 6) (if w5 < I0 (o0 + 2) p2.toNat then (if w5 < 40 then (if wr32 ((wr32 (p2 * 40)) + w5) < (n1 : Int) then zg (0 ≤ wr32 ((wr32 (p2 * 40)) + w5) ∧ wr32 ((wr32 (p2 * 40)) + w5) < n1) (cDM fu o0 p2 p3 (wr32 ((wr32 (p2 * 40)) + w5)) w4 w5 R_ (I0 o1 (wr32 ((wr32 (p2 * 40)) + w5)).toNat) I0) else cDM fu o0 p2 p3 (wr32 ((wr32 (p2 * 40)) + w5)) w4 w5 R_ 0 I0) else k_159 w4 I0) else k_159 w4 I0) := by
  unfold fb_L_depart_21 cDM cDK
  simp only [zl_e, zj_e]
section
variable {fu : Nat} {Q : Int → IMem → Prop}
/-- a row that moves up: the class -/
theorem cv_keep (o l p t : Nat) (hl : l < 6) (hp : p < 40) (ht : t ≤ p) (R : Int) (R_ : Int → Int → IMem → Res) (I0 : IMem) (hk : ∀ I : IMem, (∀ q j, I q j = if q = o + 1 ∧ j = 6 * (40 * l + t) + 5 then wr32 (I0 (o + 1) (6 * (40 * l + p) + 5) + (if (p : Int) < R then 1 else 0)) else if q = o + 1 ∧ j = 6 * (40 * l + t) + 4 then wr32 (I0 (o + 1) (6 * (40 * l + p) + 4) + 1) else if q = o + 1 ∧ 6 * (40 * l + t) ≤ j ∧ j < 6 * (40 * l + t) + 6 then I0 (o + 1) (6 * (40 * l + p) + (j - 6 * (40 * l + t))) else I0 q j) → par (R_ ((t + 1 : Nat) : Int) ((p + 1 : Nat) : Int) I) Q) : par (cDK fu o (l : Int) R ((40 * l + p : Nat) : Int) (t : Int) (p : Int) R_ I0) Q := by
  unfold cDK
  have w3 : wr32 (wr32 ((l : Int) * 40) + (t : Int)) = ((40 * l + t : Nat) : Int) := by rw [wr32_i2 (x := (l : Int) * 40) (by omega) (by omega), wr32_i2 (by omega) (by omega)]; omega
  have wp : wr32 ((p : Int) + 1) = ((p + 1 : Nat) : Int) := by rw [wr32_i2 (by omega) (by omega)]; rfl
  have wt : wr32 ((t : Int) + 1) = ((t + 1 : Nat) : Int) := by rw [wr32_i2 (by omega) (by omega)]; rfl
  have w6 : wr32 (((40 * l + p : Nat) : Int) * 6) = ((6 * (40 * l + p) : Nat) : Int) := by rw [wr32_i2 (by omega) (by omega)]; omega
  have w7 : wr32 (((40 * l + t : Nat) : Int) * 6) = ((6 * (40 * l + t) : Nat) : Int) := by rw [wr32_i2 (by omega) (by omega)]; omega
  simp only [zl_e]
  rw [w3, wp, wt, w6, w7]
  refine par_zg (fun _ => par_zc' (fun I1 e1 => ?_))
  have n1 : ((6 * (40 * l + t) : Nat) : Int).toNat = 6 * (40 * l + t) := rfl
  have n2 : ((6 * (40 * l + p) : Nat) : Int).toNat = 6 * (40 * l + p) := rfl
  have n3 : (6 : Int).toNat = 6 := rfl
  rw [n1, n2, n3] at e1
  have r4 : I1 (o + 1) (6 * (40 * l + t) + 4) = I0 (o + 1) (6 * (40 * l + p) + 4) := by
    rw [e1, if_pos (by omega)]; congr 1; omega
  have r5 : I1 (o + 1) (6 * (40 * l + t) + 5) = I0 (o + 1) (6 * (40 * l + p) + 5) := by
    rw [e1, if_pos (by omega)]; congr 1; omega
  rw [ev_get4 fu o _ I1 (by omega), zb_zr, r4, ev_put4 fu o _ _ I1 (by omega), zb_zw]
  refine par_zw' (fun I2 e2 => ?_)
  have s5 : I2 (o + 1) (6 * (40 * l + t) + 5) = I0 (o + 1) (6 * (40 * l + p) + 5) := by rw [e2, if_neg (by omega)]; exact r5
  rw [zb_zr, ev_get5 fu o _ I2 (by omega), zb_zr, s5]
  refine par_ite (fun q => ?_) (fun q => ?_)
  · rw [ev_put5 fu o _ _ I2 (by omega), zb_zw]
    refine par_zw' (fun I3 e3 => hk I3 (fun q' j => ?_))
    rw [e3, e2, e1, if_pos q]
  · rw [ev_put5 fu o _ _ I2 (by omega), zb_zw]
    refine par_zw' (fun I3 e3 => hk I3 (fun q' j => ?_))
    rw [e3, e2, e1, if_neg q]
/-- a row that moves up: the reference -/
theorem xv_keep (l p t : Nat) (hl : l < 6) (hp : p < 40) (ht : t ≤ p) (x15 p2 : Int) (R_ : Int → Int → Int → IMem → Res) (J0 : IMem) (hf : J0 12 (40 * l + p) = 0) (hs : J0 9 (40 * l + p) ≠ J0 1 (140 + 6 * (40 * l + p) + 1)) (hb : 0 ≤ J0 9 (40 * l + p) ∧ J0 9 (40 * l + p) ≤ J0 1 (140 + 6 * (40 * l + p) + 1) ∧ J0 1 (140 + 6 * (40 * l + p) + 1) ≤ 8) (hk : ∀ J : IMem, (∀ q j, J q j = if q = 1 ∧ j = 140 + 6 * (40 * l + t) + 5 then wr32 (J0 1 (140 + 6 * (40 * l + p) + 5) + (if 0 < x15 then 1 else 0)) else if q = 1 ∧ j = 140 + 6 * (40 * l + t) + 4 then wr32 (J0 1 (140 + 6 * (40 * l + p) + 4) + 1) else if 0 < J0 9 (40 * l + p) ∧ q = 1 ∧ (j = 140 + 6 * (40 * l + t) + 1 ∨ j = 140 + 6 * (40 * l + t) + 2) then J0 1 (140 + 6 * (40 * l + p) + 1) - J0 9 (40 * l + p) else if q = 1 ∧ 140 + 6 * (40 * l + t) ≤ j ∧ j < 140 + 6 * (40 * l + t) + 6 then J0 1 (140 + 6 * (40 * l + p) + (j - (140 + 6 * (40 * l + t)))) else J0 q j) → par (R_ x15 ((t + 1 : Nat) : Int) ((p + 1 : Nat) : Int) J) Q) : par (xDB fu (l : Int) p2 ((40 * l + p : Nat) : Int) x15 (t : Int) (p : Int) R_ J0) Q := by
  unfold xDB
  refine par_zg (fun _ => ?_)
  show par (if J0 12 (40 * l + p) = 0 then _ else _) _
  rw [if_pos hf]
  refine par_zg (fun _ => ?_)
  rw [ev_of1 fu 0 l p J0 hl hp, zb_zr]
  show par (if J0 9 (40 * l + p) = J0 1 (140 + 6 * (40 * l + p) + 1) then _ else _) _
  rw [if_neg hs, ev_cell fu l t J0 hl (by omega), zb_zr]
  refine xv_copy (fu := fu) _ l p t hl hp ht p2 x15 (t : Int) ((40 * l + p : Nat) : Int) J0 (fun J1 e1 => ?_) fu 0 J0 (by decide) (fun q j => by rw [if_neg (by omega)])
  unfold xDC
  have m9 : J1 9 (40 * l + p) = J0 9 (40 * l + p) := by rw [e1, if_neg (by omega)]
  have wn : ∀ f : Nat, f < 6 → wr32 (((140 + 6 * (40 * l + t) : Nat) : Int) + (f : Int)) = ((140 + 6 * (40 * l + t) + f : Nat) : Int) := fun f hf => by rw [wr32_i2 (by omega) (by omega)]; omega
  have v1 : wr32 (((140 + 6 * (40 * l + t) : Nat) : Int) + 1) = ((140 + 6 * (40 * l + t) + 1 : Nat) : Int) := wn 1 (by decide)
  have v2 : wr32 (((140 + 6 * (40 * l + t) : Nat) : Int) + 2) = ((140 + 6 * (40 * l + t) + 2 : Nat) : Int) := wn 2 (by decide)
  have v4 : wr32 (((140 + 6 * (40 * l + t) : Nat) : Int) + 4) = ((140 + 6 * (40 * l + t) + 4 : Nat) : Int) := wn 4 (by decide)
  have v5 : wr32 (((140 + 6 * (40 * l + t) : Nat) : Int) + 5) = ((140 + 6 * (40 * l + t) + 5 : Nat) : Int) := wn 5 (by decide)
  have wp : wr32 ((p : Int) + 1) = ((p + 1 : Nat) : Int) := by rw [wr32_i2 (by omega) (by omega)]; rfl
  have wt : wr32 ((t : Int) + 1) = ((t + 1 : Nat) : Int) := by rw [wr32_i2 (by omega) (by omega)]; rfl
  have row : ∀ f, f < 6 → J1 1 (140 + 6 * (40 * l + t) + f) = J0 1 (140 + 6 * (40 * l + p) + f) := fun f hf => by
    rw [e1, if_pos (by omega)]; congr 1; omega
  -- waited and passed
  have last : ∀ J2 : IMem, (∀ q j, J2 q j = if 0 < J0 9 (40 * l + p) ∧ q = 1 ∧ (j = 140 + 6 * (40 * l + t) + 1 ∨ j = 140 + 6 * (40 * l + t) + 2) then J0 1 (140 + 6 * (40 * l + p) + 1) - J0 9 (40 * l + p) else J1 q j) → par (xDD x15 (t : Int) (p : Int) ((140 + 6 * (40 * l + t) : Nat) : Int) R_ J2) Q := by
    intro J2 e2
    unfold xDD
    simp only [zl_e, Nat.zero_add]
    rw [v4, v5, wp, wt]
    have a4 : J2 1 (140 + 6 * (40 * l + t) + 4) = J0 1 (140 + 6 * (40 * l + p) + 4) := by rw [e2, if_neg (by omega)]; exact row 4 (by decide)
    have a5 : J2 1 (140 + 6 * (40 * l + t) + 5) = J0 1 (140 + 6 * (40 * l + p) + 5) := by rw [e2, if_neg (by omega)]; exact row 5 (by decide)
    refine par_zg (fun _ => par_zg (fun _ => ?_))
    rw [show ((140 + 6 * (40 * l + t) + 4 : Nat) : Int).toNat = 140 + 6 * (40 * l + t) + 4 from rfl, a4]
    refine par_zw' (fun J3 e3 => par_zg (fun _ => ?_))
    have b5 : J3 1 (140 + 6 * (40 * l + t) + 5) = J0 1 (140 + 6 * (40 * l + p) + 5) := by rw [e3, if_neg (by omega)]; exact a5
    rw [show ((140 + 6 * (40 * l + t) + 5 : Nat) : Int).toNat = 140 + 6 * (40 * l + t) + 5 from rfl, b5]
    refine par_ite (fun q => par_zg (fun _ => par_zw' (fun J4 e4 => hk J4 (fun q' j => ?_)))) (fun q => par_zg (fun _ => par_zw' (fun J4 e4 => hk J4 (fun q' j => ?_))))
    · rw [e4, e3, e2, e1, if_pos q]
    · rw [e4, e3, e2, e1, if_neg q]
  refine par_zg (fun _ => ?_)
  show par (if 0 < J1 9 (40 * l + p) then _ else _) _
  rw [m9]
  refine par_ite (fun q => ?_) (fun q => last J1 (fun q' j => by rw [if_neg (fun z => q z.1)]))
  simp only [zl_e, Nat.zero_add]
  rw [v1, v2]
  refine par_zg (fun _ => par_zg (fun _ => par_zg (fun _ => ?_)))
  rw [show ((140 + 6 * (40 * l + t) + 1 : Nat) : Int).toNat = 140 + 6 * (40 * l + t) + 1 from rfl, row 1 (by decide)]
  have m9' : J1 9 ((40 * l + p : Nat) : Int).toNat = J0 9 (40 * l + p) := m9
  rw [m9', wr32_i2 (x := J0 1 (140 + 6 * (40 * l + p) + 1) - J0 9 (40 * l + p)) (by omega) (by omega)]
  refine par_zw' (fun J2 e2 => par_zg (fun _ => par_zg (fun _ => ?_)))
  have c1 : J2 1 (140 + 6 * (40 * l + t) + 1) = J0 1 (140 + 6 * (40 * l + p) + 1) - J0 9 (40 * l + p) := by rw [e2, if_pos ⟨rfl, rfl⟩]
  rw [show ((140 + 6 * (40 * l + t) + 2 : Nat) : Int).toNat = 140 + 6 * (40 * l + t) + 2 from rfl, c1]
  refine par_zw' (fun J3 e3 => last J3 (fun q' j => ?_))
  rw [e3, e2]
  by_cases y : 0 < J0 9 (40 * l + p) ∧ q' = 1 ∧ (j = 140 + 6 * (40 * l + t) + 1 ∨ j = 140 + 6 * (40 * l + t) + 2)
  · rw [if_pos y]
    by_cases y2 : q' = 1 ∧ j = 140 + 6 * (40 * l + t) + 2
    · rw [if_pos y2]
    · rw [if_neg y2, if_pos (by omega)]
  · rw [if_neg y, if_neg (fun z => y ⟨q, z.1, Or.inr z.2⟩), if_neg (fun z => y ⟨q, z.1, Or.inl z.2⟩)]
end
def DRl (hb l t : Nat) (I0 J0 I J : IMem) : Prop :=
  (∀ q j, ¬ (q = hb + 7 ∧ 240 * l ≤ j ∧ j < 240 * l + 6 * t) → I q j = I0 q j) ∧
  (∀ q j, ¬ (q = 1 ∧ 140 + 240 * l ≤ j ∧ j < 140 + 240 * l + 6 * t) → J q j = J0 q j) ∧
  ∀ t' f, t' < t → f < 6 → I (hb + 7) (6 * (40 * l + t') + f) = J 1 (140 + 6 * (40 * l + t') + f)
section
variable {fu oc hb : Nat} {Q : Int → IMem → Int → IMem → Prop}
theorem depart_in (hd : hb + 40 ≤ oc) (l : Nat) (hl : l < 6) (kC kX : Int → IMem → Res) (I0 J0 : IMem) (R : Int) (c : Nat) (hc40 : c ≤ 40) (hcI : I0 (hb + 8) l = c) (hrow : ∀ p f, p < c → f < 6 → I0 (hb + 7) (6 * (40 * l + p) + f) = if I0 (oc + 1) (40 * l + p) = 3 ∧ (f = 1 ∨ f = 2) then J0 1 (140 + 6 * (40 * l + p) + 1) - J0 9 (40 * l + p) else J0 1 (140 + 6 * (40 * l + p) + f)) (hmk : ∀ p, p < c → MKR (I0 (oc + 1) (40 * l + p)) (J0 9 (40 * l + p)) (J0 12 (40 * l + p)) (J0 1 (141 + 6 * (40 * l + p)))) (hz : ∀ p, p < c → 1 ≤ J0 1 (141 + 6 * (40 * l + p)) ∧ J0 1 (141 + 6 * (40 * l + p)) ≤ 8) (hR : REAR (fun p => I0 (oc + 1) (40 * l + p)) c R) (hend : ∀ (t : Nat) (I J : IMem), t ≤ c → DRl hb l t I0 J0 I J → pq (kC (t : Int) I) (kX (t : Int) J) Q) : ∀ (m m2 t p : Nat) (w3 : Int) (I J : IMem), t ≤ p → p ≤ c → w3 = cnt (sf J0 l) c - cnt (sf J0 l) p → DRl hb l t I0 J0 I J → pq (f_L_depart_21 fu kC (hb + 6) (oc + 1) 240 (l : Int) R m (t : Int) (p : Int) I) (f_X_movesUp_57 fu kX 0 (l : Int) (c : Int) m2 w3 (t : Int) (p : Int) J) Q := by
  intro m
  induction m with
  | zero => intro _ _ _ _ _ _ _ _ _ _; exact pq_nl
  | succ m ih =>
    intro m2 t p w3 I J htp hpc hw3 hD
    cases m2 with
    | zero => exact pq_nr
    | succ m2 =>
    show pq (fb_L_depart_21 fu kC (hb + 6) (oc + 1) 240 (l : Int) R (f_L_depart_21 fu kC (hb + 6) (oc + 1) 240 (l : Int) R m) (t : Int) (p : Int) I) (fb_X_movesUp_57 fu kX 0 (l : Int) (c : Int) (f_X_movesUp_57 fu kX 0 (l : Int) (c : Int) m2) w3 (t : Int) (p : Int) J) Q
    rw [depart_eq, moves_eq]
    have hD' := hD
    obtain ⟨d1, d2, d3⟩ := hD'
    have ci : I (hb + 6 + 2) (l : Int).toNat = (c : Int) := (d1 _ _ (by omega)).trans hcI
    refine pq_gl (fun _ => ?_)
    rw [ci]
    by_cases h : p < c
    · rw [if_pos (by omega), if_pos (by omega), if_pos (by omega)]
      have hp4 : p < 40 := by omega
      have hk : 40 * l + p < 240 := by omega
      have mk := hmk p h
      have z1 := hz p h
      rw [show 141 + 6 * (40 * l + p) = 140 + 6 * (40 * l + p) + 1 by omega] at z1 mk
      have w1 : wr32 (wr32 ((l : Int) * 40) + (p : Int)) = ((40 * l + p : Nat) : Int) := by rw [wr32_i2 (x := (l : Int) * 40) (by omega) (by omega), wr32_i2 (by omega) (by omega)]; omega
      have w2 : wr32 (wr32 (40 * (l : Int)) + (p : Int)) = ((40 * l + p : Nat) : Int) := by rw [wr32_i2 (x := 40 * (l : Int)) (by omega) (by omega), wr32_i2 (by omega) (by omega)]; omega
      have wp : wr32 ((p : Int) + 1) = ((p + 1 : Nat) : Int) := by rw [wr32_i2 (by omega) (by omega)]; rfl
      have c0 := cnt_nn (sf J0 l) p
      have c1 := cnt_nn (sf J0 l) c
      have cs : cnt (sf J0 l) (p + 1) = cnt (sf J0 l) p + (if sf J0 l p = 0 then 0 else 1) := rfl
      have jm : J 9 (40 * l + p) = J0 9 (40 * l + p) := d2 _ _ (by omega)
      have jf : J 12 (40 * l + p) = J0 12 (40 * l + p) := d2 _ _ (by omega)
      have jr : ∀ f, f < 6 → J 1 (140 + 6 * (40 * l + p) + f) = J0 1 (140 + 6 * (40 * l + p) + f) := fun f _ => d2 _ _ (by omega)
      have ir : ∀ f, f < 6 → I (hb + 7) (6 * (40 * l + p) + f) = I0 (hb + 7) (6 * (40 * l + p) + f) := fun f _ => d1 _ _ (by omega)
      have im : I (oc + 1) (40 * l + p) = I0 (oc + 1) (40 * l + p) := d1 _ _ (by omega)
      rw [w1, w2, if_pos (by omega)]
      refine pq_gl (fun _ => pq_gr (fun _ => ?_))
      rw [show ((40 * l + p : Nat) : Int).toNat = 40 * l + p from rfl, im]
      show pq _ (if 0 < J 9 (40 * l + p) then _ else _) _
      rw [jm]
      -- how many sit behind, from here on
      have body : ∀ x15 : Int, x15 = cnt (sf J0 l) c - cnt (sf J0 l) (p + 1) → pq (cDM fu (hb + 6) (l : Int) R ((40 * l + p : Nat) : Int) (t : Int) (p : Int) (f_L_depart_21 fu kC (hb + 6) (oc + 1) 240 (l : Int) R m) (I0 (oc + 1) (40 * l + p)) I) (xDB fu (l : Int) (c : Int) ((40 * l + p : Nat) : Int) x15 (t : Int) (p : Int) (f_X_movesUp_57 fu kX 0 (l : Int) (c : Int) m2) J) Q := by
        intro x15 h15
        have beh : 0 < x15 ↔ (p : Int) < R := by
          have mono : ∀ a b : Nat, a ≤ b → cnt (sf J0 l) a ≤ cnt (sf J0 l) b := by
            intro a b hab
            induction b with
            | zero => rw [show a = 0 by omega]; exact Int.le_refl _
            | succ b ihb =>
              by_cases q : a = b + 1
              · rw [q]; exact Int.le_refl _
              · have := ihb (by omega)
                show _ ≤ cnt (sf J0 l) b + (if sf J0 l b = 0 then 0 else 1)
                split <;> omega
          have sfm : ∀ p', p' < c → (sf J0 l p' ≠ 0 ↔ (I0 (oc + 1) (40 * l + p') = 1 ∨ I0 (oc + 1) (40 * l + p') = 3)) := by
            intro p' hp'
            have mk' := hmk p' hp'
            unfold MKR at mk'
            unfold sf
            split
            · exact ⟨fun _ => by omega, fun _ => by decide⟩
            · exact ⟨fun x => absurd rfl x, fun x => by omega⟩
          rcases hR with ⟨r1, r2⟩ | ⟨r, r1, r2, r3, r4⟩
          · have : ∀ b : Nat, b ≤ c → cnt (sf J0 l) b = 0 := by
              intro b
              induction b with
              | zero => intro _; rfl
              | succ b ihb =>
                intro hb2
                show cnt (sf J0 l) b + (if sf J0 l b = 0 then 0 else 1) = 0
                rw [ihb (by omega)]
                have := r2 b (by omega)
                rw [← sfm b (by omega)] at this
                rw [if_pos (Classical.byContradiction this)]
                rfl
            rw [h15, this c (Nat.le_refl _), this (p + 1) (by omega), r1]
            omega
          · constructor
            · intro hx
              rcases Nat.lt_or_ge p r with q | q
              · omega
              · exfalso
                have : ∀ b : Nat, p + 1 ≤ b → b ≤ c → cnt (sf J0 l) b = cnt (sf J0 l) (p + 1) := by
                  intro b
                  induction b with
                  | zero => intro h1 _; omega
                  | succ b ihb =>
                    intro h1 h2
                    by_cases q2 : p + 1 = b + 1
                    · rw [q2]
                    · show cnt (sf J0 l) b + (if sf J0 l b = 0 then 0 else 1) = _
                      rw [ihb (by omega) (by omega)]
                      have := r4 b (by omega) (by omega)
                      rw [← sfm b (by omega)] at this
                      rw [if_pos (Classical.byContradiction this)]
                      omega
                have := this c (by omega) (Nat.le_refl _)
                omega
            · intro hx
              have hr : r < c := by omega
              have e1 : cnt (sf J0 l) (r + 1) = cnt (sf J0 l) r + 1 := by
                show cnt (sf J0 l) r + (if sf J0 l r = 0 then 0 else 1) = _
                rw [if_neg ((sfm r hr).mpr r3)]
              have := mono (p + 1) r (by omega)
              have := mono (r + 1) c (by omega)
              omega
        unfold cDM
        unfold MKR at mk
        -- one who goes
        have goes : (I0 (oc + 1) (40 * l + p) = 1 ∨ I0 (oc + 1) (40 * l + p) = 2) → pq (f_L_depart_21 fu kC (hb + 6) (oc + 1) 240 (l : Int) R m (t : Int) (wr32 ((p : Int) + 1)) I) (xDB fu (l : Int) (c : Int) ((40 * l + p : Nat) : Int) x15 (t : Int) (p : Int) (f_X_movesUp_57 fu kX 0 (l : Int) (c : Int) m2) J) Q := by
          intro hg
          unfold xDB
          rw [wp]
          refine pq_gr (fun _ => ?_)
          show pq _ (if J 12 (40 * l + p) = 0 then _ else _) _
          rw [jf]
          have nxt := ih m2 t (p + 1) x15 I J (by omega) h h15 hD
          by_cases q : J0 12 (40 * l + p) = 0
          · rw [if_pos q]
            refine pq_gr (fun _ => ?_)
            rw [ev_of1 fu 0 l p J hl hp4, zb_zr]
            show pq _ (if J 9 (40 * l + p) = J 1 (140 + 6 * (40 * l + p) + 1) then _ else _) _
            rw [jm, jr 1 (by decide), if_pos (by omega)]
            exact nxt
          · rw [if_neg q]
            exact nxt
        -- one who stays
        have stays : (I0 (oc + 1) (40 * l + p) = 0 ∨ I0 (oc + 1) (40 * l + p) = 3) → pq (cDK fu (hb + 6) (l : Int) R ((40 * l + p : Nat) : Int) (t : Int) (p : Int) (f_L_depart_21 fu kC (hb + 6) (oc + 1) 240 (l : Int) R m) I) (xDB fu (l : Int) (c : Int) ((40 * l + p : Nat) : Int) x15 (t : Int) (p : Int) (f_X_movesUp_57 fu kX 0 (l : Int) (c : Int) m2) J) Q := by
          intro hg
          refine pq_ofl (fun y J9 e9 => cv_keep (fu := fu) (hb + 6) l p t hl hp4 htp R _ I (fun I1 g1 => pq_tol (m2 := xDB fu (l : Int) (c : Int) ((40 * l + p : Nat) : Int) x15 (t : Int) (p : Int) (f_X_movesUp_57 fu kX 0 (l : Int) (c : Int) m2) J) (pq_ofr (fun x I9 e8 => xv_keep (fu := fu) l p t hl hp4 htp x15 (c : Int) _ J (by rw [jf]; omega) (by rw [jm, jr 1 (by decide)]; omega) (by rw [jm, jr 1 (by decide)]; omega) (fun J1 g2 => pq_tor (ih m2 (t + 1) (p + 1) x15 I1 J1 (by omega) h h15 ⟨fun q j hq => ?_, fun q j hq => ?_, fun t' f ht' hf => ?_⟩) e8))) e9))
          · rw [g1, if_neg (by omega), if_neg (by omega), if_neg (by omega)]; exact d1 q j (by omega)
          · rw [g2, if_neg (by omega), if_neg (by omega), if_neg (by omega), if_neg (by omega)]; exact d2 q j (by omega)
          · rw [g1, g2]
            by_cases q : t' = t
            · subst q
              rw [jm, jr 5 (by decide), jr 4 (by decide), jr 1 (by decide)]
              have i5 : I (hb + 6 + 1) (6 * (40 * l + p) + 5) = J0 1 (140 + 6 * (40 * l + p) + 5) := (ir 5 (by decide)).trans ((hrow p 5 h (by decide)).trans (if_neg (by omega)))
              have i4 : I (hb + 6 + 1) (6 * (40 * l + p) + 4) = J0 1 (140 + 6 * (40 * l + p) + 4) := (ir 4 (by decide)).trans ((hrow p 4 h (by decide)).trans (if_neg (by omega)))
              rw [i5, i4]
              have ebeh : (if (p : Int) < R then (1 : Int) else 0) = if 0 < x15 then 1 else 0 := by
                by_cases z : 0 < x15
                · rw [if_pos z, if_pos (beh.mp z)]
                · rw [if_neg z, if_neg (fun y => z (beh.mpr y))]
              rw [ebeh]
              by_cases f5 : f = 5
              · subst f5; rw [if_pos ⟨rfl, rfl⟩, if_pos ⟨rfl, rfl⟩]
              · rw [if_neg (by omega), if_neg (by omega)]
                by_cases f4 : f = 4
                · subst f4; rw [if_pos ⟨rfl, rfl⟩, if_pos ⟨rfl, rfl⟩]
                · rw [if_neg (by omega), if_neg (by omega), if_pos (by omega)]
                  have ei : I (hb + 6 + 1) (6 * (40 * l + p) + (6 * (40 * l + t') + f - 6 * (40 * l + t'))) = I0 (hb + 7) (6 * (40 * l + p) + f) := by
                    rw [show 6 * (40 * l + t') + f - 6 * (40 * l + t') = f by omega]; exact ir f hf
                  rw [ei, hrow p f h hf]
                  by_cases q3 : 0 < J0 9 (40 * l + p) ∧ (f = 1 ∨ f = 2)
                  · rw [if_pos (by omega), if_pos (by omega)]
                  · rw [if_neg (by omega), if_neg (by omega), if_pos (by omega), show 140 + 6 * (40 * l + t') + f - (140 + 6 * (40 * l + t')) = f by omega, jr f hf]
            · rw [if_neg (by omega), if_neg (by omega), if_neg (by omega), if_neg (by omega), if_neg (by omega), if_neg (by omega), if_neg (by omega)]
              exact d3 t' f (by omega) hf
        by_cases q0 : I0 (oc + 1) (40 * l + p) = 0
        · rw [if_pos q0]; exact stays (Or.inl q0)
        · rw [if_neg q0]
          by_cases q3 : I0 (oc + 1) (40 * l + p) = 3
          · rw [if_pos q3]; exact stays (Or.inr q3)
          · rw [if_neg q3]; exact goes (by omega)
      have sfp : sf J0 l p = if 0 < J0 9 (40 * l + p) then 1 else 0 := rfl
      refine pq_ir (fun q => body _ ?_) (fun q => body _ ?_)
      · rw [sfp, if_pos q, if_neg (by decide)] at cs
        have c2 := cnt_nn (sf J0 l) (p + 1)
        rw [wr32_i2 (by omega) (by omega)]; omega
      · rw [sfp, if_neg q, if_pos rfl] at cs
        rw [wr32_i2 (by omega) (by omega)]; omega
    · rw [if_neg (by omega), if_neg (by omega)]
      have : p = c := by omega
      exact hend t I J (by omega) hD
end
/-! the chair goes, on both sides -/
/-- lines up to l are moved up; the others as before -/
def MLl (oc hb l : Nat) (I0 J0 I J : IMem) : Prop :=
  (∀ q j, ¬ (q = hb + 8 ∧ j < l) → ¬ (q = hb + 7 ∧ j < 240 * l) → I q j = I0 q j) ∧
  (∀ q j, ¬ (q = 1 ∧ ((130 ≤ j ∧ j < 130 + l) ∨ (140 ≤ j ∧ j < 140 + 240 * l))) → J q j = J0 q j) ∧
  ∀ l', l' < l → I (hb + 8) l' = J 1 (130 + l') ∧ (0 ≤ J 1 (130 + l') ∧ J 1 (130 + l') ≤ 40) ∧ ∀ p f : Nat, (p : Int) < J 1 (130 + l') → f < 6 → I (hb + 7) (6 * (40 * l' + p) + f) = J 1 (140 + 6 * (40 * l' + p) + f)
section
variable {fu oc hb : Nat} {Q : Int → IMem → Int → IMem → Prop}
theorem depart6 (hd : hb + 40 ≤ oc) (kX : IMem → Res) (p1 : Int) (I0 J0 : IMem) (hF : FRl oc I0 J0) (hL : HLP oc hb I0 J0) (hz : ∀ k, INL J0 k → 1 ≤ J0 1 (141 + 6 * k) ∧ J0 1 (141 + 6 * k) ≤ 8) (hend : ∀ I J, MLl oc hb 6 I0 J0 I J → pq (zr 0 I) (kX J) Q) : ∀ (m m2 l : Nat) (I J : IMem), l ≤ 6 → MLl oc hb l I0 J0 I J → pq (f_L_depart_2 fu (hb + 6) (oc + 1) 240 m (l : Int) I) (f_X_goesOff_266 fu kX 0 p1 m2 (l : Int) J) Q := by
  intro m
  induction m with
  | zero => intro _ _ _ _ _ _; exact pq_nl
  | succ m ih =>
    intro m2 l I J hl hM
    cases m2 with
    | zero => exact pq_nr
    | succ m2 =>
    show pq (fb_L_depart_2 fu (hb + 6) (oc + 1) 240 (f_L_depart_2 fu (hb + 6) (oc + 1) 240 m) (l : Int) I) (fb_X_goesOff_266 fu kX 0 p1 (f_X_goesOff_266 fu kX 0 p1 m2) (l : Int) J) Q
    unfold fb_L_depart_2 fb_X_goesOff_266
    have hM' := hM
    obtain ⟨m1, m2', m3⟩ := hM'
    by_cases h6 : l < 6
    · rw [if_pos (by omega), if_pos (by omega)]
      obtain ⟨c1, c2, c3⟩ := hL l h6
      have ic : I (hb + 6 + 2) l = J0 1 (130 + l) := (m1 _ _ (by omega) (by omega)).trans c1
      have jc : J 1 (130 + l) = J0 1 (130 + l) := m2' _ _ (by omega)
      refine pq_bl (cv_rear (fu := fu) (hb + 6) (oc + 1) l h6 I (by rw [ic]; exact c2)) (fun R I1 _ ⟨g1, g2⟩ => ?_)
      have g1' := g1.symm
      subst g1'
      unfold f_X_movesUp
      have w1 : wr32 (130 + (l : Int)) = ((130 + l : Nat) : Int) := by rw [wr32_i2 (by omega) (by omega)]; omega
      obtain ⟨c, hc⟩ : ∃ c : Nat, J0 1 (130 + l) = (c : Int) := ⟨(J0 1 (130 + l)).toNat, by omega⟩
      have e2 : ∀ k : Int → IMem → Res, zb (zl (wr32 (130 + (l : Int))) fun x1 => zg (0 ≤ x1 ∧ x1 < 6190) (zl (J (0 + 1) x1.toNat) fun x2 => f_X_movesUp_16 fu (fun (x10 : Int) (I9 : IMem) => f_X_movesUp_57 fu (fun (x49 : Int) (I48 : IMem) => zl (wr32 (130 + (l : Int))) fun x51 => zg (0 ≤ x51 ∧ x51 < 6190) (zw I48 (0 + 1) x51.toNat x49 fun I50 => zr 0 I50)) 0 (l : Int) x2 fu x10 0 0 I9) 0 (l : Int) x2 fu 0 0 J)) k = zb (f_X_movesUp_16 fu (fun (x10 : Int) (I9 : IMem) => f_X_movesUp_57 fu (fun (x49 : Int) (I48 : IMem) => zw I48 1 (130 + l) x49 fun I50 => zr 0 I50) 0 (l : Int) (c : Int) fu x10 0 0 I9) 0 (l : Int) (c : Int) fu 0 0 J) k := by
        intro k
        simp only [zl_e, Nat.zero_add]
        rw [w1, tn, zg_t (by omega), jc, hc]
        congr 2
        funext x10 I9
        congr 1
        funext x49 I48
        rw [zg_t (by omega)]
      rw [e2]
      have hcn : c ≤ 40 := by omega
      have dr0 : DRl hb l 0 I J I J := ⟨fun _ _ _ => rfl, fun _ _ _ => rfl, fun t' f ht => absurd ht (Nat.not_lt_zero _)⟩
      -- the class's inner loop against the reference's, its count first
      intro x I9 y J9 e8 e9
      obtain ⟨y1, J1, f1, f2⟩ := of_zb e9
      have key : par (f_X_movesUp_16 fu (fun (x10 : Int) (I9 : IMem) => f_X_movesUp_57 fu (fun (x49 : Int) (I48 : IMem) => zw I48 1 (130 + l) x49 fun I50 => zr 0 I50) 0 (l : Int) (c : Int) fu x10 0 0 I9) 0 (l : Int) (c : Int) fu 0 0 J) (fun y1 J1 => ∀ (y : Int) (J9 : IMem), (zl (wr32 ((l : Int) + 1)) fun x41 => f_X_goesOff_266 fu kX 0 p1 m2 x41 J1) = some (y, J9) → Q x I9 y J9) := by
        have jr : ∀ p f : Nat, p < c → f < 6 → J 1 (140 + 6 * (40 * l + p) + f) = J0 1 (140 + 6 * (40 * l + p) + f) := fun p f _ _ => m2' _ _ (by omega)
        have ir : ∀ p f : Nat, p < c → f < 6 → I (hb + 7) (6 * (40 * l + p) + f) = I0 (hb + 7) (6 * (40 * l + p) + f) := fun p f _ _ => m1 _ _ (by omega) (by omega)
        refine xv_cnt16 (fu := fu) _ l h6 c hcn J ?_ fu 0 (Nat.zero_le _)
        refine pq_tor (Q := fun x I9 y1 J1 => ∀ (y : Int) (J9 : IMem), (zl (wr32 ((l : Int) + 1)) fun x41 => f_X_goesOff_266 fu kX 0 p1 m2 x41 J1) = some (y, J9) → Q x I9 y J9) (depart_in (fu := fu) (oc := oc) (hb := hb) hd l h6 _ _ I J R c hcn (ic.trans hc) (fun p f hp hf => ?_) (fun p hp => ?_) (fun p hp => ?_) (by rw [← hc, ← ic]; exact g2) (fun t I2 J2 ht hD => ?_) fu fu 0 0 (cnt (sf J l) c) I J (Nat.le_refl _) (Nat.zero_le _) (by show _ = cnt (sf J l) c - 0; omega) dr0) e8
        · have := c3 p f (by omega) hf
          rw [ir p f hp hf, this, jr p 1 hp (by decide), jr p f hp hf, m1 _ _ (by omega) (by omega), m2' 9 _ (by omega)]
        · rw [m1 _ _ (by omega) (by omega), m2' 9 _ (by omega), m2' 12 _ (by omega), m2' 1 _ (by omega)]
          exact hF.2.2.2.2.1 (40 * l + p) (by omega)
        · rw [show 141 + 6 * (40 * l + p) = 140 + 6 * (40 * l + p) + 1 by omega, jr p 1 hp (by decide)]
          have := hz (40 * l + p) ⟨by omega, by rw [show (40 * l + p) % 40 = p by omega, show (40 * l + p) / 40 = l by omega]; omega⟩
          rw [show 141 + 6 * (40 * l + p) = 140 + 6 * (40 * l + p) + 1 by omega] at this
          exact this
        · show pq (zg (0 ≤ (l : Int) ∧ (l : Int) < 6) (zw I2 (hb + 6 + 2) (l : Int).toNat (t : Int) fun I34 => zl (wr32 ((l : Int) + 1)) fun x35 => f_L_depart_2 fu (hb + 6) (oc + 1) 240 m x35 I34)) _ _
          obtain ⟨d1, d2, d3⟩ := hD
          have wn : wr32 ((l : Int) + 1) = ((l + 1 : Nat) : Int) := by rw [wr32_i2 (by omega) (by omega)]; rfl
          rw [tn, wn]
          refine pq_gl (fun _ => pq_zwl' (fun I3 e3 => pq_zwr' (fun J3 e3' => pq_l (fun x' I' ex y' J' ey => ?_))))
          refine ih m2 (l + 1) I3 J3 h6 ⟨fun q j h1 h2 => ?_, fun q j h1 => ?_, fun l' hl' => ?_⟩ x' I' y' J' ex ey
          · rw [e3, if_neg (by omega), d1 q j (by omega)]; exact m1 q j (by omega) (by omega)
          · rw [e3', if_neg (by omega), d2 q j (by omega)]; exact m2' q j (by omega)
          · by_cases q : l' = l
            · have a1 : I3 (hb + 8) l' = (t : Int) := by rw [e3, if_pos (by omega)]
              have a2 : J3 1 (130 + l') = (t : Int) := by rw [e3', if_pos (by omega)]
              rw [a1, a2]
              refine ⟨rfl, by omega, fun p f hp hf => ?_⟩
              rw [e3, if_neg (by omega), e3', if_neg (by omega), q]
              exact d3 p f (by omega) hf
            · obtain ⟨x1, x2, x3⟩ := m3 l' (by omega)
              have a1 : I3 (hb + 8) l' = I (hb + 8) l' := by rw [e3, if_neg (by omega)]; exact d1 _ _ (by omega)
              have a2 : J3 1 (130 + l') = J 1 (130 + l') := by rw [e3', if_neg (by omega)]; exact d2 _ _ (by omega)
              rw [a1, a2]
              refine ⟨x1, x2, fun p f hp hf => ?_⟩
              rw [e3, if_neg (by omega), e3', if_neg (by omega), d1 _ _ (by omega), d2 _ _ (by omega)]
              exact x3 p f hp hf
      exact key y1 J1 f1 y J9 f2
    · rw [if_neg (by omega), if_neg (by omega)]
      have : l = 6 := by omega
      subst this
      exact hend I J hM
end
/-! those found out come behind, the chair's numbers: both sides -/
section
variable {fu : Nat} {Q : Int → IMem → Prop}
theorem xv_out1 (kk : IMem → Res) (i k : Nat) (hi : i < 240) (hk : k < 240) (p1 : Int) (J0 : IMem) (h10 : J0 10 i = (k : Int)) (hkk : ∀ J : IMem, (∀ q j, J q j = if q = 14 ∧ 6 * i ≤ j ∧ j < 6 * i + 6 then J0 1 (140 + 6 * k + (j - 6 * i)) else J0 q j) → par (kk J) Q) : ∀ (m f : Nat) (J : IMem), f ≤ 6 → (∀ q j, J q j = if q = 14 ∧ 6 * i ≤ j ∧ j < 6 * i + f then J0 1 (140 + 6 * k + (j - 6 * i)) else J0 q j) → par (f_X_goesOff_215 fu kk 0 p1 (i : Int) m (f : Int) J) Q := by
  intro m
  induction m with
  | zero => intro _ _ _ _; exact par_none
  | succ m ih =>
    intro f J hf hJ
    show par (fb_X_goesOff_215 fu kk 0 p1 (i : Int) (f_X_goesOff_215 fu kk 0 p1 (i : Int) m) (f : Int) J) Q
    unfold fb_X_goesOff_215
    by_cases h : f < 6
    · rw [if_pos (by omega)]
      have a10 : J (0 + 10) (i : Int).toNat = (k : Int) := by rw [tn, hJ, if_neg (by omega)]; exact h10
      rw [a10]
      have w1 : wr32 (wr32 (140 + wr32 (6 * (k : Int))) + (f : Int)) = ((140 + 6 * k + f : Nat) : Int) := by rw [wr32_i2 (x := 6 * (k : Int)) (by omega) (by omega), wr32_i2 (x := 140 + 6 * (k : Int)) (by omega) (by omega), wr32_i2 (by omega) (by omega)]; omega
      have w2 : wr32 (wr32 (6 * (i : Int)) + (f : Int)) = ((6 * i + f : Nat) : Int) := by rw [wr32_i2 (x := 6 * (i : Int)) (by omega) (by omega), wr32_i2 (by omega) (by omega)]; omega
      have wn : wr32 ((f : Int) + 1) = ((f + 1 : Nat) : Int) := by rw [wr32_i2 (by omega) (by omega)]; rfl
      refine par_zg (fun _ => ?_)
      simp only [zl_e, Nat.zero_add]
      rw [w1, w2, wn, tn, tn]
      clear w1 w2 wn
      refine par_zg (fun _ => par_zg (fun _ => par_zw' (fun J1 e1 => ih (f + 1) J1 h (fun q j => ?_))))
      rw [e1]
      by_cases z : q = 14 ∧ j = 6 * i + f
      · rw [if_pos z, if_pos (by omega), hJ, if_neg (by omega), z.2]
        congr 1
        omega
      · rw [if_neg z, hJ]
        by_cases y : q = 14 ∧ 6 * i ≤ j ∧ j < 6 * i + f
        · rw [if_pos y, if_pos (by omega)]
        · rw [if_neg y, if_neg (by omega)]
    · rw [if_neg (by omega)]
      have : f = 6 := by omega
      subst this
      exact hkk J hJ
theorem xv_outs (kk : IMem → Res) (p1 : Int) (J0 : IMem) (n : Nat) (hn : J0 0 32 = (n : Int)) (hn2 : n ≤ 240) (h10 : ∀ i : Nat, i < n → ∃ k : Nat, k < 240 ∧ J0 10 i = (k : Int)) (hkk : ∀ J : IMem, (∀ q j, q ≠ 14 → J q j = J0 q j) → (∀ i k f : Nat, i < n → J0 10 i = (k : Int) → f < 6 → J 14 (6 * i + f) = J0 1 (140 + 6 * k + f)) → par (kk J) Q) : ∀ (m i : Nat) (J : IMem), i ≤ n → (∀ q j, q ≠ 14 → J q j = J0 q j) → (∀ i' k f : Nat, i' < i → J0 10 i' = (k : Int) → f < 6 → J 14 (6 * i' + f) = J0 1 (140 + 6 * k + f)) → par (f_X_goesOff_205 fu kk 0 p1 m (i : Int) J) Q := by
  intro m
  induction m with
  | zero => intro _ _ _ _ _; exact par_none
  | succ m ih =>
    intro i J hi hJ hr
    show par (fb_X_goesOff_205 fu kk 0 p1 (f_X_goesOff_205 fu kk 0 p1 m) (i : Int) J) Q
    unfold fb_X_goesOff_205
    have j32 : J 0 32 = (n : Int) := (hJ _ _ (by decide)).trans hn
    rw [j32]
    by_cases h : i < n
    · rw [if_pos (by omega)]
      obtain ⟨k, k1, k2⟩ := h10 i h
      refine xv_out1 (fu := fu) _ i k (by omega) k1 p1 J ((hJ _ _ (by decide)).trans k2) (fun J1 e1 => ?_) fu 0 J (by decide) (fun q j => by rw [if_neg (by omega)])
      simp only [zl_e]
      have wn : wr32 ((i : Int) + 1) = ((i + 1 : Nat) : Int) := by rw [wr32_i2 (by omega) (by omega)]; rfl
      rw [wn]
      clear wn
      refine ih (i + 1) J1 h (fun q j hq => by rw [e1, if_neg (by omega)]; exact hJ q j hq) (fun i' k' f hi' hk' hf => ?_)
      rw [e1]
      by_cases q : i' = i
      · subst q
        have : k' = k := by omega
        subst this
        rw [if_pos (by omega), show 6 * i' + f - 6 * i' = f by omega]
        exact hJ 1 _ (by decide)
      · rw [if_neg (by omega)]
        exact hr i' k' f (by omega) hk' hf
    · rw [if_neg (by omega)]
      have : i = n := by omega
      subst this
      exact hkk J hJ hr
end
/-- while those found out come behind -/
def GRl (hb : Nat) (I0 J0 I J : IMem) : Prop := (∀ q j, q ≠ hb + 7 → q ≠ hb + 8 → ¬ (q = hb + 10 ∧ j = 6) → I q j = I0 q j) ∧ (∀ q j, ¬ (q = 1 ∧ (j = 76 ∨ (130 ≤ j ∧ j < 1580))) → ¬ (q = 0 ∧ j = 24) → J q j = J0 q j) ∧ HL hb 1 I J ∧ I (hb + 10) 6 = J 1 76
section
variable {fu oc hb : Nat} {Q : Int → IMem → Int → IMem → Prop}
theorem gone2 (hd : hb + 40 ≤ oc) (kC kX : IMem → Res) (p1 p2 : Int) (I0 J0 : IMem) (n : Nat) (hn : n ≤ 144) (hnI : I0 oc 9 = (n : Int)) (hnJ : J0 0 32 = (n : Int)) (hro : ∀ i : Nat, i < n → ∀ f, f < 6 → I0 (oc + 4) (6 * i + f) = RWc (J0 14 (6 * i + 0)) (J0 14 (6 * i + 1)) (J0 14 (6 * i + 1)) (J0 14 (6 * i + 3)) (J0 14 (6 * i + 4)) (J0 14 (6 * i + 5)) f) (hend : ∀ I J, GRl hb I0 J0 I J → pq (kC I) (kX J) Q) : ∀ (m m2 i : Nat) (I J : IMem), i ≤ n → GRl hb I0 J0 I J → pq (f_C_leave_59 fu kC oc hb p2 m (i : Int) I) (f_X_goesOff_285 fu kX 0 p1 m2 (i : Int) J) Q := by
  intro m
  induction m with
  | zero => intro _ _ _ _ _ _; exact pq_nl
  | succ m ih =>
    intro m2 i I J hi hG
    cases m2 with
    | zero => exact pq_nr
    | succ m2 =>
    show pq (fb_C_leave_59 fu kC oc hb p2 (f_C_leave_59 fu kC oc hb p2 m) (i : Int) I) (fb_X_goesOff_285 fu kX 0 p1 (f_X_goesOff_285 fu kX 0 p1 m2) (i : Int) J) Q
    unfold fb_C_leave_59 fb_X_goesOff_285
    have hG' := hG
    obtain ⟨g1, g2, g3, g4⟩ := hG'
    have i9 : I oc 9 = (n : Int) := (g1 _ _ (by omega) (by omega) (by omega)).trans hnI
    have j32 : J 0 32 = (n : Int) := (g2 _ _ (by omega) (by omega)).trans hnJ
    rw [i9, j32]
    by_cases h : i < n
    · rw [if_pos (by omega), if_pos (by omega)]
      obtain ⟨c1, c2, c3⟩ := hl_c g3 (show 0 < 6 by decide)
      have w0 : wr32 ((i : Int) * 6) = ((6 * i : Nat) : Int) := by rw [wr32_i2 (by omega) (by omega)]; omega
      have w1 : wr32 (6 * (i : Int)) = ((6 * i : Nat) : Int) := by rw [wr32_i2 (by omega) (by omega)]; omega
      have v1 : wr32 (((6 * i : Nat) : Int) + 1) = ((6 * i + 1 : Nat) : Int) := by rw [wr32_i2 (by omega) (by omega)]; omega
      have v3 : wr32 (((6 * i : Nat) : Int) + 3) = ((6 * i + 3 : Nat) : Int) := by rw [wr32_i2 (by omega) (by omega)]; omega
      have v4 : wr32 (((6 * i : Nat) : Int) + 4) = ((6 * i + 4 : Nat) : Int) := by rw [wr32_i2 (by omega) (by omega)]; omega
      have v5 : wr32 (((6 * i : Nat) : Int) + 5) = ((6 * i + 5 : Nat) : Int) := by rw [wr32_i2 (by omega) (by omega)]; omega
      have wn : wr32 ((i : Int) + 1) = ((i + 1 : Nat) : Int) := by rw [wr32_i2 (by omega) (by omega)]; rfl
      simp only [zl_e, zj_e, Nat.zero_add]
      rw [w0, w1, v1, v3, v4, v5, wn, tn, tn, tn, tn, tn]
      clear w0 w1 v1 v3 v4 v5 wn
      have j14 : ∀ j, J 14 j = J0 14 j := fun j => g2 _ _ (by omega) (by omega)
      rw [j14, j14, j14, j14, j14]
      have ap := cv_append (fu := fu) (hb := hb) (l := 0) (o2 := oc + 4) (n2 := 864) (a := 6 * i) (I := I) (by decide) (by omega) (by omega) (by decide)
      have st := xv_stands (fu := fu) (l := 0) (a2 := J0 14 (6 * i)) (a3 := J0 14 (6 * i + 1)) (a4 := J0 14 (6 * i + 1)) (a5 := J0 14 (6 * i + 3)) (a6 := J0 14 (6 * i + 4)) (a7 := J0 14 (6 * i + 5)) (J := J) (by decide) ⟨c2, c3⟩
      refine pq_bl ap (fun x1 I1 _ hx => pq_gr (fun _ => pq_gr (fun _ => pq_gr (fun _ => pq_gr (fun _ => pq_gr (fun _ => pq_gr (fun _ => pq_br st (fun y1 J1 _ hy => ?_))))))))
      rcases hx with ⟨rfl, x2, rfl⟩ | ⟨rfl, x2, x3⟩
      · rcases hy with ⟨rfl, y2, y3, y4, y5⟩ | ⟨rfl, y2, y3⟩
        · rw [if_pos rfl]
          refine pq_zwl' (fun I2 e2 => ih m2 (i + 1) I2 J1 h ⟨fun q j a b c => ?_, fun q j a b => ?_, ?_, ?_⟩)
          · rw [e2, if_neg (by omega)]; exact g1 q j a b c
          · rw [y3 q j (by omega) b]; exact g2 q j a b
          · exact hl_mv g3 (fun j => ⟨by rw [e2, if_neg (by omega)], by rw [e2, if_neg (by omega)]⟩) (fun j a b => y3 _ _ (by omega) (by omega))
          · rw [e2, if_pos ⟨rfl, rfl⟩, y4, g4]
        · omega
      · rcases hy with ⟨rfl, y2, y3, y4, y5⟩ | ⟨rfl, y2, y3⟩
        · omega
        · rw [if_neg (by decide)]
          refine ih m2 (i + 1) I1 J1 h ⟨fun q j a b c => ?_, fun q j a b => ?_, ?_, ?_⟩
          · rw [x3, if_neg (by omega), if_neg (by omega)]; exact g1 q j a b c
          · rw [y3, if_neg (by omega), if_neg (by omega)]; exact g2 q j a b
          · refine hl_add (l := 0) (R := RWc (J0 14 (6 * i)) (J0 14 (6 * i + 1)) (J0 14 (6 * i + 1)) (J0 14 (6 * i + 3)) (J0 14 (6 * i + 4)) (J0 14 (6 * i + 5))) g3 (by decide) y2 (fun j => ?_) (fun j => ?_) (fun j a b => ?_)
            · rw [x3]
              by_cases z : j = 0
              · rw [if_pos ⟨rfl, z⟩, if_pos z]
              · rw [if_neg (fun q => z q.2), if_neg z, if_neg (by omega)]
            · rw [x3, if_neg (by omega), c1]
              by_cases z : 6 * (40 * 0 + (J 1 (130 + 0)).toNat) ≤ j ∧ j < 6 * (40 * 0 + (J 1 (130 + 0)).toNat) + 6
              · rw [if_pos ⟨rfl, z⟩, if_pos z, g1 _ _ (by omega) (by omega) (by omega)]
                exact hro i h _ (by omega)
              · rw [if_neg (fun q => z q.2), if_neg z]
            · rw [y3]
              by_cases z : j = 130 + 0
              · rw [if_pos ⟨rfl, z⟩, if_pos z]
              · rw [if_neg (fun q => z q.2), if_neg z]
                by_cases z2 : 140 + 6 * (40 * 0 + (J 1 (130 + 0)).toNat) ≤ j ∧ j < 140 + 6 * (40 * 0 + (J 1 (130 + 0)).toNat) + 6
                · rw [if_pos ⟨rfl, z2⟩, if_pos z2]
                · rw [if_neg (fun q => z2 q.2), if_neg z2]
          · rw [x3, if_neg (by omega), if_neg (by omega), y3, if_neg (by omega), if_neg (by omega)]; exact g4
    · rw [if_neg (by omega), if_neg (by omega)]
      exact hend I J hG
end
/-- the time, the stops and the state of draws once a chair goes -/
def fallF (s t p sec halt falls : Int) : Int × Int × Int := if 0 < falls then (if wrem (wushr (wr32 (wr32 (s * 1664525) + 1013904223)) 8) 1000 < falls then (wr32 (wr32 (s * 1664525) + 1013904223), wr32 (wr32 (t + sec) + halt), wr32 (p + 1)) else (wr32 (wr32 (s * 1664525) + 1013904223), wr32 (t + sec), p)) else (s, wr32 (t + sec), p)
section
variable {fu : Nat}
theorem cv_pastAt (c : Int) (hc : 0 ≤ c ∧ c < 2147483647) (I : IMem) : par (f_H_pastAt fu c I) (fun v I' => I' = I ∧ (v = 3 * (c % 60) ∨ 180 ≤ v)) := by
  unfold f_H_pastAt f_JM_floorMod
  simp only [zl_e]
  rw [zg_t (by decide), wrem_i2 (a := c) (c := 60) (by omega) (by omega) (by decide) (by decide)]
  refine par_zb (Q1 := fun v I' => I' = I ∧ (v = c % 60 ∨ v = c % 60 + 60)) ?_ (fun v I' ⟨g1, g2⟩ => par_zr ⟨g1, ?_⟩)
  · refine par_ite (fun _ => par_ite (fun _ => par_zr ⟨rfl, Or.inl rfl⟩) (fun _ => par_zr ⟨rfl, Or.inr ?_⟩)) (fun _ => par_zr ⟨rfl, Or.inl rfl⟩)
    exact wr32_i2 (by omega) (by omega)
  · rcases g2 with g2 | g2
    · left; rw [g2, wr32_i2 (by omega) (by omega)]; omega
    · right; rw [g2, wr32_i2 (by omega) (by omega)]; omega
theorem cv_close (hb : Nat) (left taken : Int) (I : IMem) (c : Nat) (hc : I (hb + 10) 0 = (c : Int)) (hc2 : c < 2000000000) : par (f_H_close fu hb left taken I) (fun _ I' => ∀ q j, I' q j = if q = hb + 10 ∧ j = 0 then (c : Int) + 1 else if q = hb + 12 ∧ j = 3 * (c % 60) + 2 then (fallF (I hb 6) (I (hb + 10) 3) (I (hb + 10) 4) (I (hb + 1) 1) (I (hb + 1) 2) (I (hb + 1) 3)).2.1 else if q = hb + 12 ∧ j = 3 * (c % 60) + 1 then taken else if q = hb + 12 ∧ j = 3 * (c % 60) then left else if q = hb + 11 ∧ j = 1 then left else if q = hb + 11 ∧ j = 0 then taken else if q = hb + 10 ∧ j = 4 then (fallF (I hb 6) (I (hb + 10) 3) (I (hb + 10) 4) (I (hb + 1) 1) (I (hb + 1) 2) (I (hb + 1) 3)).2.2 else if q = hb + 10 ∧ j = 3 then (fallF (I hb 6) (I (hb + 10) 3) (I (hb + 10) 4) (I (hb + 1) 1) (I (hb + 1) 2) (I (hb + 1) 3)).2.1 else if q = hb ∧ j = 6 then (fallF (I hb 6) (I (hb + 10) 3) (I (hb + 10) 4) (I (hb + 1) 1) (I (hb + 1) 2) (I (hb + 1) 3)).1 else if q = hb + 10 ∧ j = 1 then wr32 (I (hb + 10) 1 + left) else I q j) := by
  unfold f_H_close
  refine par_zw' (fun I1 e1 => ?_)
  have a3 : I1 (hb + 10) 3 = I (hb + 10) 3 := by rw [e1, if_neg (by omega)]
  have t1 : I1 (hb + 1) 1 = I (hb + 1) 1 := by rw [e1, if_neg (by omega)]
  rw [a3, t1]
  refine par_zw' (fun I2 e2 => ?_)
  refine par_zj (fun k3 ek3 => ?_)
  -- from the fall on
  have hk3 : ∀ (I4 : IMem) (F : Int × Int × Int), F = fallF (I hb 6) (I (hb + 10) 3) (I (hb + 10) 4) (I (hb + 1) 1) (I (hb + 1) 2) (I (hb + 1) 3) → (∀ q j, I4 q j = if q = hb + 10 ∧ j = 4 then F.2.2 else if q = hb + 10 ∧ j = 3 then F.2.1 else if q = hb ∧ j = 6 then F.1 else if q = hb + 10 ∧ j = 1 then wr32 (I (hb + 10) 1 + left) else I q j) → par (k3 I4) (fun _ I' => ∀ q j, I' q j = if q = hb + 10 ∧ j = 0 then (c : Int) + 1 else if q = hb + 12 ∧ j = 3 * (c % 60) + 2 then (fallF (I hb 6) (I (hb + 10) 3) (I (hb + 10) 4) (I (hb + 1) 1) (I (hb + 1) 2) (I (hb + 1) 3)).2.1 else if q = hb + 12 ∧ j = 3 * (c % 60) + 1 then taken else if q = hb + 12 ∧ j = 3 * (c % 60) then left else if q = hb + 11 ∧ j = 1 then left else if q = hb + 11 ∧ j = 0 then taken else if q = hb + 10 ∧ j = 4 then (fallF (I hb 6) (I (hb + 10) 3) (I (hb + 10) 4) (I (hb + 1) 1) (I (hb + 1) 2) (I (hb + 1) 3)).2.2 else if q = hb + 10 ∧ j = 3 then (fallF (I hb 6) (I (hb + 10) 3) (I (hb + 10) 4) (I (hb + 1) 1) (I (hb + 1) 2) (I (hb + 1) 3)).2.1 else if q = hb ∧ j = 6 then (fallF (I hb 6) (I (hb + 10) 3) (I (hb + 10) 4) (I (hb + 1) 1) (I (hb + 1) 2) (I (hb + 1) 3)).1 else if q = hb + 10 ∧ j = 1 then wr32 (I (hb + 10) 1 + left) else I q j) := by
    intro I4 F hF e4
    subst ek3
    rw [← hF]
    clear hF
    refine par_zw' (fun I5 e5 => par_zw' (fun I6 e6 => ?_))
    have c6 : I6 (hb + 10) 0 = (c : Int) := by rw [e6, if_neg (by omega), e5, if_neg (by omega), e4, if_neg (by omega), if_neg (by omega), if_neg (by omega), if_neg (by omega)]; exact hc
    rw [c6]
    refine par_zb (cv_pastAt (fu := fu) (c : Int) (by omega) I6) (fun v I7 ⟨g1, g2⟩ => ?_)
    have g1' := g1.symm
    subst g1'
    refine par_zg (fun gv => ?_)
    have hv : v = ((3 * (c % 60) : Nat) : Int) := by
      rcases g2 with g2 | g2
      · omega
      · omega
    have w1 : wr32 (v + 1) = ((3 * (c % 60) + 1 : Nat) : Int) := by rw [wr32_i2 (by omega) (by omega)]; omega
    have w2 : wr32 (v + 2) = ((3 * (c % 60) + 2 : Nat) : Int) := by rw [wr32_i2 (by omega) (by omega)]; omega
    simp only [zl_e]
    rw [w1, w2, hv, tn, tn, tn]
    clear w1 w2
    refine par_zw' (fun I8 e8 => par_zg (fun _ => par_zw' (fun I9 e9 => par_zg (fun _ => ?_))))
    have t9 : I9 (hb + 10) 3 = F.2.1 := by rw [e9, if_neg (by omega), e8, if_neg (by omega), e6, if_neg (by omega), e5, if_neg (by omega), e4, if_neg (by omega), if_pos ⟨rfl, rfl⟩]
    rw [t9]
    refine par_zw' (fun I10 e10 => ?_)
    have c10 : I10 (hb + 10) 0 = (c : Int) := by rw [e10, if_neg (by omega), e9, if_neg (by omega), e8, if_neg (by omega)]; exact c6
    rw [c10, wr32_i2 (x := (c : Int) + 1) (by omega) (by omega)]
    refine par_zw' (fun I11 e11 => par_zr (fun q j => ?_))
    rw [e11, e10, e9, e8, e6, e5, e4]
  clear ek3
  have b3 : I2 (hb + 1) 3 = I (hb + 1) 3 := by rw [e2, if_neg (by omega), e1, if_neg (by omega)]
  rw [b3]
  have i4 : I (hb + 10) 4 = I2 (hb + 10) 4 := by rw [e2, if_neg (by omega), e1, if_neg (by omega)]
  refine par_ite (fun q => ?_) (fun q => ?_)
  · unfold f_H_draw
    have b6 : I2 hb 6 = I hb 6 := by rw [e2, if_neg (by omega), e1, if_neg (by omega)]
    rw [b6, zb_zw]
    refine par_zw' (fun I3 e3 => ?_)
    rw [if_pos (by decide), zg_t (by decide), zb_zr, e3 hb 6, if_pos ⟨rfl, rfl⟩]
    have d3 : I3 (hb + 1) 3 = I (hb + 1) 3 := by rw [e3, if_neg (by omega)]; exact b3
    rw [d3]
    refine par_ite (fun q2 => ?_) (fun q2 => ?_)
    · have d33 : I3 (hb + 10) 3 = wr32 (I (hb + 10) 3 + I (hb + 1) 1) := by rw [e3, if_neg (by omega), e2, if_pos ⟨rfl, rfl⟩]
      have d12 : I3 (hb + 1) 2 = I (hb + 1) 2 := by rw [e3, if_neg (by omega), e2, if_neg (by omega), e1, if_neg (by omega)]
      rw [d33, d12]
      refine par_zw' (fun I4 e4 => ?_)
      have d44 : I4 (hb + 10) 4 = I (hb + 10) 4 := by rw [e4, if_neg (by omega), e3, if_neg (by omega), ← i4]
      rw [d44]
      refine par_zw' (fun I5 e5 => hk3 I5 _ rfl (fun q' j => ?_))
      have hF : fallF (I hb 6) (I (hb + 10) 3) (I (hb + 10) 4) (I (hb + 1) 1) (I (hb + 1) 2) (I (hb + 1) 3) = (wr32 (wr32 (I hb 6 * 1664525) + 1013904223), wr32 (wr32 (I (hb + 10) 3 + I (hb + 1) 1) + I (hb + 1) 2), wr32 (I (hb + 10) 4 + 1)) := by
        unfold fallF; rw [if_pos q, if_pos q2]
      rw [hF, e5, e4, e3, e2, e1]
      by_cases z : q' = hb + 10 ∧ j = 3
      · rw [if_neg (by omega), if_pos z, if_neg (by omega), if_pos z]
      · rw [if_neg z]
        by_cases z4 : q' = hb + 10 ∧ j = 4
        · rw [if_pos z4, if_pos z4]
        · rw [if_neg z4, if_neg z4, if_neg z, if_neg z]
    · refine hk3 I3 _ rfl (fun q' j => ?_)
      have hF : fallF (I hb 6) (I (hb + 10) 3) (I (hb + 10) 4) (I (hb + 1) 1) (I (hb + 1) 2) (I (hb + 1) 3) = (wr32 (wr32 (I hb 6 * 1664525) + 1013904223), wr32 (I (hb + 10) 3 + I (hb + 1) 1), I (hb + 10) 4) := by
        unfold fallF; rw [if_pos q, if_neg q2]
      rw [hF, e3, e2, e1]
      by_cases z4 : q' = hb + 10 ∧ j = 4
      · rw [if_pos z4, if_neg (by omega), if_neg (by omega), if_neg (by omega), z4.1, z4.2]
      · rw [if_neg z4]
        by_cases z : q' = hb + 10 ∧ j = 3
        · rw [if_neg (by omega), if_pos z, if_pos z]
        · rw [if_neg z, if_neg z]
  · refine hk3 I2 _ rfl (fun q' j => ?_)
    have hF : fallF (I hb 6) (I (hb + 10) 3) (I (hb + 10) 4) (I (hb + 1) 1) (I (hb + 1) 2) (I (hb + 1) 3) = (I hb 6, wr32 (I (hb + 10) 3 + I (hb + 1) 1), I (hb + 10) 4) := by
      unfold fallF; rw [if_neg q]
    rw [hF, e2, e1]
    by_cases z4 : q' = hb + 10 ∧ j = 4
    · rw [if_pos z4, if_neg (by omega), if_neg (by omega), z4.1, z4.2]
    · rw [if_neg z4]
      by_cases z : q' = hb + 10 ∧ j = 3
      · rw [if_pos z, if_pos z]
      · rw [if_neg z, if_neg z]
        by_cases z6 : q' = hb ∧ j = 6
        · rw [if_neg (by omega), if_pos z6, z6.1, z6.2]
        · rw [if_neg z6]
end
/-! the chair goes: whole, on both sides -/
section
variable {fu : Nat} {Q : Int → IMem → Prop}
theorem xv_forg2 (kk : IMem → Res) (J0 : IMem) (hk : ∀ J, (∀ j, j < 240 → J 13 j = 0) → (∀ q j, q ≠ 13 → J q j = J0 q j) → par (kk J) Q) : ∀ (m i : Nat) (J : IMem), i ≤ 240 → (∀ j, j < i → J 13 j = 0) → (∀ q j, q ≠ 13 → J q j = J0 q j) → par (f_X_forgets_2 fu kk 0 m (i : Int) J) Q := by
  intro m
  induction m with
  | zero => intro _ _ _ _ _; exact par_none
  | succ m ih =>
    intro i J hi hz hf
    show par (fb_X_forgets_2 fu kk 0 (f_X_forgets_2 fu kk 0 m) (i : Int) J) _
    unfold fb_X_forgets_2
    by_cases h : i < 240
    · rw [if_pos (by omega)]
      refine par_zg (fun _ => par_zw' (fun I1 e1 => ?_))
      rw [tn] at e1
      simp only [zl_e]
      have wn : wr32 ((i : Int) + 1) = ((i + 1 : Nat) : Int) := by rw [wr32_i2 (by omega) (by omega)]; rfl
      rw [wn]
      clear wn
      refine ih (i + 1) I1 h (fun j hj => ?_) (fun q j h1 => ?_)
      · rw [e1]
        by_cases z : j = i
        · rw [if_pos (by omega)]
        · rw [if_neg (by omega)]; exact hz j (by omega)
      · rw [e1, if_neg (by omega)]; exact hf q j h1
    · rw [if_neg (by omega)]
      exact hk J (fun j hj => hz j (by omega)) hf
theorem xv_forgets (J : IMem) : par (f_X_forgets fu 0 J) (fun _ J' => (∀ j, j < 240 → J' 13 j = 0) ∧ J' 0 35 = 0 ∧ ∀ q j, q ≠ 13 → ¬ (q = 0 ∧ j = 35) → J' q j = J q j) := by
  unfold f_X_forgets
  refine xv_forg2 (fu := fu) _ J (fun J1 g1 g2 => ?_) fu 0 J (by decide) (fun j hj => absurd hj (Nat.not_lt_zero _)) (fun _ _ _ => rfl)
  refine par_zw' (fun I2 e2 => par_zr ⟨fun j hj => ?_, ?_, fun q j h1 h2 => ?_⟩)
  · rw [e2, if_neg (by omega)]; exact g1 j hj
  · rw [e2, if_pos ⟨rfl, rfl⟩]
  · rw [e2, if_neg h2]; exact g2 q j h1
/-- the reference's last lines -/
def xTL (fu : Nat) (x1 : Int) (I53 : IMem) : Res :=
            zw I53 (0 + 1) 70 (wr32 ((I53 (0 + 1) 70) + 1)) fun I54 =>
            zw I54 (0 + 1) 73 (wr32 ((I54 (0 + 1) 73) + (I54 (0 + 1) 2))) fun I55 =>
            zj (fun  (I57 : IMem) =>
                zl (wr32 (6010 + (wr32 (3 * (wrem (wr32 ((I57 (0 + 1) 70) - 1)) 60))))) fun x58 =>
                zg (0 ≤ x58 ∧ x58 < 6190) (zw I57 (0 + 1) x58.toNat (I57 0 30) fun I59 =>
                zl (wr32 (x58 + 1)) fun x61 =>
                zg (0 ≤ x61 ∧ x61 < 6190) (zw I59 (0 + 1) x61.toNat (I59 0 31) fun I60 =>
                zl (wr32 (x58 + 2)) fun x63 =>
                zg (0 ≤ x63 ∧ x63 < 6190) (zw I60 (0 + 1) x63.toNat (I60 (0 + 1) 73) fun I62 =>
                zb (f_X_forgets fu 0 I62) fun _ I65 =>
                zr x1 I65)))) fun k56 =>
              if 0 < I55 (0 + 1) 4 then (
                zb (f_X_draw fu 0 1000 I55) fun y67 I68 =>
                if y67 < I68 (0 + 1) 4 then (
                  zw I68 (0 + 1) 73 (wr32 ((I68 (0 + 1) 73) + (I68 (0 + 1) 3))) fun I70 =>
                  zw I70 (0 + 1) 74 (wr32 ((I70 (0 + 1) 74) + 1)) fun I71 =>
                  k56 I71)
                else (
                  k56 I68))
              else (
                k56 I55)
theorem goes_eq (fu : Nat) (J : IMem) : f_X_goesOff fu 0 J = zl (wr32 ((J (0 + 1) 1) - (J 0 30))) fun x1 => zw J (0 + 1) 71 (wr32 ((J (0 + 1) 71) + (J 0 30))) fun I2 => zw I2 (0 + 1) 72 (wr32 ((I2 (0 + 1) 72) + x1)) fun I3 => zw I3 (0 + 1) 110 (I3 0 31) fun I4 => zw I4 (0 + 1) 111 (I4 0 30) fun I5 => f_X_goesOff_61 fu (fun (I30 : IMem) => f_X_goesOff_205 fu (fun (I37 : IMem) => f_X_goesOff_266 fu (fun (I42 : IMem) => f_X_goesOff_285 fu (xTL fu x1) 0 x1 fu 0 I42) 0 x1 fu 0 I37) 0 x1 fu 0 I30) 0 x1 fu 0 I5 := rfl
theorem xv_tail (x1 : Int) (J : IMem) (c : Nat) (hc : J 1 70 = (c : Int)) (hc2 : c < 2000000000) : par (xTL fu x1 J) (fun v J' => v = x1 ∧ (∀ j, j < 240 → J' 13 j = 0) ∧ J' 0 35 = 0 ∧ ∀ q j, q ≠ 13 → ¬ (q = 0 ∧ j = 35) → J' q j = if q = 1 ∧ j = 6010 + 3 * (c % 60) + 2 then (fallF (J 1 0) (J 1 73) (J 1 74) (J 1 2) (J 1 3) (J 1 4)).2.1 else if q = 1 ∧ j = 6010 + 3 * (c % 60) + 1 then J 0 31 else if q = 1 ∧ j = 6010 + 3 * (c % 60) then J 0 30 else if q = 1 ∧ j = 74 then (fallF (J 1 0) (J 1 73) (J 1 74) (J 1 2) (J 1 3) (J 1 4)).2.2 else if q = 1 ∧ j = 73 then (fallF (J 1 0) (J 1 73) (J 1 74) (J 1 2) (J 1 3) (J 1 4)).2.1 else if q = 1 ∧ j = 0 then (fallF (J 1 0) (J 1 73) (J 1 74) (J 1 2) (J 1 3) (J 1 4)).1 else if q = 1 ∧ j = 70 then (c : Int) + 1 else J q j) := by
  unfold xTL
  simp only [Nat.zero_add]
  rw [hc, wr32_i2 (x := (c : Int) + 1) (by omega) (by omega)]
  refine par_zw' (fun I1 e1 => ?_)
  have a3 : I1 1 73 = J 1 73 := by rw [e1, if_neg (by omega)]
  have t1 : I1 1 2 = J 1 2 := by rw [e1, if_neg (by omega)]
  rw [a3, t1]
  refine par_zw' (fun I2 e2 => ?_)
  refine par_zj (fun k3 ek3 => ?_)
  have hk3 : ∀ (I4 : IMem) (F : Int × Int × Int), F = fallF (J 1 0) (J 1 73) (J 1 74) (J 1 2) (J 1 3) (J 1 4) → (∀ q j, I4 q j = if q = 1 ∧ j = 74 then F.2.2 else if q = 1 ∧ j = 73 then F.2.1 else if q = 1 ∧ j = 0 then F.1 else if q = 1 ∧ j = 70 then (c : Int) + 1 else J q j) → par (k3 I4) (fun v J' => v = x1 ∧ (∀ j, j < 240 → J' 13 j = 0) ∧ J' 0 35 = 0 ∧ ∀ q j, q ≠ 13 → ¬ (q = 0 ∧ j = 35) → J' q j = if q = 1 ∧ j = 6010 + 3 * (c % 60) + 2 then (fallF (J 1 0) (J 1 73) (J 1 74) (J 1 2) (J 1 3) (J 1 4)).2.1 else if q = 1 ∧ j = 6010 + 3 * (c % 60) + 1 then J 0 31 else if q = 1 ∧ j = 6010 + 3 * (c % 60) then J 0 30 else if q = 1 ∧ j = 74 then (fallF (J 1 0) (J 1 73) (J 1 74) (J 1 2) (J 1 3) (J 1 4)).2.2 else if q = 1 ∧ j = 73 then (fallF (J 1 0) (J 1 73) (J 1 74) (J 1 2) (J 1 3) (J 1 4)).2.1 else if q = 1 ∧ j = 0 then (fallF (J 1 0) (J 1 73) (J 1 74) (J 1 2) (J 1 3) (J 1 4)).1 else if q = 1 ∧ j = 70 then (c : Int) + 1 else J q j) := by
    intro I4 F hF e4
    subst ek3
    rw [← hF]
    clear hF
    have c6 : I4 1 70 = (c : Int) + 1 := by rw [e4, if_neg (by omega), if_neg (by omega), if_neg (by omega), if_pos ⟨rfl, rfl⟩]
    have w0 : wr32 ((c : Int) + 1 - 1) = (c : Int) := by rw [wr32_i2 (by omega) (by omega)]; omega
    simp only [zl_e]
    rw [c6, w0, wrem_i2 (a := (c : Int)) (c := 60) (by omega) (by omega) (by decide) (by decide), wr32_i2 (x := 3 * ((c : Int) % 60)) (by omega) (by omega)]
    have w1 : wr32 (6010 + 3 * ((c : Int) % 60)) = ((6010 + 3 * (c % 60) : Nat) : Int) := by rw [wr32_i2 (by omega) (by omega)]; omega
    have w2 : wr32 (((6010 + 3 * (c % 60) : Nat) : Int) + 1) = ((6010 + 3 * (c % 60) + 1 : Nat) : Int) := by rw [wr32_i2 (by omega) (by omega)]; omega
    have w3 : wr32 (((6010 + 3 * (c % 60) : Nat) : Int) + 2) = ((6010 + 3 * (c % 60) + 2 : Nat) : Int) := by rw [wr32_i2 (by omega) (by omega)]; omega
    rw [w1, w2, w3, tn, tn, tn]
    clear w0 w1 w2 w3
    have f30 : I4 0 30 = J 0 30 := by rw [e4, if_neg (by omega), if_neg (by omega), if_neg (by omega), if_neg (by omega)]
    rw [f30]
    refine par_zg (fun _ => par_zw' (fun I5 e5 => par_zg (fun _ => ?_)))
    have f31 : I5 0 31 = J 0 31 := by rw [e5, if_neg (by omega), e4, if_neg (by omega), if_neg (by omega), if_neg (by omega), if_neg (by omega)]
    rw [f31]
    refine par_zw' (fun I6 e6 => par_zg (fun _ => ?_))
    have f73 : I6 1 73 = F.2.1 := by rw [e6, if_neg (by omega), e5, if_neg (by omega), e4, if_neg (by omega), if_pos ⟨rfl, rfl⟩]
    rw [f73]
    refine par_zw' (fun I7 e7 => par_zb (xv_forgets (fu := fu) I7) (fun _ I8 ⟨g1, g2, g3⟩ => par_zr ⟨rfl, g1, g2, fun q j h1 h2 => ?_⟩))
    rw [g3 q j h1 h2, e7, e6, e5, e4]
  clear ek3
  have b4 : I2 1 4 = J 1 4 := by rw [e2, if_neg (by omega), e1, if_neg (by omega)]
  rw [b4]
  have i74 : I2 1 74 = J 1 74 := by rw [e2, if_neg (by omega), e1, if_neg (by omega)]
  refine par_ite (fun q => ?_) (fun q => ?_)
  · unfold f_X_draw
    simp only [Nat.zero_add]
    have b0 : I2 1 0 = J 1 0 := by rw [e2, if_neg (by omega), e1, if_neg (by omega)]
    rw [b0, zb_zw, Int.mul_comm 1664525 (J 1 0)]
    refine par_zw' (fun I3 e3 => ?_)
    rw [zg_t (by decide), zb_zr, e3 1 0, if_pos ⟨rfl, rfl⟩]
    have d3 : I3 1 4 = J 1 4 := by rw [e3, if_neg (by omega)]; exact b4
    rw [d3]
    refine par_ite (fun q2 => ?_) (fun q2 => ?_)
    · have d33 : I3 1 73 = wr32 (J 1 73 + J 1 2) := by rw [e3, if_neg (by omega), e2, if_pos ⟨rfl, rfl⟩]
      have d12 : I3 1 3 = J 1 3 := by rw [e3, if_neg (by omega), e2, if_neg (by omega), e1, if_neg (by omega)]
      rw [d33, d12]
      refine par_zw' (fun I4 e4 => ?_)
      have d44 : I4 1 74 = J 1 74 := by rw [e4, if_neg (by omega), e3, if_neg (by omega), i74]
      rw [d44]
      refine par_zw' (fun I5 e5 => hk3 I5 _ rfl (fun q' j => ?_))
      have hF : fallF (J 1 0) (J 1 73) (J 1 74) (J 1 2) (J 1 3) (J 1 4) = (wr32 (wr32 (J 1 0 * 1664525) + 1013904223), wr32 (wr32 (J 1 73 + J 1 2) + J 1 3), wr32 (J 1 74 + 1)) := by
        unfold fallF; rw [if_pos q, if_pos q2]
      rw [hF, e5, e4, e3, e2, e1]
      by_cases z4 : q' = 1 ∧ j = 74
      · rw [if_pos z4, if_pos z4]
      · rw [if_neg z4, if_neg z4]
        by_cases z : q' = 1 ∧ j = 73
        · rw [if_pos z, if_pos z]
        · rw [if_neg z, if_neg z, if_neg z]
    · refine hk3 I3 _ rfl (fun q' j => ?_)
      have hF : fallF (J 1 0) (J 1 73) (J 1 74) (J 1 2) (J 1 3) (J 1 4) = (wr32 (wr32 (J 1 0 * 1664525) + 1013904223), wr32 (J 1 73 + J 1 2), J 1 74) := by
        unfold fallF; rw [if_pos q, if_neg q2]
      rw [hF, e3, e2, e1]
      by_cases z4 : q' = 1 ∧ j = 74
      · rw [if_pos z4, if_neg (by omega), if_neg (by omega), if_neg (by omega), z4.1, z4.2]
      · rw [if_neg z4]
        by_cases z : q' = 1 ∧ j = 73
        · rw [if_neg (by omega), if_pos z, if_pos z]
        · rw [if_neg z, if_neg z]
  · refine hk3 I2 _ rfl (fun q' j => ?_)
    have hF : fallF (J 1 0) (J 1 73) (J 1 74) (J 1 2) (J 1 3) (J 1 4) = (J 1 0, wr32 (J 1 73 + J 1 2), J 1 74) := by
      unfold fallF; rw [if_neg q]
    rw [hF, e2, e1]
    by_cases z4 : q' = 1 ∧ j = 74
    · rw [if_pos z4, if_neg (by omega), if_neg (by omega), z4.1, z4.2]
    · rw [if_neg z4]
      by_cases z : q' = 1 ∧ j = 73
      · rw [if_pos z, if_pos z]
      · rw [if_neg z, if_neg z]
        by_cases z6 : q' = 1 ∧ j = 0
        · rw [if_neg (by omega), if_pos z6, z6.1, z6.2]
        · rw [if_neg z6]
end
/-- what a chair that went leaves -/
def LPO (hb : Nat) (I J : IMem) (x : Int) (I' : IMem) (y : Int) (J' : IMem) : Prop := x = y ∧ HR hb 1 I' J' ∧ (∀ j, j < 240 → J' 13 j = 0) ∧ J' 0 35 = 0 ∧ J' 0 22 = J 0 22 ∧ I' hb 11 = I hb 11 ∧ (∀ j, I' (hb + 14) j = I (hb + 14) j) ∧ J' 1 71 = wr32 (J 1 71 + J' 1 111)
section
variable {fu oc hb : Nat} {I J : IMem}
/-- leave and goesOff -/
theorem leave2 (h : FE oc hb I J) (hd : hb + 40 ≤ oc) (hz : ∀ k, INL J k → 1 ≤ J 1 (141 + 6 * k) ∧ J 1 (141 + 6 * k) ≤ 8) (hn : J 0 32 ≤ 144) (hc : 0 ≤ J 1 70 ∧ J 1 70 < 2000000000) (hs : 2 ≤ J 1 1 ∧ J 1 1 ≤ 8) (hrg : RG I) : pq (f_C_leave fu oc hb I) (f_X_goesOff fu 0 J) (LPO hb I J) := by
  obtain ⟨⟨hS, hY, hP, hW⟩, hL, hF⟩ := h
  have hF' := hF
  obtain ⟨⟨a1, a2, a3⟩, ⟨b1, b2, b3, b4⟩, _, _, mk, fo, fg, su⟩ := hF'
  rw [goes_eq]
  unfold f_C_leave
  simp only [zl_e, Nat.zero_add]
  have x1e : wr32 (J 1 1 - J 0 30) = sm (I (oc + 3)) (J 0 31).toNat := by rw [wr32_i2 (by omega) (by omega)]; omega
  rw [x1e]
  generalize hx1 : sm (I (oc + 3)) (J 0 31).toNat = people at *
  refine pq_zwr' (fun J1 e1 => ?_)
  have q1 : J1 1 72 = J 1 72 := by rw [e1, if_neg (by omega)]
  rw [q1]
  refine pq_zwr' (fun J2 e2 => ?_)
  have q2 : J2 0 31 = J 0 31 := by rw [e2, if_neg (by omega), e1, if_neg (by omega)]
  rw [q2]
  refine pq_zwr' (fun J3 e3 => ?_)
  have q3 : J3 0 30 = J 0 30 := by rw [e3, if_neg (by omega), e2, if_neg (by omega), e1, if_neg (by omega)]
  rw [q3]
  refine pq_zwr' (fun J5 e5 => ?_)
  have f5 : ∀ q j, J5 q j = if q = 1 ∧ j = 111 then J 0 30 else if q = 1 ∧ j = 110 then J 0 31 else if q = 1 ∧ j = 72 then wr32 (J 1 72 + people) else if q = 1 ∧ j = 71 then wr32 (J 1 71 + J 0 30) else J q j := fun q j => by rw [e5, e3, e2, e1]
  clear e5 e3 e2 e1 q1 q2 q3
  have s5 : ∀ q j, ¬ (q = 1 ∧ (j = 71 ∨ j = 72 ∨ j = 110 ∨ j = 111)) → J5 q j = J q j := fun q j hq => by rw [f5, if_neg (by omega), if_neg (by omega), if_neg (by omega), if_neg (by omega)]
  have hF5 : FRl oc I J5 := frl_fr hF (fun _ _ _ => rfl) (fun q j a => s5 q j (by omega))
  have hL5 : HLP oc hb I J5 := by
    intro l hl
    obtain ⟨c1, c2, c3⟩ := hL l hl
    rw [s5 _ _ (by omega)]
    refine ⟨c1, c2, fun p f hp hf => ?_⟩
    rw [s5 1 _ (by omega), s5 9 _ (by omega), s5 1 _ (by omega)]
    exact c3 p f hp hf
  have j31 : J5 0 31 = J 0 31 := s5 _ _ (by omega)
  have N0 : NRl oc hb 0 I J5 I J5 := by
    refine ⟨fun _ _ _ => rfl, fun _ _ _ => rfl, fun s h1 h2 => ?_, fun t ht => ?_, ?_⟩
    · rw [s5 _ _ (by omega), s5 _ _ (by omega), s5 _ _ (by omega)]; exact hY.2 s h1 h2
    · rw [s5 _ _ (by omega), s5 _ _ (by omega)]; exact hP.2.2.2.1 t ht
    · show I (hb + 10) 2 = wr32 (I (hb + 10) 2 + 0)
      have := hrg (hb + 10) 2
      rw [Int.add_zero, wr32_id this]
  have prg : 0 ≤ people ∧ people ≤ 8 := by omega
  obtain ⟨c, hcc⟩ : ∃ c : Nat, J 1 70 = (c : Int) := ⟨(J 1 70).toNat, by omega⟩
  obtain ⟨n, hnn⟩ : ∃ n : Nat, J 0 32 = (n : Int) := ⟨(J 0 32).toNat, by omega⟩
  refine note2 (fu := fu) hd _ _ _ _ I J5 hF5 hL5 (fun I6 J6 hN => ?_) fu fu 0 I J5 (by rw [j31]; omega) N0
  rw [j31] at hN
  obtain ⟨n1, n2, n3, n4, n5⟩ := hN
  rw [hx1] at n5
  -- the reference's memory so far
  have s6 : ∀ q j, ¬ (q = 1 ∧ (j = 71 ∨ j = 72 ∨ j = 110 ∨ j = 111 ∨ (81 ≤ j ∧ j ≤ 108) ∨ (112 ≤ j ∧ j ≤ 127))) → J6 q j = J q j := fun q j hq => (n2 q j (by omega)).trans (s5 q j (by omega))
  refine pq_ofr (fun x I9 e8 => xv_outs (fu := fu) _ _ J6 n ((s6 _ _ (by omega)).trans hnn) (by omega) (fun i hi => ?_) (fun J7 o1 o2 => pq_tor (x := x) (I := I9) ?_ e8) fu 0 J6 (Nat.zero_le _) (fun _ _ _ => rfl) (fun i' _ _ hi' => absurd hi' (Nat.not_lt_zero _)))
  · obtain ⟨k, k1, k2, _⟩ := fg i (by omega)
    exact ⟨k, k1.1, (s6 _ _ (by omega)).trans k2⟩
  have s7 : ∀ q j, q ≠ 14 → ¬ (q = 1 ∧ (j = 71 ∨ j = 72 ∨ j = 110 ∨ j = 111 ∨ (81 ≤ j ∧ j ≤ 108) ∨ (112 ≤ j ∧ j ≤ 127))) → J7 q j = J q j := fun q j h1 h2 => (o1 q j h1).trans (s6 q j h2)
  have hF7 : FRl oc I6 J7 := frl_fr hF (fun q j a => n1 q j (by omega)) (fun q j a => s7 q j (by omega) (by omega))
  have hL7 : HLP oc hb I6 J7 := by
    intro l hl
    obtain ⟨c1, c2, c3⟩ := hL l hl
    rw [n1 _ _ (by omega), s7 _ _ (by omega) (by omega)]
    refine ⟨c1, c2, fun p f hp hf => ?_⟩
    rw [n1 _ _ (by omega), n1 _ _ (by omega), s7 1 _ (by omega) (by omega), s7 9 _ (by omega) (by omega), s7 1 _ (by omega) (by omega)]
    exact c3 p f hp hf
  have hz7 : ∀ k, INL J7 k → 1 ≤ J7 1 (141 + 6 * k) ∧ J7 1 (141 + 6 * k) ≤ 8 := by
    intro k hk
    have hk1 := hk.1
    have hk2 := hk.2
    rw [s7 _ _ (by omega) (by omega)] at hk2
    rw [s7 _ _ (by omega) (by omega)]
    exact hz k ⟨hk1, hk2⟩
  intro x2 I92 y J9 e82 e9
  obtain ⟨v, I8, e10, e11⟩ := of_zb e82
  unfold f_L_depart at e10
  refine depart6 (fu := fu) (Q := fun v I8 y J9 => ∀ x I9, (f_C_leave_59 fu (fun (I17 : IMem) => zb (f_H_close fu hb (I17 oc 7) (I17 oc 8) I17) fun _ I19 => zr (wr32 ((I19 (hb + 10) 2) - I (hb + 10) 2)) I19) oc hb (I (hb + 10) 2) fu 0 I8) = some (x, I9) → LPO hb I J x I9 y J9) hd _ _ I6 J7 hF7 hL7 hz7 (fun I8 J8 hM => ?_) fu fu 0 I6 J7 (by decide) ⟨fun _ _ _ _ => rfl, fun _ _ _ => rfl, fun l' hl' => absurd hl' (Nat.not_lt_zero _)⟩ v I8 y J9 e10 e9 x2 I92 e11
  obtain ⟨m1, m2, m3⟩ := hM
  intro v' I' y' J' e1 e2
  cases e1
  intro x3 I93 e3
  have i8 : ∀ q j, q ≠ hb + 7 → q ≠ hb + 8 → I8 q j = I6 q j := fun q j a b => m1 q j (by omega) (by omega)
  have j8 : ∀ q j, ¬ (q = 1 ∧ 130 ≤ j ∧ j < 1580) → J8 q j = J7 q j := fun q j a => m2 q j (by omega)
  have hL8 : HL hb 1 I8 J8 := fun l hl => m3 l hl
  have away : I8 (hb + 10) 6 = J8 1 76 := by
    rw [i8 _ _ (by omega) (by omega), n1 _ _ (by omega), j8 _ _ (by omega), s7 _ _ (by omega) (by omega)]; exact hY.1 6 (by decide)
  refine gone2 (fu := fu) (Q := LPO hb I J) hd _ _ _ _ I8 J8 n (by omega) ?_ ?_ (fun i hi f hf => ?_) (fun I17 J17 hG => ?_) fu fu 0 I8 J8 (Nat.zero_le _) ⟨fun _ _ _ _ _ => rfl, fun _ _ _ _ => rfl, hL8, away⟩ x3 I93 y' J' e3 e2
  · rw [i8 _ _ (by omega) (by omega), n1 _ _ (by omega), a3, hnn]
  · rw [j8 _ _ (by omega), s7 _ _ (by omega) (by omega), hnn]
  · obtain ⟨k, k1, k2, k3, k4⟩ := fg i (by omega)
    have hk1 := k1.1
    have ko : J6 10 i = (k : Int) := (s6 _ _ (by omega)).trans k2
    have out : ∀ g, g < 6 → J8 14 (6 * i + g) = J 1 (140 + 6 * k + g) := fun g hg => by
      rw [j8 _ _ (by omega), o2 i k g hi ko hg]; exact s6 _ _ (by omega)
    rw [i8 _ _ (by omega) (by omega), n1 _ _ (by omega), k4 f hf, out 0 (by decide), out 1 (by decide), out 3 (by decide), out 4 (by decide), out 5 (by decide)]
    rcases (show f = 0 ∨ f = 1 ∨ f = 2 ∨ f = 3 ∨ f = 4 ∨ f = 5 by omega) with rfl | rfl | rfl | rfl | rfl | rfl <;> rfl
  -- the numbers
  obtain ⟨g1, g2, g3, g4⟩ := hG
  have ci : ∀ q j, q ≠ hb + 7 → q ≠ hb + 8 → ¬ (q = hb + 10 ∧ (j = 2 ∨ j = 6 ∨ (11 ≤ j ∧ j ≤ 38))) → ¬ (q = hb + 11 ∧ 10 ≤ j ∧ j ≤ 27) → I17 q j = I q j := fun q j h1 h2 h3 h4 => by
    rw [g1 q j h1 h2 (by omega), i8 q j h1 h2]; exact n1 q j (by omega)
  have cj : ∀ q j, q ≠ 14 → ¬ (q = 0 ∧ j = 24) → ¬ (q = 1 ∧ (j = 71 ∨ j = 72 ∨ j = 76 ∨ j = 110 ∨ j = 111 ∨ (81 ≤ j ∧ j ≤ 108) ∨ (112 ≤ j ∧ j ≤ 127) ∨ (130 ≤ j ∧ j < 1580))) → J17 q j = J q j := fun q j h1 h2 h3 => by
    rw [g2 q j (by omega) h2, j8 q j (by omega)]; exact s7 q j h1 (by omega)
  have ci6 : ∀ q j, q ≠ hb + 7 → q ≠ hb + 8 → ¬ (q = hb + 10 ∧ j = 6) → I17 q j = I6 q j := fun q j h1 h2 h3 => by
    rw [g1 q j h1 h2 h3, i8 q j h1 h2]
  have cj6 : ∀ j, j ≠ 76 → ¬ (130 ≤ j ∧ j < 1580) → J17 1 j = J6 1 j := fun j h1 h2 => by
    rw [g2 1 j (by omega) (by omega), j8 1 j (by omega)]; exact o1 1 j (by omega)
  have cj5 : ∀ j, j ≠ 76 → ¬ (130 ≤ j ∧ j < 1580) → ¬ (81 ≤ j ∧ j ≤ 108) → ¬ (112 ≤ j ∧ j ≤ 127) → J17 1 j = J5 1 j := fun j h1 h2 h3 h4 => by
    rw [cj6 j h1 h2]; exact n2 1 j (by omega)
  have t0 : ∀ k, k < 6 → I17 (hb + 1) k = J17 1 (1 + k) := fun k hk => by
    rw [ci _ _ (by omega) (by omega) (by omega) (by omega), cj _ _ (by omega) (by omega) (by omega)]; exact hS.1 k hk
  have y0 : ∀ k, k ≠ 1 → k ≠ 2 → k ≠ 6 → k < 7 → I17 (hb + 10) k = J17 1 (70 + k) := fun k h1 h2 h3 h4 => by
    rw [ci _ _ (by omega) (by omega) (by omega) (by omega), cj _ _ (by omega) (by omega) (by omega)]; exact hY.1 k h4
  have st : I17 hb 6 = J17 1 0 := by rw [ci _ _ (by omega) (by omega) (by omega) (by omega), cj _ _ (by omega) (by omega) (by omega)]; exact hS.2.1
  have hcJ : J17 1 70 = (c : Int) := (cj _ _ (by omega) (by omega) (by omega)).trans hcc
  have hcI : I17 (hb + 10) 0 = (c : Int) := (y0 0 (by decide) (by decide) (by decide) (by decide)).trans hcJ
  have i7 : I17 oc 7 = J 0 30 := (ci _ _ (by omega) (by omega) (by omega) (by omega)).trans a1
  have i8' : I17 oc 8 = J 0 31 := (ci _ _ (by omega) (by omega) (by omega) (by omega)).trans a2
  have jj30 : J17 0 30 = J 0 30 := cj _ _ (by omega) (by omega) (by omega)
  have jj31 : J17 0 31 = J 0 31 := cj _ _ (by omega) (by omega) (by omega)
  have hF2 : fallF (I17 hb 6) (I17 (hb + 10) 3) (I17 (hb + 10) 4) (I17 (hb + 1) 1) (I17 (hb + 1) 2) (I17 (hb + 1) 3) = fallF (J17 1 0) (J17 1 73) (J17 1 74) (J17 1 2) (J17 1 3) (J17 1 4) := by
    rw [st, y0 3 (by decide) (by decide) (by decide) (by decide), y0 4 (by decide) (by decide) (by decide) (by decide), t0 1 (by decide), t0 2 (by decide), t0 3 (by decide)]
  refine pq_bl (cv_close (fu := fu) hb (I17 oc 7) (I17 oc 8) I17 c hcI (by omega)) (fun _ I19 _ gc => pq_r (par_mono (xv_tail (fu := fu) people J17 c hcJ (by omega)) (fun y J19 ⟨h1, h2, h3, h4⟩ => ⟨?_, ⟨?_, ?_, ?_, ?_, ?_⟩, h2, h3, ?_, ?_, fun j => ?_, ?_⟩)))
  · have : I19 (hb + 10) 2 = wr32 (I (hb + 10) 2 + people) := by
      rw [gc, if_neg (by omega), if_neg (by omega), if_neg (by omega), if_neg (by omega), if_neg (by omega), if_neg (by omega), if_neg (by omega), if_neg (by omega), if_neg (by omega), if_neg (by omega), ci6 _ _ (by omega) (by omega) (by omega)]; exact n5
    rw [h1, this]
    unfold wr32
    omega
  · have cc : ∀ q j, q ≠ hb + 10 → q ≠ hb + 11 → q ≠ hb + 12 → ¬ (q = hb ∧ j = 6) → q ≠ hb + 7 → q ≠ hb + 8 → I19 q j = I q j := fun q j b1 b2 b3 b4 b5 b6 => by
      rw [gc, if_neg (by omega), if_neg (by omega), if_neg (by omega), if_neg (by omega), if_neg (by omega), if_neg (by omega), if_neg (by omega), if_neg (by omega), if_neg (by omega), if_neg (by omega)]; exact ci q j b5 b6 (by omega) (by omega)
    have cd : ∀ j, j ≠ 0 → j < 70 → J19 1 j = J 1 j := fun j b1 b2 => by
      rw [h4 _ _ (by omega) (by omega), if_neg (by omega), if_neg (by omega), if_neg (by omega), if_neg (by omega), if_neg (by omega), if_neg (by omega), if_neg (by omega)]; exact cj _ _ (by omega) (by omega) (by omega)
    obtain ⟨z1, z2, z3, z4, z5, z6, z7⟩ := hS
    refine ⟨fun k hk => ?_, ?_, ?_, fun k hk => ?_, fun k b1 b2 => ?_, fun k hk => ?_, fun k b1 b2 => ?_⟩
    · rw [cc _ _ (by omega) (by omega) (by omega) (by omega) (by omega) (by omega), cd _ (by omega) (by omega)]; exact z1 k hk
    · rw [gc, if_neg (by omega), if_neg (by omega), if_neg (by omega), if_neg (by omega), if_neg (by omega), if_neg (by omega), if_neg (by omega), if_neg (by omega), if_pos ⟨rfl, rfl⟩, h4 _ _ (by omega) (by omega), if_neg (by omega), if_neg (by omega), if_neg (by omega), if_neg (by omega), if_neg (by omega), if_pos ⟨rfl, rfl⟩, hF2]
    · rw [cc _ _ (by omega) (by omega) (by omega) (by omega) (by omega) (by omega), cd _ (by omega) (by omega)]; exact z3
    · rw [cc _ _ (by omega) (by omega) (by omega) (by omega) (by omega) (by omega), cd _ (by omega) (by omega)]; exact z4 k hk
    · rw [cc _ _ (by omega) (by omega) (by omega) (by omega) (by omega) (by omega), cd _ (by omega) (by omega)]; exact z5 k b1 b2
    · rw [cc _ _ (by omega) (by omega) (by omega) (by omega) (by omega) (by omega), cd _ (by omega) (by omega)]; exact z6 k hk
    · rw [cc _ _ (by omega) (by omega) (by omega) (by omega) (by omega) (by omega), cd _ (by omega) (by omega)]; exact z7 k b1 b2
  · have cc : ∀ j, j ≠ 0 → j ≠ 1 → j ≠ 3 → j ≠ 4 → I19 (hb + 10) j = I17 (hb + 10) j := fun j b1 b2 b3 b4 => by
      rw [gc, if_neg (by omega), if_neg (by omega), if_neg (by omega), if_neg (by omega), if_neg (by omega), if_neg (by omega), if_neg (by omega), if_neg (by omega), if_neg (by omega), if_neg (by omega)]
    have cd : ∀ j, j ≠ 70 → j ≠ 73 → j ≠ 74 → 70 ≤ j → j < 130 → J19 1 j = J17 1 j := fun j b1 b2 b3 b4 b5 => by
      rw [h4 _ _ (by omega) (by omega), if_neg (by omega), if_neg (by omega), if_neg (by omega), if_neg (by omega), if_neg (by omega), if_neg (by omega), if_neg (by omega)]
    refine ⟨fun k hk => ?_, fun s b1 b2 => ?_⟩
    · rcases (show k = 0 ∨ k = 1 ∨ k = 2 ∨ k = 3 ∨ k = 4 ∨ k = 5 ∨ k = 6 by omega) with rfl | rfl | rfl | rfl | rfl | rfl | rfl
      · rw [gc, if_pos ⟨rfl, rfl⟩, h4 _ _ (by omega) (by omega), if_neg (by omega), if_neg (by omega), if_neg (by omega), if_neg (by omega), if_neg (by omega), if_neg (by omega), if_pos ⟨rfl, rfl⟩]
      · rw [gc, if_neg (by omega), if_neg (by omega), if_neg (by omega), if_neg (by omega), if_neg (by omega), if_neg (by omega), if_neg (by omega), if_neg (by omega), if_neg (by omega), if_pos ⟨rfl, rfl⟩, cd _ (by decide) (by decide) (by decide) (by decide) (by decide), cj5 _ (by decide) (by decide) (by decide) (by decide), f5, if_neg (by omega), if_neg (by omega), if_neg (by omega), if_pos ⟨rfl, rfl⟩, i7, ci _ _ (by omega) (by omega) (by omega) (by omega), hY.1 1 (by decide)]
      · rw [cc _ (by decide) (by decide) (by decide) (by decide), ci6 _ _ (by omega) (by omega) (by omega), n5, cd _ (by decide) (by decide) (by decide) (by decide) (by decide), cj5 _ (by decide) (by decide) (by decide) (by decide), f5, if_neg (by omega), if_neg (by omega), if_pos ⟨rfl, rfl⟩, hY.1 2 (by decide)]
      · rw [gc, if_neg (by omega), if_neg (by omega), if_neg (by omega), if_neg (by omega), if_neg (by omega), if_neg (by omega), if_neg (by omega), if_pos ⟨rfl, rfl⟩, h4 _ _ (by omega) (by omega), if_neg (by omega), if_neg (by omega), if_neg (by omega), if_neg (by omega), if_pos ⟨rfl, rfl⟩, hF2]
      · rw [gc, if_neg (by omega), if_neg (by omega), if_neg (by omega), if_neg (by omega), if_neg (by omega), if_neg (by omega), if_pos ⟨rfl, rfl⟩, h4 _ _ (by omega) (by omega), if_neg (by omega), if_neg (by omega), if_neg (by omega), if_pos ⟨rfl, rfl⟩, hF2]
      · rw [cc _ (by decide) (by decide) (by decide) (by decide), cd _ (by decide) (by decide) (by decide) (by decide) (by decide)]; exact y0 5 (by decide) (by decide) (by decide) (by decide)
      · rw [cc _ (by decide) (by decide) (by decide) (by decide), cd _ (by decide) (by decide) (by decide) (by decide) (by decide)]; exact g4
    · have := n3 s b1 b2
      rw [cc _ (by omega) (by omega) (by omega) (by omega), cc _ (by omega) (by omega) (by omega) (by omega), cc _ (by omega) (by omega) (by omega) (by omega), cd _ (by omega) (by omega) (by omega) (by omega) (by omega), cd _ (by omega) (by omega) (by omega) (by omega) (by omega), cd _ (by omega) (by omega) (by omega) (by omega) (by omega), ci6 _ _ (by omega) (by omega) (by omega), ci6 _ _ (by omega) (by omega) (by omega), ci6 _ _ (by omega) (by omega) (by omega), cj6 _ (by omega) (by omega), cj6 _ (by omega) (by omega), cj6 _ (by omega) (by omega)]
      exact this
  · have e110 : J19 1 110 = J 0 31 := by
      rw [h4 _ _ (by omega) (by omega), if_neg (by omega), if_neg (by omega), if_neg (by omega), if_neg (by omega), if_neg (by omega), if_neg (by omega), if_neg (by omega), cj5 _ (by decide) (by decide) (by decide) (by decide), f5, if_neg (by omega), if_pos ⟨rfl, rfl⟩]
    have e70 : J19 1 70 = (c : Int) + 1 := by
      rw [h4 _ _ (by omega) (by omega), if_neg (by omega), if_neg (by omega), if_neg (by omega), if_neg (by omega), if_neg (by omega), if_neg (by omega), if_pos ⟨rfl, rfl⟩]
    refine ⟨by rw [e110, e70]; omega, fun _ => ?_, ?_, fun i hi => ?_, fun k hk => ?_⟩
    · rw [e110, gc, if_neg (by omega), if_neg (by omega), if_neg (by omega), if_neg (by omega), if_neg (by omega), if_pos ⟨rfl, rfl⟩, i8']
    · rw [gc, if_neg (by omega), if_neg (by omega), if_neg (by omega), if_neg (by omega), if_pos ⟨rfl, rfl⟩, i7, h4 _ _ (by omega) (by omega), if_neg (by omega), if_neg (by omega), if_neg (by omega), if_neg (by omega), if_neg (by omega), if_neg (by omega), if_neg (by omega), cj5 _ (by decide) (by decide) (by decide) (by decide), f5, if_pos ⟨rfl, rfl⟩]
    · have cc : ∀ j, 2 ≤ j → I19 (hb + 11) j = I6 (hb + 11) j := fun j b1 => by
        rw [gc, if_neg (by omega), if_neg (by omega), if_neg (by omega), if_neg (by omega), if_neg (by omega), if_neg (by omega), if_neg (by omega), if_neg (by omega), if_neg (by omega), if_neg (by omega)]; exact ci6 _ _ (by omega) (by omega) (by omega)
      have cd : ∀ j, 112 ≤ j → j < 130 → J19 1 j = J6 1 j := fun j b4 b5 => by
        rw [h4 _ _ (by omega) (by omega), if_neg (by omega), if_neg (by omega), if_neg (by omega), if_neg (by omega), if_neg (by omega), if_neg (by omega), if_neg (by omega)]; exact cj6 _ (by omega) (by omega)
      rw [cc _ (by omega), cc _ (by omega), cd _ (by omega) (by omega), cd _ (by omega) (by omega)]
      exact n4 i hi
    · rw [gc, h4 _ _ (by omega) (by omega)]
      by_cases w2 : k = 3 * (c % 60) + 2
      · rw [if_neg (by omega), if_pos ⟨rfl, w2⟩, if_pos (by omega), hF2]
      · rw [if_neg (by omega), if_neg (fun q => w2 q.2), if_neg (by omega)]
        by_cases w1 : k = 3 * (c % 60) + 1
        · rw [if_pos ⟨rfl, w1⟩, if_pos (by omega), i8', jj31]
        · rw [if_neg (fun q => w1 q.2), if_neg (by omega)]
          by_cases w0 : k = 3 * (c % 60)
          · rw [if_pos ⟨rfl, w0⟩, if_pos (by omega), i7, jj30]
          · rw [if_neg (fun q => w0 q.2), if_neg (by omega), if_neg (by omega), if_neg (by omega), if_neg (by omega), if_neg (by omega), if_neg (by omega), if_neg (by omega), if_neg (by omega), if_neg (by omega), if_neg (by omega), if_neg (by omega), ci _ _ (by omega) (by omega) (by omega) (by omega), cj _ _ (by omega) (by omega) (by omega)]
            exact hP.2.2.2.2 k hk
  · refine hl_mv g3 (fun j => ⟨?_, ?_⟩) (fun j b1 b2 => ?_)
    · rw [gc, if_neg (by omega), if_neg (by omega), if_neg (by omega), if_neg (by omega), if_neg (by omega), if_neg (by omega), if_neg (by omega), if_neg (by omega), if_neg (by omega), if_neg (by omega)]
    · rw [gc, if_neg (by omega), if_neg (by omega), if_neg (by omega), if_neg (by omega), if_neg (by omega), if_neg (by omega), if_neg (by omega), if_neg (by omega), if_neg (by omega), if_neg (by omega)]
    · rw [h4 _ _ (by omega) (by omega), if_neg (by omega), if_neg (by omega), if_neg (by omega), if_neg (by omega), if_neg (by omega), if_neg (by omega), if_neg (by omega)]
  · refine hw_mv hW (fun d j b1 b2 b3 => ?_) (fun j b1 b2 => ?_)
    · rw [gc, if_neg (by omega), if_neg (by omega), if_neg (by omega), if_neg (by omega), if_neg (by omega), if_neg (by omega), if_neg (by omega), if_neg (by omega), if_neg (by omega), if_neg (by omega)]; exact ci _ _ (by omega) (by omega) (by omega) (by omega)
    · rw [h4 _ _ (by omega) (by omega), if_neg (by omega), if_neg (by omega), if_neg (by omega), if_neg (by omega), if_neg (by omega), if_neg (by omega), if_neg (by omega)]; exact cj _ _ (by omega) (by omega) (by omega)
  · rw [h4 _ _ (by omega) (by omega), if_neg (by omega), if_neg (by omega), if_neg (by omega), if_neg (by omega), if_neg (by omega), if_neg (by omega), if_neg (by omega)]; exact cj _ _ (by omega) (by omega) (by omega)
  · rw [gc, if_neg (by omega), if_neg (by omega), if_neg (by omega), if_neg (by omega), if_neg (by omega), if_neg (by omega), if_neg (by omega), if_neg (by omega), if_neg (by omega), if_neg (by omega)]; exact ci _ _ (by omega) (by omega) (by omega) (by omega)
  · rw [gc, if_neg (by omega), if_neg (by omega), if_neg (by omega), if_neg (by omega), if_neg (by omega), if_neg (by omega), if_neg (by omega), if_neg (by omega), if_neg (by omega), if_neg (by omega)]; exact ci _ _ (by omega) (by omega) (by omega) (by omega)
  · have c71 : J19 1 71 = wr32 (J 1 71 + J 0 30) := by
      rw [h4 _ _ (by omega) (by omega), if_neg (by omega), if_neg (by omega), if_neg (by omega), if_neg (by omega), if_neg (by omega), if_neg (by omega), if_neg (by omega), cj5 _ (by decide) (by decide) (by decide) (by decide), f5, if_neg (by omega), if_neg (by omega), if_neg (by omega), if_pos ⟨rfl, rfl⟩]
    have c111 : J19 1 111 = J 0 30 := by
      rw [h4 _ _ (by omega) (by omega), if_neg (by omega), if_neg (by omega), if_neg (by omega), if_neg (by omega), if_neg (by omega), if_neg (by omega), if_neg (by omega), cj5 _ (by decide) (by decide) (by decide) (by decide), f5, if_pos ⟨rfl, rfl⟩]
    rw [c71, c111]
end
/-! rides, turns, comers: both sides -/
/-- a hill of the class and a chair before it -/
def OCH (oc hb : Nat) : Prop := (oc = 122 ∧ hb = 82) ∨ (oc = 130 ∧ hb = 1)
/-- both sides, the dreamed hill or the real one -/
def HG (hb : Nat) (I J : IMem) : Prop := HX hb I J ∧ GX 0 J ∧ GC I
section
variable {fu oc hb : Nat} {I J : IMem}
theorem ride2 (ho : OCH oc hb) (hfu : 5000000000 < fu) (h : HG hb I J) (hc : J 1 70 < 2000000000) : pq (f_C_ride fu oc hb I) (f_X_chair fu 0 J) (fun x I' y J' => x = y ∧ HG hb I' J' ∧ (∀ j, j < 240 → J' 13 j = 0) ∧ J' 0 35 = 0 ∧ J' 1 70 = J 1 70 + 1 ∧ J' 1 71 = wr32 (J 1 71 + J' 1 111)) := by
  obtain ⟨⟨hR, hz, hA⟩, hG, hC⟩ := h
  have hd : hb + 40 ≤ oc := by unfold OCH at ho; omega
  have hT0 : oc = 122 ∨ oc = 130 ∨ oc = 137 := by unfold OCH at ho; omega
  have hT1 : hb = 1 ∨ hb = 41 ∨ hb = 82 := by unfold OCH at ho; omega
  have gf := gx_facts hG
  have key : pq (f_C_ride fu oc hb I) (f_X_chair fu 0 J) (fun x I' y J' => x = y ∧ HX hb I' J' ∧ J' 1 71 = wr32 (J 1 71 + J' 1 111)) := by
    unfold f_C_ride f_X_chair
    refine pq_b (pq_and (pq_al (pq_ar (fill2 (fu := fu) hR hG hd) (par_sat (ok_X_fills fu 0 J hfu hG))) (par_sat (ok_C_fill fu oc hb I hfu hC hT0 hT1))) (Q2 := fun _ I' _ J' => (∀ j, I' hb j = I hb j) ∧ (∀ j, I' (hb + 14) j = I (hb + 14) j) ∧ J' 0 22 = J 0 22) (fun x I' y J' e1 e2 => ?_)) (fun x1 I1 y1 J1 _ _ ⟨⟨⟨⟨f1, f2⟩, _, f3, _, f4⟩, _, f5, _⟩, f6, f7, f8⟩ => ?_)
    · have a := fr_C_fill (fun q => (hb + 15 ≤ q ∧ q < hb + 40) ∨ (oc ≤ q ∧ q ≤ oc + 6) ∨ q = hb + 7 ∨ q = hb + 10 ∨ q = hb + 13) fu oc hb I (fun q h1 h2 => Or.inl ⟨h1, h2⟩) (by omega) (by omega) (by omega) (by omega) (by omega) (by omega) (by omega) (by omega) (by omega) (by omega) e1
      have b := fc_X_fills (fun q j => ¬ (q = 0 ∧ j = 22)) fu 0 J (fun _ => by omega) (fun _ => by omega) (fun _ => by omega) (fun _ => by omega) (fun _ => by omega) (by omega) (by omega) (by omega) (by omega) (by omega) (by omega) (by omega) (by omega) (by omega) (by omega) (by omega) (by omega) (by omega) (by omega) (by omega) e2
      exact ⟨fun j => congrFun (a hb (by omega)) j, fun j => congrFun (a (hb + 14) (by omega)) j, b 0 22 (by omega)⟩
    · have gf1 := gx_facts f3
      have j70 : J1 1 70 = J 1 70 := f4 70 (by decide)
      refine pq_b (leave2 (fu := fu) f1 hd gf1.2.2.2.2.1 f2 ⟨gf1.2.2.2.2.2.2, by rw [j70]; exact hc⟩ gf1.1 f5.1) (fun x2 I2 y2 J2 _ _ ⟨g1, g2, g3, g4, g5, g6, g7, g8⟩ => pq_end ⟨g1, ⟨g2, ?_, ?_, ?_⟩, by rw [g8, f4 71 (by decide)]⟩)
      · rw [g5, g6, f6, f8]; exact hz
      · rw [g7, f7]; exact hA.1
      · rw [g7, f7]; exact hA.2
  refine pq_mono (pq_al (pq_ar key (par_sat (ok_X_chair fu 0 J hfu hG hc))) (par_sat (ok_C_ride fu oc hb I hfu hC hT0 hT1))) (fun x I' y J' ⟨⟨⟨k1, k2, k9⟩, _, k3, k4, k5, k6⟩, _, k7, _⟩ => ⟨k1, ⟨k2, k3, k7⟩, k6, k4, k5, k9⟩)
end
/-! comers by chances, turns: both sides -/
section
variable {fu oc hb : Nat} {I J : IMem}
theorem draw2 (hfu : 5000000000 < fu) (h : HG hb I J) (hb1 : hb = 1 ∨ hb = 82) : pq (f_H_draw fu hb 1000 I) (f_X_draw fu 0 1000 J) (fun x I' y J' => x = y ∧ HG hb I' J' ∧ (∀ j, j ≠ 0 → J' 1 j = J 1 j) ∧ (∀ q j, q ≠ hb → I' q j = I q j)) := by
  obtain ⟨⟨hR, hz, hA⟩, hG, hC⟩ := h
  have key : pq (f_H_draw fu hb 1000 I) (f_X_draw fu 0 1000 J) (fun x I' y J' => x = y ∧ HX hb I' J' ∧ (∀ j, j ≠ 0 → J' 1 j = J 1 j) ∧ (∀ q j, q ≠ hb → I' q j = I q j)) := by
    unfold f_H_draw f_X_draw
    obtain ⟨hS, hY, hP, hL, hW⟩ := hR
    have s0 : I hb 6 = J (0 + 1) 0 := hS.2.1
    rw [s0, Int.mul_comm 1664525 (J (0 + 1) 0)]
    refine pq_zwl' (fun I1 e1 => pq_zwr' (fun J1 e2 => ?_))
    rw [if_pos (by decide), zg_t (by decide), zg_t (by decide)]
    have r1 : I1 hb 6 = J1 (0 + 1) 0 := by rw [e1, if_pos ⟨rfl, rfl⟩, e2, if_pos ⟨rfl, rfl⟩]
    rw [r1]
    have io : ∀ q j, ¬ (q = hb ∧ j = 6) → I1 q j = I q j := fun q j a => by rw [e1, if_neg a]
    have jo : ∀ j, j ≠ 0 → J1 1 j = J 1 j := fun j a => by rw [e2, if_neg (by omega)]
    refine pq_end ⟨rfl, ⟨⟨?_, hy_mv hY (fun j => io _ _ (by omega)) (fun j a b => jo j (by omega)), hp_mv hP (fun j => ⟨io _ _ (by omega), io _ _ (by omega)⟩) (fun j a => jo j (by omega)), hl_mv hL (fun j => ⟨io _ _ (by omega), io _ _ (by omega)⟩) (fun j a b => jo j (by omega)), hw_mv hW (fun d j a b c => io _ _ (by omega)) (fun j a b => jo j (by omega))⟩, ?_, ?_, ?_⟩, jo, fun q j a => io q j (by omega)⟩
    · obtain ⟨a1, a2, a3, a4, a5, a6, a7⟩ := hS
      refine ⟨fun k hk => ?_, r1, ?_, fun k hk => ?_, fun k h3 h4 => ?_, fun k hk => ?_, fun k h3 h4 => ?_⟩
      · rw [io _ _ (by omega), jo _ (by omega)]; exact a1 k hk
      · rw [io _ _ (by omega), jo _ (by omega)]; exact a3
      · rw [io _ _ (by omega), jo _ (by omega)]; exact a4 k hk
      · rw [io _ _ (by omega), jo _ (by omega)]; exact a5 k h3 h4
      · rw [io _ _ (by omega), jo _ (by omega)]; exact a6 k hk
      · rw [io _ _ (by omega), jo _ (by omega)]; exact a7 k h3 h4
    · rw [io _ _ (by omega), e2, if_neg (by omega)]; exact hz
    · rw [io _ _ (by omega)]; exact hA.1
    · rw [io _ _ (by omega)]; exact hA.2
  have hok : hb = 1 ∨ hb = 41 ∨ hb = 82 := by omega
  refine pq_mono (pq_al (pq_ar key (par_sat (ok_X_draw fu 0 1000 J hfu hG (by decide) (by decide)))) (P := fun _ I' => GC I') (fun x I' e => ?_)) (fun x I' y J' ⟨⟨⟨k1, k2, k4, k5⟩, _, k3, _⟩, k6⟩ => ⟨k1, ⟨k2, k3, k6⟩, k4, k5⟩)
  have : par (f_H_draw fu hb 1000 I) (fun _ I' => GC I') := by
    unfold f_H_draw
    refine par_zw ?_
    rw [if_pos (by decide), zg_t (by decide)]
    exact par_zr (gc_up hC (wr32_in _) (Or.inl (by omega)))
  exact this x I' e
theorem comers2 {Q : Int → IMem → Int → IMem → Prop} (hfu : 5000000000 < fu) (hb1 : hb = 1 ∨ hb = 82) (c0 : Int) (kX : IMem → Res) (hend : ∀ I J, HG hb I J → J 1 70 = c0 → pq (zr 0 I) (kX J) Q) : ∀ (m m2 k : Nat) (I J : IMem), k ≤ 8 → HG hb I J → J 1 70 = c0 → pq (f_H_letComersEnter_2 fu hb m ((4 * k : Nat) : Int) I) (f_X_turn_2 fu kX 0 m2 (k : Int) J) Q := by
  intro m
  induction m with
  | zero => intro _ _ _ _ _ _ _; exact pq_nl
  | succ m ih =>
    intro m2 k I J hk h h70
    cases m2 with
    | zero => exact pq_nr
    | succ m2 =>
    show pq (fb_H_letComersEnter_2 fu hb (f_H_letComersEnter_2 fu hb m) ((4 * k : Nat) : Int) I) (fb_X_turn_2 fu kX 0 (f_X_turn_2 fu kX 0 m2) (k : Int) J) Q
    unfold fb_H_letComersEnter_2 fb_X_turn_2
    have h' := h
    obtain ⟨⟨⟨hS, hY, hP, hL, hW⟩, hz, hA⟩, hG, hC⟩ := h'
    have hok : hb = 1 ∨ hb = 41 ∨ hb = 82 := by omega
    have w1 : wr32 (((4 * k : Nat) : Int) + 3) = ((4 * k + 3 : Nat) : Int) := by rw [wr32_i2 (by omega) (by omega)]; omega
    have w2 : wr32 (((4 * k : Nat) : Int) + 1) = ((4 * k + 1 : Nat) : Int) := by rw [wr32_i2 (by omega) (by omega)]; omega
    have w3 : wr32 (((4 * k : Nat) : Int) + 2) = ((4 * k + 2 : Nat) : Int) := by rw [wr32_i2 (by omega) (by omega)]; omega
    have w4 : wr32 (((4 * k : Nat) : Int) + 4) = ((4 * (k + 1) : Nat) : Int) := by rw [wr32_i2 (by omega) (by omega)]; omega
    have v0 : wr32 (26 + wr32 (4 * (k : Int))) = ((26 + 4 * k : Nat) : Int) := by rw [wr32_i2 (x := 4 * (k : Int)) (by omega) (by omega), wr32_i2 (by omega) (by omega)]; omega
    have v1 : wr32 (((26 + 4 * k : Nat) : Int) + 1) = ((26 + 4 * k + 1 : Nat) : Int) := by rw [wr32_i2 (by omega) (by omega)]; omega
    have v2 : wr32 (((26 + 4 * k : Nat) : Int) + 2) = ((26 + 4 * k + 2 : Nat) : Int) := by rw [wr32_i2 (by omega) (by omega)]; omega
    have v3 : wr32 (((26 + 4 * k : Nat) : Int) + 3) = ((26 + 4 * k + 3 : Nat) : Int) := by rw [wr32_i2 (by omega) (by omega)]; omega
    have wn : wr32 ((k : Int) + 1) = ((k + 1 : Nat) : Int) := by rw [wr32_i2 (by omega) (by omega)]; rfl
    simp only [zl_e, zj_e, Nat.zero_add]
    rw [w1, w2, w3, w4, v0, v1, v2, v3, wn]
    clear w1 w2 w3 w4 v0 v1 v2 v3 wn
    by_cases h8 : k < 8
    · rw [if_pos (by omega), if_pos (by omega)]
      refine pq_gl (fun _ => pq_gr (fun _ => ?_))
      rw [tn, tn, tn, tn, tn, tn]
      have cm : ∀ i, i < 4 → I (hb + 4) (4 * k + i) = J 1 (26 + 4 * k + i) := fun i hi => by
        rw [hS.2.2.2.2.2.1 _ (by omega)]; congr 1
      have c3 := cm 3 (by decide)
      rw [c3]
      have nxt : ∀ I1 J1, HG hb I1 J1 → J1 1 70 = c0 → pq (f_H_letComersEnter_2 fu hb m ((4 * (k + 1) : Nat) : Int) I1) (f_X_turn_2 fu kX 0 m2 ((k + 1 : Nat) : Int) J1) Q := fun I1 J1 a b => ih m2 (k + 1) I1 J1 h8 a b
      by_cases hp : 0 < J 1 (26 + 4 * k + 3)
      · rw [if_pos hp, if_pos hp]
        refine pq_b (draw2 (fu := fu) hfu h hb1) (fun x I1 y J1 _ _ ⟨d1, d2, d3, d4⟩ => ?_)
        subst d1
        refine pq_gr (fun _ => ?_)
        rw [d3 _ (by omega)]
        have j70 : J1 1 70 = c0 := (d3 70 (by decide)).trans h70
        by_cases hx : x < J 1 (26 + 4 * k + 3)
        · rw [if_pos hx, if_pos hx]
          refine pq_gl (fun _ => pq_gl (fun _ => pq_gl (fun _ => pq_gr (fun _ => pq_gr (fun _ => pq_gr (fun _ => ?_))))))
          have e0 : I1 (hb + 4) (4 * k) = J1 1 (26 + 4 * k) := by rw [d4 _ _ (by omega), d3 _ (by omega)]; exact cm 0 (by decide)
          have e1 : I1 (hb + 4) (4 * k + 1) = J1 1 (26 + 4 * k + 1) := by rw [d4 _ _ (by omega), d3 _ (by omega)]; exact cm 1 (by decide)
          have e2 : I1 (hb + 4) (4 * k + 2) = J1 1 (26 + 4 * k + 2) := by rw [d4 _ _ (by omega), d3 _ (by omega)]; exact cm 2 (by decide)
          rw [e0, e1, e2]
          obtain ⟨hX1, hG1, hC1⟩ := d2
          have wx := hG1.2.1.2.2.2.1 k h8
          have z1 : 1 ≤ J1 1 (26 + 4 * k) ∧ J1 1 (26 + 4 * k) ≤ 8 := wx (by
            show 0 < J1 1 (29 + 4 * k)
            rw [d3 _ (by omega), show 29 + 4 * k = 26 + 4 * k + 3 by omega]; exact hp)
          refine pq_b (pq_al (pq_ar (enter2 (fu := fu) (hb := hb) (size := J1 1 (26 + 4 * k)) (says := J1 1 (26 + 4 * k + 1)) (sort := J1 1 (26 + 4 * k + 2)) hX1 hG1.1) (par_sat (ok_X_comes fu 0 _ _ _ J1 hfu hG1 (hG1.1 _ _) (hG1.1 _ _) (hG1.1 _ _) z1))) (par_sat (ok_H_enter fu hb _ _ _ I1 hfu hC1 hok (hG1.1 _ _) (hG1.1 _ _) (hG1.1 _ _)))) (fun x2 I2 y2 J2 _ _ ⟨⟨⟨f1, f2⟩, _, f3, f4, _⟩, _, f5, _⟩ => ?_)
          exact nxt I2 J2 ⟨f2, f3, f5⟩ ((f4 70 (by decide) (by decide)).trans j70)
        · rw [if_neg hx, if_neg hx]
          exact nxt I1 J1 d2 j70
      · rw [if_neg hp, if_neg hp]
        exact nxt I J h h70
    · rw [if_neg (by omega), if_neg (by omega)]
      exact hend I J h h70
/-- nobody is picked -/
def ZPK (J : IMem) : Prop := (∀ j, j < 240 → J 13 j = 0) ∧ J 0 35 = 0
/-- the comers, then a chair -/
theorem turn2 (ho : OCH oc hb) (hfu : 5000000000 < fu) (h : HG hb I J) (hc : J 1 70 < 2000000000) : pq (zb (f_H_letComersEnter fu hb I) fun _ I2 => zb (f_C_fill fu oc hb I2) fun _ I5 => zb (f_C_leave fu oc hb I5) fun y7 I8 => zr y7 I8) (f_X_turn fu 0 J) (fun x I' y J' => x = y ∧ HG hb I' J' ∧ ZPK J' ∧ J' 1 70 = J 1 70 + 1) := by
  have hb1 : hb = 1 ∨ hb = 82 := by unfold OCH at ho; omega
  unfold f_X_turn f_H_letComersEnter
  intro x I9 y J9 e1 e2
  obtain ⟨v, I1, e3, e4⟩ := of_zb e1
  refine comers2 (fu := fu) (Q := fun _ I1 y J9 => ∀ x I9, (zb (f_C_fill fu oc hb I1) fun _ I5 => zb (f_C_leave fu oc hb I5) fun y7 I8 => zr y7 I8) = some (x, I9) → (x = y ∧ HG hb I9 J9 ∧ ZPK J9 ∧ J9 1 70 = J 1 70 + 1)) hfu hb1 (J 1 70) _ (fun I2 J2 h2 h3 => ?_) fu fu 0 I J (by decide) h rfl v I1 y J9 e3 e2 x I9 e4
  intro v' I' y' J' e5 e6
  cases e5
  intro x' I9' e7
  obtain ⟨y8, J8, e8, e9⟩ := of_zb e6
  cases e9
  have g := ride2 (fu := fu) ho hfu h2 (by rw [h3]; exact hc) x' I9' y' J' (by unfold f_C_ride; exact e7) e8
  exact ⟨g.1, g.2.1, ⟨g.2.2.1, g.2.2.2.1⟩, by rw [g.2.2.2.2.1, h3]⟩
theorem turns2 (ho : OCH oc hb) (hfu : 5000000000 < fu) (n : Int) (hn : n ≤ 60) : ∀ (m m2 i : Nat) (w : Int) (I J : IMem), (i : Int) ≤ 60 → HG hb I J → J 1 70 + 60 < 2000000000 + i → ((i : Int) < n ∨ ZPK J) → pq (f_C_turns_5 fu oc hb n m w (i : Int) I) (f_X_run_16 fu 0 n m2 w (i : Int) J) (fun x I' y J' => x = y ∧ HG hb I' J' ∧ ZPK J') := by
  intro m
  induction m with
  | zero => intro _ _ _ _ _ _ _ _ _; exact pq_nl
  | succ m ih =>
    intro m2 i w I J hi h hc hz
    cases m2 with
    | zero => exact pq_nr
    | succ m2 =>
      show pq (fb_C_turns_5 fu oc hb n (f_C_turns_5 fu oc hb n m) w (i : Int) I) (fb_X_run_16 fu 0 n (f_X_run_16 fu 0 n m2) w (i : Int) J) _
      unfold fb_C_turns_5 fb_X_run_16
      by_cases hin : (i : Int) < n
      · rw [if_pos hin, if_pos hin]
        have w1 : wr32 ((i : Int) + 1) = ((i + 1 : Nat) : Int) := by rw [wr32_i2 (by omega) (by omega)]; rfl
        simp only [zl_e]
        rw [w1]
        clear w1
        intro x I9 y J9 e1 e2
        obtain ⟨v1, I1, e3, e4⟩ := of_zb e1
        obtain ⟨v2, I2, e5, e6⟩ := of_zb e4
        obtain ⟨v3, I3, e7, e8⟩ := of_zb e6
        obtain ⟨y1, J1, e9, e10⟩ := of_zb e2
        have g := turn2 ho hfu h (show J 1 70 < 2000000000 by omega) v3 I3 y1 J1 (by rw [e3]; show zb (f_C_fill fu oc hb I1) _ = _; rw [e5]; show zb (f_C_leave fu oc hb I2) _ = _; rw [e7]; rfl) e9
        obtain ⟨g1, g2, g4, g3⟩ := g
        subst g1
        exact ih m2 (i + 1) (wr32 (w + v3)) I3 J1 (by omega) g2 (by rw [g3]; omega) (Or.inr g4) x I9 y J9 e8 e10
      · rw [if_neg hin, if_neg hin]
        exact pq_end ⟨rfl, h, hz.resolve_left hin⟩
end
/-! both memories together: the whole state -/
/-- of those picked: their seats, how many dear, how many not children -/
def pS (J : IMem) : Nat → Int
  | 0 => 0
  | n + 1 => pS J n + (if J 13 n = 0 then 0 else J 1 (141 + 6 * n))
def pD (J : IMem) : Nat → Int
  | 0 => 0
  | n + 1 => pD J n + (if J 13 n = 0 then 0 else if J 1 (140 + 6 * n + 3) = 2 then 1 else 0)
def pC (J : IMem) : Nat → Int
  | 0 => 0
  | n + 1 => pC J n + (if J 13 n = 0 then 0 else if J 1 (140 + 6 * n + 3) = 1 then 0 else 1)
theorem p_same {J J' : IMem} : ∀ n : Nat, (∀ k, k < n → J' 13 k = J 13 k ∧ (J 13 k ≠ 0 → J' 1 (141 + 6 * k) = J 1 (141 + 6 * k) ∧ J' 1 (140 + 6 * k + 3) = J 1 (140 + 6 * k + 3))) → pS J' n = pS J n ∧ pD J' n = pD J n ∧ pC J' n = pC J n := by
  intro n
  induction n with
  | zero => intro _; exact ⟨rfl, rfl, rfl⟩
  | succ n ih =>
    intro h
    obtain ⟨i1, i2, i3⟩ := ih (fun k hk => h k (by omega))
    obtain ⟨a, b⟩ := h n (by omega)
    refine ⟨?_, ?_, ?_⟩
    · show pS J' n + _ = pS J n + _
      rw [i1, a]
      by_cases q : J 13 n = 0
      · rw [if_pos q, if_pos q]
      · rw [if_neg q, if_neg q, (b q).1]
    · show pD J' n + _ = pD J n + _
      rw [i2, a]
      by_cases q : J 13 n = 0
      · rw [if_pos q, if_pos q]
      · rw [if_neg q, if_neg q, (b q).2]
    · show pC J' n + _ = pC J n + _
      rw [i3, a]
      by_cases q : J 13 n = 0
      · rw [if_pos q, if_pos q]
      · rw [if_neg q, if_neg q, (b q).2]
theorem p_zero {J : IMem} (h : ∀ k, k < 240 → J 13 k = 0) : ∀ n : Nat, n ≤ 240 → pS J n = 0 ∧ pD J n = 0 ∧ pC J n = 0 := by
  intro n
  induction n with
  | zero => intro _; exact ⟨rfl, rfl, rfl⟩
  | succ n ih =>
    intro hn
    obtain ⟨i1, i2, i3⟩ := ih (by omega)
    refine ⟨?_, ?_, ?_⟩
    · show pS J n + _ = 0
      rw [i1, if_pos (h n (by omega))]; rfl
    · show pD J n + _ = 0
      rw [i2, if_pos (h n (by omega))]; rfl
    · show pC J n + _ = 0
      rw [i3, if_pos (h n (by omega))]; rfl
/-- who is picked, on both sides -/
def PKR (I J : IMem) : Prop :=
  (I 137 9 = 0 ∧ I 137 8 = J 0 35 ∧ 0 ≤ J 0 35 ∧ 0 ≤ I 137 7 ∧ I 137 7 + J 0 35 ≤ 8) ∧
  (∀ k, k < 240 → (I 138 k = 0 ∧ J 13 k = 0) ∨ (I 138 k = 1 ∧ J 13 k = 1 ∧ INL J k ∧ 1 ≤ J 1 (141 + 6 * k) ∧ J 1 (141 + 6 * k) ≤ 8)) ∧
  (∀ i : Nat, (i : Int) < J 0 35 → ∃ k : Nat, INL J k ∧ J 15 i = k ∧ I 139 i = k ∧ I 140 i = J 1 (141 + 6 * k) ∧ J 13 k = 1) ∧
  (∀ i j : Nat, (i : Int) < J 0 35 → (j : Int) < J 0 35 → J 15 i = J 15 j → i = j) ∧
  (∀ k, k < 240 → J 13 k = 1 → ∃ i : Nat, (i : Int) < J 0 35 ∧ J 15 i = (k : Int)) ∧
  (J 1 1 = I 137 7 + sm (I 140) (J 0 35).toNat ∧ J 1 1 = I 137 7 + pS J 240) ∧
  ((I 137 10 = 0 ∧ pD J 240 = 0) ∨ (I 137 10 = 1 ∧ 0 < pD J 240)) ∧
  ((I 137 11 = 0 ∧ pC J 240 = 0) ∨ (I 137 11 = 1 ∧ 0 < pC J 240))
theorem pk_zero {I J : IMem} (h13 : ∀ k, k < 240 → J 13 k = 0) (h35 : J 0 35 = 0) (hs : 2 ≤ J 1 1 ∧ J 1 1 ≤ 8) (hm : ∀ k, k < 240 → I 138 k = 0) (h : I 137 7 = J 1 1 ∧ I 137 8 = 0 ∧ I 137 9 = 0 ∧ I 137 10 = 0 ∧ I 137 11 = 0) : PKR I J := by
  obtain ⟨h7, h8, h9, h10, h11⟩ := h
  obtain ⟨z1, z2, z3⟩ := p_zero h13 240 (Nat.le_refl _)
  refine ⟨⟨h9, by rw [h8, h35], by rw [h35]; decide, by omega, by omega⟩, fun k hk => Or.inl ⟨hm k hk, h13 k hk⟩, fun i hi => ?_, fun i j hi => ?_, fun k hk q => ?_, ⟨?_, ?_⟩, Or.inl ⟨h10, z2⟩, Or.inl ⟨h11, z3⟩⟩
  · rw [h35] at hi; omega
  · rw [h35] at hi; omega
  · rw [h13 k hk] at q; exact absurd q (by decide)
  · rw [h35, h7]
    show J 1 1 = J 1 1 + 0
    omega
  · rw [z1, h7]; omega
/-- the picks stay, if the rows of those who stand stay -/
theorem pk_mv {I J I' J' : IMem} (h : PKR I J) (h1 : ∀ q j, (q = 137 ∧ 7 ≤ j ∧ j ≤ 11) ∨ q = 138 ∨ q = 139 ∨ q = 140 → I' q j = I q j) (h2 : ∀ q j, (q = 13 ∧ j < 240) ∨ (q = 15 ∧ j < 8) ∨ (q = 0 ∧ j = 35) ∨ (q = 1 ∧ j = 1) → J' q j = J q j) (h3 : ∀ k, INL J k → INL J' k ∧ J' 1 (141 + 6 * k) = J 1 (141 + 6 * k) ∧ J' 1 (140 + 6 * k + 3) = J 1 (140 + 6 * k + 3)) : PKR I' J' := by
  obtain ⟨⟨a1, a2, a3, a4, a5⟩, b, c, d, e, ⟨f1, f2⟩, g, k⟩ := h
  have w35 := h2 0 35 (by omega)
  have p := p_same (J := J) (J' := J') 240 (fun k hk => ⟨h2 13 k (by omega), fun q => by
    rcases b k hk with ⟨_, x⟩ | ⟨_, _, x, _⟩
    · exact absurd x q
    · exact (h3 k x).2⟩)
  refine ⟨⟨?_, ?_, ?_, ?_, ?_⟩, fun k hk => ?_, fun i hi => ?_, fun i j hi hj q => ?_, fun k hk q => ?_, ⟨?_, ?_⟩, ?_, ?_⟩
  · rw [h1 _ _ (by omega)]; exact a1
  · rw [h1 _ _ (by omega), w35]; exact a2
  · rw [w35]; exact a3
  · rw [h1 _ _ (by omega)]; exact a4
  · rw [h1 _ _ (by omega), w35]; exact a5
  · rw [h1 _ _ (by omega), h2 13 k (by omega)]
    rcases b k hk with x | ⟨x1, x2, x3, x4, x5⟩
    · exact Or.inl x
    · obtain ⟨y1, y2, _⟩ := h3 k x3
      exact Or.inr ⟨x1, x2, y1, by rw [y2]; exact x4, by rw [y2]; exact x5⟩
  · rw [w35] at hi
    obtain ⟨k, k1, k2, k3, k4, k5⟩ := c i hi
    obtain ⟨y1, y2, _⟩ := h3 k k1
    refine ⟨k, y1, ?_, ?_, ?_, ?_⟩
    · rw [h2 15 i (by omega)]; exact k2
    · rw [h1 _ _ (by omega)]; exact k3
    · rw [h1 _ _ (by omega), y2]; exact k4
    · rw [h2 13 k (by omega)]; exact k5
  · rw [w35] at hi hj
    rw [h2 15 i (by omega), h2 15 j (by omega)] at q
    exact d i j hi hj q
  · rw [h2 13 k (by omega)] at q
    obtain ⟨i, i1, i2⟩ := e k hk q
    exact ⟨i, by rw [w35]; exact i1, by rw [h2 15 i (by omega)]; exact i2⟩
  · rw [h2 1 1 (by omega), h1 137 7 (by omega), w35, sm_eq (c := I 140) _ (fun i _ => h1 _ _ (by omega))]; exact f1
  · rw [h2 1 1 (by omega), h1 137 7 (by omega), p.1]; exact f2
  · rw [h1 137 10 (by omega), p.2.1]; exact g
  · rw [h1 137 11 (by omega), p.2.2]; exact k
/-- what stays in the dream's draft and in the reader's law -/
def HZ (I : IMem) : Prop := I 96 4 = 0 ∧ I 96 5 = 0 ∧ I 151 0 = 0
/-- the relation for every call -/
def RJ (I J : IMem) : Prop := HX 1 I J ∧ I 1 11 = -1 ∧ I 0 8 = J 0 3 ∧ (J 0 3 ≠ 0 → HR 41 2 I J ∧ I 41 11 = -1) ∧ HZ I ∧ PKR I J ∧ RTp I J ∧ RFt I J
theorem rj_mv {I J I' J' : IMem} (h : RJ I J) (hX : HX 1 I' J') (hz : I' 1 11 = I 1 11) (h1 : ∀ q j, (q = 0 ∧ j = 8) ∨ (41 ≤ q ∧ q ≤ 80) ∨ (q = 96 ∧ (j = 4 ∨ j = 5)) ∨ (q = 151 ∧ j = 0) → I' q j = I q j) (h2 : ∀ q j, (q = 0 ∧ j = 3) ∨ q = 2 → J' q j = J q j) (hP : PKR I' J') (hT : RTp I' J') (hF : RFt I' J') : RJ I' J' := by
  obtain ⟨_, a, b, c, d, _, _, _⟩ := h
  refine ⟨hX, hz.trans a, ?_, fun q => ?_, ⟨?_, ?_, ?_⟩, hP, hT, hF⟩
  · rw [h1 _ _ (by omega), h2 _ _ (by omega)]; exact b
  · rw [h2 _ _ (by omega)] at q
    obtain ⟨c1, c2⟩ := c q
    exact ⟨hr_mv c1 (fun d j hd => h1 _ _ (by unfold CH at hd; omega)) (fun j _ => h2 _ _ (by omega)), by rw [h1 _ _ (by omega)]; exact c2⟩
  · rw [h1 _ _ (by omega)]; exact d.1
  · rw [h1 _ _ (by omega)]; exact d.2.1
  · rw [h1 _ _ (by omega)]; exact d.2.2
/-- what a call that leaves the hill, the picks, the text alone may touch -/
theorem rj_same {I J I' J' : IMem} (h : RJ I J) (h1 : ∀ q j, (q = 0 ∧ j = 8) ∨ (1 ≤ q ∧ q ≤ 80 ∧ q ≠ 14 ∧ ¬ (16 ≤ q ∧ q ≤ 40 ∧ q % 5 = 0)) ∨ (q = 96 ∧ (j = 4 ∨ j = 5)) ∨ (137 ≤ q ∧ q ≤ 140) ∨ q = 144 ∨ q = 145 ∨ (q = 151 ∧ j = 0) → I' q j = I q j) (h2 : ∀ q j, (q = 0 ∧ (j = 3 ∨ j = 12 ∨ j = 19 ∨ j = 21 ∨ j = 22 ∨ j = 35)) ∨ q = 1 ∨ q = 2 ∨ q = 6 ∨ q = 13 ∨ q = 15 → J' q j = J q j) : RJ I' J' := by
  have h' := h
  obtain ⟨⟨hR, hz, hA⟩, a, b, c, d, e, ⟨L, t1, t2, t3, t4⟩, f⟩ := h'
  refine rj_mv h ⟨hr_mv hR (fun d j q => h1 _ _ (by unfold CH at q; omega)) (fun j _ => h2 _ _ (by omega)), ?_, ?_, ?_⟩ (h1 _ _ (by omega)) (fun q j q => h1 _ _ (by omega)) (fun q j q => h2 _ _ (by omega)) (pk_mv e (fun q j q => h1 _ _ (by omega)) (fun q j q => h2 _ _ (by omega)) (fun k hk => ⟨⟨hk.1, by rw [h2 1 _ (by omega)]; exact hk.2⟩, h2 1 _ (by omega), h2 1 _ (by omega)⟩)) ⟨L, t1, ?_, ?_, fun j hj => ?_⟩ ⟨?_, ?_⟩
  · rw [h1 _ _ (by omega), h2 _ _ (by omega)]; exact hz
  · rw [h1 _ _ (by omega)]; exact hA.1
  · rw [h1 _ _ (by omega)]; exact hA.2
  · rw [h1 _ _ (by omega)]; exact t2
  · rw [h2 _ _ (by omega)]; exact t3
  · rw [h1 _ _ (by omega), h2 _ _ (by omega)]; exact t4 j hj
  · rw [h1 _ _ (by omega), h2 _ _ (by omega)]; exact f.1
  · rw [h1 _ _ (by omega), h2 _ _ (by omega)]; exact f.2
/-! calls that tell one thing: both sides -/
def MTC (o j c : Nat) : Prop := (o = 1 ∧ j = 6 ∧ c = 0) ∨ (o = 2 ∧ 1 ≤ j ∧ j < 6 ∧ c = 1 + j) ∨ (o = 10 ∧ j < 6 ∧ c = 10 + j) ∨ (o = 4 ∧ 1 ≤ j ∧ j ≤ 8 ∧ c = 16 + j) ∨ (o = 5 ∧ j < 32 ∧ c = 26 + j) ∨ (o = 6 ∧ 1 ≤ j ∧ j ≤ 8 ∧ c = 60 + j)
theorem hs_cell {I J I' J' : IMem} {o j c : Nat} {v : Int} (h : HS 1 1 I J) (hm : MTC o j c ∨ (o = 2 ∧ j = 0 ∧ c = 1)) (hI : ∀ q i, (1 ≤ q ∧ q ≤ 10) → I' q i = if q = o ∧ i = j then v else I q i) (hJ : ∀ i, i < 70 → J' 1 i = if i = c then v else J 1 i) : HS 1 1 I' J' := by
  unfold MTC at hm
  obtain ⟨a1, a2, a3, a4, a5, a6, a7⟩ := h
  have key : ∀ (q i k : Nat), 1 ≤ q → q ≤ 10 → k < 70 → ((q = o ∧ i = j) ↔ k = c) → I q i = J 1 k → I' q i = J' 1 k := by
    intro q i k h1 h2 h3 h4 h5
    rw [hI q i ⟨h1, h2⟩, hJ k h3]
    by_cases z : q = o ∧ i = j
    · rw [if_pos z, if_pos (h4.mp z)]
    · rw [if_neg z, if_neg (fun y => z (h4.mpr y))]; exact h5
  refine ⟨fun k hk => ?_, ?_, ?_, fun k hk => ?_, fun k h3 h4 => ?_, fun k hk => ?_, fun k h3 h4 => ?_⟩
  · exact key _ _ _ (by omega) (by omega) (by omega) (by omega) (a1 k hk)
  · exact key _ _ _ (by omega) (by omega) (by omega) (by omega) a2
  · exact key _ _ _ (by omega) (by omega) (by omega) (by omega) a3
  · exact key _ _ _ (by omega) (by omega) (by omega) (by omega) (a4 k hk)
  · exact key _ _ _ (by omega) (by omega) (by omega) (by omega) (a5 k h3 h4)
  · exact key _ _ _ (by omega) (by omega) (by omega) (by omega) (a6 k hk)
  · exact key _ _ _ (by omega) (by omega) (by omega) (by omega) (a7 k h3 h4)
theorem rj_cell {I J I' J' : IMem} {o j c : Nat} {v : Int} (h : RJ I J) (hm : MTC o j c) (hI : ∀ q i, I' q i = if q = o ∧ i = j then v else I q i) (hJ : ∀ q i, J' q i = if q = 1 ∧ i = c then v else J q i) : RJ I' J' := by
  have hm' := hm
  unfold MTC at hm'
  have h' := h
  obtain ⟨⟨⟨hS, hY, hP, hL, hW⟩, hz, hA⟩, a, b, cc, d, e, ⟨L, t1, t2, t3, t4⟩, f⟩ := h'
  have io : ∀ q i, ¬ (q = o ∧ i = j) → I' q i = I q i := fun q i a => by rw [hI, if_neg a]
  have jo : ∀ q i, ¬ (q = 1 ∧ i = c) → J' q i = J q i := fun q i a => by rw [hJ, if_neg a]
  refine rj_mv h ⟨⟨hs_cell hS (Or.inl hm) (fun q i _ => hI q i) (fun i _ => ?_), hy_mv hY (fun j => io _ _ (by omega)) (fun j _ _ => jo _ _ (by omega)), hp_mv hP (fun j => ⟨io _ _ (by omega), io _ _ (by omega)⟩) (fun j _ => jo _ _ (by omega)), hl_mv hL (fun j => ⟨io _ _ (by omega), io _ _ (by omega)⟩) (fun j _ _ => jo _ _ (by omega)), hw_mv hW (fun d j _ _ _ => io _ _ (by omega)) (fun j _ _ => jo _ _ (by omega))⟩, ?_, ?_, ?_⟩ (io _ _ (by omega)) (fun q j _ => io _ _ (by omega)) (fun q j _ => jo _ _ (by omega)) (pk_mv e (fun q j _ => io _ _ (by omega)) (fun q j _ => jo _ _ (by omega)) (fun k hk => ⟨⟨hk.1, by rw [jo _ _ (by omega)]; exact hk.2⟩, jo _ _ (by omega), jo _ _ (by omega)⟩)) ⟨L, t1, ?_, ?_, fun i hi => ?_⟩ ⟨?_, ?_⟩
  · rw [hJ]
    by_cases z : i = c
    · rw [if_pos ⟨rfl, z⟩, if_pos z]
    · rw [if_neg (fun y => z y.2), if_neg z]
  · rw [io _ _ (by omega), jo _ _ (by omega)]; exact hz
  · rw [io _ _ (by omega)]; exact hA.1
  · rw [io _ _ (by omega)]; exact hA.2
  · rw [io _ _ (by omega)]; exact t2
  · rw [jo _ _ (by omega)]; exact t3
  · rw [io _ _ (by omega), jo _ _ (by omega)]; exact t4 i hi
  · rw [io _ _ (by omega), jo _ _ (by omega)]; exact f.1
  · rw [io _ _ (by omega), jo _ _ (by omega)]; exact f.2
theorem ne10 : ¬ (1 : Int) = 0 := by decide
theorem eq00 : (0 : Int) = 0 := rfl
theorem out2 {a b : Prop} [Decidable a] [Decidable b] {X Y : Res} (h : a ∨ b) : (if a then X else if b then X else Y) = X := by
  by_cases p : a
  · rw [if_pos p]
  · rw [if_neg p, if_pos (h.resolve_left p)]
def EQJ (x : Int) (I : IMem) (y : Int) (J : IMem) : Prop := RJ I J ∧ x = y
section
variable {fu : Nat} {I J : IMem}
theorem pj_state (a : Int) (h : RJ I J) : pq (f_S_state fu 0 a I) (f_X_state fu 0 a J) EQJ := by
  unfold f_S_state f_X_state
  simp only [zl_e, Nat.zero_add]
  refine pq_zwl' (fun I1 e1 => pq_zwr' (fun J1 e2 => pq_end ⟨rj_cell h (Or.inl ⟨rfl, rfl, rfl⟩) e1 e2, ?_⟩))
  exact h.1.1.1.2.1
theorem pj_seen (a b : Int) (h : RJ I J) : pq (f_S_seen fu 0 a b I) (f_X_seen fu 0 a b J) EQJ := by
  unfold f_S_seen f_X_seen
  rw [ev_isLine, ev_xLine, zb_zr, zb_zr]
  by_cases h1 : 0 ≤ a ∧ a < 6
  · rw [if_pos h1, if_neg ne10, if_neg ne10, ev_isIn, zb_zr]
    by_cases h2 : 1 ≤ b ∧ b ≤ 24
    · rw [if_neg (show ¬ b < 1 by omega), if_neg (show ¬ 24 < b by omega), if_pos h2, if_neg ne10]
      simp only [zl_e]
      rw [wr32_i2 (x := 10 + a) (by omega) (by omega)]
      refine pq_gl (fun _ => pq_zwl' (fun I1 e1 => pq_gr (fun _ => pq_zwr' (fun J1 e2 => pq_end ⟨rj_cell (o := 10) (j := a.toNat) (c := (10 + a).toNat) h (Or.inr (Or.inr (Or.inl ⟨rfl, by omega, by omega⟩))) e1 e2, rfl⟩))))
    · rw [if_neg h2, if_pos eq00, out2 (a := b < 1) (b := 24 < b) (by omega)]
      exact pq_end ⟨h, rfl⟩
  · rw [if_neg h1, if_pos eq00, if_pos eq00]
    exact pq_end ⟨h, rfl⟩
theorem pj_parts (a b : Int) (ha : inr a) (h : RJ I J) : pq (f_S_parts fu 0 a b I) (f_X_parts fu 0 a b J) EQJ := by
  unfold f_S_parts f_X_parts
  unfold inr at ha
  rw [ev_isIn, zb_zr]
  by_cases h1 : 2 ≤ a ∧ a ≤ 8
  · rw [if_neg (show ¬ a < 2 by omega), if_neg (show ¬ 8 < a by omega), if_pos h1, if_neg ne10, ev_isIn, zb_zr, wr32_i2 (x := a - 1) (by omega) (by omega)]
    by_cases h2 : 0 ≤ b ∧ b ≤ a - 1
    · rw [if_neg (show ¬ b < 0 by omega), if_pos (show b < a by omega), if_pos h2, if_neg ne10]
      simp only [zl_e]
      rw [wr32_i2 (x := 16 + a) (by omega) (by omega)]
      refine pq_gl (fun _ => pq_zwl' (fun I1 e1 => pq_gr (fun _ => pq_zwr' (fun J1 e2 => pq_end ⟨rj_cell (o := 4) (j := a.toNat) (c := (16 + a).toNat) h (Or.inr (Or.inr (Or.inr (Or.inl ⟨rfl, by omega, by omega, by omega⟩)))) e1 e2, rfl⟩))))
    · rw [if_neg h2, if_pos eq00]
      by_cases h3 : b < 0
      · rw [if_pos h3]; exact pq_end ⟨h, rfl⟩
      · rw [if_neg h3, if_neg (show ¬ b < a by omega)]; exact pq_end ⟨h, rfl⟩
  · rw [if_neg h1, if_pos eq00, out2 (a := a < 2) (b := 8 < a) (by omega)]
    exact pq_end ⟨h, rfl⟩
theorem ev_canBe (a b c : Int) (I : IMem) : f_S_canBe fu a b c I = zr (if 1 ≤ a ∧ a ≤ 8 ∧ 1 ≤ b ∧ b ≤ a ∧ 0 ≤ c ∧ c ≤ 3 then 1 else 0) I := by
  unfold f_S_canBe
  by_cases h : 1 ≤ a ∧ a ≤ 8 ∧ 1 ≤ b ∧ b ≤ a ∧ 0 ≤ c ∧ c ≤ 3
  · rw [if_neg (show ¬ a < 1 by omega), if_neg (show ¬ 8 < a by omega), if_neg (show ¬ b < 1 by omega), if_neg (show ¬ a < b by omega), if_neg (show ¬ c < 0 by omega), if_neg (show ¬ 3 < c by omega), if_pos h]
  · rw [if_neg h]
    by_cases h1 : a < 1
    · rw [if_pos h1]
    · rw [if_neg h1]
      by_cases h2 : 8 < a
      · rw [if_pos h2]
      · rw [if_neg h2]
        by_cases h3 : b < 1
        · rw [if_pos h3]
        · rw [if_neg h3]
          by_cases h4 : a < b
          · rw [if_pos h4]
          · rw [if_neg h4]
            by_cases h5 : c < 0
            · rw [if_pos h5]
            · rw [if_neg h5, if_pos (by omega)]
theorem ev_isGroup (a b c : Int) (J : IMem) : f_X_isGroup fu a b c J = zr (if 1 ≤ a ∧ a ≤ 8 ∧ 1 ≤ b ∧ b ≤ a ∧ 0 ≤ c ∧ c ≤ 3 then 1 else 0) J := by
  unfold f_X_isGroup
  rw [ev_isIn, zb_zr]
  by_cases h1 : 1 ≤ a ∧ a ≤ 8
  · rw [if_pos h1, if_neg ne10, ev_isIn, zb_zr]
    by_cases h2 : 1 ≤ b ∧ b ≤ a
    · rw [if_pos h2, if_neg ne10, ev_isIn, zb_zr]
      by_cases h3 : 0 ≤ c ∧ c ≤ 3
      · rw [if_pos h3, if_pos ⟨h1.1, h1.2, h2.1, h2.2, h3⟩]; rfl
      · rw [if_neg h3, if_neg (fun q => h3 q.2.2.2.2)]; rfl
    · rw [if_neg h2, if_pos eq00, if_neg (fun q => h2 ⟨q.2.2.1, q.2.2.2.1⟩)]
  · rw [if_neg h1, if_pos eq00, if_neg (fun q => h1 ⟨q.1, q.2.1⟩)]
end
/-! calls that tell or set one thing, further: both sides -/
section
variable {fu : Nat} {I J : IMem}
theorem pj_told (a : Int) (h : RJ I J) : pq (f_S_told fu 0 a I) (f_X_told fu 0 a J) EQJ := by
  have hS : HS 1 1 I J := h.1.1.1
  have hP : PKR I J := h.2.2.2.2.2.1
  unfold f_S_told f_X_told
  rw [ev_isIn, zb_zr]
  simp only [zl_e, zj_e]
  by_cases q : 0 ≤ a ∧ a ≤ 5
  · rw [if_neg (show ¬ a < 0 by omega), if_neg (show ¬ 5 < a by omega), if_pos q, if_neg ne10, wr32_i2 (x := 1 + a) (by omega) (by omega)]
    refine pq_gl (fun _ => pq_gr (fun _ => pq_end ⟨h, ?_⟩))
    have e := hS.1 a.toNat (by omega)
    rw [show (1 + a).toNat = 1 + a.toNat by omega]
    exact e
  · rw [if_neg q, if_pos eq00, out2 (a := a < 0) (b := 5 < a) (by omega)]
    refine pq_ii Iff.rfl (fun _ _ => pq_end ⟨h, hP.1.2.1⟩) (fun _ _ => pq_ii Iff.rfl (fun _ _ => pq_end ⟨h, hS.2.2.1⟩) (fun _ _ => pq_ii Iff.rfl (fun _ _ => pq_end ⟨h, hS.2.1⟩) (fun _ _ => pq_end ⟨h, rfl⟩)))
/-- the people of a line's first groups -/
def lsum (J : IMem) (l : Nat) : Nat → Int
  | 0 => 0
  | n + 1 => lsum J l n + J 1 (141 + 6 * (40 * l + n))
def LZ (J : IMem) (l n : Nat) : Prop := ∀ p, p < n → 1 ≤ J 1 (141 + 6 * (40 * l + p)) ∧ J 1 (141 + 6 * (40 * l + p)) ≤ 8
theorem lsum_b {l : Nat} : ∀ n : Nat, LZ J l n → 0 ≤ lsum J l n ∧ lsum J l n ≤ 8 * (n : Int) := by
  intro n
  induction n with
  | zero => intro _; exact ⟨Int.le_refl _, Int.le_refl _⟩
  | succ n ih =>
    intro hz
    obtain ⟨i1, i2⟩ := ih (fun p hp => hz p (by omega))
    obtain ⟨z1, z2⟩ := hz n (by omega)
    have e : lsum J l (n + 1) = lsum J l n + J 1 (141 + 6 * (40 * l + n)) := rfl
    omega
theorem lz_of (hg : GX 0 J) {l n : Nat} (hl : l < 6) (hn : J 1 (130 + l) = (n : Int)) : LZ J l n ∧ n ≤ 40 := by
  obtain ⟨_, hw, _, _, _⟩ := hg
  obtain ⟨_, _, _, _, _, w6, w7, _, _⟩ := hw
  refine ⟨fun p hp => w7 l p hl ?_, ?_⟩
  · show (p : Int) < J 1 (130 + l)
    omega
  · have e : 0 ≤ J 1 (130 + l) ∧ J 1 (130 + l) ≤ 40 := w6 l hl
    omega
theorem w_row (l p : Nat) (hl : l < 6) (hp : p < 41) : wr32 (wr32 ((l : Int) * 40) + (p : Int)) = ((40 * l + p : Nat) : Int) := by
  rw [wr32_i2 (x := (l : Int) * 40) (by omega) (by omega), wr32_i2 (by omega) (by omega)]; omega
theorem w_130 (l : Nat) (hl : l < 6) : wr32 (130 + (l : Int)) = ((130 + l : Nat) : Int) := by
  rw [wr32_i2 (by omega) (by omega)]; omega
theorem w_nx (p : Nat) (hp : p < 1000) : wr32 ((p : Int) + 1) = ((p + 1 : Nat) : Int) := by
  rw [wr32_i2 (by omega) (by omega)]; omega
theorem cv_people {l n : Nat} (hL : HL 1 1 I J) (hl : l < 6) (hn : J 1 (130 + l) = (n : Int)) (n40 : n ≤ 40) (hz : LZ J l n) : ∀ (m p : Nat), p ≤ n → par (f_L_people_11 fu 7 (l : Int) (n : Int) m (lsum J l p) (p : Int) I) (fun v I' => I' = I ∧ v = lsum J l n) := by
  intro m
  induction m with
  | zero => intro _ _; exact par_none
  | succ m ih =>
    intro p hp
    show par (fb_L_people_11 fu 7 (l : Int) (n : Int) (f_L_people_11 fu 7 (l : Int) (n : Int) m) (lsum J l p) (p : Int) I) _
    unfold fb_L_people_11
    by_cases q : p < n
    · rw [if_pos (show (p : Int) < (n : Int) by omega), w_row l p hl (by omega), ev_get1 fu 7 _ I (by omega), zb_zr]
      have c1 : I (7 + 1) (6 * (40 * l + p) + 1) = J 1 (141 + 6 * (40 * l + p)) := (hl_r hL hl (show (p : Int) < J 1 (130 + l) by omega) (show 1 < 6 by decide)).trans (congrArg (J 1) (by omega))
      obtain ⟨b1, b2⟩ := lsum_b (J := J) (l := l) p (fun i hi => hz i (by omega))
      obtain ⟨z1, z2⟩ := hz p q
      rw [c1]
      simp only [zl_e]
      rw [w_nx p (by omega), wr32_i2 (x := lsum J l p + J 1 (141 + 6 * (40 * l + p))) (by omega) (by omega)]
      exact ih (p + 1) q
    · rw [if_neg (show ¬ (p : Int) < (n : Int) by omega)]
      have : p = n := by omega
      subst this
      exact par_zr ⟨rfl, rfl⟩
theorem xv_line2 {Q : Int → IMem → Prop} (kk : Int → IMem → Res) (p2 : Int) {l n : Nat} (hl : l < 6) (hn : J 1 (130 + l) = (n : Int)) (n40 : n ≤ 40) (hz : LZ J l n) (hend : par (kk (lsum J l n) J) Q) : ∀ (m p : Nat), p ≤ n → par (f_X_line_23 fu kk 0 (l : Int) p2 m (lsum J l p) (p : Int) J) Q := by
  intro m
  induction m with
  | zero => intro _ _; exact par_none
  | succ m ih =>
    intro p hp
    show par (fb_X_line_23 fu kk 0 (l : Int) p2 (f_X_line_23 fu kk 0 (l : Int) p2 m) (lsum J l p) (p : Int) J) _
    unfold fb_X_line_23
    simp only [zl_e]
    rw [w_130 l hl]
    refine par_zg (fun _ => ?_)
    rw [show J (0 + 1) ((130 + l : Nat) : Int).toNat = (n : Int) from hn]
    by_cases q : p < n
    · rw [if_pos (show (p : Int) < (n : Int) by omega), ev_of1 fu 0 l p J hl (by omega), zb_zr]
      have c1 : J (0 + 1) (140 + 6 * (40 * l + p) + 1) = J 1 (141 + 6 * (40 * l + p)) := congrArg (J 1) (by omega)
      obtain ⟨b1, b2⟩ := lsum_b (J := J) (l := l) p (fun i hi => hz i (by omega))
      obtain ⟨z1, z2⟩ := hz p q
      rw [c1, w_nx p (by omega), wr32_i2 (x := lsum J l p + J 1 (141 + 6 * (40 * l + p))) (by omega) (by omega)]
      exact ih (p + 1) q
    · rw [if_neg (show ¬ (p : Int) < (n : Int) by omega)]
      have : p = n := by omega
      subst this
      exact hend
theorem pj_line (a b : Int) (h : RJ I J) (hg : GX 0 J) : pq (f_S_line fu 0 a b I) (f_X_line fu 0 a b J) EQJ := by
  have hL : HL 1 1 I J := h.1.1.2.2.2.1
  unfold f_S_line f_X_line
  rw [ev_isLine, ev_xLine, zb_zr, zb_zr]
  by_cases h1 : 0 ≤ a ∧ a < 6
  · rw [if_pos h1, if_neg ne10, if_neg ne10, ev_isIn, zb_zr]
    by_cases h2 : 0 ≤ b ∧ b ≤ 1
    · rw [if_neg (show ¬ b < 0 by omega), if_neg (show ¬ 1 < b by omega), if_pos h2, if_neg ne10]
      obtain ⟨l, rfl⟩ : ∃ l : Nat, a = (l : Int) := ⟨a.toNat, by omega⟩
      have hl : l < 6 := by omega
      obtain ⟨c1, c2, c3⟩ := hl_c hL hl
      obtain ⟨n, hn⟩ : ∃ n : Nat, J 1 (130 + l) = (n : Int) := ⟨(J 1 (130 + l)).toNat, by omega⟩
      obtain ⟨hz, n40⟩ := lz_of hg hl hn
      by_cases h3 : b = 0
      · rw [if_pos h3]
        refine pq_gl (fun _ => pq_r ?_)
        refine xv_line2 _ b hl hn n40 hz ?_ fu 0 (Nat.zero_le _)
        rw [if_pos h3]
        simp only [zl_e]
        rw [w_130 l hl]
        exact par_zg (fun _ => par_zr ⟨h, c1⟩)
      · rw [if_neg h3]
        unfold f_L_people
        rw [ev_countOf fu (0 + 7) l I hl (show I 9 l ≤ 40 by have : I 9 l = J 1 (130 + l) := c1; omega), zb_zr, show I (0 + 7 + 2) l = (n : Int) from c1.trans hn]
        refine pq_bl (cv_people hL hl hn n40 hz fu 0 (Nat.zero_le _)) (fun x I1 _ ⟨g1, g2⟩ => pq_r ?_)
        refine xv_line2 _ b hl hn n40 hz ?_ fu 0 (Nat.zero_le _)
        rw [if_neg h3, g1, g2]
        exact par_zr ⟨h, rfl⟩
    · rw [if_neg h2, if_pos eq00, out2 (a := b < 0) (b := 1 < b) (by omega)]
      exact pq_end ⟨h, rfl⟩
  · rw [if_neg h1, if_pos eq00, if_pos eq00]
    exact pq_end ⟨h, rfl⟩
theorem fold2 {l n : Nat} {wd pl : Int} (h : RJ I J) (hl : l < 6) (hn : J 1 (130 + l) = (n : Int)) (n40 : n ≤ 40) (hz : LZ J l n) (hw : 1 ≤ wd ∧ wd ≤ 40) : ∀ (m m2 p : Nat) (w f u : Int), p ≤ n → f = wd - u → 0 ≤ u → u ≤ wd → pq (f_L_rowOf_16 fu 7 (l : Int) wd pl (n : Int) m w f (p : Int) I) (f_X_folded_48 fu 0 (l : Int) wd pl m2 w u (p : Int) J) EQJ := by
  have hL : HL 1 1 I J := h.1.1.2.2.2.1
  intro m
  induction m with
  | zero => intro _ _ _ _ _ _ _ _ _; exact pq_nl
  | succ m ih =>
    intro m2
    cases m2 with
    | zero => intro _ _ _ _ _ _ _ _; exact pq_nr
    | succ m2 =>
      intro p w f u hp hf u0 u1
      show pq (fb_L_rowOf_16 fu 7 (l : Int) wd pl (n : Int) (f_L_rowOf_16 fu 7 (l : Int) wd pl (n : Int) m) w f (p : Int) I) (fb_X_folded_48 fu 0 (l : Int) wd pl (f_X_folded_48 fu 0 (l : Int) wd pl m2) w u (p : Int) J) EQJ
      unfold fb_L_rowOf_16 fb_X_folded_48
      simp only [zl_e, zj_e]
      rw [w_130 l hl]
      refine pq_gr (fun _ => ?_)
      rw [show J (0 + 1) ((130 + l : Nat) : Int).toNat = (n : Int) from hn]
      by_cases q : p < n
      · rw [if_pos (show (p : Int) < (n : Int) by omega), if_pos (show (p : Int) < (n : Int) by omega), w_row l p hl (by omega), ev_get1 fu 7 _ I (by omega), zb_zr, ev_of1 fu 0 l p J hl (by omega), zb_zr]
        have c1 : I (7 + 1) (6 * (40 * l + p) + 1) = J 1 (141 + 6 * (40 * l + p)) := (hl_r hL hl (show (p : Int) < J 1 (130 + l) by omega) (show 1 < 6 by decide)).trans (congrArg (J 1) (by omega))
        have c2 : J (0 + 1) (140 + 6 * (40 * l + p) + 1) = J 1 (141 + 6 * (40 * l + p)) := congrArg (J 1) (by omega)
        obtain ⟨z1, z2⟩ := hz p q
        rw [c1, c2]
        generalize hs : J 1 (141 + 6 * (40 * l + p)) = s at z1 z2
        rw [w_nx p (by omega)]
        have fin : ∀ (w' f' u' a' : Int), f' = wd - u' → 0 ≤ u' → u' ≤ wd → pq (if (p : Int) = pl then zr a' I else f_L_rowOf_16 fu 7 (l : Int) wd pl (n : Int) m w' f' ((p + 1 : Nat) : Int) I) (if (p : Int) = pl then zr a' J else f_X_folded_48 fu 0 (l : Int) wd pl m2 w' u' ((p + 1 : Nat) : Int) J) EQJ := fun w' f' u' a' e1 e2 e3 => pq_ii Iff.rfl (fun _ _ => pq_end ⟨h, rfl⟩) (fun _ _ => ih m2 (p + 1) w' f' u' q e1 e2 e3)
        by_cases k1 : wd < s
        · rw [if_pos (show f < s by omega), if_pos k1, if_pos (show 0 < wd by omega), if_pos k1]
          refine pq_gl (fun _ => pq_gr (fun _ => ?_))
          exact fin _ 0 wd w (by omega) (by omega) (by omega)
        · by_cases k2 : wd < u + s
          · rw [if_pos (show f < s by omega), if_neg k1, if_neg k1, wr32_i2 (x := u + s) (by omega) (by omega), if_pos k2, wr32_i2 (x := wd - s) (by omega) (by omega)]
            exact fin _ (wd - s) s w rfl (by omega) (by omega)
          · rw [if_neg (show ¬ f < s by omega), if_neg k1, wr32_i2 (x := u + s) (by omega) (by omega), if_neg k2, wr32_i2 (x := f - s) (by omega) (by omega)]
            exact fin w (f - s) (u + s) _ (by omega) (by omega) (by omega)
      · rw [if_neg (show ¬ (p : Int) < (n : Int) by omega), if_neg (show ¬ (p : Int) < (n : Int) by omega)]
        exact pq_end ⟨h, rfl⟩
theorem pj_folded (a b c : Int) (h : RJ I J) (hg : GX 0 J) : pq (f_S_folded fu 0 a b c I) (f_X_folded fu 0 a b c J) EQJ := by
  have hL : HL 1 1 I J := h.1.1.2.2.2.1
  unfold f_S_folded f_X_folded
  rw [ev_isLine, ev_xLine, zb_zr, zb_zr]
  by_cases h1 : 0 ≤ a ∧ a < 6
  · rw [if_pos h1, if_neg ne10, if_neg ne10, ev_isIn, zb_zr]
    by_cases h2 : 1 ≤ b ∧ b ≤ 40
    · rw [if_neg (show ¬ b < 1 by omega), if_neg (show ¬ 40 < b by omega), if_pos h2, if_neg ne10]
      obtain ⟨l, rfl⟩ : ∃ l : Nat, a = (l : Int) := ⟨a.toNat, by omega⟩
      have hl : l < 6 := by omega
      obtain ⟨c1, c2, c3⟩ := hl_c hL hl
      obtain ⟨n, hn⟩ : ∃ n : Nat, J 1 (130 + l) = (n : Int) := ⟨(J 1 (130 + l)).toNat, by omega⟩
      obtain ⟨hz, n40⟩ := lz_of hg hl hn
      simp only [zl_e]
      rw [w_130 l hl]
      refine pq_gr (fun _ => ?_)
      rw [show J (0 + 1) ((130 + l : Nat) : Int).toNat = (n : Int) from hn, wr32_i2 (x := (n : Int) - 1) (by omega) (by omega), ev_isIn, zb_zr]
      by_cases h3 : c < -1
      · rw [if_pos h3, if_neg (show ¬ (-1 ≤ c ∧ c ≤ (n : Int) - 1) by omega), if_pos eq00]
        exact pq_end ⟨h, rfl⟩
      · rw [if_neg h3]
        refine pq_gl (fun _ => ?_)
        rw [show I (0 + 9) ((l : Nat) : Int).toNat = (n : Int) from c1.trans hn]
        by_cases h4 : c < (n : Int)
        · rw [if_pos h4, if_pos (show -1 ≤ c ∧ c ≤ (n : Int) - 1 by omega), if_neg ne10]
          unfold f_L_rowOf
          rw [ev_countOf fu (0 + 7) l I hl (show I 9 l ≤ 40 by have : I 9 l = J 1 (130 + l) := c1; omega), zb_zr, show I (0 + 7 + 2) l = (n : Int) from c1.trans hn]
          intro x I' y J' e1 e2
          obtain ⟨x1, I1, a1, a2⟩ := of_zb e1
          cases a2
          exact fold2 h hl hn n40 hz h2 fu fu 0 0 0 b (Nat.zero_le _) (by omega) (by omega) (by omega) x I' y J' a1 e2
        · rw [if_neg h4, if_neg (show ¬ (-1 ≤ c ∧ c ≤ (n : Int) - 1) by omega), if_pos eq00]
          exact pq_end ⟨h, rfl⟩
    · rw [if_neg h2, if_pos eq00, out2 (a := b < 1) (b := 40 < b) (by omega)]
      exact pq_end ⟨h, rfl⟩
  · rw [if_neg h1, if_pos eq00, if_pos eq00]
    exact pq_end ⟨h, rfl⟩
theorem cv_pastAt2 (c : Int) (hc : 0 ≤ c ∧ c < 2147483647) : par (f_H_pastAt fu c I) (fun v I' => I' = I ∧ (v = 3 * (c % 60) ∨ (180 ≤ v ∧ v < 400))) := by
  unfold f_H_pastAt f_JM_floorMod
  simp only [zl_e]
  rw [zg_t (by decide), wrem_i2 (a := c) (c := 60) (by omega) (by omega) (by decide) (by decide)]
  refine par_zb (Q1 := fun v I' => I' = I ∧ (v = c % 60 ∨ v = c % 60 + 60)) ?_ (fun v I' ⟨g1, g2⟩ => par_zr ⟨g1, ?_⟩)
  · refine par_ite (fun _ => par_ite (fun _ => par_zr ⟨rfl, Or.inl rfl⟩) (fun _ => par_zr ⟨rfl, Or.inr ?_⟩)) (fun _ => par_zr ⟨rfl, Or.inl rfl⟩)
    exact wr32_i2 (by omega) (by omega)
  · rcases g2 with g2 | g2
    · left; rw [g2, wr32_i2 (by omega) (by omega)]; omega
    · right; rw [g2, wr32_i2 (by omega) (by omega)]; omega
theorem pj_past (a b : Int) (h : RJ I J) (hc : 0 ≤ J 1 70 ∧ J 1 70 < 2000000000) : pq (f_S_past fu 0 a b I) (f_X_past fu 0 a b J) EQJ := by
  have hY : HY 1 1 I J := h.1.1.2.1
  have hP : HP 1 1 I J := h.1.1.2.2.1
  have t0 : I 11 0 = J 1 70 := hY.1 0 (by decide)
  unfold f_S_past f_X_past
  rw [ev_isIn, zb_zr]
  simp only [zl_e, zj_e]
  by_cases h1 : 0 ≤ a ∧ a ≤ 59
  · rw [if_neg (show ¬ a < 0 by omega), if_pos (show a < 60 by omega), if_pos h1, if_neg ne10, show I (0 + 11) 0 = J 1 70 from t0, show J (0 + 1) 70 = J 1 70 from rfl]
    refine pq_ii Iff.rfl (fun q _ => ?_) (fun _ _ => ?_)
    · rw [ev_isIn, zb_zr]
      by_cases h2 : 0 ≤ b ∧ b ≤ 2
      · rw [if_neg (show ¬ b < 0 by omega), if_neg (show ¬ 2 < b by omega), if_neg ne10, if_pos h2, if_neg ne10]
        unfold f_H_pastChair
        rw [if_neg (show ¬ b < 0 by omega), if_pos (show b < 3 by omega), show I (0 + 1 + 10) 0 = J 1 70 from t0]
        rw [wr32_i2 (x := J 1 70 - 1) (by omega) (by omega), wr32_i2 (x := J 1 70 - 1 - a) (by omega) (by omega), wrem_i2 (a := J 1 70 - 1 - a) (c := 60) (by omega) (by omega) (by decide) (by decide), wr32_i2 (x := 3 * ((J 1 70 - 1 - a) % 60)) (by omega) (by omega), wr32_i2 (x := 6010 + 3 * ((J 1 70 - 1 - a) % 60)) (by omega) (by omega), wr32_i2 (x := 6010 + 3 * ((J 1 70 - 1 - a) % 60) + b) (by omega) (by omega)]
        refine pq_gr (fun _ => pq_l ?_)
        refine par_zb (Q1 := fun v I' => I' = I ∧ v = J 1 (6010 + 3 * ((J 1 70 - 1 - a) % 60) + b).toNat) ?_ (fun v I1 ⟨g1, g2⟩ => par_zr ⟨by rw [g1]; exact h, g2⟩)
        refine par_zb (cv_pastAt2 (J 1 70 - 1 - a) (by omega)) (fun v I1 ⟨g1, g2⟩ => ?_)
        simp only [zl_e]
        rcases g2 with g2 | g2
        · rw [g2, g1, wr32_i2 (x := 3 * ((J 1 70 - 1 - a) % 60) + b) (by omega) (by omega)]
          refine par_zg (fun _ => par_zr ⟨rfl, ?_⟩)
          have e := hP.2.2.2.2 (3 * ((J 1 70 - 1 - a) % 60) + b).toNat (by omega)
          exact e.trans (congrArg (J 1) (by omega))
        · refine par_zg (fun z => ?_)
          rw [wr32_i2 (x := v + b) (by omega) (by omega)] at z
          omega
      · rw [if_neg h2, if_pos eq00]
        by_cases h3 : b < 0
        · rw [if_pos h3, if_pos eq00]; exact pq_end ⟨h, rfl⟩
        · rw [if_neg h3, if_pos (show 2 < b by omega), if_pos eq00]; exact pq_end ⟨h, rfl⟩
    · rw [if_pos eq00]; exact pq_end ⟨h, rfl⟩
  · rw [if_neg h1, if_pos eq00]
    by_cases h3 : a < 0
    · rw [if_pos h3, if_pos eq00]; exact pq_end ⟨h, rfl⟩
    · rw [if_neg h3, if_neg (show ¬ a < 60 by omega), if_pos eq00]; exact pq_end ⟨h, rfl⟩
theorem pj_last (a : Int) (h : RJ I J) (hg : GX 0 J) : pq (f_S_last fu 0 a I) (f_X_last fu 0 a J) EQJ := by
  have hY : HY 1 1 I J := h.1.1.2.1
  obtain ⟨p1, p2, p3, p4, _⟩ : HP 1 1 I J := h.1.1.2.2.1
  have t0 : I 11 0 = J 1 70 := hY.1 0 (by decide)
  have hb : -1 ≤ J 1 110 ∧ J 1 110 ≤ 8 := ⟨hg.2.1.1.2.2.2.2.2.1, hg.2.1.1.2.2.2.2.2.2⟩
  unfold f_S_last f_X_last
  simp only [zl_e, zj_e]
  rw [show J (0 + 1) 110 = J 1 110 from rfl, show I (0 + 11) 0 = J 1 70 from t0]
  by_cases z : J 1 110 = -1
  · rw [if_pos z, if_pos (p1.mp z)]
    by_cases h1 : a < 0
    · rw [if_pos h1]; exact pq_end ⟨h, rfl⟩
    · rw [if_neg h1]
      by_cases h2 : a < 30
      · rw [if_pos h2]; exact pq_end ⟨h, rfl⟩
      · rw [if_neg h2]; exact pq_end ⟨h, rfl⟩
  · have z2 : ¬ J 1 70 = 0 := fun q => z (p1.mpr q)
    have e0 : I 12 0 = J 1 110 := p2 z
    rw [if_neg z, if_neg z2, ev_isIn, zb_zr, wr32_i2 (x := 9 + J 1 110) (by omega) (by omega), show I (0 + 12) 0 = J 1 110 from e0]
    generalize hx : J 1 110 = x at hb z
    by_cases h1 : 0 ≤ a ∧ a < 30
    · rw [if_neg (show ¬ a < 0 by omega), if_pos (show a < 30 by omega)]
      by_cases h2 : a < 10
      · rw [if_pos h2, if_neg (show ¬ (10 ≤ a ∧ a ≤ 9 + x) by omega), if_pos eq00, ev_isIn, zb_zr, wr32_i2 (x := 19 + x) (by omega) (by omega), if_neg (show ¬ (20 ≤ a ∧ a ≤ 19 + x) by omega), if_pos eq00]
        by_cases h3 : a < 2
        · rw [if_pos h3, if_neg ne10]
          refine pq_gl (fun _ => ?_)
          by_cases h4 : a = 0
          · rw [if_pos h4]
            refine pq_end ⟨h, ?_⟩
            rw [h4]
            exact e0.trans hx
          · rw [if_neg h4, if_pos (show a = 1 by omega)]
            refine pq_end ⟨h, ?_⟩
            rw [show a = 1 by omega]
            exact p3
        · rw [if_neg h3, if_pos eq00, if_neg (show ¬ a = 0 by omega), if_neg (show ¬ a = 1 by omega)]
          exact pq_end ⟨h, rfl⟩
      · rw [if_neg h2, wrem_i2 (a := a) (c := 10) (by omega) (by omega) (by decide) (by decide)]
        by_cases h3 : a % 10 < x
        · rw [if_pos h3, if_neg ne10]
          refine pq_gl (fun _ => ?_)
          by_cases h4 : 10 ≤ a ∧ a ≤ 9 + x
          · rw [if_pos h4, if_neg ne10, wr32_i2 (x := 112 + a) (by omega) (by omega), wr32_i2 (x := 112 + a - 10) (by omega) (by omega)]
            refine pq_gr (fun _ => pq_end ⟨h, ?_⟩)
            have e := (p4 (a - 10).toNat (by omega)).1
            rw [show 10 + (a - 10).toNat = a.toNat by omega, show 112 + (a - 10).toNat = (112 + a - 10).toNat by omega] at e
            exact e
          · rw [if_neg h4, if_pos eq00, ev_isIn, zb_zr, wr32_i2 (x := 19 + x) (by omega) (by omega), if_pos (show 20 ≤ a ∧ a ≤ 19 + x by omega), if_neg ne10, wr32_i2 (x := 120 + a) (by omega) (by omega), wr32_i2 (x := 120 + a - 20) (by omega) (by omega)]
            refine pq_gr (fun _ => pq_end ⟨h, ?_⟩)
            have e := (p4 (a - 20).toNat (by omega)).2
            rw [show 20 + (a - 20).toNat = a.toNat by omega, show 120 + (a - 20).toNat = (120 + a - 20).toNat by omega] at e
            exact e
        · rw [if_neg h3, if_pos eq00, if_neg (show ¬ (10 ≤ a ∧ a ≤ 9 + x) by omega), if_pos eq00, ev_isIn, zb_zr, wr32_i2 (x := 19 + x) (by omega) (by omega), if_neg (show ¬ (20 ≤ a ∧ a ≤ 19 + x) by omega), if_pos eq00, if_neg (show ¬ a = 0 by omega), if_neg (show ¬ a = 1 by omega)]
          exact pq_end ⟨h, rfl⟩
    · rw [if_neg (show ¬ (10 ≤ a ∧ a ≤ 9 + x) by omega), if_pos eq00, ev_isIn, zb_zr, wr32_i2 (x := 19 + x) (by omega) (by omega), if_neg (show ¬ (20 ≤ a ∧ a ≤ 19 + x) by omega), if_pos eq00, if_neg (show ¬ a = 0 by omega), if_neg (show ¬ a = 1 by omega)]
      by_cases h2 : a < 0
      · rw [if_pos h2]; exact pq_end ⟨h, rfl⟩
      · rw [if_neg h2, if_neg (show ¬ a < 30 by omega)]; exact pq_end ⟨h, rfl⟩
theorem pj_group (a b c : Int) (h : RJ I J) (hg : GX 0 J) : pq (f_S_group fu 0 a b c I) (f_X_group fu 0 a b c J) EQJ := by
  obtain ⟨hS, hY, hP, hL, hW⟩ : HR 1 1 I J := h.1.1
  have f6 : 0 ≤ J 1 6 ∧ J 1 6 ≤ 3 := ⟨hg.2.1.1.2.2.1, hg.2.1.1.2.2.2.1⟩
  unfold f_S_group f_X_group
  rw [ev_isLine, ev_xLine, zb_zr, zb_zr]
  by_cases h1 : 0 ≤ a ∧ a < 6
  · rw [if_pos h1, if_neg ne10, if_neg ne10, ev_isIn, zb_zr]
    by_cases h2 : 0 ≤ b ∧ b ≤ 39
    · rw [if_neg (show ¬ b < 0 by omega), if_pos (show b < 40 by omega), if_pos h2, if_neg ne10, ev_isIn, zb_zr]
      by_cases h3 : 0 ≤ c ∧ c ≤ 6
      · rw [if_neg (show ¬ c < 0 by omega), if_neg (show ¬ 6 < c by omega), if_pos h3, if_neg ne10]
        obtain ⟨l, rfl⟩ : ∃ l : Nat, a = (l : Int) := ⟨a.toNat, by omega⟩
        obtain ⟨p, rfl⟩ : ∃ p : Nat, b = (p : Int) := ⟨b.toNat, by omega⟩
        have hl : l < 6 := by omega
        obtain ⟨c1, c2, c3⟩ := hl_c hL hl
        simp only [zl_e]
        rw [w_130 l hl, ev_has fu (0 + 7) l p I hl, zb_zr, w_row l p hl (by omega), show I (0 + 7 + 2) l = J 1 (130 + l) from c1]
        refine pq_gr (fun _ => ?_)
        rw [show J (0 + 1) ((130 + l : Nat) : Int).toNat = J 1 (130 + l) from rfl]
        by_cases hp : (p : Int) < J 1 (130 + l)
        · rw [if_pos (show 0 ≤ (p : Int) ∧ (p : Int) < J 1 (130 + l) by omega), if_neg ne10, if_pos hp]
          by_cases h6 : c = 6
          · rw [if_pos h6, if_pos h6]
            obtain ⟨k, hk⟩ : ∃ k : Nat, J 1 6 = (k : Int) := ⟨(J 1 6).toNat, by omega⟩
            have hk4 : k < 4 := by omega
            obtain ⟨law, L1, L2, L3⟩ := hW k (by omega)
            have q5 : I 2 5 = (k : Int) := (hS.1 5 (by decide)).trans hk
            have q0 : I (0 + 2) 0 = J 1 1 := hS.1 0 (by decide)
            rw [q0, show J (0 + 1) 1 = J 1 1 from rfl]
            refine pq_bl (cv_facts (hb := 1) (l := l) (p := p) (left := J 1 1) (taken := 0) (s := (k : Int)) (by omega) hL hl hp) (fun _ I1 _ ⟨g1, g2⟩ => ?_)
            have r5 : I1 (0 + 1 + 1) 5 = (k : Int) := (g1 2 5 (by decide)).trans q5
            rw [ev_law fu (0 + 1) I1 (by rw [r5]; omega), zb_zr, r5]
            refine pq_bl (cv_value (ol := 1 + 15 + 5 * k) (o3 := 14) (s := (k : Int)) (l := law) (F := WF J l p (J 1 1) 0) (fun d hd => by omega) L3 I1 (lc_mv L1 (fun d j hd => g1 _ _ (by omega))) g2) (fun v I2 _ ⟨g3, g4⟩ => pq_r ?_)
            refine par_zb (xv_worth (k := k) (law := law) hl hp c3 hk4 hk L3 L2) (fun y J1 ⟨g5, g6⟩ => par_zr ⟨?_, g3.trans g5.symm⟩)
            refine rj_same h (fun q j hq => ?_) (fun q j hq => g6 _ _ (by omega) (by omega))
            rw [g4 _ _ (by omega), g1 _ _ (by omega)]
          · rw [if_neg h6, if_neg h6]
            obtain ⟨f, rfl⟩ : ∃ f : Nat, c = (f : Int) := ⟨c.toNat, by omega⟩
            rw [ev_get fu (0 + 7) _ f I (by omega) (by omega), zb_zr, ev_of fu 0 l p f J hl (by omega) (by omega), zb_zr]
            exact pq_end ⟨h, hl_r hL hl hp (by omega)⟩
        · rw [if_neg (show ¬ (0 ≤ (p : Int) ∧ (p : Int) < J 1 (130 + l)) by omega), if_pos eq00, if_neg hp]
          exact pq_end ⟨h, rfl⟩
      · rw [if_neg h3, if_pos eq00, out2 (a := c < 0) (b := 6 < c) (by omega)]
        exact pq_end ⟨h, rfl⟩
    · rw [if_neg h2, if_pos eq00]
      by_cases h3 : b < 0
      · rw [if_pos h3]; exact pq_end ⟨h, rfl⟩
      · rw [if_neg h3, if_neg (show ¬ b < 40 by omega)]; exact pq_end ⟨h, rfl⟩
  · rw [if_neg h1, if_pos eq00, if_pos eq00]
    exact pq_end ⟨h, rfl⟩
theorem pj_count (a : Int) (h : RJ I J) : pq (f_S_count fu 0 a I) (f_X_count fu 0 a J) (fun _ I' _ J' => RJ I' J') := by
  intro x I' y J' e1 e2
  have a1 : I' = I := funext fun q => fr_S_count (fun _ => False) fu 0 a I e1 q (fun z => z)
  have a2 : J' = J := funext fun q => funext fun j => fc_X_count (fun _ _ => False) fu 0 a J e2 q j (fun z => z)
  rw [a1, a2]; exact h
end
/-! calls that set: both sides -/
section
variable {fu : Nat} {I J : IMem}
theorem ev_canTell (a b : Int) (I : IMem) : ∃ v, f_S_canTell fu a b I = zr v I ∧ ((v = 0 ∧ ¬ CSet a b) ∨ (v = 1 ∧ CSet a b)) := by
  unfold f_S_canTell
  by_cases h : 0 ≤ a ∧ a ≤ 5
  · have hl : (a = 0 → leastZ a.toNat = 2 ∧ mostZ a.toNat = 8) ∧ (a = 1 → leastZ a.toNat = 1 ∧ mostZ a.toNat = 99) ∧ (a = 2 → leastZ a.toNat = 0 ∧ mostZ a.toNat = 999) ∧ (a = 3 → leastZ a.toNat = 0 ∧ mostZ a.toNat = 1000) ∧ (a = 4 → leastZ a.toNat = 0 ∧ mostZ a.toNat = 99) ∧ (a = 5 → leastZ a.toNat = 0 ∧ mostZ a.toNat = 3) := by
      refine ⟨?_, ?_, ?_, ?_, ?_, ?_⟩ <;> (intro e; subst e; decide)
    rw [if_neg (show ¬ a < 0 by omega), if_neg (show ¬ 5 < a by omega), zg_t (show 0 ≤ a ∧ a < 6 by omega)]
    by_cases h1 : b < leastZ a.toNat
    · rw [if_pos h1]
      exact ⟨0, rfl, Or.inl ⟨rfl, by unfold CSet; omega⟩⟩
    · rw [if_neg h1, zg_t (show 0 ≤ a ∧ a < 6 by omega)]
      by_cases h2 : mostZ a.toNat < b
      · rw [if_pos h2]
        exact ⟨0, rfl, Or.inl ⟨rfl, by unfold CSet; omega⟩⟩
      · rw [if_neg h2]
        exact ⟨1, rfl, Or.inr ⟨rfl, by unfold CSet; omega⟩⟩
  · rw [out2 (a := a < 0) (b := 5 < a) (by omega)]
    exact ⟨0, rfl, Or.inl ⟨rfl, by unfold CSet; omega⟩⟩
def XSW (fu : Nat) (a b : Int) (J : IMem) : Res := zl (wr32 (1 + a)) fun x5 => zg (0 ≤ x5 ∧ x5 < 6190) (zw J (0 + 1) x5.toNat b fun I4 => if a = 0 then zb (f_X_forgets fu 0 I4) fun _ I7 => zr 1 I7 else zr 1 I4)
theorem xe_set1 {a b : Int} (hc : CSet a b) (J : IMem) : f_X_set fu 0 a b J = XSW fu a b J := by
  unfold CSet at hc
  unfold f_X_set XSW
  simp only [zj_e]
  rcases hc with ⟨e, c1, c2⟩ | ⟨e, c1, c2⟩ | ⟨e, c1, c2⟩ | ⟨e, c1, c2⟩ | ⟨e, c1, c2⟩ | ⟨e, c1, c2⟩
  · rw [if_pos e, ev_isIn, zb_zr, if_pos (show 2 ≤ b ∧ b ≤ 8 from ⟨c1, c2⟩), if_neg ne10]
  · rw [if_neg (show ¬ a = 0 by omega), if_pos e, ev_isIn, zb_zr, if_pos (show 1 ≤ b ∧ b ≤ 99 from ⟨c1, c2⟩), if_neg ne10]
  · rw [if_neg (show ¬ a = 0 by omega), if_neg (show ¬ a = 1 by omega), if_pos e, ev_isIn, zb_zr, if_pos (show 0 ≤ b ∧ b ≤ 999 from ⟨c1, c2⟩), if_neg ne10]
  · rw [if_neg (show ¬ a = 0 by omega), if_neg (show ¬ a = 1 by omega), if_neg (show ¬ a = 2 by omega), if_pos e, ev_isIn, zb_zr, if_pos (show 0 ≤ b ∧ b ≤ 1000 from ⟨c1, c2⟩), if_neg ne10]
  · rw [if_neg (show ¬ a = 0 by omega), if_neg (show ¬ a = 1 by omega), if_neg (show ¬ a = 2 by omega), if_neg (show ¬ a = 3 by omega), if_pos e, ev_isIn, zb_zr, if_pos (show 0 ≤ b ∧ b ≤ 99 from ⟨c1, c2⟩), if_neg ne10]
  · rw [if_neg (show ¬ a = 0 by omega), if_neg (show ¬ a = 1 by omega), if_neg (show ¬ a = 2 by omega), if_neg (show ¬ a = 3 by omega), if_neg (show ¬ a = 4 by omega), if_pos e, ev_isIn, zb_zr, if_pos (show 0 ≤ b ∧ b ≤ 3 from ⟨c1, c2⟩), if_neg ne10, if_neg ne10]
theorem xe_set0 {a b : Int} (hc : ¬ CSet a b) (J : IMem) : f_X_set fu 0 a b J = zr 0 J := by
  unfold CSet at hc
  unfold f_X_set
  simp only [zj_e]
  by_cases h0 : a = 0
  · rw [if_pos h0, ev_isIn, zb_zr, if_neg (show ¬ (2 ≤ b ∧ b ≤ 8) by omega), if_pos eq00]
  rw [if_neg h0]
  by_cases h1 : a = 1
  · rw [if_pos h1, ev_isIn, zb_zr, if_neg (show ¬ (1 ≤ b ∧ b ≤ 99) by omega), if_pos eq00]
  rw [if_neg h1]
  by_cases h2 : a = 2
  · rw [if_pos h2, ev_isIn, zb_zr, if_neg (show ¬ (0 ≤ b ∧ b ≤ 999) by omega), if_pos eq00]
  rw [if_neg h2]
  by_cases h3 : a = 3
  · rw [if_pos h3, ev_isIn, zb_zr, if_neg (show ¬ (0 ≤ b ∧ b ≤ 1000) by omega), if_pos eq00]
  rw [if_neg h3]
  by_cases h4 : a = 4
  · rw [if_pos h4, ev_isIn, zb_zr, if_neg (show ¬ (0 ≤ b ∧ b ≤ 99) by omega), if_pos eq00]
  rw [if_neg h4]
  by_cases h5 : a = 5
  · rw [if_pos h5, ev_isIn, zb_zr, if_neg (show ¬ (0 ≤ b ∧ b ≤ 3) by omega), if_pos eq00, if_pos eq00]
  rw [if_neg h5, if_pos eq00]
theorem pj_set (a b : Int) (h : RJ I J) : pq (f_S_set fu 0 a b I) (f_X_set fu 0 a b J) EQJ := by
  obtain ⟨v, ev, hv⟩ := ev_canTell (fu := fu) a b I
  unfold f_S_set
  rw [ev, zb_zr]
  rcases hv with ⟨v0, hc⟩ | ⟨v1, hc⟩
  · rw [v0, if_pos eq00, xe_set0 hc J]
    exact pq_end ⟨h, rfl⟩
  · rw [v1, if_neg ne10, xe_set1 hc J]
    unfold CSet at hc
    unfold XSW
    simp only [zl_e]
    rw [wr32_i2 (x := 1 + a) (by omega) (by omega)]
    refine pq_gl (fun _ => pq_zwl' (fun I1 e1 => pq_gr (fun _ => pq_zwr' (fun J1 e2 => ?_))))
    by_cases z : a = 0
    · rw [if_pos z, if_pos z]
      rw [z] at e1 e2
      have hb : 2 ≤ b ∧ b ≤ 8 := by omega
      refine pq_of (P1 := fun x I2 => x = 1 ∧ (∀ j, j < 240 → I2 138 j = 0) ∧ (I2 137 7 = b ∧ I2 137 8 = 0 ∧ I2 137 9 = 0 ∧ I2 137 10 = 0 ∧ I2 137 11 = 0) ∧ ∀ q j, q ≠ 138 → ¬ (q = 137 ∧ 7 ≤ j ∧ j ≤ 11) → I2 q j = I1 q j) (P2 := fun y J2 => y = 1 ∧ (∀ j, j < 240 → J2 13 j = 0) ∧ J2 0 35 = 0 ∧ ∀ q j, q ≠ 13 → ¬ (q = 0 ∧ j = 35) → J2 q j = J1 q j) ?_ ?_ ?_
      · exact par_zb (cv_clear (0 + 137) b I1) (fun _ I2 ⟨g1, g2, g3⟩ => par_zr ⟨rfl, g1, g2, g3⟩)
      · exact par_zb (xv_forgets J1) (fun _ J2 ⟨g1, g2, g3⟩ => par_zr ⟨rfl, g1, g2, g3⟩)
      · intro x I2 y J2 ⟨g0, g1, g2, g3⟩ ⟨k0, k1, k2, k3⟩
        have io : ∀ q j, q ≠ 138 → ¬ (q = 137 ∧ 7 ≤ j ∧ j ≤ 11) → ¬ (q = 2 ∧ j = 0) → I2 q j = I q j := fun q j a1 a2 a3 => by rw [g3 q j a1 a2, e1, if_neg (show ¬ (q = 0 + 2 ∧ j = (0 : Int).toNat) from a3)]
        have jo : ∀ q j, q ≠ 13 → ¬ (q = 0 ∧ j = 35) → ¬ (q = 1 ∧ j = 1) → J2 q j = J q j := fun q j a1 a2 a3 => by rw [k3 q j a1 a2, e2, if_neg (show ¬ (q = 0 + 1 ∧ j = (1 + (0 : Int)).toNat) from a3)]
        have i20 : I2 2 0 = b := by rw [g3 _ _ (by omega) (by omega), e1, if_pos ⟨rfl, rfl⟩]
        have j11 : J2 1 1 = b := by rw [k3 _ _ (by omega) (by omega), e2, if_pos ⟨rfl, rfl⟩]
        have h' := h
        obtain ⟨⟨⟨hS, hY, hP, hL, hW⟩, hz, hA⟩, a2, b2, cc, d, e, ⟨L, t1, t2, t3, t4⟩, f⟩ := h'
        refine ⟨rj_mv h ⟨⟨hs_cell (o := 2) (j := 0) (c := 1) (v := b) hS (Or.inr ⟨rfl, rfl, rfl⟩) (fun q i hq => ?_) (fun i hi => ?_), hy_mv hY (fun j => io _ _ (by omega) (by omega) (by omega)) (fun j _ _ => jo _ _ (by omega) (by omega) (by omega)), hp_mv hP (fun j => ⟨io _ _ (by omega) (by omega) (by omega), io _ _ (by omega) (by omega) (by omega)⟩) (fun j _ => jo _ _ (by omega) (by omega) (by omega)), hl_mv hL (fun j => ⟨io _ _ (by omega) (by omega) (by omega), io _ _ (by omega) (by omega) (by omega)⟩) (fun j _ _ => jo _ _ (by omega) (by omega) (by omega)), hw_mv hW (fun d j _ _ _ => io _ _ (by omega) (by omega) (by omega)) (fun j _ _ => jo _ _ (by omega) (by omega) (by omega))⟩, ?_, ?_, ?_⟩ (io _ _ (by omega) (by omega) (by omega)) (fun q j _ => io _ _ (by omega) (by omega) (by omega)) (fun q j _ => jo _ _ (by omega) (by omega) (by omega)) (pk_zero k1 k2 (by rw [j11]; exact hb) g1 ⟨by rw [g2.1, j11], g2.2⟩) ⟨L, t1, ?_, ?_, fun i hi => ?_⟩ ⟨?_, ?_⟩, by rw [g0, k0]⟩
        · by_cases y1 : q = 2 ∧ i = 0
          · rw [if_pos y1, y1.1, y1.2]; exact i20
          · rw [if_neg y1]; exact io _ _ (by omega) (by omega) y1
        · by_cases y1 : i = 1
          · rw [if_pos y1, y1]; exact j11
          · rw [if_neg y1]; exact jo _ _ (by omega) (by omega) (by omega)
        · rw [io _ _ (by omega) (by omega) (by omega), jo _ _ (by omega) (by omega) (by omega)]; exact hz
        · rw [io _ _ (by omega) (by omega) (by omega)]; exact hA.1
        · rw [io _ _ (by omega) (by omega) (by omega)]; exact hA.2
        · rw [io _ _ (by omega) (by omega) (by omega)]; exact t2
        · rw [jo _ _ (by omega) (by omega) (by omega)]; exact t3
        · rw [io _ _ (by omega) (by omega) (by omega), jo _ _ (by omega) (by omega) (by omega)]; exact t4 i hi
        · rw [io _ _ (by omega) (by omega) (by omega), jo _ _ (by omega) (by omega) (by omega)]; exact f.1
        · rw [io _ _ (by omega) (by omega) (by omega), jo _ _ (by omega) (by omega) (by omega)]; exact f.2
    · rw [if_neg z, if_neg z]
      exact pq_end ⟨rj_cell (o := 2) (j := a.toNat) (c := (1 + a).toNat) h (Or.inr (Or.inl ⟨rfl, by omega, by omega, by omega⟩)) e1 e2, rfl⟩
theorem cv_tell {k : Nat} {a b c d : Int} (hk : k < 8) : par (f_H_tellComer fu 1 (k : Int) a b c d I) (fun _ I' => ∀ q j, I' q j = if q = 5 ∧ j = 4 * k + 3 then d else if q = 5 ∧ j = 4 * k + 2 then c else if q = 5 ∧ j = 4 * k + 1 then b else if q = 5 ∧ j = 4 * k then a else I q j) := by
  unfold f_H_tellComer
  have s0 : wr32 (4 * (k : Int)) = ((4 * k : Nat) : Int) := by rw [wr32_i2 (by omega) (by omega)]; omega
  have s1 : wr32 (((4 * k : Nat) : Int) + 1) = ((4 * k + 1 : Nat) : Int) := by rw [wr32_i2 (by omega) (by omega)]; omega
  have s2 : wr32 (((4 * k : Nat) : Int) + 2) = ((4 * k + 2 : Nat) : Int) := by rw [wr32_i2 (by omega) (by omega)]; omega
  have s3 : wr32 (((4 * k : Nat) : Int) + 3) = ((4 * k + 3 : Nat) : Int) := by rw [wr32_i2 (by omega) (by omega)]; omega
  simp only [zl_e]
  rw [if_neg (show ¬ (k : Int) < 0 by omega), if_pos (show (k : Int) < 8 by omega), s0, s1, s2, s3]
  refine par_zg (fun _ => par_zw' (fun I1 e1 => par_zg (fun _ => par_zw' (fun I2 e2 => par_zg (fun _ => par_zw' (fun I3 e3 => par_zg (fun _ => par_zw' (fun I4 e4 => par_zr (fun q j => ?_))))))))
  rw [e4, e3, e2, e1]
  rfl
theorem pj_comer (a1 a2 a3 a4 a5 : Int) (h : RJ I J) : pq (f_S_comer fu 0 a1 a2 a3 a4 a5 I) (f_X_comer fu 0 a1 a2 a3 a4 a5 J) EQJ := by
  unfold f_S_comer f_X_comer
  rw [ev_isIn, zb_zr, ev_canBe, zb_zr]
  by_cases h1 : 0 ≤ a1 ∧ a1 ≤ 7
  · rw [if_neg (show ¬ a1 < 0 by omega), if_pos (show a1 < 8 by omega), if_pos h1, if_neg ne10, ev_isGroup, zb_zr]
    by_cases h2 : 1 ≤ a2 ∧ a2 ≤ 8 ∧ 1 ≤ a3 ∧ a3 ≤ a2 ∧ 0 ≤ a4 ∧ a4 ≤ 3
    · rw [if_pos h2, if_neg ne10, if_neg ne10, ev_isIn, zb_zr]
      by_cases h3 : 0 ≤ a5 ∧ a5 ≤ 1000
      · rw [if_neg (show ¬ a5 < 0 by omega), if_neg (show ¬ 1000 < a5 by omega), if_pos h3, if_neg ne10]
        obtain ⟨k, rfl⟩ : ∃ k : Nat, a1 = (k : Int) := ⟨a1.toNat, by omega⟩
        have hk : k < 8 := by omega
        have s0 : wr32 (4 * (k : Int)) = ((4 * k : Nat) : Int) := by rw [wr32_i2 (by omega) (by omega)]; omega
        have r0 : wr32 (26 + ((4 * k : Nat) : Int)) = ((26 + 4 * k : Nat) : Int) := by rw [wr32_i2 (by omega) (by omega)]; omega
        have r1 : wr32 (((26 + 4 * k : Nat) : Int) + 1) = ((26 + (4 * k + 1) : Nat) : Int) := by rw [wr32_i2 (by omega) (by omega)]; omega
        have r2 : wr32 (((26 + 4 * k : Nat) : Int) + 2) = ((26 + (4 * k + 2) : Nat) : Int) := by rw [wr32_i2 (by omega) (by omega)]; omega
        have r3 : wr32 (((26 + 4 * k : Nat) : Int) + 3) = ((26 + (4 * k + 3) : Nat) : Int) := by rw [wr32_i2 (by omega) (by omega)]; omega
        simp only [zl_e]
        rw [s0, r0, r1, r2, r3]
        refine pq_gr (fun _ => pq_zwr' (fun J1 e1 => pq_gr (fun _ => pq_zwr' (fun J2 e2 => pq_gr (fun _ => pq_zwr' (fun J3 e3 => pq_gr (fun _ => pq_zwr' (fun J4 e4 => pq_l ?_))))))))
        refine par_zb (cv_tell hk) (fun _ I' g => par_zr ⟨?_, rfl⟩)
        have m : ∀ f : Nat, f < 4 → MTC 5 (4 * k + f) (26 + (4 * k + f)) := fun f hf => Or.inr (Or.inr (Or.inr (Or.inr (Or.inl ⟨rfl, by omega, rfl⟩))))
        have x1 : RJ (up I 5 (4 * k) a2) J1 := rj_cell (o := 5) (j := 4 * k) (c := 26 + 4 * k) h (m 0 (by decide)) (fun _ _ => rfl) e1
        have x2 : RJ (up (up I 5 (4 * k) a2) 5 (4 * k + 1) a3) J2 := rj_cell (o := 5) (j := 4 * k + 1) (c := 26 + (4 * k + 1)) x1 (m 1 (by decide)) (fun _ _ => rfl) e2
        have x3 : RJ (up (up (up I 5 (4 * k) a2) 5 (4 * k + 1) a3) 5 (4 * k + 2) a4) J3 := rj_cell (o := 5) (j := 4 * k + 2) (c := 26 + (4 * k + 2)) x2 (m 2 (by decide)) (fun _ _ => rfl) e3
        have x4 : RJ (up (up (up (up I 5 (4 * k) a2) 5 (4 * k + 1) a3) 5 (4 * k + 2) a4) 5 (4 * k + 3) a5) J4 := rj_cell (o := 5) (j := 4 * k + 3) (c := 26 + (4 * k + 3)) x3 (m 3 (by decide)) (fun _ _ => rfl) e4
        have e : I' = up (up (up (up I 5 (4 * k) a2) 5 (4 * k + 1) a3) 5 (4 * k + 2) a4) 5 (4 * k + 3) a5 := funext fun q => funext fun j => g q j
        rw [e]; exact x4
      · rw [if_neg h3, if_pos eq00, out2 (a := a5 < 0) (b := 1000 < a5) (by omega)]
        exact pq_end ⟨h, rfl⟩
    · rw [if_neg h2, if_pos eq00, if_pos eq00]
      exact pq_end ⟨h, rfl⟩
  · rw [if_neg h1, if_pos eq00]
    by_cases h3 : a1 < 0
    · rw [if_pos h3]; exact pq_end ⟨h, rfl⟩
    · rw [if_neg h3, if_neg (show ¬ a1 < 8 by omega)]; exact pq_end ⟨h, rfl⟩
/-- the heap's first n, and without a -/
def hpS (J : IMem) : Nat → Int
  | 0 => 0
  | n + 1 => hpS J n + J 1 (60 + (n + 1))
def hpX (J : IMem) (a : Nat) : Nat → Int
  | 0 => 0
  | n + 1 => hpX J a n + if n + 1 = a then 0 else J 1 (60 + (n + 1))
theorem hpX_e (a : Nat) (ha : 1 ≤ a) : ∀ n : Nat, hpX J a n = hpS J n - if a ≤ n then J 1 (60 + a) else 0 := by
  intro n
  induction n with
  | zero => rw [if_neg (show ¬ a ≤ 0 by omega)]; rfl
  | succ n ih =>
    show hpX J a n + (if n + 1 = a then 0 else J 1 (60 + (n + 1))) = hpS J n + J 1 (60 + (n + 1)) - _
    rw [ih]
    by_cases q : n + 1 = a
    · rw [if_pos q, if_neg (show ¬ a ≤ n by omega), if_pos (show a ≤ n + 1 by omega), ← q]; omega
    · rw [if_neg q]
      by_cases q2 : a ≤ n
      · rw [if_pos q2, if_pos (show a ≤ n + 1 by omega)]; omega
      · rw [if_neg q2, if_neg (show ¬ a ≤ n + 1 by omega)]; omega
theorem hp_b (hh : ∀ s : Nat, 1 ≤ s → s ≤ 8 → 0 ≤ J 1 (60 + s) ∧ J 1 (60 + s) ≤ 12) (a : Nat) : ∀ n : Nat, n ≤ 8 → (0 ≤ hpS J n ∧ hpS J n ≤ 12 * (n : Int)) ∧ (0 ≤ hpX J a n ∧ hpX J a n ≤ 12 * (n : Int)) := by
  intro n
  induction n with
  | zero => intro _; exact ⟨⟨Int.le_refl _, Int.le_refl _⟩, ⟨Int.le_refl _, Int.le_refl _⟩⟩
  | succ n ih =>
    intro hn
    obtain ⟨⟨i1, i2⟩, i3, i4⟩ := ih (by omega)
    obtain ⟨z1, z2⟩ := hh (n + 1) (by omega) hn
    have e : hpS J (n + 1) = hpS J n + J 1 (60 + (n + 1)) := rfl
    have e2 : hpX J a (n + 1) = hpX J a n + if n + 1 = a then 0 else J 1 (60 + (n + 1)) := rfl
    refine ⟨by omega, ?_⟩
    rw [e2]
    by_cases q : n + 1 = a
    · rw [if_pos q]; omega
    · rw [if_neg q]; omega
theorem cv_heap {Q : Int → IMem → Prop} (kk : Int → IMem → Res) (p1 p2 : Int) (x : Int) (hx : -1000 ≤ x ∧ x ≤ 1000) (hI : ∀ s : Nat, 1 ≤ s → s ≤ 8 → I 6 s = J 1 (60 + s)) (hh : ∀ s : Nat, 1 ≤ s → s ≤ 8 → 0 ≤ J 1 (60 + s) ∧ J 1 (60 + s) ≤ 12) (hend : par (kk (x + hpS J 8) I) Q) : ∀ (m n : Nat), n ≤ 8 → par (f_S_heap_38 fu kk 0 p1 p2 m (x + hpS J n) ((n + 1 : Nat) : Int) I) Q := by
  intro m
  induction m with
  | zero => intro _ _; exact par_none
  | succ m ih =>
    intro n hn
    show par (fb_S_heap_38 fu kk 0 p1 p2 (f_S_heap_38 fu kk 0 p1 p2 m) (x + hpS J n) ((n + 1 : Nat) : Int) I) _
    unfold fb_S_heap_38
    by_cases q : n < 8
    · rw [if_pos (show ((n + 1 : Nat) : Int) < 9 by omega)]
      refine par_zg (fun _ => ?_)
      obtain ⟨⟨b1, b2⟩, _⟩ := hp_b hh 0 n hn
      obtain ⟨z1, z2⟩ := hh (n + 1) (by omega) q
      simp only [zl_e]
      rw [show I (0 + 6) ((n + 1 : Nat) : Int).toNat = J 1 (60 + (n + 1)) from hI (n + 1) (by omega) q, w_nx (n + 1) (by omega), wr32_i2 (x := x + hpS J n + J 1 (60 + (n + 1))) (by omega) (by omega), show x + hpS J n + J 1 (60 + (n + 1)) = x + hpS J (n + 1) from Int.add_assoc _ _ _]
      exact ih (n + 1) q
    · rw [if_neg (show ¬ ((n + 1 : Nat) : Int) < 9 by omega)]
      have : n = 8 := by omega
      subst this
      exact hend
theorem xv_heap {Q : Int → IMem → Prop} (kk : Int → IMem → Res) (a : Nat) (p2 : Int) (x : Int) (hx : -1000 ≤ x ∧ x ≤ 1000) (hh : ∀ s : Nat, 1 ≤ s → s ≤ 8 → 0 ≤ J 1 (60 + s) ∧ J 1 (60 + s) ≤ 12) (hend : par (kk (x + hpX J a 8) J) Q) : ∀ (m n : Nat), n ≤ 8 → par (f_X_heap_27 fu kk 0 (a : Int) p2 m (x + hpX J a n) ((n + 1 : Nat) : Int) J) Q := by
  intro m
  induction m with
  | zero => intro _ _; exact par_none
  | succ m ih =>
    intro n hn
    show par (fb_X_heap_27 fu kk 0 (a : Int) p2 (f_X_heap_27 fu kk 0 (a : Int) p2 m) (x + hpX J a n) ((n + 1 : Nat) : Int) J) _
    unfold fb_X_heap_27
    by_cases q : n < 8
    · rw [if_neg (show ¬ 8 < ((n + 1 : Nat) : Int) by omega)]
      obtain ⟨_, b1, b2⟩ := hp_b hh a n hn
      obtain ⟨z1, z2⟩ := hh (n + 1) (by omega) q
      have e2 : hpX J a (n + 1) = hpX J a n + if n + 1 = a then 0 else J 1 (60 + (n + 1)) := rfl
      simp only [zl_e, zj_e]
      rw [w_nx (n + 1) (by omega)]
      by_cases q2 : n + 1 = a
      · rw [if_pos (show ((n + 1 : Nat) : Int) = (a : Int) by omega), wr32_i2 (x := x + hpX J a n + 0) (by omega) (by omega)]
        rw [if_pos q2] at e2
        rw [show x + hpX J a n + 0 = x + hpX J a (n + 1) by omega]
        exact ih (n + 1) q
      · rw [if_neg (show ¬ ((n + 1 : Nat) : Int) = (a : Int) by omega)]
        rw [if_neg q2] at e2
        rw [show wr32 (60 + ((n + 1 : Nat) : Int)) = ((60 + (n + 1) : Nat) : Int) by rw [wr32_i2 (by omega) (by omega)]; omega]
        refine par_zg (fun _ => ?_)
        rw [show J (0 + 1) ((60 + (n + 1) : Nat) : Int).toNat = J 1 (60 + (n + 1)) from rfl, wr32_i2 (x := x + hpX J a n + J 1 (60 + (n + 1))) (by omega) (by omega), show x + hpX J a n + J 1 (60 + (n + 1)) = x + hpX J a (n + 1) by omega]
        exact ih (n + 1) q
    · rw [if_pos (show 8 < ((n + 1 : Nat) : Int) by omega)]
      have : n = 8 := by omega
      subst this
      exact hend
theorem pj_heap (a b : Int) (h : RJ I J) (hg : GX 0 J) : pq (f_S_heap fu 0 a b I) (f_X_heap fu 0 a b J) EQJ := by
  have hS : HS 1 1 I J := h.1.1.1
  have hh : ∀ s : Nat, 1 ≤ s → s ≤ 8 → 0 ≤ J 1 (60 + s) ∧ J 1 (60 + s) ≤ 12 := by
    have w := hg.2.1.2.2.2.2.1
    obtain ⟨w1, w2⟩ := w
    unfold hsum at w2
    have y : ∀ k : Nat, 1 ≤ k → k ≤ 8 → 0 ≤ J 1 (60 + k) := w1
    have y1 : 0 ≤ J 1 61 := y 1 (by decide) (by decide)
    have y2 : 0 ≤ J 1 62 := y 2 (by decide) (by decide)
    have y3 : 0 ≤ J 1 63 := y 3 (by decide) (by decide)
    have y4 : 0 ≤ J 1 64 := y 4 (by decide) (by decide)
    have y5 : 0 ≤ J 1 65 := y 5 (by decide) (by decide)
    have y6 : 0 ≤ J 1 66 := y 6 (by decide) (by decide)
    have y7 : 0 ≤ J 1 67 := y 7 (by decide) (by decide)
    have y8 : 0 ≤ J 1 68 := y 8 (by decide) (by decide)
    have w3 : J 1 61 + J 1 62 + J 1 63 + J 1 64 + J 1 65 + J 1 66 + J 1 67 + J 1 68 ≤ 12 := w2
    intro s s1 s2
    rcases (show s = 1 ∨ s = 2 ∨ s = 3 ∨ s = 4 ∨ s = 5 ∨ s = 6 ∨ s = 7 ∨ s = 8 by omega) with e | e | e | e | e | e | e | e <;> subst e <;> constructor
    · exact y1
    · show J 1 61 ≤ 12; omega
    · exact y2
    · show J 1 62 ≤ 12; omega
    · exact y3
    · show J 1 63 ≤ 12; omega
    · exact y4
    · show J 1 64 ≤ 12; omega
    · exact y5
    · show J 1 65 ≤ 12; omega
    · exact y6
    · show J 1 66 ≤ 12; omega
    · exact y7
    · show J 1 67 ≤ 12; omega
    · exact y8
    · show J 1 68 ≤ 12; omega
  have hI : ∀ s : Nat, 1 ≤ s → s ≤ 8 → I 6 s = J 1 (60 + s) := fun s s1 s2 => hS.2.2.2.2.2.2 s s1 s2
  unfold f_S_heap f_X_heap
  rw [ev_isIn, zb_zr]
  by_cases h1 : 1 ≤ a ∧ a ≤ 8
  · rw [if_neg (show ¬ a < 1 by omega), if_neg (show ¬ 8 < a by omega), if_pos h1, if_neg ne10, ev_isIn, zb_zr]
    by_cases h2 : 0 ≤ b ∧ b ≤ 9
    · rw [if_neg (show ¬ b < 0 by omega), if_neg (show ¬ 9 < b by omega), if_pos h2, if_neg ne10]
      obtain ⟨k, rfl⟩ : ∃ k : Nat, a = (k : Int) := ⟨a.toNat, by omega⟩
      have hk := hh k (by omega) (by omega)
      simp only [zl_e]
      refine pq_gl (fun _ => ?_)
      rw [show I (0 + 6) ((k : Nat) : Int).toNat = J 1 (60 + k) from hI k (by omega) (by omega), wr32_i2 (x := b - J 1 (60 + k)) (by omega) (by omega)]
      have e8 := hpX_e (J := J) k (by omega) 8
      rw [if_pos (show k ≤ 8 by omega)] at e8
      have w60 : wr32 (60 + (k : Int)) = ((60 + k : Nat) : Int) := by rw [wr32_i2 (by omega) (by omega)]; omega
      have fin : pq (if 12 < b + hpX J k 8 then zr 0 I else zg (0 ≤ (k : Int) ∧ (k : Int) < 9) (zw I (0 + 6) ((k : Nat) : Int).toNat b fun I6 => zr 1 I6)) (if 12 < b + hpX J k 8 then zr 0 J else zg (0 ≤ ((60 + k : Nat) : Int) ∧ ((60 + k : Nat) : Int) < 6190) (zw J (0 + 1) ((60 + k : Nat) : Int).toNat b fun I15 => zr 1 I15)) EQJ := by
        refine pq_ii Iff.rfl (fun _ _ => pq_end ⟨h, rfl⟩) (fun _ _ => pq_gl (fun _ => pq_zwl' (fun I1 e1 => pq_gr (fun _ => pq_zwr' (fun J1 e2 => pq_end ⟨?_, rfl⟩)))))
        exact rj_cell (o := 6) (j := k) (c := 60 + k) h (Or.inr (Or.inr (Or.inr (Or.inr (Or.inr ⟨rfl, by omega, by omega, rfl⟩))))) e1 e2
      intro x I' y J' q1 q2
      have p2 := xv_heap (fu := fu) (J := J) (Q := fun y J' => (if 12 < b + hpX J k 8 then zr 0 J else zg (0 ≤ ((60 + k : Nat) : Int) ∧ ((60 + k : Nat) : Int) < 6190) (zw J (0 + 1) ((60 + k : Nat) : Int).toNat b fun I15 => zr 1 I15)) = some (y, J')) (fun (x14 : Int) (I13 : IMem) => if 12 < x14 then zr 0 I13 else zg (0 ≤ wr32 (60 + (k : Int)) ∧ wr32 (60 + (k : Int)) < 6190) (zw I13 (0 + 1) (wr32 (60 + (k : Int))).toNat b fun I15 => zr 1 I15)) k b b (by omega) hh (fun y J' e => by rw [w60] at e; exact e) fu 0 (by decide)
      have p1 := cv_heap (fu := fu) (I := I) (J := J) (Q := fun x I' => (if 12 < b + hpX J k 8 then zr 0 I else zg (0 ≤ (k : Int) ∧ (k : Int) < 9) (zw I (0 + 6) ((k : Nat) : Int).toNat b fun I6 => zr 1 I6)) = some (x, I')) (fun (x5 : Int) (I4 : IMem) => if 12 < x5 then zr 0 I4 else zg (0 ≤ (k : Int) ∧ (k : Int) < 9) (zw I4 (0 + 6) ((k : Nat) : Int).toNat b fun I6 => zr 1 I6)) k b (b - J 1 (60 + k)) (by omega) hI hh (fun x I' e => by rw [show b - J 1 (60 + k) + hpS J 8 = b + hpX J k 8 by omega] at e; exact e) fu 0 (by decide)
      rw [show b + hpX J k 0 = b from Int.add_zero b] at p2
      rw [show b - J 1 (60 + k) + hpS J 0 = b - J 1 (60 + k) from Int.add_zero _] at p1
      exact fin x I' y J' (p1 x I' q1) (p2 y J' q2)
    · rw [if_neg h2, if_pos eq00, out2 (a := b < 0) (b := 9 < b) (by omega)]
      exact pq_end ⟨h, rfl⟩
  · rw [if_neg h1, if_pos eq00, out2 (a := a < 1) (b := 8 < a) (by omega)]
    exact pq_end ⟨h, rfl⟩
end
/-! who comes, is picked, is sent: both sides -/
section
variable {fu : Nat} {I J : IMem}
theorem xv_rows {hb : Nat} {size says sort : Int} (h : HX hb I J) : par (f_X_comes fu 0 size says sort J) (fun _ J' => ∀ k, INL J k → INL J' k ∧ ∀ f, f < 6 → J' 1 (140 + 6 * k + f) = J 1 (140 + 6 * k + f)) := by
  obtain ⟨⟨hS, hY, hP, hL, hW⟩, hz, hA⟩ := h
  obtain ⟨law, lc, lx, lo⟩ := hW 4 (by decide)
  have hcJ : ∀ l, l < 6 → J 1 (130 + l) = I (hb + 8) l := fun l hl => (hl_c hL hl).1.symm
  unfold f_X_comes
  refine par_zb (xv_lineFor hcJ lo lx) (fun y1 J1 ⟨gy, gJ⟩ => ?_)
  have rng := lf_rng (z := J 0 22) (says := says) (sort := sort) (c := I (hb + 8)) (law := law) lo.2.2.2
  rw [← gy] at rng
  obtain ⟨l, hl, rfl⟩ : ∃ l : Nat, l < 6 ∧ y1 = (l : Int) := ⟨y1.toNat, by omega, by omega⟩
  obtain ⟨_, b2, b3⟩ := hl_c hL hl
  refine par_zw' (fun J2 e2 => ?_)
  have k2 : ∀ j, j ≠ 7 → J2 1 j = J 1 j := fun j h3 => by rw [e2, if_neg (by omega)]; exact gJ 1 j (by decide) (by decide)
  have jc : J2 1 (130 + l) = J 1 (130 + l) := k2 _ (by omega)
  refine par_zb (xv_stands (fu := fu) hl (by omega)) (fun y3 J3 hy => ?_)
  have fin : ∀ k, INL J k → INL J3 k ∧ ∀ f, f < 6 → J3 1 (140 + 6 * k + f) = J 1 (140 + 6 * k + f) := by
    intro k ⟨k1, k3⟩
    rcases hy with ⟨_, _, y2f, _, _⟩ | ⟨_, y2c, y2e⟩
    · refine ⟨⟨k1, ?_⟩, fun f hf => ?_⟩
      · rw [y2f _ _ (by omega) (by omega), k2 _ (by omega)]; exact k3
      · rw [y2f _ _ (by omega) (by omega), k2 _ (by omega)]
    · rw [jc] at y2e y2c
      refine ⟨⟨k1, ?_⟩, fun f hf => ?_⟩
      · rw [y2e]
        by_cases q : k / 40 = l
        · rw [if_pos ⟨rfl, by omega⟩]
          rw [q] at k3
          omega
        · rw [if_neg (by omega), if_neg (by omega), k2 _ (by omega)]; exact k3
      · have nk : k ≠ 40 * l + (J 1 (130 + l)).toNat := by
          intro q
          have q2 : k / 40 = l := by omega
          rw [q2] at k3
          omega
        rw [y2e, if_neg (by omega), if_neg (by omega), k2 _ (by omega)]
  exact par_ite (fun _ => par_zr fin) (fun _ => par_zr fin)
theorem come3 {size says sort : Int} (h : RJ I J) (hg : RG J) : pq (f_H_enter fu (0 + 1) size says sort I) (f_X_comes fu 0 size says sort J) EQJ := by
  intro x I' y J' e1 e2
  obtain ⟨exy, hX⟩ := enter2 h.1 hg x I' y J' e1 e2
  have rows := xv_rows (fu := fu) h.1 y J' e2
  have fI : ∀ q j, ¬ (q = 1 ∨ q = 8 ∨ q = 9 ∨ q = 11 ∨ q = 14 ∨ q = 15 ∨ q = 40) → I' q j = I q j := fun q j hq => congrFun (fr_H_enter (fun q => q = 1 ∨ q = 8 ∨ q = 9 ∨ q = 11 ∨ q = 14 ∨ q = 15 ∨ q = 40) fu (0 + 1) size says sort I (by omega) (by omega) (by omega) (by omega) (by omega) (by omega) (by omega) e1 q hq) j
  have fJ : ∀ q j, ¬ (q = 1 ∨ q = 7 ∨ q = 8 ∨ (q = 0 ∧ j = 24)) → J' q j = J q j := fc_X_comes (fun q j => q = 1 ∨ q = 7 ∨ q = 8 ∨ (q = 0 ∧ j = 24)) fu 0 size says sort J (fun _ => by omega) (fun _ => by omega) (by omega) (by omega) (by omega) (by omega) (by omega) e2
  have e11 : J' 1 1 = J 1 1 := by
    have a := hX.1.1.1 0 (by decide)
    have b := h.1.1.1.1 0 (by decide)
    have c : I' 2 0 = I 2 0 := fI 2 0 (by omega)
    have a' : I' 2 0 = J' 1 1 := a
    have b' : I 2 0 = J 1 1 := b
    rw [← a', ← b', c]
  have h' := h
  obtain ⟨_, a2, _, _, _, e, ⟨L, t1, t2, t3, t4⟩, f⟩ := h'
  refine ⟨?_, exy⟩
  have z11 : I' 1 11 = I 1 11 := by
    rw [hX.2.1, fJ 0 22 (by omega)]
    exact h.1.2.1.symm
  refine rj_mv h hX z11 (fun q j hq => fI _ _ (by omega)) (fun q j hq => fJ _ _ (by omega)) (pk_mv e (fun q j hq => fI _ _ (by omega)) (fun q j hq => ?_) (fun k hk => ?_)) ⟨L, t1, ?_, ?_, fun i hi => ?_⟩ ⟨?_, ?_⟩
  · by_cases q1 : q = 1
    · rw [q1, show j = 1 by omega]; exact e11
    · exact fJ _ _ (by omega)
  · obtain ⟨r1, r2⟩ := rows k hk
    exact ⟨r1, (congrArg (J' 1) (show 141 + 6 * k = 140 + 6 * k + 1 by omega)).trans ((r2 1 (by decide)).trans (congrArg (J 1) (show 140 + 6 * k + 1 = 141 + 6 * k by omega))), r2 3 (by decide)⟩
  · rw [fI _ _ (by omega)]; exact t2
  · rw [fJ _ _ (by omega)]; exact t3
  · rw [fI _ _ (by omega), fJ _ _ (by omega)]; exact t4 i hi
  · rw [fI _ _ (by omega), fJ _ _ (by omega)]; exact f.1
  · rw [fI _ _ (by omega), fJ _ _ (by omega)]; exact f.2
theorem pj_come (a b c : Int) (h : RJ I J) (hg : RG J) : pq (f_S_come fu 0 a b c I) (f_X_come fu 0 a b c J) EQJ := by
  unfold f_S_come f_X_come
  rw [ev_canBe, ev_isGroup, zb_zr, zb_zr]
  by_cases h1 : 1 ≤ a ∧ a ≤ 8 ∧ 1 ≤ b ∧ b ≤ a ∧ 0 ≤ c ∧ c ≤ 3
  · rw [if_pos h1, if_neg ne10, if_neg ne10]
    exact pq_b (come3 h hg) (fun x I1 y J1 _ _ g => pq_end g)
  · rw [if_neg h1, if_pos eq00, if_pos eq00]
    exact pq_end ⟨h, rfl⟩
/-! picking -/
theorem p_mark {J J' : IMem} {k : Nat} (h0 : J 13 k = 0) (h1 : ∀ i, J' 13 i = if i = k then 1 else J 13 i) (h2 : ∀ j, J' 1 j = J 1 j) : ∀ n : Nat, pS J' n = pS J n + (if k < n then J 1 (141 + 6 * k) else 0) ∧ pD J' n = pD J n + (if k < n then (if J 1 (140 + 6 * k + 3) = 2 then 1 else 0) else 0) ∧ pC J' n = pC J n + (if k < n then (if J 1 (140 + 6 * k + 3) = 1 then 0 else 1) else 0) := by
  intro n
  induction n with
  | zero =>
    rw [if_neg (show ¬ k < 0 by omega), if_neg (show ¬ k < 0 by omega), if_neg (show ¬ k < 0 by omega)]
    exact ⟨rfl, rfl, rfl⟩
  | succ n ih =>
    obtain ⟨i1, i2, i3⟩ := ih
    have s1 : pS J' (n + 1) = pS J' n + (if J' 13 n = 0 then 0 else J' 1 (141 + 6 * n)) := rfl
    have s2 : pD J' (n + 1) = pD J' n + (if J' 13 n = 0 then 0 else if J' 1 (140 + 6 * n + 3) = 2 then 1 else 0) := rfl
    have s3 : pC J' (n + 1) = pC J' n + (if J' 13 n = 0 then 0 else if J' 1 (140 + 6 * n + 3) = 1 then 0 else 1) := rfl
    have t1 : pS J (n + 1) = pS J n + (if J 13 n = 0 then 0 else J 1 (141 + 6 * n)) := rfl
    have t2 : pD J (n + 1) = pD J n + (if J 13 n = 0 then 0 else if J 1 (140 + 6 * n + 3) = 2 then 1 else 0) := rfl
    have t3 : pC J (n + 1) = pC J n + (if J 13 n = 0 then 0 else if J 1 (140 + 6 * n + 3) = 1 then 0 else 1) := rfl
    rw [s1, s2, s3, t1, t2, t3, i1, i2, i3, h1, h2, h2]
    by_cases q : n = k
    · subst q
      rw [if_pos rfl, if_neg ne10, if_neg ne10, if_neg ne10, h0, if_pos eq00, if_pos eq00, if_pos eq00, if_neg (show ¬ n < n by omega), if_neg (show ¬ n < n by omega), if_neg (show ¬ n < n by omega), if_pos (show n < n + 1 by omega), if_pos (show n < n + 1 by omega), if_pos (show n < n + 1 by omega)]
      refine ⟨?_, ?_, ?_⟩ <;> omega
    · rw [if_neg q]
      by_cases q2 : k < n
      · rw [if_pos q2, if_pos q2, if_pos q2, if_pos (show k < n + 1 by omega), if_pos (show k < n + 1 by omega), if_pos (show k < n + 1 by omega)]
        refine ⟨?_, ?_, ?_⟩ <;> omega
      · rw [if_neg q2, if_neg q2, if_neg q2, if_neg (show ¬ k < n + 1 by omega), if_neg (show ¬ k < n + 1 by omega), if_neg (show ¬ k < n + 1 by omega)]
        refine ⟨?_, ?_, ?_⟩ <;> omega
theorem p_bnd {J : IMem} (hb : ∀ k, k < 240 → J 13 k ≠ 0 → 1 ≤ J 1 (141 + 6 * k) ∧ J 1 (141 + 6 * k) ≤ 8) : ∀ n : Nat, n ≤ 240 → (0 ≤ pS J n ∧ pS J n ≤ 8 * (n : Int)) ∧ (0 ≤ pD J n ∧ pD J n ≤ (n : Int)) ∧ (0 ≤ pC J n ∧ pC J n ≤ (n : Int)) := by
  intro n
  induction n with
  | zero => intro _; exact ⟨⟨Int.le_refl _, Int.le_refl _⟩, ⟨Int.le_refl _, Int.le_refl _⟩, ⟨Int.le_refl _, Int.le_refl _⟩⟩
  | succ n ih =>
    intro hn
    obtain ⟨⟨i1, i2⟩, ⟨i3, i4⟩, i5, i6⟩ := ih (by omega)
    have t1 : pS J (n + 1) = pS J n + (if J 13 n = 0 then 0 else J 1 (141 + 6 * n)) := rfl
    have t2 : pD J (n + 1) = pD J n + (if J 13 n = 0 then 0 else if J 1 (140 + 6 * n + 3) = 2 then 1 else 0) := rfl
    have t3 : pC J (n + 1) = pC J n + (if J 13 n = 0 then 0 else if J 1 (140 + 6 * n + 3) = 1 then 0 else 1) := rfl
    rw [t1, t2, t3]
    by_cases q : J 13 n = 0
    · rw [if_pos q, if_pos q, if_pos q]; refine ⟨⟨?_, ?_⟩, ⟨?_, ?_⟩, ?_, ?_⟩ <;> omega
    · obtain ⟨z1, z2⟩ := hb n (by omega) q
      rw [if_neg q, if_neg q, if_neg q]
      by_cases q2 : J 1 (140 + 6 * n + 3) = 2
      · rw [if_pos q2, if_neg (show ¬ J 1 (140 + 6 * n + 3) = 1 by omega)]
        refine ⟨⟨?_, ?_⟩, ⟨?_, ?_⟩, ?_, ?_⟩ <;> omega
      · rw [if_neg q2]
        by_cases q3 : J 1 (140 + 6 * n + 3) = 1
        · rw [if_pos q3]; refine ⟨⟨?_, ?_⟩, ⟨?_, ?_⟩, ?_, ?_⟩ <;> omega
        · rw [if_neg q3]; refine ⟨⟨?_, ?_⟩, ⟨?_, ?_⟩, ?_, ?_⟩ <;> omega
theorem xv_pick74 {Q : Int → IMem → Prop} (kk : Int → Int → Int → IMem → Res) (p1 p2 : Int) (c : Int) (hc : 0 ≤ c ∧ c ≤ 8) (hb : ∀ k, k < 240 → J 13 k ≠ 0 → 1 ≤ J 1 (141 + 6 * k) ∧ J 1 (141 + 6 * k) ≤ 8) (hend : par (kk (c - pS J 240) (pD J 240) (pC J 240) J) Q) : ∀ (m n : Nat), n ≤ 240 → par (f_X_pick_74 fu kk 0 p1 p2 m (c - pS J n) (pD J n) (pC J n) (n : Int) J) Q := by
  intro m
  induction m with
  | zero => intro _ _; exact par_none
  | succ m ih =>
    intro n hn
    show par (fb_X_pick_74 fu kk 0 p1 p2 (f_X_pick_74 fu kk 0 p1 p2 m) (c - pS J n) (pD J n) (pC J n) (n : Int) J) _
    unfold fb_X_pick_74
    by_cases q : n < 240
    · rw [if_pos (show (n : Int) < 240 by omega)]
      refine par_zg (fun _ => ?_)
      simp only [zl_e, zj_e]
      obtain ⟨⟨b1, b2⟩, ⟨b3, b4⟩, b5, b6⟩ := p_bnd hb n hn
      have t1 : pS J (n + 1) = pS J n + (if J 13 n = 0 then 0 else J 1 (141 + 6 * n)) := rfl
      have t2 : pD J (n + 1) = pD J n + (if J 13 n = 0 then 0 else if J 1 (140 + 6 * n + 3) = 2 then 1 else 0) := rfl
      have t3 : pC J (n + 1) = pC J n + (if J 13 n = 0 then 0 else if J 1 (140 + 6 * n + 3) = 1 then 0 else 1) := rfl
      have i1 := ih (n + 1) q
      rw [w_nx n (by omega), show J (0 + 13) ((n : Nat) : Int).toNat = J 13 n from rfl]
      by_cases z : J 13 n = 0
      · rw [if_pos z]
        rw [if_pos z] at t1 t2 t3
        rw [show c - pS J n = c - pS J (n + 1) by omega, show pD J n = pD J (n + 1) by omega, show pC J n = pC J (n + 1) by omega]
        exact i1
      · rw [if_neg z]
        rw [if_neg z] at t1 t2 t3
        obtain ⟨z1, z2⟩ := hb n q z
        have u0 : wr32 (6 * (n : Int)) = ((6 * n : Nat) : Int) := by rw [wr32_i2 (by omega) (by omega)]; omega
        have u1 : wr32 (140 + ((6 * n : Nat) : Int)) = ((140 + 6 * n : Nat) : Int) := by rw [wr32_i2 (by omega) (by omega)]; omega
        have u2 : wr32 (((140 + 6 * n : Nat) : Int) + 1) = ((141 + 6 * n : Nat) : Int) := by rw [wr32_i2 (by omega) (by omega)]; omega
        have u3 : wr32 (((140 + 6 * n : Nat) : Int) + 3) = ((140 + 6 * n + 3 : Nat) : Int) := by rw [wr32_i2 (by omega) (by omega)]; omega
        rw [u0, u1, u2, u3]
        refine par_zg (fun _ => par_zg (fun _ => ?_))
        rw [show J (0 + 1) ((141 + 6 * n : Nat) : Int).toNat = J 1 (141 + 6 * n) from rfl, show J (0 + 1) ((140 + 6 * n + 3 : Nat) : Int).toNat = J 1 (140 + 6 * n + 3) from rfl]
        rw [wr32_i2 (x := c - pS J n - J 1 (141 + 6 * n)) (by omega) (by omega), wr32_i2 (x := pD J n + 1) (by omega) (by omega), wr32_i2 (x := pD J n + 0) (by omega) (by omega), wr32_i2 (x := pC J n + 1) (by omega) (by omega), wr32_i2 (x := pC J n + 0) (by omega) (by omega)]
        by_cases q2 : J 1 (140 + 6 * n + 3) = 2
        · rw [if_pos q2] at t2
          rw [if_neg (show ¬ J 1 (140 + 6 * n + 3) = 1 by omega)] at t3
          rw [if_pos q2]
          refine par_zg (fun _ => ?_)
          rw [if_neg (show ¬ J 1 (140 + 6 * n + 3) = 1 by omega), show c - pS J n - J 1 (141 + 6 * n) = c - pS J (n + 1) by omega, show pD J n + 1 = pD J (n + 1) by omega, show pC J n + 1 = pC J (n + 1) by omega]
          exact i1
        · rw [if_neg q2] at t2
          rw [if_neg q2]
          refine par_zg (fun _ => ?_)
          by_cases q3 : J 1 (140 + 6 * n + 3) = 1
          · rw [if_pos q3] at t3
            rw [if_pos q3, show c - pS J n - J 1 (141 + 6 * n) = c - pS J (n + 1) by omega, show pD J n + 0 = pD J (n + 1) by omega, show pC J n + 0 = pC J (n + 1) by omega]
            exact i1
          · rw [if_neg q3] at t3
            rw [if_neg q3, show c - pS J n - J 1 (141 + 6 * n) = c - pS J (n + 1) by omega, show pD J n + 0 = pD J (n + 1) by omega, show pC J n + 1 = pC J (n + 1) by omega]
            exact i1
    · rw [if_neg (show ¬ (n : Int) < 240 by omega)]
      have : n = 240 := by omega
      subst this
      exact hend
/-- k is picked as well -/
theorem pk_add {I J I' J' : IMem} {k n : Nat} {size sort : Int} (h : PKR I J) (hk : INL J k) (h0 : J 13 k = 0) (hn : J 0 35 = (n : Int)) (n8 : n < 8) (hsz : size = J 1 (141 + 6 * k)) (hso : sort = J 1 (140 + 6 * k + 3)) (z1 : 1 ≤ size ∧ size ≤ 8) (hfit : size ≤ I 137 7) (hI : ∀ q j, I' q j = if q = 137 ∧ j = 11 then (if I 137 11 = 0 then (if sort = 1 then 0 else 1) else 1) else if q = 137 ∧ j = 10 then (if I 137 10 = 0 then (if sort = 2 then 1 else 0) else 1) else if q = 137 ∧ j = 7 then wr32 (I 137 7 - size) else if q = 137 ∧ j = 8 then I 137 8 + 1 else if q = 140 ∧ j = n then size else if q = 139 ∧ j = n then (k : Int) else if q = 138 ∧ j = k then 1 else I q j) (hJ : ∀ q j, J' q j = if q = 0 ∧ j = 35 then (n : Int) + 1 else if q = 15 ∧ j = n then (k : Int) else if q = 13 ∧ j = k then 1 else J q j) : PKR I' J' := by
  obtain ⟨⟨a1, a2, a3, a4, a5⟩, b, c, d, e, ⟨f1, f2⟩, g, hh⟩ := h
  have j1 : ∀ j, J' 1 j = J 1 j := fun j => by rw [hJ, if_neg (by omega), if_neg (by omega), if_neg (by omega)]
  have j13 : ∀ i, J' 13 i = if i = k then 1 else J 13 i := fun i => by
    rw [hJ, if_neg (by omega), if_neg (by omega)]
    by_cases q : i = k
    · rw [if_pos ⟨rfl, q⟩, if_pos q]
    · rw [if_neg (fun z => q z.2), if_neg q]
  have j15 : ∀ i, J' 15 i = if i = n then (k : Int) else J 15 i := fun i => by
    rw [hJ, if_neg (by omega)]
    by_cases q : i = n
    · rw [if_pos ⟨rfl, q⟩, if_pos q]
    · rw [if_neg (fun z => q z.2), if_neg q, if_neg (by omega)]
  have j35 : J' 0 35 = (n : Int) + 1 := by rw [hJ, if_pos ⟨rfl, rfl⟩]
  have i7 : I' 137 7 = I 137 7 - size := by
    rw [hI, if_neg (by omega), if_neg (by omega), if_pos ⟨rfl, rfl⟩, wr32_i2 (by omega) (by omega)]
  have i8 : I' 137 8 = I 137 8 + 1 := by rw [hI, if_neg (by omega), if_neg (by omega), if_neg (by omega), if_pos ⟨rfl, rfl⟩]
  have i9 : I' 137 9 = I 137 9 := by rw [hI, if_neg (by omega), if_neg (by omega), if_neg (by omega), if_neg (by omega), if_neg (by omega), if_neg (by omega), if_neg (by omega)]
  have i10 : I' 137 10 = if I 137 10 = 0 then (if sort = 2 then 1 else 0) else 1 := by rw [hI, if_neg (by omega), if_pos ⟨rfl, rfl⟩]
  have i11 : I' 137 11 = if I 137 11 = 0 then (if sort = 1 then 0 else 1) else 1 := by rw [hI, if_pos ⟨rfl, rfl⟩]
  have i138 : ∀ i, I' 138 i = if i = k then 1 else I 138 i := fun i => by
    rw [hI, if_neg (by omega), if_neg (by omega), if_neg (by omega), if_neg (by omega), if_neg (by omega), if_neg (by omega)]
    by_cases q : i = k
    · rw [if_pos ⟨rfl, q⟩, if_pos q]
    · rw [if_neg (fun z => q z.2), if_neg q]
  have i139 : ∀ i, I' 139 i = if i = n then (k : Int) else I 139 i := fun i => by
    rw [hI, if_neg (by omega), if_neg (by omega), if_neg (by omega), if_neg (by omega), if_neg (by omega)]
    by_cases q : i = n
    · rw [if_pos ⟨rfl, q⟩, if_pos q]
    · rw [if_neg (fun z => q z.2), if_neg q, if_neg (by omega)]
  have i140 : ∀ i, I' 140 i = if i = n then size else I 140 i := fun i => by
    rw [hI, if_neg (by omega), if_neg (by omega), if_neg (by omega), if_neg (by omega)]
    by_cases q : i = n
    · rw [if_pos ⟨rfl, q⟩, if_pos q]
    · rw [if_neg (fun z => q z.2), if_neg q, if_neg (by omega), if_neg (by omega)]
  have inl : ∀ i, INL J i → INL J' i := fun i hi => ⟨hi.1, by rw [j1]; exact hi.2⟩
  obtain ⟨m1, m2, m3⟩ := p_mark (J' := J') h0 j13 j1 240
  rw [if_pos hk.1] at m1 m2 m3
  rw [hn] at a2 a3 a5 c d f1
  refine ⟨⟨by rw [i9]; exact a1, by rw [i8, j35, a2], by rw [j35]; omega, by rw [i7]; omega, by rw [i7, j35]; omega⟩, fun i hi => ?_, fun i hi => ?_, fun i j hi hj q => ?_, fun i hi q => ?_, ⟨?_, ?_⟩, ?_, ?_⟩
  · by_cases q : i = k
    · right
      rw [i138, if_pos q, j13, if_pos q, j1, q]
      exact ⟨rfl, rfl, inl k hk, by omega, by omega⟩
    · rw [i138, if_neg q, j13, if_neg q, j1]
      rcases b i hi with x | ⟨x1, x2, x3, x4, x5⟩
      · exact Or.inl x
      · exact Or.inr ⟨x1, x2, inl i x3, x4, x5⟩
  · rw [j35] at hi
    by_cases q : i = n
    · exact ⟨k, inl k hk, by rw [j15, if_pos q], by rw [i139, if_pos q], by rw [i140, if_pos q, j1]; exact hsz, by rw [j13, if_pos rfl]⟩
    · obtain ⟨k', x1, x2, x3, x4, x5⟩ := c i (by omega)
      refine ⟨k', inl k' x1, by rw [j15, if_neg q]; exact x2, by rw [i139, if_neg q]; exact x3, by rw [i140, if_neg q, j1]; exact x4, ?_⟩
      rw [j13]
      by_cases q2 : k' = k
      · rw [if_pos q2]
      · rw [if_neg q2]; exact x5
  · rw [j35] at hi hj
    rw [j15, j15] at q
    have old : ∀ i' : Nat, i' < n → J 15 i' ≠ (k : Int) := fun i' hi' z => by
      obtain ⟨k', x1, x2, _, _, x5⟩ := c i' (by omega)
      have : k' = k := by omega
      rw [this, h0] at x5
      exact absurd x5 (by decide)
    by_cases q1 : i = n
    · by_cases q2 : j = n
      · omega
      · rw [if_pos q1, if_neg q2] at q
        exact absurd q.symm (old j (by omega))
    · by_cases q2 : j = n
      · rw [if_neg q1, if_pos q2] at q
        exact absurd q (old i (by omega))
      · rw [if_neg q1, if_neg q2] at q
        exact d i j (by omega) (by omega) q
  · rw [j35]
    by_cases q1 : i = k
    · exact ⟨n, by omega, by rw [j15, if_pos rfl, q1]⟩
    · rw [j13, if_neg q1] at q
      obtain ⟨i', x1, x2⟩ := e i hi q
      rw [hn] at x1
      exact ⟨i', by omega, by rw [j15, if_neg (by omega)]; exact x2⟩
  · rw [j1, j35, i7, show ((n : Int) + 1).toNat = n + 1 by omega]
    rw [show ((n : Int)).toNat = n by omega] at f1
    have s1 : sm (I' 140) (n + 1) = sm (I' 140) n + I' 140 n := rfl
    rw [s1, i140 n, if_pos rfl, sm_eq (c := I 140) n (fun i hi => by rw [i140, if_neg (by omega)]), f1]
    omega
  · rw [j1, i7, m1, f2]; omega
  · rw [i10, m2, hso]
    have pd := g
    by_cases q : J 1 (140 + 6 * k + 3) = 2
    · rw [if_pos q, if_pos q]
      rcases pd with ⟨x1, x2⟩ | ⟨x1, x2⟩
      · rw [x1, if_pos eq00]; right; exact ⟨rfl, by omega⟩
      · rw [x1, if_neg ne10]; right; exact ⟨rfl, by omega⟩
    · rw [if_neg q, if_neg q]
      rcases pd with ⟨x1, x2⟩ | ⟨x1, x2⟩
      · rw [x1, if_pos eq00]; left; exact ⟨rfl, by omega⟩
      · rw [x1, if_neg ne10]; right; exact ⟨rfl, by omega⟩
  · rw [i11, m3, hso]
    by_cases q : J 1 (140 + 6 * k + 3) = 1
    · rw [if_pos q, if_pos q]
      rcases hh with ⟨x1, x2⟩ | ⟨x1, x2⟩
      · rw [x1, if_pos eq00]; left; exact ⟨rfl, by omega⟩
      · rw [x1, if_neg ne10]; right; exact ⟨rfl, by omega⟩
    · rw [if_neg q, if_neg q]
      rcases hh with ⟨x1, x2⟩ | ⟨x1, x2⟩
      · rw [x1, if_pos eq00]; right; exact ⟨rfl, by omega⟩
      · rw [x1, if_neg ne10]; right; exact ⟨rfl, by omega⟩
end
/-! the pick's judge, sending, chairs, runs: both sides -/
theorem pq_par {Q : Int → IMem → Int → IMem → Prop} {m1 m2 m3 : Res} (h : par m2 (fun y J => m3 = some (y, J))) (k : pq m1 m3 Q) : pq m1 m2 Q := fun x I y J e1 e2 => k x I y J e1 (h y J e2)
section
variable {fu : Nat} {I J : IMem}
theorem pick_fin {l p : Nat} (h : RJ I J) (hg : GX 0 J) (hl : l < 6) (hp : (p : Int) < J 1 (130 + l)) (p40 : p < 40) (z13 : J 13 (40 * l + p) = 0) (hfit : J 1 (141 + 6 * (40 * l + p)) ≤ I 137 7) : pq (zb (f_C_sit fu 137 ((40 * l + p : Nat) : Int) (J 1 (141 + 6 * (40 * l + p))) (J 1 (140 + 6 * (40 * l + p) + 3)) 1 I) fun _ I22 => zr 0 I22) (zg (0 ≤ ((40 * l + p : Nat) : Int) ∧ ((40 * l + p : Nat) : Int) < 240) (zw J (0 + 13) ((40 * l + p : Nat) : Int).toNat 1 fun I44 => zg (0 ≤ I44 0 35 ∧ I44 0 35 < 8) (zw I44 (0 + 15) (I44 0 35).toNat ((40 * l + p : Nat) : Int) fun I46 => zw I46 0 35 (wr32 (I46 0 35 + 1)) fun I48 => zr 0 I48))) EQJ := by
  have hP : PKR I J := h.2.2.2.2.2.1
  have hk : INL J (40 * l + p) := ⟨by omega, by rw [show (40 * l + p) / 40 = l by omega, show (40 * l + p) % 40 = p by omega]; exact hp⟩
  have gf := (gx_facts hg).2.2.2.2.1 _ hk
  obtain ⟨n, hn⟩ : ∃ n : Nat, J 0 35 = (n : Int) := ⟨(J 0 35).toNat, by have := hP.1.2.2.1; omega⟩
  refine pq_gr (fun _ => pq_zwr' (fun J1 e1 => ?_))
  have j1 : J1 0 35 = (n : Int) := by rw [e1, if_neg (by omega)]; exact hn
  rw [j1]
  refine pq_gr (fun hx => pq_zwr' (fun J2 e2 => ?_))
  have j2 : J2 0 35 = (n : Int) := by rw [e2, if_neg (by omega)]; exact j1
  rw [j2, wr32_i2 (x := (n : Int) + 1) (by omega) (by omega)]
  refine pq_zwr' (fun J3 e3 => ?_)
  have i8 : I 137 8 = (n : Int) := hP.1.2.1.trans hn
  refine pq_bl (cv_sit (fu := fu) 137 (40 * l + p) (J 1 (141 + 6 * (40 * l + p))) (J 1 (140 + 6 * (40 * l + p) + 3)) 1 I hk.1 (by rw [i8]; omega)) (fun _ I1 _ g => pq_end ⟨?_, rfl⟩)
  have hI : ∀ q j, I1 q j = if q = 137 ∧ j = 11 then (if I 137 11 = 0 then (if J 1 (140 + 6 * (40 * l + p) + 3) = 1 then 0 else 1) else 1) else if q = 137 ∧ j = 10 then (if I 137 10 = 0 then (if J 1 (140 + 6 * (40 * l + p) + 3) = 2 then 1 else 0) else 1) else if q = 137 ∧ j = 7 then wr32 (I 137 7 - J 1 (141 + 6 * (40 * l + p))) else if q = 137 ∧ j = 8 then I 137 8 + 1 else if q = 140 ∧ j = n then J 1 (141 + 6 * (40 * l + p)) else if q = 139 ∧ j = n then ((40 * l + p : Nat) : Int) else if q = 138 ∧ j = 40 * l + p then 1 else I q j := by
    intro q j
    rw [g q j, i8]
    rfl
  have hJ : ∀ q j, J3 q j = if q = 0 ∧ j = 35 then (n : Int) + 1 else if q = 15 ∧ j = n then ((40 * l + p : Nat) : Int) else if q = 13 ∧ j = 40 * l + p then 1 else J q j := by
    intro q j
    rw [e3, e2, e1]
    rfl
  have io : ∀ q j, q < 137 ∨ 140 < q → I1 q j = I q j := fun q j hq => by rw [hI, if_neg (by omega), if_neg (by omega), if_neg (by omega), if_neg (by omega), if_neg (by omega), if_neg (by omega), if_neg (by omega)]
  have jo : ∀ q j, q ≠ 13 → q ≠ 15 → ¬ (q = 0 ∧ j = 35) → J3 q j = J q j := fun q j a1 a2 a3 => by rw [hJ, if_neg a3, if_neg (by omega), if_neg (by omega)]
  have h' := h
  obtain ⟨⟨hR, hz, hA⟩, a, b, c, d, e, ⟨L, t1, t2, t3, t4⟩, f⟩ := h'
  refine rj_mv h ⟨hr_mv hR (fun d j q => io _ _ (by unfold CH at q; omega)) (fun j _ => jo _ _ (by omega) (by omega) (by omega)), ?_, ?_, ?_⟩ (io _ _ (by omega)) (fun q j q => io _ _ (by omega)) (fun q j q => jo _ _ (by omega) (by omega) (by omega)) (pk_add hP hk z13 hn (by omega) rfl rfl gf hfit hI hJ) ⟨L, t1, ?_, ?_, fun j hj => ?_⟩ ⟨?_, ?_⟩
  · rw [io _ _ (by omega), jo _ _ (by omega) (by omega) (by omega)]; exact hz
  · rw [io _ _ (by omega)]; exact hA.1
  · rw [io _ _ (by omega)]; exact hA.2
  · rw [io _ _ (by omega)]; exact t2
  · rw [jo _ _ (by omega) (by omega) (by omega)]; exact t3
  · rw [io _ _ (by omega), jo _ _ (by omega) (by omega) (by omega)]; exact t4 j hj
  · rw [io _ _ (by omega), jo _ _ (by omega) (by omega) (by omega)]; exact f.1
  · rw [io _ _ (by omega), jo _ _ (by omega) (by omega) (by omega)]; exact f.2
theorem ev_isSeen (o l p : Nat) (I : IMem) (hl : l < 6) (hp : (p : Int) < I (o + 2) l) : f_L_isSeen fu o (l : Int) (p : Int) I = zr (if (p : Int) < I (o + 3) l then 1 else 0) I := by
  unfold f_L_isSeen
  rw [ev_has fu o l p I hl, if_pos (show 0 ≤ (p : Int) ∧ (p : Int) < I (o + 2) l by omega), zb_zr, if_neg ne10, zg_t (show 0 ≤ (l : Int) ∧ (l : Int) < 6 by omega), show ((l : Nat) : Int).toNat = l from rfl]
  by_cases q : (p : Int) < I (o + 3) l
  · rw [if_pos q, if_pos q]
  · rw [if_neg q, if_neg q]
theorem judge2 (a b : Int) (h : RJ I J) (hg : GX 0 J) : pq (f_C_judge fu 137 1 a b I) (f_X_pick fu 0 a b J) EQJ := by
  obtain ⟨hS, hY, hH, hL, hW⟩ : HR 1 1 I J := h.1.1
  have hP : PKR I J := h.2.2.2.2.2.1
  have gs := (gx_facts hg).1
  unfold f_C_judge f_X_pick
  simp only [zl_e, zj_e]
  rw [ev_xLine, zb_zr]
  by_cases h1 : 0 ≤ a ∧ a < 6
  · rw [if_pos h1, if_neg ne10]
    obtain ⟨l, rfl⟩ : ∃ l : Nat, a = (l : Int) := ⟨a.toNat, by omega⟩
    have hl : l < 6 := by omega
    obtain ⟨c1, c2, c3⟩ := hl_c hL hl
    rw [w_130 l hl, ev_has fu (1 + 6) l b I hl, zb_zr, show I (1 + 6 + 2) l = J 1 (130 + l) from c1]
    refine pq_gr (fun _ => ?_)
    rw [show J (0 + 1) ((130 + l : Nat) : Int).toNat = J 1 (130 + l) from rfl, wr32_i2 (x := J 1 (130 + l) - 1) (by omega) (by omega), ev_isIn, zb_zr]
    by_cases h2 : 0 ≤ b ∧ b < J 1 (130 + l)
    · rw [if_pos h2, if_neg ne10, if_pos (show 0 ≤ b ∧ b ≤ J 1 (130 + l) - 1 by omega), if_neg ne10]
      obtain ⟨p, rfl⟩ : ∃ p : Nat, b = (p : Int) := ⟨b.toNat, by omega⟩
      have hp := h2.2
      have p40 : p < 40 := by omega
      have hk : INL J (40 * l + p) := ⟨by omega, by rw [show (40 * l + p) / 40 = l by omega, show (40 * l + p) % 40 = p by omega]; exact hp⟩
      have gz := (gx_facts hg).2.2.2.2.1 _ hk
      have wk : wr32 (wr32 (40 * (l : Int)) + (p : Int)) = ((40 * l + p : Nat) : Int) := by rw [wr32_i2 (x := 40 * (l : Int)) (by omega) (by omega), wr32_i2 (by omega) (by omega)]; omega
      have w10 : wr32 (10 + (l : Int)) = ((10 + l : Nat) : Int) := by rw [wr32_i2 (by omega) (by omega)]; omega
      rw [w_row l p hl (by omega), wk, w10, ev_cstands fu 137 (40 * l + p) I (by omega), zb_zr]
      refine pq_gr (fun _ => ?_)
      rw [show J (0 + 13) ((40 * l + p : Nat) : Int).toNat = J 13 (40 * l + p) from rfl, show I (137 + 1) (40 * l + p) = I 138 (40 * l + p) from rfl]
      rcases hP.2.1 (40 * l + p) (by omega) with ⟨m1, m2⟩ | ⟨m1, m2, _, _, _⟩
      · rw [m1, if_pos eq00, if_neg ne10, m2, if_pos eq00, ev_get1 fu (1 + 6) _ I (by omega), zb_zr, ev_get3 fu (1 + 6) _ I (by omega), zb_zr, ev_isSeen (1 + 6) l p I hl (show (p : Int) < I 9 l by have : I 9 l = J 1 (130 + l) := c1; omega), zb_zr]
        have r1 : I (1 + 6 + 1) (6 * (40 * l + p) + 1) = J 1 (141 + 6 * (40 * l + p)) := (hl_r hL hl hp (show 1 < 6 by decide)).trans (congrArg (J 1) (by omega))
        have r3 : I (1 + 6 + 1) (6 * (40 * l + p) + 3) = J 1 (140 + 6 * (40 * l + p) + 3) := hl_r hL hl hp (show 3 < 6 by decide)
        have r9 : I (1 + 6 + 3) l = J 1 (10 + l) := hS.2.2.2.1 l hl
        rw [r1, r3, r9]
        refine pq_gr (fun _ => ?_)
        rw [show J (0 + 1) ((10 + l : Nat) : Int).toNat = J 1 (10 + l) from rfl]
        by_cases h4 : (p : Int) < J 1 (10 + l)
        · rw [if_pos h4, if_neg ne10, if_pos h4]
          have hb : ∀ k, k < 240 → J 13 k ≠ 0 → 1 ≤ J 1 (141 + 6 * k) ∧ J 1 (141 + 6 * k) ≤ 8 := by
            intro k hk q
            rcases hP.2.1 k hk with ⟨_, y⟩ | ⟨_, _, _, y⟩
            · exact absurd y q
            · exact y
          have c7 : J 1 1 - pS J 240 = I 137 7 := by have := hP.2.2.2.2.2.1.2; omega
          have q74 := fun (kk : Int → Int → Int → IMem → Res) => xv_pick74 (fu := fu) (J := J) (Q := fun y J' => kk (J 1 1 - pS J 240) (pD J 240) (pC J 240) J = some (y, J')) kk (l : Int) (p : Int) (J 1 1) (by omega) hb (fun y J' e => e) fu 0 (by decide)
          rw [show J (0 + 1) 1 = J 1 1 - pS J 0 from (Int.sub_zero (J 1 1)).symm]
          refine pq_par (q74 _) ?_
          try dsimp only
          rw [c7, ev_of1 fu 0 l p J hl p40, zb_zr, show J (0 + 1) (140 + 6 * (40 * l + p) + 1) = J 1 (141 + 6 * (40 * l + p)) from congrArg (J 1) (by omega)]
          refine pq_ii Iff.rfl (fun _ _ => pq_end ⟨h, rfl⟩) (fun hf _ => ?_)
          rw [ev_of3 fu 0 l p J hl p40, zb_zr, zb_zr, show J (0 + 1) (140 + 6 * (40 * l + p) + 3) = J 1 (140 + 6 * (40 * l + p) + 3) from rfl]
          have fin := pick_fin (fu := fu) h hg hl hp p40 m2 (by omega)
          have tail : pq (if I 137 10 = 0 then (if J 1 (140 + 6 * (40 * l + p) + 3) = 2 then (if 0 < I 137 8 then zr 5 I else zb (f_C_sit fu 137 ((40 * l + p : Nat) : Int) (J 1 (141 + 6 * (40 * l + p))) (J 1 (140 + 6 * (40 * l + p) + 3)) 1 I) fun _ I22 => zr 0 I22) else zb (f_C_sit fu 137 ((40 * l + p : Nat) : Int) (J 1 (141 + 6 * (40 * l + p))) (J 1 (140 + 6 * (40 * l + p) + 3)) 1 I) fun _ I22 => zr 0 I22) else zr 5 I) (if 0 < pD J 240 then zr 5 J else (if J 1 (140 + 6 * (40 * l + p) + 3) = 2 then (if 0 < J 0 35 then zr 5 J else zg (0 ≤ ((40 * l + p : Nat) : Int) ∧ ((40 * l + p : Nat) : Int) < 240) (zw J (0 + 13) ((40 * l + p : Nat) : Int).toNat 1 fun I44 => zg (0 ≤ I44 0 35 ∧ I44 0 35 < 8) (zw I44 (0 + 15) (I44 0 35).toNat ((40 * l + p : Nat) : Int) fun I46 => zw I46 0 35 (wr32 (I46 0 35 + 1)) fun I48 => zr 0 I48))) else zg (0 ≤ ((40 * l + p : Nat) : Int) ∧ ((40 * l + p : Nat) : Int) < 240) (zw J (0 + 13) ((40 * l + p : Nat) : Int).toNat 1 fun I44 => zg (0 ≤ I44 0 35 ∧ I44 0 35 < 8) (zw I44 (0 + 15) (I44 0 35).toNat ((40 * l + p : Nat) : Int) fun I46 => zw I46 0 35 (wr32 (I46 0 35 + 1)) fun I48 => zr 0 I48)))) EQJ := by
            rcases hP.2.2.2.2.2.2.1 with ⟨x1, x2⟩ | ⟨x1, x2⟩
            · rw [x1, if_pos eq00, x2, if_neg (show ¬ (0 : Int) < 0 by decide)]
              refine pq_ii Iff.rfl (fun _ _ => pq_ii (by rw [hP.1.2.1]) (fun _ _ => pq_end ⟨h, rfl⟩) (fun _ _ => fin)) (fun _ _ => fin)
            · rw [x1, if_neg ne10, if_pos x2]
              exact pq_end ⟨h, rfl⟩
          refine pq_ii Iff.rfl (fun _ _ => ?_) (fun _ _ => tail)
          refine pq_ii ?_ (fun _ _ => pq_end ⟨h, rfl⟩) (fun _ _ => tail)
          rcases hP.2.2.2.2.2.2.2 with ⟨x1, x2⟩ | ⟨x1, x2⟩
          · rw [x1, x2]
          · rw [x1]; exact ⟨fun z => absurd z ne10, fun z => by omega⟩
        · rw [if_neg h4, if_pos eq00, if_neg h4]
          exact pq_end ⟨h, rfl⟩
      · rw [m1, if_neg ne10, if_pos eq00, m2, if_neg ne10]
        exact pq_end ⟨h, rfl⟩
    · rw [if_neg h2, if_pos eq00, if_neg (show ¬ (0 ≤ b ∧ b ≤ J 1 (130 + l) - 1) by omega), if_pos eq00]
      exact pq_end ⟨h, rfl⟩
  · have e0 : f_L_has fu (1 + 6) a b I = zr 0 I := by
      unfold f_L_has
      rw [ev_isLine, if_neg h1, zb_zr, if_pos eq00]
    rw [if_neg h1, if_pos eq00, e0, zb_zr, if_pos eq00]
    exact pq_end ⟨h, rfl⟩
theorem pj_pick (a b : Int) (h : RJ I J) (hg : GX 0 J) : pq (f_S_pick fu 0 a b I) (f_X_pick fu 0 a b J) EQJ := by
  intro x I' y J' e1 e2
  obtain ⟨x1, I1, a1, a2⟩ := of_zb (show zb (f_C_judge fu 137 1 a b I) (fun y1 I2 => zr y1 I2) = some (x, I') from e1)
  cases a2
  exact judge2 a b h hg _ _ _ _ a1 e2
/-! the hand goes off -/
def dS (J : IMem) : Nat → Int
  | 0 => 0
  | i + 1 => dS J i + if J 1 (140 + 6 * (J 15 i).toNat + 3) = 2 then 1 else 0
def cS (J : IMem) : Nat → Int
  | 0 => 0
  | i + 1 => cS J i + if J 1 (140 + 6 * (J 15 i).toNat + 3) = 1 then 0 else 1
theorem dS_b (J : IMem) : ∀ n : Nat, (0 ≤ dS J n ∧ dS J n ≤ (n : Int)) ∧ (0 ≤ cS J n ∧ cS J n ≤ (n : Int)) ∧ (0 < dS J n ↔ ∃ i, i < n ∧ J 1 (140 + 6 * (J 15 i).toNat + 3) = 2) ∧ (0 < cS J n ↔ ∃ i, i < n ∧ J 1 (140 + 6 * (J 15 i).toNat + 3) ≠ 1) := by
  intro n
  induction n with
  | zero =>
    refine ⟨⟨Int.le_refl _, Int.le_refl _⟩, ⟨Int.le_refl _, Int.le_refl _⟩, ⟨fun h => absurd h (Int.lt_irrefl _), fun ⟨i, h, _⟩ => absurd h (Nat.not_lt_zero _)⟩, ⟨fun h => absurd h (Int.lt_irrefl _), fun ⟨i, h, _⟩ => absurd h (Nat.not_lt_zero _)⟩⟩
  | succ n ih =>
    obtain ⟨⟨a1, a2⟩, ⟨b1, b2⟩, c, d⟩ := ih
    have t1 : dS J (n + 1) = dS J n + if J 1 (140 + 6 * (J 15 n).toNat + 3) = 2 then 1 else 0 := rfl
    have t2 : cS J (n + 1) = cS J n + if J 1 (140 + 6 * (J 15 n).toNat + 3) = 1 then 0 else 1 := rfl
    rw [t1, t2]
    generalize hs : J 1 (140 + 6 * (J 15 n).toNat + 3) = s
    have up : ∀ P : Nat → Prop, (∃ i, i < n + 1 ∧ P i) ↔ (P n ∨ ∃ i, i < n ∧ P i) := by
      intro P
      constructor
      · intro ⟨i, h1, h2⟩
        by_cases q : i = n
        · left; rw [← q]; exact h2
        · right; exact ⟨i, by omega, h2⟩
      · intro h
        rcases h with h | ⟨i, h1, h2⟩
        · exact ⟨n, by omega, h⟩
        · exact ⟨i, by omega, h2⟩
    rw [up, up, ← c, ← d, hs]
    by_cases q : s = 2
    · rw [if_pos q, if_neg (show ¬ s = 1 by omega)]
      refine ⟨⟨by omega, by omega⟩, ⟨by omega, by omega⟩, ⟨fun _ => Or.inl q, fun _ => by omega⟩, ⟨fun _ => Or.inl (by omega), fun _ => by omega⟩⟩
    · rw [if_neg q]
      by_cases q2 : s = 1
      · rw [if_pos q2]
        refine ⟨⟨by omega, by omega⟩, ⟨by omega, by omega⟩, ⟨fun z => Or.inr (by omega), fun z => by rcases z with z | z <;> omega⟩, ⟨fun z => Or.inr (by omega), fun z => by rcases z with z | z <;> omega⟩⟩
      · rw [if_neg q2]
        refine ⟨⟨by omega, by omega⟩, ⟨by omega, by omega⟩, ⟨fun z => Or.inr (by omega), fun z => by rcases z with z | z <;> omega⟩, ⟨fun _ => Or.inl q2, fun _ => by omega⟩⟩
theorem pD_b (J : IMem) : ∀ n : Nat, 0 ≤ pD J n ∧ 0 ≤ pC J n ∧ (0 < pD J n ↔ ∃ k, k < n ∧ J 13 k ≠ 0 ∧ J 1 (140 + 6 * k + 3) = 2) ∧ (0 < pC J n ↔ ∃ k, k < n ∧ J 13 k ≠ 0 ∧ J 1 (140 + 6 * k + 3) ≠ 1) := by
  intro n
  induction n with
  | zero =>
    refine ⟨Int.le_refl _, Int.le_refl _, ⟨fun h => absurd h (Int.lt_irrefl _), fun ⟨i, h, _⟩ => absurd h (Nat.not_lt_zero _)⟩, ⟨fun h => absurd h (Int.lt_irrefl _), fun ⟨i, h, _⟩ => absurd h (Nat.not_lt_zero _)⟩⟩
  | succ n ih =>
    obtain ⟨a1, b1, c, d⟩ := ih
    have t2 : pD J (n + 1) = pD J n + (if J 13 n = 0 then 0 else if J 1 (140 + 6 * n + 3) = 2 then 1 else 0) := rfl
    have t3 : pC J (n + 1) = pC J n + (if J 13 n = 0 then 0 else if J 1 (140 + 6 * n + 3) = 1 then 0 else 1) := rfl
    rw [t2, t3]
    have up : ∀ P : Nat → Prop, (∃ i, i < n + 1 ∧ P i) ↔ (P n ∨ ∃ i, i < n ∧ P i) := by
      intro P
      constructor
      · intro ⟨i, h1, h2⟩
        by_cases q : i = n
        · left; rw [← q]; exact h2
        · right; exact ⟨i, by omega, h2⟩
      · intro h
        rcases h with h | ⟨i, h1, h2⟩
        · exact ⟨n, by omega, h⟩
        · exact ⟨i, by omega, h2⟩
    rw [up (fun k => J 13 k ≠ 0 ∧ J 1 (140 + 6 * k + 3) = 2), up (fun k => J 13 k ≠ 0 ∧ J 1 (140 + 6 * k + 3) ≠ 1), ← c, ← d]
    generalize J 1 (140 + 6 * n + 3) = s
    by_cases z : J 13 n = 0
    · rw [if_pos z, if_pos z]
      refine ⟨by omega, by omega, ⟨fun y => Or.inr (by omega), fun y => ?_⟩, ⟨fun y => Or.inr (by omega), fun y => ?_⟩⟩
      · rcases y with y | y
        · exact absurd z y.1
        · omega
      · rcases y with y | y
        · exact absurd z y.1
        · omega
    · rw [if_neg z, if_neg z]
      by_cases q : s = 2
      · rw [if_pos q, if_neg (show ¬ s = 1 by omega)]
        exact ⟨by omega, by omega, ⟨fun _ => Or.inl ⟨z, q⟩, fun _ => by omega⟩, ⟨fun _ => Or.inl ⟨z, by omega⟩, fun _ => by omega⟩⟩
      · rw [if_neg q]
        by_cases q2 : s = 1
        · rw [if_pos q2]
          refine ⟨by omega, by omega, ⟨fun y => Or.inr (by omega), fun y => ?_⟩, ⟨fun y => Or.inr (by omega), fun y => ?_⟩⟩
          · rcases y with y | y
            · exact absurd y.2 q
            · omega
          · rcases y with y | y
            · exact absurd q2 y.2
            · omega
        · rw [if_neg q2]
          refine ⟨by omega, by omega, ⟨fun y => Or.inr (by omega), fun y => ?_⟩, ⟨fun _ => Or.inl ⟨z, q2⟩, fun _ => by omega⟩⟩
          rcases y with y | y
          · exact absurd y.2 q
          · omega
/-- the first i of the hand sit -/
def TKR (I J0 : IMem) (i : Nat) (J : IMem) : Prop :=
  (J 0 30 = J0 1 1 - sm (I 140) i ∧ J 0 31 = (i : Int) ∧ J 0 32 = 0 ∧ J 0 33 = dS J0 i ∧ J 0 34 = cS J0 i) ∧
  (∀ i' : Nat, i' < i → J 11 i' = J0 15 i') ∧
  (∀ k : Nat, k < 240 → ((∃ i' : Nat, i' < i ∧ J0 15 i' = (k : Int)) → J 9 k = J0 1 (141 + 6 * k)) ∧ ((∀ i' : Nat, i' < i → J0 15 i' ≠ (k : Int)) → J 9 k = 0)) ∧
  (∀ k, k < 240 → J 12 k = 0) ∧
  ∀ q j, q ≠ 9 → q ≠ 11 → q ≠ 12 → ¬ (q = 0 ∧ 30 ≤ j ∧ j ≤ 34) → J q j = J0 q j
theorem xv_send6 {Q : Int → IMem → Int → IMem → Prop} (kk : IMem → Res) (m1 : Res) (I J0 : IMem) {n : Nat} (h : PKR I J0) (hn : J0 0 35 = (n : Int)) (n8 : n ≤ 8) (hs : 2 ≤ J0 1 1 ∧ J0 1 1 ≤ 8) (hz : ∀ k, INL J0 k → 1 ≤ J0 1 (141 + 6 * k) ∧ J0 1 (141 + 6 * k) ≤ 8) (hend : ∀ J, TKR I J0 n J → pq m1 (kk J) Q) : ∀ (m i : Nat) (J : IMem), i ≤ n → TKR I J0 i J → pq m1 (f_X_send_6 fu kk 0 m (i : Int) J) Q := by
  intro m
  induction m with
  | zero => intro _ _ _ _; exact pq_nr
  | succ m ih =>
    intro i J hi hT
    have hT' := hT
    obtain ⟨⟨r1, r2, r3, r4, r5⟩, b, c, d, e⟩ := hT'
    show pq m1 (fb_X_send_6 fu kk 0 (f_X_send_6 fu kk 0 m) (i : Int) J) Q
    unfold fb_X_send_6
    rw [e 0 35 (by omega) (by omega) (by omega) (by omega), hn]
    by_cases q : i < n
    · rw [if_pos (show (i : Int) < (n : Int) by omega)]
      refine pq_gr (fun _ => pq_gr (fun _ => pq_gr (fun _ => ?_)))
      obtain ⟨k, k1, k2, k3, k4, k5⟩ := h.2.2.1 i (by omega)
      have k240 := k1.1
      obtain ⟨z1, z2⟩ := hz k k1
      rw [show J (0 + 15) ((i : Nat) : Int).toNat = (k : Int) from (e 15 i (by omega) (by omega) (by omega) (by omega)).trans k2]
      have u0 : wr32 (6 * (k : Int)) = ((6 * k : Nat) : Int) := by rw [wr32_i2 (by omega) (by omega)]; omega
      have u1 : wr32 (140 + ((6 * k : Nat) : Int)) = ((140 + 6 * k : Nat) : Int) := by rw [wr32_i2 (by omega) (by omega)]; omega
      have u2 : wr32 (((140 + 6 * k : Nat) : Int) + 1) = ((141 + 6 * k : Nat) : Int) := by rw [wr32_i2 (by omega) (by omega)]; omega
      simp only [zl_e]
      rw [u0, u1, u2, wd40 k k240, wr40 k k240, w_nx i (by omega)]
      refine pq_gr (fun _ => ?_)
      rw [show J (0 + 1) ((141 + 6 * k : Nat) : Int).toNat = J0 1 (141 + 6 * k) from e 1 _ (by omega) (by omega) (by omega) (by omega)]
      refine pq_br (xv_takes (fu := fu) (k / 40) (k % 40) (J0 1 (141 + 6 * k)) J (by omega) (by omega) (by rw [r2]; omega)) (fun _ J1 _ g => ?_)
      have so : J 1 (140 + 6 * (40 * (k / 40) + k % 40) + 3) = J0 1 (140 + 6 * k + 3) := by
        rw [e 1 _ (by omega) (by omega) (by omega) (by omega), show 40 * (k / 40) + k % 40 = k by omega]
      have kt : (J0 15 i).toNat = k := by rw [k2]; rfl
      obtain ⟨⟨d1, d2⟩, ⟨d3, d4⟩, _, _⟩ := dS_b J0 i
      have s1 : sm (I 140) (i + 1) = sm (I 140) i + I 140 i := rfl
      have sb : 0 ≤ sm (I 140) i ∧ sm (I 140) i ≤ 8 * (i : Int) := by
        have : ∀ j : Nat, j ≤ i → 0 ≤ sm (I 140) j ∧ sm (I 140) j ≤ 8 * (j : Int) := by
          intro j
          induction j with
          | zero => intro _; exact ⟨Int.le_refl _, Int.le_refl _⟩
          | succ j ihj =>
            intro hj
            obtain ⟨y1, y2⟩ := ihj (by omega)
            obtain ⟨k', x1, x2, x3, x4, x5⟩ := h.2.2.1 j (by omega)
            have := hz k' x1
            have s2 : sm (I 140) (j + 1) = sm (I 140) j + I 140 j := rfl
            omega
        exact this i (Nat.le_refl _)
      refine ih (i + 1) J1 q ⟨⟨?_, ?_, ?_, ?_, ?_⟩, fun i' hi' => ?_, fun k' hk' => ⟨fun ⟨i', x1, x2⟩ => ?_, fun x => ?_⟩, fun k' hk' => ?_, fun q' j a1 a2 a3 a4 => ?_⟩
      · rw [g, if_neg (by omega), if_neg (by omega), if_pos ⟨rfl, rfl⟩, r1, wr32_i2 (by omega) (by omega), s1, k4]; omega
      · rw [g, if_neg (by omega), if_neg (by omega), if_neg (by omega), if_pos ⟨rfl, rfl⟩, r2]; omega
      · rw [g, if_neg (by omega), if_neg (by omega), if_neg (by omega), if_neg (by omega), if_neg (by omega), if_neg (by omega)]; exact r3
      · have t : dS J0 (i + 1) = dS J0 i + if J0 1 (140 + 6 * (J0 15 i).toNat + 3) = 2 then 1 else 0 := rfl
        rw [g, if_neg (by omega), if_pos ⟨rfl, rfl⟩, so, r4, t, kt]
        by_cases y : J0 1 (140 + 6 * k + 3) = 2
        · rw [if_pos y, wr32_i2 (by omega) (by omega)]
        · rw [if_neg y, wr32_i2 (by omega) (by omega)]
      · have t : cS J0 (i + 1) = cS J0 i + if J0 1 (140 + 6 * (J0 15 i).toNat + 3) = 1 then 0 else 1 := rfl
        rw [g, if_pos ⟨rfl, rfl⟩, so, r5, t, kt]
        by_cases y : J0 1 (140 + 6 * k + 3) = 1
        · rw [if_pos y, wr32_i2 (by omega) (by omega)]
        · rw [if_neg y, wr32_i2 (by omega) (by omega)]
      · rw [g, if_neg (by omega), if_neg (by omega), if_neg (by omega), if_neg (by omega), r2]
        by_cases y : i' = i
        · rw [if_pos ⟨rfl, y⟩, y, k2]; omega
        · rw [if_neg (fun z => y z.2), if_neg (by omega)]; exact b i' (by omega)
      · rw [g, if_neg (by omega), if_neg (by omega), if_neg (by omega), if_neg (by omega), if_neg (by omega)]
        by_cases y : k' = 40 * (k / 40) + k % 40
        · rw [if_pos ⟨rfl, y⟩, show k' = k by omega]
        · rw [if_neg (fun z => y z.2)]
          refine (c k' hk').1 ⟨i', ?_, x2⟩
          by_cases y2 : i' = i
          · rw [y2, k2] at x2
            omega
          · omega
      · rw [g, if_neg (by omega), if_neg (by omega), if_neg (by omega), if_neg (by omega), if_neg (by omega)]
        have nk : ¬ k' = 40 * (k / 40) + k % 40 := fun z => x i (by omega) (by rw [k2]; omega)
        rw [if_neg (fun z => nk z.2)]
        exact (c k' hk').2 (fun i' hi' => x i' (by omega))
      · rw [g, if_neg (by omega), if_neg (by omega), if_neg (by omega), if_neg (by omega), if_neg (by omega), if_neg (by omega)]; exact d k' hk'
      · rw [g, if_neg (by omega), if_neg (by omega), if_neg (by omega), if_neg (by omega), if_neg (by omega), if_neg (by omega)]; exact e q' j a1 a2 a3 a4
    · rw [if_neg (show ¬ (i : Int) < (n : Int) by omega)]
      have : i = n := by omega
      subst this
      exact hend J hT
/-- so the hand is as a filled chair -/
theorem fe_hand {J2 : IMem} {n : Nat} (h : RJ I J) (hg : GX 0 J) (hn : J 0 35 = (n : Int)) (hT : TKR I J n J2) : FE 137 1 I J2 ∧ J2 0 32 = 0 ∧ (∀ k, INL J2 k ↔ INL J k) ∧ (∀ j, J2 1 j = J 1 j) := by
  obtain ⟨hS, hY, hH, hL, hW⟩ : HR 1 1 I J := h.1.1
  have hP : PKR I J := h.2.2.2.2.2.1
  obtain ⟨⟨a1, a2, a3, a4, a5⟩, b, c, d, e, ⟨f1, f2⟩, g, hh⟩ := hP
  obtain ⟨⟨r1, r2, r3, r4, r5⟩, tb, tc, td, te⟩ := hT
  have gs := gx_facts hg
  have j1 : ∀ j, J2 1 j = J 1 j := fun j => te 1 j (by omega) (by omega) (by omega) (by omega)
  have inl : ∀ k, INL J2 k ↔ INL J k := fun k => by unfold INL; rw [j1]
  rw [hn] at a2 a3 a5 c d f1
  have f1' : J 1 1 = I 137 7 + sm (I 140) n := f1
  obtain ⟨⟨d1, d2⟩, ⟨d3, d4⟩, d5, d6⟩ := dS_b J n
  obtain ⟨p1, p2, p3, p4⟩ := pD_b J 240
  have kof : ∀ k, k < 240 → J 13 k ≠ 0 → ∃ i : Nat, i < n ∧ J 15 i = (k : Int) := by
    intro k hk q
    rcases b k hk with ⟨_, x⟩ | ⟨_, x, _⟩
    · exact absurd x q
    · obtain ⟨i, i1, i2⟩ := e k hk x
      rw [hn] at i1
      exact ⟨i, by omega, i2⟩
  have eqD : 0 < dS J n ↔ 0 < pD J 240 := by
    rw [d5, p3]
    constructor
    · intro ⟨i, i1, i2⟩
      obtain ⟨k, k1, k2, _, _, k5⟩ := c i (by omega)
      refine ⟨k, k1.1, by rw [k5]; decide, ?_⟩
      rw [k2] at i2
      exact i2
    · intro ⟨k, k1, k2, k3⟩
      obtain ⟨i, i1, i2⟩ := kof k k1 k2
      exact ⟨i, i1, by rw [i2]; exact k3⟩
  have eqC : 0 < cS J n ↔ 0 < pC J 240 := by
    rw [d6, p4]
    constructor
    · intro ⟨i, i1, i2⟩
      obtain ⟨k, k1, k2, _, _, k5⟩ := c i (by omega)
      refine ⟨k, k1.1, by rw [k5]; decide, ?_⟩
      rw [k2] at i2
      exact i2
    · intro ⟨k, k1, k2, k3⟩
      obtain ⟨i, i1, i2⟩ := kof k k1 k2
      exact ⟨i, i1, by rw [i2]; exact k3⟩
  refine ⟨⟨⟨hs_mv hS (fun _ _ _ => rfl) (fun j _ => j1 j), hy_mv hY (fun _ => rfl) (fun j _ _ => j1 j), hp_mv hH (fun _ => ⟨rfl, rfl⟩) (fun j _ => j1 j), hw_mv hW (fun _ _ _ _ _ => rfl) (fun j _ _ => j1 j)⟩, fun l hl => ?_, ⟨?_, ?_, ?_⟩, ⟨?_, ?_, ?_, ?_⟩, ⟨?_, ?_⟩, ⟨?_, ?_⟩, fun k hk => ?_, fun i hi => ?_, fun i hi => ?_, ?_⟩, r3, inl, j1⟩
  · obtain ⟨x1, x2, x3⟩ := hL l hl
    refine ⟨by rw [j1]; exact x1, by rw [j1]; exact x2, fun p f hp hf => ?_⟩
    rw [j1] at hp
    have n3 : ¬ (I (137 + 1) (40 * l + p) = 3 ∧ (f = 1 ∨ f = 2)) := by
      intro z
      rcases b (40 * l + p) (by omega) with ⟨y, _⟩ | ⟨y, _⟩
      · have := z.1.symm.trans y; omega
      · have := z.1.symm.trans y; omega
    rw [if_neg n3, j1]
    exact x3 p f hp hf
  · rw [r1]; omega
  · rw [r2]; exact a2
  · rw [r3]; exact a1
  · rw [r1]; omega
  · rw [r2]; omega
  · rw [r1, r2]; omega
  · rw [r3]; decide
  · rw [r4]
    rcases g with ⟨x1, x2⟩ | ⟨x1, x2⟩
    · left; exact ⟨x1, by omega⟩
    · right; exact ⟨x1, eqD.mpr x2⟩
  · rw [r4, r2]; exact d2
  · rw [r5]
    rcases hh with ⟨x1, x2⟩ | ⟨x1, x2⟩
    · left; exact ⟨x1, by omega⟩
    · right; exact ⟨x1, eqC.mpr x2⟩
  · rw [r5, r2]; exact d4
  · rw [td k hk, j1]
    rcases b k hk with ⟨x1, x2⟩ | ⟨x1, x2, x3, x4, x5⟩
    · left
      refine ⟨x1, (tc k hk).2 (fun i' hi' z => ?_), rfl⟩
      obtain ⟨k', y1, y2, _, _, y5⟩ := c i' (by omega)
      have : k' = k := by omega
      rw [this, x2] at y5
      exact absurd y5 (by decide)
    · right; left
      obtain ⟨i, i1, i2⟩ := kof k hk (by rw [x2]; decide)
      have y9 := (tc k hk).1 ⟨i, i1, i2⟩
      exact ⟨x1, y9, by rw [y9]; exact x4, rfl⟩
  · rw [r2] at hi
    obtain ⟨k, k1, k2, k3, k4, k5⟩ := c i (by omega)
    have y9 := (tc k k1.1).1 ⟨i, by omega, k2⟩
    have z := gs.2.2.2.2.1 k k1
    refine ⟨k, (inl k).mpr k1, ?_, k3, ?_, ?_, ?_⟩
    · rw [tb i (by omega)]; exact k2
    · rw [y9]; exact k4
    · rw [y9]; exact z.1
    · rw [y9]; exact z.2
  · rw [r3] at hi; omega
  · rw [j1, r1, r2]
    show J 1 1 = J 1 1 - sm (I 140) n + sm (I 140) n
    omega
theorem pj_send (h : RJ I J) (hg : GX 0 J) (hrg : RG I) (hc : J 1 70 < 2000000000) : pq (f_S_send fu 0 I) (f_X_send fu 0 J) EQJ := by
  have gs := gx_facts hg
  have hP : PKR I J := h.2.2.2.2.2.1
  obtain ⟨n, hn⟩ : ∃ n : Nat, J 0 35 = (n : Int) := ⟨(J 0 35).toNat, by have := hP.1.2.2.1; omega⟩
  unfold f_S_send f_X_send
  refine pq_br (xv_begins (fu := fu) J) (fun _ J1 _ ⟨g1, ⟨g2, g3, g4, g5, g6⟩, g7⟩ => ?_)
  have hn8 : n ≤ 8 := by have := hP.1; omega
  have hT0 : TKR I J 0 J1 := ⟨⟨by rw [g2]; exact (Int.sub_zero _).symm, g3, g4, g5, g6⟩, fun i' hi' => absurd hi' (Nat.not_lt_zero _), fun k hk => ⟨fun ⟨i', x, _⟩ => absurd x (Nat.not_lt_zero _), fun _ => (g1 k hk).1⟩, fun k hk => (g1 k hk).2, fun q j b1 b2 b3 b4 => g7 q j b1 b3 b4⟩
  refine xv_send6 _ _ I J hP hn hn8 gs.1 gs.2.2.2.2.1 (fun J2 hT => ?_) fu 0 J1 (Nat.zero_le _) hT0
  obtain ⟨hF, f32, inl, j1⟩ := fe_hand h hg hn hT
  have h70 : 0 ≤ J 1 70 := gs.2.2.2.2.2.2
  have j22 : J2 0 22 = J 0 22 := hT.2.2.2.2 0 22 (by omega) (by omega) (by omega) (by omega)
  intro x I' y J' e1 e2
  obtain ⟨x1, I1, a1, a2⟩ := of_zb e1
  obtain ⟨y1, J3, b1, b2⟩ := of_zb e2
  cases b2
  obtain ⟨k1, k2, k3, k4, k5, k6, k7, _⟩ := leave2 (fu := fu) hF (by decide) (fun k hk => by rw [j1]; exact gs.2.2.2.2.1 k ((inl k).mp hk)) (by rw [f32]; decide) ⟨by rw [j1]; exact h70, by rw [j1]; exact hc⟩ (by rw [j1]; exact gs.1) hrg x1 I1 y J' a1 b1
  obtain ⟨x2, I2, c1, c2⟩ := of_zb a2
  cases c2
  have c1' : zb (f_C_clear fu (0 + 137) (I1 (0 + 2) 0) I1) (fun _ I2 => zr 0 I2) = some (x2, I') := c1
  obtain ⟨x3, I3, d1, d2⟩ := of_zb c1'
  cases d2
  obtain ⟨w1, w2, w3⟩ := cv_clear (fu := fu) (0 + 137) (I1 (0 + 2) 0) I1 x3 I' d1
  have fI : ∀ q j, ¬ (q = 1 ∨ q = 8 ∨ q = 9 ∨ q = 11 ∨ q = 12 ∨ q = 13) → I1 q j = I q j := fun q j hq => congrFun (fr_C_leave (fun q => q = 1 ∨ q = 8 ∨ q = 9 ∨ q = 11 ∨ q = 12 ∨ q = 13) fu (0 + 137) (0 + 1) I (by omega) (by omega) (by omega) (by omega) (by omega) (by omega) a1 q hq) j
  have fJ : ∀ q j, ¬ (q = 1 ∨ q = 13 ∨ q = 14 ∨ (q = 0 ∧ (j = 24 ∨ j = 35))) → J' q j = J2 q j := fc_X_goesOff (fun q j => q = 1 ∨ q = 13 ∨ q = 14 ∨ (q = 0 ∧ (j = 24 ∨ j = 35))) fu 0 J2 (fun _ => by omega) (fun _ => by omega) (fun _ => by omega) (by omega) (by omega) b1
  have fJ0 : ∀ q j, (q = 0 ∧ (j = 3 ∨ j = 12 ∨ j = 19 ∨ j = 21)) ∨ q = 2 ∨ q = 6 → J' q j = J q j := fun q j hq => (fJ q j (by omega)).trans (hT.2.2.2.2 q j (by omega) (by omega) (by omega) (by omega))
  have i20 : I1 2 0 = J' 1 1 := k2.1.1 0 (by decide)
  have i20' : I1 2 0 = J 1 1 := (fI 2 0 (by omega)).trans (h.1.1.1.1 0 (by decide))
  have fI' : ∀ q j, ¬ (q = 1 ∨ q = 8 ∨ q = 9 ∨ q = 11 ∨ q = 12 ∨ q = 13 ∨ q = 138 ∨ (q = 137 ∧ 7 ≤ j ∧ j ≤ 11)) → I' q j = I q j := fun q j hq => (w3 q j (by omega) (by omega)).trans (fI q j (by omega))
  have z11 : I' 1 11 = I 1 11 := (w3 1 11 (by omega) (by omega)).trans k6
  obtain ⟨_, a2', _, _, _, e, ⟨L, t1, t2, t3, t4⟩, f⟩ := h
  refine ⟨rj_mv h ⟨hr_mv k2 (fun d j q => w3 _ _ (by unfold CH at q; omega) (by unfold CH at q; omega)) (fun _ _ => rfl), ?_, ?_, ?_⟩ z11 (fun q j hq => fI' _ _ (by omega)) (fun q j hq => fJ0 q j (by omega)) (pk_zero k3 k4 (by rw [← i20, i20']; exact gs.1) w1 ⟨by rw [w2.1]; exact i20, w2.2⟩) ⟨L, t1, ?_, ?_, fun j hj => ?_⟩ ⟨?_, ?_⟩, k1⟩
  · rw [z11, k5, j22]; exact h.1.2.1
  · rw [w3 _ _ (by omega) (by omega), k7]; exact h.1.2.2.1
  · rw [w3 _ _ (by omega) (by omega), k7]; exact h.1.2.2.2
  · rw [fI' _ _ (by omega)]; exact t2
  · rw [fJ0 _ _ (by omega)]; exact t3
  · rw [fI' _ _ (by omega), fJ0 _ _ (by omega)]; exact t4 j hj
  · rw [fI' _ _ (by omega), fJ0 _ _ (by omega)]; exact f.1
  · rw [fI' _ _ (by omega), fJ0 _ _ (by omega)]; exact f.2
/-- the hand is emptied first -/
theorem drop2 {I2 : IMem} {x : Int} (h : RJ I J) (e : f_S_dropPicked fu 0 I = some (x, I2)) : x = 0 ∧ (∀ j, j < 240 → I2 138 j = 0) ∧ (I2 137 7 = J 1 1 ∧ I2 137 8 = 0 ∧ I2 137 9 = 0 ∧ I2 137 10 = 0 ∧ I2 137 11 = 0) ∧ (∀ q j, q ≠ 138 → ¬ (q = 137 ∧ 7 ≤ j ∧ j ≤ 11) → I2 q j = I q j) ∧ HX 1 I2 J := by
  have c1' : zb (f_C_clear fu (0 + 137) (I (0 + 2) 0) I) (fun _ I2 => zr 0 I2) = some (x, I2) := e
  obtain ⟨x3, I3, d1, d2⟩ := of_zb c1'
  cases d2
  obtain ⟨w1, w2, w3⟩ := cv_clear (fu := fu) (0 + 137) (I (0 + 2) 0) I x3 I2 d1
  have i20 : I 2 0 = J 1 1 := h.1.1.1.1 0 (by decide)
  refine ⟨rfl, w1, ⟨w2.1.trans i20, w2.2⟩, w3, hr_mv h.1.1 (fun d j q => w3 _ _ (by unfold CH at q; omega) (by unfold CH at q; omega)) (fun _ _ => rfl), ?_, ?_, ?_⟩
  · rw [w3 _ _ (by omega) (by omega)]; exact h.1.2.1
  · rw [w3 _ _ (by omega) (by omega)]; exact h.1.2.2.1
  · rw [w3 _ _ (by omega) (by omega)]; exact h.1.2.2.2
/-- after turns of the hill's own chair, with nobody picked -/
theorem rj_ride {I2 I' J' : IMem} (h : RJ I J) (w1 : ∀ j, j < 240 → I2 138 j = 0) (w2 : I2 137 7 = J 1 1 ∧ I2 137 8 = 0 ∧ I2 137 9 = 0 ∧ I2 137 10 = 0 ∧ I2 137 11 = 0) (w3 : ∀ q j, q ≠ 138 → ¬ (q = 137 ∧ 7 ≤ j ∧ j ≤ 11) → I2 q j = I q j) (hX : HX 1 I' J') (h13 : ∀ j, j < 240 → J' 13 j = 0) (h35 : J' 0 35 = 0) (hs : 2 ≤ J 1 1 ∧ J 1 1 ≤ 8) (fI : ∀ q j, (q = 0 ∨ (2 ≤ q ∧ q ≤ 7) ∨ (41 ≤ q ∧ q ≤ 80) ∨ q = 96 ∨ (137 ≤ q ∧ q ≤ 140) ∨ q = 144 ∨ q = 145 ∨ q = 151) → I' q j = I2 q j) (fJ : ∀ q j, (q = 0 ∧ (j = 3 ∨ j = 12 ∨ j = 19 ∨ j = 21 ∨ j = 22)) ∨ q = 2 ∨ q = 6 → J' q j = J q j) : RJ I' J' := by
  have i20 : I' 2 0 = J' 1 1 := hX.1.1.1 0 (by decide)
  have i20' : I' 2 0 = J 1 1 := ((fI 2 0 (by omega)).trans (w3 2 0 (by omega) (by omega))).trans (h.1.1.1.1 0 (by decide))
  have fI' : ∀ q j, ((q = 0 ∧ j = 8) ∨ (41 ≤ q ∧ q ≤ 80) ∨ q = 96 ∨ q = 144 ∨ q = 145 ∨ q = 151) → I' q j = I q j := fun q j hq => (fI q j (by omega)).trans (w3 q j (by omega) (by omega))
  have z11 : I' 1 11 = I 1 11 := by
    rw [hX.2.1, fJ 0 22 (by omega)]
    exact h.1.2.1.symm
  have h' := h
  obtain ⟨_, a2', _, _, _, e, ⟨L, t1, t2, t3, t4⟩, f⟩ := h'
  refine rj_mv h hX z11 (fun q j hq => fI' _ _ (by omega)) (fun q j hq => fJ q j (by omega)) (pk_zero h13 h35 (by rw [← i20, i20']; exact hs) (fun k hk => by rw [fI _ _ (by omega)]; exact w1 k hk) ⟨?_, ?_, ?_, ?_, ?_⟩) ⟨L, t1, ?_, ?_, fun j hj => ?_⟩ ⟨?_, ?_⟩
  · rw [fI _ _ (by omega), w2.1, ← i20, i20']
  · rw [fI _ _ (by omega)]; exact w2.2.1
  · rw [fI _ _ (by omega)]; exact w2.2.2.1
  · rw [fI _ _ (by omega)]; exact w2.2.2.2.1
  · rw [fI _ _ (by omega)]; exact w2.2.2.2.2
  · rw [fI' _ _ (by omega)]; exact t2
  · rw [fJ _ _ (by omega)]; exact t3
  · rw [fI' _ _ (by omega), fJ _ _ (by omega)]; exact t4 j hj
  · rw [fI' _ _ (by omega), fJ _ _ (by omega)]; exact f.1
  · rw [fI' _ _ (by omega), fJ _ _ (by omega)]; exact f.2
theorem pj_chair (hfu : 5000000000 < fu) (h : RJ I J) (hg : GX 0 J) (hC : GC I) (hc : J 1 70 < 2000000000) : pq (f_S_chair fu 0 I) (f_X_chair fu 0 J) EQJ := by
  have gs := gx_facts hg
  unfold f_S_chair
  intro x I' y J' e1 e2
  obtain ⟨x1, I2, a1, a2⟩ := of_zb e1
  obtain ⟨x2, I3, b1, b2⟩ := of_zb a2
  cases b2
  obtain ⟨_, w1, w2, w3, hX⟩ := drop2 h a1
  have hC2 : GC I2 := by
    have o := par_sat (ok_S_dropPicked fu 0 I hfu hC rfl) x1 I2 a1
    exact o.2.1
  obtain ⟨k1, ⟨k2, _, _⟩, k3, k4, _⟩ := ride2 (fu := fu) (oc := 130) (hb := 1) (Or.inr ⟨rfl, rfl⟩) hfu ⟨hX, hg, hC2⟩ hc x I' y J' b1 e2
  refine ⟨rj_ride h w1 w2 w3 k2 k3 k4 gs.1 (fun q j hq => ?_) (fun q j hq => ?_), k1⟩
  · exact congrFun (fr_C_ride (fun q => (16 ≤ q ∧ q < 41) ∨ (130 ≤ q ∧ q ≤ 136) ∨ q = 1 ∨ q = 8 ∨ q = 9 ∨ q = 11 ∨ q = 12 ∨ q = 13 ∨ q = 14) fu (0 + 130) (0 + 1) I2 (fun q a b => by omega) (by omega) (by omega) (by omega) (by omega) (by omega) (by omega) (by omega) (by omega) (by omega) (by omega) (by omega) (by omega) (by omega) (by omega) b1 q (by omega)) j
  · exact fc_X_chair (fun q j => ¬ ((q = 0 ∧ (j = 3 ∨ j = 12 ∨ j = 19 ∨ j = 21 ∨ j = 22)) ∨ q = 2 ∨ q = 6)) fu 0 J (fun _ => by omega) (fun _ => by omega) (fun _ => by omega) (fun _ => by omega) (fun _ => by omega) (fun _ => by omega) (fun _ => by omega) (fun _ => by omega) (by omega) (by omega) (by omega) (by omega) (by omega) (by omega) (by omega) (by omega) (by omega) (by omega) (by omega) (by omega) (by omega) (by omega) (by omega) (by omega) e2 q j (fun z => z hq)
theorem pj_run (a : Int) (hfu : 5000000000 < fu) (h : RJ I J) (hg : GX 0 J) (hC : GC I) (hc : J 1 70 + 60 < 2000000000) : pq (f_S_run fu 0 a I) (f_X_run fu 0 a J) EQJ := by
  have gs := gx_facts hg
  unfold f_S_run
  by_cases h1 : 1 ≤ a ∧ a ≤ 60
  · rw [if_neg (show ¬ a < 1 by omega), if_neg (show ¬ 60 < a by omega)]
    intro x I' y J' e1 e2
    have fJ := fc_X_run (fun q j => ¬ ((q = 0 ∧ (j = 3 ∨ j = 12 ∨ j = 19 ∨ j = 21 ∨ j = 22)) ∨ q = 2 ∨ q = 6)) fu 0 a J (fun _ => by omega) (fun _ => by omega) (fun _ => by omega) (fun _ => by omega) (fun _ => by omega) (fun _ => by omega) (fun _ => by omega) (fun _ => by omega) (by omega) (by omega) (by omega) (by omega) (by omega) (by omega) (by omega) (by omega) (by omega) (by omega) (by omega) (by omega) (by omega) (by omega) (by omega) (by omega) (by omega) (by omega) e2
    obtain ⟨x1, I2, a1, a2⟩ := of_zb e1
    obtain ⟨x2, I3, b1, b2⟩ := of_zb a2
    cases b2
    obtain ⟨_, w1, w2, w3, hX⟩ := drop2 h a1
    have hC2 : GC I2 := by
      have o := par_sat (ok_S_dropPicked fu 0 I hfu hC rfl) x1 I2 a1
      exact o.2.1
    unfold f_X_run at e2
    rw [ev_isIn, zb_zr, if_pos h1, if_neg ne10] at e2
    obtain ⟨k1, ⟨k2, _, _⟩, k3, k4⟩ := turns2 (fu := fu) (oc := 130) (hb := 1) (Or.inr ⟨rfl, rfl⟩) hfu a h1.2 fu fu 0 0 I2 J (by omega) ⟨hX, hg, hC2⟩ (by omega) (Or.inl (by omega)) x I' y J' b1 e2
    refine ⟨rj_ride h w1 w2 w3 k2 k3 k4 gs.1 (fun q j hq => ?_) (fun q j hq => fJ q j (fun z => z hq)), k1⟩
    exact congrFun (fr_C_turns (fun q => (16 ≤ q ∧ q < 41) ∨ (130 ≤ q ∧ q ≤ 136) ∨ q = 1 ∨ q = 8 ∨ q = 9 ∨ q = 11 ∨ q = 12 ∨ q = 13 ∨ q = 14 ∨ q = 15) fu (0 + 130) (0 + 1) a I2 (fun q a b => by omega) (by omega) (by omega) (by omega) (by omega) (by omega) (by omega) (by omega) (by omega) (by omega) (by omega) (by omega) (by omega) (by omega) (by omega) (by omega) b1 q (by omega)) j
  · rw [out2 (a := a < 1) (b := 60 < a) (by omega)]
    unfold f_X_run
    rw [ev_isIn, zb_zr, if_neg h1, if_pos eq00]
    exact pq_end ⟨h, rfl⟩
end
/-! the image: both sides -/
section
variable {fu : Nat} {I J : IMem}
/-- a law's text, copied -/
theorem cv_wcopy (a b : Nat) (hab : a + 5 ≤ b ∨ b + 5 ≤ a) (I : IMem) : par (f_W_copyFrom fu a b I) (fun _ I' => (I' a 4 = I b 4 ∧ (∀ j, j < 400 → I' (a + 1) j = I (b + 1) j) ∧ (∀ j, j < 17 → I' (a + 2) j = I (b + 2) j) ∧ (∀ j, j < 16 → I' (a + 3) j = I (b + 3) j)) ∧ ∀ q j, ¬ (a ≤ q ∧ q < a + 4) → I' q j = I q j) := by
  unfold f_W_copyFrom
  refine par_zw' (fun I1 e1 => par_zw' (fun I2 e2 => par_zg (fun _ => par_zc' (fun I3 e3 => par_zg (fun _ => par_zc' (fun I4 e4 => par_zg (fun _ => par_zc' (fun I5 e5 => par_zr ⟨⟨?_, fun j hj => ?_, fun j hj => ?_, fun j hj => ?_⟩, fun q j hq => ?_⟩))))))))
  · rw [e5, if_neg (by omega), e4, if_neg (by omega), e3, if_neg (by omega), e2, if_pos ⟨rfl, rfl⟩, e1, if_neg (by omega)]
  · rw [e5, if_neg (by omega), e4, if_neg (by omega), e3, if_pos (show a + 1 = a + 1 ∧ (0 : Int).toNat ≤ j ∧ j < (0 : Int).toNat + (400 : Int).toNat from ⟨rfl, Nat.zero_le _, by show j < 0 + 400; omega⟩), e2, if_neg (by omega), e1, if_neg (by omega)]
    exact congrArg (I (b + 1)) (show 0 + (j - 0) = j by omega)
  · rw [e5, if_neg (by omega), e4, if_pos (show a + 2 = a + 2 ∧ (0 : Int).toNat ≤ j ∧ j < (0 : Int).toNat + (17 : Int).toNat from ⟨rfl, Nat.zero_le _, by show j < 0 + 17; omega⟩), e3, if_neg (by omega), e2, if_neg (by omega), e1, if_neg (by omega)]
    exact congrArg (I (b + 2)) (show 0 + (j - 0) = j by omega)
  · rw [e5, if_pos (show a + 3 = a + 3 ∧ (0 : Int).toNat ≤ j ∧ j < (0 : Int).toNat + (16 : Int).toNat from ⟨rfl, Nat.zero_le _, by show j < 0 + 16; omega⟩), e4, if_neg (by omega), e3, if_neg (by omega), e2, if_neg (by omega), e1, if_neg (by omega)]
    exact congrArg (I (b + 3)) (show 0 + (j - 0) = j by omega)
  · rw [e5, if_neg (by omega), e4, if_neg (by omega), e3, if_neg (by omega), e2, if_neg (by omega), e1, if_neg (by omega)]
/-- a law's cells that are read -/
def LCP (a b : Nat) (I' I : IMem) : Prop := I' a 4 = I b 4 ∧ (∀ j, j < 400 → I' (a + 1) j = I (b + 1) j) ∧ (∀ j, j < 17 → I' (a + 2) j = I (b + 2) j) ∧ (∀ j, j < 16 → I' (a + 3) j = I (b + 3) j)
theorem lwr_cp {hb hb2 wo wo2 k : Nat} {I' J' : IMem} (hk : k < 5) (h : LWR hb wo k I J) (h1 : LCP (hb2 + 15 + 5 * k) (hb + 15 + 5 * k) I' I) (h2 : ∀ j, j < 6190 → J' wo2 j = J wo j) : LWR hb2 wo2 k I' J' := by
  obtain ⟨l, ⟨a1, a2, a3, a4⟩, b, c⟩ := h
  obtain ⟨g1, g2, g3, g4⟩ := h1
  have cl := c.1
  have cx := c.2.1
  refine ⟨l, ⟨?_, fun i hi => ?_, ?_, fun i r hr => ?_⟩, lx_mv hk c b (fun j _ h => h2 j (by omega)), c⟩
  · rw [g1]; exact a1
  · rw [g2 i (by omega)]; exact a2 i hi
  · rw [g3 0 (by decide)]; exact a3
  · have hi := lt_of_get hr
    obtain ⟨x1, x2⟩ := a4 i r hr
    refine ⟨?_, ?_⟩
    · rw [g3 _ (by omega)]; exact x1
    · rw [g4 _ (by omega)]; exact x2
/-- the hill's copy, all that is read -/
def HCP (a b : Nat) (I' I : IMem) : Prop := (I' a 6 = I b 6 ∧ I' a 7 = I b 7 ∧ I' a 11 = I b 11) ∧ (∀ j, j < 6 → I' (a + 1) j = I (b + 1) j) ∧ (∀ j, j < 9 → I' (a + 3) j = I (b + 3) j) ∧ (∀ j, j < 32 → I' (a + 4) j = I (b + 4) j) ∧ (∀ j, j < 9 → I' (a + 5) j = I (b + 5) j) ∧ (∀ j, j < 1440 → I' (a + 7) j = I (b + 7) j) ∧ (∀ j, j < 6 → I' (a + 8) j = I (b + 8) j) ∧ (∀ j, j < 6 → I' (a + 9) j = I (b + 9) j) ∧ (∀ j, j < 40 → I' (a + 10) j = I (b + 10) j) ∧ (∀ j, j < 30 → I' (a + 11) j = I (b + 11) j) ∧ (∀ j, j < 180 → I' (a + 12) j = I (b + 12) j) ∧ ∀ k, k < 5 → LCP (a + 15 + 5 * k) (b + 15 + 5 * k) I' I
theorem hr_cp {a b wo wo2 : Nat} {I' J' : IMem} (h : HR b wo I J) (hc : HCP a b I' I) (h2 : ∀ j, j < 6190 → J' wo2 j = J wo j) : HR a wo2 I' J' := by
  obtain ⟨⟨s1, s2, s3, s4, s5, s6, s7⟩, ⟨y1, y2⟩, ⟨p1, p2, p3, p4, p5⟩, hL, hW⟩ := h
  obtain ⟨⟨c1, c2, c3⟩, d1, d3, d4, d5, d7, d8, d9, d10, d11, d12, dl⟩ := hc
  refine ⟨⟨fun k hk => ?_, ?_, ?_, fun l hl => ?_, fun s g1 g2 => ?_, fun k hk => ?_, fun s g1 g2 => ?_⟩, ⟨fun k hk => ?_, fun s g1 g2 => ⟨?_, ?_, ?_⟩⟩, ⟨?_, ?_, ?_, fun i hi => ⟨?_, ?_⟩, fun k hk => ?_⟩, fun l hl => ?_, fun k hk => lwr_cp hk (hW k hk) (dl k hk) h2⟩
  · rw [d1 _ hk, h2 _ (by omega)]; exact s1 k hk
  · rw [c1, h2 _ (by omega)]; exact s2
  · rw [c2, h2 _ (by omega)]; exact s3
  · rw [d9 _ hl, h2 _ (by omega)]; exact s4 l hl
  · rw [d3 _ (by omega), h2 _ (by omega)]; exact s5 s g1 g2
  · rw [d4 _ hk, h2 _ (by omega)]; exact s6 k hk
  · rw [d5 _ (by omega), h2 _ (by omega)]; exact s7 s g1 g2
  · rw [d10 _ (by omega), h2 _ (by omega)]; exact y1 k hk
  · rw [d10 _ (by omega), h2 _ (by omega)]; exact (y2 s g1 g2).1
  · rw [d10 _ (by omega), h2 _ (by omega)]; exact (y2 s g1 g2).2.1
  · rw [d10 _ (by omega), h2 _ (by omega)]; exact (y2 s g1 g2).2.2
  · rw [h2 110 (by omega), h2 70 (by omega)]; exact p1
  · rw [h2 110 (by omega), d11 _ (by omega)]; exact p2
  · rw [h2 111 (by omega), d11 _ (by omega)]; exact p3
  · rw [h2 _ (by omega), d11 _ (by omega)]; exact (p4 i hi).1
  · rw [h2 _ (by omega), d11 _ (by omega)]; exact (p4 i hi).2
  · rw [h2 _ (by omega), d12 _ hk]; exact p5 k hk
  · obtain ⟨x1, x2, x3⟩ := hL l hl
    refine ⟨by rw [d8 _ hl, h2 _ (by omega)]; exact x1, by rw [h2 _ (by omega)]; exact x2, fun p f hp hf => ?_⟩
    rw [h2 _ (by omega)] at hp
    rw [d7 _ (by omega), h2 _ (by omega)]; exact x3 p f hp hf
theorem cv_hcopy2 {Q : Int → IMem → Prop} (kk : IMem → Res) (a b : Nat) (hab : a + 40 ≤ b ∨ b + 40 ≤ a) (I0 : IMem) (hend : ∀ I : IMem, (∀ k, k < 5 → LCP (a + 15 + 5 * k) (b + 15 + 5 * k) I I0) → (∀ q j, ¬ (a + 15 ≤ q ∧ q < a + 40) → I q j = I0 q j) → par (kk I) Q) : ∀ (m i : Nat) (I : IMem), i ≤ 5 → (∀ k, k < i → LCP (a + 15 + 5 * k) (b + 15 + 5 * k) I I0) → (∀ q j, ¬ (a + 15 ≤ q ∧ q < a + 40) → I q j = I0 q j) → par (f_H_copyFrom_2 fu kk a b m (i : Int) I) Q := by
  intro m
  induction m with
  | zero => intro _ _ _ _ _; exact par_none
  | succ m ih =>
    intro i I hi h1 h2
    show par (fb_H_copyFrom_2 fu kk a b (f_H_copyFrom_2 fu kk a b m) (i : Int) I) _
    unfold fb_H_copyFrom_2
    by_cases q : i < 5
    · rw [if_pos (show (i : Int) < 5 by omega), if_pos (show (i : Int) < 5 by omega)]
      refine par_zg (fun _ => par_zg (fun _ => ?_))
      rw [show ((i : Nat) : Int).toNat = i from rfl]
      refine par_zb (cv_wcopy (fu := fu) (a + 15 + 5 * i) (b + 15 + 5 * i) (by omega) I) (fun _ I1 ⟨⟨g1, g2, g3, g4⟩, g5⟩ => ?_)
      simp only [zl_e]
      rw [w_nx i (by omega)]
      refine ih (i + 1) I1 q (fun k hk => ?_) (fun q' j hq => ?_)
      · by_cases y : k = i
        · subst y
          refine ⟨?_, fun j hj => ?_, fun j hj => ?_, fun j hj => ?_⟩
          · rw [g1, h2 _ _ (by omega)]
          · rw [g2 j hj, h2 _ _ (by omega)]
          · rw [g3 j hj, h2 _ _ (by omega)]
          · rw [g4 j hj, h2 _ _ (by omega)]
        · obtain ⟨x1, x2, x3, x4⟩ := h1 k (by omega)
          refine ⟨?_, fun j hj => ?_, fun j hj => ?_, fun j hj => ?_⟩
          · rw [g5 _ _ (by omega)]; exact x1
          · rw [g5 _ _ (by omega)]; exact x2 j hj
          · rw [g5 _ _ (by omega)]; exact x3 j hj
          · rw [g5 _ _ (by omega)]; exact x4 j hj
      · rw [g5 _ _ (by omega)]; exact h2 q' j hq
    · rw [if_neg (show ¬ (i : Int) < 5 by omega)]
      have : i = 5 := by omega
      subst this
      exact hend I h1 h2
theorem cv_hcopy (a b : Nat) (hab : a + 40 ≤ b ∨ b + 40 ≤ a) (I : IMem) : par (f_H_copyFrom fu a b I) (fun _ I' => HCP a b I' I) := by
  unfold f_H_copyFrom
  refine cv_hcopy2 _ a b hab I (fun I1 h1 h2 => ?_) fu 0 I (by decide) (fun k hk => absurd hk (Nat.not_lt_zero _)) (fun _ _ _ => rfl)
  refine par_zb (Q1 := fun _ I2 => (∀ j, j < 1440 → I2 (a + 7) j = I (b + 7) j) ∧ (∀ j, j < 6 → I2 (a + 8) j = I (b + 8) j) ∧ (∀ j, j < 6 → I2 (a + 9) j = I (b + 9) j) ∧ ∀ q j, ¬ (a + 7 ≤ q ∧ q ≤ a + 9) → I2 q j = I1 q j) ?_ (fun _ I2 ⟨g7, g8, g9, g0⟩ => ?_)
  · unfold f_L_copyFrom
    refine par_zg (fun _ => par_zc' (fun I3 e3 => par_zg (fun _ => par_zc' (fun I4 e4 => par_zg (fun _ => par_zc' (fun I5 e5 => par_zr ⟨fun j hj => ?_, fun j hj => ?_, fun j hj => ?_, fun q j hq => ?_⟩))))))
    · rw [e5, if_neg (by omega), e4, if_neg (by omega), e3, if_pos (show a + 7 = a + 6 + 1 ∧ (0 : Int).toNat ≤ j ∧ j < (0 : Int).toNat + (1440 : Int).toNat from ⟨rfl, Nat.zero_le _, by show j < 0 + 1440; omega⟩), h2 _ _ (by omega)]
      exact congrArg (I (b + 7)) (show 0 + (j - 0) = j by omega)
    · rw [e5, if_neg (by omega), e4, if_pos (show a + 8 = a + 6 + 2 ∧ (0 : Int).toNat ≤ j ∧ j < (0 : Int).toNat + (6 : Int).toNat from ⟨rfl, Nat.zero_le _, by show j < 0 + 6; omega⟩), e3, if_neg (by omega), h2 _ _ (by omega)]
      exact congrArg (I (b + 8)) (show 0 + (j - 0) = j by omega)
    · rw [e5, if_pos (show a + 9 = a + 6 + 3 ∧ (0 : Int).toNat ≤ j ∧ j < (0 : Int).toNat + (6 : Int).toNat from ⟨rfl, Nat.zero_le _, by show j < 0 + 6; omega⟩), e4, if_neg (by omega), e3, if_neg (by omega), h2 _ _ (by omega)]
      exact congrArg (I (b + 9)) (show 0 + (j - 0) = j by omega)
    · rw [e5, if_neg (by omega), e4, if_neg (by omega), e3, if_neg (by omega)]
  have old : ∀ q j, ¬ (a + 15 ≤ q ∧ q < a + 40) → ¬ (a + 7 ≤ q ∧ q ≤ a + 9) → I2 q j = I q j := fun q j y1 y2 => (g0 q j y2).trans (h2 q j y1)
  refine par_zg (fun _ => par_zc' (fun I3 e3 => par_zg (fun _ => par_zc' (fun I4 e4 => par_zg (fun _ => par_zc' (fun I5 e5 => par_zg (fun _ => par_zc' (fun I6 e6 => par_zg (fun _ => par_zc' (fun I7 e7 => par_zg (fun _ => par_zc' (fun I8 e8 => par_zg (fun _ => par_zc' (fun I9 e9 => par_zw' (fun I10 e10 => par_zw' (fun I11 e11 => par_zw' (fun I12 e12 => par_zr ?_)))))))))))))))))
  have far : ∀ q j, ¬ (q = a ∧ (j = 6 ∨ j = 7 ∨ j = 11)) → q ≠ a + 1 → q ≠ a + 3 → q ≠ a + 4 → q ≠ a + 5 → q ≠ a + 10 → q ≠ a + 11 → q ≠ a + 12 → I12 q j = I2 q j := fun q j y0 y1 y3 y4 y5 y10 y11 y12 => by rw [e12, if_neg (by omega), e11, if_neg (by omega), e10, if_neg (by omega), e9, if_neg (by omega), e8, if_neg (by omega), e7, if_neg (by omega), e6, if_neg (by omega), e5, if_neg (by omega), e4, if_neg (by omega), e3, if_neg (by omega)]
  refine ⟨⟨?_, ?_, ?_⟩, fun j hj => ?_, fun j hj => ?_, fun j hj => ?_, fun j hj => ?_, fun j hj => ?_, fun j hj => ?_, fun j hj => ?_, fun j hj => ?_, fun j hj => ?_, fun j hj => ?_, fun k hk => ?_⟩
  · rw [e12, if_neg (by omega), e11, if_neg (by omega), e10, if_pos ⟨rfl, rfl⟩, e9, if_neg (by omega), e8, if_neg (by omega), e7, if_neg (by omega), e6, if_neg (by omega), e5, if_neg (by omega), e4, if_neg (by omega), e3, if_neg (by omega)]; exact old _ _ (by omega) (by omega)
  · rw [e12, if_neg (by omega), e11, if_pos ⟨rfl, rfl⟩, e10, if_neg (by omega), e9, if_neg (by omega), e8, if_neg (by omega), e7, if_neg (by omega), e6, if_neg (by omega), e5, if_neg (by omega), e4, if_neg (by omega), e3, if_neg (by omega)]; exact old _ _ (by omega) (by omega)
  · rw [e12, if_pos ⟨rfl, rfl⟩, e11, if_neg (by omega), e10, if_neg (by omega), e9, if_neg (by omega), e8, if_neg (by omega), e7, if_neg (by omega), e6, if_neg (by omega), e5, if_neg (by omega), e4, if_neg (by omega), e3, if_neg (by omega)]; exact old _ _ (by omega) (by omega)
  · rw [e12, if_neg (by omega), e11, if_neg (by omega), e10, if_neg (by omega), e9, if_neg (by omega), e8, if_neg (by omega), e7, if_neg (by omega), e6, if_neg (by omega), e5, if_neg (by omega), e4, if_neg (by omega), e3, if_pos (show a + 1 = a + 1 ∧ (0 : Int).toNat ≤ j ∧ j < (0 : Int).toNat + (6 : Int).toNat from ⟨rfl, Nat.zero_le _, by show j < 0 + 6; omega⟩), old _ _ (by omega) (by omega)]
    exact congrArg (I (b + 1)) (show 0 + (j - 0) = j by omega)
  · rw [e12, if_neg (by omega), e11, if_neg (by omega), e10, if_neg (by omega), e9, if_neg (by omega), e8, if_neg (by omega), e7, if_neg (by omega), e6, if_neg (by omega), e5, if_neg (by omega), e4, if_pos (show a + 3 = a + 3 ∧ (0 : Int).toNat ≤ j ∧ j < (0 : Int).toNat + (9 : Int).toNat from ⟨rfl, Nat.zero_le _, by show j < 0 + 9; omega⟩), e3, if_neg (by omega), old _ _ (by omega) (by omega)]
    exact congrArg (I (b + 3)) (show 0 + (j - 0) = j by omega)
  · rw [e12, if_neg (by omega), e11, if_neg (by omega), e10, if_neg (by omega), e9, if_neg (by omega), e8, if_neg (by omega), e7, if_neg (by omega), e6, if_neg (by omega), e5, if_pos (show a + 4 = a + 4 ∧ (0 : Int).toNat ≤ j ∧ j < (0 : Int).toNat + (32 : Int).toNat from ⟨rfl, Nat.zero_le _, by show j < 0 + 32; omega⟩), e4, if_neg (by omega), e3, if_neg (by omega), old _ _ (by omega) (by omega)]
    exact congrArg (I (b + 4)) (show 0 + (j - 0) = j by omega)
  · rw [e12, if_neg (by omega), e11, if_neg (by omega), e10, if_neg (by omega), e9, if_neg (by omega), e8, if_neg (by omega), e7, if_neg (by omega), e6, if_pos (show a + 5 = a + 5 ∧ (0 : Int).toNat ≤ j ∧ j < (0 : Int).toNat + (9 : Int).toNat from ⟨rfl, Nat.zero_le _, by show j < 0 + 9; omega⟩), e5, if_neg (by omega), e4, if_neg (by omega), e3, if_neg (by omega), old _ _ (by omega) (by omega)]
    exact congrArg (I (b + 5)) (show 0 + (j - 0) = j by omega)
  · rw [far _ _ (by omega) (by omega) (by omega) (by omega) (by omega) (by omega) (by omega) (by omega)]; exact g7 j hj
  · rw [far _ _ (by omega) (by omega) (by omega) (by omega) (by omega) (by omega) (by omega) (by omega)]; exact g8 j hj
  · rw [far _ _ (by omega) (by omega) (by omega) (by omega) (by omega) (by omega) (by omega) (by omega)]; exact g9 j hj
  · rw [e12, if_neg (by omega), e11, if_neg (by omega), e10, if_neg (by omega), e9, if_neg (by omega), e8, if_neg (by omega), e7, if_pos (show a + 10 = a + 10 ∧ (0 : Int).toNat ≤ j ∧ j < (0 : Int).toNat + (40 : Int).toNat from ⟨rfl, Nat.zero_le _, by show j < 0 + 40; omega⟩), e6, if_neg (by omega), e5, if_neg (by omega), e4, if_neg (by omega), e3, if_neg (by omega), old _ _ (by omega) (by omega)]
    exact congrArg (I (b + 10)) (show 0 + (j - 0) = j by omega)
  · rw [e12, if_neg (by omega), e11, if_neg (by omega), e10, if_neg (by omega), e9, if_neg (by omega), e8, if_pos (show a + 11 = a + 11 ∧ (0 : Int).toNat ≤ j ∧ j < (0 : Int).toNat + (30 : Int).toNat from ⟨rfl, Nat.zero_le _, by show j < 0 + 30; omega⟩), e7, if_neg (by omega), e6, if_neg (by omega), e5, if_neg (by omega), e4, if_neg (by omega), e3, if_neg (by omega), old _ _ (by omega) (by omega)]
    exact congrArg (I (b + 11)) (show 0 + (j - 0) = j by omega)
  · rw [e12, if_neg (by omega), e11, if_neg (by omega), e10, if_neg (by omega), e9, if_pos (show a + 12 = a + 12 ∧ (0 : Int).toNat ≤ j ∧ j < (0 : Int).toNat + (180 : Int).toNat from ⟨rfl, Nat.zero_le _, by show j < 0 + 180; omega⟩), e8, if_neg (by omega), e7, if_neg (by omega), e6, if_neg (by omega), e5, if_neg (by omega), e4, if_neg (by omega), e3, if_neg (by omega), old _ _ (by omega) (by omega)]
    exact congrArg (I (b + 12)) (show 0 + (j - 0) = j by omega)
  · obtain ⟨x1, x2, x3, x4⟩ := h1 k hk
    have w : ∀ d j, d < 4 → I12 (a + 15 + 5 * k + d) j = I1 (a + 15 + 5 * k + d) j := fun d j hd => by rw [far _ _ (by omega) (by omega) (by omega) (by omega) (by omega) (by omega) (by omega) (by omega), g0 _ _ (by omega)]
    exact ⟨(w 0 4 (by omega)).trans x1, fun j hj => (w 1 j (by omega)).trans (x2 j hj), fun j hj => (w 2 j (by omega)).trans (x3 j hj), fun j hj => (w 3 j (by omega)).trans (x4 j hj)⟩
/-- the reference's copy, one way or the other -/
theorem xv_img {Q : Int → IMem → Prop} (kk : IMem → Res) (p1 : Int) (J0 : IMem) (hend : ∀ J : IMem, (∀ j, j < 6190 → J (if p1 = 0 then 1 else 2) j = J0 (if p1 = 0 then 2 else 1) j) → (∀ q j, q ≠ (if p1 = 0 then 1 else 2) → J q j = J0 q j) → par (kk J) Q) : ∀ (m i : Nat) (J : IMem), i ≤ 6190 → (∀ j, j < i → J (if p1 = 0 then 1 else 2) j = J0 (if p1 = 0 then 2 else 1) j) → (∀ q j, q ≠ (if p1 = 0 then 1 else 2) → J q j = J0 q j) → par (f_X_image_15 fu kk 0 p1 m (i : Int) J) Q := by
  intro m
  induction m with
  | zero => intro _ _ _ _ _; exact par_none
  | succ m ih =>
    intro i J hi h1 h2
    show par (fb_X_image_15 fu kk 0 p1 (f_X_image_15 fu kk 0 p1 m) (i : Int) J) _
    unfold fb_X_image_15
    by_cases q : i < 6190
    · rw [if_pos (show (i : Int) < 6190 by omega)]
      have w1 : wr32 ((i : Int) + 1) = ((i + 1 : Nat) : Int) := by rw [wr32_i2 (by omega) (by omega)]; omega
      simp only [zl_e, zj_e]
      rw [w1]
      by_cases z : p1 = 0
      · rw [if_pos z]
        simp only [if_pos z] at h1 h2 ih
        refine par_zg (fun _ => par_zg (fun _ => par_zw' (fun J1 e1 => ih (i + 1) J1 q (fun j hj => ?_) (fun q' j hq => ?_))))
        · by_cases y : j = i
          · rw [e1, if_pos ⟨rfl, y⟩, y]
            exact h2 2 i (by decide)
          · rw [e1, if_neg (fun x => y x.2)]; exact h1 j (by omega)
        · rw [e1, if_neg (fun x => hq x.1)]; exact h2 q' j hq
      · rw [if_neg z]
        simp only [if_neg z] at h1 h2 ih
        refine par_zg (fun _ => par_zg (fun _ => par_zw' (fun J1 e1 => ih (i + 1) J1 q (fun j hj => ?_) (fun q' j hq => ?_))))
        · by_cases y : j = i
          · rw [e1, if_pos ⟨rfl, y⟩, y]
            exact h2 1 i (by decide)
          · rw [e1, if_neg (fun x => y x.2)]; exact h1 j (by omega)
        · rw [e1, if_neg (fun x => hq x.1)]; exact h2 q' j hq
    · rw [if_neg (show ¬ (i : Int) < 6190 by omega)]
      have : i = 6190 := by omega
      subst this
      exact hend J h1 h2
/-- the reference's image call -/
theorem xv_image0 (J : IMem) (h : J 0 3 ≠ 0) : par (f_X_image fu 0 0 J) (fun y J' => y = 1 ∧ (∀ j, j < 6190 → J' 1 j = J 2 j) ∧ (∀ j, j < 240 → J' 13 j = 0) ∧ J' 0 35 = 0 ∧ J' 0 3 = 1 ∧ ∀ q j, q ≠ 1 → q ≠ 13 → ¬ (q = 0 ∧ (j = 35 ∨ j = 3)) → J' q j = J q j) := by
  unfold f_X_image
  simp only [zj_e]
  rw [if_pos eq00, if_neg h]
  refine xv_img _ 0 J (fun J1 h1 h2 => ?_) fu 0 J (by decide) (fun j hj => absurd hj (Nat.not_lt_zero _)) (fun _ _ _ => rfl)
  rw [if_pos eq00] at h2
  simp only [if_pos eq00] at h1
  rw [if_pos eq00]
  refine par_zb (xv_forgets J1) (fun _ J2 ⟨g1, g2, g3⟩ => par_zw' (fun J3 e3 => par_zr ⟨rfl, fun j hj => ?_, fun j hj => ?_, ?_, ?_, fun q j a1 a2 a3 => ?_⟩))
  · rw [e3, if_neg (by omega), g3 _ _ (by omega) (by omega)]; exact h1 j hj
  · rw [e3, if_neg (by omega)]; exact g1 j hj
  · rw [e3, if_neg (by omega)]; exact g2
  · rw [e3, if_pos ⟨rfl, rfl⟩]
  · rw [e3, if_neg (by omega), g3 _ _ (by omega) (by omega)]; exact h2 q j a1
theorem xv_image1 (a : Int) (ha : a ≠ 0) (J : IMem) : par (f_X_image fu 0 a J) (fun y J' => y = 1 ∧ (∀ j, j < 6190 → J' 2 j = J 1 j) ∧ J' 0 3 = 1 ∧ ∀ q j, q ≠ 2 → ¬ (q = 0 ∧ j = 3) → J' q j = J q j) := by
  unfold f_X_image
  simp only [zj_e]
  rw [if_neg ha]
  refine xv_img _ a J (fun J1 h1 h2 => ?_) fu 0 J (by decide) (fun j hj => absurd hj (Nat.not_lt_zero _)) (fun _ _ _ => rfl)
  rw [if_neg ha] at h2
  simp only [if_neg ha] at h1
  rw [if_neg ha]
  refine par_zw' (fun J3 e3 => par_zr ⟨rfl, fun j hj => ?_, ?_, fun q j a1 a2 => ?_⟩)
  · rw [e3, if_neg (by omega)]; exact h1 j hj
  · rw [e3, if_pos ⟨rfl, rfl⟩]
  · rw [e3, if_neg a2]; exact h2 q j a1
theorem pj_image (a : Int) (h : RJ I J) (hg : GX 0 J) : pq (f_S_image fu 0 a I) (f_X_image fu 0 a J) EQJ := by
  have h' := h
  obtain ⟨hX, z11, b, c, d, e, ⟨L, t1, t2, t3, t4⟩, f⟩ := h'
  have g3 : J 0 3 = 0 ∨ J 0 3 = 1 := by
    obtain ⟨_, _, _, w, _⟩ := hg
    obtain ⟨_, _, _, _, _, _, _, _, w⟩ := w
    exact w
  by_cases ha : a = 0
  · subst ha
    by_cases h3 : J 0 3 = 0
    · have i8 : I 0 8 = 0 := b.trans h3
      unfold f_S_image f_X_image
      simp only [zj_e]
      rw [if_pos eq00, if_pos i8, if_pos eq00, if_pos h3]
      exact pq_gl (fun _ => pq_end ⟨h, i8⟩)
    · obtain ⟨c1, c2⟩ := c h3
      have j3 : J 0 3 = 1 := g3.resolve_left h3
      have i8 : I 0 8 = 1 := b.trans j3
      intro x I' y J' e1 e2
      obtain ⟨k1, k2, k3, k4, k5, k6⟩ := xv_image0 (fu := fu) J h3 y J' e2
      unfold f_S_image at e1
      rw [if_pos eq00, if_neg (by rw [i8]; decide)] at e1
      obtain ⟨x1, I1, a1, a2⟩ := of_zb e1
      obtain ⟨x2, I2, b1, b2⟩ := of_zb a2
      obtain ⟨_, b3⟩ := of_zg b2
      cases b3
      have hc := cv_hcopy (fu := fu) (0 + 1) (0 + 41) (by omega) I x1 I1 a1
      have fI : ∀ q j, ¬ ((16 ≤ q ∧ q < 41) ∨ (1 ≤ q ∧ q ≤ 13 ∧ q ≠ 3 ∧ q ≠ 7)) → I1 q j = I q j := fun q j hq => congrFun (fr_H_copyFrom (fun q => (16 ≤ q ∧ q < 41) ∨ (1 ≤ q ∧ q ≤ 13 ∧ q ≠ 3 ∧ q ≠ 7)) fu (0 + 1) (0 + 41) I (fun q a b => by omega) (by omega) (by omega) (by omega) (by omega) (by omega) (by omega) (by omega) (by omega) (by omega) (by omega) (by omega) a1 q hq) j
      have b1' : zb (f_C_clear fu (0 + 137) (I1 (0 + 2) 0) I1) (fun _ I2 => zr 0 I2) = some (x2, I') := b1
      obtain ⟨x3, I3, d1, d2⟩ := of_zb b1'
      cases d2
      obtain ⟨w1, w2, w3⟩ := cv_clear (fu := fu) (0 + 137) (I1 (0 + 2) 0) I1 x3 I' d1
      have fI' : ∀ q j, ¬ ((16 ≤ q ∧ q < 41) ∨ (1 ≤ q ∧ q ≤ 13) ∨ q = 138 ∨ (q = 137 ∧ 7 ≤ j ∧ j ≤ 11)) → I' q j = I q j := fun q j hq => (w3 q j (by omega) (by omega)).trans (fI q j (by omega))
      have hR : HR 1 1 I1 J' := hr_cp c1 hc k2
      have hR' : HR 1 1 I' J' := hr_mv hR (fun d j q => w3 _ _ (by unfold CH at q; omega) (by unfold CH at q; omega)) (fun _ _ => rfl)
      have n11 : I' 1 11 = -1 := ((w3 1 11 (by omega) (by omega)).trans hc.1.2.2).trans c2
      have j22 : J' 0 22 = J 0 22 := k6 0 22 (by omega) (by omega) (by omega)
      have i20 : I1 2 0 = J' 1 1 := hR.1.1 0 (by decide)
      have gs : 2 ≤ J' 1 1 ∧ J' 1 1 ≤ 8 := by
        rw [k2 1 (by decide)]
        obtain ⟨_, _, w, _⟩ := hg
        have w' := (w h3).1
        exact ⟨w'.1, w'.2.1⟩
      refine ⟨⟨⟨hR', ?_, ?_, ?_⟩, n11, ?_, fun _ => ⟨?_, ?_⟩, ⟨?_, ?_, ?_⟩, pk_zero k3 k4 gs w1 ⟨w2.1.trans i20, w2.2⟩, ⟨L, t1, ?_, ?_, fun j hj => ?_⟩, ⟨?_, ?_⟩⟩, ?_⟩
      · rw [n11, j22, ← hX.2.1, z11]
      · rw [fI' _ _ (by omega)]; exact hX.2.2.1
      · rw [fI' _ _ (by omega)]; exact hX.2.2.2
      · rw [fI' _ _ (by omega), i8, k5]
      · exact hr_mv c1 (fun d j q => fI' _ _ (by unfold CH at q; omega)) (fun j _ => k6 _ _ (by omega) (by omega) (by omega))
      · rw [fI' _ _ (by omega)]; exact c2
      · rw [fI' _ _ (by omega)]; exact d.1
      · rw [fI' _ _ (by omega)]; exact d.2.1
      · rw [fI' _ _ (by omega)]; exact d.2.2
      · rw [fI' _ _ (by omega)]; exact t2
      · rw [k6 _ _ (by omega) (by omega) (by omega)]; exact t3
      · rw [fI' _ _ (by omega), k6 _ _ (by omega) (by omega) (by omega)]; exact t4 j hj
      · rw [fI' _ _ (by omega), k6 _ _ (by omega) (by omega) (by omega)]; exact f.1
      · rw [fI' _ _ (by omega), k6 _ _ (by omega) (by omega) (by omega)]; exact f.2
      · rw [k1]; exact (fI' _ _ (by omega)).trans i8
  · intro x I' y J' e1 e2
    obtain ⟨k1, k2, k5, k6⟩ := xv_image1 (fu := fu) a ha J y J' e2
    unfold f_S_image at e1
    rw [if_neg ha] at e1
    obtain ⟨x1, I1, a1, a2⟩ := of_zb e1
    have hc := cv_hcopy (fu := fu) (0 + 41) (0 + 1) (by omega) I x1 I1 a1
    have fI : ∀ q j, ¬ ((56 ≤ q ∧ q < 81) ∨ (41 ≤ q ∧ q ≤ 53)) → I1 q j = I q j := fun q j hq => congrFun (fr_H_copyFrom (fun q => (56 ≤ q ∧ q < 81) ∨ (41 ≤ q ∧ q ≤ 53)) fu (0 + 41) (0 + 1) I (fun q a b => by omega) (by omega) (by omega) (by omega) (by omega) (by omega) (by omega) (by omega) (by omega) (by omega) (by omega) (by omega) a1 q hq) j
    have fin : par (zw I1 0 8 1 fun I10 => zg (I10 0 8 = 0 ∨ I10 0 8 = 1) (zr (I10 0 8) I10)) (fun x I' => x = 1 ∧ ∀ q j, I' q j = if q = 0 ∧ j = 8 then 1 else I1 q j) := par_zw' (fun I2 e2 => par_zg (fun _ => par_zr ⟨by rw [e2, if_pos ⟨rfl, rfl⟩], e2⟩))
    obtain ⟨g1, g2⟩ := fin x I' a2
    have fI' : ∀ q j, ¬ ((41 ≤ q ∧ q < 81) ∨ (q = 0 ∧ j = 8)) → I' q j = I q j := fun q j hq => by rw [g2, if_neg (by omega)]; exact fI q j (by omega)
    have hR : HR 41 2 I1 J' := hr_cp hX.1 hc k2
    refine ⟨⟨⟨hr_mv hX.1 (fun d j q => fI' _ _ (by unfold CH at q; omega)) (fun j _ => k6 _ _ (by omega) (by omega)), ?_, ?_, ?_⟩, ?_, ?_, fun _ => ⟨hr_mv hR (fun d j q => ?_) (fun _ _ => rfl), ?_⟩, ⟨?_, ?_, ?_⟩, pk_mv e (fun q j hq => fI' _ _ (by omega)) (fun q j hq => k6 _ _ (by omega) (by omega)) (fun k hk => ⟨⟨hk.1, by rw [k6 _ _ (by omega) (by omega)]; exact hk.2⟩, k6 _ _ (by omega) (by omega), k6 _ _ (by omega) (by omega)⟩), ⟨L, t1, ?_, ?_, fun j hj => ?_⟩, ⟨?_, ?_⟩⟩, ?_⟩
    · rw [fI' _ _ (by omega), k6 _ _ (by omega) (by omega)]; exact hX.2.1
    · rw [fI' _ _ (by omega)]; exact hX.2.2.1
    · rw [fI' _ _ (by omega)]; exact hX.2.2.2
    · rw [fI' _ _ (by omega)]; exact z11
    · rw [g2, if_pos ⟨rfl, rfl⟩, k5]
    · unfold CH at q
      rw [g2, if_neg (by omega)]
    · rw [g2, if_neg (by omega)]
      exact hc.1.2.2.trans z11
    · rw [fI' _ _ (by omega)]; exact d.1
    · rw [fI' _ _ (by omega)]; exact d.2.1
    · rw [fI' _ _ (by omega)]; exact d.2.2
    · rw [fI' _ _ (by omega)]; exact t2
    · rw [k6 _ _ (by omega) (by omega)]; exact t3
    · rw [fI' _ _ (by omega), k6 _ _ (by omega) (by omega)]; exact t4 j hj
    · rw [fI' _ _ (by omega), k6 _ _ (by omega) (by omega)]; exact f.1
    · rw [fI' _ _ (by omega), k6 _ _ (by omega) (by omega)]; exact f.2
    · rw [g1, k1]
end
/-! calls that leave the state as it is -/
section
variable {fu : Nat} {I J : IMem}
/-- what the relation reads of the class's, of the reference's objects -/
def NSQ (q j : Nat) : Prop := ¬ ((q = 0 ∧ j = 8) ∨ (1 ≤ q ∧ q ≤ 80 ∧ q ≠ 14 ∧ ¬ (16 ≤ q ∧ q ≤ 40 ∧ q % 5 = 0)) ∨ (q = 96 ∧ (j = 4 ∨ j = 5)) ∨ (137 ≤ q ∧ q ≤ 140) ∨ q = 144 ∨ q = 145 ∨ (q = 151 ∧ j = 0))
def NSO (q : Nat) : Prop := ¬ (q = 0 ∨ (1 ≤ q ∧ q ≤ 80 ∧ q ≠ 14 ∧ ¬ (16 ≤ q ∧ q ≤ 40 ∧ q % 5 = 0)) ∨ q = 96 ∨ (137 ≤ q ∧ q ≤ 140) ∨ q = 144 ∨ q = 145 ∨ q = 151)
def NXQ (q j : Nat) : Prop := ¬ ((q = 0 ∧ (j = 3 ∨ j = 12 ∨ j = 19 ∨ j = 21 ∨ j = 22 ∨ j = 35)) ∨ q = 1 ∨ q = 2 ∨ q = 6 ∨ q = 13 ∨ q = 15)
def NXS (q j : Nat) : Prop := ¬ ((q = 0 ∧ (j = 3 ∨ j = 12 ∨ j = 19 ∨ j = 21 ∨ j = 22)) ∨ q = 2 ∨ q = 6)
def NXW (q j : Nat) : Prop := ¬ ((q = 0 ∧ (j = 3 ∨ j = 12 ∨ j = 19 ∨ j = 21)) ∨ q = 2 ∨ q = 6)
theorem rj_fo {I' J' : IMem} (h : RJ I J) (h1 : ∀ q, ¬ NSO q → I' q = I q) (h2 : ∀ q j, ¬ NXQ q j → J' q j = J q j) : RJ I' J' := by
  refine rj_same h (fun q j hq => ?_) (fun q j hq => h2 q j (fun z => z (by omega)))
  exact congrFun (h1 q (fun z => z (by omega))) j
theorem rj_sa {I' J' : IMem} (h : RJ I J) (h1 : ∀ q j, ¬ NSQ q j → I' q j = I q j) (hs : SA 0 J J') (h2 : ∀ q j, ¬ NXS q j → J' q j = J q j) : RJ I' J' := by
  obtain ⟨s1, s13, s15, s35⟩ := hs
  have w1 : ∀ q j, ((q = 0 ∧ j = 8) ∨ (1 ≤ q ∧ q ≤ 80 ∧ q ≠ 14 ∧ ¬ (16 ≤ q ∧ q ≤ 40 ∧ q % 5 = 0)) ∨ (q = 96 ∧ (j = 4 ∨ j = 5)) ∨ (137 ≤ q ∧ q ≤ 140) ∨ q = 144 ∨ q = 145 ∨ (q = 151 ∧ j = 0)) → I' q j = I q j := fun q j hq => h1 q j (fun z => z hq)
  have w2 : ∀ q j, ((q = 0 ∧ (j = 3 ∨ j = 12 ∨ j = 19 ∨ j = 21 ∨ j = 22)) ∨ q = 2 ∨ q = 6) → J' q j = J q j := fun q j hq => h2 q j (fun z => z hq)
  have x1 : ∀ j, j < 6190 → J' 1 j = J 1 j := s1
  have x13 : ∀ j, j < 240 → J' 13 j = J 13 j := s13
  have x15 : ∀ j, j < 8 → J' 15 j = J 15 j := s15
  have h' := h
  obtain ⟨⟨hR, hz, hA⟩, a, b, c, d, e, ⟨L, t1, t2, t3, t4⟩, f⟩ := h'
  refine rj_mv h ⟨hr_mv hR (fun d j q => w1 _ _ (by unfold CH at q; omega)) x1, ?_, ?_, ?_⟩ (w1 _ _ (by omega)) (fun q j q => w1 _ _ (by omega)) (fun q j q => w2 _ _ (by omega)) (pk_mv e (fun q j q => w1 _ _ (by omega)) (fun q j hq => ?_) (fun k hk => ?_)) ⟨L, t1, ?_, ?_, fun j hj => ?_⟩ ⟨?_, ?_⟩
  · rw [w1 _ _ (by omega), w2 _ _ (by omega)]; exact hz
  · rw [w1 _ _ (by omega)]; exact hA.1
  · rw [w1 _ _ (by omega)]; exact hA.2
  · rcases hq with ⟨rfl, hq⟩ | ⟨rfl, hq⟩ | ⟨rfl, rfl⟩ | ⟨rfl, rfl⟩
    · exact x13 j hq
    · exact x15 j hq
    · exact s35
    · exact x1 1 (by decide)
  · have k1 := hk.1
    exact ⟨⟨k1, by rw [x1 _ (by omega)]; exact hk.2⟩, x1 _ (by omega), x1 _ (by omega)⟩
  · rw [w1 _ _ (by omega)]; exact t2
  · rw [w2 _ _ (by omega)]; exact t3
  · rw [w1 _ _ (by omega), w2 _ _ (by omega)]; exact t4 j hj
  · rw [w1 _ _ (by omega), w2 _ _ (by omega)]; exact f.1
  · rw [w1 _ _ (by omega), w2 _ _ (by omega)]; exact f.2
/-- the class by whole objects -/
theorem rj_so {I' J' : IMem} (h : RJ I J) (h1 : ∀ q, ¬ NSO q → I' q = I q) (hs : SA 0 J J') (h2 : ∀ q j, ¬ NXS q j → J' q j = J q j) : RJ I' J' := rj_sa h (fun q j hq => congrFun (h1 q (fun z => hq (fun y => z (by unfold NSO at *; omega)))) j) hs h2
/-- after which, the law of the choice is the hill's own again -/
theorem xw_loop {Q : Int → IMem → Prop} (kk : Int → Int → Int → IMem → Res) (a b : Int) (hk : ∀ x y z I, par (kk x y z I) Q) : ∀ (m : Nat) (w3 w4 w5 w6 : Int) (I : IMem), par (f_X_which_32 fu kk 0 a b m w3 w4 w5 w6 I) Q := by
  intro m
  induction m with
  | zero => intro _ _ _ _ _; exact par_none
  | succ m ih =>
    intro w3 w4 w5 w6 I
    show par (fb_X_which_32 fu kk 0 a b (f_X_which_32 fu kk 0 a b m) w3 w4 w5 w6 I) _
    unfold fb_X_which_32
    simp only [zl_e, zj_e]
    refine par_ite (fun _ => par_zw' (fun I1 _ => par_zb (Q1 := fun _ _ => True) (fun _ _ _ => trivial) (fun _ I2 _ => ?_))) (fun _ => hk _ _ _ _)
    exact par_ite (fun _ => ih _ _ _ _ _) (fun _ => par_ite (fun _ => ih _ _ _ _ _) (fun _ => par_ite (fun _ => par_ite (fun _ => ih _ _ _ _ _) (fun _ => ih _ _ _ _ _)) (fun _ => ih _ _ _ _ _)))
theorem xw_22 (a b : Int) (h : J 0 22 = -1) : par (f_X_which fu 0 a b J) (fun _ J' => J' 0 22 = -1) := by
  unfold f_X_which
  rw [ev_isIn, zb_zr]
  refine par_ite (fun _ => par_zr h) (fun _ => ?_)
  rw [ev_isIn, zb_zr]
  refine par_ite (fun _ => par_zr h) (fun _ => ?_)
  refine xw_loop _ a b (fun x y z I => ?_) fu _ _ _ _ J
  refine par_zw' (fun I1 e1 => ?_)
  have g : I1 0 22 = -1 := by rw [e1, if_pos ⟨rfl, rfl⟩]
  exact par_ite (fun _ => par_zr g) (fun _ => par_ite (fun _ => par_zr g) (fun _ => par_zr g))
/-- look gives back the line that it tried -/
theorem xl_look (a : Int) (hs : ∀ l : Nat, l < 6 → 1 ≤ J 1 (10 + l) ∧ J 1 (10 + l) ≤ 24) (hb : ∀ (J1 : IMem) (y : Int) (J2 : IMem), f_X_best fu 0 0 J1 = some (y, J2) → ∀ q j, ¬ NXQ q j → J2 q j = J1 q j) : par (f_X_look fu 0 a J) (fun _ J' => ∀ q j, ¬ NXQ q j → J' q j = J q j) := by
  unfold f_X_look
  rw [ev_xLine, zb_zr]
  by_cases h1 : 0 ≤ a ∧ a < 6
  · rw [if_pos h1, if_neg ne10]
    obtain ⟨l, rfl⟩ : ∃ l : Nat, a = (l : Int) := ⟨a.toNat, by omega⟩
    have w10 : wr32 (10 + (l : Int)) = ((10 + l : Nat) : Int) := by rw [wr32_i2 (by omega) (by omega)]; omega
    have hl := hs l (by omega)
    simp only [zl_e]
    rw [w10]
    refine par_zg (fun _ => par_ite (fun _ => par_zr (fun _ _ _ => rfl)) (fun _ => ?_))
    refine par_zb (Q1 := fun _ J1 => ∀ q j, ¬ NXQ q j → J1 q j = J q j) (fun y J1 e => hb J y J1 e) (fun _ J1 g1 => ?_)
    have o1 : ∀ j, ¬ NXQ 1 j := fun j z => z (by omega)
    refine par_zg (fun _ => par_zg (fun _ => par_zw' (fun J2 e2 => ?_)))
    refine par_zb (Q1 := fun _ J3 => ∀ q j, ¬ NXQ q j → J3 q j = J2 q j) (fun y J3 e => hb J2 y J3 e) (fun _ J3 g3 => ?_)
    refine par_zg (fun _ => par_zg (fun _ => par_zw' (fun J4 e4 => par_zr (fun q j hq => ?_))))
    have v1 : J1 (0 + 1) ((10 + l : Nat) : Int).toNat = J 1 (10 + l) := g1 1 (10 + l) (o1 _)
    have v2 : J2 1 (10 + l) = J 1 (10 + l) + 1 := by
      rw [e2, if_pos ⟨rfl, rfl⟩, v1, wr32_i2 (by omega) (by omega)]
    have v3 : J3 (0 + 1) ((10 + l : Nat) : Int).toNat = J 1 (10 + l) + 1 := (g3 1 (10 + l) (o1 _)).trans v2
    rw [e4]
    by_cases y : q = 1 ∧ j = 10 + l
    · rw [if_pos (show q = 0 + 1 ∧ j = ((10 + l : Nat) : Int).toNat from y), v3, wr32_i2 (by omega) (by omega), y.1, y.2]
      omega
    · rw [if_neg (show ¬ (q = 0 + 1 ∧ j = ((10 + l : Nat) : Int).toNat) from y), g3 q j hq, e2, if_neg (show ¬ (q = 0 + 1 ∧ j = ((10 + l : Nat) : Int).toNat) from y)]
      exact g1 q j hq
  · rw [if_neg h1, if_pos eq00]
    exact par_zr (fun _ _ _ => rfl)
end
/-! how a TEXT's code is typed, piece by piece -/
/-- a piece leaves bs, whatever follows, if B more have room -/
def TYQ (B : Nat) (s : Int) (it : List (Int × Int)) (bs : List Bool) : Prop := ∀ (rest : List (Int × Int)) (st : List Bool) (n : Nat), st.length + B ≤ n → tyR n s (it ++ rest) st = tyR n s rest (bs ++ st)
theorem typ_of {B : Nat} {s : Int} {it : List (Int × Int)} {b : Bool} (h : TYQ B s it [b]) : TYP B s it b := by
  intro st
  have e := h [] st (st.length + B) (Nat.le_refl _)
  rw [List.append_nil] at e
  exact e
theorem tyq_mono {B B' : Nat} {s : Int} {it : List (Int × Int)} {bs : List Bool} (h : TYQ B s it bs) (hB : B ≤ B') : TYQ B' s it bs := fun rest st n hn => h rest st n (by omega)
theorem typ_mono {B B' : Nat} {s : Int} {it : List (Int × Int)} {b : Bool} (h : TYQ B s it [b]) (hB : B ≤ B') : TYP B' s it b := typ_of (tyq_mono h hB)
theorem ts_num {n : Nat} {s v : Int} {rest : List (Int × Int)} {st : List Bool} (hn : st.length < n) (hv : 0 ≤ v ∧ v ≤ 9999) : tyR n s ((0, v) :: rest) st = tyR n s rest (false :: st) := by
  rw [tyR, if_pos hn, if_pos rfl, if_pos hv]
theorem ts_unit {n : Nat} {s c v : Int} {rest : List (Int × Int)} {st : List Bool} (hn : st.length < n) (hc : 1 ≤ c ∧ c < 12) (hv : (s = 4 ∧ (c = 1 ∨ c = 7 ∨ c = 10 ∨ c = 11)) ∨ (s ≠ 4 ∧ c ≤ 9)) : tyR n s ((c, v) :: rest) st = tyR n s rest (false :: st) := by
  rw [tyR, if_pos hn, if_neg (show ¬ c = 0 by omega), if_pos (show c < 12 from hc.2), if_pos ⟨hc.1, hv⟩]
theorem ts_div {n : Nat} {s v : Int} {rest : List (Int × Int)} {a : Bool} {st : List Bool} (hn : st.length + 1 < n) (hv : 1 ≤ v ∧ v ≤ 9999) : tyR n s ((15, v) :: rest) (a :: st) = tyR n s rest (false :: st) := by
  rw [tyR, if_pos (show (a :: st).length < n from hn), if_neg (show ¬ (15 : Int) = 0 by decide), if_neg (show ¬ (15 : Int) < 12 by decide), if_pos (show (15 : Int) = 15 from rfl)]
  show (if 1 ≤ v ∧ v ≤ 9999 then _ else none) = _
  rw [if_pos hv]
theorem ts_not {n : Nat} {s v : Int} {rest : List (Int × Int)} {st : List Bool} (hn : st.length + 1 < n) : tyR n s ((19, v) :: rest) (true :: st) = tyR n s rest (true :: st) := by
  rw [tyR, if_pos (show (true :: st).length < n from hn), if_neg (show ¬ (19 : Int) = 0 by decide), if_neg (show ¬ (19 : Int) < 12 by decide), if_neg (show ¬ (19 : Int) = 15 by decide), if_pos (show (19 : Int) = 19 from rfl)]
theorem ts_ar {n : Nat} {s c v : Int} {rest : List (Int × Int)} {a b : Bool} {st : List Bool} (hn : st.length + 2 < n) (hc : c = 12 ∨ c = 13 ∨ c = 14) : tyR n s ((c, v) :: rest) (a :: b :: st) = tyR n s rest (false :: st) := by
  rw [tyR, if_pos (show (a :: b :: st).length < n from hn), if_neg (show ¬ c = 0 by omega), if_neg (show ¬ c < 12 by omega), if_neg (show ¬ c = 15 by omega), if_neg (show ¬ c = 19 by omega), if_pos (show c ≤ 14 by omega)]
theorem ts_cmp {n : Nat} {s c v : Int} {rest : List (Int × Int)} {a b : Bool} {st : List Bool} (hn : st.length + 2 < n) (hc : c = 16 ∨ c = 17 ∨ c = 18) : tyR n s ((c, v) :: rest) (a :: b :: st) = tyR n s rest (true :: st) := by
  rw [tyR, if_pos (show (a :: b :: st).length < n from hn), if_neg (show ¬ c = 0 by omega), if_neg (show ¬ c < 12 by omega), if_neg (show ¬ c = 15 by omega), if_neg (show ¬ c = 19 by omega), if_neg (show ¬ c ≤ 14 by omega), if_pos (show c ≤ 18 by omega)]
theorem ts_log {n : Nat} {s c v : Int} {rest : List (Int × Int)} {st : List Bool} (hn : st.length + 2 < n) (hc : c = 20 ∨ c = 21) : tyR n s ((c, v) :: rest) (true :: true :: st) = tyR n s rest (true :: st) := by
  rw [tyR, if_pos (show (true :: true :: st).length < n from hn), if_neg (show ¬ c = 0 by omega), if_neg (show ¬ c < 12 by omega), if_neg (show ¬ c = 15 by omega), if_neg (show ¬ c = 19 by omega), if_neg (show ¬ c ≤ 14 by omega), if_neg (show ¬ c ≤ 18 by omega), if_pos hc]
theorem tq_num {s v : Int} (hv : 0 ≤ v ∧ v ≤ 9999) : TYQ 1 s [(0, v)] [false] := fun rest st n hn => ts_num (by omega) hv
theorem tq_unit {s c v : Int} (hc : 1 ≤ c ∧ c < 12) (hv : (s = 4 ∧ (c = 1 ∨ c = 7 ∨ c = 10 ∨ c = 11)) ∨ (s ≠ 4 ∧ c ≤ 9)) : TYQ 1 s [(c, v)] [false] := fun rest st n hn => ts_unit (by omega) hc hv
/-- times -/
theorem tq_times {s : Int} {it it2 : List (Int × Int)} {bs : List Bool} (hb : bs.length ≤ 1) (h : TYQ 4 s it (false :: bs)) (h2 : TYQ 1 s it2 [false]) : TYQ 4 s (it ++ (it2 ++ [(14, 0)])) (false :: bs) := by
  intro rest st n hn
  rw [List.append_assoc, List.append_assoc, h _ st n hn, h2 _ _ n (by rw [List.length_append, List.length_cons]; omega)]
  exact ts_ar (by rw [List.length_append]; omega) (Or.inr (Or.inr rfl))
/-- part -/
theorem tq_part {s v : Int} {it : List (Int × Int)} {bs : List Bool} (hb : bs.length ≤ 1) (h : TYQ 4 s it (false :: bs)) (hv : 1 ≤ v ∧ v ≤ 9999) : TYQ 4 s (it ++ [(15, v)]) (false :: bs) := by
  intro rest st n hn
  rw [List.append_assoc, h _ st n hn]
  exact ts_div (by rw [List.length_append]; omega) hv
/-- what waits is laid -/
theorem tq_lay {s c : Int} {it : List (Int × Int)} (hc : c = 12 ∨ c = 13 ∨ c = 14) (h : TYQ 4 s it [false, false]) : TYQ 4 s (it ++ [(c, 0)]) [false] := by
  intro rest st n hn
  rw [List.append_assoc, h _ st n hn]
  exact ts_ar (by omega) hc
/-- one more product begins -/
theorem tq_more {s : Int} {it it2 : List (Int × Int)} (h : TYQ 4 s it [false]) (h2 : TYQ 1 s it2 [false]) : TYQ 4 s (it ++ it2) [false, false] := by
  intro rest st n hn
  rw [List.append_assoc, h _ st n hn, h2 _ _ n (by rw [List.length_append]; show 1 + st.length + 1 ≤ n; omega)]
  rfl
/-- a comparison -/
theorem tq_cmp {s c : Int} {it it2 : List (Int × Int)} (hc : c = 16 ∨ c = 17 ∨ c = 18) (h : TYQ 4 s it [false]) (h2 : TYQ 4 s it2 [false]) : TYQ 5 s (it ++ (it2 ++ [(c, 0)])) [true] := by
  intro rest st n hn
  rw [List.append_assoc, List.append_assoc, h _ st n (by omega), h2 _ _ n (by rw [List.length_append]; show 1 + st.length + 4 ≤ n; omega)]
  exact ts_cmp (by omega) hc
theorem tq_not {B : Nat} {s : Int} {it : List (Int × Int)} (hB : 2 ≤ B) (h : TYQ B s it [true]) : TYQ B s (it ++ [(19, 0)]) [true] := by
  intro rest st n hn
  rw [List.append_assoc, h _ st n hn]
  exact ts_not (by omega)
/-- and, or: with what waits below -/
theorem tq_log {B : Nat} {s c : Int} {it it2 : List (Int × Int)} {bs : List Bool} (hc : c = 20 ∨ c = 21) (hb : bs.length ≤ 1) (hB : 3 ≤ B) (h : TYQ (B + 2) s it (true :: bs)) (h2 : TYQ B s it2 [true]) : TYQ (B + 2) s (it ++ (it2 ++ [(c, 0)])) (true :: bs) := by
  intro rest st n hn
  rw [List.append_assoc, List.append_assoc, h _ st n hn, h2 _ _ n (by rw [List.length_append, List.length_cons]; omega)]
  exact ts_log (by rw [List.length_append]; omega) hc
theorem tq_lay2 {B : Nat} {s c : Int} {it : List (Int × Int)} (hc : c = 20 ∨ c = 21) (hB : 1 ≤ B) (h : TYQ (B + 2) s it [true, true]) : TYQ (B + 2) s (it ++ [(c, 0)]) [true] := by
  intro rest st n hn
  rw [List.append_assoc, h _ st n hn]
  exact ts_log (by omega) hc
theorem tq_more2 {B : Nat} {s : Int} {it it2 : List (Int × Int)} (h : TYQ (B + 2) s it [true]) (h2 : TYQ B s it2 [true]) : TYQ (B + 2) s (it ++ it2) [true, true] := by
  intro rest st n hn
  rw [List.append_assoc, h _ st n hn, h2 _ _ n (by rw [List.length_append]; show 1 + st.length + B ≤ n; omega)]
  rfl
/-! both parsers, and how what is laid is typed -/
def OUQ (B : Nat) (b : Bool) (T : TXT) (d : Int) (t : Nat) (xs : List Int) (ps : List (Int × Int)) (I : IMem) (y : Int) (J : IMem) : Prop :=
  (y = 1 ∧ ∃ (t' : Nat) (it : List (Int × Int)), t < t' ∧ (enc it).length + t ≤ t' ∧ it.length + t ≤ t' ∧ PSt T d t' (xs ++ enc it) (ps ++ it) I J ∧ TYQ B T.s it [b]) ∨ (y = 0 ∧ BDt I J)
theorem ouq_bad {B : Nat} {b : Bool} {T : TXT} {d : Int} {t : Nat} {xs : List Int} {ps : List (Int × Int)} {I : IMem} {J : IMem} (h : BDt I J) : OUQ B b T d t xs ps I 0 J := Or.inr ⟨rfl, h⟩
theorem tm_u {s k : Int} (h : isU s k) : (1 ≤ tm s k - 40 ∧ tm s k - 40 < 12) ∧ ((s = 4 ∧ (tm s k - 40 = 1 ∨ tm s k - 40 = 7 ∨ tm s k - 40 = 10 ∨ tm s k - 40 = 11)) ∨ (s ≠ 4 ∧ tm s k - 40 ≤ 9)) := by
  rcases h with ⟨hs, h1, h2⟩ | ⟨hs, h1, h2⟩
  · subst hs
    rcases (show k = 5 ∨ k = 6 ∨ k = 7 ∨ k = 8 by omega) with e | e | e | e <;> subst e <;> decide
  · have e : tm s k = if k = 7 then 41 else if k = 8 then 47 else if k = 9 then 42 else if k = 10 then 43 else if k = 11 then 44 else if k = 12 then 45 else if k = 13 then 46 else if k = 14 then 48 else 49 := by
      rcases (show k = 7 ∨ k = 8 ∨ k = 9 ∨ k = 10 ∨ k = 11 ∨ k = 12 ∨ k = 13 ∨ k = 14 ∨ k = 15 by omega) with e | e | e | e | e | e | e | e | e <;> subst e <;> unfold tm <;> simp [hs]
    have b : 41 ≤ tm s k ∧ tm s k ≤ 49 := by
      rw [e]
      rcases (show k = 7 ∨ k = 8 ∨ k = 9 ∨ k = 10 ∨ k = 11 ∨ k = 12 ∨ k = 13 ∨ k = 14 ∨ k = 15 by omega) with e | e | e | e | e | e | e | e | e <;> subst e <;> decide
    exact ⟨by omega, Or.inr ⟨hs, by omega⟩⟩
theorem unit2q {T : TXT} {d : Int} {t : Nat} {xs : List Int} {ps : List (Int × Int)} {I J : IMem} (fu : Nat) (h : PSt T d t xs ps I J) : par2 (f_R_readUnit fu 144 I) (f_X_unit fu 0 J) (OUQ 1 false T d t xs ps) := by
  obtain ⟨ho, hc, hj, ht, hx, hp⟩ := h
  refine par2_of (cunit fu ho hc ht hx) (xunit fu ho hj ht hp) (fun I' y J' p1 p2 => ?_)
  have hk := okt_k ho ht
  rcases p1 with ⟨b1, b2, b3⟩ | ⟨b1, b2, b3⟩ | ⟨b1, b2, b3⟩
  · rcases p2 with ⟨c1, c2, c3⟩ | ⟨c1, c2, c3⟩ | ⟨c1, c2, c3, c4⟩
    · refine Or.inl ⟨c2, t + 1, [(0, T.V t)], Nat.lt_succ_self _, ?_, ?_, ⟨ho, ?_, c3, b2, ?_, ?_⟩, tq_num (hk.2.2 b1)⟩
      · rw [enc_one]; show 1 + t ≤ t + 1; omega
      · show 1 + t ≤ t + 1; omega
      · rw [enc_one]; exact b3
      · rw [enc_one, List.length_append]; show xs.length + 1 ≤ t + 1; omega
      · rw [List.length_append]; show ps.length + 1 ≤ t + 1; omega
    · unfold isU at c1; omega
    · exact absurd b1 c1
  · rcases p2 with ⟨c1, c2, c3⟩ | ⟨c1, c2, v, c3⟩ | ⟨c1, c2, c3, c4⟩
    · unfold isU at b1; omega
    · have e := (tm_all (s := T.s) hk.1).2.2.2.2.2.2.2.2.2 c1 v
      refine Or.inl ⟨c2, t + 1, [(tm T.s (T.K t) - 40, v)], Nat.lt_succ_self _, ?_, ?_, ⟨ho, ?_, c3, b2, ?_, ?_⟩, tq_unit (tm_u c1).1 (tm_u c1).2⟩
      · rw [enc_one, e]; show 1 + t ≤ t + 1; omega
      · show 1 + t ≤ t + 1; omega
      · rw [enc_one, e]; exact b3
      · rw [enc_one, e, List.length_append]; show xs.length + 1 ≤ t + 1; omega
      · rw [List.length_append]; show ps.length + 1 ≤ t + 1; omega
    · exact absurd b1 c2
  · rcases p2 with ⟨c1, c2, c3⟩ | ⟨c1, c2, c3⟩ | ⟨c1, c2, c3, c4⟩
    · exact absurd c1 b1
    · exact absurd c1 b2
    · exact Or.inr ⟨c3, 1, T.P t, by decide, b3, c4⟩

def OUDq (T : TXT) (d : Int) (t : Nat) (xs : List Int) (ps : List (Int × Int)) (Jv : Int) (I : IMem) (y : Int) (J : IMem) : Prop :=
  (y = 1 ∧ ∃ v, Jv = v ∧ (1 ≤ v ∧ v ≤ 9999) ∧ CTk T (t + 1) (xs ++ [v, -4]) I ∧ t + 1 ≤ T.n ∧ JTk T d (t + 1) ps J) ∨ (y = 0 ∧ BDt I J)
theorem div2q {T : TXT} {d : Int} {t : Nat} {xs : List Int} {ps : List (Int × Int)} {I J : IMem} (fu : Nat) (h : PSt T d t xs ps I J) (hx1 : xs.length < t) : par2 (f_R_readDivisor fu 144 I) (f_X_number fu 0 1 9999 J) (OUDq T d t xs ps (J 0 16)) := by
  obtain ⟨ho, hc, hj, ht, hx, hp⟩ := h
  have hk := okt_k ho ht
  have hn := ho.1.2.1
  obtain ⟨a0, a2, a3, a4, a5, a6, a7, aU, aS, aE⟩ := tm_all (s := T.s) hk.1
  unfold f_R_readDivisor f_X_number
  rw [hc.2.1, hc.2.2.1, hj.2.2.2.2.1]
  refine par2_il (fun c => ?_) (fun c => ?_)
  · rw [if_pos (a2.mpr c), hj.2.2.2.2.2.1 c]
    have hv := hk.2.2 c
    have htn : t < T.n := by have := hk.2.1; omega
    refine par2_br (par_isIn fu _ 1 9999 J) (fun y J1 ⟨e, hy⟩ => ?_)
    subst e
    refine par2_il (fun c0 => ?_) (fun c0 => ?_)
    · rw [if_pos (hy.mpr (by omega))]
      refine par2_br (jt_bad fu 2 hj) (fun y2 J2 g2 => par2_gr (fun _ => ?_))
      rw [g2.1]
      exact par2_l (par_zb (ct_fail fu 2 ho hc ht) (fun _ I1 f1 => par_zr (Or.inr ⟨rfl, 2, _, by decide, f1, g2.2⟩)))
    · rw [if_neg (fun x => by have := hy.mp x; omega)]
      refine par2_br (jt_next fu ho hj htn) (fun y2 J2 j2 => ?_)
      refine par2_l (par_zb (ct_add fu _ hc (by omega)) (fun _ I1 c1 => par_zb (ct_add fu (-4) c1 ?_) (fun _ I2 c2 => par_zb (ct_adv fu ho c2 htn) (fun _ I3 c3 => par_zr (Or.inl ⟨rfl, T.V t, rfl, ⟨by omega, by omega⟩, ?_, htn, j2⟩)))))
      · rw [List.length_append]; show xs.length + 1 < 400; omega
      · rw [List.append_assoc] at c3; exact c3
  · rw [if_neg (fun x => c (a2.mp x))]
    refine par2_br (jt_bad fu 1 hj) (fun y2 J2 g2 => par2_gr (fun _ => ?_))
    rw [g2.1]
    exact par2_l (par_zb (ct_fail fu 1 ho hc ht) (fun _ I1 f1 => par_zr (Or.inr ⟨rfl, 1, _, by decide, f1, g2.2⟩)))
def LPq (T : TXT) (d : Int) (t0 t : Nat) (xs0 : List Int) (ps0 it : List (Int × Int)) (w1 : Int) (I J : IMem) : Prop := ∃ k, WT w1 k ∧ t0 < t ∧ (enc it).length + k + t0 ≤ t ∧ it.length + k + t0 ≤ t ∧ PSt T d t (xs0 ++ enc it) (ps0 ++ it) I J ∧ xs0.length ≤ t0 ∧ ps0.length ≤ t0 ∧ ((w1 = 0 ∧ TYQ 4 T.s it [false]) ∨ (w1 ≠ 0 ∧ TYQ 4 T.s it [false, false]))
theorem lp_layq {T : TXT} {d : Int} {t0 t : Nat} {xs0 : List Int} {ps0 it : List (Int × Int)} {w1 : Int} {I J : IMem} (fu : Nat) (hw : w1 ≠ 0) (h : LPq T d t0 t xs0 ps0 it w1 I J) : ∃ it', par (f_W_addStep fu 149 w1 I) (fun _ I' => CTk T t (xs0 ++ enc it') I') ∧ par (f_X_lay fu 0 (if w1 = -1 then 12 else 13) 0 J) (fun _ J' => JTk T d t (ps0 ++ it') J') ∧ (enc it').length + t0 ≤ t ∧ it'.length + t0 ≤ t ∧ TYQ 4 T.s it' [false] := by
  obtain ⟨k, hk, h1, h2, h3, ⟨ho, hc, hj, ht, hx, hp⟩, h5, h6, h7⟩ := h
  have hn := ho.1.2.1
  rcases hk with ⟨e, _⟩ | ⟨e, ek⟩
  · exact absurd e hw
  rw [List.length_append] at hx hp
  have g := lay_w fu w1 e ho hc (by rw [List.length_append]; omega) hj (by rw [List.length_append]; omega)
  have hl := wt_len (w1 := w1) (it := it)
  refine ⟨it ++ [((if w1 = -1 then (12 : Int) else 13), 0)], ?_, ?_, ?_, ?_, ?_⟩
  · rw [enc_app, ← List.append_assoc]; exact g.1
  · rw [← List.append_assoc]; exact g.2
  · rw [enc_app, List.length_append, hl.1]; omega
  · rw [List.length_append, hl.2]; omega
  · rcases h7 with ⟨z, _⟩ | ⟨_, z⟩
    · exact absurd z hw
    · refine tq_lay ?_ z
      rcases e with e | e
      · rw [if_pos e]; exact Or.inl rfl
      · rw [if_neg (by omega)]; exact Or.inr (Or.inl rfl)
theorem sum8q {T : TXT} {d : Int} {t0 : Nat} {xs0 : List Int} {ps0 : List (Int × Int)} (fu : Nat) : ∀ (m m2 m3 : Nat) (w1 w2 : Int) (t : Nat) (it : List (Int × Int)) (I J : IMem), LPq T d t0 t xs0 ps0 it w1 I J → 0 ≤ w2 → w2 < t → par2 (f_R_readSum_8 fu (kSum fu) 144 m w1 w2 I) (zb (f_X_product_9 fu 0 m2 J) (konT fu m3 w1)) (OUQ 4 false T d t0 xs0 ps0) := by
  intro m
  induction m with
  | zero => intro m2 m3 w1 w2 t it I J _ _ _; exact par2_nl
  | succ m ih =>
    intro m2 m3 w1 w2 t it I J h hw0 hw2
    cases m2 with
    | zero => intro x I' y J' e1 e2; cases e2
    | succ m2 =>
    have h0 := h
    obtain ⟨k, hk, h1, h2, h3, hps, h5, h6, h7⟩ := h0
    have hps0 := hps
    obtain ⟨ho, hc, hj, ht, hx, hp⟩ := hps0
    have hn := ho.1.2.1
    have hkd := okt_k ho ht
    obtain ⟨a0, a2, a3, a4, a5, a6, a7, aU, aS, aE⟩ := tm_all (s := T.s) hkd.1
    have e142 := aS 142 (by omega)
    have e143 := aS 143 (by omega)
    have e145 := aS 145 (by omega)
    have e147 := aS 147 (by omega)
    have hK := hc.2.1
    have h10 := hc.2.2.2.1
    have hJ := hj.2.2.2.2.1
    rw [← hJ] at e142 e143 e145 e147
    have hlx := hx
    have hlp := hp
    rw [List.length_append] at hlx hlp
    have hwb : 0 ≤ w2 ∧ w2 < 400 := by omega
    by_cases c42 : T.K t = 42
    · -- times
      have htn : t < T.n := by have := hkd.2.1; omega
      rw [cs_times (hK.trans c42) hwb h10, xp_times (e142.mpr (by omega)), zb_assoc]
      refine par2_bl (ct_adv fu ho hc htn) (fun _ I1 c1 => par2_br (jt_next fu ho hj htn) (fun _ J1 j1 => ?_))
      rw [zb_assoc]
      have ps1 : PSt T d (t + 1) (xs0 ++ enc it) (ps0 ++ it) I1 J1 := ⟨ho, c1, j1, htn, by omega, by omega⟩
      refine par2_b (unit2q fu ps1) (fun _ I2 y J2 _ _ ou => ?_)
      rcases ou with ⟨ey, t2, it2, g1, g2, g3, g4, g5⟩ | ⟨ey, bd⟩
      · rw [if_neg (by omega), zb_assoc]
        obtain ⟨_, c2, j2, ht2, hx2, hp2⟩ := g4
        have l2 := hx2
        have lp2 := hp2
        rw [List.length_append, List.length_append] at l2 lp2
        refine par2_bl (ct_add fu (-3) c2 (by rw [List.length_append, List.length_append]; omega)) (fun _ I3 c3 => par2_br (jt_lay fu 14 0 j2 (by rw [List.length_append, List.length_append]; omega)) (fun _ J3 j3 => ?_))
        have en : enc (it ++ (it2 ++ [(14, 0)])) = enc it ++ (enc it2 ++ [-3]) := by rw [enc_app, enc_app, enc_one]; rfl
        refine ih m2 m3 w1 (w2 + 1) t2 (it ++ (it2 ++ [(14, 0)])) I3 J3 ⟨k, hk, by omega, ?_, ?_, ⟨ho, ?_, ?_, ht2, ?_, ?_⟩, h5, h6, h7.imp (fun z => ⟨z.1, tq_times (Nat.zero_le _) z.2 g5⟩) (fun z => ⟨z.1, tq_times (Nat.le_refl _) z.2 g5⟩)⟩ (by omega) (by omega)
        · rw [en]; simp only [List.length_append, List.length_cons, List.length_nil]; omega
        · simp only [List.length_append, List.length_cons, List.length_nil]; omega
        · rw [en]; simpa only [List.append_assoc] using c3
        · simpa only [List.append_assoc] using j3
        · rw [en]; simp only [List.length_append, List.length_cons, List.length_nil]; omega
        · simp only [List.length_append, List.length_cons, List.length_nil]; omega
      · subst ey
        rw [if_pos rfl]
        refine kon_0 (par_zb (sk_add fu _ I2) (fun _ I3 f3 => par_mono (sk_sum8 fu m w1 _ I3 (fst_n f3 (bd_n bd))) (fun _ I4 f4 => ouq_bad (bd_fst bd (fst_t f3 f4)))))
    by_cases c47 : T.K t = 47
    · -- part
      have htn : t < T.n := by have := hkd.2.1; omega
      rw [cs_part (hK.trans c47) hwb h10, xp_part (e147.mpr (by omega)), zb_assoc]
      refine par2_bl (ct_adv fu ho hc htn) (fun _ I1 c1 => par2_br (jt_next fu ho hj htn) (fun _ J1 j1 => ?_))
      rw [zb_assoc]
      have ps1 : PSt T d (t + 1) (xs0 ++ enc it) (ps0 ++ it) I1 J1 := ⟨ho, c1, j1, htn, by omega, by omega⟩
      refine par2_b (div2q fu ps1 (by rw [List.length_append]; omega)) (fun _ I2 y J2 _ _ ou => ?_)
      rcases ou with ⟨ey, v, ev, vr, c2, ht2, j2⟩ | ⟨ey, bd⟩
      · rw [if_neg (by omega), zb_assoc, ev]
        refine par2_br (jt_lay fu 15 v j2 (by rw [List.length_append]; omega)) (fun _ J3 j3 => ?_)
        have en : enc (it ++ [(15, v)]) = enc it ++ [v, -4] := by rw [enc_app, enc_one]; rfl
        refine ih m2 m3 w1 (w2 + 1) (t + 1 + 1) (it ++ [(15, v)]) I2 J3 ⟨k, hk, by omega, ?_, ?_, ⟨ho, ?_, ?_, ht2, ?_, ?_⟩, h5, h6, h7.imp (fun z => ⟨z.1, tq_part (Nat.zero_le _) z.2 vr⟩) (fun z => ⟨z.1, tq_part (Nat.le_refl _) z.2 vr⟩)⟩ (by omega) (by omega)
        · rw [en]; simp only [List.length_append, List.length_cons, List.length_nil]; omega
        · simp only [List.length_append, List.length_cons, List.length_nil]; omega
        · rw [en]; simpa only [List.append_assoc] using c2
        · simpa only [List.append_assoc] using j3
        · rw [en]; simp only [List.length_append, List.length_cons, List.length_nil]; omega
        · simp only [List.length_append, List.length_cons, List.length_nil]; omega
      · subst ey
        rw [if_pos rfl]
        refine kon_0 (par_mono (sk_sum8 fu m w1 _ I2 (bd_n bd)) (fun _ I4 f4 => ouq_bad (bd_fst bd f4)))
    rw [xp_end (fun x => c42 (by have := e142.mp x; omega)) (fun x => c47 (by have := e147.mp x; omega))]
    show par2 _ (konT fu m3 w1 1 J) _
    unfold konT
    rw [if_neg (by decide)]
    by_cases cpm : T.K t = 43 ∨ T.K t = 45
    · -- plus, minus
      have htn : t < T.n := by have := hkd.2.1; omega
      obtain ⟨how, hhow⟩ : ∃ how : Int, (T.K t = 43 ∧ how = -1) ∨ (T.K t = 45 ∧ how = -2) := by
        rcases cpm with q | q
        · exact ⟨-1, Or.inl ⟨q, rfl⟩⟩
        · exact ⟨-2, Or.inr ⟨q, rfl⟩⟩
      rw [cs_go how (by rw [hK]; exact hhow) hwb h10]
      have go : ∀ (it' : List (Int × Int)) (I1 J1 : IMem) (m3 : Nat), CTk T (t + 1) (xs0 ++ enc it') I1 → JTk T d t (ps0 ++ it') J1 → (enc it').length + t0 ≤ t → it'.length + t0 ≤ t → TYQ 4 T.s it' [false] → par2 (zb (f_R_readUnit fu 144 I1) fun _ I20 => f_R_readSum_8 fu (kSum fu) 144 m how (w2 + 1) I20) (f_X_sumUp_9 fu 0 m3 J1) (OUQ 4 false T d t0 xs0 ps0) := by
        intro it' I1 J1 m3 c1 j1 l1 l2 l3
        cases m3 with
        | zero => exact par2_nr
        | succ m3 =>
        rw [xs_go (if how = -1 then 12 else 13) (by
          have hJ1 := j1.2.2.2.2.1
          rw [hJ1, ← hJ]
          rcases hhow with ⟨q, e⟩ | ⟨q, e⟩
          · exact Or.inl ⟨e143.mpr (by omega), if_pos e⟩
          · exact Or.inr ⟨e145.mpr (by omega), if_neg (by omega)⟩)]
        refine par2_br (jt_next fu ho j1 htn) (fun _ J2 j2 => ?_)
        unfold f_X_product
        rw [zb_assoc]
        have ps2 : PSt T d (t + 1) (xs0 ++ enc it') (ps0 ++ it') I1 J2 := ⟨ho, c1, j2, htn, by rw [List.length_append]; omega, by rw [List.length_append]; omega⟩
        refine par2_b (unit2q fu ps2) (fun _ I3 y J3 _ _ ou => ?_)
        rcases ou with ⟨ey, t2, it2, g1, g2, g3, g4, g5⟩ | ⟨ey, bd⟩
        · rw [if_neg (by omega)]
          have hkon : (fun (y12 : Int) (I13 : IMem) => if y12 = 0 then zr 0 I13 else zb (f_X_lay fu 0 (if how = -1 then 12 else 13) 0 I13) fun _ I16 => f_X_sumUp_9 fu 0 m3 I16) = konT fu m3 how := by
            unfold konT
            funext y12 I13
            rw [if_neg (c := how = 0) (by omega)]
          rw [hkon]
          have en : enc (it' ++ it2) = enc it' ++ enc it2 := enc_app _ _
          refine ih fu m3 how (w2 + 1) t2 (it' ++ it2) I3 J3 ⟨1, Or.inr ⟨by omega, rfl⟩, by omega, ?_, ?_, ?_, h5, h6, Or.inr ⟨by omega, tq_more l3 g5⟩⟩ (by omega) (by omega)
          · rw [en, List.length_append]; omega
          · rw [List.length_append]; omega
          · rw [en, ← List.append_assoc, ← List.append_assoc]; exact g4
        · subst ey
          rw [if_pos rfl]
          show par2 _ (zr 0 J3) _
          exact par2_l (par_mono (sk_sum8 fu m _ _ I3 (bd_n bd)) (fun _ I4 f4 => ouq_bad (bd_fst bd f4)))
      refine par2_bl (ct_adv fu ho hc htn) (fun _ I1 c1 => ?_)
      by_cases hw : w1 = 0
      · rw [if_pos hw, if_pos hw]
        exact go it I1 J m3 c1 hj (by omega) (by omega) (h7.elim (fun z => z.2) (fun z => absurd hw z.1))
      · rw [if_neg hw, if_neg hw]
        rcases hk with ⟨e, _⟩ | ⟨e, ek⟩
        · exact absurd e hw
        have gl := lay_w (xs := xs0 ++ enc it) (ps := ps0 ++ it) fu w1 e ho c1 (by rw [List.length_append]; omega) hj (by rw [List.length_append]; omega)
        have hl := wt_len (w1 := w1) (it := it)
        refine par2_bl gl.1 (fun _ I2 c2 => par2_br gl.2 (fun _ J2 j2 => ?_))
        refine go (it ++ [((if w1 = -1 then (12 : Int) else 13), 0)]) I2 J2 m3 ?_ ?_ ?_ ?_ ?_
        · rw [enc_app, ← List.append_assoc]; exact c2
        · rw [← List.append_assoc]; exact j2
        · rw [enc_app, List.length_append, hl.1]; omega
        · rw [List.length_append, hl.2]; omega
        · rcases h7 with ⟨z, _⟩ | ⟨_, z⟩
          · exact absurd z hw
          · refine tq_lay ?_ z
            rcases e with e | e
            · rw [if_pos e]; exact Or.inl rfl
            · rw [if_neg (by omega)]; exact Or.inr (Or.inl rfl)
    · -- the end
      rw [cs_end (by rw [hK]; exact c42) (by rw [hK]; exact c47) (by rw [hK]; exact fun x => cpm (Or.inl x)) (by rw [hK]; exact fun x => cpm (Or.inr x)) hwb h10]
      unfold kSum
      have fin : ∀ (m3 : Nat) (J1 : IMem), J1 0 14 = J 0 14 → f_X_sumUp_9 fu 0 m3 J1 = none ∨ f_X_sumUp_9 fu 0 m3 J1 = zr 1 J1 := by
        intro m3 J1 e
        cases m3 with
        | zero => exact Or.inl rfl
        | succ m3 => exact Or.inr (xs_end (by rw [e]; exact fun x => cpm (Or.inl (by have := e143.mp x; omega))) (by rw [e]; exact fun x => cpm (Or.inr (by have := e145.mp x; omega))))
      by_cases hw : w1 = 0
      · rw [if_pos hw, if_pos hw]
        rcases fin m3 J rfl with e | e
        · rw [e]; exact par2_nr
        · rw [e]
          exact par2_end (Or.inl ⟨rfl, t, it, h1, by omega, by omega, hps, h7.elim (fun z => z.2) (fun z => absurd hw z.1)⟩)
      · rw [if_neg hw, if_neg hw]
        obtain ⟨it', p1, p2, l1, l2, l3⟩ := lp_layq fu hw h
        refine par2_bl p1 (fun _ I2 c2 => par2_br p2 (fun _ J2 j2 => ?_))
        rcases fin m3 J2 (j2.2.2.2.2.1.trans hJ.symm) with e | e
        · rw [e]; exact par2_nr
        · rw [e]
          exact par2_end (Or.inl ⟨rfl, t, it', h1, l1, l2, ⟨ho, c2, j2, ht, by rw [List.length_append]; omega, by rw [List.length_append]; omega⟩, l3⟩)
theorem sum2q {T : TXT} {d : Int} {t : Nat} {xs : List Int} {ps : List (Int × Int)} {I J : IMem} (fu : Nat) (h : PSt T d t xs ps I J) : par2 (f_R_readSum fu 144 I) (f_X_sumUp fu 0 J) (OUQ 4 false T d t xs ps) := by
  unfold f_R_readSum f_X_sumUp f_X_product
  rw [zb_assoc]
  refine par2_b (unit2q fu h) (fun _ I1 y J1 _ _ ou => ?_)
  rcases ou with ⟨ey, t2, it2, g1, g2, g3, g4, g5⟩ | ⟨ey, bd⟩
  · rw [if_neg (by omega)]
    have hkon : (fun (y1 : Int) (I2 : IMem) => if y1 = 0 then zr 0 I2 else f_X_sumUp_9 fu 0 fu I2) = konT fu fu 0 := by
      unfold konT
      funext y1 I2
      rw [if_pos (c := (0 : Int) = 0) rfl]
    rw [hkon]
    exact sum8q fu fu fu fu 0 0 t2 it2 I1 J1 ⟨0, Or.inl ⟨rfl, rfl⟩, g1, by omega, by omega, g4, h.2.2.2.2.1, h.2.2.2.2.2, Or.inl ⟨rfl, tyq_mono g5 (by decide)⟩⟩ (by omega) (by omega)
  · subst ey
    rw [if_pos rfl]
    show par2 _ (zr 0 J1) _
    exact par2_l (par_mono (sk_sum8q fu fu _ _ I1 (bd_n bd)) (fun _ I4 f4 => ouq_bad (bd_fst bd f4)))

/-! tests, typed -/
def BQ (a : Int) : Nat := 5 + 2 * (8 - a).toNat
theorem bq_s {a : Int} (h : 0 ≤ a ∧ a < 8) : BQ (a + 1) + 2 = BQ a := by unfold BQ; omega
theorem bq_5 (a : Int) : 5 ≤ BQ a := by unfold BQ; omega
def TCq (fu k k' : Nat) (T : TXT) : Prop := ∀ (a : Int) (t : Nat) (xs : List Int) (ps : List (Int × Int)) (I J : IMem), 0 ≤ a → a ≤ 8 → PSt T a t xs ps I J → par2 ((gRD fu k).2 144 a I) ((gXA fu k').2.2 0 J) (OUQ (BQ a) true T a t xs ps)
def ECq (fu k k' : Nat) (T : TXT) : Prop := ∀ (a : Int) (t : Nat) (xs : List Int) (ps : List (Int × Int)) (I J : IMem), 0 ≤ a → a ≤ 8 → PSt T a t xs ps I J → par2 ((gRD fu k).1 144 a I) ((gXA fu k').1 0 J) (OUQ (BQ a + 2) true T a t xs ps)
def LPr (T : TXT) (d : Int) (t0 t : Nat) (xs0 : List Int) (ps0 it : List (Int × Int)) (w : Int) (I J : IMem) : Prop := ∃ k : Nat, ((w = 0 ∧ k = 0) ∨ (w = 1 ∧ k = 1)) ∧ t0 < t ∧ (enc it).length + k + t0 ≤ t ∧ it.length + k + t0 ≤ t ∧ PSt T d t (xs0 ++ enc it) (ps0 ++ it) I J ∧ xs0.length ≤ t0 ∧ ps0.length ≤ t0 ∧ ((w = 0 ∧ TYQ (BQ d + 2) T.s it [true]) ∨ (w ≠ 0 ∧ TYQ (BQ d + 2) T.s it [true, true]))
theorem ei9q {T : TXT} {a : Int} {t0 : Nat} {xs0 : List Int} {ps0 : List (Int × Int)} (fu k k' : Nat) (ha0 : 0 ≤ a ∧ a ≤ 8) (tc : TCq fu k k' T) : ∀ (m m2 m3 : Nat) (w2 w3 : Int) (t : Nat) (it : List (Int × Int)) (I J : IMem), LPr T a t0 t xs0 ps0 it w2 I J → 0 ≤ w3 → w3 < t → par2 (f_R_readEither_9 fu (gRD fu k) (kEi fu) 144 a m w2 w3 I) (zb (f_X_every_9 fu (gXA fu k') 0 m2 J) (konA fu k' m3 w2)) (OUQ (BQ a + 2) true T a t0 xs0 ps0) := by
  intro m
  induction m with
  | zero => intro m2 m3 w1 w2 t it I J _ _ _; exact par2_nl
  | succ m ih =>
    intro m2 m3 w1 w2 t it I J h hw0 hw2
    cases m2 with
    | zero => intro x I' y J' e1 e2; cases e2
    | succ m2 =>
    have h0 := h
    obtain ⟨k1, hk, h1, h2, h3, hps, h5, h6, h7⟩ := h0
    have b5 := bq_5 a
    have hps0 := hps
    obtain ⟨ho, hc, hj, ht, hx, hp⟩ := hps0
    have hn := ho.1.2.1
    have hkd := okt_k ho ht
    obtain ⟨a0, a2, a3, a4, a5, a6, a7, aU, aS, aE⟩ := tm_all (s := T.s) hkd.1
    have hK := hc.2.1
    have h10 := hc.2.2.2.1
    have hJ := hj.2.2.2.2.1
    rw [← hJ] at a4 a5
    have hlx := hx
    have hlp := hp
    rw [List.length_append] at hlx hlp
    have hwb : 0 ≤ w2 ∧ w2 < 400 := by omega
    by_cases c3 : T.K t = 3
    · -- and
      have htn : t < T.n := by have := hkd.2.1; omega
      rw [ce_and (hK.trans c3) hwb h10, xe_and (a5.mpr c3), zb_assoc]
      refine par2_bl (ct_adv fu ho hc htn) (fun _ I1 c1 => par2_br (jt_next fu ho hj htn) (fun _ J1 j1 => ?_))
      rw [zb_assoc]
      have ps1 : PSt T a (t + 1) (xs0 ++ enc it) (ps0 ++ it) I1 J1 := ⟨ho, c1, j1, htn, by omega, by omega⟩
      refine par2_b (tc a _ _ _ I1 J1 ha0.1 ha0.2 ps1) (fun _ I2 y J2 _ _ ou => ?_)
      rcases ou with ⟨ey, t2, it2, g1, g2, g3, g4, g5⟩ | ⟨ey, bd⟩
      · rw [if_neg (by omega), zb_assoc]
        obtain ⟨_, c2, j2, ht2, hx2, hp2⟩ := g4
        have l2 := hx2
        have lp2 := hp2
        rw [List.length_append, List.length_append] at l2 lp2
        refine par2_bl (ct_add fu (-8) c2 (by rw [List.length_append, List.length_append]; omega)) (fun _ I3 c3 => par2_br (jt_lay fu 20 0 j2 (by rw [List.length_append, List.length_append]; omega)) (fun _ J3 j3 => ?_))
        have en : enc (it ++ (it2 ++ [(20, 0)])) = enc it ++ (enc it2 ++ [-8]) := by rw [enc_app, enc_app, enc_one]; rfl
        refine ih m2 m3 w1 (w2 + 1) t2 (it ++ (it2 ++ [(20, 0)])) I3 J3 ⟨k1, hk, by omega, ?_, ?_, ⟨ho, ?_, ?_, ht2, ?_, ?_⟩, h5, h6, h7.imp (fun z => ⟨z.1, tq_log (Or.inl rfl) (Nat.zero_le _) (by omega) z.2 g5⟩) (fun z => ⟨z.1, tq_log (Or.inl rfl) (Nat.le_refl _) (by omega) z.2 g5⟩)⟩ (by omega) (by omega)
        · rw [en]; simp only [List.length_append, List.length_cons, List.length_nil]; omega
        · simp only [List.length_append, List.length_cons, List.length_nil]; omega
        · rw [en]; simpa only [List.append_assoc] using c3
        · simpa only [List.append_assoc] using j3
        · rw [en]; simp only [List.length_append, List.length_cons, List.length_nil]; omega
        · simp only [List.length_append, List.length_cons, List.length_nil]; omega
      · subst ey
        rw [if_pos rfl]
        refine konA_0 (par_zb (sk_add fu _ I2) (fun _ I3 f3 => par_mono (sk_ei9 fu _ a m w1 _ I3 (fst_n f3 (bd_n bd))) (fun _ I4 f4 => ouq_bad (bd_fst bd (fst_t f3 f4)))))
    rw [xe_end (fun x => c3 (a5.mp x))]
    show par2 _ (konA fu k' m3 w1 1 J) _
    unfold konA
    rw [if_neg (by decide)]
    by_cases c2 : T.K t = 2
    · -- or
      have htn : t < T.n := by have := hkd.2.1; omega
      rw [ce_or (hK.trans c2) hwb h10]
      have go : ∀ (it' : List (Int × Int)) (I1 J1 : IMem) (m3 : Nat), CTk T (t + 1) (xs0 ++ enc it') I1 → JTk T a t (ps0 ++ it') J1 → (enc it').length + t0 ≤ t → it'.length + t0 ≤ t → TYQ (BQ a + 2) T.s it' [true] → par2 (zb ((gRD fu k).2 144 a I1) fun _ I15 => f_R_readEither_9 fu (gRD fu k) (kEi fu) 144 a m 1 (w2 + 1) I15) (f_X_any_9 fu (gXA fu (k' + 1)) 0 m3 J1) (OUQ (BQ a + 2) true T a t0 xs0 ps0) := by
        intro it' I1 J1 m3 c1 j1 l1 l2 l3
        cases m3 with
        | zero => exact par2_nr
        | succ m3 =>
        rw [xa_or (by rw [j1.2.2.2.2.1, ← hJ]; exact a4.mpr c2)]
        refine par2_br (jt_next fu ho j1 htn) (fun _ J2 j2 => ?_)
        show par2 _ (zb (fb_X_every fu (gXA fu k') 0 J2) _) _
        unfold fb_X_every
        rw [zb_assoc]
        have ps2 : PSt T a (t + 1) (xs0 ++ enc it') (ps0 ++ it') I1 J2 := ⟨ho, c1, j2, htn, by rw [List.length_append]; omega, by rw [List.length_append]; omega⟩
        refine par2_b (tc a _ _ _ I1 J2 ha0.1 ha0.2 ps2) (fun _ I3 y J3 _ _ ou => ?_)
        rcases ou with ⟨ey, t2, it2, g1, g2, g3, g4, g5⟩ | ⟨ey, bd⟩
        · rw [if_neg (by omega)]
          have hkon : (fun (y7 : Int) (I8 : IMem) => if y7 = 0 then zr 0 I8 else zb (f_X_lay fu 0 21 0 I8) fun _ I11 => f_X_any_9 fu (gXA fu (k' + 1)) 0 m3 I11) = konA fu k' m3 1 := by
            unfold konA
            funext y12 I13
            rw [if_neg (c := (1 : Int) = 0) (by decide)]
          rw [hkon]
          have en : enc (it' ++ it2) = enc it' ++ enc it2 := enc_app _ _
          refine ih fu m3 1 (w2 + 1) t2 (it' ++ it2) I3 J3 ⟨1, Or.inr ⟨rfl, rfl⟩, by omega, ?_, ?_, ?_, h5, h6, Or.inr ⟨by decide, tq_more2 l3 g5⟩⟩ (by omega) (by omega)
          · rw [en, List.length_append]; omega
          · rw [List.length_append]; omega
          · rw [en, ← List.append_assoc, ← List.append_assoc]; exact g4
        · subst ey
          rw [if_pos rfl]
          show par2 _ (zr 0 J3) _
          exact par2_l (par_mono (sk_ei9 fu _ a m _ _ I3 (bd_n bd)) (fun _ I4 f4 => ouq_bad (bd_fst bd f4)))
      refine par2_bl (ct_adv fu ho hc htn) (fun _ I1 c1 => ?_)
      by_cases hw : w1 = 0
      · rw [if_pos hw, if_pos hw]
        exact go it I1 J m3 c1 hj (by omega) (by omega) (h7.elim (fun z => z.2) (fun z => absurd hw z.1))
      · rw [if_neg hw, if_neg hw]
        rcases hk with ⟨e, _⟩ | ⟨e, ek⟩
        · exact absurd e hw
        refine par2_bl (ct_add fu (-9) c1 (by rw [List.length_append]; omega)) (fun _ I2 c2 => par2_br (jt_lay fu 21 0 hj (by rw [List.length_append]; omega)) (fun _ J2 j2 => ?_))
        have en : enc (it ++ [(21, 0)]) = enc it ++ [-9] := by rw [enc_app, enc_one]; rfl
        refine go (it ++ [(21, 0)]) I2 J2 m3 ?_ ?_ ?_ ?_ (h7.elim (fun z => absurd z.1 hw) (fun z => tq_lay2 (Or.inr rfl) (by omega) z.2))
        · rw [en, ← List.append_assoc]; exact c2
        · rw [← List.append_assoc]; exact j2
        · rw [en, List.length_append]; show (enc it).length + 1 + t0 ≤ t; omega
        · rw [List.length_append]; show it.length + 1 + t0 ≤ t; omega
    · -- the end
      rw [ce_end (by rw [hK]; exact c2) (by rw [hK]; exact c3) hwb h10]
      unfold kEi
      have fin : ∀ (m3 : Nat) (J1 : IMem), J1 0 14 = J 0 14 → f_X_any_9 fu (gXA fu (k' + 1)) 0 m3 J1 = none ∨ f_X_any_9 fu (gXA fu (k' + 1)) 0 m3 J1 = zr 1 J1 := by
        intro m3 J1 e
        cases m3 with
        | zero => exact Or.inl rfl
        | succ m3 => exact Or.inr (xa_end (by rw [e]; exact fun x => c2 (a4.mp x)))
      by_cases hw : w1 = 0
      · rw [if_pos hw, if_pos hw]
        rcases fin m3 J rfl with e | e
        · rw [e]; exact par2_nr
        · rw [e]
          exact par2_end (Or.inl ⟨rfl, t, it, h1, by omega, by omega, hps, h7.elim (fun z => z.2) (fun z => absurd hw z.1)⟩)
      · rw [if_neg hw, if_neg hw]
        rcases hk with ⟨e, _⟩ | ⟨e, ek⟩
        · exact absurd e hw
        have en : enc (it ++ [(21, 0)]) = enc it ++ [-9] := by rw [enc_app, enc_one]; rfl
        refine par2_bl (ct_add fu (-9) hc (by rw [List.length_append]; omega)) (fun _ I2 c2' => par2_br (jt_lay fu 21 0 hj (by rw [List.length_append]; omega)) (fun _ J2 j2 => ?_))
        rcases fin m3 J2 (j2.2.2.2.2.1.trans hJ.symm) with e | e
        · rw [e]; exact par2_nr
        · rw [e]
          refine par2_end (Or.inl ⟨rfl, t, it ++ [(21, 0)], h1, ?_, ?_, ⟨ho, ?_, ?_, ht, ?_, ?_⟩, h7.elim (fun z => absurd z.1 hw) (fun z => tq_lay2 (Or.inr rfl) (by omega) z.2)⟩)
          · rw [en, List.length_append]; show (enc it).length + 1 + t0 ≤ t; omega
          · rw [List.length_append]; show it.length + 1 + t0 ≤ t; omega
          · rw [en, ← List.append_assoc]; exact c2'
          · rw [← List.append_assoc]; exact j2
          · rw [en, List.length_append, List.length_append]; show xs0.length + ((enc it).length + 1) ≤ t; omega
          · rw [List.length_append, List.length_append]; show ps0.length + (it.length + 1) ≤ t; omega
theorem either2q (fu k : Nat) (T : TXT) (tc : ∀ k', TCq fu k k' T) : ∀ k', ECq fu (k + 1) k' T := by
  intro k' a t xs ps I J ha0 ha8 h
  cases k' with
  | zero => exact par2_nr
  | succ k' =>
  cases k' with
  | zero => intro x I' y J' e1 e2; cases e2
  | succ k' =>
  show par2 (fb_R_readEither fu (gRD fu k) 144 a I) (fb_X_any fu (gXA fu (k' + 1)) 0 J) _
  unfold fb_R_readEither fb_X_any
  show par2 _ (zb (fb_X_every fu (gXA fu k') 0 J) _) _
  unfold fb_X_every
  rw [zb_assoc]
  refine par2_b (tc k' a t xs ps I J ha0 ha8 h) (fun _ I1 y J1 _ _ ou => ?_)
  rcases ou with ⟨ey, t2, it2, g1, g2, g3, g4, g5⟩ | ⟨ey, bd⟩
  · rw [if_neg (by omega)]
    have hkon : (fun (y1 : Int) (I2 : IMem) => if y1 = 0 then zr 0 I2 else f_X_any_9 fu (gXA fu (k' + 1)) 0 fu I2) = konA fu k' fu 0 := by
      unfold konA
      funext y1 I2
      rw [if_pos (c := (0 : Int) = 0) rfl]
    rw [hkon]
    exact ei9q fu k k' ⟨ha0, ha8⟩ (tc k') fu fu fu 0 0 t2 it2 I1 J1 ⟨0, Or.inl ⟨rfl, rfl⟩, g1, by omega, by omega, g4, h.2.2.2.2.1, h.2.2.2.2.2, Or.inl ⟨rfl, tyq_mono g5 (by omega)⟩⟩ (by omega) (by omega)
  · subst ey
    rw [if_pos rfl]
    show par2 _ (zr 0 J1) _
    exact par2_l (par_mono (sk_ei9 fu _ a fu _ _ I1 (bd_n bd)) (fun _ I4 f4 => ouq_bad (bd_fst bd f4)))

theorem test2q (fu k : Nat) (T : TXT) (tc : ∀ k', TCq fu k k' T) (ec : ∀ k', ECq fu k k' T) : ∀ k', TCq fu (k + 1) k' T := by
  intro k' a t xs ps I J ha0 ha8 h
  cases k' with
  | zero => exact par2_nr
  | succ k' =>
  show par2 (fb_R_readTest fu (gRD fu k) 144 a I) (fb_X_one fu (gXA fu k') 0 J) _
  have b5 := bq_5 a
  have h' := h
  obtain ⟨ho, hc, hj, ht, hx, hp⟩ := h'
  have hn := ho.1.2.1
  have hkd := okt_k ho ht
  obtain ⟨a0, a2, a3, a4, a5, a6, a7, aU, aS, aE⟩ := tm_all (s := T.s) hkd.1
  have hK := hc.2.1
  have h10 := hc.2.2.2.1
  have hJ := hj.2.2.2.2.1
  have e140 := aS 140 (by omega)
  rw [← hJ] at a6 e140
  by_cases c4 : T.K t = 4 ∨ T.K t = 40
  · by_cases h8 : a < 8
    · have htn : t < T.n := by have := hkd.2.1; omega
      rcases c4 with c4 | c40
      · rw [te_not (hK.trans c4) ⟨ha0, h8⟩ h10, on_not (a6.mpr c4)]
        refine par2_bl (ct_adv fu ho hc htn) (fun _ I1 c1 => par2_br (jt_open fu ho hj ⟨ha0, h8⟩ htn) (fun y1 J1 j1 => ?_))
        rw [if_neg (by omega)]
        have ps1 : PSt T (a + 1) (t + 1) xs ps I1 J1 := ⟨ho, c1, j1.2, htn, by omega, by omega⟩
        refine par2_b (tc k' (a + 1) _ _ _ I1 J1 (by omega) (by omega) ps1) (fun _ I2 y J2 _ _ ou => ?_)
        rcases ou with ⟨ey, t2, it2, g1, g2, g3, g4, g5⟩ | ⟨ey, bd⟩
        · rw [if_neg (by omega)]
          obtain ⟨_, c2, j2, ht2, hx2, hp2⟩ := g4
          have l2 := hx2
          have lp2 := hp2
          rw [List.length_append] at l2 lp2
          rw [j2.2.2.2.2.2.2.1, wr32_i2 (x := a + 1 - 1) (by omega) (by omega), show a + 1 - 1 = a by omega]
          refine par2_zwr ?_
          refine par2_bl (ct_add fu (-10) c2 (by rw [List.length_append]; omega)) (fun _ I3 c3 => par2_br (jt_lay fu 19 0 (jt_d a j2) (by rw [List.length_append]; omega)) (fun _ J3 j3 => ?_))
          have en : enc (it2 ++ [(19, 0)]) = enc it2 ++ [-10] := by rw [enc_app, enc_one]; rfl
          refine par2_end (Or.inl ⟨rfl, t2, it2 ++ [(19, 0)], by omega, ?_, ?_, ⟨ho, ?_, ?_, ht2, ?_, ?_⟩, tq_not (by omega) (tyq_mono g5 (by have := bq_s ⟨ha0, h8⟩; omega))⟩)
          · rw [en]; simp only [List.length_append, List.length_cons, List.length_nil]; omega
          · simp only [List.length_append, List.length_cons, List.length_nil]; omega
          · rw [en]; simpa only [List.append_assoc] using c3
          · simpa only [List.append_assoc] using j3
          · rw [en]; simp only [List.length_append, List.length_cons, List.length_nil]; omega
          · simp only [List.length_append, List.length_cons, List.length_nil]; omega
        · subst ey
          rw [if_pos rfl]
          exact par2_l (par_zb (sk_add fu _ I2) (fun _ I3 f3 => par_zr (ouq_bad (bd_fst bd f3))))
      · rw [te_par (hK.trans c40) ⟨ha0, h8⟩ h10, on_par (e140.mpr (by omega))]
        refine par2_bl (ct_adv fu ho hc htn) (fun _ I1 c1 => par2_br (jt_open fu ho hj ⟨ha0, h8⟩ htn) (fun y1 J1 j1 => ?_))
        rw [if_neg (by omega)]
        have ps1 : PSt T (a + 1) (t + 1) xs ps I1 J1 := ⟨ho, c1, j1.2, htn, by omega, by omega⟩
        refine par2_b (ec k' (a + 1) _ _ _ I1 J1 (by omega) (by omega) ps1) (fun _ I2 y J2 _ _ ou => ?_)
        rcases ou with ⟨ey, t2, it2, g1, g2, g3, g4, g5⟩ | ⟨ey, bd⟩
        · rw [if_neg (by omega)]
          obtain ⟨_, c2, j2, ht2, hx2, hp2⟩ := g4
          have l2 := hx2
          have lp2 := hp2
          rw [List.length_append] at l2 lp2
          have e141 := (tm_all (s := T.s) (okt_k ho ht2).1).2.2.2.2.2.2.2.2.1 141 (by omega)
          refine par2_bl (ct_exp fu 41 ho c2 ht2 (by decide)) (fun _ I3 c3 => par2_br (jt_need fu ho j2 ht2 141 41 e141 (by decide)) (fun y3 J3 j3 => ?_))
          rcases c3 with ⟨q1, q2, q3⟩ | ⟨q1, q2⟩
          · rcases j3 with ⟨r1, r2, r3⟩ | ⟨r1, r2, r3⟩
            · rw [if_neg (by omega), r3.2.2.2.2.2.2.1, wr32_i2 (x := a + 1 - 1) (by omega) (by omega), show a + 1 - 1 = a by omega]
              refine par2_zwr (par2_end (Or.inl ⟨rfl, t2 + 1, it2, by omega, by omega, by omega, ⟨ho, q2, jt_d a r3, q3, by rw [List.length_append]; omega, by rw [List.length_append]; omega⟩, tyq_mono g5 (by have := bq_s ⟨ha0, h8⟩; omega)⟩))
            · exact absurd q1 r1
          · rcases j3 with ⟨r1, r2, r3⟩ | ⟨r1, r2, r3⟩
            · exact absurd r1 q1
            · rw [if_pos r2]
              exact par2_end (ouq_bad ⟨1, _, by decide, q2, r3⟩)
        · subst ey
          rw [if_pos rfl]
          exact par2_l (par_zb (sk_exp fu _ (bd_n bd)) (fun _ I3 f3 => par_zr (ouq_bad (bd_fst bd f3))))
    · have e8 : a = 8 := by omega
      rw [te_deep (by rw [hK]; exact c4) h8 h10]
      have op : par (f_X_opens fu 0 J) (fun y J' => y = 0 ∧ JF J' 3 (T.P t)) := by
        unfold f_X_opens
        rw [hj.2.2.2.2.2.2.1, if_pos e8]
        exact par_zb (jt_bad fu 3 hj) (fun y J1 g => par_zg (fun _ => par_zr g))
      have fin : ∀ J1, JF J1 3 (T.P t) → par2 (zb (f_R_fail fu 144 3 I) fun _ I44 => zr 0 I44) (zr 0 J1) (OUQ (BQ a) true T a t xs ps) := fun J1 j1 => par2_l (par_zb (ct_fail fu 3 ho hc ht) (fun _ I1 c1 => par_zr (ouq_bad ⟨3, _, by decide, c1, j1⟩)))
      rcases c4 with c4 | c40
      · rw [on_not (a6.mpr c4)]
        refine par2_br op (fun y1 J1 j1 => ?_)
        rw [if_pos j1.1]
        exact fin J1 j1.2
      · rw [on_par (e140.mpr (by omega))]
        refine par2_br op (fun y1 J1 j1 => ?_)
        rw [if_pos j1.1]
        exact fin J1 j1.2
  · rw [te_cmp (by rw [hK]; exact fun x => c4 (Or.inl x)) (by rw [hK]; exact fun x => c4 (Or.inr x)) h10, on_cmp (fun x => c4 (Or.inl (a6.mp x))) (fun x => c4 (Or.inr (by have := e140.mp x; omega)))]
    refine par2_b (sum2q fu h) (fun _ I2 y J2 _ _ ou => ?_)
    rcases ou with ⟨ey, t2, it2, g1, g2, g3, g4, g5⟩ | ⟨ey, bd⟩
    · rw [if_neg (by omega)]
      have g4' := g4
      obtain ⟨_, c2, j2, ht2, hx2, hp2⟩ := g4'
      have l2 := hx2
      have lp2 := hp2
      rw [List.length_append] at l2 lp2
      have aS2 := (tm_all (s := T.s) (okt_k ho ht2).1).2.2.2.2.2.2.2.2.1
      have e160 := aS2 160 (by omega)
      have e161 := aS2 161 (by omega)
      have e162 := aS2 162 (by omega)
      rw [j2.2.2.2.2.1, c2.2.1]
      have hdue : dueZ (T.K t2) ≠ 17 := by unfold dueZ; split <;> (try split) <;> omega
      refine par2_bl (ct_exp fu _ ho c2 ht2 hdue) (fun _ I3 c3 => ?_)
      by_cases cc : T.K t2 = 60 ∨ T.K t2 = 61 ∨ T.K t2 = 62
      · have hh : howZ (tm T.s (T.K t2)) ≠ -1 ∧ dueZ (T.K t2) = T.K t2 ∧ enI (howZ (tm T.s (T.K t2)), 0) = [opZ (T.K t2)] := by
          rcases cc with q | q | q
          · have := e160.mpr (by omega); rw [this, q]; exact ⟨by decide, rfl, rfl⟩
          · have := e161.mpr (by omega); rw [this, q]; exact ⟨by decide, rfl, rfl⟩
          · have := e162.mpr (by omega); rw [this, q]; exact ⟨by decide, rfl, rfl⟩
        have hh3 : howZ (tm T.s (T.K t2)) = 16 ∨ howZ (tm T.s (T.K t2)) = 17 ∨ howZ (tm T.s (T.K t2)) = 18 := by
          rcases cc with q | q | q
          · have := e160.mpr (by omega); rw [this]; exact Or.inl rfl
          · have := e161.mpr (by omega); rw [this]; exact Or.inr (Or.inl rfl)
          · have := e162.mpr (by omega); rw [this]; exact Or.inr (Or.inr rfl)
        rw [if_neg hh.1]
        rcases c3 with ⟨q1, q2, q3⟩ | ⟨q1, q2⟩
        · refine par2_br (jt_next fu ho j2 q3) (fun _ J3 j3 => ?_)
          have ps3 : PSt T a (t2 + 1) (xs ++ enc it2) (ps ++ it2) I3 J3 := ⟨ho, q2, j3, q3, by rw [List.length_append]; omega, by rw [List.length_append]; omega⟩
          refine par2_b (sum2q fu ps3) (fun _ I4 y4 J4 _ _ ou => ?_)
          rcases ou with ⟨ey4, t4, it4, k1, k2, k3, k4, k5⟩ | ⟨ey4, bd⟩
          · rw [if_neg (by omega)]
            obtain ⟨_, c4', j4, ht4, hx4, hp4⟩ := k4
            have l4 := hx4
            have lp4 := hp4
            rw [List.length_append, List.length_append] at l4 lp4
            refine par2_bl (ct_add fu _ c4' (by rw [List.length_append, List.length_append]; omega)) (fun _ I5 c5 => par2_br (jt_lay fu _ 0 j4 (by rw [List.length_append, List.length_append]; omega)) (fun _ J5 j5 => ?_))
            have en : enc (it2 ++ (it4 ++ [(howZ (tm T.s (T.K t2)), 0)])) = enc it2 ++ (enc it4 ++ [opZ (T.K t2)]) := by rw [enc_app, enc_app, enc_one, hh.2.2]
            refine par2_end (Or.inl ⟨rfl, t4, it2 ++ (it4 ++ [(howZ (tm T.s (T.K t2)), 0)]), by omega, ?_, ?_, ⟨ho, ?_, ?_, ht4, ?_, ?_⟩, tyq_mono (tq_cmp hh3 g5 k5) b5⟩)
            · rw [en]; simp only [List.length_append, List.length_cons, List.length_nil]; omega
            · simp only [List.length_append, List.length_cons, List.length_nil]; omega
            · rw [en]; simpa only [List.append_assoc] using c5
            · simpa only [List.append_assoc] using j5
            · rw [en]; simp only [List.length_append, List.length_cons, List.length_nil]; omega
            · simp only [List.length_append, List.length_cons, List.length_nil]; omega
          · subst ey4
            rw [if_pos rfl]
            exact par2_l (par_zb (sk_add fu _ I4) (fun _ I5 f5 => par_zr (ouq_bad (bd_fst bd f5))))
        · exact absurd hh.2.1.symm q1
      · have hh : howZ (tm T.s (T.K t2)) = -1 ∧ dueZ (T.K t2) = 61 := by
          unfold howZ dueZ
          rw [if_neg (fun x => cc (by have := e160.mp x; omega)), if_neg (fun x => cc (by have := e161.mp x; omega)), if_neg (fun x => cc (by have := e162.mp x; omega)), if_neg (fun x => cc (by omega)), if_neg (fun x => cc (by omega))]
          exact ⟨rfl, rfl⟩
        rw [if_pos hh.1]
        rcases c3 with ⟨q1, q2, q3⟩ | ⟨q1, q2⟩
        · exact absurd (q1.trans hh.2) (fun x => cc (by omega))
        · refine par2_br (jt_bad fu 1 j2) (fun y3 J3 j3 => par2_gr (fun _ => ?_))
          rw [j3.1]
          have hf : I3 144 10 ≠ 0 := by rw [q2.1]; decide
          refine par2_l (par_zb (sk_sum fu hf) (fun _ I4 f4 => par_zb (sk_add fu _ I4) (fun _ I5 f5 => par_zr (ouq_bad (bd_fst (I := I3) ⟨1, _, by decide, q2, j3.2⟩ (fst_t f4 f5))))))
    · subst ey
      rw [if_pos rfl]
      refine par2_l (par_zb (sk_exp fu _ (bd_n bd)) (fun _ I3 f3 => par_zb (sk_sum fu (fst_n f3 (bd_n bd))) (fun _ I4 f4 => par_zb (sk_add fu _ I4) (fun _ I5 f5 => par_zr (ouq_bad (bd_fst bd (fst_t (fst_t f3 f4) f5)))))))
theorem tests_allq (fu : Nat) (T : TXT) : ∀ k, (∀ k', TCq fu k k' T) ∧ (∀ k', ECq fu k k' T) := by
  intro k
  induction k with
  | zero => exact ⟨fun k' a t xs ps I J _ _ _ => par2_nl, fun k' a t xs ps I J _ _ _ => par2_nl⟩
  | succ k ih => exact ⟨test2q fu k T ih.1 ih.2, either2q fu k T ih.1⟩
theorem any2q {T : TXT} {t : Nat} {xs : List Int} {ps : List (Int × Int)} {I J : IMem} (fu : Nat) (h : PSt T 0 t xs ps I J) : par2 (f_R_readEither fu 144 0 I) (f_X_any fu 0 J) (OUQ (BQ 0 + 2) true T 0 t xs ps) := (tests_allq fu T 40).2 60 0 t xs ps I J (by decide) (by decide) h

/-! a line of a TEXT, typed -/
def OULq (T : TXT) (t : Nat) (l : List LRec) (I : IMem) (y : Int) (J : IMem) : Prop := (y = 1 ∧ ∃ (t' : Nat) (r : LRec), t < t' ∧ PSt T 0 t' (XS T.s (l ++ [r])) (PX (l ++ [r])) I J ∧ LA T.s (l ++ [r]) I J ∧ I 149 4 = (l.length + 1 : Nat) ∧ J 0 10 = l.length ∧ l.length < 16 ∧ GRL T.s r) ∨ (y = 0 ∧ BDt I J)
theorem k14_2q {T : TXT} {t0 t : Nat} {l : List LRec} {E B : List (Int × Int)} {v : Int} {I J : IMem} (fu : Nat) (h0 : t0 ≤ t) (gE : T.s ≠ 4 → ∃ b, TYP 24 T.s E b) (gv : T.s = 4 → 0 ≤ v ∧ v ≤ 5) (gB : B = [] ∨ TYP 24 T.s B true) (hl : LHt T.s l E v True I J) (h : PSt T 0 t (XS T.s l ++ (ex T.s ⟨E, B, v⟩ ++ enc B)) (PX l ++ (E ++ B)) I J) : par2 (cK14 fu I) (xK16 fu J) (OULq T t0 l) := by
  obtain ⟨ho, hc, hj, ht, hx, hp⟩ := h
  obtain ⟨l1, l2, l3, l4, l5, l6, l7⟩ := hl
  obtain ⟨l8, l9⟩ := l7 trivial
  unfold cK14 xK16
  rw [l3, wr32_i2 (x := 4 * (l.length : Int)) (by omega) (by omega), wr32_i2 (x := 4 * (l.length : Int) + 3) (by omega) (by omega)]
  refine par2_zlr (par2_gr (fun _ => par2_zwr ?_))
  rw [show (4 * (l.length : Int) + 3).toNat = 4 * l.length + 3 by omega]
  have j1 : JTk T 0 t (PX l ++ (E ++ B)) (up J (0 + 4) (4 * l.length + 3) (J 0 11)) := jt_up4 hj
  have e3 : up J (0 + 4) (4 * l.length + 3) (J 0 11) 4 (4 * l.length + 3) = J 0 11 := if_pos ⟨rfl, rfl⟩
  have e4 : ∀ j, j ≠ 4 * l.length + 3 → up J (0 + 4) (4 * l.length + 3) (J 0 11) 4 j = J 4 j := fun j hj => up_j hj _
  have e5 : up J (0 + 4) (4 * l.length + 3) (J 0 11) 0 10 = J 0 10 := up_o (by omega) _
  generalize up J (0 + 4) (4 * l.length + 3) (J 0 11) = J1 at j1 e3 e4 e5
  have e159 := (tm_all (s := T.s) (okt_k ho ht).1).2.2.2.2.2.2.2.2.1 159 (by omega)
  refine par2_bl (par_and (ct_exp fu 59 ho hc ht (by decide)) (le_exp fu 59 I)) (fun _ I2 ⟨c2, lc2⟩ => par2_br (par_and (jt_need fu ho j1 ht 159 59 e159 (by decide)) (lx_need fu 159 J1)) (fun y2 J2 ⟨j2, lx2⟩ => ?_))
  refine par2_gr (fun _ => ?_)
  rcases c2 with ⟨q1, q2, q3⟩ | ⟨q1, q2⟩
  · rcases j2 with ⟨r1, r2, r3⟩ | ⟨r1, r2, r3⟩
    · rw [r2]
      refine par2_l ?_
      have b4 : I2 149 4 = l.length := lc2.2.2.trans l2
      have b1 := q2.2.2.2.2.2.2.2.1
      unfold f_W_closeLine
      refine par_zb (Q1 := fun _ I3 => CTk T (t + 1) (XS T.s l ++ (ex T.s ⟨E, B, v⟩ ++ enc B)) I3 ∧ I3 149 4 = (l.length + 1 : Nat) ∧ I3 151 (l.length + 1) = I2 149 1 ∧ (∀ j, j ≠ l.length + 1 → I3 151 j = I2 151 j) ∧ ∀ j, I3 152 j = I2 152 j) ?_ (fun _ I3 ⟨d1, d2, d3, d4, d5⟩ => par_zr ?_)
      · show par (if I2 149 4 < 0 then _ else _) _
        rw [b4, if_neg (by omega), if_pos (by omega), wr32_i2 (by omega) (by omega)]
        refine par_zw (par_zl (par_zg (fun _ => par_zw (par_zr ?_))))
        have a4 : up I2 149 4 ((l.length : Int) + 1) 149 4 = (l.length : Int) + 1 := if_pos ⟨rfl, rfl⟩
        show CTk T (t + 1) _ (up (up I2 149 4 ((l.length : Int) + 1)) (149 + 2) (up I2 149 4 ((l.length : Int) + 1) 149 4).toNat (up I2 149 4 ((l.length : Int) + 1) 149 1)) ∧ _
        rw [a4, show ((l.length : Int) + 1).toNat = l.length + 1 by omega]
        refine ⟨ct_up (ct_up q2 (by omega) (fun _ => by omega)) (by omega) (fun x => by omega), (up_o (by omega) _).trans a4, (if_pos ⟨rfl, rfl⟩).trans (up_j (by omega) _), fun j hj => (up_j hj _).trans (up_o (by omega) _), fun j => (up_o (by omega) _).trans (up_o (by omega) _)⟩
      · refine Or.inl ⟨rfl, t + 1, ⟨E, B, v⟩, by omega, ⟨ho, ?_, ?_, q3, ?_, ?_⟩, ?_, d2, lx2.2.trans (e5.trans l3), l4, ⟨gE, gB, gv⟩⟩
        · rw [xs_app]; exact d1
        · rw [px_app]; exact r3
        · rw [xs_app]; exact Nat.le_succ_of_le hx
        · rw [px_app]; exact Nat.le_succ_of_le hp
        · intro i r hr
          by_cases hi : i < l.length
          · rw [List.getElem?_append_left hi] at hr
            obtain ⟨k1, k2, k3, k4, k5, k6⟩ := l1 i r hr
            have t1 : (l ++ [(⟨E, B, v⟩ : LRec)]).take (i + 1) = l.take (i + 1) := List.take_append_of_le_length (by omega)
            have t2 : (l ++ [(⟨E, B, v⟩ : LRec)]).take i = l.take i := List.take_append_of_le_length (by omega)
            rw [t1, t2]
            exact ⟨(d4 _ (by omega)).trans ((lc2.1 _).trans k1), (d5 _).trans ((lc2.2.1 _).trans k2), (lx2.1 _).trans ((e4 _ (by omega)).trans k3), (lx2.1 _).trans ((e4 _ (by omega)).trans k4), (lx2.1 _).trans ((e4 _ (by omega)).trans k5), fun x => ⟨(k6 x).1, (lx2.1 _).trans ((e4 _ (by omega)).trans (k6 x).2)⟩⟩
          · have hlt := lt_of_get hr
            rw [List.length_append] at hlt
            have hi' : i = l.length := by simp only [List.length_cons, List.length_nil] at hlt; omega
            subst hi'
            rw [List.getElem?_append_right (Nat.le_refl _), Nat.sub_self] at hr
            cases hr
            have t1 : (l ++ [(⟨E, B, v⟩ : LRec)]).take (l.length + 1) = l ++ [⟨E, B, v⟩] := List.take_of_length_le (by rw [List.length_append]; exact Nat.le_refl _)
            have t2 : (l ++ [(⟨E, B, v⟩ : LRec)]).take l.length = l := by rw [List.take_append_of_le_length (Nat.le_refl _), List.take_length]
            rw [t1, t2, xs_app, px_app]
            refine ⟨d3.trans b1, (d5 _).trans ((lc2.2.1 _).trans l8), (lx2.1 _).trans ((e4 _ (by omega)).trans l5), (lx2.1 _).trans ((e4 _ (by omega)).trans l9), (lx2.1 _).trans (e3.trans hj.2.2.2.2.2.2.2.1), fun x => ⟨(l6 x).1, (lx2.1 _).trans ((e4 _ (by omega)).trans (l6 x).2)⟩⟩
    · exact absurd q1 r1
  · rcases j2 with ⟨r1, r2, r3⟩ | ⟨r1, r2, r3⟩
    · exact absurd r1 q1
    · rw [r2]
      have bd : BDt I2 J2 := ⟨1, _, by decide, q2, r3⟩
      exact par2_l (par_zb (sk_close fu I2) (fun _ I3 f3 => par_zr (Or.inr ⟨rfl, bd_fst bd f3⟩)))
theorem k22_2q {T : TXT} {t0 t : Nat} {l : List LRec} {E : List (Int × Int)} {v : Int} {I J : IMem} (fu : Nat) (h0 : t0 ≤ t) (gE : T.s ≠ 4 → ∃ b, TYP 24 T.s E b) (gv : T.s = 4 → 0 ≤ v ∧ v ≤ 5) (hl : LHt T.s l E v True I J) (h : PSt T 0 t (XS T.s l ++ ex T.s ⟨E, [], v⟩) (PX l ++ E) I J) : par2 (cK22 fu I) (xK23 fu J) (OULq T t0 l) := by
  obtain ⟨ho, hc, hj, ht, hx, hp⟩ := h
  unfold cK22 xK23
  have e3 := (tm_all (s := T.s) (okt_k ho ht).1).2.2.1
  refine par2_bl (par_and (ct_exp fu 1 ho hc ht (by decide)) (le_exp fu 1 I)) (fun _ I2 ⟨c2, lc2⟩ => par2_br (par_and (jt_need fu ho hj ht 3 1 e3 (by decide)) (lx_need fu 3 J)) (fun y2 J2 ⟨j2, lx2⟩ => ?_))
  rcases c2 with ⟨q1, q2, q3⟩ | ⟨q1, q2⟩
  · rcases j2 with ⟨r1, r2, r3⟩ | ⟨r1, r2, r3⟩
    · rw [if_neg (by omega)]
      refine par2_b (any2q fu ⟨ho, q2, r3, q3, by omega, by omega⟩) (fun x3 I3 y3 J3 e1 e2 ou => ?_)
      rcases ou with ⟨ey, t3, it, g1, g2, g3, g4, g5⟩ | ⟨ey, bd⟩
      · rw [if_neg (by omega)]
        refine k14_2q (t := t3) (B := it) (E := E) (v := v) fu (by omega) gE gv (Or.inr (typ_mono g5 (by show 5 + 2 * 8 + 2 ≤ 24; decide))) (lh_fr hl (lec_t lc2 (le_ei e1)) (lex_t lx2 (lx_any e2))) ?_
        rw [← List.append_assoc, ← List.append_assoc]
        exact g4
      · rw [if_pos ey]
        exact par2_l (par_mono (sk_K14 fu (bd_n bd)) (fun _ I4 f4 => Or.inr ⟨rfl, bd_fst bd f4⟩))
    · exact absurd q1 r1
  · rcases j2 with ⟨r1, r2, r3⟩ | ⟨r1, r2, r3⟩
    · exact absurd r1 q1
    · rw [if_pos r2]
      have bd : BDt I2 J2 := ⟨1, _, by decide, q2, r3⟩
      exact par2_l (par_zb (sk_either fu 40 0 (bd_n bd)) (fun _ I3 f3 => par_mono (sk_K14 fu (fst_n f3 (bd_n bd))) (fun _ I4 f4 => Or.inr ⟨rfl, bd_fst bd (fst_t f3 f4)⟩)))

theorem k9_2q {T : TXT} {t0 t : Nat} {l : List LRec} {E : List (Int × Int)} {v : Int} {I J : IMem} (fu : Nat) (x3 : Int) (hx3 : (T.s = 4 ∧ x3 = 1) ∨ (T.s ≠ 4 ∧ x3 = 0)) (h0 : t0 ≤ t) (gE : T.s ≠ 4 → ∃ b, TYP 24 T.s E b) (gv : T.s = 4 → 0 ≤ v ∧ v ≤ 5) (hl : LHt T.s l E v False I J) (h : PSt T 0 t (XS T.s l ++ ex T.s ⟨E, [], v⟩) (PX l ++ E) I J) : par2 (cK9 fu I) (xK12 fu x3 J) (OULq T t0 l) := by
  obtain ⟨ho, hc, hj, ht, hx, hp⟩ := h
  obtain ⟨l1, l2, l3, l4, l5, l6, l7⟩ := hl
  unfold cK9 xK12
  rw [l3, wr32_i2 (x := 4 * (l.length : Int)) (by omega) (by omega), wr32_i2 (x := 4 * (l.length : Int) + 2) (by omega) (by omega)]
  refine par2_zlr (par2_gr (fun _ => par2_zwr ?_))
  rw [show (4 * (l.length : Int) + 2).toNat = 4 * l.length + 2 by omega]
  have j1 : JTk T 0 t (PX l ++ E) (up J (0 + 4) (4 * l.length + 2) (J 0 11)) := jt_up4 hj
  have e3 : up J (0 + 4) (4 * l.length + 2) (J 0 11) 4 (4 * l.length + 2) = ((PX l).length + E.length : Nat) := by
    refine (if_pos ⟨rfl, rfl⟩).trans (hj.2.2.2.2.2.2.2.1.trans ?_)
    rw [List.length_append]
  have e4 : ∀ j, j ≠ 4 * l.length + 2 → up J (0 + 4) (4 * l.length + 2) (J 0 11) 4 j = J 4 j := fun j hj => up_j hj _
  have e5 : up J (0 + 4) (4 * l.length + 2) (J 0 11) 0 10 = J 0 10 := up_o (by omega) _
  generalize up J (0 + 4) (4 * l.length + 2) (J 0 11) = J1 at j1 e3 e4 e5
  refine par2_bl (P := fun _ I1 => CTk T t (XS T.s l ++ ex T.s ⟨E, [], v⟩) I1 ∧ I1 152 l.length = ((XS T.s l).length + (ex T.s ⟨E, [], v⟩).length : Nat) ∧ (∀ j, j ≠ l.length → I1 152 j = I 152 j) ∧ (∀ j, I1 151 j = I 151 j) ∧ I1 149 4 = I 149 4) ?_ (fun _ I1 ⟨d1, d2, d3, d4, d5⟩ => ?_)
  · show par (f_W_startWhen fu 149 I) _
    unfold f_W_startWhen
    rw [l2, if_neg (by omega), if_pos (by omega)]
    refine par_zl (par_zg (fun _ => par_zw (par_zr ?_)))
    rw [show (l.length : Int).toNat = l.length from rfl]
    refine ⟨ct_up hc (by omega) (fun x => by omega), ?_, fun j hj => up_j hj _, fun j => up_o (by omega) _, (up_o (by omega) _).trans l2⟩
    refine (if_pos ⟨rfl, rfl⟩).trans (hc.2.2.2.2.2.2.2.1.trans ?_)
    rw [List.length_append]
  · have hl1 : LHt T.s l E v True I1 J1 := ⟨la_fr l1 ⟨fun j _ => d4 j, fun j hj => d3 j (by omega)⟩ (fun j hj => e4 j (by omega)), d5.trans l2, e5.trans l3, l4, (e4 _ (by omega)).trans l5, fun x => ⟨(l6 x).1, (e4 _ (by omega)).trans (l6 x).2⟩, fun _ => ⟨d2, e3⟩⟩
    have ps1 : PSt T 0 t (XS T.s l ++ ex T.s ⟨E, [], v⟩) (PX l ++ E) I1 J1 := ⟨ho, d1, j1, ht, hx, hp⟩
    have e31 := (tm_all (s := T.s) (okt_k ho ht).1).2.2.1
    have h9 := d1.2.2.2.2.1
    have h7 := d1.2.1
    have h14 := j1.2.2.2.2.1
    rcases hx3 with ⟨hs, rfl⟩ | ⟨hs, rfl⟩
    · rw [if_pos hs] at h9
      rw [if_neg (by omega), if_neg (by decide)]
      exact k22_2q fu h0 gE gv hl1 ps1
    · rw [if_neg hs] at h9
      rw [if_pos h9, if_pos rfl, h7, h14]
      by_cases k1 : T.K t = 1
      · rw [if_pos k1, if_pos (e31.mpr k1)]
        exact k22_2q fu h0 gE gv hl1 ps1
      · rw [if_neg k1, if_neg (fun x => k1 (e31.mp x))]
        refine k14_2q (t := t) (B := []) (E := E) (v := v) fu h0 gE gv (Or.inl rfl) hl1 ?_
        rw [enc_nil, List.append_nil, List.append_nil]
        exact ps1
def OUGq (T : TXT) (d : Int) (t : Nat) (xs : List Int) (ps : List (Int × Int)) (I0 J0 I : IMem) (y : Int) (J : IMem) : Prop := (y = 1 ∧ CTk T (t + 1) (xs ++ [T.V t]) I ∧ T.K t = 16 ∧ JTk T d (t + 1) ps J ∧ t + 1 ≤ T.n ∧ LEc I0 I ∧ LEx J0 J ∧ (0 ≤ T.V t ∧ T.V t ≤ 5)) ∨ (y = 0 ∧ BDt I J)
theorem targ2q {T : TXT} {d : Int} {t : Nat} {xs : List Int} {ps : List (Int × Int)} {I J : IMem} (fu : Nat) (h : PSt T d t xs ps I J) : par2 (f_R_readTarget fu 144 I) (f_X_number fu 0 0 5 J) (OUGq T d t xs ps I J) := by
  obtain ⟨ho, hc, hj, ht, hx, hp⟩ := h
  have hk := okt_k ho ht
  have hn := ho.1.2.1
  obtain ⟨a0, a2, a3, a4, a5, a6, a7, aU, aS, aE⟩ := tm_all (s := T.s) hk.1
  have hxl : xs.length < 400 ∨ T.K t ≠ 16 := by
    by_cases c : T.K t = 16
    · exact Or.inl (by have := hk.2.1; omega)
    · exact Or.inr c
  refine par2_of (P1 := fun I' => (T.K t = 16 ∧ T.V t ≤ 5 ∧ CTk T (t + 1) (xs ++ [T.V t]) I' ∧ t < T.n ∧ LEc I I') ∨ (T.K t = 16 ∧ 5 < T.V t ∧ CF I' 2 (T.P t)) ∨ (T.K t ≠ 16 ∧ CF I' 1 (T.P t))) (P2 := fun y J' => (T.K t = 16 ∧ T.V t ≤ 5 ∧ y = 1 ∧ JTk T d (t + 1) ps J' ∧ LEx J J') ∨ (T.K t = 16 ∧ 5 < T.V t ∧ y = 0 ∧ JF J' 2 (T.P t)) ∨ (T.K t ≠ 16 ∧ y = 0 ∧ JF J' 1 (T.P t))) ?_ ?_ ?_
  · unfold f_R_readTarget
    simp only [zj]
    rw [hc.2.1, hc.2.2.1]
    refine par_ite (fun c => par_ite (fun c2 => ?_) (fun c2 => ?_)) (fun c => ?_)
    · refine par_zb (par_and (ct_add fu _ hc (by omega)) (le_add fu _ I)) (fun _ I1 ⟨c1, le1⟩ => par_zb (par_and (ct_exp fu 16 ho c1 ht (by decide)) (le_exp fu 16 I1)) (fun _ I2 ⟨c2', le2⟩ => par_zr ?_))
      rcases c2' with ⟨q1, q2, q3⟩ | ⟨q1, q2⟩
      · exact Or.inl ⟨c, by omega, q2, q3, lec_t le1 le2⟩
      · exact absurd c q1
    · refine par_zb (ct_fail fu 2 ho hc ht) (fun _ I1 c1 => par_zb (sk_add fu _ I1) (fun _ I2 f2 => ?_))
      have hf : I2 144 10 ≠ 0 := by rw [f2.1, c1.1]; decide
      refine par_zb (sk_exp fu 16 hf) (fun _ I3 f3 => par_zr (Or.inr (Or.inl ⟨c, by omega, f3.1.trans (f2.1.trans c1.1), f3.2.trans (f2.2.trans c1.2)⟩)))
    · unfold f_W_addStep f_R_expect
      refine par_zb (Q1 := fun _ I1 => I1 144 7 = T.K t ∧ I1 144 10 = 0 ∧ I1 144 6 = t ∧ I1 147 t = T.P t) ?_ (fun _ I1 ⟨b1, b2, b3, b4⟩ => ?_)
      · have e0 : I 144 7 = T.K t ∧ I 144 10 = 0 ∧ I 144 6 = t ∧ I 147 t = T.P t := ⟨hc.2.1, hc.2.2.2.1, hc.1, (hc.2.2.2.2.2.2.1 t ht).2.1⟩
        refine par_ite (fun _ => par_zr e0) (fun _ => par_ite (fun _ => ?_) (fun _ => par_zr e0))
        refine par_zl (par_zg (fun _ => par_zw (par_zw (par_zr ⟨?_, ?_, ?_, ?_⟩))))
        · exact (up_o (by omega) _).trans ((up_o (by omega) _).trans e0.1)
        · exact (up_o (by omega) _).trans ((up_o (by omega) _).trans e0.2.1)
        · exact (up_o (by omega) _).trans ((up_o (by omega) _).trans e0.2.2.1)
        · exact (up_o (by omega) _).trans ((up_o (by omega) _).trans e0.2.2.2)
      · rw [b1, if_neg c]
        refine par_zb (Q1 := fun _ I2 => CF I2 1 (T.P t)) (par_zb (Q1 := fun _ I2 => CF I2 1 (T.P t)) ?_ (fun _ I2 c2 => par_zr c2)) (fun _ I3 c3 => par_zr (Or.inr (Or.inr ⟨c, c3⟩)))
        unfold f_R_fail
        rw [if_pos b2, if_neg (by omega), if_neg (by omega)]
        refine par_zw (par_zl (par_zg (fun _ => par_zw (par_zr ⟨(up_j (by omega) _).trans (if_pos ⟨rfl, rfl⟩), ?_⟩))))
        refine (if_pos ⟨rfl, rfl⟩).trans ?_
        rw [up_j (i := 6) (by omega), b3]
        exact (up_o (by omega) _).trans b4
  · unfold f_X_number
    rw [hj.2.2.2.2.1]
    refine par_ite (fun c => ?_) (fun c => ?_)
    · have c16 := a2.mp c
      rw [hj.2.2.2.2.2.1 c16]
      have hv := hk.2.2 c16
      refine par_zb (par_isIn fu _ 0 5 J) (fun y J1 ⟨e, hy⟩ => ?_)
      subst e
      refine par_ite (fun c0 => ?_) (fun c0 => ?_)
      · exact par_zb (jt_bad fu 2 hj) (fun y2 J2 g2 => par_zg (fun _ => par_zr (Or.inr (Or.inl ⟨c16, by have := hy.mp c0; omega, g2.1, g2.2⟩))))
      · have hv5 : T.V t ≤ 5 := by
          rcases Int.lt_or_le 5 (T.V t) with x | x
          · exact absurd (hy.mpr (by omega)) c0
          · exact x
        exact par_zb (par_and (jt_next fu ho hj (by have := hk.2.1; omega)) (lx_next fu J1)) (fun _ J2 ⟨g2, lx2⟩ => par_zr (Or.inl ⟨c16, hv5, rfl, g2, lx2⟩))
    · exact par_zb (jt_bad fu 1 hj) (fun y2 J2 g2 => par_zg (fun _ => par_zr (Or.inr (Or.inr ⟨fun x => c (a2.mpr x), g2.1, g2.2⟩))))
  · intro I' y J' p1 p2
    rcases p1 with ⟨b1, b2, b3, b4, b5⟩ | ⟨b1, b2, b3⟩ | ⟨b1, b2⟩
    · rcases p2 with ⟨c1, c2, c3, c4, c5⟩ | ⟨c1, c2, c3⟩ | ⟨c1, c2⟩
      · exact Or.inl ⟨c3, b3, b1, c4, b4, b5, c5, (hk.2.2 b1).1, b2⟩
      · omega
      · exact absurd b1 c1
    · rcases p2 with ⟨c1, c2, c3, c4, c5⟩ | ⟨c1, c2, c3, c4⟩ | ⟨c1, c2⟩
      · omega
      · exact Or.inr ⟨c3, 2, _, by decide, b3, c4⟩
      · exact absurd b1 c1
    · rcases p2 with ⟨c1, c2, c3, c4, c5⟩ | ⟨c1, c2, c3, c4⟩ | ⟨c1, c2, c3⟩
      · exact absurd c1 b1
      · exact absurd c1 b1
      · exact Or.inr ⟨c2, 1, _, by decide, b2, c3⟩
theorem line2q {T : TXT} {d : Int} {t : Nat} {l : List LRec} {I J : IMem} (fu : Nat) (hl : LA T.s l I J ∧ I 149 4 = l.length ∧ J 0 10 = l.length ∧ l.length ≤ 16) (h : PSt T d t (XS T.s l) (PX l) I J) : par2 (f_R_readLine fu 144 I) (f_X_aLine fu 0 J) (OULq T t l) := by
  obtain ⟨ho, hc, hj, ht, hx, hp⟩ := h
  obtain ⟨l1, l2, l3, l4⟩ := hl
  have hn := ho.1.2.1
  have hkd := okt_k ho ht
  obtain ⟨a0, a2, a3, a4, a5, a6, a7, aU, aS, aE⟩ := tm_all (s := T.s) hkd.1
  have h9 := hc.2.2.2.2.1
  have hK := hc.2.1
  have hJ := hj.2.2.2.2.1
  rw [← hJ] at a7
  -- the keyword
  obtain ⟨kw, xt, hkw, hk1, hk2⟩ : ∃ kw xt : Int, ((T.s = 4 ∧ kw = 11 ∧ xt = 1) ∨ (T.s ≠ 4 ∧ kw = 0 ∧ xt = 0)) ∧ ((I 144 9 = 0 ∧ kw = 0) ∨ (I 144 9 ≠ 0 ∧ kw = 11)) ∧ (if J 0 9 = 4 then xK1 fu 1 J else xK1 fu 0 J) = xK1 fu xt J := by
    by_cases hs : T.s = 4
    · rw [if_pos hs] at h9
      exact ⟨11, 1, Or.inl ⟨hs, rfl, rfl⟩, Or.inr ⟨by omega, rfl⟩, if_pos (hj.2.1.trans hs)⟩
    · rw [if_neg hs] at h9
      exact ⟨0, 0, Or.inr ⟨hs, rfl, rfl⟩, Or.inl ⟨h9, rfl⟩, if_neg (fun x => hs (hj.2.1.symm.trans x))⟩
  rw [line_eq fu kw I hk1, xline_eq, hk2, hK]
  by_cases ck : T.K t = kw
  · rw [if_pos ck, if_pos (a7.mpr (by omega)), l3]
    have htn : t < T.n := by have := hkd.2.1; omega
    by_cases cf : l.length = 16
    · rw [if_pos (by omega)]
      refine par2_br (jt_bad fu 3 hj) (fun y J1 j1 => par2_gr (fun _ => ?_))
      rw [j1.1]
      refine par2_l (par_zb (Q1 := fun v I1 => v ≠ 0 ∧ I1 = I) ?_ (fun v I1 ⟨e1, e2⟩ => ?_))
      · show par (f_W_isFull fu 149 I) _
        unfold f_W_isFull
        rw [l2, if_neg (by omega)]
        exact par_zr ⟨by decide, rfl⟩
      · subst e2
        rw [if_neg e1]
        refine par_zb (ct_fail fu 3 ho hc ht) (fun _ I2 c2 => ?_)
        have bd : BDt I2 J1 := ⟨3, _, by decide, c2, j1.2⟩
        exact par_mono (sk_K4 fu kw (bd_n bd)) (fun _ I3 f3 => Or.inr ⟨rfl, bd_fst bd f3⟩)
    · rw [if_neg (by omega)]
      refine par2_bl (P := fun v I1 => v = 0 ∧ I1 = I) ?_ (fun v I1 ⟨e1, e2⟩ => ?_)
      · show par (f_W_isFull fu 149 I) _
        unfold f_W_isFull
        rw [l2, if_pos (by omega)]
        exact par_zr ⟨rfl, rfl⟩
      subst e2
      rw [if_pos e1]
      unfold cK4 xK1
      refine par2_bl (par_and (ct_exp fu kw ho hc ht (by omega)) (le_exp fu kw I1)) (fun _ I2 ⟨c2, lc2⟩ => ?_)
      rcases c2 with ⟨q1, q2, q3⟩ | ⟨q1, q2⟩
      · refine par2_zwr ?_
        have j0 := jt_d 0 hj
        have x0 : LEx J (up J 0 20 0) := ⟨fun j => up_o (by omega) _, up_j (by omega) _⟩
        generalize up J 0 20 0 = J0 at j0 x0
        refine par2_br (par_and (jt_next fu ho j0 htn) (lx_next fu J0)) (fun _ J1 ⟨j1, lx1⟩ => ?_)
        have x1 := lex_t x0 lx1
        have e10 : J1 0 10 = l.length := x1.2.trans l3
        rw [e10, wr32_i2 (x := 4 * (l.length : Int)) (by omega) (by omega)]
        refine par2_zlr (par2_gr (fun _ => par2_zwr ?_))
        rw [show (4 * (l.length : Int)).toNat = 4 * l.length by omega]
        have j2 : JTk T 0 (t + 1) (PX l) (up J1 (0 + 4) (4 * l.length) (J1 0 16)) := jt_up4 j1
        have y1 : up J1 (0 + 4) (4 * l.length) (J1 0 16) 4 (4 * l.length) = J1 0 16 := if_pos ⟨rfl, rfl⟩
        have y2 : ∀ j, j ≠ 4 * l.length → up J1 (0 + 4) (4 * l.length) (J1 0 16) 4 j = J 4 j := fun j hj => (up_j hj _).trans (x1.1 j)
        have y3 : up J1 (0 + 4) (4 * l.length) (J1 0 16) 0 10 = l.length := (up_o (by omega) _).trans e10
        have j16 := j1.2.2.2.2.2.1
        generalize up J1 (0 + 4) (4 * l.length) (J1 0 16) = J2 at j2 y1 y2 y3
        rw [y3, wr32_i2 (x := 4 * (l.length : Int)) (by omega) (by omega), wr32_i2 (x := 4 * (l.length : Int) + 1) (by omega) (by omega)]
        refine par2_zlr (par2_gr (fun _ => par2_zwr ?_))
        rw [show (4 * (l.length : Int) + 1).toNat = 4 * l.length + 1 by omega]
        have j3 : JTk T 0 (t + 1) (PX l) (up J2 (0 + 4) (4 * l.length + 1) (J2 0 11)) := jt_up4 j2
        have z1 : up J2 (0 + 4) (4 * l.length + 1) (J2 0 11) 4 (4 * l.length + 1) = ((PX l).length : Nat) := (if_pos ⟨rfl, rfl⟩).trans j2.2.2.2.2.2.2.2.1
        have z0 : up J2 (0 + 4) (4 * l.length + 1) (J2 0 11) 4 (4 * l.length) = J1 0 16 := (up_j (by omega) _).trans y1
        have z2 : ∀ j, j < 4 * l.length → up J2 (0 + 4) (4 * l.length + 1) (J2 0 11) 4 j = J 4 j := fun j hj => (up_j (by omega) _).trans (y2 j (by omega))
        have z3 : up J2 (0 + 4) (4 * l.length + 1) (J2 0 11) 0 10 = l.length := (up_o (by omega) _).trans y3
        generalize up J2 (0 + 4) (4 * l.length + 1) (J2 0 11) = J3 at j3 z0 z1 z2 z3
        have la3 : LA T.s l I2 J3 := la_fr l1 ⟨fun j _ => lc2.1 j, fun j _ => lc2.2.1 j⟩ z2
        have h92 := q2.2.2.2.2.1
        rcases hkw with ⟨hs, ekw, rfl⟩ | ⟨hs, ekw, rfl⟩
        · -- the lines' text
          rw [if_pos hs] at h92
          rw [if_neg (by omega), if_neg (by decide)]
          refine par2_b (targ2q fu (ps := PX l) (xs := XS T.s l) ⟨ho, q2, j3, q3, by omega, by omega⟩) (fun x4 I4 y4 J4 e1 e2 ou => ?_)
          rcases ou with ⟨ey, c4, k16, j4, t4, lc4, lx4, kv⟩ | ⟨ey, bd⟩
          · rw [if_neg (by omega)]
            have eex : ex T.s ⟨[], [], T.V (t + 1)⟩ = [T.V (t + 1)] := if_pos hs
            refine k9_2q (t := t + 1 + 1) (E := []) (v := T.V (t + 1)) fu 1 (Or.inl ⟨hs, rfl⟩) (by omega) (fun x => absurd hs x) (fun _ => kv) ⟨la_fr la3 ⟨fun j _ => lc4.1 j, fun j _ => lc4.2.1 j⟩ (fun j _ => lx4.1 j), lc4.2.2.trans (lc2.2.2.trans l2), lx4.2.trans z3, by omega, (lx4.1 _).trans z1, fun _ => ⟨rfl, (lx4.1 _).trans (z0.trans (j16 k16))⟩, fun x => x.elim⟩ ⟨ho, ?_, ?_, t4, ?_, ?_⟩
            · rw [eex]; exact c4
            · rw [List.append_nil]; exact j4
            · rw [eex, List.length_append]; show (XS T.s l).length + 1 ≤ t + 1 + 1; omega
            · rw [List.append_nil]; omega
          · rw [if_pos ey]
            exact par2_l (par_mono (sk_K9 fu (bd_n bd)) (fun _ I5 f5 => Or.inr ⟨rfl, bd_fst bd f5⟩))
        · -- a rule
          rw [if_neg hs] at h92
          rw [if_pos h92, if_pos rfl]
          refine par2_b (sum2q fu (ps := PX l) (xs := XS T.s l) ⟨ho, q2, j3, q3, by omega, by omega⟩) (fun x4 I4 y4 J4 e1 e2 ou => ?_)
          rcases ou with ⟨ey, t4, it, g1, g2, g3, g4, g5⟩ | ⟨ey, bd⟩
          · rw [if_neg (by omega)]
            have eex : ex T.s ⟨it, [], 0⟩ = enc it := if_neg hs
            have lc4 := le_sum e1
            have lx4 := lx_sum e2
            refine k9_2q (t := t4) (E := it) (v := 0) fu 0 (Or.inr ⟨hs, rfl⟩) (by omega) (fun _ => ⟨false, typ_mono g5 (by decide)⟩) (fun x => absurd x hs) ⟨la_fr la3 ⟨fun j _ => lc4.1 j, fun j _ => lc4.2.1 j⟩ (fun j _ => lx4.1 j), lc4.2.2.trans (lc2.2.2.trans l2), lx4.2.trans z3, by omega, (lx4.1 _).trans z1, fun x => absurd x hs, fun x => x.elim⟩ ?_
            rw [eex]; exact g4
          · rw [if_pos ey]
            exact par2_l (par_mono (sk_K9 fu (bd_n bd)) (fun _ I5 f5 => Or.inr ⟨rfl, bd_fst bd f5⟩))
      · exact absurd ck q1
  · rw [if_neg ck, if_neg (fun x => ck (by have := a7.mp x; omega))]
    refine par2_br (jt_bad fu 1 hj) (fun y J1 j1 => par2_gr (fun _ => ?_))
    rw [j1.1]
    unfold cK4
    refine par2_l (par_zb (ct_exp fu kw ho hc ht (by omega)) (fun _ I2 c2 => ?_))
    rcases c2 with ⟨q1, q2, q3⟩ | ⟨q1, q2⟩
    · exact absurd q1 ck
    · have bd : BDt I2 J1 := ⟨1, _, by decide, q2, j1.2⟩
      exact par_ite (fun _ => par_zb (sk_sum fu (bd_n bd)) (fun _ I3 f3 => par_mono (sk_K9 fu (fst_n f3 (bd_n bd))) (fun _ I4 f4 => Or.inr ⟨rfl, bd_fst bd (fst_t f3 f4)⟩))) (fun _ => par_zb (sk_target fu (bd_n bd)) (fun _ I3 f3 => par_mono (sk_K9 fu (fst_n f3 (bd_n bd))) (fun _ I4 f4 => Or.inr ⟨rfl, bd_fst bd (fst_t f3 f4)⟩)))

/-- all lines are well made -/
def GRA (s : Int) (l : List LRec) : Prop := ∀ (i : Nat) (r : LRec), l[i]? = some r → GRL s r
theorem gra_add {s : Int} {l : List LRec} {r : LRec} (h : GRA s l) (g : GRL s r) : GRA s (l ++ [r]) := by
  intro i r' hr
  by_cases hi : i < l.length
  · rw [List.getElem?_append_left hi] at hr
    exact h i r' hr
  · rw [List.getElem?_append_right (by omega)] at hr
    have e := lt_of_get hr
    have e0 : i - l.length = 0 := by simp only [List.length_cons, List.length_nil] at e; omega
    rw [e0] at hr
    cases hr
    exact g
theorem text57q {Q : IMem → Int → IMem → Prop} {T : TXT} (fu : Nat) (a1 : Int) (kX : Int → IMem → Res) (w0 : Nat → Int) (good : ∀ t l d I J, INV T d t l I J → GRA T.s l → J 1 = w0 → par2 (kUn I) (kX 1 J) Q) (bad : ∀ I J, BDt I J → J 1 = w0 → par2 (kUn I) (kX 0 J) Q) : ∀ (m m2 : Nat) (w2 : Int) (t : Nat) (l : List LRec) (d : Int) (I J : IMem), INV T d t l I J → GRA T.s l → J 1 = w0 → 0 ≤ w2 → w2 ≤ t → par2 (f_R_understand_31 fu kUn 144 m w2 I) (f_X_text_57 fu kX 0 a1 m2 1 J) Q := by
  intro m
  induction m with
  | zero => intro m2 w2 t l d I J _ _ _ _ _; exact par2_nl
  | succ m ih =>
    intro m2 w2 t l d I J h hgr hww hw0 hw2
    cases m2 with
    | zero => exact par2_nr
    | succ m2 =>
    show par2 (fb_R_understand_31 fu kUn 144 (f_R_understand_31 fu kUn 144 m) w2 I) (fb_X_text_57 fu kX 0 a1 (f_X_text_57 fu kX 0 a1 m2) 1 J) _
    unfold fb_R_understand_31 fb_X_text_57
    have h' := h
    obtain ⟨⟨ho, hc, hj, ht, hx, hp⟩, l1, l2, l3, l4⟩ := h'
    have hn := ho.1.2.1
    have hkd := okt_k ho ht
    have a0 := (tm_all (s := T.s) hkd.1).1
    rw [if_neg (c := (1 : Int) = 0) (by decide), hj.2.2.2.2.1, hc.2.1, if_pos hc.2.2.2.1]
    by_cases c17 : T.K t = 17
    · rw [if_pos (a0.mpr c17)]
      have g := good t l d I J h hgr hww
      exact par2_il (fun _ => by rw [if_pos c17]; exact g) (fun _ => g)
    · rw [if_neg (fun x => c17 (a0.mp x)), if_neg c17]
      have htn : t < T.n := by
        have := hkd.2.1
        omega
      rw [if_pos (by omega)]
      refine par2_b (line2q fu ⟨l1, l2, l3, l4⟩ ⟨ho, hc, hj, ht, hx, hp⟩) (fun _ I1 y J1 _ eX ou => ?_)
      have hw1 : J1 1 = w0 := (fr_X_aLine (fun q => q ≠ 1) fu 0 J (by omega) (by omega) (by omega) eX 1 (by omega)).trans hww
      simp only [zj, zl]
      rw [wr32_i2 (x := w2 + 1) (by omega) (by omega)]
      rcases ou with ⟨ey, t2, r, g1, g2, g3, g4, g5, g6, g7⟩ | ⟨ey, bd⟩
      · subst ey
        rw [if_neg (c := (1 : Int) = 0) (by decide)]
        refine par2_zwr ?_
        rw [g5, wr32_i2 (by omega) (by omega)]
        have hlen : (l ++ [r]).length = l.length + 1 := by rw [List.length_append]; rfl
        obtain ⟨go, gc, gj, gt, gx, gp⟩ := g2
        have e1 : up J1 0 10 ((l.length : Int) + 1) 0 10 = ((l ++ [r]).length : Nat) := (if_pos ⟨rfl, rfl⟩).trans (by rw [hlen]; rfl)
        refine ih m2 (w2 + 1) t2 (l ++ [r]) 0 I1 _ ⟨⟨go, gc, jt_10 gj, gt, gx, gp⟩, la_fr g3 ⟨fun _ _ => rfl, fun _ _ => rfl⟩ (fun j _ => up_o (by omega) _), by rw [hlen]; exact g4, e1, by rw [hlen]; exact g6⟩ (gra_add hgr g7) ((funext (fun i => up_o (by decide) i)).trans hw1) (by omega) (by omega)
      · subst ey
        rw [if_pos rfl]
        refine par2_zwr ?_
        generalize hJ2 : up J1 0 10 (wr32 (J1 0 10 + 0)) = J2
        have bd2 : BDt I1 J2 := by
          obtain ⟨f, p, b1, b2, b3⟩ := bd
          exact ⟨f, p, b1, b2, by rw [← hJ2]; exact ⟨(up_j (by omega) _).trans b3.1, (up_j (by omega) _).trans b3.2⟩⟩
        have hw2 : J2 1 = w0 := by rw [← hJ2]; exact (funext (fun i => up_o (by decide) i)).trans hw1
        have gb := bad I1 J2 bd2 hw2
        cases m with
        | zero => exact par2_nl
        | succ m =>
        cases m2 with
        | zero => exact par2_nr
        | succ m2 =>
        show par2 (fb_R_understand_31 fu kUn 144 (f_R_understand_31 fu kUn 144 m) (w2 + 1) I1) (fb_X_text_57 fu kX 0 a1 (f_X_text_57 fu kX 0 a1 m2) 0 J2) _
        unfold fb_R_understand_31 fb_X_text_57
        rw [if_pos rfl, if_neg (bd_n bd)]
        exact par2_il (fun _ => gb) (fun _ => gb)

/-! the reference's copy of a TEXT into the hill -/
def TR (k j : Nat) : Prop := (1590 + 16 * k ≤ j ∧ j < 1606 + 16 * k) ∨ (1670 + 16 * k ≤ j ∧ j < 1686 + 16 * k) ∨ (1750 + 16 * k ≤ j ∧ j < 1766 + 16 * k) ∨ (1830 + 16 * k ≤ j ∧ j < 1846 + 16 * k)
def TC (k j : Nat) : Prop := j = 1580 + k ∨ TR k j ∨ (1910 + 820 * k ≤ j ∧ j < 2730 + 820 * k)
section
variable {fu : Nat}
theorem xc_145 {Q : Int → IMem → Prop} (kk : IMem → Res) (k : Nat) (hk : k < 5) (n : Nat) (hn : n ≤ 16) (J0 : IMem) (h10 : J0 0 10 = n) (hend : ∀ J : IMem, (∀ i, i < n → J 1 (1590 + 16 * k + i) = J0 4 (4 * i) ∧ J 1 (1670 + 16 * k + i) = J0 4 (4 * i + 1) ∧ J 1 (1750 + 16 * k + i) = J0 4 (4 * i + 2) ∧ J 1 (1830 + 16 * k + i) = J0 4 (4 * i + 3)) → (∀ q j, ¬ (q = 1 ∧ TR k j) → J q j = J0 q j) → par (kk J) Q) : ∀ (m i : Nat) (J : IMem), i ≤ n → (∀ t, t < i → J 1 (1590 + 16 * k + t) = J0 4 (4 * t) ∧ J 1 (1670 + 16 * k + t) = J0 4 (4 * t + 1) ∧ J 1 (1750 + 16 * k + t) = J0 4 (4 * t + 2) ∧ J 1 (1830 + 16 * k + t) = J0 4 (4 * t + 3)) → (∀ q j, ¬ (q = 1 ∧ TR k j) → J q j = J0 q j) → par (f_X_text_145 fu kk 0 (k : Int) m (i : Int) J) Q := by
  intro m
  induction m with
  | zero => intro _ _ _ _ _; exact par_none
  | succ m ih =>
    intro i J hi h1 h2
    show par (fb_X_text_145 fu kk 0 (k : Int) (f_X_text_145 fu kk 0 (k : Int) m) (i : Int) J) Q
    unfold fb_X_text_145
    have e10 : J 0 10 = n := (h2 0 10 (fun z => absurd z.1 (by decide))).trans h10
    rw [e10]
    by_cases q : i < n
    · rw [if_pos (show (i : Int) < (n : Int) by omega)]
      have a4 : wr32 (4 * (i : Int)) = ((4 * i : Nat) : Int) := by rw [wr32_i2 (by omega) (by omega)]; omega
      have a5 : wr32 (((4 * i : Nat) : Int) + 1) = ((4 * i + 1 : Nat) : Int) := by rw [wr32_i2 (by omega) (by omega)]; omega
      have a6 : wr32 (((4 * i : Nat) : Int) + 2) = ((4 * i + 2 : Nat) : Int) := by rw [wr32_i2 (by omega) (by omega)]; omega
      have a7 : wr32 (((4 * i : Nat) : Int) + 3) = ((4 * i + 3 : Nat) : Int) := by rw [wr32_i2 (by omega) (by omega)]; omega
      have a0 : wr32 (16 * (k : Int)) = ((16 * k : Nat) : Int) := by rw [wr32_i2 (by omega) (by omega)]; omega
      have b1 : wr32 (1590 + ((16 * k : Nat) : Int)) = ((1590 + 16 * k : Nat) : Int) := by rw [wr32_i2 (by omega) (by omega)]; omega
      have b2 : wr32 (1670 + ((16 * k : Nat) : Int)) = ((1670 + 16 * k : Nat) : Int) := by rw [wr32_i2 (by omega) (by omega)]; omega
      have b3 : wr32 (1750 + ((16 * k : Nat) : Int)) = ((1750 + 16 * k : Nat) : Int) := by rw [wr32_i2 (by omega) (by omega)]; omega
      have b4 : wr32 (1830 + ((16 * k : Nat) : Int)) = ((1830 + 16 * k : Nat) : Int) := by rw [wr32_i2 (by omega) (by omega)]; omega
      have c1 : wr32 (((1590 + 16 * k : Nat) : Int) + (i : Int)) = ((1590 + 16 * k + i : Nat) : Int) := by rw [wr32_i2 (by omega) (by omega)]; omega
      have c2 : wr32 (((1670 + 16 * k : Nat) : Int) + (i : Int)) = ((1670 + 16 * k + i : Nat) : Int) := by rw [wr32_i2 (by omega) (by omega)]; omega
      have c3 : wr32 (((1750 + 16 * k : Nat) : Int) + (i : Int)) = ((1750 + 16 * k + i : Nat) : Int) := by rw [wr32_i2 (by omega) (by omega)]; omega
      have c4 : wr32 (((1830 + 16 * k : Nat) : Int) + (i : Int)) = ((1830 + 16 * k + i : Nat) : Int) := by rw [wr32_i2 (by omega) (by omega)]; omega
      simp only [zl_e]
      rw [a4, a5, a6, a7, a0, b1, b2, b3, b4, c1, c2, c3, c4, w_nx i (by omega)]
      simp only [tn]
      refine par_zg (fun _ => par_zg (fun _ => par_zw' (fun I1 e1 => par_zg (fun _ => par_zg (fun _ => par_zw' (fun I2 e2 => par_zg (fun _ => par_zg (fun _ => par_zw' (fun I3 e3 => par_zg (fun _ => par_zg (fun _ => par_zw' (fun I4 e4 => ?_))))))))))))
      refine ih (i + 1) I4 q (fun t ht => ?_) (fun q' j hq => ?_)
      · by_cases y : t = i
        · subst y
          refine ⟨?_, ?_, ?_, ?_⟩
          · rw [e4, if_neg (by omega), e3, if_neg (by omega), e2, if_neg (by omega), e1, if_pos (by omega)]
            exact h2 4 _ (fun z => absurd z.1 (by decide))
          · rw [e4, if_neg (by omega), e3, if_neg (by omega), e2, if_pos (by omega), e1, if_neg (by omega)]
            exact h2 4 _ (fun z => absurd z.1 (by decide))
          · rw [e4, if_neg (by omega), e3, if_pos (by omega), e2, if_neg (by omega), e1, if_neg (by omega)]
            exact h2 4 _ (fun z => absurd z.1 (by decide))
          · rw [e4, if_pos (by omega), e3, if_neg (by omega), e2, if_neg (by omega), e1, if_neg (by omega)]
            exact h2 4 _ (fun z => absurd z.1 (by decide))
        · obtain ⟨x1, x2, x3, x4⟩ := h1 t (by omega)
          refine ⟨?_, ?_, ?_, ?_⟩
          · rw [e4, if_neg (by omega), e3, if_neg (by omega), e2, if_neg (by omega), e1, if_neg (by omega)]; exact x1
          · rw [e4, if_neg (by omega), e3, if_neg (by omega), e2, if_neg (by omega), e1, if_neg (by omega)]; exact x2
          · rw [e4, if_neg (by omega), e3, if_neg (by omega), e2, if_neg (by omega), e1, if_neg (by omega)]; exact x3
          · rw [e4, if_neg (by omega), e3, if_neg (by omega), e2, if_neg (by omega), e1, if_neg (by omega)]; exact x4
      · have hq' := hq
        unfold TR at hq'
        rw [e4, if_neg (by omega), e3, if_neg (by omega), e2, if_neg (by omega), e1, if_neg (by omega)]
        exact h2 q' j hq
    · rw [if_neg (show ¬ (i : Int) < (n : Int) by omega)]
      have e : i = n := by omega
      subst e
      exact hend J h1 h2
theorem xc_259 (k : Nat) (hk : k < 5) (s : Nat) (hs : s ≤ 410) (J0 : IMem) (h11 : J0 0 11 = s) : ∀ (m i : Nat) (J : IMem), i ≤ 2 * s → (∀ j, j < i → J 1 (1910 + 820 * k + j) = J0 5 j) → (∀ q j, ¬ (q = 1 ∧ 1910 + 820 * k ≤ j ∧ j < 2730 + 820 * k) → J q j = J0 q j) → par (f_X_text_259 fu 0 (k : Int) m (i : Int) J) (fun _ J' => (∀ j, j < 2 * s → J' 1 (1910 + 820 * k + j) = J0 5 j) ∧ ∀ q j, ¬ (q = 1 ∧ 1910 + 820 * k ≤ j ∧ j < 2730 + 820 * k) → J' q j = J0 q j) := by
  intro m
  induction m with
  | zero => intro _ _ _ _ _; exact par_none
  | succ m ih =>
    intro i J hi h1 h2
    show par (fb_X_text_259 fu 0 (k : Int) (f_X_text_259 fu 0 (k : Int) m) (i : Int) J) _
    unfold fb_X_text_259
    have e11 : J 0 11 = s := (h2 0 11 (by omega)).trans h11
    have w0 : wr32 (2 * (s : Int)) = ((2 * s : Nat) : Int) := by rw [wr32_i2 (by omega) (by omega)]; omega
    rw [e11, w0]
    by_cases q : i < 2 * s
    · rw [if_pos (show (i : Int) < ((2 * s : Nat) : Int) by omega)]
      have a0 : wr32 (820 * (k : Int)) = ((820 * k : Nat) : Int) := by rw [wr32_i2 (by omega) (by omega)]; omega
      have b0 : wr32 (1910 + ((820 * k : Nat) : Int)) = ((1910 + 820 * k : Nat) : Int) := by rw [wr32_i2 (by omega) (by omega)]; omega
      have c0 : wr32 (((1910 + 820 * k : Nat) : Int) + (i : Int)) = ((1910 + 820 * k + i : Nat) : Int) := by rw [wr32_i2 (by omega) (by omega)]; omega
      simp only [zl_e]
      rw [a0, b0, c0, w_nx i (by omega)]
      simp only [tn]
      refine par_zg (fun _ => par_zg (fun _ => par_zw' (fun I1 e1 => ih (i + 1) I1 q (fun j hj => ?_) (fun q' j hq => ?_))))
      · by_cases y : j = i
        · subst y
          rw [e1, if_pos (by omega)]
          exact h2 5 _ (by omega)
        · rw [e1, if_neg (by omega)]; exact h1 j (by omega)
      · rw [e1, if_neg (by omega)]; exact h2 q' j hq
    · rw [if_neg (show ¬ (i : Int) < ((2 * s : Nat) : Int) by omega)]
      have e : i = 2 * s := by omega
      subst e
      exact par_zr ⟨h1, h2⟩
/-- the TEXT lies in the hill -/
theorem xc_all {T : TXT} {d : Int} {t : Nat} {l : List LRec} {I J J' : IMem} (k : Nat) (hk : k < 5) (hs : T.s = (k : Int)) (h : INV T d t l I J) (g : ∀ q j, q ≠ 0 → J' q j = J q j) (g10 : J' 0 10 = J 0 10) (g11 : J' 0 11 = J 0 11) : par (zl (wr32 (1580 + (k : Int))) fun x28 => zg (0 ≤ x28 ∧ x28 < 6190) (zw J' (0 + 1) x28.toNat (J' 0 10) fun I27 => f_X_text_145 fu (fun (I42 : IMem) => f_X_text_259 fu 0 (k : Int) fu 0 I42) 0 (k : Int) fu 0 I27)) (fun _ J2 => LX 1 k l J2 ∧ ∀ j, ¬ TC k j → J2 1 j = J 1 j) := by
  obtain ⟨⟨ho, hc, hj, ht, hx, hp⟩, la, l2, l3, l4⟩ := h
  have hn := ho.1.2.1
  have hL := ho.2.1
  have h11 := hj.2.2.2.2.2.2.2.1
  have hcode := hj.2.2.2.2.2.2.2.2.1
  have hpl : (PX l).length ≤ 400 := by omega
  have w0 : wr32 (1580 + (k : Int)) = ((1580 + k : Nat) : Int) := by rw [wr32_i2 (by omega) (by omega)]; omega
  simp only [zl_e]
  rw [w0]
  simp only [tn]
  refine par_zg (fun _ => par_zw' (fun J1 e1 => ?_))
  have q4 : ∀ j, J1 4 j = J 4 j := fun j => by rw [e1, if_neg (by omega)]; exact g 4 j (by decide)
  have q5 : ∀ j, J1 5 j = J 5 j := fun j => by rw [e1, if_neg (by omega)]; exact g 5 j (by decide)
  refine xc_145 (fu := fu) _ k hk l.length l4 J1 (by rw [e1, if_neg (by omega), g10, l3]) (fun J2 r1 r2 => ?_) fu 0 J1 (Nat.zero_le _) (fun t ht => absurd ht (Nat.not_lt_zero _)) (fun _ _ _ => rfl)
  refine par_mono (xc_259 (fu := fu) k hk (PX l).length (by omega) J2 ?_ fu 0 J2 (Nat.zero_le _) (fun t ht => absurd ht (Nat.not_lt_zero _)) (fun _ _ _ => rfl)) (fun _ J3 ⟨s1, s2⟩ => ⟨⟨?_, fun i hi => ⟨?_, ?_⟩, fun i r hr => ?_⟩, fun j hj => ?_⟩)
  · rw [r2 0 11 (fun z => absurd z.1 (by decide)), e1, if_neg (by omega), g11, h11]
  · rw [s2 _ _ (by omega), r2 _ _ (fun z => by have := z.2; unfold TR at this; omega), e1, if_pos (by omega), g10, l3]
  · rw [s1 (2 * i) (by omega), r2 _ _ (fun z => absurd z.1 (by decide)), q5]
    exact (hcode i hi).1
  · have z := s1 (2 * i + 1) (by omega)
    rw [show 1910 + 820 * k + (2 * i + 1) = 1910 + 820 * k + 2 * i + 1 by omega] at z
    rw [z, r2 _ _ (fun z => absurd z.1 (by decide)), q5]
    exact (hcode i hi).2
  · have hi := lt_of_get hr
    obtain ⟨x0, x1, x2, x3⟩ := r1 i hi
    obtain ⟨_, _, k3, k4, k5, k6⟩ := la i r hr
    refine ⟨?_, ?_, ?_, fun z => ?_⟩
    · rw [s2 _ _ (by omega), x1, q4]; exact k3
    · rw [s2 _ _ (by omega), x2, q4]; exact k4
    · rw [s2 _ _ (by omega), x3, q4]; exact k5
    · obtain ⟨y1, y2⟩ := k6 (by rw [hs, z]; rfl)
      refine ⟨y1, ?_⟩
      rw [s2 _ _ (by omega), x0, q4]; exact y2
  · have hj' := hj
    unfold TC at hj'
    rw [s2 _ _ (by omega), r2 _ _ (fun z => hj' (Or.inr (Or.inl z.2))), e1, if_neg (by omega)]
    exact g 1 j (by decide)
end
/-! the first start of the reader's draft stays -/
section
variable {fu : Nat}
theorem z_close (I : IMem) : par (f_W_closeLine fu 149 I) (fun _ I' => I' 151 0 = I 151 0) := by
  unfold f_W_closeLine
  refine par_ite (fun _ => par_zr rfl) (fun c => par_ite (fun c2 => ?_) (fun _ => par_zr rfl))
  refine par_zw' (fun I1 e1 => par_zl (par_zg (fun _ => par_zw' (fun I2 e2 => par_zr ?_))))
  have h4 : I1 149 4 = I 149 4 + 1 := by rw [e1, if_pos ⟨rfl, rfl⟩, wr32_i2 (by omega) (by omega)]
  rw [e2, if_neg (by rw [h4]; omega), e1, if_neg (by omega)]
theorem z_exp (d : Int) (I : IMem) : par (f_R_expect fu 144 d I) (fun _ I' => I' 151 0 = I 151 0) := fun v I' e => congrFun (fr_R_expect (fun q => q ≠ 151) fu 144 d I (by omega) e 151 (by omega)) 0
theorem z_sum (I : IMem) : par (f_R_readSum fu 144 I) (fun _ I' => I' 151 0 = I 151 0) := fun v I' e => congrFun (fr_R_readSum (fun q => q ≠ 151) fu 144 I (by omega) (by omega) (by omega) e 151 (by omega)) 0
theorem z_target (I : IMem) : par (f_R_readTarget fu 144 I) (fun _ I' => I' 151 0 = I 151 0) := fun v I' e => congrFun (fr_R_readTarget (fun q => q ≠ 151) fu 144 I (by omega) (by omega) (by omega) e 151 (by omega)) 0
theorem z_ei (a : Int) (I : IMem) : par (f_R_readEither fu 144 a I) (fun _ I' => I' 151 0 = I 151 0) := fun v I' e => congrFun (fr_R_readEither (fun q => q ≠ 151) fu 144 a I (by omega) (by omega) (by omega) e 151 (by omega)) 0
theorem z_when (I : IMem) : par (f_W_startWhen fu 149 I) (fun _ I' => I' 151 0 = I 151 0) := fun v I' e => congrFun (fr_W_startWhen (fun q => q ≠ 151) fu 149 I (by omega) e 151 (by omega)) 0
theorem z_full (I : IMem) : par (f_W_isFull fu 149 I) (fun _ I' => I' 151 0 = I 151 0) := fun v I' e => congrFun (fr_W_isFull (fun q => q ≠ 151) fu 149 I e 151 (by omega)) 0
theorem z_fail (a : Int) (I : IMem) : par (f_R_fail fu 144 a I) (fun _ I' => I' 151 0 = I 151 0) := fun v I' e => congrFun (fr_R_fail (fun q => q ≠ 151) fu 144 a I (by omega) e 151 (by omega)) 0
theorem z_scan (I : IMem) : par (f_R_scan fu 144 I) (fun _ I' => I' 151 0 = I 151 0) := fun v I' e => congrFun (fr_R_scan (fun q => q ≠ 151) fu 144 I (by omega) (by omega) (by omega) (by omega) e 151 (by omega)) 0
theorem z_forget (I : IMem) : par (f_R_forget fu 144 I) (fun _ I' => I' 151 0 = I 151 0) := fun v I' e => congrFun (fr_R_forget (fun q => q ≠ 151) fu 144 I (by omega) e 151 (by omega)) 0
theorem z_clear (I : IMem) : par (f_W_clear fu 149 I) (fun _ I' => I' 151 0 = I 151 0) := fun v I' e => congrFun (fr_W_clear (fun q => q ≠ 151) fu 149 I (by omega) e 151 (by omega)) 0
theorem z_adv (I : IMem) : par (f_R_advance fu 144 I) (fun _ I' => I' 151 0 = I 151 0) := fun v I' e => congrFun (fr_R_advance (fun q => q ≠ 151) fu 144 I (by omega) e 151 (by omega)) 0
theorem z_K14 (I : IMem) : par (cK14 fu I) (fun _ I' => I' 151 0 = I 151 0) := by
  unfold cK14
  exact par_zb (z_exp 59 I) (fun _ I1 g1 => par_zb (z_close I1) (fun _ I2 g2 => par_zr (g2.trans g1)))
theorem z_K22 (I : IMem) : par (cK22 fu I) (fun _ I' => I' 151 0 = I 151 0) := by
  unfold cK22
  exact par_zb (z_exp 1 I) (fun _ I1 g1 => par_zb (z_ei 0 I1) (fun _ I2 g2 => par_mono (z_K14 I2) (fun _ _ g => g.trans (g2.trans g1))))
theorem z_K9 (I : IMem) : par (cK9 fu I) (fun _ I' => I' 151 0 = I 151 0) := by
  unfold cK9
  refine par_zb (z_when I) (fun _ I1 g1 => ?_)
  have g14 := par_mono (z_K14 (fu := fu) I1) (fun _ _ g => g.trans g1)
  have g22 := par_mono (z_K22 (fu := fu) I1) (fun _ _ g => g.trans g1)
  exact par_ite (fun _ => par_ite (fun _ => g22) (fun _ => g14)) (fun _ => g22)
theorem z_K4 (x : Int) (I : IMem) : par (cK4 fu x I) (fun _ I' => I' 151 0 = I 151 0) := by
  unfold cK4
  refine par_zb (z_exp x I) (fun _ I1 g1 => par_ite (fun _ => par_zb (z_sum I1) (fun _ I2 g2 => par_mono (z_K9 I2) (fun _ _ g => g.trans (g2.trans g1)))) (fun _ => par_zb (z_target I1) (fun _ I2 g2 => par_mono (z_K9 I2) (fun _ _ g => g.trans (g2.trans g1)))))
theorem z_line (I : IMem) : par (f_R_readLine fu 144 I) (fun _ I' => I' 151 0 = I 151 0) := by
  obtain ⟨kw, hk⟩ : ∃ kw : Int, (I 144 9 = 0 ∧ kw = 0) ∨ (I 144 9 ≠ 0 ∧ kw = 11) := by
    by_cases h : I 144 9 = 0
    · exact ⟨0, Or.inl ⟨h, rfl⟩⟩
    · exact ⟨11, Or.inr ⟨h, rfl⟩⟩
  rw [line_eq fu kw I hk]
  refine par_ite (fun _ => par_zb (z_full I) (fun _ I1 g1 => par_ite (fun _ => par_mono (z_K4 kw I1) (fun _ _ g => g.trans g1)) (fun _ => par_zb (z_fail 3 I1) (fun _ I2 g2 => par_mono (z_K4 kw I2) (fun _ _ g => g.trans (g2.trans g1)))))) (fun _ => z_K4 kw I)
theorem z_31 : ∀ (m : Nat) (w : Int) (I : IMem), par (f_R_understand_31 fu kUn 144 m w I) (fun _ I' => I' 151 0 = I 151 0) := by
  intro m
  induction m with
  | zero => intro _ _; exact par_none
  | succ m ih =>
    intro w I
    show par (fb_R_understand_31 fu kUn 144 (f_R_understand_31 fu kUn 144 m) w I) _
    unfold fb_R_understand_31
    have hk : par (kUn I) (fun _ I' => I' 151 0 = I 151 0) := by
      unfold kUn
      exact par_ite (fun _ => par_zr rfl) (fun _ => par_zr rfl)
    refine par_ite (fun _ => par_ite (fun _ => par_ite (fun _ => hk) (fun _ => ?_)) (fun _ => hk)) (fun _ => hk)
    exact par_zb (z_line I) (fun _ I1 g => par_zl (par_mono (ih _ I1) (fun _ _ g2 => g2.trans g)))
theorem z_und (x : Int) (I : IMem) : par (f_R_understand fu 144 x I) (fun _ I' => I' 151 0 = I 151 0) := by
  unfold f_R_understand
  refine par_zb (z_scan I) (fun _ I1 g1 => par_zb (z_forget I1) (fun _ I2 g2 => par_zg (fun _ => par_zw' (fun I3 e3 => par_zb (z_clear I3) (fun _ I4 g4 => par_zw' (fun I5 e5 => par_zb (z_adv I5) (fun _ I6 g6 => par_mono (z_31 fu 0 I6) (fun _ _ g => ?_))))))))
  have h5 : I5 151 0 = I4 151 0 := by rw [e5, if_neg (by omega)]
  have h3 : I3 151 0 = I2 151 0 := by rw [e3, if_neg (by omega)]
  exact g.trans (g6.trans (h5.trans (g4.trans (h3.trans (g2.trans g1)))))
end
/-! text, with the law that is laid -/
/-- the class's draft of a law -/
def LD (s : Int) (l : List LRec) (I : IMem) : Prop := I 149 4 = l.length ∧ (∀ i, i < (XS s l).length → I 150 i = (XS s l).getD i 0) ∧ ∀ (i : Nat) (r : LRec), l[i]? = some r → I 151 (i + 1) = ((XS s (l.take (i + 1))).length : Nat) ∧ I 152 i = ((XS s (l.take i)).length + (ex s r).length : Nat)
def OUT3 (k : Nat) (J0 I : IMem) (y : Int) (J : IMem) : Prop := (I 144 10 = 0 ∧ ∃ l : List LRec, LD k l I ∧ LX 1 k l J ∧ LOK k l ∧ ∀ j, ¬ TC k j → J 1 j = J0 1 j) ∨ (I 144 10 ≠ 0 ∧ ∀ j, J 1 j = J0 1 j)
theorem text2q (fu k : Nat) (hk : k < 5) (a1 x : Int) (hak : a1 = (k : Int)) (hx : x = if a1 = 4 then 1 else 0) (I J : IMem) (hR : RTp I J) : par2 (f_R_understand fu 144 x I) (f_X_text fu 0 a1 J) (OUT3 k J) := by
  have ha : 0 ≤ a1 ∧ a1 ≤ 4 := by omega
  obtain ⟨L, hL, hI1, hJ12, hb⟩ := hR
  unfold f_R_understand f_X_text
  refine par2_bl (par_scan fu I L hL hI1 (fun j hj => by have := hb j hj; omega)) (fun _ I2 ⟨n, E, s5, lx⟩ => ?_)
  obtain ⟨T, hT⟩ : ∃ T : TXT, (⟨a1, I 145, L, n, I2 146, I2 147, I2 148, E⟩ : TXT) = T := ⟨_, rfl⟩
  have ho : OKT T := by
    rw [← hT]
    exact ⟨lx, hL, fun j hj => by have := hb j hj; show 0 ≤ I 145 j ∧ I 145 j < 256; omega⟩
  have hs : T.s = a1 := by rw [← hT]
  have hTn : T.n = n := by rw [← hT]
  have hTL : T.L = L := by rw [← hT]
  have hTb : T.b = I 145 := by rw [← hT]
  have hTK : T.K = I2 146 ∧ T.P = I2 147 ∧ T.V = I2 148 ∧ T.E = E := by rw [← hT]; exact ⟨rfl, rfl, rfl, rfl⟩
  -- the class's start
  refine par2_bl (P := fun _ I5 => I5 144 5 = (n + 1 : Nat) ∧ I5 144 10 = 0 ∧ I5 144 11 = -1 ∧ (∀ j, I5 146 j = I2 146 j ∧ I5 147 j = I2 147 j ∧ I5 148 j = I2 148 j)) ?_ (fun _ I5 ⟨b5, b10, b11, ba⟩ => ?_)
  · unfold f_R_forget
    refine par_zw (par_zw (par_zw (par_zr ⟨?_, ?_, if_pos ⟨rfl, rfl⟩, fun j => ⟨?_, ?_, ?_⟩⟩)))
    · exact (up_j (by omega) _).trans ((up_j (by omega) _).trans ((up_j (by omega) _).trans s5))
    · exact (up_j (by omega) _).trans (if_pos ⟨rfl, rfl⟩)
    · exact (up_o (by omega) _).trans ((up_o (by omega) _).trans (up_o (by omega) _))
    · exact (up_o (by omega) _).trans ((up_o (by omega) _).trans (up_o (by omega) _))
    · exact (up_o (by omega) _).trans ((up_o (by omega) _).trans (up_o (by omega) _))
  refine par2_gl (fun _ => ?_)
  refine par2_zwl ?_
  refine par2_bl (P := fun _ I7 => I7 144 5 = (n + 1 : Nat) ∧ I7 144 10 = 0 ∧ I7 144 11 = -1 ∧ I7 144 9 = x ∧ (∀ j, I7 146 j = I2 146 j ∧ I7 147 j = I2 147 j ∧ I7 148 j = I2 148 j) ∧ I7 149 1 = 0 ∧ I7 149 4 = 0) ?_ (fun _ I7 ⟨c5, c10, c11, c9, ca, c1, c4⟩ => ?_)
  · unfold f_W_clear
    refine par_zw (par_zw (par_zr ⟨?_, ?_, ?_, ?_, fun j => ⟨?_, ?_, ?_⟩, ?_, if_pos ⟨rfl, rfl⟩⟩))
    · exact (up_o (by omega) _).trans ((up_o (by omega) _).trans ((up_j (by omega) _).trans b5))
    · exact (up_o (by omega) _).trans ((up_o (by omega) _).trans ((up_j (by omega) _).trans b10))
    · exact (up_o (by omega) _).trans ((up_o (by omega) _).trans ((up_j (by omega) _).trans b11))
    · exact (up_o (by omega) _).trans ((up_o (by omega) _).trans (if_pos ⟨rfl, rfl⟩))
    · exact (up_o (by omega) _).trans ((up_o (by omega) _).trans ((up_o (by omega) _).trans (ba j).1))
    · exact (up_o (by omega) _).trans ((up_o (by omega) _).trans ((up_o (by omega) _).trans (ba j).2.1))
    · exact (up_o (by omega) _).trans ((up_o (by omega) _).trans ((up_o (by omega) _).trans (ba j).2.2))
    · exact (up_j (by omega) _).trans (if_pos ⟨rfl, rfl⟩)
  refine par2_zwl ?_
  refine par2_bl (ct_start (T := T) fu ho (if_pos ⟨rfl, rfl⟩) ((up_j (by omega) _).trans c10) ((up_j (by omega) _).trans (by rw [c9, hx, hs])) ((up_j (by omega) _).trans (by rw [c5, hTn])) (fun j _ => by
    rw [hTK.1, hTK.2.1, hTK.2.2.1]
    exact ⟨(up_o (by omega) _).trans (ca j).1, (up_o (by omega) _).trans (ca j).2.1, (up_o (by omega) _).trans (ca j).2.2⟩) ((up_o (by omega) _).trans c1) ((up_j (by omega) _).trans c11)) (fun _ I8 ⟨ct, cl⟩ => ?_)
  have cl4 : I8 149 4 = 0 := cl.trans ((up_o (by omega) _).trans c4)
  -- the reference's start
  refine par2_zwr ?_
  refine par2_br (par_isIn fu a1 0 4 _) (fun y2 J2 ⟨e2, hy2⟩ => ?_)
  subst e2
  rw [if_neg (fun z => (hy2.mp z) ha)]
  refine par2_zwr (par2_zwr (par2_zwr (par2_zwr ?_)))
  obtain ⟨q0, p1, p2, p3, p4, p5⟩ := ho.1.2.2 0 (Nat.zero_le _)
  rw [ho.1.1] at p2
  generalize hJ3 : up (up (up (up (up J 0 17 0) 0 9 a1) 0 13 0) 0 10 0) 0 11 0 = J3
  have f0 : ∀ o i, ¬ (o = 0 ∧ (i = 17 ∨ i = 9 ∨ i = 13 ∨ i = 10 ∨ i = 11)) → J3 o i = J o i := by
    intro o i hoi
    rw [← hJ3]
    exact (if_neg (by omega)).trans ((if_neg (by omega)).trans ((if_neg (by omega)).trans ((if_neg (by omega)).trans (if_neg (by omega)))))
  have f11 : J3 0 11 = 0 := by rw [← hJ3]; exact if_pos ⟨rfl, rfl⟩
  have f10 : J3 0 10 = 0 := by rw [← hJ3]; exact (up_j (by omega) _).trans (if_pos ⟨rfl, rfl⟩)
  have f13 : J3 0 13 = (0 : Nat) := by rw [← hJ3]; exact (up_j (by omega) _).trans ((up_j (by omega) _).trans (if_pos ⟨rfl, rfl⟩))
  have f9 : J3 0 9 = a1 := by rw [← hJ3]; exact (up_j (by omega) _).trans ((up_j (by omega) _).trans ((up_j (by omega) _).trans (if_pos ⟨rfl, rfl⟩)))
  have f17 : J3 0 17 = 0 := by rw [← hJ3]; exact (up_j (by omega) _).trans ((up_j (by omega) _).trans ((up_j (by omega) _).trans ((up_j (by omega) _).trans (if_pos ⟨rfl, rfl⟩))))
  have tp3 : TP T.b T.L J3 := by
    rw [hTb, hTL]
    exact ⟨(f0 0 12 (by omega)).trans hJ12, hL, fun j hj => (f0 6 j (by omega)).trans (hb j hj).1.symm, fun j hj => by have := hb j hj; omega⟩
  have fw3 : J3 1 = J 1 := funext (fun i => f0 1 i (by omega))
  clear hJ3
  refine par2_br (par_next0 fu T.b T.L 0 q0 (T.E 1) (T.K 0) (T.V 0) J3 tp3 f13 p2 p3 p4) (fun _ J4 ⟨e, k15, k13, k14, k16⟩ => ?_)
  have jt : JTk T (J3 0 20) 0 [] J4 := ⟨tp_ext tp3 e, (e 0 9 (by omega)).trans (f9.trans hs.symm), k15.trans p1.symm, k13, by rw [k14, f9, hs], k16, e 0 20 (by omega), (e 0 11 (by omega)).trans f11, fun i hi => absurd hi (Nat.not_lt_zero _), (e 0 17 (by omega)).trans f17⟩
  have inv : INV T (J3 0 20) 0 [] I8 J4 := ⟨⟨ho, ct, jt, Nat.zero_le _, Nat.le_refl _, Nat.le_refl _⟩, (fun i r hr => by cases hr), cl4, (e 0 10 (by omega)).trans f10, by decide⟩
  have hw4 : J4 1 = J 1 := (funext (fun i => e 1 i (by omega))).trans fw3
  refine text57q (T := T) fu a1 _ (J 1) (fun t l d I9 J9 h9 gr9 w9 => ?_) (fun I9 J9 bd w9 => ?_) fu fu 0 0 [] (J3 0 20) I8 J4 inv (fun i r hr => by cases hr) hw4 (by omega) (by omega)
  · have h9' := h9
    obtain ⟨⟨_, gc, gj, gt, gx, gp⟩, gl, g4, g10, g16⟩ := h9'
    unfold kUn
    rw [if_pos gc.2.2.2.1]
    refine par2_r ?_
    refine par_zw' (fun Ja ea => par_zw' (fun Jb eb => ?_))
    simp only [zj]
    rw [if_neg (c := (1 : Int) = 0) (by decide)]
    refine par_zw' (fun Jc ec => ?_)
    rw [if_neg (c := (1 : Int) = 0) (by decide)]
    subst hak
    have hn := ho.1.2.1
    have hL' := ho.2.1
    have ld : LD T.s l I9 := ⟨g4, gc.2.2.2.2.2.2.2.2.1, fun i r hr => ⟨(gl i r hr).1, (gl i r hr).2.1⟩⟩
    have lo : LOK T.s l := ⟨g16, by omega, by omega, gr9⟩
    rw [hs] at ld lo
    refine par_mono (xc_all (fu := fu) (J' := Jc) k hk hs h9 (fun q j hq => by rw [ec, if_neg (by omega), eb, if_neg (by omega), ea, if_neg (by omega)]) (by rw [ec, if_neg (by omega), eb, if_neg (by omega), ea, if_neg (by omega)]) (by rw [ec, if_neg (by omega), eb, if_neg (by omega), ea, if_neg (by omega)])) (fun y J10 ⟨z1, z2⟩ => ?_)
    exact Or.inl ⟨gc.2.2.2.1, l, ld, z1, lo, fun j hj => (z2 j hj).trans (congrFun w9 j)⟩
  · unfold kUn
    obtain ⟨f, p, b1, b2, b3⟩ := bd
    rw [if_neg (by rw [b2.1]; exact b1)]
    refine par2_r ?_
    refine par_zw' (fun Ja ea => par_zw' (fun Jb eb => ?_))
    simp only [zj]
    rw [if_pos trivial]
    refine par_zw' (fun Jc ec => ?_)
    rw [if_pos trivial]
    exact par_zr (Or.inr ⟨by rw [b2.1]; exact b1, fun j => by rw [ec, if_neg (by omega), eb, if_neg (by omega), ea, if_neg (by omega)]; exact congrFun w9 j⟩)
theorem text_lw (fu : Nat) (a1 : Int) {I J : IMem} (hR : RTp I J) (z : I 151 0 = 0) {x y : Int} {I' J' : IMem} (e1 : f_S_text fu 0 a1 I = some (x, I')) (e2 : f_X_text fu 0 a1 J = some (y, J')) : I' 151 0 = 0 ∧ (((∀ j, J' 1 j = J 1 j) ∧ ∀ q j, q < 100 → I' q j = I q j) ∨ ∃ k : Nat, k < 5 ∧ LWR 1 1 k I' J' ∧ (∀ j, ¬ TC k j → J' 1 j = J 1 j) ∧ ∀ q j, q < 100 → ¬ (16 + 5 * k ≤ q ∧ q < 20 + 5 * k) → I' q j = I q j) := by
  by_cases ha : 0 ≤ a1 ∧ a1 ≤ 4
  · obtain ⟨k, hk, hak⟩ : ∃ k : Nat, k < 5 ∧ a1 = (k : Int) := ⟨a1.toNat, by omega, by omega⟩
    have key : par (f_S_text fu 0 a1 I) (fun _ I' => I' 151 0 = 0 ∧ (((∀ j, J' 1 j = J 1 j) ∧ ∀ q j, q < 100 → I' q j = I q j) ∨ ∃ k : Nat, k < 5 ∧ LWR 1 1 k I' J' ∧ (∀ j, ¬ TC k j → J' 1 j = J 1 j) ∧ ∀ q j, q < 100 → ¬ (16 + 5 * k ≤ q ∧ q < 20 + 5 * k) → I' q j = I q j)) := by
      unfold f_S_text
      simp only [zj]
      rw [if_neg (show ¬ a1 < 0 by omega), if_neg (show ¬ 4 < a1 by omega)]
      have go : ∀ x : Int, x = (if a1 = 4 then 1 else 0) → par (zb (f_R_understand fu (0 + 144) x I) fun y9 I10 => if y9 = 0 then zr (-1) I10 else zg (0 ≤ a1 ∧ a1 < 5) (zb (f_W_copyFrom fu (0 + 16 + 5 * a1.toNat) (0 + 149) I10) fun _ I14 => zr (I14 (0 + 149) 4) I14)) (fun _ I' => I' 151 0 = 0 ∧ (((∀ j, J' 1 j = J 1 j) ∧ ∀ q j, q < 100 → I' q j = I q j) ∨ ∃ k : Nat, k < 5 ∧ LWR 1 1 k I' J' ∧ (∀ j, ¬ TC k j → J' 1 j = J 1 j) ∧ ∀ q j, q < 100 → ¬ (16 + 5 * k ≤ q ∧ q < 20 + 5 * k) → I' q j = I q j)) := by
        intro x hx
        have p2 : par (f_R_understand fu 144 x I) (fun _ I' => OUT3 k J I' y J') := fun v I2 e => text2q fu k hk a1 x hak hx I J hR v I2 y J' e e2
        have p3 : par (f_R_understand fu 144 x I) (fun _ I' => ∀ q j, q < 100 → I' q j = I q j) := fun v I2 e q j hq => congrFun (fr_R_understand (fun q => 100 ≤ q) fu 144 x I (by omega) (by omega) (by omega) (by omega) (by omega) (by omega) (by omega) (by omega) e q (by omega)) j
        refine par_zb (par_and (par_and (und_v fu x I) p2) (par_and (z_und x I) p3)) (fun v I10 ⟨⟨hv, ho⟩, hz, hf⟩ => ?_)
        rcases hv with ⟨e, h0⟩ | ⟨e, h0⟩
        · rw [if_neg (by omega)]
          rcases ho with ⟨_, l, ld, lx, lo, fj⟩ | ⟨o1, _⟩
          · have ek : 0 + 16 + 5 * a1.toNat = 1 + 15 + 5 * k := by omega
            rw [ek]
            refine par_zg (fun _ => par_zb (cv_wcopy (fu := fu) (1 + 15 + 5 * k) (0 + 149) (by omega) I10) (fun _ I14 ⟨⟨c1, c2, c3, c4⟩, c5⟩ => par_zr ⟨?_, Or.inr ⟨k, hk, ⟨l, ⟨c1.trans ld.1, fun i hi => ?_, ?_, fun i r hr => ⟨?_, ?_⟩⟩, lx, lo⟩, fj, fun q j hq hn => ?_⟩⟩))
            · rw [c5 _ _ (by omega)]; exact hz.trans z
            · exact (c2 i (by have := lo.2.1; omega)).trans (ld.2.1 i hi)
            · exact (c3 0 (by decide)).trans (hz.trans z)
            · exact (c3 (i + 1) (by have := lt_of_get hr; have := lo.1; omega)).trans (ld.2.2 i r hr).1
            · exact (c4 i (by have := lt_of_get hr; have := lo.1; omega)).trans (ld.2.2 i r hr).2
            · exact (c5 _ _ (by omega)).trans (hf q j hq)
          · exact absurd h0 o1
        · rw [if_pos e]
          rcases ho with ⟨o1, _⟩ | ⟨_, o2⟩
          · exact absurd o1 h0
          · exact par_zr ⟨hz.trans z, Or.inl ⟨o2, hf⟩⟩
      exact par_ite (fun c4 => go 1 (if_pos c4).symm) (fun c4 => go 0 (if_neg c4).symm)
    exact key x I' e1
  · have k1 : par (f_S_text fu 0 a1 I) (fun _ I' => ∀ q j, q ≠ 144 → I' q j = I q j) := by
      unfold f_S_text
      simp only [zj]
      have hfg : par (zb (f_R_forget fu (0 + 144) I) fun _ I4 => zr (-1) I4) (fun _ I' => ∀ q j, q ≠ 144 → I' q j = I q j) := by
        unfold f_R_forget
        exact par_zb (Q1 := fun _ I' => ∀ q j, q ≠ 144 → I' q j = I q j) (par_zw (par_zw (par_zw (par_zr (fun q j hq => (up_o (by omega) _).trans ((up_o (by omega) _).trans (up_o (by omega) _))))))) (fun _ _ h => par_zr h)
      exact par_ite (fun _ => hfg) (fun c => par_ite (fun _ => hfg) (fun c2 => absurd ⟨by omega, by omega⟩ ha))
    have k2 : par (f_X_text fu 0 a1 J) (fun _ J' => ∀ j, J' 1 j = J 1 j) := by
      unfold f_X_text
      refine par_zw (par_zb (par_isIn fu a1 0 4 _) (fun y2 J2 ⟨e, hy⟩ => ?_))
      rw [if_pos (hy.mpr ha)]
      subst e
      exact par_zw (par_zw (par_zw (par_zr (fun j => (up_o (by omega) _).trans ((up_o (by omega) _).trans ((up_o (by omega) _).trans (up_o (by omega) _)))))))
    exact ⟨(k1 x I' e1 151 0 (by decide)).trans z, Or.inl ⟨k2 y J' e2, fun q j hq => k1 x I' e1 q j (by omega)⟩⟩
/-- another law's cells -/
theorem lwr_ot {k k2 : Nat} {I J I' J' : IMem} (hk : k < 5) (hk2 : k2 < 5) (hne : k2 ≠ k) (h : LWR 1 1 k2 I J) (b2 : ∀ j, ¬ TC k j → J' 1 j = J 1 j) (b3 : ∀ q j, q < 100 → ¬ (16 + 5 * k ≤ q ∧ q < 20 + 5 * k) → I' q j = I q j) : LWR 1 1 k2 I' J' := by
  obtain ⟨l, lc, lx, lo⟩ := h
  refine ⟨l, lc_mv lc (fun d j hd => b3 _ _ (by omega) (by omega)), ?_, lo⟩
  obtain ⟨a1, a2, a3⟩ := lx
  have o1 := lo.1
  have o3 := lo.2.2.1
  have tc : ∀ j, (j = 1580 + k2 ∨ TR k2 j ∨ (1910 + 820 * k2 ≤ j ∧ j < 2730 + 820 * k2)) → J' 1 j = J 1 j := fun j hj => b2 j (by unfold TC TR; unfold TR at hj; omega)
  refine ⟨?_, fun i hi => ⟨?_, ?_⟩, fun i r hr => ?_⟩
  · rw [tc _ (Or.inl rfl)]; exact a1
  · rw [tc _ (Or.inr (Or.inr (by omega)))]; exact (a2 i hi).1
  · rw [tc _ (Or.inr (Or.inr (by omega)))]; exact (a2 i hi).2
  · have hi := lt_of_get hr
    obtain ⟨c3, c4, c5, c6⟩ := a3 i r hr
    refine ⟨?_, ?_, ?_, fun q => ⟨(c6 q).1, ?_⟩⟩
    · rw [tc _ (Or.inr (Or.inl (by unfold TR; omega)))]; exact c3
    · rw [tc _ (Or.inr (Or.inl (by unfold TR; omega)))]; exact c4
    · rw [tc _ (Or.inr (Or.inl (by unfold TR; omega)))]; exact c5
    · rw [tc _ (Or.inr (Or.inl (by unfold TR; omega)))]; exact (c6 q).2
theorem pj_text {fu : Nat} {I J : IMem} (a1 : Int) (h : RJ I J) : pq (f_S_text fu 0 a1 I) (f_X_text fu 0 a1 J) EQJ := by
  intro x I' y J' e1 e2
  have h' := h
  obtain ⟨⟨hR, hz11, hA⟩, n11, i8, him, hZ, hP, hT, hF⟩ := h'
  obtain ⟨p1, p2⟩ := text_j fu a1 hT e1 e2
  obtain ⟨q1, q2⟩ := text_lw fu a1 hT hZ.2.2 e1 e2
  have fI : ∀ q j, ¬ ((16 ≤ q ∧ q < 41) ∨ q = 144 ∨ (146 ≤ q ∧ q ≤ 152)) → I' q j = I q j := fun q j hq => congrFun (fr_S_text (fun q => (16 ≤ q ∧ q < 41) ∨ q = 144 ∨ (146 ≤ q ∧ q ≤ 152)) fu 0 a1 I (fun q a b => by omega) (by omega) (by omega) (by omega) (by omega) (by omega) (by omega) (by omega) (by omega) e1 q hq) j
  have fJ : ∀ q j, ¬ (q = 1 ∨ q = 4 ∨ q = 5 ∨ (q = 0 ∧ 9 ≤ j ∧ j ≤ 21)) → J' q j = J q j := fc_X_text (fun q j => q = 1 ∨ q = 4 ∨ q = 5 ∨ (q = 0 ∧ 9 ≤ j ∧ j ≤ 21)) fu 0 a1 J (fun j => by omega) (fun j => by omega) (fun j => by omega) (by omega) (by omega) (by omega) (by omega) (by omega) (by omega) (by omega) (by omega) (by omega) (by omega) (by omega) (by omega) (by omega) e2
  have w1 : ∀ j, j < 1580 ∨ 6010 ≤ j → J' 1 j = J 1 j := by
    intro j hj
    rcases q2 with ⟨b1, _⟩ | ⟨k, hk, _, b2, _⟩
    · exact b1 j
    · exact b2 j (by unfold TC TR; omega)
  have hW : HW 1 1 I' J' := by
    rcases q2 with ⟨b1, b2⟩ | ⟨k, hk, b1, b2, b3⟩
    · exact hw_mv hR.2.2.2.2 (fun d j a c e => b2 (1 + d) j (by omega)) (fun j _ _ => b1 j)
    · intro k2 hk2
      by_cases y : k2 = k
      · subst y; exact b1
      · exact lwr_ot hk hk2 y (hR.2.2.2.2 k2 hk2) b2 b3
  have hR' : HR 1 1 I' J' := ⟨hs_mv hR.1 (fun d j hd => fI _ _ (by omega)) (fun j hj => w1 j (by omega)), hy_mv hR.2.1 (fun j => fI _ _ (by omega)) (fun j _ _ => w1 j (by omega)), hp_mv hR.2.2.1 (fun j => ⟨fI _ _ (by omega), fI _ _ (by omega)⟩) (fun j hj => w1 j (by omega)), hl_mv hR.2.2.2.1 (fun j => ⟨fI _ _ (by omega), fI _ _ (by omega)⟩) (fun j _ _ => w1 j (by omega)), hW⟩
  refine ⟨rj_mv h ⟨hR', ?_, ?_, ?_⟩ (fI _ _ (by omega)) (fun q j hq => ?_) (fun q j hq => fJ _ _ (by omega)) (pk_mv hP (fun q j hq => fI _ _ (by omega)) (fun q j hq => ?_) (fun k hk => ?_)) ⟨0, Nat.zero_le _, ja_S_text fu a1 I e1, ja_X_text fu a1 J e2, fun j hj => absurd hj (Nat.not_lt_zero _)⟩ p2, p1⟩
  · rw [fI _ _ (by omega), fJ _ _ (by omega)]; exact hz11
  · rw [fI _ _ (by omega)]; exact hA.1
  · rw [fI _ _ (by omega)]; exact hA.2
  · by_cases y : q = 151 ∧ j = 0
    · rw [y.1, y.2, q1, hZ.2.2]
    · exact fI _ _ (by omega)
  · by_cases y : q = 1
    · subst y; exact w1 _ (by omega)
    · exact fJ _ _ (by omega)
  · have k1 := hk.1
    exact ⟨⟨k1, by rw [w1 _ (by omega)]; exact hk.2⟩, w1 _ (by omega), w1 _ (by omega)⟩
