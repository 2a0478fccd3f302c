/-! a law's value on both sides -/
theorem get_split {α : Type} {l : List α} {i : Nat} {r : α} (h : l[i]? = some r) : l = l.take i ++ r :: l.drop (i + 1) := by
  have hi : i < l.length := by
    rcases Nat.lt_or_ge i l.length with g | g
    · exact g
    · rw [List.getElem?_eq_none g] at h; cases h
  have e : l[i] = r := by
    rw [List.getElem?_eq_getElem hi] at h
    exact Option.some.inj h
  have := List.drop_eq_getElem_cons hi
  rw [e] at this
  rw [← this]
  exact (List.take_append_drop i l).symm
theorem take_s {l : List LRec} {i : Nat} {r : LRec} (h : l[i]? = some r) : l.take (i + 1) = l.take i ++ [r] := by
  have hi := lt_of_get h
  rw [List.take_succ, h]
  rfl
theorem drop_s {α : Type} {l : List α} {i : Nat} {r : α} (h : l[i]? = some r) : l.drop i = r :: l.drop (i + 1) := by
  have hi : i < l.length := by
    rcases Nat.lt_or_ge i l.length with g | g
    · exact g
    · rw [List.getElem?_eq_none g] at h; cases h
  have e : l[i] = r := by
    rw [List.getElem?_eq_getElem hi] at h
    exact Option.some.inj h
  rw [← e]
  exact List.drop_eq_getElem_cons hi
theorem xs_at {s : Int} {l : List LRec} {i : Nat} {r : LRec} (h : l[i]? = some r) : XS s l = XS s (l.take i) ++ ((ex s r ++ enc r.B) ++ XS s (l.drop (i + 1))) := by
  have e := get_split h
  have : XS s l = XS s (l.take i ++ r :: l.drop (i + 1)) := by rw [← e]
  rw [this]
  unfold XS
  rw [List.flatMap_append, List.flatMap_cons]
theorem px_at {l : List LRec} {i : Nat} {r : LRec} (h : l[i]? = some r) : PX l = PX (l.take i) ++ ((r.E ++ r.B) ++ PX (l.drop (i + 1))) := by
  have e := get_split h
  have : PX l = PX (l.take i ++ r :: l.drop (i + 1)) := by rw [← e]
  rw [this]
  unfold PX
  rw [List.flatMap_append, List.flatMap_cons]
theorem enc_ne {it : List (Int × Int)} (h : it ≠ []) : 0 < (enc it).length := by
  cases it with
  | nil => exact absurd rfl h
  | cons x t =>
    show 0 < (enI x ++ enc t).length
    rw [List.length_append]
    have : 0 < (enI x).length := by
      unfold enI
      split
      · exact Nat.zero_lt_one
      · split <;> simp
    omega
theorem ty_num {s v : Int} (h : 0 ≤ v ∧ v ≤ 9999) : TYP 24 s [(0, v)] false := by
  intro st
  unfold tyR
  rw [if_pos (by omega), if_pos rfl, if_pos h]
  rfl
theorem ev_num (F : Nat → Int) (v : Int) : evV F [(0, v)] = v := rfl
/-- facts that agree where a law may look -/
def AG (s : Int) (F G : Nat → Int) : Prop := ∀ y : Int, 1 ≤ y → y < 12 → ((s = 4 ∧ (y = 1 ∨ y = 7 ∨ y = 10 ∨ y = 11)) ∨ (s ≠ 4 ∧ y ≤ 9)) → F y.toNat = G y.toNat
theorem ev_ag {B : Nat} {s : Int} {F G : Nat → Int} (h : AG s F G) : ∀ (it : List (Int × Int)) (ty ty2 : List Bool) (st : List Int), tyR B s it ty = some ty2 → TV st ty → evL F it st = evL G it st := by
  intro it
  induction it with
  | nil => intro _ _ _ _ _; rfl
  | cons x t ih =>
    intro ty ty2 st hty hv
    obtain ⟨kd, _, ty1, h1, h2, _⟩ := ty_step hty F hv
    have e : ev1 F x st = ev1 G x st := by
      unfold ev1
      unfold KND at kd
      by_cases c0 : x.1 = 0
      · rw [if_pos c0, if_pos c0]
      · rw [if_neg c0, if_neg c0]
        by_cases c1 : x.1 < 12
        · rw [if_pos c1, if_pos c1]
          rcases kd with c | c | c | c | c
          · exact absurd c.1 c0
          · rw [h x.1 c.1 c.2.1 c.2.2]
          · omega
          · omega
          · omega
        · rw [if_neg c1, if_neg c1]
    show evL F t (ev1 F x st) = evL G t (ev1 G x st)
    rw [← e]
    exact ih ty1 ty2 _ h1 h2
theorem evV_ag {s : Int} {b : Bool} {F G : Nat → Int} {it : List (Int × Int)} (h : AG s F G) (ht : TYP 24 s it b) : evV F it = evV G it := by
  unfold evV
  have h0 := ht []
  rw [ev_ag h it [] [b] [] (by simpa using h0) trivial]
theorem evV_bit {s : Int} (F : Nat → Int) {it : List (Int × Int)} (ht : TYP 24 s it true) : evV F it = 0 ∨ evV F it = 1 := by
  have h0 := ht []
  have hv := tv_run F it [] [true] [] (by simpa using h0) trivial
  unfold evV
  generalize evL F it [] = st at hv
  cases st with
  | nil => exact hv.elim
  | cons v t => exact hv.1 rfl
section
variable {fu : Nat}
theorem lc_beg {ol : Nat} {s : Int} {l : List LRec} {I : IMem} (h : LC ol s l I) {i : Nat} {r : LRec} (hr : l[i]? = some r) : I (ol + 2) i = ((XS s (l.take i)).length : Nat) := by
  cases i with
  | zero => exact h.2.2.1
  | succ i =>
    have hi := lt_of_get hr
    have : ∃ r', l[i]? = some r' := ⟨l[i]'(by omega), List.getElem?_eq_getElem (by omega)⟩
    obtain ⟨r', hr'⟩ := this
    exact (h.2.2.2 i r' hr').1
/-- E of a line, in the class -/
theorem cv_E {ol o3 i : Nat} {s : Int} {l : List LRec} {r : LRec} {I : IMem} {F : Nat → Int} (h3 : o3 ≠ ol + 4) (h : LC ol s l I) (ho : LOK s l) (hr : l[i]? = some r) (hF : FMAP s (I o3) F) : par (f_W_reckon fu ol (I (ol + 2) i) (I (ol + 3) i) o3 16 I) (fun v I' => v = (if s = 4 then r.v else evV F r.E) ∧ ∀ q j, q ≠ ol + 4 → I' q j = I q j) := by
  have hg := ho.2.2.2 i r hr
  have hx := xs_at (s := s) hr
  have hl := ho.2.1
  rw [hx, List.length_append, List.length_append, List.length_append] at hl
  have hseg := seg_of (c := I (ol + 1)) (XS s l) 0 (fun t ht => by rw [Nat.zero_add]; exact h.2.1 t ht)
  rw [hx] at hseg
  have sg := (seg_app _ _ _ (seg_app _ _ _ hseg).2).1
  have sg1 := (seg_app _ _ _ sg).1
  rw [Nat.zero_add] at sg1
  rw [lc_beg h hr, (h.2.2.2 i r hr).2]
  by_cases h4 : s = 4
  · have ee : ex s r = enc [(0, r.v)] := by unfold ex; rw [if_pos h4]; rfl
    rw [if_pos h4]
    rw [ee] at sg1 hl ⊢
    exact rk_val h3 _ [(0, r.v)] I _ rfl sg1 hF (ty_num (by have := hg.2.2 h4; omega)) (by omega)
  · have ee : ex s r = enc r.E := by unfold ex; rw [if_neg h4]
    rw [if_neg h4]
    obtain ⟨b, hb⟩ := hg.1 h4
    rw [ee] at sg1 hl ⊢
    exact rk_val h3 _ r.E I _ rfl sg1 hF hb (by omega)
theorem cv_2 {ol o3 : Nat} {s : Int} {l : List LRec} {F : Nat → Int} (h3 : ∀ d, d < 5 → o3 ≠ ol + d) (ho : LOK s l) (I0 : IMem) (h0 : LC ol s l I0) (hF0 : FMAP s (I0 o3) F) : ∀ (m i : Nat) (I : IMem), (∀ q j, q ≠ ol + 4 → I q j = I0 q j) → i ≤ l.length → par (f_W_value_2 fu (fun (x9 : Int) (x10 : Int) (I8 : IMem) => zg (0 ≤ x9 ∧ x9 < 17) (zb (f_W_reckon fu ol (I8 (ol + 2) x9.toNat) x10 o3 16 I8) fun y11 I12 => zr y11 I12)) ol o3 16 m (i : Int) I) (fun v I' => v = lval s F (l.drop i) ∧ ∀ q j, q ≠ ol + 4 → I' q j = I0 q j) := by
  intro m
  induction m with
  | zero => intro _ _ _ _; exact par_none
  | succ m ih =>
    intro i I hI hi
    have hc : LC ol s l I := lc_mv h0 (fun d j hd => hI _ _ (by omega))
    have hF : FMAP s (I o3) F := fun y a b c => by rw [hI _ _ (h3 4 (by decide))]; exact hF0 y a b c
    show par (fb_W_value_2 fu _ ol o3 16 (f_W_value_2 fu _ ol o3 16 m) (i : Int) I) _
    unfold fb_W_value_2
    rw [hc.1]
    by_cases hil : i < l.length
    · have o1 := ho.1
      rw [if_pos (by omega), if_pos (by omega)]
      obtain ⟨r, hr⟩ : ∃ r, l[i]? = some r := ⟨l[i], List.getElem?_eq_getElem hil⟩
      have hg := ho.2.2.2 i r hr
      refine par_zg (fun _ => ?_)
      simp only [zl_e]
      have e4 : wr32 ((i : Int) + 1) = ((i + 1 : Nat) : Int) := by rw [wr32_i2 (by omega) (by omega)]; rfl
      rw [e4]
      refine par_zg (fun _ => ?_)
      rw [show ((i : Nat) : Int).toNat = i from rfl, show ((i + 1 : Nat) : Int).toNat = i + 1 from rfl]
      have hw := (hc.2.2.2 i r hr).2
      have hs := (hc.2.2.2 i r hr).1
      rw [take_s hr, xs_app, List.length_append, List.length_append] at hs
      have fin : ∀ I1 : IMem, (∀ q j, q ≠ ol + 4 → I1 q j = I0 q j) → lval s F (l.drop i) = (if s = 4 then r.v else evV F r.E) → par (zg (0 ≤ (i : Int) ∧ (i : Int) < 17) (zb (f_W_reckon fu ol (I1 (ol + 2) (i : Int).toNat) (I (ol + 3) i) o3 16 I1) fun y11 I12 => zr y11 I12)) (fun v I' => v = lval s F (l.drop i) ∧ ∀ q j, q ≠ ol + 4 → I' q j = I0 q j) := by
        intro I1 h1 hv
        have e1 : I (ol + 3) i = I1 (ol + 3) i := by rw [hI _ _ (by omega), h1 _ _ (by omega)]
        rw [e1]
        refine par_zg (fun _ => par_zb (cv_E (F := F) (h3 4 (by decide)) (lc_mv h0 (fun d j hd => h1 _ _ (by omega))) ho hr (fun y a b c => by rw [h1 _ _ (h3 4 (by decide))]; exact hF0 y a b c)) (fun v I2 ⟨g1, g2⟩ => par_zr ⟨by rw [hv, g1], fun q j hq => (g2 q j hq).trans (h1 q j hq)⟩))
      rw [drop_s hr] at fin ⊢
      rcases hg.2.1 with hB | hB
      · rw [if_pos (by rw [hw, hs, hB, enc_nil]; simp)]
        refine fin I hI ?_
        unfold lval
        rw [if_pos (Or.inl hB)]
      · have hne : r.B ≠ [] := by
          intro e
          have := hB []
          rw [e] at this
          cases this
        have hpos := enc_ne hne
        rw [if_neg (by rw [hw, hs]; omega)]
        have hx := xs_at (s := s) hr
        have hl := ho.2.1
        rw [hx, List.length_append, List.length_append, List.length_append] at hl
        have hseg := seg_of (c := I (ol + 1)) (XS s l) 0 (fun t ht => by rw [Nat.zero_add]; exact hc.2.1 t ht)
        rw [hx] at hseg
        have sg := (seg_app _ _ _ (seg_app _ _ _ hseg).2).1
        have sg1 := (seg_app _ _ _ sg).2
        rw [Nat.zero_add] at sg1
        refine par_zb (Q1 := fun v I' => v = evV F r.B ∧ ∀ q j, q ≠ ol + 4 → I' q j = I q j) ?_ (fun v I1 ⟨g1, g2⟩ => ?_)
        · rw [hw, hs]
          exact rk_val (h3 4 (by decide)) _ r.B I _ (by omega) sg1 hF hB (by omega)
        · have hI1 : ∀ q j, q ≠ ol + 4 → I1 q j = I0 q j := fun q j hq => (g2 q j hq).trans (hI q j hq)
          rw [g1]
          rcases evV_bit F hB with e | e
          · rw [if_pos e]
            have g := ih (i + 1) I1 hI1 hil
            have hlv : lval s F (r :: l.drop (i + 1)) = lval s F (l.drop (i + 1)) := by
              show (if r.B = [] ∨ evV F r.B = 1 then _ else _) = _
              rw [if_neg (fun q => q.elim hne (fun z => by omega))]
            rw [hlv]
            exact g
          · rw [if_neg (by omega)]
            refine fin I1 hI1 ?_
            show (if r.B = [] ∨ evV F r.B = 1 then _ else _) = _
            rw [if_pos (Or.inr e)]
    · rw [if_neg (by omega)]
      refine par_zr ⟨?_, hI⟩
      rw [List.drop_eq_nil_of_le (by omega)]
      rfl
/-- the value of a law in the class -/
theorem cv_value {ol o3 : Nat} {s : Int} {l : List LRec} {F : Nat → Int} (h3 : ∀ d, d < 5 → o3 ≠ ol + d) (ho : LOK s l) (I : IMem) (h : LC ol s l I) (hF : FMAP s (I o3) F) : par (f_W_value fu ol o3 16 I) (fun v I' => v = lval s F l ∧ ∀ q j, q ≠ ol + 4 → I' q j = I q j) := cv_2 h3 ho I h hF fu 0 I (fun _ _ _ => rfl) (Nat.zero_le _)
/-- the line of a law that is so, in the reference -/
theorem xv_2 {k : Nat} {l : List LRec} {F : Nat → Int} (hk : k < 5) (ho : LOK k l) (J0 : IMem) (h0 : LX 1 k l J0) (hF0 : AG k (J0 8) F) : ∀ (m i : Nat) (J : IMem), (∀ q j, q ≠ 7 → J q j = J0 q j) → i ≤ l.length → par (f_X_firstLine_2 fu 0 (k : Int) m (i : Int) J) (fun y J' => (∀ q j, q ≠ 7 → J' q j = J0 q j) ∧ ((y = -1 ∧ lval k F (l.drop i) = 0) ∨ ∃ (i' : Nat) (r : LRec), l[i']? = some r ∧ y = ((16 * k + i' : Nat) : Int) ∧ lval k F (l.drop i) = (if (k : Int) = 4 then r.v else evV F r.E))) := by
  intro m
  induction m with
  | zero => intro _ _ _ _; exact par_none
  | succ m ih =>
    intro i J hJ hi
    have hc : LX 1 k l J := lx_mv hk ho h0 (fun j _ _ => hJ _ _ (by decide))
    have hF : AG k (J 8) F := fun y a b c => by rw [hJ _ _ (by decide)]; exact hF0 y a b c
    have o1 := ho.1
    show par (fb_X_firstLine_2 fu 0 (k : Int) (f_X_firstLine_2 fu 0 (k : Int) m) (i : Int) J) _
    unfold fb_X_firstLine_2
    have e0 : wr32 (1580 + (k : Int)) = ((1580 + k : Nat) : Int) := by rw [wr32_i2 (by omega) (by omega)]; omega
    simp only [zl_e]
    rw [e0]
    refine par_zg (fun _ => ?_)
    show par (if (i : Int) < J 1 (1580 + k) then _ else _) _
    rw [hc.1]
    by_cases hil : i < l.length
    · rw [if_pos (by omega)]
      obtain ⟨r, hr⟩ : ∃ r, l[i]? = some r := ⟨l[i], List.getElem?_eq_getElem hil⟩
      have hg := ho.2.2.2 i r hr
      have e1 : wr32 (wr32 (16 * (k : Int)) + (i : Int)) = ((16 * k + i : Nat) : Int) := by rw [wr32_i2 (x := 16 * (k : Int)) (by omega) (by omega), wr32_i2 (by omega) (by omega)]; omega
      rw [e1]
      have e2 : wr32 (1830 + ((16 * k + i : Nat) : Int)) = ((1830 + 16 * k + i : Nat) : Int) := by rw [wr32_i2 (by omega) (by omega)]; omega
      have e3 : wr32 (1750 + ((16 * k + i : Nat) : Int)) = ((1750 + 16 * k + i : Nat) : Int) := by rw [wr32_i2 (by omega) (by omega)]; omega
      have e4 : wr32 ((i : Int) + 1) = ((i + 1 : Nat) : Int) := by rw [wr32_i2 (by omega) (by omega)]; rfl
      rw [e2, e3, e4]
      refine par_zg (fun _ => par_zg (fun _ => ?_))
      show par (if J 1 (1830 + 16 * k + i) = J 1 (1750 + 16 * k + i) then _ else _) _
      obtain ⟨p1, p2, p3, p4⟩ := hc.2.2 i r hr
      rw [take_s hr, px_app, List.length_append, List.length_append] at p3
      rw [drop_s hr]
      have yes : (r.B = [] ∨ evV F r.B = 1) → lval k F (r :: l.drop (i + 1)) = (if (k : Int) = 4 then r.v else evV F r.E) := by
        intro q
        show (if r.B = [] ∨ evV F r.B = 1 then _ else _) = _
        rw [if_pos q]
      rcases hg.2.1 with hB | hB
      · rw [if_pos (by rw [p2, p3, hB]; simp)]
        exact par_zr ⟨hJ, Or.inr ⟨i, r, hr, rfl, yes (Or.inl hB)⟩⟩
      · have hne : r.B ≠ [] := by
          intro e
          have := hB []
          rw [e] at this
          cases this
        have hpos : 0 < r.B.length := List.length_pos_iff.mpr hne
        rw [if_neg (by rw [p2, p3]; omega)]
        refine par_zg (fun _ => par_zg (fun _ => ?_))
        have hx := px_at hr
        have hl := ho.2.2.1
        rw [hx, List.length_append, List.length_append, List.length_append] at hl
        have hseg := seg2_of (c := fun j => J 1 (1910 + 820 * k + j)) (PX l) 0 (fun t ht => by rw [Nat.zero_add]; exact hc.2.1 t ht)
        rw [hx] at hseg
        have sg := (seg2_app _ _ _ (seg2_app _ _ _ hseg).2).1
        have sg1 := (seg2_app _ _ _ sg).2
        rw [Nat.zero_add] at sg1
        refine par_zb (Q1 := fun v J' => v = evV (J 8) r.B ∧ ∀ q j, q ≠ 7 → J' q j = J q j) ?_ (fun v J1 ⟨g1, g2⟩ => ?_)
        · show par (f_X_comesTo fu 0 (k : Int) (J 1 (1750 + 16 * k + i)) (J 1 (1830 + 16 * k + i)) J) _
          rw [p2, p3]
          exact cmx_val k _ hk r.B J _ (by omega) sg1 hB (by omega)
        · have hJ1 : ∀ q j, q ≠ 7 → J1 q j = J0 q j := fun q j hq => (g2 q j hq).trans (hJ q j hq)
          rw [g1, evV_ag hF hB]
          rcases evV_bit F hB with e | e
          · rw [if_neg (by omega)]
            have g := ih (i + 1) J1 hJ1 hil
            have hlv : lval k F (r :: l.drop (i + 1)) = lval k F (l.drop (i + 1)) := by
              show (if r.B = [] ∨ evV F r.B = 1 then _ else _) = _
              rw [if_neg (fun q => q.elim hne (fun z => by omega))]
            rw [hlv]
            exact g
          · rw [if_pos e]
            exact par_zr ⟨hJ1, Or.inr ⟨i, r, hr, rfl, yes (Or.inr e)⟩⟩
    · rw [if_neg (by omega)]
      refine par_zr ⟨hJ, Or.inl ⟨rfl, ?_⟩⟩
      rw [List.drop_eq_nil_of_le (by omega)]
      rfl
theorem xv_first {k : Nat} {l : List LRec} {F : Nat → Int} (hk : k < 5) (ho : LOK k l) (J : IMem) (h : LX 1 k l J) (hF : AG k (J 8) F) : par (f_X_firstLine fu 0 (k : Int) J) (fun y J' => (∀ q j, q ≠ 7 → J' q j = J q j) ∧ ((y = -1 ∧ lval k F l = 0) ∨ ∃ (i' : Nat) (r : LRec), l[i']? = some r ∧ y = ((16 * k + i' : Nat) : Int) ∧ lval k F l = (if (k : Int) = 4 then r.v else evV F r.E))) := xv_2 hk ho J h hF fu 0 J (fun _ _ _ => rfl) (Nat.zero_le _)
end
