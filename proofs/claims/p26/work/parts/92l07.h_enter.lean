/-! a group comes, on both sides -/
def HA (hb : Nat) (I : IMem) : Prop := I (hb + 14) 4 = 0 ∧ I (hb + 14) 5 = 0
def HX (hb : Nat) (I J : IMem) : Prop := HR hb 1 I J ∧ I hb 11 = J 0 22 ∧ HA hb I
section
variable {fu : Nat}
theorem cv_append {hb l o2 n2 a : Nat} {I : IMem} (hl : l < 6) (hc : 0 ≤ I (hb + 8) l ∧ I (hb + 8) l ≤ 40) (ha : a + 6 ≤ n2) (hn : n2 < 1000) : par (f_L_append fu (hb + 6) (l : Int) o2 n2 (a : Int) I) (fun v I' => (v = 0 ∧ I (hb + 8) l = 40 ∧ I' = I) ∨ (v = 1 ∧ I (hb + 8) l < 40 ∧ ∀ q j, I' q j = if q = hb + 8 ∧ j = l then I (hb + 8) l + 1 else if q = hb + 7 ∧ 6 * (40 * l + (I (hb + 8) l).toNat) ≤ j ∧ j < 6 * (40 * l + (I (hb + 8) l).toNat) + 6 then I o2 (a + (j - 6 * (40 * l + (I (hb + 8) l).toNat))) else I q j)) := by
  unfold f_L_append
  rw [ev_isLine, if_pos (by omega), zb_zr, if_neg (by decide)]
  refine par_zg (fun _ => ?_)
  show par (if I (hb + 8) l < 40 then _ else _) _
  refine par_ite (fun q => ?_) (fun q => par_zr (Or.inl ⟨rfl, by omega, rfl⟩))
  rw [if_neg (by omega), if_neg (by rw [wr32_i2 (by omega) (by omega)]; omega)]
  refine par_zg (fun _ => ?_)
  simp only [zl_e]
  generalize hcn : (I (hb + 8) l).toNat = c
  have w1 : Wq (wr32 (wr32 ((l : Int) * 40) + I (hb + 6 + 2) (l : Int).toNat)) (((40 * l + c : Nat) : Int)) := by
    show (wr32 (wr32 ((l : Int) * 40) + I (hb + 6 + 2) (l : Int).toNat)) = (((40 * l + c : Nat) : Int))
    rw [wr32_i2 (x := (l : Int) * 40) (by omega) (by omega)]
    show wr32 ((l : Int) * 40 + I (hb + 8) l) = _
    rw [wr32_i2 (by omega) (by omega)]; omega
  rw [w1.e]
  have w2 : Wq (wr32 (((40 * l + c : Nat) : Int) * 6)) (((6 * (40 * l + c) : Nat) : Int)) := by show wr32 (((40 * l + c : Nat) : Int) * 6) = ((6 * (40 * l + c) : Nat) : Int); rw [wr32_i2 (by omega) (by omega)]; omega
  rw [w2.e]
  refine par_zg (fun _ => par_zc' (fun I1 e1 => par_zg (fun _ => par_zg (fun _ => par_zw' (fun I2 e2 => par_zr (Or.inr ⟨rfl, q, fun p j => ?_⟩))))))
  rw [e2]
  have c1 : I1 (hb + 6 + 2) (l : Int).toNat = I (hb + 8) l := by
    rw [e1, if_neg (by omega)]; rfl
  rw [c1, wr32_i2 (x := I (hb + 8) l + 1) (by omega) (by omega)]
  show (if p = hb + 8 ∧ j = l then _ else _) = _
  by_cases h1 : p = hb + 8 ∧ j = l
  · rw [if_pos h1, if_pos h1]
  · rw [if_neg h1, if_neg h1, e1]
    by_cases h2 : p = hb + 7 ∧ 6 * (40 * l + c) ≤ j ∧ j < 6 * (40 * l + c) + 6
    · rw [if_pos h2, if_pos (by omega)]
      rfl
    · rw [if_neg h2, if_neg (by omega)]
/-- a row's cells -/
def RWc (a2 a3 a4 a5 a6 a7 : Int) : Nat → Int := fun f => if f = 0 then a2 else if f = 1 then a3 else if f = 2 then a4 else if f = 3 then a5 else if f = 4 then a6 else a7
theorem xv_stands {l : Nat} {a2 a3 a4 a5 a6 a7 : Int} {J : IMem} (hl : l < 6) (hc : 0 ≤ J 1 (130 + l) ∧ J 1 (130 + l) ≤ 40) : par (f_X_stands fu 0 (l : Int) a2 a3 a4 a5 a6 a7 J) (fun v J' => (v = 0 ∧ J 1 (130 + l) = 40 ∧ (∀ q j, ¬ (q = 1 ∧ j = 76) → ¬ (q = 0 ∧ j = 24) → J' q j = J q j) ∧ J' 1 76 = wr32 (J 1 76 + 1) ∧ (J' 0 24 = 0 ↔ J 0 24 = 0 ∧ a2 ≠ J 0 23)) ∨ (v = 1 ∧ J 1 (130 + l) < 40 ∧ ∀ q j, J' q j = if q = 1 ∧ j = 130 + l then J 1 (130 + l) + 1 else if q = 1 ∧ 140 + 6 * (40 * l + (J 1 (130 + l)).toNat) ≤ j ∧ j < 140 + 6 * (40 * l + (J 1 (130 + l)).toNat) + 6 then RWc a2 a3 a4 a5 a6 a7 (j - (140 + 6 * (40 * l + (J 1 (130 + l)).toNat))) else J q j)) := by
  unfold f_X_stands
  have w1 : Wq (wr32 (130 + (l : Int))) (((130 + l : Nat) : Int)) := by show wr32 (130 + (l : Int)) = ((130 + l : Nat) : Int); rw [wr32_i2 (by omega) (by omega)]; omega
  simp only [zl_e, zj_e]
  rw [w1.e]
  refine par_zg (fun _ => ?_)
  show par (if J 1 (130 + l) = 40 then _ else _) _
  refine par_ite (fun q => ?_) (fun q => ?_)
  · refine par_zw' (fun I1 e1 => ?_)
    have h24 : I1 0 24 = J 0 24 := by rw [e1, if_neg (by omega)]
    have h23 : I1 0 23 = J 0 23 := by rw [e1, if_neg (by omega)]
    rw [h24, h23]
    have fin : ∀ v : Int, (v = 0 ↔ J 0 24 = 0 ∧ a2 ≠ J 0 23) → par (zg (v = 0 ∨ v = 1) (zw I1 0 24 v fun I24 => zr 0 I24)) (fun v J' => (v = 0 ∧ J 1 (130 + l) = 40 ∧ (∀ q j, ¬ (q = 1 ∧ j = 76) → ¬ (q = 0 ∧ j = 24) → J' q j = J q j) ∧ J' 1 76 = wr32 (J 1 76 + 1) ∧ (J' 0 24 = 0 ↔ J 0 24 = 0 ∧ a2 ≠ J 0 23)) ∨ (v = 1 ∧ J 1 (130 + l) < 40 ∧ ∀ q j, J' q j = if q = 1 ∧ j = 130 + l then J 1 (130 + l) + 1 else if q = 1 ∧ 140 + 6 * (40 * l + (J 1 (130 + l)).toNat) ≤ j ∧ j < 140 + 6 * (40 * l + (J 1 (130 + l)).toNat) + 6 then RWc a2 a3 a4 a5 a6 a7 (j - (140 + 6 * (40 * l + (J 1 (130 + l)).toNat))) else J q j)) := by
      intro v hv
      refine par_zg (fun _ => par_zw' (fun I2 e2 => par_zr (Or.inl ⟨rfl, q, fun p j h1 h2 => ?_, ?_, ?_⟩)))
      · rw [e2, if_neg h2, e1, if_neg (by omega)]
      · rw [e2, if_neg (by omega), e1, if_pos (by omega)]
      · rw [e2, if_pos ⟨rfl, rfl⟩]; exact hv
    refine par_ite (fun q2 => par_ite (fun q3 => ?_) (fun q3 => ?_)) (fun q2 => ?_)
    · exact fin 1 ⟨fun x => absurd x (by decide), fun x => absurd q3 x.2⟩
    · exact fin 0 ⟨fun _ => ⟨q2, q3⟩, fun _ => rfl⟩
    · exact fin 1 ⟨fun x => absurd x (by decide), fun x => absurd x.1 q2⟩
  · refine par_zg (fun _ => ?_)
    generalize hcn : (J 1 (130 + l)).toNat = c
    have w2 : J (0 + 1) ((130 + l : Nat) : Int).toNat = (c : Int) := by
      show J 1 (130 + l) = _
      omega
    rw [w2, ev_cell fu l c J hl (by omega), zb_zr]
    have wn : ∀ f : Nat, f < 6 → wr32 (((140 + 6 * (40 * l + c) : Nat) : Int) + (f : Int)) = ((140 + 6 * (40 * l + c) + f : Nat) : Int) := fun f hf => by rw [wr32_i2 (by omega) (by omega)]; omega
    have n0 : Wq (wr32 (((140 + 6 * (40 * l + c) : Nat) : Int) + 0)) (((140 + 6 * (40 * l + c) + 0 : Nat) : Int)) := wn 0 (by decide)
    have n1 : Wq (wr32 (((140 + 6 * (40 * l + c) : Nat) : Int) + 1)) (((140 + 6 * (40 * l + c) + 1 : Nat) : Int)) := wn 1 (by decide)
    have n2 : Wq (wr32 (((140 + 6 * (40 * l + c) : Nat) : Int) + 2)) (((140 + 6 * (40 * l + c) + 2 : Nat) : Int)) := wn 2 (by decide)
    have n3 : Wq (wr32 (((140 + 6 * (40 * l + c) : Nat) : Int) + 3)) (((140 + 6 * (40 * l + c) + 3 : Nat) : Int)) := wn 3 (by decide)
    have n4 : Wq (wr32 (((140 + 6 * (40 * l + c) : Nat) : Int) + 4)) (((140 + 6 * (40 * l + c) + 4 : Nat) : Int)) := wn 4 (by decide)
    have n5 : Wq (wr32 (((140 + 6 * (40 * l + c) : Nat) : Int) + 5)) (((140 + 6 * (40 * l + c) + 5 : Nat) : Int)) := wn 5 (by decide)
    rw [n0.e, n1.e, n2.e, n3.e, n4.e, n5.e]
    refine par_zg (fun _ => par_zw' (fun I0 e0 => par_zg (fun _ => par_zw' (fun I1 e1 => par_zg (fun _ => par_zw' (fun I2 e2 => par_zg (fun _ => par_zw' (fun I3 e3 => par_zg (fun _ => par_zw' (fun I4 e4 => par_zg (fun _ => par_zw' (fun I5 e5 => par_zg (fun _ => par_zg (fun _ => par_zw' (fun I6 e6 => par_zr (Or.inr ⟨rfl, by omega, fun p j => ?_⟩))))))))))))))))
    have hm : I5 (0 + 1) ((130 + l : Nat) : Int).toNat = J 1 (130 + l) := by
      rw [e5, if_neg (by omega), e4, if_neg (by omega), e3, if_neg (by omega), e2, if_neg (by omega), e1, if_neg (by omega), e0, if_neg (by omega)]
      rfl
    rw [e6, hm, wr32_i2 (x := J 1 (130 + l) + 1) (by omega) (by omega)]
    show (if p = 1 ∧ j = 130 + l then _ else _) = _
    by_cases h1 : p = 1 ∧ j = 130 + l
    · rw [if_pos h1, if_pos h1]
    · rw [if_neg h1, if_neg h1]
      by_cases h2 : p = 1 ∧ 140 + 6 * (40 * l + c) ≤ j ∧ j < 140 + 6 * (40 * l + c) + 6
      · rw [if_pos h2]
        obtain ⟨f, hf, rfl⟩ : ∃ f, f < 6 ∧ j = 140 + 6 * (40 * l + c) + f := ⟨j - (140 + 6 * (40 * l + c)), by omega, by omega⟩
        rw [Nat.add_sub_cancel_left]
        rcases (show f = 0 ∨ f = 1 ∨ f = 2 ∨ f = 3 ∨ f = 4 ∨ f = 5 by omega) with rfl | rfl | rfl | rfl | rfl | rfl
        · rw [e5, if_neg (by omega), e4, if_neg (by omega), e3, if_neg (by omega), e2, if_neg (by omega), e1, if_neg (by omega), e0, if_pos (by omega)]; rfl
        · rw [e5, if_neg (by omega), e4, if_neg (by omega), e3, if_neg (by omega), e2, if_neg (by omega), e1, if_pos (by omega)]; rfl
        · rw [e5, if_neg (by omega), e4, if_neg (by omega), e3, if_neg (by omega), e2, if_pos (by omega)]; rfl
        · rw [e5, if_neg (by omega), e4, if_neg (by omega), e3, if_pos (by omega)]; rfl
        · rw [e5, if_neg (by omega), e4, if_pos (by omega)]; rfl
        · rw [e5, if_pos (by omega)]; rfl
      · rw [if_neg h2, e5, if_neg (by omega), e4, if_neg (by omega), e3, if_neg (by omega), e2, if_neg (by omega), e1, if_neg (by omega), e0, if_neg (by omega)]
/-- one more row on both sides -/
theorem hl_add {hb l : Nat} {I J I' J' : IMem} {R : Nat → Int} (h : HL hb 1 I J) (hl : l < 6) (hc : J 1 (130 + l) < 40) (h8 : ∀ j, I' (hb + 8) j = if j = l then I (hb + 8) l + 1 else I (hb + 8) j)
    (h7 : ∀ j, I' (hb + 7) j = if 6 * (40 * l + (J 1 (130 + l)).toNat) ≤ j ∧ j < 6 * (40 * l + (J 1 (130 + l)).toNat) + 6 then R (j - 6 * (40 * l + (J 1 (130 + l)).toNat)) else I (hb + 7) j)
    (hJ : ∀ j, 130 ≤ j → j < 1580 → J' 1 j = if j = 130 + l then J 1 (130 + l) + 1 else if 140 + 6 * (40 * l + (J 1 (130 + l)).toNat) ≤ j ∧ j < 140 + 6 * (40 * l + (J 1 (130 + l)).toNat) + 6 then R (j - (140 + 6 * (40 * l + (J 1 (130 + l)).toNat))) else J 1 j) : HL hb 1 I' J' := by
  intro l2 hl2
  obtain ⟨a, b, c⟩ := h l2 hl2
  obtain ⟨a0, b0, c0⟩ := h l hl
  generalize hcn : (J 1 (130 + l)).toNat = n at h7 hJ
  by_cases e : l2 = l
  · subst e
    have j0 : J' 1 (130 + l2) = J 1 (130 + l2) + 1 := by rw [hJ _ (by omega) (by omega), if_pos rfl]
    refine ⟨?_, by omega, fun p f hp hf => ?_⟩
    · rw [h8, if_pos rfl, j0, a]
    · rw [j0] at hp
      rw [hJ _ (by omega) (by omega), if_neg (show ¬ 140 + 6 * (40 * l2 + p) + f = 130 + l2 by omega), h7]
      by_cases hpn : p = n
      · subst hpn
        rw [if_pos (by omega), if_pos (by omega)]
        congr 1
        omega
      · rw [if_neg (by omega), if_neg (by omega)]
        exact c p f (by omega) hf
  · have j0 : J' 1 (130 + l2) = J 1 (130 + l2) := by rw [hJ _ (by omega) (by omega), if_neg (by omega), if_neg (by omega)]
    refine ⟨?_, by rw [j0]; exact b, fun p f hp hf => ?_⟩
    · rw [h8, if_neg e, j0]; exact a
    · rw [j0] at hp
      rw [h7, hJ _ (by omega) (by omega), if_neg (by omega), if_neg (by omega), if_neg (by omega)]
      exact c p f hp hf
/-- what a comer leaves on both sides -/
theorem enter2 {hb : Nat} {size says sort : Int} {I J : IMem} (h : HX hb I J) (hg : RG J) : pq (f_H_enter fu hb size says sort I) (f_X_comes fu 0 size says sort J) (fun x I' y J' => x = y ∧ HX hb I' J') := by
  obtain ⟨⟨hS, hY, hP, hL, hW⟩, hz, hA⟩ := h
  obtain ⟨law, lc, lx, lo⟩ := hW 4 (by decide)
  have hcJ : ∀ l, l < 6 → J 1 (130 + l) = I (hb + 8) l := fun l hl => (hl_c hL hl).1.symm
  unfold f_H_enter f_X_comes
  refine pq_br (P := fun v J' => v = LFv (J 0 22) law (I (hb + 8)) says sort ∧ ∀ q j, q ≠ 7 → q ≠ 8 → J' q j = J q j) (xv_lineFor hcJ lo lx) (fun y1 J1 _ ⟨gy, gJ⟩ => ?_)
  refine pq_zwl' (fun I1 e1 => pq_zwl' (fun I2 e2 => pq_zwl' (fun I3 e3 => pq_zwl' (fun I4 e4 => pq_zwl' (fun I5 e5 => ?_)))))
  have f4 : ∀ q j, q ≠ hb + 14 → I4 q j = I q j := fun q j hq => by rw [e4, if_neg (by omega), e3, if_neg (by omega), e2, if_neg (by omega), e1, if_neg (by omega)]
  have f5 : ∀ q j, q ≠ hb + 14 → ¬ (q = hb ∧ j = 7) → I5 q j = I q j := fun q j hq h0 => by rw [e5, if_neg h0]; exact f4 q j hq
  have c5 : I5 hb 7 = wr32 (I hb 7 + 1) := by rw [e5, if_pos ⟨rfl, rfl⟩, f4 _ _ (by omega)]
  refine pq_bl (P := fun v I' => v = LFv (I hb 11) law (I (hb + 8)) says sort ∧ ∀ q j, q ≠ hb + 13 → q ≠ hb + 39 → I' q j = I5 q j) ?_ (fun x1 I6 _ ⟨gx, gI⟩ => ?_)
  · have g := cv_lineFor (fu := fu) (hb := hb) (says := says) (sort := sort) (I := I5) lo (lc_mv (ol := hb + 15 + 5 * 4) lc (fun d j hd => by rw [show hb + 35 + d = hb + 15 + 5 * 4 + d by omega]; exact f5 _ _ (by omega) (by omega)))
    have z1 : I5 hb 11 = I hb 11 := f5 _ _ (by omega) (by omega)
    have z2 : I5 (hb + 8) = I (hb + 8) := funext (fun j => f5 _ _ (by omega) (by omega))
    rw [z1, z2] at g
    exact g
  have hxy : x1 = y1 := by rw [gx, gy, hz]
  have rng := lf_rng (z := I hb 11) (says := says) (sort := sort) (c := I (hb + 8)) (law := law) lo.2.2.2
  rw [← gx] at rng
  obtain ⟨l, hl, rfl⟩ : ∃ l : Nat, l < 6 ∧ x1 = (l : Int) := ⟨x1.toNat, by omega, by omega⟩
  subst hxy
  have f6 : ∀ q j, q ≠ hb + 13 → q ≠ hb + 39 → q ≠ hb + 14 → ¬ (q = hb ∧ j = 7) → I6 q j = I q j := fun q j h1 h2 h3 h4 => (gI q j h1 h2).trans (f5 q j h3 h4)
  have f14 : ∀ j, I6 (hb + 14) j = I5 (hb + 14) j := fun j => gI _ _ (by omega) (by omega)
  obtain ⟨b1, b2, b3⟩ := hl_c hL hl
  have cc : I6 (hb + 8) l = J 1 (130 + l) := (f6 _ _ (by omega) (by omega) (by omega) (by omega)).trans b1
  have gc := hg 1 7
  have hcame := hS.2.2.1
  unfold inr at gc
  have wn : Wq (wr32 (wr32 (J 1 7 + 1) - 1)) (J 1 7) := by show wr32 (wr32 (J 1 7 + 1) - 1) = J 1 7; unfold wr32; omega
  refine pq_zwr' (fun J2 e2' => ?_)
  have k2 : ∀ q j, q ≠ 7 → q ≠ 8 → ¬ (q = 1 ∧ j = 7) → J2 q j = J q j := fun q j h1 h2 h3 => by rw [e2', if_neg (by omega)]; exact gJ q j h1 h2
  have k7 : J2 1 7 = wr32 (J 1 7 + 1) := by rw [e2', if_pos ⟨rfl, rfl⟩]; show wr32 (J1 1 7 + 1) = _; rw [gJ _ _ (by decide) (by decide)]
  have jc : J2 1 (130 + l) = J 1 (130 + l) := k2 _ _ (by decide) (by decide) (by omega)
  have k7' : J2 (0 + 1) 7 = wr32 (J 1 7 + 1) := k7
  rw [k7', wn.e]
  refine pq_bl (cv_append (fu := fu) (hb := hb) (o2 := hb + 14) (n2 := 6) (a := 0) hl (by omega) (by decide) (by decide)) (fun x2 I7 _ hx2 => pq_br (xv_stands (fu := fu) hl (by omega)) (fun y2 J3 _ hy2 => ?_))
  have rowA : ∀ f, f < 6 → I6 (hb + 14) (0 + f) = RWc (J 1 7) size says sort 0 0 f := by
    intro f hf
    rw [f14, Nat.zero_add]
    rcases (show f = 0 ∨ f = 1 ∨ f = 2 ∨ f = 3 ∨ f = 4 ∨ f = 5 by omega) with rfl | rfl | rfl | rfl | rfl | rfl
    · rw [e5, if_neg (by omega), e4, if_neg (by omega), e3, if_neg (by omega), e2, if_neg (by omega), e1, if_pos (by omega)]; exact hcame
    · rw [e5, if_neg (by omega), e4, if_neg (by omega), e3, if_neg (by omega), e2, if_pos (by omega)]; rfl
    · rw [e5, if_neg (by omega), e4, if_neg (by omega), e3, if_pos (by omega)]; rfl
    · rw [e5, if_neg (by omega), e4, if_pos (by omega)]; rfl
    · rw [e5, if_neg (by omega), e4, if_neg (by omega), e3, if_neg (by omega), e2, if_neg (by omega), e1, if_neg (by omega)]; exact hA.1
    · rw [e5, if_neg (by omega), e4, if_neg (by omega), e3, if_neg (by omega), e2, if_neg (by omega), e1, if_neg (by omega)]; exact hA.2
  have hA6 : HA hb I6 := ⟨rowA 4 (by decide), rowA 5 (by decide)⟩
  have cam6 : I6 hb 7 = wr32 (J 1 7 + 1) := by rw [gI _ _ (by omega) (by omega), c5, hcame]
  -- the other parts, with or without the row
  have rest : ∀ I' J' : IMem, (∀ q j, q ≠ hb + 7 → q ≠ hb + 8 → ¬ (q = hb + 10 ∧ j = 6) → I' q j = I6 q j) → (∀ q j, ¬ (q = 1 ∧ (j = 76 ∨ (130 ≤ j ∧ j < 1580))) → ¬ (q = 0 ∧ j = 24) → J' q j = J2 q j) → HS hb 1 I' J' ∧ HP hb 1 I' J' ∧ HW hb 1 I' J' ∧ I' hb 11 = J' 0 22 ∧ HA hb I' := by
    intro I' J' hi hj
    have gi : ∀ q j, q ≠ hb + 13 → q ≠ hb + 39 → q ≠ hb + 14 → ¬ (q = hb ∧ j = 7) → q ≠ hb + 7 → q ≠ hb + 8 → ¬ (q = hb + 10 ∧ j = 6) → I' q j = I q j := fun q j h1 h2 h3 h4 h5 h6 h7 => (hi q j h5 h6 h7).trans (f6 q j h1 h2 h3 h4)
    have gj : ∀ j, j ≠ 7 → j ≠ 76 → ¬ (130 ≤ j ∧ j < 1580) → J' 1 j = J 1 j := fun j h1 h2 h3 => (hj 1 j (by omega) (by omega)).trans (k2 1 j (by decide) (by decide) (by omega))
    refine ⟨?_, hp_mv hP (fun j => ⟨gi _ _ (by omega) (by omega) (by omega) (by omega) (by omega) (by omega) (by omega), gi _ _ (by omega) (by omega) (by omega) (by omega) (by omega) (by omega) (by omega)⟩) (fun j hq => gj j (by omega) (by omega) (by omega)), hw_mv hW (fun d j h1 h2 h3 => gi _ _ (by omega) (by omega) (by omega) (by omega) (by omega) (by omega) (by omega)) (fun j h1 h2 => gj j (by omega) (by omega) (by omega)), ?_, ?_⟩
    · obtain ⟨a1, a2, a3, a4, a5, a6, a7⟩ := hS
      refine ⟨fun k hk => ?_, ?_, ?_, fun k hk => ?_, fun k h3 h4 => ?_, fun k hk => ?_, fun k h3 h4 => ?_⟩
      · rw [gi _ _ (by omega) (by omega) (by omega) (by omega) (by omega) (by omega) (by omega), gj _ (by omega) (by omega) (by omega)]; exact a1 k hk
      · rw [gi _ _ (by omega) (by omega) (by omega) (by omega) (by omega) (by omega) (by omega), gj _ (by omega) (by omega) (by omega)]; exact a2
      · rw [hi _ _ (by omega) (by omega) (by omega), cam6, hj _ _ (by omega) (by omega), k7]
      · rw [gi _ _ (by omega) (by omega) (by omega) (by omega) (by omega) (by omega) (by omega), gj _ (by omega) (by omega) (by omega)]; exact a4 k hk
      · rw [gi _ _ (by omega) (by omega) (by omega) (by omega) (by omega) (by omega) (by omega), gj _ (by omega) (by omega) (by omega)]; exact a5 k h3 h4
      · rw [gi _ _ (by omega) (by omega) (by omega) (by omega) (by omega) (by omega) (by omega), gj _ (by omega) (by omega) (by omega)]; exact a6 k hk
      · rw [gi _ _ (by omega) (by omega) (by omega) (by omega) (by omega) (by omega) (by omega), gj _ (by omega) (by omega) (by omega)]; exact a7 k h3 h4
    · rw [gi _ _ (by omega) (by omega) (by omega) (by omega) (by omega) (by omega) (by omega), hj _ _ (by omega) (by omega), k2 _ _ (by decide) (by decide) (by omega)]; exact hz
    · exact ⟨(hi _ _ (by omega) (by omega) (by omega)).trans hA6.1, (hi _ _ (by omega) (by omega) (by omega)).trans hA6.2⟩
  rcases hx2 with ⟨rfl, x2c, rfl⟩ | ⟨rfl, x2c, x2e⟩
  · rcases hy2 with ⟨rfl, y2c, y2f, y2a, y2l⟩ | ⟨rfl, y2c, y2e⟩
    · rw [if_pos rfl, if_pos rfl]
      refine pq_zwl' (fun I8 e8 => pq_end ⟨rfl, ?_⟩)
      obtain ⟨r1, r2, r3, r4, r5⟩ := rest I8 J3 (fun q j h1 h2 h3 => by rw [e8, if_neg h3]) (fun q j h1 h2 => y2f q j (by omega) h2)
      have gi : ∀ j, I8 (hb + 10) j = if j = 6 then wr32 (I (hb + 10) 6 + 1) else I (hb + 10) j := by
        intro j
        rw [e8]
        by_cases h6 : j = 6
        · rw [if_pos ⟨rfl, h6⟩, if_pos h6, f6 _ _ (by omega) (by omega) (by omega) (by omega)]
        · rw [if_neg (fun q => h6 q.2), if_neg h6, f6 _ _ (by omega) (by omega) (by omega) (by omega)]
      have gj : ∀ j, 70 ≤ j → j < 110 → J3 1 j = if j = 76 then wr32 (J 1 76 + 1) else J 1 j := by
        intro j h1 h2
        by_cases h6 : j = 76
        · subst h6
          rw [if_pos rfl, y2a, k2 _ _ (by decide) (by decide) (by omega)]
        · rw [if_neg h6, y2f _ _ (by omega) (by omega), k2 _ _ (by decide) (by decide) (by omega)]
      refine ⟨⟨r1, ⟨fun k hk => ?_, fun s h3 h4 => ⟨?_, ?_, ?_⟩⟩, r2, hl_mv hL (fun j => ⟨?_, ?_⟩) (fun j h1 h2 => ?_), r3⟩, r4, r5⟩
      · rw [gi, gj _ (by omega) (by omega)]
        by_cases h6 : k = 6
        · subst h6
          rw [if_pos rfl, if_pos rfl, hY.1 6 (by decide)]
        · rw [if_neg h6, if_neg (by omega)]; exact hY.1 k hk
      · rw [gi, gj _ (by omega) (by omega), if_neg (by omega), if_neg (by omega)]; exact (hY.2 s h3 h4).1
      · rw [gi, gj _ (by omega) (by omega), if_neg (by omega), if_neg (by omega)]; exact (hY.2 s h3 h4).2.1
      · rw [gi, gj _ (by omega) (by omega), if_neg (by omega), if_neg (by omega)]; exact (hY.2 s h3 h4).2.2
      · rw [e8, if_neg (by omega)]; exact f6 _ _ (by omega) (by omega) (by omega) (by omega)
      · rw [e8, if_neg (by omega)]; exact f6 _ _ (by omega) (by omega) (by omega) (by omega)
      · rw [y2f _ _ (by omega) (by omega)]; exact k2 _ _ (by decide) (by decide) (by omega)
    · omega
  · rcases hy2 with ⟨rfl, y2c, y2f, y2a, y2l⟩ | ⟨rfl, y2c, y2e⟩
    · omega
    · rw [if_neg (by decide), if_neg (by decide)]
      refine pq_end ⟨rfl, ?_⟩
      rw [jc] at y2e
      rw [cc] at x2e
      obtain ⟨r1, r2, r3, r4, r5⟩ := rest I7 J3 (fun q j h1 h2 h3 => by rw [x2e, if_neg (by omega), if_neg (by omega)]) (fun q j h1 h2 => by rw [y2e, if_neg (by omega), if_neg (by omega)])
      refine ⟨⟨r1, hy_mv hY (fun j => ?_) (fun j h1 h2 => ?_), r2, hl_add (R := RWc (J 1 7) size says sort 0 0) hL hl (by omega) (fun j => ?_) (fun j => ?_) (fun j h1 h2 => ?_), r3⟩, r4, r5⟩
      · rw [x2e, if_neg (by omega), if_neg (by omega)]; exact f6 _ _ (by omega) (by omega) (by omega) (by omega)
      · rw [y2e, if_neg (by omega), if_neg (by omega)]; exact k2 _ _ (by decide) (by decide) (by omega)
      · rw [x2e]
        by_cases h1 : j = l
        · rw [if_pos ⟨rfl, h1⟩, if_pos h1, b1]
        · rw [if_neg (fun q => h1 q.2), if_neg h1, if_neg (by omega)]; exact f6 _ _ (by omega) (by omega) (by omega) (by omega)
      · rw [x2e, if_neg (by omega)]
        by_cases h1 : 6 * (40 * l + (J 1 (130 + l)).toNat) ≤ j ∧ j < 6 * (40 * l + (J 1 (130 + l)).toNat) + 6
        · rw [if_pos ⟨rfl, h1⟩, if_pos h1]
          exact rowA _ (by omega)
        · rw [if_neg (fun q => h1 q.2), if_neg h1]; exact f6 _ _ (by omega) (by omega) (by omega) (by omega)
      · rw [y2e]
        by_cases h3 : j = 130 + l
        · rw [if_pos ⟨rfl, h3⟩, if_pos h3]
        · rw [if_neg (fun q => h3 q.2), if_neg h3]
          by_cases h4 : 140 + 6 * (40 * l + (J 1 (130 + l)).toNat) ≤ j ∧ j < 140 + 6 * (40 * l + (J 1 (130 + l)).toNat) + 6
          · rw [if_pos ⟨rfl, h4⟩, if_pos h4]
          · rw [if_neg (fun q => h4 q.2), if_neg h4]; exact k2 _ _ (by decide) (by decide) (by omega)
end
