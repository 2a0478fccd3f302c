/-! those found out come behind, the chair's numbers: both sides -/
section
variable {fu : Nat} {Q : Int → IMem → Prop}
theorem xv_out1 (kk : IMem → Res) (i k : Nat) (hi : i < 240) (hk : k < 240) (p1 : Int) (J0 : IMem) (h10 : J0 10 i = (k : Int)) (hkk : ∀ J : IMem, (∀ q j, J q j = if q = 14 ∧ 6 * i ≤ j ∧ j < 6 * i + 6 then J0 1 (140 + 6 * k + (j - 6 * i)) else J0 q j) → par (kk J) Q) : ∀ (m f : Nat) (J : IMem), f ≤ 6 → (∀ q j, J q j = if q = 14 ∧ 6 * i ≤ j ∧ j < 6 * i + f then J0 1 (140 + 6 * k + (j - 6 * i)) else J0 q j) → par (f_X_goesOff_215 fu kk 0 p1 (i : Int) m (f : Int) J) Q := by
  intro m
  induction m with
  | zero => intro _ _ _ _; exact par_none
  | succ m ih =>
    intro f J hf hJ
    show par (fb_X_goesOff_215 fu kk 0 p1 (i : Int) (f_X_goesOff_215 fu kk 0 p1 (i : Int) m) (f : Int) J) Q
    unfold fb_X_goesOff_215
    by_cases h : f < 6
    · rw [if_pos (by omega)]
      have a10 : J (0 + 10) (i : Int).toNat = (k : Int) := by rw [tn, hJ, if_neg (by omega)]; exact h10
      rw [a10]
      have w1 : Wq (wr32 (wr32 (140 + wr32 (6 * (k : Int))) + (f : Int))) (((140 + 6 * k + f : Nat) : Int)) := by show wr32 (wr32 (140 + wr32 (6 * (k : Int))) + (f : Int)) = ((140 + 6 * k + f : Nat) : Int); rw [wr32_i2 (x := 6 * (k : Int)) (by omega) (by omega), wr32_i2 (x := 140 + 6 * (k : Int)) (by omega) (by omega), wr32_i2 (by omega) (by omega)]; omega
      have w2 : Wq (wr32 (wr32 (6 * (i : Int)) + (f : Int))) (((6 * i + f : Nat) : Int)) := by show wr32 (wr32 (6 * (i : Int)) + (f : Int)) = ((6 * i + f : Nat) : Int); rw [wr32_i2 (x := 6 * (i : Int)) (by omega) (by omega), wr32_i2 (by omega) (by omega)]; omega
      have wn : Wq (wr32 ((f : Int) + 1)) (((f + 1 : Nat) : Int)) := by show wr32 ((f : Int) + 1) = ((f + 1 : Nat) : Int); rw [wr32_i2 (by omega) (by omega)]; rfl
      refine par_zg (fun _ => ?_)
      simp only [zl_e, Nat.zero_add]
      rw [w1.e, w2.e, wn.e, tn, tn]
      clear w1 w2 wn
      refine par_zg (fun _ => par_zg (fun _ => par_zw' (fun J1 e1 => ih (f + 1) J1 h (fun q j => ?_))))
      rw [e1]
      by_cases z : q = 14 ∧ j = 6 * i + f
      · rw [if_pos z, if_pos (by omega), hJ, if_neg (by omega), z.2]
        congr 1
        omega
      · rw [if_neg z, hJ]
        by_cases y : q = 14 ∧ 6 * i ≤ j ∧ j < 6 * i + f
        · rw [if_pos y, if_pos (by omega)]
        · rw [if_neg y, if_neg (by omega)]
    · rw [if_neg (by omega)]
      have : f = 6 := by omega
      subst this
      exact hkk J hJ
theorem xv_outs (kk : IMem → Res) (p1 : Int) (J0 : IMem) (n : Nat) (hn : J0 0 32 = (n : Int)) (hn2 : n ≤ 240) (h10 : ∀ i : Nat, i < n → ∃ k : Nat, k < 240 ∧ J0 10 i = (k : Int)) (hkk : ∀ J : IMem, (∀ q j, q ≠ 14 → J q j = J0 q j) → (∀ i k f : Nat, i < n → J0 10 i = (k : Int) → f < 6 → J 14 (6 * i + f) = J0 1 (140 + 6 * k + f)) → par (kk J) Q) : ∀ (m i : Nat) (J : IMem), i ≤ n → (∀ q j, q ≠ 14 → J q j = J0 q j) → (∀ i' k f : Nat, i' < i → J0 10 i' = (k : Int) → f < 6 → J 14 (6 * i' + f) = J0 1 (140 + 6 * k + f)) → par (f_X_goesOff_205 fu kk 0 p1 m (i : Int) J) Q := by
  intro m
  induction m with
  | zero => intro _ _ _ _ _; exact par_none
  | succ m ih =>
    intro i J hi hJ hr
    show par (fb_X_goesOff_205 fu kk 0 p1 (f_X_goesOff_205 fu kk 0 p1 m) (i : Int) J) Q
    unfold fb_X_goesOff_205
    have j32 : J 0 32 = (n : Int) := (hJ _ _ (by decide)).trans hn
    rw [j32]
    by_cases h : i < n
    · rw [if_pos (by omega)]
      obtain ⟨k, k1, k2⟩ := h10 i h
      refine xv_out1 (fu := fu) _ i k (by omega) k1 p1 J ((hJ _ _ (by decide)).trans k2) (fun J1 e1 => ?_) fu 0 J (by decide) (fun q j => by rw [if_neg (by omega)])
      simp only [zl_e]
      have wn : Wq (wr32 ((i : Int) + 1)) (((i + 1 : Nat) : Int)) := by show wr32 ((i : Int) + 1) = ((i + 1 : Nat) : Int); rw [wr32_i2 (by omega) (by omega)]; rfl
      rw [wn.e]
      clear wn
      refine ih (i + 1) J1 h (fun q j hq => by rw [e1, if_neg (by omega)]; exact hJ q j hq) (fun i' k' f hi' hk' hf => ?_)
      rw [e1]
      by_cases q : i' = i
      · subst q
        have : k' = k := by omega
        subst this
        rw [if_pos (by omega), show 6 * i' + f - 6 * i' = f by omega]
        exact hJ 1 _ (by decide)
      · rw [if_neg (by omega)]
        exact hr i' k' f (by omega) hk' hf
    · rw [if_neg (by omega)]
      have : i = n := by omega
      subst this
      exact hkk J hJ hr
end
/-- while those found out come behind -/
def GRl (hb : Nat) (I0 J0 I J : IMem) : Prop := (∀ q j, q ≠ hb + 7 → q ≠ hb + 8 → ¬ (q = hb + 10 ∧ j = 6) → I q j = I0 q j) ∧ (∀ q j, ¬ (q = 1 ∧ (j = 76 ∨ (130 ≤ j ∧ j < 1580))) → ¬ (q = 0 ∧ j = 24) → J q j = J0 q j) ∧ HL hb 1 I J ∧ I (hb + 10) 6 = J 1 76
section
variable {fu oc hb : Nat} {Q : Int → IMem → Int → IMem → Prop}
theorem gone2 (hd : hb + 40 ≤ oc) (kC kX : IMem → Res) (p1 p2 : Int) (I0 J0 : IMem) (n : Nat) (hn : n ≤ 144) (hnI : I0 oc 9 = (n : Int)) (hnJ : J0 0 32 = (n : Int)) (hro : ∀ i : Nat, i < n → ∀ f, f < 6 → I0 (oc + 4) (6 * i + f) = RWc (J0 14 (6 * i + 0)) (J0 14 (6 * i + 1)) (J0 14 (6 * i + 1)) (J0 14 (6 * i + 3)) (J0 14 (6 * i + 4)) (J0 14 (6 * i + 5)) f) (hend : ∀ I J, GRl hb I0 J0 I J → pq (kC I) (kX J) Q) : ∀ (m m2 i : Nat) (I J : IMem), i ≤ n → GRl hb I0 J0 I J → pq (f_C_leave_59 fu kC oc hb p2 m (i : Int) I) (f_X_goesOff_285 fu kX 0 p1 m2 (i : Int) J) Q := by
  intro m
  induction m with
  | zero => intro _ _ _ _ _ _; exact pq_nl
  | succ m ih =>
    intro m2 i I J hi hG
    cases m2 with
    | zero => exact pq_nr
    | succ m2 =>
    show pq (fb_C_leave_59 fu kC oc hb p2 (f_C_leave_59 fu kC oc hb p2 m) (i : Int) I) (fb_X_goesOff_285 fu kX 0 p1 (f_X_goesOff_285 fu kX 0 p1 m2) (i : Int) J) Q
    unfold fb_C_leave_59 fb_X_goesOff_285
    have hG' := hG
    obtain ⟨g1, g2, g3, g4⟩ := hG'
    have i9 : I oc 9 = (n : Int) := (g1 _ _ (by omega) (by omega) (by omega)).trans hnI
    have j32 : J 0 32 = (n : Int) := (g2 _ _ (by omega) (by omega)).trans hnJ
    rw [i9, j32]
    by_cases h : i < n
    · rw [if_pos (by omega), if_pos (by omega)]
      obtain ⟨c1, c2, c3⟩ := hl_c g3 (show 0 < 6 by decide)
      have w0 : Wq (wr32 ((i : Int) * 6)) (((6 * i : Nat) : Int)) := by show wr32 ((i : Int) * 6) = ((6 * i : Nat) : Int); rw [wr32_i2 (by omega) (by omega)]; omega
      have w1 : Wq (wr32 (6 * (i : Int))) (((6 * i : Nat) : Int)) := by show wr32 (6 * (i : Int)) = ((6 * i : Nat) : Int); rw [wr32_i2 (by omega) (by omega)]; omega
      have v1 : Wq (wr32 (((6 * i : Nat) : Int) + 1)) (((6 * i + 1 : Nat) : Int)) := by show wr32 (((6 * i : Nat) : Int) + 1) = ((6 * i + 1 : Nat) : Int); rw [wr32_i2 (by omega) (by omega)]; omega
      have v3 : Wq (wr32 (((6 * i : Nat) : Int) + 3)) (((6 * i + 3 : Nat) : Int)) := by show wr32 (((6 * i : Nat) : Int) + 3) = ((6 * i + 3 : Nat) : Int); rw [wr32_i2 (by omega) (by omega)]; omega
      have v4 : Wq (wr32 (((6 * i : Nat) : Int) + 4)) (((6 * i + 4 : Nat) : Int)) := by show wr32 (((6 * i : Nat) : Int) + 4) = ((6 * i + 4 : Nat) : Int); rw [wr32_i2 (by omega) (by omega)]; omega
      have v5 : Wq (wr32 (((6 * i : Nat) : Int) + 5)) (((6 * i + 5 : Nat) : Int)) := by show wr32 (((6 * i : Nat) : Int) + 5) = ((6 * i + 5 : Nat) : Int); rw [wr32_i2 (by omega) (by omega)]; omega
      have wn : Wq (wr32 ((i : Int) + 1)) (((i + 1 : Nat) : Int)) := by show wr32 ((i : Int) + 1) = ((i + 1 : Nat) : Int); rw [wr32_i2 (by omega) (by omega)]; rfl
      simp only [zl_e, zj_e, Nat.zero_add]
      rw [w0.e, w1.e, v1.e, v3.e, v4.e, v5.e, wn.e, tn, tn, tn, tn, tn]
      clear w0 w1 v1 v3 v4 v5 wn
      have j14 : ∀ j, J 14 j = J0 14 j := fun j => g2 _ _ (by omega) (by omega)
      rw [j14, j14, j14, j14, j14]
      have ap := cv_append (fu := fu) (hb := hb) (l := 0) (o2 := oc + 4) (n2 := 864) (a := 6 * i) (I := I) (by decide) (by omega) (by omega) (by decide)
      have st := xv_stands (fu := fu) (l := 0) (a2 := J0 14 (6 * i)) (a3 := J0 14 (6 * i + 1)) (a4 := J0 14 (6 * i + 1)) (a5 := J0 14 (6 * i + 3)) (a6 := J0 14 (6 * i + 4)) (a7 := J0 14 (6 * i + 5)) (J := J) (by decide) ⟨c2, c3⟩
      refine pq_bl ap (fun x1 I1 _ hx => pq_gr (fun _ => pq_gr (fun _ => pq_gr (fun _ => pq_gr (fun _ => pq_gr (fun _ => pq_gr (fun _ => pq_br st (fun y1 J1 _ hy => ?_))))))))
      rcases hx with ⟨rfl, x2, rfl⟩ | ⟨rfl, x2, x3⟩
      · rcases hy with ⟨rfl, y2, y3, y4, y5⟩ | ⟨rfl, y2, y3⟩
        · rw [if_pos rfl]
          refine pq_zwl' (fun I2 e2 => ih m2 (i + 1) I2 J1 h ⟨fun q j a b c => ?_, fun q j a b => ?_, ?_, ?_⟩)
          · rw [e2, if_neg (by omega)]; exact g1 q j a b c
          · rw [y3 q j (by omega) b]; exact g2 q j a b
          · exact hl_mv g3 (fun j => ⟨by rw [e2, if_neg (by omega)], by rw [e2, if_neg (by omega)]⟩) (fun j a b => y3 _ _ (by omega) (by omega))
          · rw [e2, if_pos ⟨rfl, rfl⟩, y4, g4]
        · omega
      · rcases hy with ⟨rfl, y2, y3, y4, y5⟩ | ⟨rfl, y2, y3⟩
        · omega
        · rw [if_neg (by decide)]
          refine ih m2 (i + 1) I1 J1 h ⟨fun q j a b c => ?_, fun q j a b => ?_, ?_, ?_⟩
          · rw [x3, if_neg (by omega), if_neg (by omega)]; exact g1 q j a b c
          · rw [y3, if_neg (by omega), if_neg (by omega)]; exact g2 q j a b
          · refine hl_add (l := 0) (R := RWc (J0 14 (6 * i)) (J0 14 (6 * i + 1)) (J0 14 (6 * i + 1)) (J0 14 (6 * i + 3)) (J0 14 (6 * i + 4)) (J0 14 (6 * i + 5))) g3 (by decide) y2 (fun j => ?_) (fun j => ?_) (fun j a b => ?_)
            · rw [x3]
              by_cases z : j = 0
              · rw [if_pos ⟨rfl, z⟩, if_pos z]
              · rw [if_neg (fun q => z q.2), if_neg z, if_neg (by omega)]
            · rw [x3, if_neg (by omega), c1]
              by_cases z : 6 * (40 * 0 + (J 1 (130 + 0)).toNat) ≤ j ∧ j < 6 * (40 * 0 + (J 1 (130 + 0)).toNat) + 6
              · rw [if_pos ⟨rfl, z⟩, if_pos z, g1 _ _ (by omega) (by omega) (by omega)]
                exact hro i h _ (by omega)
              · rw [if_neg (fun q => z q.2), if_neg z]
            · rw [y3]
              by_cases z : j = 130 + 0
              · rw [if_pos ⟨rfl, z⟩, if_pos z]
              · rw [if_neg (fun q => z q.2), if_neg z]
                by_cases z2 : 140 + 6 * (40 * 0 + (J 1 (130 + 0)).toNat) ≤ j ∧ j < 140 + 6 * (40 * 0 + (J 1 (130 + 0)).toNat) + 6
                · rw [if_pos ⟨rfl, z2⟩, if_pos z2]
                · rw [if_neg (fun q => z2 q.2), if_neg z2]
          · rw [x3, if_neg (by omega), if_neg (by omega), y3, if_neg (by omega), if_neg (by omega)]; exact g4
    · rw [if_neg (by omega), if_neg (by omega)]
      exact hend I J hG
end
/-- the time, the stops and the state of draws once a chair goes -/
def fallF (s t p sec halt falls : Int) : Int × Int × Int := if 0 < falls then (if wrem (wushr (wr32 (wr32 (s * 1664525) + 1013904223)) 8) 1000 < falls then (wr32 (wr32 (s * 1664525) + 1013904223), wr32 (wr32 (t + sec) + halt), wr32 (p + 1)) else (wr32 (wr32 (s * 1664525) + 1013904223), wr32 (t + sec), p)) else (s, wr32 (t + sec), p)
section
variable {fu : Nat}
theorem cv_pastAt (c : Int) (hc : 0 ≤ c ∧ c < 2147483647) (I : IMem) : par (f_H_pastAt fu c I) (fun v I' => I' = I ∧ (v = 3 * (c % 60) ∨ 180 ≤ v)) := by
  unfold f_H_pastAt f_JM_floorMod
  simp only [zl_e]
  rw [zg_t (by decide), wrem_i2 (a := c) (c := 60) (by omega) (by omega) (by decide) (by decide)]
  refine par_zb (Q1 := fun v I' => I' = I ∧ (v = c % 60 ∨ v = c % 60 + 60)) ?_ (fun v I' ⟨g1, g2⟩ => par_zr ⟨g1, ?_⟩)
  · refine par_ite (fun _ => par_ite (fun _ => par_zr ⟨rfl, Or.inl rfl⟩) (fun _ => par_zr ⟨rfl, Or.inr ?_⟩)) (fun _ => par_zr ⟨rfl, Or.inl rfl⟩)
    exact wr32_i2 (by omega) (by omega)
  · rcases g2 with g2 | g2
    · left; rw [g2, wr32_i2 (by omega) (by omega)]; omega
    · right; rw [g2, wr32_i2 (by omega) (by omega)]; omega
theorem cv_close (hb : Nat) (left taken : Int) (I : IMem) (c : Nat) (hc : I (hb + 10) 0 = (c : Int)) (hc2 : c < 2000000000) : par (f_H_close fu hb left taken I) (fun _ I' => ∀ q j, I' q j = if q = hb + 10 ∧ j = 0 then (c : Int) + 1 else if q = hb + 12 ∧ j = 3 * (c % 60) + 2 then (fallF (I hb 6) (I (hb + 10) 3) (I (hb + 10) 4) (I (hb + 1) 1) (I (hb + 1) 2) (I (hb + 1) 3)).2.1 else if q = hb + 12 ∧ j = 3 * (c % 60) + 1 then taken else if q = hb + 12 ∧ j = 3 * (c % 60) then left else if q = hb + 11 ∧ j = 1 then left else if q = hb + 11 ∧ j = 0 then taken else if q = hb + 10 ∧ j = 4 then (fallF (I hb 6) (I (hb + 10) 3) (I (hb + 10) 4) (I (hb + 1) 1) (I (hb + 1) 2) (I (hb + 1) 3)).2.2 else if q = hb + 10 ∧ j = 3 then (fallF (I hb 6) (I (hb + 10) 3) (I (hb + 10) 4) (I (hb + 1) 1) (I (hb + 1) 2) (I (hb + 1) 3)).2.1 else if q = hb ∧ j = 6 then (fallF (I hb 6) (I (hb + 10) 3) (I (hb + 10) 4) (I (hb + 1) 1) (I (hb + 1) 2) (I (hb + 1) 3)).1 else if q = hb + 10 ∧ j = 1 then wr32 (I (hb + 10) 1 + left) else I q j) := by
  unfold f_H_close
  refine par_zw' (fun I1 e1 => ?_)
  have a3 : I1 (hb + 10) 3 = I (hb + 10) 3 := by rw [e1, if_neg (by omega)]
  have t1 : I1 (hb + 1) 1 = I (hb + 1) 1 := by rw [e1, if_neg (by omega)]
  rw [a3, t1]
  refine par_zw' (fun I2 e2 => ?_)
  refine par_zj (fun k3 ek3 => ?_)
  -- from the fall on
  have hk3 : ∀ (I4 : IMem) (F : Int × Int × Int), F = fallF (I hb 6) (I (hb + 10) 3) (I (hb + 10) 4) (I (hb + 1) 1) (I (hb + 1) 2) (I (hb + 1) 3) → (∀ q j, I4 q j = if q = hb + 10 ∧ j = 4 then F.2.2 else if q = hb + 10 ∧ j = 3 then F.2.1 else if q = hb ∧ j = 6 then F.1 else if q = hb + 10 ∧ j = 1 then wr32 (I (hb + 10) 1 + left) else I q j) → par (k3 I4) (fun _ I' => ∀ q j, I' q j = if q = hb + 10 ∧ j = 0 then (c : Int) + 1 else if q = hb + 12 ∧ j = 3 * (c % 60) + 2 then (fallF (I hb 6) (I (hb + 10) 3) (I (hb + 10) 4) (I (hb + 1) 1) (I (hb + 1) 2) (I (hb + 1) 3)).2.1 else if q = hb + 12 ∧ j = 3 * (c % 60) + 1 then taken else if q = hb + 12 ∧ j = 3 * (c % 60) then left else if q = hb + 11 ∧ j = 1 then left else if q = hb + 11 ∧ j = 0 then taken else if q = hb + 10 ∧ j = 4 then (fallF (I hb 6) (I (hb + 10) 3) (I (hb + 10) 4) (I (hb + 1) 1) (I (hb + 1) 2) (I (hb + 1) 3)).2.2 else if q = hb + 10 ∧ j = 3 then (fallF (I hb 6) (I (hb + 10) 3) (I (hb + 10) 4) (I (hb + 1) 1) (I (hb + 1) 2) (I (hb + 1) 3)).2.1 else if q = hb ∧ j = 6 then (fallF (I hb 6) (I (hb + 10) 3) (I (hb + 10) 4) (I (hb + 1) 1) (I (hb + 1) 2) (I (hb + 1) 3)).1 else if q = hb + 10 ∧ j = 1 then wr32 (I (hb + 10) 1 + left) else I q j) := by
    intro I4 F hF e4
    subst ek3
    rw [← hF]
    clear hF
    refine par_zw' (fun I5 e5 => par_zw' (fun I6 e6 => ?_))
    have c6 : I6 (hb + 10) 0 = (c : Int) := by rw [e6, if_neg (by omega), e5, if_neg (by omega), e4, if_neg (by omega), if_neg (by omega), if_neg (by omega), if_neg (by omega)]; exact hc
    rw [c6]
    refine par_zb (cv_pastAt (fu := fu) (c : Int) (by omega) I6) (fun v I7 ⟨g1, g2⟩ => ?_)
    have g1' := g1.symm
    subst g1'
    refine par_zg (fun gv => ?_)
    have hv : v = ((3 * (c % 60) : Nat) : Int) := by
      rcases g2 with g2 | g2
      · omega
      · omega
    have w1 : Wq (wr32 (v + 1)) (((3 * (c % 60) + 1 : Nat) : Int)) := by show wr32 (v + 1) = ((3 * (c % 60) + 1 : Nat) : Int); rw [wr32_i2 (by omega) (by omega)]; omega
    have w2 : Wq (wr32 (v + 2)) (((3 * (c % 60) + 2 : Nat) : Int)) := by show wr32 (v + 2) = ((3 * (c % 60) + 2 : Nat) : Int); rw [wr32_i2 (by omega) (by omega)]; omega
    simp only [zl_e]
    rw [w1.e, w2.e, hv, tn, tn, tn]
    clear w1 w2
    refine par_zw' (fun I8 e8 => par_zg (fun _ => par_zw' (fun I9 e9 => par_zg (fun _ => ?_))))
    have t9 : I9 (hb + 10) 3 = F.2.1 := by rw [e9, if_neg (by omega), e8, if_neg (by omega), e6, if_neg (by omega), e5, if_neg (by omega), e4, if_neg (by omega), if_pos ⟨rfl, rfl⟩]
    rw [t9]
    refine par_zw' (fun I10 e10 => ?_)
    have c10 : I10 (hb + 10) 0 = (c : Int) := by rw [e10, if_neg (by omega), e9, if_neg (by omega), e8, if_neg (by omega)]; exact c6
    rw [c10, wr32_i2 (x := (c : Int) + 1) (by omega) (by omega)]
    refine par_zw' (fun I11 e11 => par_zr (fun q j => ?_))
    rw [e11, e10, e9, e8, e6, e5, e4]
  clear ek3
  have b3 : I2 (hb + 1) 3 = I (hb + 1) 3 := by rw [e2, if_neg (by omega), e1, if_neg (by omega)]
  rw [b3]
  have i4 : I (hb + 10) 4 = I2 (hb + 10) 4 := by rw [e2, if_neg (by omega), e1, if_neg (by omega)]
  refine par_ite (fun q => ?_) (fun q => ?_)
  · unfold f_H_draw
    have b6 : I2 hb 6 = I hb 6 := by rw [e2, if_neg (by omega), e1, if_neg (by omega)]
    rw [b6, zb_zw]
    refine par_zw' (fun I3 e3 => ?_)
    rw [if_pos (by decide), zg_t (by decide), zb_zr, (e3 hb 6).trans (if_pos ⟨rfl, rfl⟩)]
    have d3 : I3 (hb + 1) 3 = I (hb + 1) 3 := by rw [e3, if_neg (by omega)]; exact b3
    rw [d3]
    refine par_ite (fun q2 => ?_) (fun q2 => ?_)
    · have d33 : I3 (hb + 10) 3 = wr32 (I (hb + 10) 3 + I (hb + 1) 1) := by rw [e3, if_neg (by omega), e2, if_pos ⟨rfl, rfl⟩]
      have d12 : I3 (hb + 1) 2 = I (hb + 1) 2 := by rw [e3, if_neg (by omega), e2, if_neg (by omega), e1, if_neg (by omega)]
      rw [d33, d12]
      refine par_zw' (fun I4 e4 => ?_)
      have d44 : I4 (hb + 10) 4 = I (hb + 10) 4 := by rw [e4, if_neg (by omega), e3, if_neg (by omega), ← i4]
      rw [d44]
      refine par_zw' (fun I5 e5 => hk3 I5 _ rfl (fun q' j => ?_))
      have hF : fallF (I hb 6) (I (hb + 10) 3) (I (hb + 10) 4) (I (hb + 1) 1) (I (hb + 1) 2) (I (hb + 1) 3) = (wr32 (wr32 (I hb 6 * 1664525) + 1013904223), wr32 (wr32 (I (hb + 10) 3 + I (hb + 1) 1) + I (hb + 1) 2), wr32 (I (hb + 10) 4 + 1)) := by
        unfold fallF; rw [if_pos q, if_pos q2]
      rw [hF, e5, e4, e3, e2, e1]
      by_cases z : q' = hb + 10 ∧ j = 3
      · rw [if_neg (by omega), if_pos z, if_neg (by omega), if_pos z]
      · rw [if_neg z]
        by_cases z4 : q' = hb + 10 ∧ j = 4
        · rw [if_pos z4, if_pos z4]
        · rw [if_neg z4, if_neg z4, if_neg z, if_neg z]
    · refine hk3 I3 _ rfl (fun q' j => ?_)
      have hF : fallF (I hb 6) (I (hb + 10) 3) (I (hb + 10) 4) (I (hb + 1) 1) (I (hb + 1) 2) (I (hb + 1) 3) = (wr32 (wr32 (I hb 6 * 1664525) + 1013904223), wr32 (I (hb + 10) 3 + I (hb + 1) 1), I (hb + 10) 4) := by
        unfold fallF; rw [if_pos q, if_neg q2]
      rw [hF, e3, e2, e1]
      by_cases z4 : q' = hb + 10 ∧ j = 4
      · rw [if_pos z4, if_neg (by omega), if_neg (by omega), if_neg (by omega), z4.1, z4.2]
      · rw [if_neg z4]
        by_cases z : q' = hb + 10 ∧ j = 3
        · rw [if_neg (by omega), if_pos z, if_pos z]
        · rw [if_neg z, if_neg z]
  · refine hk3 I2 _ rfl (fun q' j => ?_)
    have hF : fallF (I hb 6) (I (hb + 10) 3) (I (hb + 10) 4) (I (hb + 1) 1) (I (hb + 1) 2) (I (hb + 1) 3) = (I hb 6, wr32 (I (hb + 10) 3 + I (hb + 1) 1), I (hb + 10) 4) := by
      unfold fallF; rw [if_neg q]
    rw [hF, e2, e1]
    by_cases z4 : q' = hb + 10 ∧ j = 4
    · rw [if_pos z4, if_neg (by omega), if_neg (by omega), z4.1, z4.2]
    · rw [if_neg z4]
      by_cases z : q' = hb + 10 ∧ j = 3
      · rw [if_pos z, if_pos z]
      · rw [if_neg z, if_neg z]
        by_cases z6 : q' = hb ∧ j = 6
        · rw [if_neg (by omega), if_pos z6, z6.1, z6.2]
        · rw [if_neg z6]
end
