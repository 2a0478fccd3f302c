/-! the chair goes: whole, on both sides -/
section
variable {fu : Nat} {Q : Int → IMem → Prop}
theorem xv_forg2 (kk : IMem → Res) (J0 : IMem) (hk : ∀ J, (∀ j, j < 240 → J 13 j = 0) → (∀ q j, q ≠ 13 → J q j = J0 q j) → par (kk J) Q) : ∀ (m i : Nat) (J : IMem), i ≤ 240 → (∀ j, j < i → J 13 j = 0) → (∀ q j, q ≠ 13 → J q j = J0 q j) → par (f_X_forgets_2 fu kk 0 m (i : Int) J) Q := by
  intro m
  induction m with
  | zero => intro _ _ _ _ _; exact par_none
  | succ m ih =>
    intro i J hi hz hf
    show par (fb_X_forgets_2 fu kk 0 (f_X_forgets_2 fu kk 0 m) (i : Int) J) _
    unfold fb_X_forgets_2
    by_cases h : i < 240
    · rw [if_pos (by omega)]
      refine par_zg (fun _ => par_zw' (fun I1 e1 => ?_))
      rw [tn] at e1
      simp only [zl_e]
      have wn : Wq (wr32 ((i : Int) + 1)) (((i + 1 : Nat) : Int)) := by show wr32 ((i : Int) + 1) = ((i + 1 : Nat) : Int); rw [wr32_i2 (by omega) (by omega)]; rfl
      rw [wn.e]
      clear wn
      refine ih (i + 1) I1 h (fun j hj => ?_) (fun q j h1 => ?_)
      · rw [e1]
        by_cases z : j = i
        · rw [if_pos (by omega)]
        · rw [if_neg (by omega)]; exact hz j (by omega)
      · rw [e1, if_neg (by omega)]; exact hf q j h1
    · rw [if_neg (by omega)]
      exact hk J (fun j hj => hz j (by omega)) hf
theorem xv_forgets (J : IMem) : par (f_X_forgets fu 0 J) (fun _ J' => (∀ j, j < 240 → J' 13 j = 0) ∧ J' 0 35 = 0 ∧ ∀ q j, q ≠ 13 → ¬ (q = 0 ∧ j = 35) → J' q j = J q j) := by
  unfold f_X_forgets
  refine xv_forg2 (fu := fu) _ J (fun J1 g1 g2 => ?_) fu 0 J (by decide) (fun j hj => absurd hj (Nat.not_lt_zero _)) (fun _ _ _ => rfl)
  refine par_zw' (fun I2 e2 => par_zr ⟨fun j hj => ?_, ?_, fun q j h1 h2 => ?_⟩)
  · rw [e2, if_neg (by omega)]; exact g1 j hj
  · rw [e2, if_pos ⟨rfl, rfl⟩]
  · rw [e2, if_neg h2]; exact g2 q j h1
/-- the reference's last lines -/
def xTL (fu : Nat) (x1 : Int) (I53 : IMem) : Res :=
            zw I53 (0 + 1) 70 (wr32 ((I53 (0 + 1) 70) + 1)) fun I54 =>
            zw I54 (0 + 1) 73 (wr32 ((I54 (0 + 1) 73) + (I54 (0 + 1) 2))) fun I55 =>
            zj (fun  (I57 : IMem) =>
                zl (wr32 (6010 + (wr32 (3 * (wrem (wr32 ((I57 (0 + 1) 70) - 1)) 60))))) fun x58 =>
                zg (0 ≤ x58 ∧ x58 < 6190) (zw I57 (0 + 1) x58.toNat (I57 0 30) fun I59 =>
                zl (wr32 (x58 + 1)) fun x61 =>
                zg (0 ≤ x61 ∧ x61 < 6190) (zw I59 (0 + 1) x61.toNat (I59 0 31) fun I60 =>
                zl (wr32 (x58 + 2)) fun x63 =>
                zg (0 ≤ x63 ∧ x63 < 6190) (zw I60 (0 + 1) x63.toNat (I60 (0 + 1) 73) fun I62 =>
                zb (f_X_forgets fu 0 I62) fun _ I65 =>
                zr x1 I65)))) fun k56 =>
              if 0 < I55 (0 + 1) 4 then (
                zb (f_X_draw fu 0 1000 I55) fun y67 I68 =>
                if y67 < I68 (0 + 1) 4 then (
                  zw I68 (0 + 1) 73 (wr32 ((I68 (0 + 1) 73) + (I68 (0 + 1) 3))) fun I70 =>
                  zw I70 (0 + 1) 74 (wr32 ((I70 (0 + 1) 74) + 1)) fun I71 =>
                  k56 I71)
                else (
                  k56 I68))
              else (
                k56 I55)
theorem goes_eq (fu : Nat) (J : IMem) : f_X_goesOff fu 0 J = zl (wr32 ((J (0 + 1) 1) - (J 0 30))) fun x1 => zw J (0 + 1) 71 (wr32 ((J (0 + 1) 71) + (J 0 30))) fun I2 => zw I2 (0 + 1) 72 (wr32 ((I2 (0 + 1) 72) + x1)) fun I3 => zw I3 (0 + 1) 110 (I3 0 31) fun I4 => zw I4 (0 + 1) 111 (I4 0 30) fun I5 => f_X_goesOff_61 fu (fun (I30 : IMem) => f_X_goesOff_205 fu (fun (I37 : IMem) => f_X_goesOff_266 fu (fun (I42 : IMem) => f_X_goesOff_285 fu (xTL fu x1) 0 x1 fu 0 I42) 0 x1 fu 0 I37) 0 x1 fu 0 I30) 0 x1 fu 0 I5 := rfl
theorem xv_tail (x1 : Int) (J : IMem) (c : Nat) (hc : J 1 70 = (c : Int)) (hc2 : c < 2000000000) : par (xTL fu x1 J) (fun v J' => v = x1 ∧ (∀ j, j < 240 → J' 13 j = 0) ∧ J' 0 35 = 0 ∧ ∀ q j, q ≠ 13 → ¬ (q = 0 ∧ j = 35) → J' q j = if q = 1 ∧ j = 6010 + 3 * (c % 60) + 2 then (fallF (J 1 0) (J 1 73) (J 1 74) (J 1 2) (J 1 3) (J 1 4)).2.1 else if q = 1 ∧ j = 6010 + 3 * (c % 60) + 1 then J 0 31 else if q = 1 ∧ j = 6010 + 3 * (c % 60) then J 0 30 else if q = 1 ∧ j = 74 then (fallF (J 1 0) (J 1 73) (J 1 74) (J 1 2) (J 1 3) (J 1 4)).2.2 else if q = 1 ∧ j = 73 then (fallF (J 1 0) (J 1 73) (J 1 74) (J 1 2) (J 1 3) (J 1 4)).2.1 else if q = 1 ∧ j = 0 then (fallF (J 1 0) (J 1 73) (J 1 74) (J 1 2) (J 1 3) (J 1 4)).1 else if q = 1 ∧ j = 70 then (c : Int) + 1 else J q j) := by
  unfold xTL
  simp only [Nat.zero_add]
  rw [hc, wr32_i2 (x := (c : Int) + 1) (by omega) (by omega)]
  refine par_zw' (fun I1 e1 => ?_)
  have a3 : I1 1 73 = J 1 73 := by rw [e1, if_neg (by omega)]
  have t1 : I1 1 2 = J 1 2 := by rw [e1, if_neg (by omega)]
  rw [a3, t1]
  refine par_zw' (fun I2 e2 => ?_)
  refine par_zj (fun k3 ek3 => ?_)
  have hk3 : ∀ (I4 : IMem) (F : Int × Int × Int), F = fallF (J 1 0) (J 1 73) (J 1 74) (J 1 2) (J 1 3) (J 1 4) → (∀ q j, I4 q j = if q = 1 ∧ j = 74 then F.2.2 else if q = 1 ∧ j = 73 then F.2.1 else if q = 1 ∧ j = 0 then F.1 else if q = 1 ∧ j = 70 then (c : Int) + 1 else J q j) → par (k3 I4) (fun v J' => v = x1 ∧ (∀ j, j < 240 → J' 13 j = 0) ∧ J' 0 35 = 0 ∧ ∀ q j, q ≠ 13 → ¬ (q = 0 ∧ j = 35) → J' q j = if q = 1 ∧ j = 6010 + 3 * (c % 60) + 2 then (fallF (J 1 0) (J 1 73) (J 1 74) (J 1 2) (J 1 3) (J 1 4)).2.1 else if q = 1 ∧ j = 6010 + 3 * (c % 60) + 1 then J 0 31 else if q = 1 ∧ j = 6010 + 3 * (c % 60) then J 0 30 else if q = 1 ∧ j = 74 then (fallF (J 1 0) (J 1 73) (J 1 74) (J 1 2) (J 1 3) (J 1 4)).2.2 else if q = 1 ∧ j = 73 then (fallF (J 1 0) (J 1 73) (J 1 74) (J 1 2) (J 1 3) (J 1 4)).2.1 else if q = 1 ∧ j = 0 then (fallF (J 1 0) (J 1 73) (J 1 74) (J 1 2) (J 1 3) (J 1 4)).1 else if q = 1 ∧ j = 70 then (c : Int) + 1 else J q j) := by
    intro I4 F hF e4
    subst ek3
    rw [← hF]
    clear hF
    have c6 : I4 1 70 = (c : Int) + 1 := by rw [e4, if_neg (by omega), if_neg (by omega), if_neg (by omega), if_pos ⟨rfl, rfl⟩]
    have w0 : Wq (wr32 ((c : Int) + 1 - 1)) ((c : Int)) := by show wr32 ((c : Int) + 1 - 1) = (c : Int); rw [wr32_i2 (by omega) (by omega)]; omega
    simp only [zl_e]
    rw [c6, w0.e, wrem_i2 (a := (c : Int)) (c := 60) (by omega) (by omega) (by decide) (by decide), wr32_i2 (x := 3 * ((c : Int) % 60)) (by omega) (by omega)]
    have w1 : Wq (wr32 (6010 + 3 * ((c : Int) % 60))) (((6010 + 3 * (c % 60) : Nat) : Int)) := by show wr32 (6010 + 3 * ((c : Int) % 60)) = ((6010 + 3 * (c % 60) : Nat) : Int); rw [wr32_i2 (by omega) (by omega)]; omega
    have w2 : Wq (wr32 (((6010 + 3 * (c % 60) : Nat) : Int) + 1)) (((6010 + 3 * (c % 60) + 1 : Nat) : Int)) := by show wr32 (((6010 + 3 * (c % 60) : Nat) : Int) + 1) = ((6010 + 3 * (c % 60) + 1 : Nat) : Int); rw [wr32_i2 (by omega) (by omega)]; omega
    have w3 : Wq (wr32 (((6010 + 3 * (c % 60) : Nat) : Int) + 2)) (((6010 + 3 * (c % 60) + 2 : Nat) : Int)) := by show wr32 (((6010 + 3 * (c % 60) : Nat) : Int) + 2) = ((6010 + 3 * (c % 60) + 2 : Nat) : Int); rw [wr32_i2 (by omega) (by omega)]; omega
    rw [w1.e, w2.e, w3.e, tn, tn, tn]
    clear w0 w1 w2 w3
    have f30 : I4 0 30 = J 0 30 := by rw [e4, if_neg (by omega), if_neg (by omega), if_neg (by omega), if_neg (by omega)]
    rw [f30]
    refine par_zg (fun _ => par_zw' (fun I5 e5 => par_zg (fun _ => ?_)))
    have f31 : I5 0 31 = J 0 31 := by rw [e5, if_neg (by omega), e4, if_neg (by omega), if_neg (by omega), if_neg (by omega), if_neg (by omega)]
    rw [f31]
    refine par_zw' (fun I6 e6 => par_zg (fun _ => ?_))
    have f73 : I6 1 73 = F.2.1 := by rw [e6, if_neg (by omega), e5, if_neg (by omega), e4, if_neg (by omega), if_pos ⟨rfl, rfl⟩]
    rw [f73]
    refine par_zw' (fun I7 e7 => par_zb (xv_forgets (fu := fu) I7) (fun _ I8 ⟨g1, g2, g3⟩ => par_zr ⟨rfl, g1, g2, fun q j h1 h2 => ?_⟩))
    rw [g3 q j h1 h2, e7, e6, e5, e4]
  clear ek3
  have b4 : I2 1 4 = J 1 4 := by rw [e2, if_neg (by omega), e1, if_neg (by omega)]
  rw [b4]
  have i74 : I2 1 74 = J 1 74 := by rw [e2, if_neg (by omega), e1, if_neg (by omega)]
  refine par_ite (fun q => ?_) (fun q => ?_)
  · unfold f_X_draw
    simp only [Nat.zero_add]
    have b0 : I2 1 0 = J 1 0 := by rw [e2, if_neg (by omega), e1, if_neg (by omega)]
    rw [b0, zb_zw, Int.mul_comm 1664525 (J 1 0)]
    refine par_zw' (fun I3 e3 => ?_)
    rw [zg_t (by decide), zb_zr, (e3 1 0).trans (if_pos ⟨rfl, rfl⟩)]
    have d3 : I3 1 4 = J 1 4 := by rw [e3, if_neg (by omega)]; exact b4
    rw [d3]
    refine par_ite (fun q2 => ?_) (fun q2 => ?_)
    · have d33 : I3 1 73 = wr32 (J 1 73 + J 1 2) := by rw [e3, if_neg (by omega), e2, if_pos ⟨rfl, rfl⟩]
      have d12 : I3 1 3 = J 1 3 := by rw [e3, if_neg (by omega), e2, if_neg (by omega), e1, if_neg (by omega)]
      rw [d33, d12]
      refine par_zw' (fun I4 e4 => ?_)
      have d44 : I4 1 74 = J 1 74 := by rw [e4, if_neg (by omega), e3, if_neg (by omega), i74]
      rw [d44]
      refine par_zw' (fun I5 e5 => hk3 I5 _ rfl (fun q' j => ?_))
      have hF : fallF (J 1 0) (J 1 73) (J 1 74) (J 1 2) (J 1 3) (J 1 4) = (wr32 (wr32 (J 1 0 * 1664525) + 1013904223), wr32 (wr32 (J 1 73 + J 1 2) + J 1 3), wr32 (J 1 74 + 1)) := by
        unfold fallF; rw [if_pos q, if_pos q2]
      rw [hF, e5, e4, e3, e2, e1]
      by_cases z4 : q' = 1 ∧ j = 74
      · rw [if_pos z4, if_pos z4]
      · rw [if_neg z4, if_neg z4]
        by_cases z : q' = 1 ∧ j = 73
        · rw [if_pos z, if_pos z]
        · rw [if_neg z, if_neg z, if_neg z]
    · refine hk3 I3 _ rfl (fun q' j => ?_)
      have hF : fallF (J 1 0) (J 1 73) (J 1 74) (J 1 2) (J 1 3) (J 1 4) = (wr32 (wr32 (J 1 0 * 1664525) + 1013904223), wr32 (J 1 73 + J 1 2), J 1 74) := by
        unfold fallF; rw [if_pos q, if_neg q2]
      rw [hF, e3, e2, e1]
      by_cases z4 : q' = 1 ∧ j = 74
      · rw [if_pos z4, if_neg (by omega), if_neg (by omega), if_neg (by omega), z4.1, z4.2]
      · rw [if_neg z4]
        by_cases z : q' = 1 ∧ j = 73
        · rw [if_neg (by omega), if_pos z, if_pos z]
        · rw [if_neg z, if_neg z]
  · refine hk3 I2 _ rfl (fun q' j => ?_)
    have hF : fallF (J 1 0) (J 1 73) (J 1 74) (J 1 2) (J 1 3) (J 1 4) = (J 1 0, wr32 (J 1 73 + J 1 2), J 1 74) := by
      unfold fallF; rw [if_neg q]
    rw [hF, e2, e1]
    by_cases z4 : q' = 1 ∧ j = 74
    · rw [if_pos z4, if_neg (by omega), if_neg (by omega), z4.1, z4.2]
    · rw [if_neg z4]
      by_cases z : q' = 1 ∧ j = 73
      · rw [if_pos z, if_pos z]
      · rw [if_neg z, if_neg z]
        by_cases z6 : q' = 1 ∧ j = 0
        · rw [if_neg (by omega), if_pos z6, z6.1, z6.2]
        · rw [if_neg z6]
end
/-- what a chair that went leaves -/
def LPO (hb : Nat) (I J : IMem) (x : Int) (I' : IMem) (y : Int) (J' : IMem) : Prop := x = y ∧ HR hb 1 I' J' ∧ (∀ j, j < 240 → J' 13 j = 0) ∧ J' 0 35 = 0 ∧ J' 0 22 = J 0 22 ∧ I' hb 11 = I hb 11 ∧ (∀ j, I' (hb + 14) j = I (hb + 14) j) ∧ J' 1 71 = wr32 (J 1 71 + J' 1 111)
section
variable {fu oc hb : Nat} {I J : IMem}
/-- leave and goesOff -/
theorem leave2 (h : FE oc hb I J) (hd : hb + 40 ≤ oc) (hz : ∀ k, INL J k → 1 ≤ J 1 (141 + 6 * k) ∧ J 1 (141 + 6 * k) ≤ 8) (hn : J 0 32 ≤ 144) (hc : 0 ≤ J 1 70 ∧ J 1 70 < 2000000000) (hs : 2 ≤ J 1 1 ∧ J 1 1 ≤ 8) (hrg : RG I) : pq (f_C_leave fu oc hb I) (f_X_goesOff fu 0 J) (LPO hb I J) := by
  obtain ⟨⟨hS, hY, hP, hW⟩, hL, hF⟩ := h
  have hF' := hF
  obtain ⟨⟨a1, a2, a3⟩, ⟨b1, b2, b3, b4⟩, _, _, mk, fo, fg, su⟩ := hF'
  rw [goes_eq]
  unfold f_C_leave
  simp only [zl_e, Nat.zero_add]
  have x1e : Wq (wr32 (J 1 1 - J 0 30)) (sm (I (oc + 3)) (J 0 31).toNat) := by show wr32 (J 1 1 - J 0 30) = sm (I (oc + 3)) (J 0 31).toNat; rw [wr32_i2 (by omega) (by omega)]; omega
  rw [x1e.e]
  generalize hx1 : sm (I (oc + 3)) (J 0 31).toNat = people at *
  refine pq_zwr' (fun J1 e1 => ?_)
  have q1 : J1 1 72 = J 1 72 := by rw [e1, if_neg (by omega)]
  rw [q1]
  refine pq_zwr' (fun J2 e2 => ?_)
  have q2 : J2 0 31 = J 0 31 := by rw [e2, if_neg (by omega), e1, if_neg (by omega)]
  rw [q2]
  refine pq_zwr' (fun J3 e3 => ?_)
  have q3 : J3 0 30 = J 0 30 := by rw [e3, if_neg (by omega), e2, if_neg (by omega), e1, if_neg (by omega)]
  rw [q3]
  refine pq_zwr' (fun J5 e5 => ?_)
  have f5 : ∀ q j, J5 q j = if q = 1 ∧ j = 111 then J 0 30 else if q = 1 ∧ j = 110 then J 0 31 else if q = 1 ∧ j = 72 then wr32 (J 1 72 + people) else if q = 1 ∧ j = 71 then wr32 (J 1 71 + J 0 30) else J q j := fun q j => by rw [e5, e3, e2, e1]
  clear e5 e3 e2 e1 q1 q2 q3
  have s5 : ∀ q j, ¬ (q = 1 ∧ (j = 71 ∨ j = 72 ∨ j = 110 ∨ j = 111)) → J5 q j = J q j := fun q j hq => by rw [f5, if_neg (by omega), if_neg (by omega), if_neg (by omega), if_neg (by omega)]
  have hF5 : FRl oc I J5 := frl_fr hF (fun _ _ _ => rfl) (fun q j a => s5 q j (by omega))
  have hL5 : HLP oc hb I J5 := by
    intro l hl
    obtain ⟨c1, c2, c3⟩ := hL l hl
    rw [s5 _ _ (by omega)]
    refine ⟨c1, c2, fun p f hp hf => ?_⟩
    rw [s5 1 _ (by omega), s5 9 _ (by omega), s5 1 _ (by omega)]
    exact c3 p f hp hf
  have j31 : J5 0 31 = J 0 31 := s5 _ _ (by omega)
  have N0 : NRl oc hb 0 I J5 I J5 := by
    refine ⟨fun _ _ _ => rfl, fun _ _ _ => rfl, fun s h1 h2 => ?_, fun t ht => ?_, ?_⟩
    · rw [s5 _ _ (by omega), s5 _ _ (by omega), s5 _ _ (by omega)]; exact hY.2 s h1 h2
    · rw [s5 _ _ (by omega), s5 _ _ (by omega)]; exact hP.2.2.2.1 t ht
    · show I (hb + 10) 2 = wr32 (I (hb + 10) 2 + 0)
      have := hrg (hb + 10) 2
      rw [Int.add_zero, wr32_id this]
  obtain ⟨c, hcc⟩ : ∃ c : Nat, J 1 70 = (c : Int) := ⟨(J 1 70).toNat, by omega⟩
  obtain ⟨n, hnn⟩ : ∃ n : Nat, J 0 32 = (n : Int) := ⟨(J 0 32).toNat, by omega⟩
  refine note2 (fu := fu) hd _ _ _ _ I J5 hF5 hL5 (fun I6 J6 hN => ?_) fu fu 0 I J5 (by rw [j31]; omega) N0
  rw [j31] at hN
  obtain ⟨n1, n2, n3, n4, n5⟩ := hN
  rw [hx1] at n5
  -- the reference's memory so far
  have s6 : ∀ q j, ¬ (q = 1 ∧ (j = 71 ∨ j = 72 ∨ j = 110 ∨ j = 111 ∨ (81 ≤ j ∧ j ≤ 108) ∨ (112 ≤ j ∧ j ≤ 127))) → J6 q j = J q j := fun q j hq => (n2 q j (by omega)).trans (s5 q j (by omega))
  refine pq_ofr (fun x I9 e8 => xv_outs (fu := fu) _ _ J6 n ((s6 _ _ (by omega)).trans hnn) (by omega) (fun i hi => ?_) (fun J7 o1 o2 => pq_tor (x := x) (I := I9) ?_ e8) fu 0 J6 (Nat.zero_le _) (fun _ _ _ => rfl) (fun i' _ _ hi' => absurd hi' (Nat.not_lt_zero _)))
  · obtain ⟨k, k1, k2, _⟩ := fg i (by omega)
    exact ⟨k, k1.1, (s6 _ _ (by omega)).trans k2⟩
  have s7 : ∀ q j, q ≠ 14 → ¬ (q = 1 ∧ (j = 71 ∨ j = 72 ∨ j = 110 ∨ j = 111 ∨ (81 ≤ j ∧ j ≤ 108) ∨ (112 ≤ j ∧ j ≤ 127))) → J7 q j = J q j := fun q j h1 h2 => (o1 q j h1).trans (s6 q j h2)
  have hF7 : FRl oc I6 J7 := frl_fr hF (fun q j a => n1 q j (by omega)) (fun q j a => s7 q j (by omega) (by omega))
  have hL7 : HLP oc hb I6 J7 := by
    intro l hl
    obtain ⟨c1, c2, c3⟩ := hL l hl
    rw [n1 _ _ (by omega), s7 _ _ (by omega) (by omega)]
    refine ⟨c1, c2, fun p f hp hf => ?_⟩
    rw [n1 _ _ (by omega), n1 _ _ (by omega), s7 1 _ (by omega) (by omega), s7 9 _ (by omega) (by omega), s7 1 _ (by omega) (by omega)]
    exact c3 p f hp hf
  have hz7 : ∀ k, INL J7 k → 1 ≤ J7 1 (141 + 6 * k) ∧ J7 1 (141 + 6 * k) ≤ 8 := by
    intro k hk
    have hk1 := hk.1
    have hk2 := hk.2
    rw [s7 _ _ (by omega) (by omega)] at hk2
    rw [s7 _ _ (by omega) (by omega)]
    exact hz k ⟨hk1, hk2⟩
  intro x2 I92 y J9 e82 e9
  obtain ⟨v, I8, e10, e11⟩ := of_zb e82
  unfold f_L_depart at e10
  refine depart6 (fu := fu) (Q := fun v I8 y J9 => ∀ x I9, (f_C_leave_59 fu (fun (I17 : IMem) => zb (f_H_close fu hb (I17 oc 7) (I17 oc 8) I17) fun _ I19 => zr (wr32 ((I19 (hb + 10) 2) - I (hb + 10) 2)) I19) oc hb (I (hb + 10) 2) fu 0 I8) = some (x, I9) → LPO hb I J x I9 y J9) hd _ _ I6 J7 hF7 hL7 hz7 (fun I8 J8 hM => ?_) fu fu 0 I6 J7 (by decide) ⟨fun _ _ _ _ => rfl, fun _ _ _ => rfl, fun l' hl' => absurd hl' (Nat.not_lt_zero _)⟩ v I8 y J9 e10 e9 x2 I92 e11
  obtain ⟨m1, m2, m3⟩ := hM
  intro v' I' y' J' e1 e2
  cases e1
  intro x3 I93 e3
  have i8 : ∀ q j, q ≠ hb + 7 → q ≠ hb + 8 → I8 q j = I6 q j := fun q j a b => m1 q j (by omega) (by omega)
  have j8 : ∀ q j, ¬ (q = 1 ∧ 130 ≤ j ∧ j < 1580) → J8 q j = J7 q j := fun q j a => m2 q j (by omega)
  have hL8 : HL hb 1 I8 J8 := fun l hl => m3 l hl
  have away : I8 (hb + 10) 6 = J8 1 76 := by
    rw [i8 _ _ (by omega) (by omega), n1 _ _ (by omega), j8 _ _ (by omega), s7 _ _ (by omega) (by omega)]; exact hY.1 6 (by decide)
  refine gone2 (fu := fu) (Q := LPO hb I J) hd _ _ _ _ I8 J8 n (by omega) ?_ ?_ (fun i hi f hf => ?_) (fun I17 J17 hG => ?_) fu fu 0 I8 J8 (Nat.zero_le _) ⟨fun _ _ _ _ _ => rfl, fun _ _ _ _ => rfl, hL8, away⟩ x3 I93 y' J' e3 e2
  · rw [i8 _ _ (by omega) (by omega), n1 _ _ (by omega), a3, hnn]
  · rw [j8 _ _ (by omega), s7 _ _ (by omega) (by omega), hnn]
  · obtain ⟨k, k1, k2, k3, k4⟩ := fg i (by omega)
    have hk1 := k1.1
    have ko : J6 10 i = (k : Int) := (s6 _ _ (by omega)).trans k2
    have out : ∀ g, g < 6 → J8 14 (6 * i + g) = J 1 (140 + 6 * k + g) := fun g hg => by
      rw [j8 _ _ (by omega), o2 i k g hi ko hg]; exact s6 _ _ (by omega)
    rw [i8 _ _ (by omega) (by omega), n1 _ _ (by omega), k4 f hf, out 0 (by decide), out 1 (by decide), out 3 (by decide), out 4 (by decide), out 5 (by decide)]
    rcases (show f = 0 ∨ f = 1 ∨ f = 2 ∨ f = 3 ∨ f = 4 ∨ f = 5 by omega) with rfl | rfl | rfl | rfl | rfl | rfl <;> rfl
  -- the numbers
  obtain ⟨g1, g2, g3, g4⟩ := hG
  have ci : ∀ q j, q ≠ hb + 7 → q ≠ hb + 8 → ¬ (q = hb + 10 ∧ (j = 2 ∨ j = 6 ∨ (11 ≤ j ∧ j ≤ 38))) → ¬ (q = hb + 11 ∧ 10 ≤ j ∧ j ≤ 27) → I17 q j = I q j := fun q j h1 h2 h3 h4 => by
    rw [g1 q j h1 h2 (by omega), i8 q j h1 h2]; exact n1 q j (by omega)
  have cj : ∀ q j, q ≠ 14 → ¬ (q = 0 ∧ j = 24) → ¬ (q = 1 ∧ (j = 71 ∨ j = 72 ∨ j = 76 ∨ j = 110 ∨ j = 111 ∨ (81 ≤ j ∧ j ≤ 108) ∨ (112 ≤ j ∧ j ≤ 127) ∨ (130 ≤ j ∧ j < 1580))) → J17 q j = J q j := fun q j h1 h2 h3 => by
    rw [g2 q j (by omega) h2, j8 q j (by omega)]; exact s7 q j h1 (by omega)
  have ci6 : ∀ q j, q ≠ hb + 7 → q ≠ hb + 8 → ¬ (q = hb + 10 ∧ j = 6) → I17 q j = I6 q j := fun q j h1 h2 h3 => by
    rw [g1 q j h1 h2 h3, i8 q j h1 h2]
  have cj6 : ∀ j, j ≠ 76 → ¬ (130 ≤ j ∧ j < 1580) → J17 1 j = J6 1 j := fun j h1 h2 => by
    rw [g2 1 j (by omega) (by omega), j8 1 j (by omega)]; exact o1 1 j (by omega)
  have cj5 : ∀ j, j ≠ 76 → ¬ (130 ≤ j ∧ j < 1580) → ¬ (81 ≤ j ∧ j ≤ 108) → ¬ (112 ≤ j ∧ j ≤ 127) → J17 1 j = J5 1 j := fun j h1 h2 h3 h4 => by
    rw [cj6 j h1 h2]; exact n2 1 j (by omega)
  have t0 : ∀ k, k < 6 → I17 (hb + 1) k = J17 1 (1 + k) := fun k hk => by
    rw [ci _ _ (by omega) (by omega) (by omega) (by omega), cj _ _ (by omega) (by omega) (by omega)]; exact hS.1 k hk
  have y0 : ∀ k, k ≠ 1 → k ≠ 2 → k ≠ 6 → k < 7 → I17 (hb + 10) k = J17 1 (70 + k) := fun k h1 h2 h3 h4 => by
    rw [ci _ _ (by omega) (by omega) (by omega) (by omega), cj _ _ (by omega) (by omega) (by omega)]; exact hY.1 k h4
  have st : I17 hb 6 = J17 1 0 := by rw [ci _ _ (by omega) (by omega) (by omega) (by omega), cj _ _ (by omega) (by omega) (by omega)]; exact hS.2.1
  have hcJ : J17 1 70 = (c : Int) := (cj _ _ (by omega) (by omega) (by omega)).trans hcc
  have hcI : I17 (hb + 10) 0 = (c : Int) := (y0 0 (by decide) (by decide) (by decide) (by decide)).trans hcJ
  have i7 : I17 oc 7 = J 0 30 := (ci _ _ (by omega) (by omega) (by omega) (by omega)).trans a1
  have i8' : I17 oc 8 = J 0 31 := (ci _ _ (by omega) (by omega) (by omega) (by omega)).trans a2
  have jj30 : J17 0 30 = J 0 30 := cj _ _ (by omega) (by omega) (by omega)
  have jj31 : J17 0 31 = J 0 31 := cj _ _ (by omega) (by omega) (by omega)
  have hF2 : fallF (I17 hb 6) (I17 (hb + 10) 3) (I17 (hb + 10) 4) (I17 (hb + 1) 1) (I17 (hb + 1) 2) (I17 (hb + 1) 3) = fallF (J17 1 0) (J17 1 73) (J17 1 74) (J17 1 2) (J17 1 3) (J17 1 4) := by
    rw [st, y0 3 (by decide) (by decide) (by decide) (by decide), y0 4 (by decide) (by decide) (by decide) (by decide), t0 1 (by decide), t0 2 (by decide), t0 3 (by decide)]
  refine pq_bl (cv_close (fu := fu) hb (I17 oc 7) (I17 oc 8) I17 c hcI (by omega)) (fun _ I19 _ gc => pq_r (par_mono (xv_tail (fu := fu) people J17 c hcJ (by omega)) (fun y J19 ⟨h1, h2, h3, h4⟩ => ⟨?_, ⟨?_, ?_, ?_, ?_, ?_⟩, h2, h3, ?_, ?_, fun j => ?_, ?_⟩)))
  · have : I19 (hb + 10) 2 = wr32 (I (hb + 10) 2 + people) := by
      rw [gc, if_neg (by omega), if_neg (by omega), if_neg (by omega), if_neg (by omega), if_neg (by omega), if_neg (by omega), if_neg (by omega), if_neg (by omega), if_neg (by omega), if_neg (by omega), ci6 _ _ (by omega) (by omega) (by omega)]; exact n5
    rw [h1, this]
    unfold wr32
    omega
  · have cc : ∀ q j, q ≠ hb + 10 → q ≠ hb + 11 → q ≠ hb + 12 → ¬ (q = hb ∧ j = 6) → q ≠ hb + 7 → q ≠ hb + 8 → I19 q j = I q j := fun q j b1 b2 b3 b4 b5 b6 => by
      rw [gc, if_neg (by omega), if_neg (by omega), if_neg (by omega), if_neg (by omega), if_neg (by omega), if_neg (by omega), if_neg (by omega), if_neg (by omega), if_neg (by omega), if_neg (by omega)]; exact ci q j b5 b6 (by omega) (by omega)
    have cd : ∀ j, j ≠ 0 → j < 70 → J19 1 j = J 1 j := fun j b1 b2 => by
      rw [h4 _ _ (by omega) (by omega), if_neg (by omega), if_neg (by omega), if_neg (by omega), if_neg (by omega), if_neg (by omega), if_neg (by omega), if_neg (by omega)]; exact cj _ _ (by omega) (by omega) (by omega)
    obtain ⟨z1, z2, z3, z4, z5, z6, z7⟩ := hS
    refine ⟨fun k hk => ?_, ?_, ?_, fun k hk => ?_, fun k b1 b2 => ?_, fun k hk => ?_, fun k b1 b2 => ?_⟩
    · rw [cc _ _ (by omega) (by omega) (by omega) (by omega) (by omega) (by omega), cd _ (by omega) (by omega)]; exact z1 k hk
    · rw [gc, if_neg (by omega), if_neg (by omega), if_neg (by omega), if_neg (by omega), if_neg (by omega), if_neg (by omega), if_neg (by omega), if_neg (by omega), if_pos ⟨rfl, rfl⟩, h4 _ _ (by omega) (by omega), if_neg (by omega), if_neg (by omega), if_neg (by omega), if_neg (by omega), if_neg (by omega), if_pos ⟨rfl, rfl⟩, hF2]
    · rw [cc _ _ (by omega) (by omega) (by omega) (by omega) (by omega) (by omega), cd _ (by omega) (by omega)]; exact z3
    · rw [cc _ _ (by omega) (by omega) (by omega) (by omega) (by omega) (by omega), cd _ (by omega) (by omega)]; exact z4 k hk
    · rw [cc _ _ (by omega) (by omega) (by omega) (by omega) (by omega) (by omega), cd _ (by omega) (by omega)]; exact z5 k b1 b2
    · rw [cc _ _ (by omega) (by omega) (by omega) (by omega) (by omega) (by omega), cd _ (by omega) (by omega)]; exact z6 k hk
    · rw [cc _ _ (by omega) (by omega) (by omega) (by omega) (by omega) (by omega), cd _ (by omega) (by omega)]; exact z7 k b1 b2
  · have cc : ∀ j, j ≠ 0 → j ≠ 1 → j ≠ 3 → j ≠ 4 → I19 (hb + 10) j = I17 (hb + 10) j := fun j b1 b2 b3 b4 => by
      rw [gc, if_neg (by omega), if_neg (by omega), if_neg (by omega), if_neg (by omega), if_neg (by omega), if_neg (by omega), if_neg (by omega), if_neg (by omega), if_neg (by omega), if_neg (by omega)]
    have cd : ∀ j, j ≠ 70 → j ≠ 73 → j ≠ 74 → 70 ≤ j → j < 130 → J19 1 j = J17 1 j := fun j b1 b2 b3 b4 b5 => by
      rw [h4 _ _ (by omega) (by omega), if_neg (by omega), if_neg (by omega), if_neg (by omega), if_neg (by omega), if_neg (by omega), if_neg (by omega), if_neg (by omega)]
    refine ⟨fun k hk => ?_, fun s b1 b2 => ?_⟩
    · rcases (show k = 0 ∨ k = 1 ∨ k = 2 ∨ k = 3 ∨ k = 4 ∨ k = 5 ∨ k = 6 by omega) with rfl | rfl | rfl | rfl | rfl | rfl | rfl
      · rw [gc, if_pos ⟨rfl, rfl⟩, h4 _ _ (by omega) (by omega), if_neg (by omega), if_neg (by omega), if_neg (by omega), if_neg (by omega), if_neg (by omega), if_neg (by omega), if_pos ⟨rfl, rfl⟩]
      · rw [gc, if_neg (by omega), if_neg (by omega), if_neg (by omega), if_neg (by omega), if_neg (by omega), if_neg (by omega), if_neg (by omega), if_neg (by omega), if_neg (by omega), if_pos ⟨rfl, rfl⟩, cd _ (by decide) (by decide) (by decide) (by decide) (by decide), cj5 _ (by decide) (by decide) (by decide) (by decide), f5, if_neg (by omega), if_neg (by omega), if_neg (by omega), if_pos ⟨rfl, rfl⟩, i7, ci _ _ (by omega) (by omega) (by omega) (by omega), hY.1 1 (by decide)]
      · rw [cc _ (by decide) (by decide) (by decide) (by decide), ci6 _ _ (by omega) (by omega) (by omega), n5, cd _ (by decide) (by decide) (by decide) (by decide) (by decide), cj5 _ (by decide) (by decide) (by decide) (by decide), f5, if_neg (by omega), if_neg (by omega), if_pos ⟨rfl, rfl⟩, hY.1 2 (by decide)]
      · rw [gc, if_neg (by omega), if_neg (by omega), if_neg (by omega), if_neg (by omega), if_neg (by omega), if_neg (by omega), if_neg (by omega), if_pos ⟨rfl, rfl⟩, h4 _ _ (by omega) (by omega), if_neg (by omega), if_neg (by omega), if_neg (by omega), if_neg (by omega), if_pos ⟨rfl, rfl⟩, hF2]
      · rw [gc, if_neg (by omega), if_neg (by omega), if_neg (by omega), if_neg (by omega), if_neg (by omega), if_neg (by omega), if_pos ⟨rfl, rfl⟩, h4 _ _ (by omega) (by omega), if_neg (by omega), if_neg (by omega), if_neg (by omega), if_pos ⟨rfl, rfl⟩, hF2]
      · rw [cc _ (by decide) (by decide) (by decide) (by decide), cd _ (by decide) (by decide) (by decide) (by decide) (by decide)]; exact y0 5 (by decide) (by decide) (by decide) (by decide)
      · rw [cc _ (by decide) (by decide) (by decide) (by decide), cd _ (by decide) (by decide) (by decide) (by decide) (by decide)]; exact g4
    · have := n3 s b1 b2
      rw [cc _ (by omega) (by omega) (by omega) (by omega), cc _ (by omega) (by omega) (by omega) (by omega), cc _ (by omega) (by omega) (by omega) (by omega), cd _ (by omega) (by omega) (by omega) (by omega) (by omega), cd _ (by omega) (by omega) (by omega) (by omega) (by omega), cd _ (by omega) (by omega) (by omega) (by omega) (by omega), ci6 _ _ (by omega) (by omega) (by omega), ci6 _ _ (by omega) (by omega) (by omega), ci6 _ _ (by omega) (by omega) (by omega), cj6 _ (by omega) (by omega), cj6 _ (by omega) (by omega), cj6 _ (by omega) (by omega)]
      exact this
  · have e110 : J19 1 110 = J 0 31 := by
      rw [h4 _ _ (by omega) (by omega), if_neg (by omega), if_neg (by omega), if_neg (by omega), if_neg (by omega), if_neg (by omega), if_neg (by omega), if_neg (by omega), cj5 _ (by decide) (by decide) (by decide) (by decide), f5, if_neg (by omega), if_pos ⟨rfl, rfl⟩]
    have e70 : J19 1 70 = (c : Int) + 1 := by
      rw [h4 _ _ (by omega) (by omega), if_neg (by omega), if_neg (by omega), if_neg (by omega), if_neg (by omega), if_neg (by omega), if_neg (by omega), if_pos ⟨rfl, rfl⟩]
    refine ⟨by rw [e110, e70]; omega, fun _ => ?_, ?_, fun i hi => ?_, fun k hk => ?_⟩
    · rw [e110, gc, if_neg (by omega), if_neg (by omega), if_neg (by omega), if_neg (by omega), if_neg (by omega), if_pos ⟨rfl, rfl⟩, i8']
    · rw [gc, if_neg (by omega), if_neg (by omega), if_neg (by omega), if_neg (by omega), if_pos ⟨rfl, rfl⟩, i7, h4 _ _ (by omega) (by omega), if_neg (by omega), if_neg (by omega), if_neg (by omega), if_neg (by omega), if_neg (by omega), if_neg (by omega), if_neg (by omega), cj5 _ (by decide) (by decide) (by decide) (by decide), f5, if_pos ⟨rfl, rfl⟩]
    · have cc : ∀ j, 2 ≤ j → I19 (hb + 11) j = I6 (hb + 11) j := fun j b1 => by
        rw [gc, if_neg (by omega), if_neg (by omega), if_neg (by omega), if_neg (by omega), if_neg (by omega), if_neg (by omega), if_neg (by omega), if_neg (by omega), if_neg (by omega), if_neg (by omega)]; exact ci6 _ _ (by omega) (by omega) (by omega)
      have cd : ∀ j, 112 ≤ j → j < 130 → J19 1 j = J6 1 j := fun j b4 b5 => by
        rw [h4 _ _ (by omega) (by omega), if_neg (by omega), if_neg (by omega), if_neg (by omega), if_neg (by omega), if_neg (by omega), if_neg (by omega), if_neg (by omega)]; exact cj6 _ (by omega) (by omega)
      rw [cc _ (by omega), cc _ (by omega), cd _ (by omega) (by omega), cd _ (by omega) (by omega)]
      exact n4 i hi
    · rw [gc, h4 _ _ (by omega) (by omega)]
      by_cases w2 : k = 3 * (c % 60) + 2
      · rw [if_neg (by omega), if_pos ⟨rfl, w2⟩, if_pos (by omega), hF2]
      · rw [if_neg (by omega), if_neg (fun q => w2 q.2)]
        by_cases w1 : k = 3 * (c % 60) + 1
        · rw [if_pos ⟨rfl, w1⟩, if_neg (show ¬ (1 = 1 ∧ 6010 + k = 6010 + 3 * (c % 60) + 2) by omega), if_pos (show 1 = 1 ∧ 6010 + k = 6010 + 3 * (c % 60) + 1 by omega), i8', jj31]
        · rw [if_neg (fun q => w1 q.2)]
          by_cases w0 : k = 3 * (c % 60)
          · rw [if_pos ⟨rfl, w0⟩, if_neg (show ¬ (1 = 1 ∧ 6010 + k = 6010 + 3 * (c % 60) + 2) by omega), if_neg (show ¬ (1 = 1 ∧ 6010 + k = 6010 + 3 * (c % 60) + 1) by omega), if_pos (show 1 = 1 ∧ 6010 + k = 6010 + 3 * (c % 60) by omega), i7, jj30]
          · rw [if_neg (fun q => w0 q.2), if_neg (by omega), if_neg (by omega), if_neg (by omega), if_neg (by omega), if_neg (by omega), if_neg (by omega), if_neg (by omega), if_neg (by omega), if_neg (by omega), if_neg (by omega), if_neg (by omega), if_neg (by omega), if_neg (by omega), ci _ _ (by omega) (by omega) (by omega) (by omega), cj _ _ (by omega) (by omega) (by omega)]
            exact hP.2.2.2.2 k hk
  · refine hl_mv g3 (fun j => ⟨?_, ?_⟩) (fun j b1 b2 => ?_)
    · rw [gc, if_neg (by omega), if_neg (by omega), if_neg (by omega), if_neg (by omega), if_neg (by omega), if_neg (by omega), if_neg (by omega), if_neg (by omega), if_neg (by omega), if_neg (by omega)]
    · rw [gc, if_neg (by omega), if_neg (by omega), if_neg (by omega), if_neg (by omega), if_neg (by omega), if_neg (by omega), if_neg (by omega), if_neg (by omega), if_neg (by omega), if_neg (by omega)]
    · rw [h4 _ _ (by omega) (by omega), if_neg (by omega), if_neg (by omega), if_neg (by omega), if_neg (by omega), if_neg (by omega), if_neg (by omega), if_neg (by omega)]
  · refine hw_mv hW (fun d j b1 b2 b3 => ?_) (fun j b1 b2 => ?_)
    · rw [gc, if_neg (by omega), if_neg (by omega), if_neg (by omega), if_neg (by omega), if_neg (by omega), if_neg (by omega), if_neg (by omega), if_neg (by omega), if_neg (by omega), if_neg (by omega)]; exact ci _ _ (by omega) (by omega) (by omega) (by omega)
    · rw [h4 _ _ (by omega) (by omega), if_neg (by omega), if_neg (by omega), if_neg (by omega), if_neg (by omega), if_neg (by omega), if_neg (by omega), if_neg (by omega)]; exact cj _ _ (by omega) (by omega) (by omega)
  · rw [h4 _ _ (by omega) (by omega), if_neg (by omega), if_neg (by omega), if_neg (by omega), if_neg (by omega), if_neg (by omega), if_neg (by omega), if_neg (by omega)]; exact cj _ _ (by omega) (by omega) (by omega)
  · rw [gc, if_neg (by omega), if_neg (by omega), if_neg (by omega), if_neg (by omega), if_neg (by omega), if_neg (by omega), if_neg (by omega), if_neg (by omega), if_neg (by omega), if_neg (by omega)]; exact ci _ _ (by omega) (by omega) (by omega) (by omega)
  · rw [gc, if_neg (by omega), if_neg (by omega), if_neg (by omega), if_neg (by omega), if_neg (by omega), if_neg (by omega), if_neg (by omega), if_neg (by omega), if_neg (by omega), if_neg (by omega)]; exact ci _ _ (by omega) (by omega) (by omega) (by omega)
  · have c71 : J19 1 71 = wr32 (J 1 71 + J 0 30) := by
      rw [h4 _ _ (by omega) (by omega), if_neg (by omega), if_neg (by omega), if_neg (by omega), if_neg (by omega), if_neg (by omega), if_neg (by omega), if_neg (by omega), cj5 _ (by decide) (by decide) (by decide) (by decide), f5, if_neg (by omega), if_neg (by omega), if_neg (by omega), if_pos ⟨rfl, rfl⟩]
    have c111 : J19 1 111 = J 0 30 := by
      rw [h4 _ _ (by omega) (by omega), if_neg (by omega), if_neg (by omega), if_neg (by omega), if_neg (by omega), if_neg (by omega), if_neg (by omega), if_neg (by omega), cj5 _ (by decide) (by decide) (by decide) (by decide), f5, if_pos ⟨rfl, rfl⟩]
    rw [c71, c111]
end
