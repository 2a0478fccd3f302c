/-! the chair goes: whole, on both sides -/
section
variable {fu : Nat} {Q : Int → IMem → Prop}
theorem xv_forg2 (kk : IMem → Res) (J0 : IMem) (hk : ∀ J, (∀ j, j < 240 → J 13 j = 0) → (∀ q j, q ≠ 13 → J q j = J0 q j) → par (kk J) Q) : ∀ (m i : Nat) (J : IMem), i ≤ 240 → (∀ j, j < i → J 13 j = 0) → (∀ q j, q ≠ 13 → J q j = J0 q j) → par (f_X_forgets_2 fu kk 0 m (i : Int) J) Q := by
  intro m
  induction m with
  | zero => intro _ _ _ _ _; exact par_none
  | succ m ih =>
    intro i J hi hz hf
    show par (fb_X_forgets_2 fu kk 0 (f_X_forgets_2 fu kk 0 m) (i : Int) J) _
    unfold fb_X_forgets_2
    by_cases h : i < 240
    · rw [if_pos (by omega)]
      refine par_zg (fun _ => par_zw' (fun I1 e1 => ?_))
      rw [tn] at e1
      simp only [zl_e]
      have wn : Wq (wr32 ((i : Int) + 1)) (((i + 1 : Nat) : Int)) := by show wr32 ((i : Int) + 1) = ((i + 1 : Nat) : Int); rw [wr32_i2 (by omega) (by omega)]; rfl
      rw [wn.e]
      clear wn
      refine ih (i + 1) I1 h (fun j hj => ?_) (fun q j h1 => ?_)
      · rw [e1]
        by_cases z : j = i
        · rw [if_pos (by omega)]
        · rw [if_neg (by omega)]; exact hz j (by omega)
      · rw [e1, if_neg (by omega)]; exact hf q j h1
    · rw [if_neg (by omega)]
      exact hk J (fun j hj => hz j (by omega)) hf
theorem xv_forgets (J : IMem) : par (f_X_forgets fu 0 J) (fun _ J' => (∀ j, j < 240 → J' 13 j = 0) ∧ J' 0 35 = 0 ∧ ∀ q j, q ≠ 13 → ¬ (q = 0 ∧ j = 35) → J' q j = J q j) := by
  unfold f_X_forgets
  refine xv_forg2 (fu := fu) _ J (fun J1 g1 g2 => ?_) fu 0 J (by decide) (fun j hj => absurd hj (Nat.not_lt_zero _)) (fun _ _ _ => rfl)
  refine par_zw' (fun I2 e2 => par_zr ⟨fun j hj => ?_, ?_, fun q j h1 h2 => ?_⟩)
  · rw [e2, if_neg (by omega)]; exact g1 j hj
  · rw [e2, if_pos ⟨rfl, rfl⟩]
  · rw [e2, if_neg h2]; exact g2 q j h1
/-- the reference's last lines -/
def xTL (fu : Nat) (x1 : Int) (I53 : IMem) : Res :=
            zw I53 (0 + 1) 70 (wr32 ((I53 (0 + 1) 70) + 1)) fun I54 =>
            zw I54 (0 + 1) 73 (wr32 ((I54 (0 + 1) 73) + (I54 (0 + 1) 2))) fun I55 =>
            zj (fun  (I57 : IMem) =>
                zl (wr32 (6010 + (wr32 (3 * (wrem (wr32 ((I57 (0 + 1) 70) - 1)) 60))))) fun x58 =>
                zg (0 ≤ x58 ∧ x58 < 6190) (zw I57 (0 + 1) x58.toNat (I57 0 30) fun I59 =>
                zl (wr32 (x58 + 1)) fun x61 =>
                zg (0 ≤ x61 ∧ x61 < 6190) (zw I59 (0 + 1) x61.toNat (I59 0 31) fun I60 =>
                zl (wr32 (x58 + 2)) fun x63 =>
                zg (0 ≤ x63 ∧ x63 < 6190) (zw I60 (0 + 1) x63.toNat (I60 (0 + 1) 73) fun I62 =>
                zb (f_X_forgets fu 0 I62) fun _ I65 =>
                zr x1 I65)))) fun k56 =>
              if 0 < I55 (0 + 1) 4 then (
                zb (f_X_draw fu 0 1000 I55) fun y67 I68 =>
                if y67 < I68 (0 + 1) 4 then (
                  zw I68 (0 + 1) 73 (wr32 ((I68 (0 + 1) 73) + (I68 (0 + 1) 3))) fun I70 =>
                  zw I70 (0 + 1) 74 (wr32 ((I70 (0 + 1) 74) + 1)) fun I71 =>
                  k56 I71)
                else (
                  k56 I68))
              else (
                k56 I55)
theorem goes_eq (fu : Nat) (J : IMem) : f_X_goesOff fu 0 J = zl (wr32 ((J (0 + 1) 1) - (J 0 30))) fun x1 => zw J (0 + 1) 71 (wr32 ((J (0 + 1) 71) + (J 0 30))) fun I2 => zw I2 (0 + 1) 72 (wr32 ((I2 (0 + 1) 72) + x1)) fun I3 => zw I3 (0 + 1) 110 (I3 0 31) fun I4 => zw I4 (0 + 1) 111 (I4 0 30) fun I5 => f_X_goesOff_61 fu (fun (I30 : IMem) => f_X_goesOff_205 fu (fun (I37 : IMem) => f_X_goesOff_266 fu (fun (I42 : IMem) => f_X_goesOff_285 fu (xTL fu x1) 0 x1 fu 0 I42) 0 x1 fu 0 I37) 0 x1 fu 0 I30) 0 x1 fu 0 I5 := rfl
theorem xv_tail (x1 : Int) (J : IMem) (c : Nat) (hc : J 1 70 = (c : Int)) (hc2 : c < 2000000000) : par (xTL fu x1 J) (fun v J' => v = x1 ∧ (∀ j, j < 240 → J' 13 j = 0) ∧ J' 0 35 = 0 ∧ ∀ q j, q ≠ 13 → ¬ (q = 0 ∧ j = 35) → J' q j = if q = 1 ∧ j = 6010 + 3 * (c % 60) + 2 then (fallF (J 1 0) (J 1 73) (J 1 74) (J 1 2) (J 1 3) (J 1 4)).2.1 else if q = 1 ∧ j = 6010 + 3 * (c % 60) + 1 then J 0 31 else if q = 1 ∧ j = 6010 + 3 * (c % 60) then J 0 30 else if q = 1 ∧ j = 74 then (fallF (J 1 0) (J 1 73) (J 1 74) (J 1 2) (J 1 3) (J 1 4)).2.2 else if q = 1 ∧ j = 73 then (fallF (J 1 0) (J 1 73) (J 1 74) (J 1 2) (J 1 3) (J 1 4)).2.1 else if q = 1 ∧ j = 0 then (fallF (J 1 0) (J 1 73) (J 1 74) (J 1 2) (J 1 3) (J 1 4)).1 else if q = 1 ∧ j = 70 then (c : Int) + 1 else J q j) := by
  unfold xTL
  simp only [Nat.zero_add]
  rw [hc, wr32_i2 (x := (c : Int) + 1) (by omega) (by omega)]
  refine par_zw' (fun I1 e1 => ?_)
  have a3 : I1 1 73 = J 1 73 := by rw [e1, if_neg (by omega)]
  have t1 : I1 1 2 = J 1 2 := by rw [e1, if_neg (by omega)]
  rw [a3, t1]
  refine par_zw' (fun I2 e2 => ?_)
  refine par_zj (fun k3 ek3 => ?_)
  have hk3 : ∀ (I4 : IMem) (F : Int × Int × Int), F = fallF (J 1 0) (J 1 73) (J 1 74) (J 1 2) (J 1 3) (J 1 4) → (∀ q j, I4 q j = if q = 1 ∧ j = 74 then F.2.2 else if q = 1 ∧ j = 73 then F.2.1 else if q = 1 ∧ j = 0 then F.1 else if q = 1 ∧ j = 70 then (c : Int) + 1 else J q j) → par (k3 I4) (fun v J' => v = x1 ∧ (∀ j, j < 240 → J' 13 j = 0) ∧ J' 0 35 = 0 ∧ ∀ q j, q ≠ 13 → ¬ (q = 0 ∧ j = 35) → J' q j = if q = 1 ∧ j = 6010 + 3 * (c % 60) + 2 then (fallF (J 1 0) (J 1 73) (J 1 74) (J 1 2) (J 1 3) (J 1 4)).2.1 else if q = 1 ∧ j = 6010 + 3 * (c % 60) + 1 then J 0 31 else if q = 1 ∧ j = 6010 + 3 * (c % 60) then J 0 30 else if q = 1 ∧ j = 74 then (fallF (J 1 0) (J 1 73) (J 1 74) (J 1 2) (J 1 3) (J 1 4)).2.2 else if q = 1 ∧ j = 73 then (fallF (J 1 0) (J 1 73) (J 1 74) (J 1 2) (J 1 3) (J 1 4)).2.1 else if q = 1 ∧ j = 0 then (fallF (J 1 0) (J 1 73) (J 1 74) (J 1 2) (J 1 3) (J 1 4)).1 else if q = 1 ∧ j = 70 then (c : Int) + 1 else J q j) := by
    intro I4 F hF e4
    subst ek3
    rw [← hF]
    clear hF
    have c6 : I4 1 70 = (c : Int) + 1 := by rw [e4, if_neg (by omega), if_neg (by omega), if_neg (by omega), if_pos ⟨rfl, rfl⟩]
    have w0 : Wq (wr32 ((c : Int) + 1 - 1)) ((c : Int)) := by show wr32 ((c : Int) + 1 - 1) = (c : Int); rw [wr32_i2 (by omega) (by omega)]; omega
    simp only [zl_e]
    rw [c6, w0.e, wrem_i2 (a := (c : Int)) (c := 60) (by omega) (by omega) (by decide) (by decide), wr32_i2 (x := 3 * ((c : Int) % 60)) (by omega) (by omega)]
    have w1 : Wq (wr32 (6010 + 3 * ((c : Int) % 60))) (((6010 + 3 * (c % 60) : Nat) : Int)) := by show wr32 (6010 + 3 * ((c : Int) % 60)) = ((6010 + 3 * (c % 60) : Nat) : Int); rw [wr32_i2 (by omega) (by omega)]; omega
    have w2 : Wq (wr32 (((6010 + 3 * (c % 60) : Nat) : Int) + 1)) (((6010 + 3 * (c % 60) + 1 : Nat) : Int)) := by show wr32 (((6010 + 3 * (c % 60) : Nat) : Int) + 1) = ((6010 + 3 * (c % 60) + 1 : Nat) : Int); rw [wr32_i2 (by omega) (by omega)]; omega
    have w3 : Wq (wr32 (((6010 + 3 * (c % 60) : Nat) : Int) + 2)) (((6010 + 3 * (c % 60) + 2 : Nat) : Int)) := by show wr32 (((6010 + 3 * (c % 60) : Nat) : Int) + 2) = ((6010 + 3 * (c % 60) + 2 : Nat) : Int); rw [wr32_i2 (by omega) (by omega)]; omega
    rw [w1.e, w2.e, w3.e, tn, tn, tn]
    clear w0 w1 w2 w3
    have f30 : I4 0 30 = J 0 30 := by rw [e4, if_neg (by omega), if_neg (by omega), if_neg (by omega), if_neg (by omega)]
    rw [f30]
    refine par_zg (fun _ => par_zw' (fun I5 e5 => par_zg (fun _ => ?_)))
    have f31 : I5 0 31 = J 0 31 := by rw [e5, if_neg (by omega), e4, if_neg (by omega), if_neg (by omega), if_neg (by omega), if_neg (by omega)]
    rw [f31]
    refine par_zw' (fun I6 e6 => par_zg (fun _ => ?_))
    have f73 : I6 1 73 = F.2.1 := by rw [e6, if_neg (by omega), e5, if_neg (by omega), e4, if_neg (by omega), if_pos ⟨rfl, rfl⟩]
    rw [f73]
    refine par_zw' (fun I7 e7 => par_zb (xv_forgets (fu := fu) I7) (fun _ I8 ⟨g1, g2, g3⟩ => par_zr ⟨rfl, g1, g2, fun q j h1 h2 => ?_⟩))
    rw [g3 q j h1 h2, e7, e6, e5, e4]
  clear ek3
  have b4 : I2 1 4 = J 1 4 := by rw [e2, if_neg (by omega), e1, if_neg (by omega)]
  rw [b4]
  have i74 : I2 1 74 = J 1 74 := by rw [e2, if_neg (by omega), e1, if_neg (by omega)]
  refine par_ite (fun q => ?_) (fun q => ?_)
  · unfold f_X_draw
    simp only [Nat.zero_add]
    have b0 : I2 1 0 = J 1 0 := by rw [e2, if_neg (by omega), e1, if_neg (by omega)]
    rw [b0, zb_zw, Int.mul_comm 1664525 (J 1 0)]
    refine par_zw' (fun I3 e3 => ?_)
    rw [zg_t (by decide), zb_zr, (e3 1 0).trans (if_pos ⟨rfl, rfl⟩)]
    have d3 : I3 1 4 = J 1 4 := by rw [e3, if_neg (by omega)]; exact b4
    rw [d3]
    refine par_ite (fun q2 => ?_) (fun q2 => ?_)
    · have d33 : I3 1 73 = wr32 (J 1 73 + J 1 2) := by rw [e3, if_neg (by omega), e2, if_pos ⟨rfl, rfl⟩]
      have d12 : I3 1 3 = J 1 3 := by rw [e3, if_neg (by omega), e2, if_neg (by omega), e1, if_neg (by omega)]
      rw [d33, d12]
      refine par_zw' (fun I4 e4 => ?_)
      have d44 : I4 1 74 = J 1 74 := by rw [e4, if_neg (by omega), e3, if_neg (by omega), i74]
      rw [d44]
      refine par_zw' (fun I5 e5 => hk3 I5 _ rfl (fun q' j => ?_))
      have hF : fallF (J 1 0) (J 1 73) (J 1 74) (J 1 2) (J 1 3) (J 1 4) = (wr32 (wr32 (J 1 0 * 1664525) + 1013904223), wr32 (wr32 (J 1 73 + J 1 2) + J 1 3), wr32 (J 1 74 + 1)) := by
        unfold fallF; rw [if_pos q, if_pos q2]
      rw [hF, e5, e4, e3, e2, e1]
      by_cases z4 : q' = 1 ∧ j = 74
      · rw [if_pos z4, if_pos z4]
      · rw [if_neg z4, if_neg z4]
        by_cases z : q' = 1 ∧ j = 73
        · rw [if_pos z, if_pos z]
        · rw [if_neg z, if_neg z, if_neg z]
    · refine hk3 I3 _ rfl (fun q' j => ?_)
      have hF : fallF (J 1 0) (J 1 73) (J 1 74) (J 1 2) (J 1 3) (J 1 4) = (wr32 (wr32 (J 1 0 * 1664525) + 1013904223), wr32 (J 1 73 + J 1 2), J 1 74) := by
        unfold fallF; rw [if_pos q, if_neg q2]
      rw [hF, e3, e2, e1]
      by_cases z4 : q' = 1 ∧ j = 74
      · rw [if_pos z4, if_neg (by omega), if_neg (by omega), if_neg (by omega), z4.1, z4.2]
      · rw [if_neg z4]
        by_cases z : q' = 1 ∧ j = 73
        · rw [if_neg (by omega), if_pos z, if_pos z]
        · rw [if_neg z, if_neg z]
  · refine hk3 I2 _ rfl (fun q' j => ?_)
    have hF : fallF (J 1 0) (J 1 73) (J 1 74) (J 1 2) (J 1 3) (J 1 4) = (J 1 0, wr32 (J 1 73 + J 1 2), J 1 74) := by
      unfold fallF; rw [if_neg q]
    rw [hF, e2, e1]
    by_cases z4 : q' = 1 ∧ j = 74
    · rw [if_pos z4, if_neg (by omega), if_neg (by omega), z4.1, z4.2]
    · rw [if_neg z4]
      by_cases z : q' = 1 ∧ j = 73
      · rw [if_pos z, if_pos z]
      · rw [if_neg z, if_neg z]
        by_cases z6 : q' = 1 ∧ j = 0
        · rw [if_neg (by omega), if_pos z6, z6.1, z6.2]
        · rw [if_neg z6]
end
/-- what a chair that went leaves -/
def LPO (hb : Nat) (I J : IMem) (x : Int) (I' : IMem) (y : Int) (J' : IMem) : Prop := x = y ∧ HR hb 1 I' J' ∧ (∀ j, j < 240 → J' 13 j = 0) ∧ J' 0 35 = 0 ∧ J' 0 22 = J 0 22 ∧ I' hb 11 = I hb 11 ∧ (∀ j, I' (hb + 14) j = I (hb + 14) j) ∧ J' 1 71 = wr32 (J 1 71 + J' 1 111)
section
variable {fu oc hb : Nat} {I J : IMem}
/-- leave and goesOff -/
theorem leave2 (h : FE oc hb I J) (hd : hb + 40 ≤ oc) (hz : ∀ k, INL J k → 1 ≤ J 1 (141 + 6 * k) ∧ J 1 (141 + 6 * k) ≤ 8) (hn : J 0 32 ≤ 144) (hc : 0 ≤ J 1 70 ∧ J 1 70 < 2000000000) (hs : 2 ≤ J 1 1 ∧ J 1 1 ≤ 8) (hrg : RG I) : pq (f_C_leave fu oc hb I) (f_X_goesOff fu 0 J) (LPO hb I J) := by
  obtain ⟨⟨hS, hY, hP, hW⟩, hL, hF⟩ := h
  have hF' := hF
  obtain ⟨⟨a1, a2, a3⟩, ⟨b1, b2, b3, b4⟩, _, _, mk, fo, fg, su⟩ := hF'
  rw [goes_eq]
  unfold f_C_leave
  simp only [zl_e, Nat.zero_add]
  have x1e : Wq (wr32 (J 1 1 - J 0 30)) (sm (I (oc + 3)) (J 0 31).toNat) := by show wr32 (J 1 1 - J 0 30) = sm (I (oc + 3)) (J 0 31).toNat; rw [wr32_i2 (by omega) (by omega)]; omega
  rw [x1e.e]
  generalize hx1 : sm (I (oc + 3)) (J 0 31).toNat = people at *
  refine pq_zwr' (fun J1 e1 => ?_)
  have q1 : J1 1 72 = J 1 72 := by rw [e1, if_neg (by omega)]
  rw [q1]
  refine pq_zwr' (fun J2 e2 => ?_)
  have q2 : J2 0 31 = J 0 31 := by rw [e2, if_neg (by omega), e1, if_neg (by omega)]
  rw [q2]
  refine pq_zwr' (fun J3 e3 => ?_)
  have q3 : J3 0 30 = J 0 30 := by rw [e3, if_neg (by omega), e2, if_neg (by omega), e1, if_neg (by omega)]
  rw [q3]
  refine pq_zwr' (fun J5 e5 => ?_)
  have f5 : ∀ q j, J5 q j = if q = 1 ∧ j = 111 then J 0 30 else if q = 1 ∧ j = 110 then J 0 31 else if q = 1 ∧ j = 72 then wr32 (J 1 72 + people) else if q = 1 ∧ j = 71 then wr32 (J 1 71 + J 0 30) else J q j := fun q j => by rw [e5, e3, e2, e1]
  clear e5 e3 e2 e1 q1 q2 q3
  have s5 : ∀ q j, ¬ (q = 1 ∧ (j = 71 ∨ j = 72 ∨ j = 110 ∨ j = 111)) → J5 q j = J q j := fun q j hq => by rw [f5, if_neg (by omega), if_neg (by omega), if_neg (by omega), if_neg (by omega)]
  have hF5 : FRl oc I J5 := frl_fr hF (fun _ _ _ => rfl) (fun q j a => s5 q j (by omega))
  have hL5 : HLP oc hb I J5 := by
    intro l hl
    obtain ⟨c1, c2, c3⟩ := hL l hl
    rw [s5 _ _ (by omega)]
    refine ⟨c1, c2, fun p f hp hf => ?_⟩
    rw [s5 1 _ (by omega), s5 9 _ (by omega), s5 1 _ (by omega)]
    exact c3 p f hp hf
  have j31 : J5 0 31 = J 0 31 := s5 _ _ (by omega)
  have N0 : NRl oc hb 0 I J5 I J5 := by
    refine ⟨fun _ _ _ => rfl, fun _ _ _ => rfl, fun s h1 h2 => ?_, fun t ht => ?_, ?_⟩
    · rw [s5 _ _ (by omega), s5 _ _ (by omega), s5 _ _ (by omega)]; exact hY.2 s h1 h2
    · rw [s5 _ _ (by omega), s5 _ _ (by omega)]; exact hP.2.2.2.1 t ht
    · show I (hb + 10) 2 = wr32 (I (hb + 10) 2 + 0)
      have := hrg (hb + 10) 2
      rw [Int.add_zero, wr32_id this]
  obtain ⟨c, hcc⟩ : ∃ c : Nat, J 1 70 = (c : Int) := ⟨(J 1 70).toNat, by omega⟩
  obtain ⟨n, hnn⟩ : ∃ n : Nat, J 0 32 = (n : Int) := ⟨(J 0 32).toNat, by omega⟩
  refine note2 (fu := fu) hd _ _ _ _ I J5 hF5 hL5 (fun I6 J6 hN => ?_) fu fu 0 I J5 (by rw [j31]; omega) N0
  rw [j31] at hN
  obtain ⟨n1, n2, n3, n4, n5⟩ := hN
  rw [hx1] at n5
  -- the reference's memory so far
  have s6 : ∀ q j, ¬ (q = 1 ∧ (j = 71 ∨ j = 72 ∨ j = 110 ∨ j = 111 ∨ (81 ≤ j ∧ j ≤ 108) ∨ (112 ≤ j ∧ j ≤ 127))) → J6 q j = J q j := fun q j hq => (n2 q j (by omega)).trans (s5 q j (by omega))
  refine pq_ofr (fun x I9 e8 => xv_outs (fu := fu) _ _ J6 n ((s6 _ _ (by omega)).trans hnn) (by omega) (fun i hi => ?_) (fun J7 o1 o2 => pq_tor (x := x) (I := I9) ?_ e8) fu 0 J6 (Nat.zero_le _) (fun _ _ _ => rfl) (fun i' _ _ hi' => absurd hi' (Nat.not_lt_zero _)))
  · obtain ⟨k, k1, k2, _⟩ := fg i (by omega)
    exact ⟨k, k1.1, (s6 _ _ (by omega)).trans k2⟩
  have s7 : ∀ q j, q ≠ 14 → ¬ (q = 1 ∧ (j = 71 ∨ j = 72 ∨ j = 110 ∨ j = 111 ∨ (81 ≤ j ∧ j ≤ 108) ∨ (112 ≤ j ∧ j ≤ 127))) → J7 q j = J q j := fun q j h1 h2 => (o1 q j h1).trans (s6 q j h2)
  have hF7 : FRl oc I6 J7 := frl_fr hF (fun q j a => n1 q j (by omega)) (fun q j a => s7 q j (by omega) (by omega))
  have hL7 : HLP oc hb I6 J7 := by
    intro l hl
    obtain ⟨c1, c2, c3⟩ := hL l hl
    rw [n1 _ _ (by omega), s7 _ _ (by omega) (by omega)]
    refine ⟨c1, c2, fun p f hp hf => ?_⟩
    rw [n1 _ _ (by omega), n1 _ _ (by omega), s7 1 _ (by omega) (by omega), s7 9 _ (by omega) (by omega), s7 1 _ (by omega) (by omega)]
    exact c3 p f hp hf
  have hz7 : ∀ k, INL J7 k → 1 ≤ J7 1 (141 + 6 * k) ∧ J7 1 (141 + 6 * k) ≤ 8 := by
    intro k hk
    have hk1 := hk.1
    have hk2 := hk.2
    rw [s7 _ _ (by omega) (by omega)] at hk2
    rw [s7 _ _ (by omega) (by omega)]
    exact hz k ⟨hk1, hk2⟩
  intro x2 I92 y J9 e82 e9
  obtain ⟨v, I8, e10, e11⟩ := of_zb e82
  unfold f_L_depart at e10
  refine depart6 (fu := fu) (Q := fun v I8 y J9 => ∀ x I9, (f_C_leave_59 fu (fun (I17 : IMem) => zb (f_H_close fu hb (I17 oc 7) (I17 oc 8) I17) fun _ I19 => zr (wr32 ((I19 (hb + 10) 2) - I (hb + 10) 2)) I19) oc hb (I (hb + 10) 2) fu 0 I8) = some (x, I9) → LPO hb I J x I9 y J9) hd _ _ I6 J7 hF7 hL7 hz7 (fun I8 J8 hM => ?_) fu fu 0 I6 J7 (by decide) ⟨fun _ _ _ _ => rfl, fun _ _ _ => rfl, fun l' hl' => absurd hl' (Nat.not_lt_zero _)⟩ v I8 y J9 e10 e9 x2 I92 e11
  obtain ⟨m1, m2, m3⟩ := hM
  intro v' I' y' J' e1 e2
  cases e1
  intro x3 I93 e3
  have i8 : ∀ q j, q ≠ hb + 7 → q ≠ hb + 8 → I8 q j = I6 q j := fun q j a b => m1 q j (by omega) (by omega)
  have j8 : ∀ q j, ¬ (q = 1 ∧ 130 ≤ j ∧ j < 1580) → J8 q j = J7 q j := fun q j a => m2 q j (by omega)
  have hL8 : HL hb 1 I8 J8 := fun l hl => m3 l hl
  have away : I8 (hb + 10) 6 = J8 1 76 := by
    rw [i8 _ _ (by omega) (by omega), n1 _ _ (by omega), j8 _ _ (by omega), s7 _ _ (by omega) (by omega)]; exact hY.1 6 (by decide)
  refine gone2 (fu := fu) (Q := LPO hb I J) hd _ _ _ _ I8 J8 n (by omega) ?_ ?_ (fun i hi f hf => ?_) (fun I17 J17 hG => ?_) fu fu 0 I8 J8 (Nat.zero_le _) ⟨fun _ _ _ _ _ => rfl, fun _ _ _ _ => rfl, hL8, away⟩ x3 I93 y' J' e3 e2
  · rw [i8 _ _ (by omega) (by omega), n1 _ _ (by omega), a3, hnn]
  · rw [j8 _ _ (by omega), s7 _ _ (by omega) (by omega), hnn]
  · obtain ⟨k, k1, k2, k3, k4⟩ := fg i (by omega)
    have hk1 := k1.1
    have ko : J6 10 i = (k : Int) := (s6 _ _ (by omega)).trans k2
    have out : ∀ g, g < 6 → J8 14 (6 * i + g) = J 1 (140 + 6 * k + g) := fun g hg => by
      rw [j8 _ _ (by omega), o2 i k g hi ko hg]; exact s6 _ _ (by omega)
    rw [i8 _ _ (by omega) (by omega), n1 _ _ (by omega), k4 f hf, out 0 (by decide), out 1 (by decide), out 3 (by decide), out 4 (by decide), out 5 (by decide)]
    rcases (show f = 0 ∨ f = 1 ∨ f = 2 ∨ f = 3 ∨ f = 4 ∨ f = 5 by omega) with rfl | rfl | rfl | rfl | rfl | rfl <;> rfl
  -- the numbers
  obtain ⟨g1, g2, g3, g4⟩ := hG
  have ci : ∀ q j, q ≠ hb + 7 → q ≠ hb + 8 → ¬ (q = hb + 10 ∧ (j = 2 ∨ j = 6 ∨ (11 ≤ j ∧ j ≤ 38))) → ¬ (q = hb + 11 ∧ 10 ≤ j ∧ j ≤ 27) → I17 q j = I q j := fun q j h1 h2 h3 h4 => by
    rw [g1 q j h1 h2 (by omega), i8 q j h1 h2]; exact n1 q j (by omega)
  have cj : ∀ q j, q ≠ 14 → ¬ (q = 0 ∧ j = 24) → ¬ (q = 1 ∧ (j = 71 ∨ j = 72 ∨ j = 76 ∨ j = 110 ∨ j = 111 ∨ (81 ≤ j ∧ j ≤ 108) ∨ (112 ≤ j ∧ j ≤ 127) ∨ (130 ≤ j ∧ j < 1580))) → J17 q j = J q j := fun q j h1 h2 h3 => by
    rw [g2 q j (by omega) h2, j8 q j (by omega)]; exact s7 q j h1 (by omega)
  have ci6 : ∀ q j, q ≠ hb + 7 → q ≠ hb + 8 → ¬ (q = hb + 10 ∧ j = 6) → I17 q j = I6 q j := fun q j h1 h2 h3 => by
    rw [g1 q j h1 h2 h3, i8 q j h1 h2]
  have cj6 : ∀ j, j ≠ 76 → ¬ (130 ≤ j ∧ j < 1580) → J17 1 j = J6 1 j := fun j h1 h2 => by
    rw [g2 1 j (by omega) (by omega), j8 1 j (by omega)]; exact o1 1 j (by omega)
  have cj5 : ∀ j, j ≠ 76 → ¬ (130 ≤ j ∧ j < 1580) → ¬ (81 ≤ j ∧ j ≤ 108) → ¬ (112 ≤ j ∧ j ≤ 127) → J17 1 j = J5 1 j := fun j h1 h2 h3 h4 => by
    rw [cj6 j h1 h2]; exact n2 1 j (by omega)
  have t0 : ∀ k, k < 6 → I17 (hb + 1) k = J17 1 (1 + k) := fun k hk => by
    rw [ci _ _ (by omega) (by omega) (by omega) (by omega), cj _ _ (by omega) (by omega) (by omega)]; exact hS.1 k hk
  have y0 : ∀ k, k ≠ 1 → k ≠ 2 → k ≠ 6 → k < 7 → I17 (hb + 10) k = J17 1 (70 + k) := fun k h1 h2 h3 h4 => by
    rw [ci _ _ (by omega) (by omega) (by omega) (by omega), cj _ _ (by omega) (by omega) (by omega)]; exact hY.1 k h4
  have st : I17 hb 6 = J17 1 0 := by rw [ci _ _ (by omega) (by omega) (by omega) (by omega), cj _ _ (by omega) (by omega) (by omega)]; exact hS.2.1
  have hcJ : J17 1 70 = (c : Int) := (cj _ _ (by omega) (by omega) (by omega)).trans hcc
  have hcI : I17 (hb + 10) 0 = (c : Int) := (y0 0 (by decide) (by decide) (by decide) (by decide)).trans hcJ
  have i7 : I17 oc 7 = J 0 30 := (ci _ _ (by omega) (by omega) (by omega) (by omega)).trans a1
  have i8' : I17 oc 8 = J 0 31 := (ci _ _ (by omega) (by omega) (by omega) (by omega)).trans a2
  have jj30 : J17 0 30 = J 0 30 := cj _ _ (by omega) (by omega) (by omega)
  have jj31 : J17 0 31 = J 0 31 := cj _ _ (by omega) (by omega) (by omega)
  have hF2 : fallF (I17 hb 6) (I17 (hb + 10) 3) (I17 (hb + 10) 4) (I17 (hb + 1) 1) (I17 (hb + 1) 2) (I17 (hb + 1) 3) = fallF (J17 1 0) (J17 1 73) (J17 1 74) (J17 1 2) (J17 1 3) (J17 1 4) := by
    rw [st, y0 3 (by decide) (by decide) (by decide) (by decide), y0 4 (by decide) (by decide) (by decide) (by decide), t0 1 (by decide), t0 2 (by decide), t0 3 (by decide)]
  refine pq_bl (cv_close (fu := fu) hb (I17 oc 7) (I17 oc 8) I17 c hcI (by omega)) (fun _ I19 _ gc => pq_r (par_mono (xv_tail (fu := fu) people J17 c hcJ (by omega)) (fun y J19 ⟨h1, h2, h3, h4⟩ => ⟨?_, ⟨?_, ?_, ?_, ?_, ?_⟩, h2, h3, ?_, ?_, fun j => ?_, ?_⟩)))
  · have : I19 (hb + 10) 2 = wr32 (I (hb + 10) 2 + people) := by
      rw [gc, if_neg (by omega), if_neg (by omega), if_neg (by omega), if_neg (by omega), if_neg (by omega), if_neg (by omega), if_neg (by omega), if_neg (by omega), if_neg (by omega), if_neg (by omega), ci6 _ _ (by omega) (by omega) (by omega)]; exact n5
    rw [h1, this]
    unfold wr32
    omega
  · have cc : ∀ q j, q ≠ hb + 10 → q ≠ hb + 11 → q ≠ hb + 12 → ¬ (q = hb ∧ j = 6) → q ≠ hb + 7 → q ≠ hb + 8 → I19 q j = I q j := fun q j b1 b2 b3 b4 b5 b6 => by
      rw [gc, if_neg (by omega), if_neg (by omega), if_neg (by omega), if_neg (by omega), if_neg (by omega), if_neg (by omega), if_neg (by omega), if_neg (by omega), if_neg (by omega), if_neg (by omega)]; exact ci q j b5 b6 (by omega) (by omega)
    have cd : ∀ j, j ≠ 0 → j < 70 → J19 1 j = J 1 j := fun j b1 b2 => by
      rw [h4 _ _ (by omega) (by omega), if_neg (by omega), if_neg (by omega), if_neg (by omega), if_neg (by omega), if_neg (by omega), if_neg (by omega), if_neg (by omega)]; exact cj _ _ (by omega) (by omega) (by omega)
    obtain ⟨z1, z2, z3, z4, z5, z6, z7⟩ := hS
    refine ⟨fun k hk => ?_, ?_, ?_, fun k hk => ?_, fun k b1 b2 => ?_, fun k hk => ?_, fun k b1 b2 => ?_⟩
    · rw [cc _ _ (by omega) (by omega) (by omega) (by omega) (by omega) (by omega), cd _ (by omega) (by omega)]; exact z1 k hk
    · rw [gc, if_neg (by omega), if_neg (by omega), if_neg (by omega), if_neg (by omega), if_neg (by omega), if_neg (by omega), if_neg (by omega), if_neg (by omega), if_pos ⟨rfl, rfl⟩, h4 _ _ (by omega) (by omega), if_neg (by omega), if_neg (by omega), if_neg (by omega), if_neg (by omega), if_neg (by omega), if_pos ⟨rfl, rfl⟩, hF2]
    · rw [cc _ _ (by omega) (by omega) (by omega) (by omega) (by omega) (by omega), cd _ (by omega) (by omega)]; exact z3
    · rw [cc _ _ (by omega) (by omega) (by omega) (by omega) (by omega) (by omega), cd _ (by omega) (by omega)]; exact z4 k hk
    · rw [cc _ _ (by omega) (by omega) (by omega) (by omega) (by omega) (by omega), cd _ (by omega) (by omega)]; exact z5 k b1 b2
    · rw [cc _ _ (by omega) (by omega) (by omega) (by omega) (by omega) (by omega), cd _ (by omega) (by omega)]; exact z6 k hk
    · rw [cc _ _ (by omega) (by omega) (by omega) (by omega) (by omega) (by omega), cd _ (by omega) (by omega)]; exact z7 k b1 b2
  · have cc : ∀ j, j ≠ 0 → j ≠ 1 → j ≠ 3 → j ≠ 4 → I19 (hb + 10) j = I17 (hb + 10) j := fun j b1 b2 b3 b4 => by
      rw [gc, if_neg (by omega), if_neg (by omega), if_neg (by omega), if_neg (by omega), if_neg (by omega), if_neg (by omega), if_neg (by omega), if_neg (by omega), if_neg (by omega), if_neg (by omega)]
    have cd : ∀ j, j ≠ 70 → j ≠ 73 → j ≠ 74 → 70 ≤ j → j < 130 → J19 1 j = J17 1 j := fun j b1 b2 b3 b4 b5 => by
      rw [h4 _ _ (by omega) (by omega), if_neg (by omega), if_neg (by omega), if_neg (by omega), if_neg (by omega), if_neg (by omega), if_neg (by omega), if_neg (by omega)]
    refine ⟨fun k hk => ?_, fun s b1 b2 => ?_⟩
    · rcases (show k = 0 ∨ k = 1 ∨ k = 2 ∨ k = 3 ∨ k = 4 ∨ k = 5 ∨ k = 6 by omega) with rfl | rfl | rfl | rfl | rfl | rfl | rfl
      · rw [gc, if_pos ⟨rfl, rfl⟩, h4 _ _ (by omega) (by omega), if_neg (by omega), if_neg (by omega), if_neg (by omega), if_neg (by omega), if_neg (by omega), if_neg (by omega), if_pos ⟨rfl, rfl⟩]
      · rw [gc, if_neg (by omega), if_neg (by omega), if_neg (by omega), if_neg (by omega), if_neg (by omega), if_neg (by omega), if_neg (by omega), if_neg (by omega), if_neg (by omega), if_pos ⟨rfl, rfl⟩, cd _ (by decide) (by decide) (by decide) (by decide) (by decide), cj5 _ (by decide) (by decide) (by decide) (by decide), f5, if_neg (by omega), if_neg (by omega), if_neg (by omega), if_pos ⟨rfl, rfl⟩, i7, ci _ _ (by omega) (by omega) (by omega) (by omega), hY.1 1 (by decide)]
      · rw [cc _ (by decide) (by decide) (by decide) (by decide), ci6 _ _ (by omega) (by omega) (by omega), n5, cd _ (by decide) (by decide) (by decide) (by decide) (by decide), cj5 _ (by decide) (by decide) (by decide) (by decide), f5, if_neg (by omega), if_neg (by omega), if_pos ⟨rfl, rfl⟩, hY.1 2 (by decide)]
      · rw [gc, if_neg (by omega), if_neg (by omega), if_neg (by omega), if_neg (by omega), if_neg (by omega), if_neg (by omega), if_neg (by omega), if_pos ⟨rfl, rfl⟩, h4 _ _ (by omega) (by omega), if_neg (by omega), if_neg (by omega), if_neg (by omega), if_neg (by omega), if_pos ⟨rfl, rfl⟩, hF2]
      · rw [gc, if_neg (by omega), if_neg (by omega), if_neg (by omega), if_neg (by omega), if_neg (by omega), if_neg (by omega), if_pos ⟨rfl, rfl⟩, h4 _ _ (by omega) (by omega), if_neg (by omega), if_neg (by omega), if_neg (by omega), if_pos ⟨rfl, rfl⟩, hF2]
      · rw [cc _ (by decide) (by decide) (by decide) (by decide), cd _ (by decide) (by decide) (by decide) (by decide) (by decide)]; exact y0 5 (by decide) (by decide) (by decide) (by decide)
      · rw [cc _ (by decide) (by decide) (by decide) (by decide), cd _ (by decide) (by decide) (by decide) (by decide) (by decide)]; exact g4
    · have := n3 s b1 b2
      rw [cc _ (by omega) (by omega) (by omega) (by omega), cc _ (by omega) (by omega) (by omega) (by omega), cc _ (by omega) (by omega) (by omega) (by omega), cd _ (by omega) (by omega) (by omega) (by omega) (by omega), cd _ (by omega) (by omega) (by omega) (by omega) (by omega), cd _ (by omega) (by omega) (by omega) (by omega) (by omega), ci6 _ _ (by omega) (by omega) (by omega), ci6 _ _ (by omega) (by omega) (by omega), ci6 _ _ (by omega) (by omega) (by omega), cj6 _ (by omega) (by omega), cj6 _ (by omega) (by omega), cj6 _ (by omega) (by omega)]
      exact this
  · have e110 : J19 1 110 = J 0 31 := by
      rw [h4 _ _ (by omega) (by omega), if_neg (by omega), if_neg (by omega), if_neg (by omega), if_neg (by omega), if_neg (by omega), if_neg (by omega), if_neg (by omega), cj5 _ (by decide) (by decide) (by decide) (by decide), f5, if_neg (by omega), if_pos ⟨rfl, rfl⟩]
    have e70 : J19 1 70 = (c : Int) + 1 := by
      rw [h4 _ _ (by omega) (by omega), if_neg (by omega), if_neg (by omega), if_neg (by omega), if_neg (by omega), if_neg (by omega), if_neg (by omega), if_pos ⟨rfl, rfl⟩]
    refine ⟨by rw [e110, e70]; omega, fun _ => ?_, ?_, fun i hi => ?_, fun k hk => ?_⟩
    · rw [e110, gc, if_neg (by omega), if_neg (by omega), if_neg (by omega), if_neg (by omega), if_neg (by omega), if_pos ⟨rfl, rfl⟩, i8']
    · rw [gc, if_neg (by omega), if_neg (by omega), if_neg (by omega), if_neg (by omega), if_pos ⟨rfl, rfl⟩, i7, h4 _ _ (by omega) (by omega), if_neg (by omega), if_neg (by omega), if_neg (by omega), if_neg (by omega), if_neg (by omega), if_neg (by omega), if_neg (by omega), cj5 _ (by decide) (by decide) (by decide) (by decide), f5, if_pos ⟨rfl, rfl⟩]
    · have cc : ∀ j, 2 ≤ j → I19 (hb + 11) j = I6 (hb + 11) j := fun j b1 => by
        rw [gc, if_neg (by omega), if_neg (by omega), if_neg (by omega), if_neg (by omega), if_neg (by omega), if_neg (by omega), if_neg (by omega), if_neg (by omega), if_neg (by omega), if_neg (by omega)]; exact ci6 _ _ (by omega) (by omega) (by omega)
      have cd : ∀ j, 112 ≤ j → j < 130 → J19 1 j = J6 1 j := fun j b4 b5 => by
        rw [h4 _ _ (by omega) (by omega), if_neg (by omega), if_neg (by omega), if_neg (by omega), if_neg (by omega), if_neg (by omega), if_neg (by omega), if_neg (by omega)]; exact cj6 _ (by omega) (by omega)
      rw [cc _ (by omega), cc _ (by omega), cd _ (by omega) (by omega), cd _ (by omega) (by omega)]
      exact n4 i hi
    · rw [gc, h4 _ _ (by omega) (by omega)]
      by_cases w2 : k = 3 * (c % 60) + 2
      · rw [if_neg (by omega), if_pos ⟨rfl, w2⟩, if_pos (by omega), hF2]
      · rw [if_neg (by omega), if_neg (fun q => w2 q.2)]
        by_cases w1 : k = 3 * (c % 60) + 1
        · rw [if_pos ⟨rfl, w1⟩, if_neg (show ¬ (1 = 1 ∧ 6010 + k = 6010 + 3 * (c % 60) + 2) by omega), if_pos (show 1 = 1 ∧ 6010 + k = 6010 + 3 * (c % 60) + 1 by omega), i8', jj31]
        · rw [if_neg (fun q => w1 q.2)]
          by_cases w0 : k = 3 * (c % 60)
          · rw [if_pos ⟨rfl, w0⟩, if_neg (show ¬ (1 = 1 ∧ 6010 + k = 6010 + 3 * (c % 60) + 2) by omega), if_neg (show ¬ (1 = 1 ∧ 6010 + k = 6010 + 3 * (c % 60) + 1) by omega), if_pos (show 1 = 1 ∧ 6010 + k = 6010 + 3 * (c % 60) by omega), i7, jj30]
          · rw [if_neg (fun q => w0 q.2), if_neg (by omega), if_neg (by omega), if_neg (by omega), if_neg (by omega), if_neg (by omega), if_neg (by omega), if_neg (by omega), if_neg (by omega), if_neg (by omega), if_neg (by omega), if_neg (by omega), if_neg (by omega), if_neg (by omega), ci _ _ (by omega) (by omega) (by omega) (by omega), cj _ _ (by omega) (by omega) (by omega)]
            exact hP.2.2.2.2 k hk
  · refine hl_mv g3 (fun j => ⟨?_, ?_⟩) (fun j b1 b2 => ?_)
    · rw [gc, if_neg (by omega), if_neg (by omega), if_neg (by omega), if_neg (by omega), if_neg (by omega), if_neg (by omega), if_neg (by omega), if_neg (by omega), if_neg (by omega), if_neg (by omega)]
    · rw [gc, if_neg (by omega), if_neg (by omega), if_neg (by omega), if_neg (by omega), if_neg (by omega), if_neg (by omega), if_neg (by omega), if_neg (by omega), if_neg (by omega), if_neg (by omega)]
    · rw [h4 _ _ (by omega) (by omega), if_neg (by omega), if_neg (by omega), if_neg (by omega), if_neg (by omega), if_neg (by omega), if_neg (by omega), if_neg (by omega)]
  · refine hw_mv hW (fun d j b1 b2 b3 => ?_) (fun j b1 b2 => ?_)
    · rw [gc, if_neg (by omega), if_neg (by omega), if_neg (by omega), if_neg (by omega), if_neg (by omega), if_neg (by omega), if_neg (by omega), if_neg (by omega), if_neg (by omega), if_neg (by omega)]; exact ci _ _ (by omega) (by omega) (by omega) (by omega)
    · rw [h4 _ _ (by omega) (by omega), if_neg (by omega), if_neg (by omega), if_neg (by omega), if_neg (by omega), if_neg (by omega), if_neg (by omega), if_neg (by omega)]; exact cj _ _ (by omega) (by omega) (by omega)
  · rw [h4 _ _ (by omega) (by omega), if_neg (by omega), if_neg (by omega), if_neg (by omega), if_neg (by omega), if_neg (by omega), if_neg (by omega), if_neg (by omega)]; exact cj _ _ (by omega) (by omega) (by omega)
  · rw [gc, if_neg (by omega), if_neg (by omega), if_neg (by omega), if_neg (by omega), if_neg (by omega), if_neg (by omega), if_neg (by omega), if_neg (by omega), if_neg (by omega), if_neg (by omega)]; exact ci _ _ (by omega) (by omega) (by omega) (by omega)
  · rw [gc, if_neg (by omega), if_neg (by omega), if_neg (by omega), if_neg (by omega), if_neg (by omega), if_neg (by omega), if_neg (by omega), if_neg (by omega), if_neg (by omega), if_neg (by omega)]; exact ci _ _ (by omega) (by omega) (by omega) (by omega)
  · have c71 : J19 1 71 = wr32 (J 1 71 + J 0 30) := by
      rw [h4 _ _ (by omega) (by omega), if_neg (by omega), if_neg (by omega), if_neg (by omega), if_neg (by omega), if_neg (by omega), if_neg (by omega), if_neg (by omega), cj5 _ (by decide) (by decide) (by decide) (by decide), f5, if_neg (by omega), if_neg (by omega), if_neg (by omega), if_pos ⟨rfl, rfl⟩]
    have c111 : J19 1 111 = J 0 30 := by
      rw [h4 _ _ (by omega) (by omega), if_neg (by omega), if_neg (by omega), if_neg (by omega), if_neg (by omega), if_neg (by omega), if_neg (by omega), if_neg (by omega), cj5 _ (by decide) (by decide) (by decide) (by decide), f5, if_pos ⟨rfl, rfl⟩]
    rw [c71, c111]
end
/-! rides, turns, comers: both sides -/
/-- a hill of the class and a chair before it -/
def OCH (oc hb : Nat) : Prop := (oc = 122 ∧ hb = 82) ∨ (oc = 130 ∧ hb = 1)
/-- both sides, the dreamed hill or the real one -/
def HG (hb : Nat) (I J : IMem) : Prop := HX hb I J ∧ GX 0 J ∧ GC I
section
variable {fu oc hb : Nat} {I J : IMem}
theorem ride2 (ho : OCH oc hb) (hfu : 5000000000 < fu) (h : HG hb I J) (hc : J 1 70 < 2000000000) : pq (f_C_ride fu oc hb I) (f_X_chair fu 0 J) (fun x I' y J' => x = y ∧ HG hb I' J' ∧ (∀ j, j < 240 → J' 13 j = 0) ∧ J' 0 35 = 0 ∧ J' 1 70 = J 1 70 + 1 ∧ J' 1 71 = wr32 (J 1 71 + J' 1 111)) := by
  obtain ⟨⟨hR, hz, hA⟩, hG, hC⟩ := h
  have hd : hb + 40 ≤ oc := by unfold OCH at ho; omega
  have hT0 : oc = 122 ∨ oc = 130 ∨ oc = 137 := by unfold OCH at ho; omega
  have hT1 : hb = 1 ∨ hb = 41 ∨ hb = 82 := by unfold OCH at ho; omega
  have gf := gx_facts hG
  have key : pq (f_C_ride fu oc hb I) (f_X_chair fu 0 J) (fun x I' y J' => x = y ∧ HX hb I' J' ∧ J' 1 71 = wr32 (J 1 71 + J' 1 111)) := by
    unfold f_C_ride f_X_chair
    refine pq_b (pq_and (pq_al (pq_ar (fill2 (fu := fu) hR hG hd) (par_sat (ok_X_fills fu 0 J hfu hG))) (par_sat (ok_C_fill fu oc hb I hfu hC hT0 hT1))) (Q2 := fun _ I' _ J' => (∀ j, I' hb j = I hb j) ∧ (∀ j, I' (hb + 14) j = I (hb + 14) j) ∧ J' 0 22 = J 0 22) (fun x I' y J' e1 e2 => ?_)) (fun x1 I1 y1 J1 _ _ ⟨⟨⟨⟨f1, f2⟩, _, f3, _, f4⟩, _, f5, _⟩, f6, f7, f8⟩ => ?_)
    · have a := fr_C_fill (fun q => (hb + 15 ≤ q ∧ q < hb + 40) ∨ (oc ≤ q ∧ q ≤ oc + 6) ∨ q = hb + 7 ∨ q = hb + 10 ∨ q = hb + 13) fu oc hb I (fun q h1 h2 => Or.inl ⟨h1, h2⟩) (by omega) (by omega) (by omega) (by omega) (by omega) (by omega) (by omega) (by omega) (by omega) (by omega) e1
      have b := fc_X_fills (fun q j => ¬ (q = 0 ∧ j = 22)) fu 0 J (fun _ => by omega) (fun _ => by omega) (fun _ => by omega) (fun _ => by omega) (fun _ => by omega) (by omega) (by omega) (by omega) (by omega) (by omega) (by omega) (by omega) (by omega) (by omega) (by omega) (by omega) (by omega) (by omega) (by omega) (by omega) e2
      exact ⟨fun j => congrFun (a hb (by omega)) j, fun j => congrFun (a (hb + 14) (by omega)) j, b 0 22 (by omega)⟩
    · have gf1 := gx_facts f3
      have j70 : J1 1 70 = J 1 70 := f4 70 (by decide)
      refine pq_b (leave2 (fu := fu) f1 hd gf1.2.2.2.2.1 f2 ⟨gf1.2.2.2.2.2.2, by rw [j70]; exact hc⟩ gf1.1 f5.1) (fun x2 I2 y2 J2 _ _ ⟨g1, g2, g3, g4, g5, g6, g7, g8⟩ => pq_end ⟨g1, ⟨g2, ?_, ?_, ?_⟩, by rw [g8, f4 71 (by decide)]⟩)
      · rw [g5, g6, f6, f8]; exact hz
      · rw [g7, f7]; exact hA.1
      · rw [g7, f7]; exact hA.2
  refine pq_mono (pq_al (pq_ar key (par_sat (ok_X_chair fu 0 J hfu hG hc))) (par_sat (ok_C_ride fu oc hb I hfu hC hT0 hT1))) (fun x I' y J' ⟨⟨⟨k1, k2, k9⟩, _, k3, k4, k5, k6⟩, _, k7, _⟩ => ⟨k1, ⟨k2, k3, k7⟩, k6, k4, k5, k9⟩)
end
/-! comers by chances, turns: both sides -/
section
variable {fu oc hb : Nat} {I J : IMem}
theorem draw2 (hfu : 5000000000 < fu) (h : HG hb I J) (hb1 : hb = 1 ∨ hb = 82) : pq (f_H_draw fu hb 1000 I) (f_X_draw fu 0 1000 J) (fun x I' y J' => x = y ∧ HG hb I' J' ∧ (∀ j, j ≠ 0 → J' 1 j = J 1 j) ∧ (∀ q j, q ≠ hb → I' q j = I q j)) := by
  obtain ⟨⟨hR, hz, hA⟩, hG, hC⟩ := h
  have key : pq (f_H_draw fu hb 1000 I) (f_X_draw fu 0 1000 J) (fun x I' y J' => x = y ∧ HX hb I' J' ∧ (∀ j, j ≠ 0 → J' 1 j = J 1 j) ∧ (∀ q j, q ≠ hb → I' q j = I q j)) := by
    unfold f_H_draw f_X_draw
    obtain ⟨hS, hY, hP, hL, hW⟩ := hR
    have s0 : I hb 6 = J (0 + 1) 0 := hS.2.1
    rw [s0, Int.mul_comm 1664525 (J (0 + 1) 0)]
    refine pq_zwl' (fun I1 e1 => pq_zwr' (fun J1 e2 => ?_))
    rw [if_pos (by decide), zg_t (by decide), zg_t (by decide)]
    have r1 : I1 hb 6 = J1 (0 + 1) 0 := by rw [e1, if_pos ⟨rfl, rfl⟩, e2, if_pos ⟨rfl, rfl⟩]
    rw [r1]
    have io : ∀ q j, ¬ (q = hb ∧ j = 6) → I1 q j = I q j := fun q j a => by rw [e1, if_neg a]
    have jo : ∀ j, j ≠ 0 → J1 1 j = J 1 j := fun j a => by rw [e2, if_neg (by omega)]
    refine pq_end ⟨rfl, ⟨⟨?_, hy_mv hY (fun j => io _ _ (by omega)) (fun j a b => jo j (by omega)), hp_mv hP (fun j => ⟨io _ _ (by omega), io _ _ (by omega)⟩) (fun j a => jo j (by omega)), hl_mv hL (fun j => ⟨io _ _ (by omega), io _ _ (by omega)⟩) (fun j a b => jo j (by omega)), hw_mv hW (fun d j a b c => io _ _ (by omega)) (fun j a b => jo j (by omega))⟩, ?_, ?_, ?_⟩, jo, fun q j a => io q j (by omega)⟩
    · obtain ⟨a1, a2, a3, a4, a5, a6, a7⟩ := hS
      refine ⟨fun k hk => ?_, r1, ?_, fun k hk => ?_, fun k h3 h4 => ?_, fun k hk => ?_, fun k h3 h4 => ?_⟩
      · rw [io _ _ (by omega), jo _ (by omega)]; exact a1 k hk
      · rw [io _ _ (by omega), jo _ (by omega)]; exact a3
      · rw [io _ _ (by omega), jo _ (by omega)]; exact a4 k hk
      · rw [io _ _ (by omega), jo _ (by omega)]; exact a5 k h3 h4
      · rw [io _ _ (by omega), jo _ (by omega)]; exact a6 k hk
      · rw [io _ _ (by omega), jo _ (by omega)]; exact a7 k h3 h4
    · rw [io _ _ (by omega), e2, if_neg (by omega)]; exact hz
    · rw [io _ _ (by omega)]; exact hA.1
    · rw [io _ _ (by omega)]; exact hA.2
  have hok : hb = 1 ∨ hb = 41 ∨ hb = 82 := by omega
  refine pq_mono (pq_al (pq_ar key (par_sat (ok_X_draw fu 0 1000 J hfu hG (lit_in rfl) (by decide)))) (P := fun _ I' => GC I') (fun x I' e => ?_)) (fun x I' y J' ⟨⟨⟨k1, k2, k4, k5⟩, _, k3, _⟩, k6⟩ => ⟨k1, ⟨k2, k3, k6⟩, k4, k5⟩)
  have : par (f_H_draw fu hb 1000 I) (fun _ I' => GC I') := by
    unfold f_H_draw
    refine par_zw ?_
    rw [if_pos (by decide), zg_t (by decide)]
    exact par_zr (gc_up hC (wr32_in _) (Or.inl (by omega)))
  exact this x I' e
theorem comers2 {Q : Int → IMem → Int → IMem → Prop} (hfu : 5000000000 < fu) (hb1 : hb = 1 ∨ hb = 82) (c0 : Int) (kX : IMem → Res) (hend : ∀ I J, HG hb I J → J 1 70 = c0 → pq (zr 0 I) (kX J) Q) : ∀ (m m2 k : Nat) (I J : IMem), k ≤ 8 → HG hb I J → J 1 70 = c0 → pq (f_H_letComersEnter_2 fu hb m ((4 * k : Nat) : Int) I) (f_X_turn_2 fu kX 0 m2 (k : Int) J) Q := by
  intro m
  induction m with
  | zero => intro _ _ _ _ _ _ _; exact pq_nl
  | succ m ih =>
    intro m2 k I J hk h h70
    cases m2 with
    | zero => exact pq_nr
    | succ m2 =>
    show pq (fb_H_letComersEnter_2 fu hb (f_H_letComersEnter_2 fu hb m) ((4 * k : Nat) : Int) I) (fb_X_turn_2 fu kX 0 (f_X_turn_2 fu kX 0 m2) (k : Int) J) Q
    unfold fb_H_letComersEnter_2 fb_X_turn_2
    have h' := h
    obtain ⟨⟨⟨hS, hY, hP, hL, hW⟩, hz, hA⟩, hG, hC⟩ := h'
    have hok : hb = 1 ∨ hb = 41 ∨ hb = 82 := by omega
    have w1 : Wq (wr32 (((4 * k : Nat) : Int) + 3)) (((4 * k + 3 : Nat) : Int)) := by show wr32 (((4 * k : Nat) : Int) + 3) = ((4 * k + 3 : Nat) : Int); rw [wr32_i2 (by omega) (by omega)]; omega
    have w2 : Wq (wr32 (((4 * k : Nat) : Int) + 1)) (((4 * k + 1 : Nat) : Int)) := by show wr32 (((4 * k : Nat) : Int) + 1) = ((4 * k + 1 : Nat) : Int); rw [wr32_i2 (by omega) (by omega)]; omega
    have w3 : Wq (wr32 (((4 * k : Nat) : Int) + 2)) (((4 * k + 2 : Nat) : Int)) := by show wr32 (((4 * k : Nat) : Int) + 2) = ((4 * k + 2 : Nat) : Int); rw [wr32_i2 (by omega) (by omega)]; omega
    have w4 : Wq (wr32 (((4 * k : Nat) : Int) + 4)) (((4 * (k + 1) : Nat) : Int)) := by show wr32 (((4 * k : Nat) : Int) + 4) = ((4 * (k + 1) : Nat) : Int); rw [wr32_i2 (by omega) (by omega)]; omega
    have v0 : Wq (wr32 (26 + wr32 (4 * (k : Int)))) (((26 + 4 * k : Nat) : Int)) := by show wr32 (26 + wr32 (4 * (k : Int))) = ((26 + 4 * k : Nat) : Int); rw [wr32_i2 (x := 4 * (k : Int)) (by omega) (by omega), wr32_i2 (by omega) (by omega)]; omega
    have v1 : Wq (wr32 (((26 + 4 * k : Nat) : Int) + 1)) (((26 + 4 * k + 1 : Nat) : Int)) := by show wr32 (((26 + 4 * k : Nat) : Int) + 1) = ((26 + 4 * k + 1 : Nat) : Int); rw [wr32_i2 (by omega) (by omega)]; omega
    have v2 : Wq (wr32 (((26 + 4 * k : Nat) : Int) + 2)) (((26 + 4 * k + 2 : Nat) : Int)) := by show wr32 (((26 + 4 * k : Nat) : Int) + 2) = ((26 + 4 * k + 2 : Nat) : Int); rw [wr32_i2 (by omega) (by omega)]; omega
    have v3 : Wq (wr32 (((26 + 4 * k : Nat) : Int) + 3)) (((26 + 4 * k + 3 : Nat) : Int)) := by show wr32 (((26 + 4 * k : Nat) : Int) + 3) = ((26 + 4 * k + 3 : Nat) : Int); rw [wr32_i2 (by omega) (by omega)]; omega
    have wn : Wq (wr32 ((k : Int) + 1)) (((k + 1 : Nat) : Int)) := by show wr32 ((k : Int) + 1) = ((k + 1 : Nat) : Int); rw [wr32_i2 (by omega) (by omega)]; rfl
    simp only [zl_e, zj_e, Nat.zero_add]
    rw [w1.e, w2.e, w3.e, w4.e, v0.e, v1.e, v2.e, v3.e, wn.e]
    clear w1 w2 w3 w4 v0 v1 v2 v3 wn
    by_cases h8 : k < 8
    · rw [if_pos (show ((4 * k + 3 : Nat) : Int) < 32 by omega), if_pos (show (k : Int) < 8 by omega)]
      refine pq_gl (fun _ => pq_gr (fun _ => ?_))
      rw [tn, tn, tn, tn, tn, tn]
      have cm : ∀ i, i < 4 → I (hb + 4) (4 * k + i) = J 1 (26 + 4 * k + i) := fun i hi => by
        rw [hS.2.2.2.2.2.1 _ (by omega)]; exact congrArg _ (by omega)
      have c3 := cm 3 (by decide)
      rw [c3]
      have nxt : ∀ I1 J1, HG hb I1 J1 → J1 1 70 = c0 → pq (f_H_letComersEnter_2 fu hb m ((4 * (k + 1) : Nat) : Int) I1) (f_X_turn_2 fu kX 0 m2 ((k + 1 : Nat) : Int) J1) Q := fun I1 J1 a b => ih m2 (k + 1) I1 J1 h8 a b
      by_cases hp : 0 < J 1 (26 + 4 * k + 3)
      · rw [if_pos hp, if_pos hp]
        refine pq_b (draw2 (fu := fu) hfu h hb1) (fun x I1 y J1 _ _ ⟨d1, d2, d3, d4⟩ => ?_)
        subst d1
        refine pq_gr (fun _ => ?_)
        rw [d3 _ (by omega)]
        have j70 : J1 1 70 = c0 := (d3 70 (by decide)).trans h70
        by_cases hx : x < J 1 (26 + 4 * k + 3)
        · rw [if_pos hx, if_pos hx]
          refine pq_gl (fun _ => pq_gl (fun _ => pq_gl (fun _ => pq_gr (fun _ => pq_gr (fun _ => pq_gr (fun _ => ?_))))))
          have e0 : I1 (hb + 4) (4 * k) = J1 1 (26 + 4 * k) := by rw [d4 _ _ (by omega), d3 _ (by omega)]; exact cm 0 (by decide)
          have e1 : I1 (hb + 4) (4 * k + 1) = J1 1 (26 + 4 * k + 1) := by rw [d4 _ _ (by omega), d3 _ (by omega)]; exact cm 1 (by decide)
          have e2 : I1 (hb + 4) (4 * k + 2) = J1 1 (26 + 4 * k + 2) := by rw [d4 _ _ (by omega), d3 _ (by omega)]; exact cm 2 (by decide)
          rw [e0, e1, e2]
          obtain ⟨hX1, hG1, hC1⟩ := d2
          have wx := hG1.2.1.2.2.2.1 k h8
          have z1 : 1 ≤ J1 1 (26 + 4 * k) ∧ J1 1 (26 + 4 * k) ≤ 8 := wx (by
            show 0 < J1 1 (29 + 4 * k)
            rw [d3 _ (by omega), show 29 + 4 * k = 26 + 4 * k + 3 by omega]; exact hp)
          refine pq_b (pq_al (pq_ar (enter2 (fu := fu) (hb := hb) (size := J1 1 (26 + 4 * k)) (says := J1 1 (26 + 4 * k + 1)) (sort := J1 1 (26 + 4 * k + 2)) hX1 hG1.1) (par_sat (ok_X_comes fu 0 _ _ _ J1 hfu hG1 (hG1.1 _ _) (hG1.1 _ _) (hG1.1 _ _) z1))) (par_sat (ok_H_enter fu hb _ _ _ I1 hfu hC1 hok (hG1.1 _ _) (hG1.1 _ _) (hG1.1 _ _)))) (fun x2 I2 y2 J2 _ _ ⟨⟨⟨f1, f2⟩, _, f3, f4, _⟩, _, f5, _⟩ => ?_)
          exact nxt I2 J2 ⟨f2, f3, f5⟩ ((f4 70 (by decide) (by decide)).trans j70)
        · rw [if_neg hx, if_neg hx]
          exact nxt I1 J1 d2 j70
      · rw [if_neg hp, if_neg hp]
        exact nxt I J h h70
    · rw [if_neg (by omega), if_neg (by omega)]
      exact hend I J h h70
/-- nobody is picked -/
def ZPK (J : IMem) : Prop := (∀ j, j < 240 → J 13 j = 0) ∧ J 0 35 = 0
/-- the comers, then a chair -/
theorem turn2 (ho : OCH oc hb) (hfu : 5000000000 < fu) (h : HG hb I J) (hc : J 1 70 < 2000000000) : pq (zb (f_H_letComersEnter fu hb I) fun _ I2 => zb (f_C_fill fu oc hb I2) fun _ I5 => zb (f_C_leave fu oc hb I5) fun y7 I8 => zr y7 I8) (f_X_turn fu 0 J) (fun x I' y J' => x = y ∧ HG hb I' J' ∧ ZPK J' ∧ J' 1 70 = J 1 70 + 1) := by
  have hb1 : hb = 1 ∨ hb = 82 := by unfold OCH at ho; omega
  unfold f_X_turn f_H_letComersEnter
  intro x I9 y J9 e1 e2
  obtain ⟨v, I1, e3, e4⟩ := of_zb e1
  refine comers2 (fu := fu) (Q := fun _ I1 y J9 => ∀ x I9, (zb (f_C_fill fu oc hb I1) fun _ I5 => zb (f_C_leave fu oc hb I5) fun y7 I8 => zr y7 I8) = some (x, I9) → (x = y ∧ HG hb I9 J9 ∧ ZPK J9 ∧ J9 1 70 = J 1 70 + 1)) hfu hb1 (J 1 70) _ (fun I2 J2 h2 h3 => ?_) fu fu 0 I J (by decide) h rfl v I1 y J9 e3 e2 x I9 e4
  intro v' I' y' J' e5 e6
  cases e5
  intro x' I9' e7
  obtain ⟨y8, J8, e8, e9⟩ := of_zb e6
  cases e9
  have g := ride2 (fu := fu) ho hfu h2 (by rw [h3]; exact hc) x' I9' y' J' (by unfold f_C_ride; exact e7) e8
  exact ⟨g.1, g.2.1, ⟨g.2.2.1, g.2.2.2.1⟩, by rw [g.2.2.2.2.1, h3]⟩
theorem turns2 (ho : OCH oc hb) (hfu : 5000000000 < fu) (n : Int) (hn : n ≤ 60) : ∀ (m m2 i : Nat) (w : Int) (I J : IMem), (i : Int) ≤ 60 → HG hb I J → J 1 70 + 60 < 2000000000 + i → ((i : Int) < n ∨ ZPK J) → pq (f_C_turns_5 fu oc hb n m w (i : Int) I) (f_X_run_16 fu 0 n m2 w (i : Int) J) (fun x I' y J' => x = y ∧ HG hb I' J' ∧ ZPK J') := by
  intro m
  induction m with
  | zero => intro _ _ _ _ _ _ _ _ _; exact pq_nl
  | succ m ih =>
    intro m2 i w I J hi h hc hz
    cases m2 with
    | zero => exact pq_nr
    | succ m2 =>
      show pq (fb_C_turns_5 fu oc hb n (f_C_turns_5 fu oc hb n m) w (i : Int) I) (fb_X_run_16 fu 0 n (f_X_run_16 fu 0 n m2) w (i : Int) J) _
      unfold fb_C_turns_5 fb_X_run_16
      by_cases hin : (i : Int) < n
      · rw [if_pos hin, if_pos hin]
        have w1 : Wq (wr32 ((i : Int) + 1)) (((i + 1 : Nat) : Int)) := by show wr32 ((i : Int) + 1) = ((i + 1 : Nat) : Int); rw [wr32_i2 (by omega) (by omega)]; rfl
        simp only [zl_e]
        rw [w1.e]
        clear w1
        intro x I9 y J9 e1 e2
        obtain ⟨v1, I1, e3, e4⟩ := of_zb e1
        obtain ⟨v2, I2, e5, e6⟩ := of_zb e4
        obtain ⟨v3, I3, e7, e8⟩ := of_zb e6
        obtain ⟨y1, J1, e9, e10⟩ := of_zb e2
        have g := turn2 ho hfu h (show J 1 70 < 2000000000 by omega) v3 I3 y1 J1 (by rw [e3]; show zb (f_C_fill fu oc hb I1) _ = _; rw [e5]; show zb (f_C_leave fu oc hb I2) _ = _; rw [e7]; rfl) e9
        obtain ⟨g1, g2, g4, g3⟩ := g
        subst g1
        exact ih m2 (i + 1) (wr32 (w + v3)) I3 J1 (by omega) g2 (by rw [g3]; omega) (Or.inr g4) x I9 y J9 e8 e10
      · rw [if_neg hin, if_neg hin]
        exact pq_end ⟨rfl, h, hz.resolve_left hin⟩
end
/-! both memories together: the whole state -/
/-- of those picked: their seats, how many dear, how many not children -/
def pS (J : IMem) : Nat → Int
  | 0 => 0
  | n + 1 => pS J n + (if J 13 n = 0 then 0 else J 1 (141 + 6 * n))
def pD (J : IMem) : Nat → Int
  | 0 => 0
  | n + 1 => pD J n + (if J 13 n = 0 then 0 else if J 1 (140 + 6 * n + 3) = 2 then 1 else 0)
def pC (J : IMem) : Nat → Int
  | 0 => 0
  | n + 1 => pC J n + (if J 13 n = 0 then 0 else if J 1 (140 + 6 * n + 3) = 1 then 0 else 1)
theorem p_same {J J' : IMem} : ∀ n : Nat, (∀ k, k < n → J' 13 k = J 13 k ∧ (J 13 k ≠ 0 → J' 1 (141 + 6 * k) = J 1 (141 + 6 * k) ∧ J' 1 (140 + 6 * k + 3) = J 1 (140 + 6 * k + 3))) → pS J' n = pS J n ∧ pD J' n = pD J n ∧ pC J' n = pC J n := by
  intro n
  induction n with
  | zero => intro _; exact ⟨rfl, rfl, rfl⟩
  | succ n ih =>
    intro h
    obtain ⟨i1, i2, i3⟩ := ih (fun k hk => h k (by omega))
    obtain ⟨a, b⟩ := h n (by omega)
    refine ⟨?_, ?_, ?_⟩
    · show pS J' n + _ = pS J n + _
      rw [i1, a]
      by_cases q : J 13 n = 0
      · rw [if_pos q, if_pos q]
      · rw [if_neg q, if_neg q, (b q).1]
    · show pD J' n + _ = pD J n + _
      rw [i2, a]
      by_cases q : J 13 n = 0
      · rw [if_pos q, if_pos q]
      · rw [if_neg q, if_neg q, (b q).2]
    · show pC J' n + _ = pC J n + _
      rw [i3, a]
      by_cases q : J 13 n = 0
      · rw [if_pos q, if_pos q]
      · rw [if_neg q, if_neg q, (b q).2]
theorem p_zero {J : IMem} (h : ∀ k, k < 240 → J 13 k = 0) : ∀ n : Nat, n ≤ 240 → pS J n = 0 ∧ pD J n = 0 ∧ pC J n = 0 := by
  intro n
  induction n with
  | zero => intro _; exact ⟨rfl, rfl, rfl⟩
  | succ n ih =>
    intro hn
    obtain ⟨i1, i2, i3⟩ := ih (by omega)
    refine ⟨?_, ?_, ?_⟩
    · show pS J n + _ = 0
      rw [i1, if_pos (h n (by omega))]; rfl
    · show pD J n + _ = 0
      rw [i2, if_pos (h n (by omega))]; rfl
    · show pC J n + _ = 0
      rw [i3, if_pos (h n (by omega))]; rfl
/-- who is picked, on both sides -/
def PKR (I J : IMem) : Prop :=
  (I 137 9 = 0 ∧ I 137 8 = J 0 35 ∧ 0 ≤ J 0 35 ∧ 0 ≤ I 137 7 ∧ I 137 7 + J 0 35 ≤ 8) ∧
  (∀ k, k < 240 → (I 138 k = 0 ∧ J 13 k = 0) ∨ (I 138 k = 1 ∧ J 13 k = 1 ∧ INL J k ∧ 1 ≤ J 1 (141 + 6 * k) ∧ J 1 (141 + 6 * k) ≤ 8)) ∧
  (∀ i : Nat, (i : Int) < J 0 35 → ∃ k : Nat, INL J k ∧ J 15 i = k ∧ I 139 i = k ∧ I 140 i = J 1 (141 + 6 * k) ∧ J 13 k = 1) ∧
  (∀ i j : Nat, (i : Int) < J 0 35 → (j : Int) < J 0 35 → J 15 i = J 15 j → i = j) ∧
  (∀ k, k < 240 → J 13 k = 1 → ∃ i : Nat, (i : Int) < J 0 35 ∧ J 15 i = (k : Int)) ∧
  (J 1 1 = I 137 7 + sm (I 140) (J 0 35).toNat ∧ J 1 1 = I 137 7 + pS J 240) ∧
  ((I 137 10 = 0 ∧ pD J 240 = 0) ∨ (I 137 10 = 1 ∧ 0 < pD J 240)) ∧
  ((I 137 11 = 0 ∧ pC J 240 = 0) ∨ (I 137 11 = 1 ∧ 0 < pC J 240))
theorem pk_zero {I J : IMem} (h13 : ∀ k, k < 240 → J 13 k = 0) (h35 : J 0 35 = 0) (hs : 2 ≤ J 1 1 ∧ J 1 1 ≤ 8) (hm : ∀ k, k < 240 → I 138 k = 0) (h : I 137 7 = J 1 1 ∧ I 137 8 = 0 ∧ I 137 9 = 0 ∧ I 137 10 = 0 ∧ I 137 11 = 0) : PKR I J := by
  obtain ⟨h7, h8, h9, h10, h11⟩ := h
  obtain ⟨z1, z2, z3⟩ := p_zero h13 240 (Nat.le_refl _)
  refine ⟨⟨h9, by rw [h8, h35], by rw [h35]; decide, by omega, by omega⟩, fun k hk => Or.inl ⟨hm k hk, h13 k hk⟩, fun i hi => ?_, fun i j hi => ?_, fun k hk q => ?_, ⟨?_, ?_⟩, Or.inl ⟨h10, z2⟩, Or.inl ⟨h11, z3⟩⟩
  · rw [h35] at hi; omega
  · rw [h35] at hi; omega
  · rw [h13 k hk] at q; exact absurd q (by decide)
  · rw [h35, h7]
    show J 1 1 = J 1 1 + 0
    omega
  · rw [z1, h7]; omega
/-- the picks stay, if the rows of those who stand stay -/
theorem pk_mv {I J I' J' : IMem} (h : PKR I J) (h1 : ∀ q j, (q = 137 ∧ 7 ≤ j ∧ j ≤ 11) ∨ q = 138 ∨ q = 139 ∨ q = 140 → I' q j = I q j) (h2 : ∀ q j, (q = 13 ∧ j < 240) ∨ (q = 15 ∧ j < 8) ∨ (q = 0 ∧ j = 35) ∨ (q = 1 ∧ j = 1) → J' q j = J q j) (h3 : ∀ k, INL J k → INL J' k ∧ J' 1 (141 + 6 * k) = J 1 (141 + 6 * k) ∧ J' 1 (140 + 6 * k + 3) = J 1 (140 + 6 * k + 3)) : PKR I' J' := by
  obtain ⟨⟨a1, a2, a3, a4, a5⟩, b, c, d, e, ⟨f1, f2⟩, g, k⟩ := h
  have w35 := h2 0 35 (by omega)
  have p := p_same (J := J) (J' := J') 240 (fun k hk => ⟨h2 13 k (by omega), fun q => by
    rcases b k hk with ⟨_, x⟩ | ⟨_, _, x, _⟩
    · exact absurd x q
    · exact (h3 k x).2⟩)
  refine ⟨⟨?_, ?_, ?_, ?_, ?_⟩, fun k hk => ?_, fun i hi => ?_, fun i j hi hj q => ?_, fun k hk q => ?_, ⟨?_, ?_⟩, ?_, ?_⟩
  · rw [h1 _ _ (by omega)]; exact a1
  · rw [h1 _ _ (by omega), w35]; exact a2
  · rw [w35]; exact a3
  · rw [h1 _ _ (by omega)]; exact a4
  · rw [h1 _ _ (by omega), w35]; exact a5
  · rw [h1 _ _ (by omega), h2 13 k (by omega)]
    rcases b k hk with x | ⟨x1, x2, x3, x4, x5⟩
    · exact Or.inl x
    · obtain ⟨y1, y2, _⟩ := h3 k x3
      exact Or.inr ⟨x1, x2, y1, by rw [y2]; exact x4, by rw [y2]; exact x5⟩
  · rw [w35] at hi
    obtain ⟨k, k1, k2, k3, k4, k5⟩ := c i hi
    obtain ⟨y1, y2, _⟩ := h3 k k1
    refine ⟨k, y1, ?_, ?_, ?_, ?_⟩
    · rw [h2 15 i (by omega)]; exact k2
    · rw [h1 _ _ (by omega)]; exact k3
    · rw [h1 _ _ (by omega), y2]; exact k4
    · rw [h2 13 k (by have := k1.1; omega)]; exact k5
  · rw [w35] at hi hj
    rw [h2 15 i (by omega), h2 15 j (by omega)] at q
    exact d i j hi hj q
  · rw [h2 13 k (by omega)] at q
    obtain ⟨i, i1, i2⟩ := e k hk q
    exact ⟨i, by rw [w35]; exact i1, by rw [h2 15 i (by omega)]; exact i2⟩
  · rw [h2 1 1 (by omega), h1 137 7 (by omega), w35, sm_eq (c := I 140) _ (fun i _ => h1 _ _ (by omega))]; exact f1
  · rw [h2 1 1 (by omega), h1 137 7 (by omega), p.1]; exact f2
  · rw [h1 137 10 (by omega), p.2.1]; exact g
  · rw [h1 137 11 (by omega), p.2.2]; exact k
/-- what stays in the dream's draft and in the reader's law -/
def HZ (I : IMem) : Prop := I 96 4 = 0 ∧ I 96 5 = 0 ∧ I 151 0 = 0
/-- the relation for every call -/
def RJ (I J : IMem) : Prop := HX 1 I J ∧ I 1 11 = -1 ∧ I 0 8 = J 0 3 ∧ (J 0 3 ≠ 0 → HR 41 2 I J ∧ I 41 11 = -1) ∧ HZ I ∧ PKR I J ∧ RTp I J ∧ RFt I J
theorem rj_mv {I J I' J' : IMem} (h : RJ I J) (hX : HX 1 I' J') (hz : I' 1 11 = I 1 11) (h1 : ∀ q j, (q = 0 ∧ j = 8) ∨ (41 ≤ q ∧ q ≤ 80) ∨ (q = 96 ∧ (j = 4 ∨ j = 5)) ∨ (q = 151 ∧ j = 0) → I' q j = I q j) (h2 : ∀ q j, (q = 0 ∧ j = 3) ∨ q = 2 → J' q j = J q j) (hP : PKR I' J') (hT : RTp I' J') (hF : RFt I' J') : RJ I' J' := by
  obtain ⟨_, a, b, c, d, _, _, _⟩ := h
  refine ⟨hX, hz.trans a, ?_, fun q => ?_, ⟨?_, ?_, ?_⟩, hP, hT, hF⟩
  · rw [h1 _ _ (by omega), h2 _ _ (by omega)]; exact b
  · rw [h2 _ _ (by omega)] at q
    obtain ⟨c1, c2⟩ := c q
    exact ⟨hr_mv c1 (fun d j hd => h1 _ _ (by unfold CH at hd; omega)) (fun j _ => h2 _ _ (by omega)), by rw [h1 _ _ (by omega)]; exact c2⟩
  · rw [h1 _ _ (by omega)]; exact d.1
  · rw [h1 _ _ (by omega)]; exact d.2.1
  · rw [h1 _ _ (by omega)]; exact d.2.2
/-- what a call that leaves the hill, the picks, the text alone may touch -/
theorem rj_same {I J I' J' : IMem} (h : RJ I J) (h1 : ∀ q j, (q = 0 ∧ j = 8) ∨ (1 ≤ q ∧ q ≤ 80 ∧ q ≠ 14 ∧ ¬ (16 ≤ q ∧ q ≤ 40 ∧ q % 5 = 0)) ∨ (q = 96 ∧ (j = 4 ∨ j = 5)) ∨ (137 ≤ q ∧ q ≤ 140) ∨ q = 144 ∨ q = 145 ∨ (q = 151 ∧ j = 0) → I' q j = I q j) (h2 : ∀ q j, (q = 0 ∧ (j = 3 ∨ j = 12 ∨ j = 19 ∨ j = 21 ∨ j = 22 ∨ j = 35)) ∨ q = 1 ∨ q = 2 ∨ q = 6 ∨ q = 13 ∨ q = 15 → J' q j = J q j) : RJ I' J' := by
  have h' := h
  obtain ⟨⟨hR, hz, hA⟩, a, b, c, d, e, ⟨L, t1, t2, t3, t4⟩, f⟩ := h'
  refine rj_mv h ⟨hr_mv hR (fun d j q => h1 _ _ (by unfold CH at q; omega)) (fun j _ => h2 _ _ (by omega)), ?_, ?_, ?_⟩ (h1 _ _ (by omega)) (fun q j q => h1 _ _ (by omega)) (fun q j q => h2 _ _ (by omega)) (pk_mv e (fun q j q => h1 _ _ (by omega)) (fun q j q => h2 _ _ (by omega)) (fun k hk => ⟨⟨hk.1, by rw [h2 1 _ (by omega)]; exact hk.2⟩, h2 1 _ (by omega), h2 1 _ (by omega)⟩)) ⟨L, t1, ?_, ?_, fun j hj => ?_⟩ ⟨?_, ?_⟩
  · rw [h1 _ _ (by omega), h2 _ _ (by omega)]; exact hz
  · rw [h1 _ _ (by omega)]; exact hA.1
  · rw [h1 _ _ (by omega)]; exact hA.2
  · rw [h1 _ _ (by omega)]; exact t2
  · rw [h2 _ _ (by omega)]; exact t3
  · rw [h1 _ _ (by omega), h2 _ _ (by omega)]; exact t4 j hj
  · rw [h1 _ _ (by omega), h2 _ _ (by omega)]; exact f.1
  · rw [h1 _ _ (by omega), h2 _ _ (by omega)]; exact f.2
/-! calls that tell one thing: both sides -/
def MTC (o j c : Nat) : Prop := (o = 1 ∧ j = 6 ∧ c = 0) ∨ (o = 2 ∧ 1 ≤ j ∧ j < 6 ∧ c = 1 + j) ∨ (o = 10 ∧ j < 6 ∧ c = 10 + j) ∨ (o = 4 ∧ 1 ≤ j ∧ j ≤ 8 ∧ c = 16 + j) ∨ (o = 5 ∧ j < 32 ∧ c = 26 + j) ∨ (o = 6 ∧ 1 ≤ j ∧ j ≤ 8 ∧ c = 60 + j)
theorem hs_cell {I J I' J' : IMem} {o j c : Nat} {v : Int} (h : HS 1 1 I J) (hm : MTC o j c ∨ (o = 2 ∧ j = 0 ∧ c = 1)) (hI : ∀ q i, (1 ≤ q ∧ q ≤ 10) → I' q i = if q = o ∧ i = j then v else I q i) (hJ : ∀ i, i < 70 → J' 1 i = if i = c then v else J 1 i) : HS 1 1 I' J' := by
  unfold MTC at hm
  obtain ⟨a1, a2, a3, a4, a5, a6, a7⟩ := h
  have key : ∀ (q i k : Nat), 1 ≤ q → q ≤ 10 → k < 70 → ((q = o ∧ i = j) ↔ k = c) → I q i = J 1 k → I' q i = J' 1 k := by
    intro q i k h1 h2 h3 h4 h5
    rw [hI q i ⟨h1, h2⟩, hJ k h3]
    by_cases z : q = o ∧ i = j
    · rw [if_pos z, if_pos (h4.mp z)]
    · rw [if_neg z, if_neg (fun y => z (h4.mpr y))]; exact h5
  refine ⟨fun k hk => ?_, ?_, ?_, fun k hk => ?_, fun k h3 h4 => ?_, fun k hk => ?_, fun k h3 h4 => ?_⟩
  · exact key _ _ _ (by omega) (by omega) (by omega) (by omega) (a1 k hk)
  · exact key _ _ _ (by omega) (by omega) (by omega) (by omega) a2
  · exact key _ _ _ (by omega) (by omega) (by omega) (by omega) a3
  · exact key _ _ _ (by omega) (by omega) (by omega) (by omega) (a4 k hk)
  · exact key _ _ _ (by omega) (by omega) (by omega) (by omega) (a5 k h3 h4)
  · exact key _ _ _ (by omega) (by omega) (by omega) (by omega) (a6 k hk)
  · exact key _ _ _ (by omega) (by omega) (by omega) (by omega) (a7 k h3 h4)
theorem rj_cell {I J I' J' : IMem} {o j c : Nat} {v : Int} (h : RJ I J) (hm : MTC o j c) (hI : ∀ q i, I' q i = if q = o ∧ i = j then v else I q i) (hJ : ∀ q i, J' q i = if q = 1 ∧ i = c then v else J q i) : RJ I' J' := by
  have hm' := hm
  unfold MTC at hm'
  have h' := h
  obtain ⟨⟨⟨hS, hY, hP, hL, hW⟩, hz, hA⟩, a, b, cc, d, e, ⟨L, t1, t2, t3, t4⟩, f⟩ := h'
  have io : ∀ q i, ¬ (q = o ∧ i = j) → I' q i = I q i := fun q i a => by rw [hI, if_neg a]
  have jo : ∀ q i, ¬ (q = 1 ∧ i = c) → J' q i = J q i := fun q i a => by rw [hJ, if_neg a]
  refine rj_mv h ⟨⟨hs_cell hS (Or.inl hm) (fun q i _ => hI q i) (fun i _ => ?_), hy_mv hY (fun j => io _ _ (by omega)) (fun j _ _ => jo _ _ (by omega)), hp_mv hP (fun j => ⟨io _ _ (by omega), io _ _ (by omega)⟩) (fun j _ => jo _ _ (by omega)), hl_mv hL (fun j => ⟨io _ _ (by omega), io _ _ (by omega)⟩) (fun j _ _ => jo _ _ (by omega)), hw_mv hW (fun d j _ _ _ => io _ _ (by omega)) (fun j _ _ => jo _ _ (by omega))⟩, ?_, ?_, ?_⟩ (io _ _ (by omega)) (fun q j _ => io _ _ (by omega)) (fun q j _ => jo _ _ (by omega)) (pk_mv e (fun q j _ => io _ _ (by omega)) (fun q j _ => jo _ _ (by omega)) (fun k hk => ⟨⟨hk.1, by rw [jo _ _ (by omega)]; exact hk.2⟩, jo _ _ (by omega), jo _ _ (by omega)⟩)) ⟨L, t1, ?_, ?_, fun i hi => ?_⟩ ⟨?_, ?_⟩
  · rw [hJ]
    by_cases z : i = c
    · rw [if_pos ⟨rfl, z⟩, if_pos z]
    · rw [if_neg (fun y => z y.2), if_neg z]
  · rw [io _ _ (by omega), jo _ _ (by omega)]; exact hz
  · rw [io _ _ (by omega)]; exact hA.1
  · rw [io _ _ (by omega)]; exact hA.2
  · rw [io _ _ (by omega)]; exact t2
  · rw [jo _ _ (by omega)]; exact t3
  · rw [io _ _ (by omega), jo _ _ (by omega)]; exact t4 i hi
  · rw [io _ _ (by omega), jo _ _ (by omega)]; exact f.1
  · rw [io _ _ (by omega), jo _ _ (by omega)]; exact f.2
theorem ne10 : ¬ (1 : Int) = 0 := by decide
theorem eq00 : (0 : Int) = 0 := rfl
theorem out2 {a b : Prop} [Decidable a] [Decidable b] {X Y : Res} (h : a ∨ b) : (if a then X else if b then X else Y) = X := by
  by_cases p : a
  · rw [if_pos p]
  · rw [if_neg p, if_pos (h.resolve_left p)]
def EQJ (x : Int) (I : IMem) (y : Int) (J : IMem) : Prop := RJ I J ∧ x = y
section
variable {fu : Nat} {I J : IMem}
theorem pj_state (a : Int) (h : RJ I J) : pq (f_S_state fu 0 a I) (f_X_state fu 0 a J) EQJ := by
  unfold f_S_state f_X_state
  simp only [zl_e, Nat.zero_add]
  refine pq_zwl' (fun I1 e1 => pq_zwr' (fun J1 e2 => pq_end ⟨rj_cell h (Or.inl ⟨rfl, rfl, rfl⟩) e1 e2, ?_⟩))
  exact h.1.1.1.2.1
theorem pj_seen (a b : Int) (h : RJ I J) : pq (f_S_seen fu 0 a b I) (f_X_seen fu 0 a b J) EQJ := by
  unfold f_S_seen f_X_seen
  rw [ev_isLine, ev_xLine, zb_zr, zb_zr]
  by_cases h1 : 0 ≤ a ∧ a < 6
  · rw [if_pos h1, if_neg ne10, if_neg ne10, ev_isIn, zb_zr]
    by_cases h2 : 1 ≤ b ∧ b ≤ 24
    · rw [if_neg (show ¬ b < 1 by omega), if_neg (show ¬ 24 < b by omega), if_pos h2, if_neg ne10]
      simp only [zl_e]
      rw [wr32_i2 (x := 10 + a) (by omega) (by omega)]
      refine pq_gl (fun _ => pq_zwl' (fun I1 e1 => pq_gr (fun _ => pq_zwr' (fun J1 e2 => pq_end ⟨rj_cell (o := 10) (j := a.toNat) (c := (10 + a).toNat) h (Or.inr (Or.inr (Or.inl ⟨rfl, by omega, by omega⟩))) e1 e2, rfl⟩))))
    · rw [if_neg h2, if_pos eq00, out2 (a := b < 1) (b := 24 < b) (by omega)]
      exact pq_end ⟨h, rfl⟩
  · rw [if_neg h1, if_pos eq00, if_pos eq00]
    exact pq_end ⟨h, rfl⟩
theorem pj_parts (a b : Int) (ha : inr a) (h : RJ I J) : pq (f_S_parts fu 0 a b I) (f_X_parts fu 0 a b J) EQJ := by
  unfold f_S_parts f_X_parts
  unfold inr at ha
  rw [ev_isIn, zb_zr]
  by_cases h1 : 2 ≤ a ∧ a ≤ 8
  · rw [if_neg (show ¬ a < 2 by omega), if_neg (show ¬ 8 < a by omega), if_pos h1, if_neg ne10, ev_isIn, zb_zr, wr32_i2 (x := a - 1) (by omega) (by omega)]
    by_cases h2 : 0 ≤ b ∧ b ≤ a - 1
    · rw [if_neg (show ¬ b < 0 by omega), if_pos (show b < a by omega), if_pos h2, if_neg ne10]
      simp only [zl_e]
      rw [wr32_i2 (x := 16 + a) (by omega) (by omega)]
      refine pq_gl (fun _ => pq_zwl' (fun I1 e1 => pq_gr (fun _ => pq_zwr' (fun J1 e2 => pq_end ⟨rj_cell (o := 4) (j := a.toNat) (c := (16 + a).toNat) h (Or.inr (Or.inr (Or.inr (Or.inl ⟨rfl, by omega, by omega, by omega⟩)))) e1 e2, rfl⟩))))
    · rw [if_neg h2, if_pos eq00]
      by_cases h3 : b < 0
      · rw [if_pos h3]; exact pq_end ⟨h, rfl⟩
      · rw [if_neg h3, if_neg (show ¬ b < a by omega)]; exact pq_end ⟨h, rfl⟩
  · rw [if_neg h1, if_pos eq00, out2 (a := a < 2) (b := 8 < a) (by omega)]
    exact pq_end ⟨h, rfl⟩
theorem ev_canBe (a b c : Int) (I : IMem) : f_S_canBe fu a b c I = zr (if 1 ≤ a ∧ a ≤ 8 ∧ 1 ≤ b ∧ b ≤ a ∧ 0 ≤ c ∧ c ≤ 3 then 1 else 0) I := by
  unfold f_S_canBe
  by_cases h : 1 ≤ a ∧ a ≤ 8 ∧ 1 ≤ b ∧ b ≤ a ∧ 0 ≤ c ∧ c ≤ 3
  · rw [if_neg (show ¬ a < 1 by omega), if_neg (show ¬ 8 < a by omega), if_neg (show ¬ b < 1 by omega), if_neg (show ¬ a < b by omega), if_neg (show ¬ c < 0 by omega), if_neg (show ¬ 3 < c by omega), if_pos h]
  · rw [if_neg h]
    by_cases h1 : a < 1
    · rw [if_pos h1]
    · rw [if_neg h1]
      by_cases h2 : 8 < a
      · rw [if_pos h2]
      · rw [if_neg h2]
        by_cases h3 : b < 1
        · rw [if_pos h3]
        · rw [if_neg h3]
          by_cases h4 : a < b
          · rw [if_pos h4]
          · rw [if_neg h4]
            by_cases h5 : c < 0
            · rw [if_pos h5]
            · rw [if_neg h5, if_pos (by omega)]
theorem ev_isGroup (a b c : Int) (J : IMem) : f_X_isGroup fu a b c J = zr (if 1 ≤ a ∧ a ≤ 8 ∧ 1 ≤ b ∧ b ≤ a ∧ 0 ≤ c ∧ c ≤ 3 then 1 else 0) J := by
  unfold f_X_isGroup
  rw [ev_isIn, zb_zr]
  by_cases h1 : 1 ≤ a ∧ a ≤ 8
  · rw [if_pos h1, if_neg ne10, ev_isIn, zb_zr]
    by_cases h2 : 1 ≤ b ∧ b ≤ a
    · rw [if_pos h2, if_neg ne10, ev_isIn, zb_zr]
      by_cases h3 : 0 ≤ c ∧ c ≤ 3
      · rw [if_pos h3, if_neg ne10, if_pos ⟨h1.1, h1.2, h2.1, h2.2, h3⟩]
      · rw [if_neg h3, if_pos eq00, if_neg (fun q => h3 q.2.2.2.2)]
    · rw [if_neg h2, if_pos eq00, if_neg (fun q => h2 ⟨q.2.2.1, q.2.2.2.1⟩)]
  · rw [if_neg h1, if_pos eq00, if_neg (fun q => h1 ⟨q.1, q.2.1⟩)]
end
/-! calls that tell or set one thing, further: both sides -/
section
variable {fu : Nat} {I J : IMem}
theorem pj_told (a : Int) (h : RJ I J) : pq (f_S_told fu 0 a I) (f_X_told fu 0 a J) EQJ := by
  have hS : HS 1 1 I J := h.1.1.1
  have hP : PKR I J := h.2.2.2.2.2.1
  unfold f_S_told f_X_told
  rw [ev_isIn, zb_zr]
  simp only [zl_e, zj_e]
  by_cases q : 0 ≤ a ∧ a ≤ 5
  · rw [if_neg (show ¬ a < 0 by omega), if_neg (show ¬ 5 < a by omega), if_pos q, if_neg ne10, wr32_i2 (x := 1 + a) (by omega) (by omega)]
    refine pq_gl (fun _ => pq_gr (fun _ => pq_end ⟨h, ?_⟩))
    have e := hS.1 a.toNat (by omega)
    rw [show (1 + a).toNat = 1 + a.toNat by omega]
    exact e
  · rw [if_neg q, if_pos eq00, out2 (a := a < 0) (b := 5 < a) (by omega)]
    refine pq_ii Iff.rfl (fun _ _ => pq_end ⟨h, hP.1.2.1⟩) (fun _ _ => pq_ii Iff.rfl (fun _ _ => pq_end ⟨h, hS.2.2.1⟩) (fun _ _ => pq_ii Iff.rfl (fun _ _ => pq_end ⟨h, hS.2.1⟩) (fun _ _ => pq_end ⟨h, rfl⟩)))
/-- the people of a line's first groups -/
def lsum (J : IMem) (l : Nat) : Nat → Int
  | 0 => 0
  | n + 1 => lsum J l n + J 1 (141 + 6 * (40 * l + n))
def LZ (J : IMem) (l n : Nat) : Prop := ∀ p, p < n → 1 ≤ J 1 (141 + 6 * (40 * l + p)) ∧ J 1 (141 + 6 * (40 * l + p)) ≤ 8
theorem lsum_b {l : Nat} : ∀ n : Nat, LZ J l n → 0 ≤ lsum J l n ∧ lsum J l n ≤ 8 * (n : Int) := by
  intro n
  induction n with
  | zero => intro _; exact ⟨Int.le_refl _, Int.le_refl _⟩
  | succ n ih =>
    intro hz
    obtain ⟨i1, i2⟩ := ih (fun p hp => hz p (by omega))
    obtain ⟨z1, z2⟩ := hz n (by omega)
    have e : lsum J l (n + 1) = lsum J l n + J 1 (141 + 6 * (40 * l + n)) := rfl
    omega
theorem lz_of (hg : GX 0 J) {l n : Nat} (hl : l < 6) (hn : J 1 (130 + l) = (n : Int)) : LZ J l n ∧ n ≤ 40 := by
  obtain ⟨_, hw, _, _, _⟩ := hg
  obtain ⟨_, _, _, _, _, w6, w7, _, _⟩ := hw
  refine ⟨fun p hp => w7 l p hl ?_, ?_⟩
  · show (p : Int) < J 1 (130 + l)
    omega
  · have e : 0 ≤ J 1 (130 + l) ∧ J 1 (130 + l) ≤ 40 := w6 l hl
    omega
theorem w_row (l p : Nat) (hl : l < 6) (hp : p < 41) : wr32 (wr32 ((l : Int) * 40) + (p : Int)) = ((40 * l + p : Nat) : Int) := by
  rw [wr32_i2 (x := (l : Int) * 40) (by omega) (by omega), wr32_i2 (by omega) (by omega)]; omega
theorem w_130 (l : Nat) (hl : l < 6) : wr32 (130 + (l : Int)) = ((130 + l : Nat) : Int) := by
  rw [wr32_i2 (by omega) (by omega)]; omega
theorem w_nx (p : Nat) (hp : p < 1000) : wr32 ((p : Int) + 1) = ((p + 1 : Nat) : Int) := by
  rw [wr32_i2 (by omega) (by omega)]; omega
theorem cv_people {l n : Nat} (hL : HL 1 1 I J) (hl : l < 6) (hn : J 1 (130 + l) = (n : Int)) (n40 : n ≤ 40) (hz : LZ J l n) : ∀ (m p : Nat), p ≤ n → par (f_L_people_11 fu 7 (l : Int) (n : Int) m (lsum J l p) (p : Int) I) (fun v I' => I' = I ∧ v = lsum J l n) := by
  intro m
  induction m with
  | zero => intro _ _; exact par_none
  | succ m ih =>
    intro p hp
    show par (fb_L_people_11 fu 7 (l : Int) (n : Int) (f_L_people_11 fu 7 (l : Int) (n : Int) m) (lsum J l p) (p : Int) I) _
    unfold fb_L_people_11
    by_cases q : p < n
    · rw [if_pos (show (p : Int) < (n : Int) by omega), w_row l p hl (by omega), ev_get1 fu 7 _ I (by omega), zb_zr]
      have c1 : I (7 + 1) (6 * (40 * l + p) + 1) = J 1 (141 + 6 * (40 * l + p)) := (hl_r hL hl (show (p : Int) < J 1 (130 + l) by omega) (show 1 < 6 by decide)).trans (congrArg (J 1) (by omega))
      obtain ⟨b1, b2⟩ := lsum_b (J := J) (l := l) p (fun i hi => hz i (by omega))
      obtain ⟨z1, z2⟩ := hz p q
      rw [c1]
      simp only [zl_e]
      rw [w_nx p (by omega), wr32_i2 (x := lsum J l p + J 1 (141 + 6 * (40 * l + p))) (by omega) (by omega)]
      exact ih (p + 1) q
    · rw [if_neg (show ¬ (p : Int) < (n : Int) by omega)]
      have : p = n := by omega
      subst this
      exact par_zr ⟨rfl, rfl⟩
theorem xv_line2 {Q : Int → IMem → Prop} (kk : Int → IMem → Res) (p2 : Int) {l n : Nat} (hl : l < 6) (hn : J 1 (130 + l) = (n : Int)) (n40 : n ≤ 40) (hz : LZ J l n) (hend : par (kk (lsum J l n) J) Q) : ∀ (m p : Nat), p ≤ n → par (f_X_line_23 fu kk 0 (l : Int) p2 m (lsum J l p) (p : Int) J) Q := by
  intro m
  induction m with
  | zero => intro _ _; exact par_none
  | succ m ih =>
    intro p hp
    show par (fb_X_line_23 fu kk 0 (l : Int) p2 (f_X_line_23 fu kk 0 (l : Int) p2 m) (lsum J l p) (p : Int) J) _
    unfold fb_X_line_23
    simp only [zl_e]
    rw [w_130 l hl]
    refine par_zg (fun _ => ?_)
    rw [show J (0 + 1) ((130 + l : Nat) : Int).toNat = (n : Int) from hn]
    by_cases q : p < n
    · rw [if_pos (show (p : Int) < (n : Int) by omega), ev_of1 fu 0 l p J hl (by omega), zb_zr]
      have c1 : J (0 + 1) (140 + 6 * (40 * l + p) + 1) = J 1 (141 + 6 * (40 * l + p)) := congrArg (J 1) (by omega)
      obtain ⟨b1, b2⟩ := lsum_b (J := J) (l := l) p (fun i hi => hz i (by omega))
      obtain ⟨z1, z2⟩ := hz p q
      rw [c1, w_nx p (by omega), wr32_i2 (x := lsum J l p + J 1 (141 + 6 * (40 * l + p))) (by omega) (by omega)]
      exact ih (p + 1) q
    · rw [if_neg (show ¬ (p : Int) < (n : Int) by omega)]
      have : p = n := by omega
      subst this
      exact hend
theorem pj_line (a b : Int) (h : RJ I J) (hg : GX 0 J) : pq (f_S_line fu 0 a b I) (f_X_line fu 0 a b J) EQJ := by
  have hL : HL 1 1 I J := h.1.1.2.2.2.1
  unfold f_S_line f_X_line
  rw [ev_isLine, ev_xLine, zb_zr, zb_zr]
  by_cases h1 : 0 ≤ a ∧ a < 6
  · rw [if_pos h1, if_neg ne10, if_neg ne10, ev_isIn, zb_zr]
    by_cases h2 : 0 ≤ b ∧ b ≤ 1
    · rw [if_neg (show ¬ b < 0 by omega), if_neg (show ¬ 1 < b by omega), if_pos h2, if_neg ne10]
      obtain ⟨l, rfl⟩ : ∃ l : Nat, a = (l : Int) := ⟨a.toNat, by omega⟩
      have hl : l < 6 := by omega
      obtain ⟨c1, c2, c3⟩ := hl_c hL hl
      obtain ⟨n, hn⟩ : ∃ n : Nat, J 1 (130 + l) = (n : Int) := ⟨(J 1 (130 + l)).toNat, by omega⟩
      obtain ⟨hz, n40⟩ := lz_of hg hl hn
      by_cases h3 : b = 0
      · rw [if_pos h3]
        refine pq_gl (fun _ => pq_r ?_)
        refine xv_line2 _ b hl hn n40 hz ?_ fu 0 (Nat.zero_le _)
        rw [if_pos h3]
        simp only [zl_e]
        rw [w_130 l hl]
        exact par_zg (fun _ => par_zr ⟨h, c1⟩)
      · rw [if_neg h3]
        unfold f_L_people
        rw [ev_countOf fu (0 + 7) l I hl (show I 9 l ≤ 40 by have : I 9 l = J 1 (130 + l) := c1; omega), zb_zr, show I (0 + 7 + 2) l = (n : Int) from c1.trans hn]
        refine pq_bl (cv_people hL hl hn n40 hz fu 0 (Nat.zero_le _)) (fun x I1 _ ⟨g1, g2⟩ => pq_r ?_)
        refine xv_line2 _ b hl hn n40 hz ?_ fu 0 (Nat.zero_le _)
        rw [if_neg h3, g1, g2]
        exact par_zr ⟨h, rfl⟩
    · rw [if_neg h2, if_pos eq00, out2 (a := b < 0) (b := 1 < b) (by omega)]
      exact pq_end ⟨h, rfl⟩
  · rw [if_neg h1, if_pos eq00, if_pos eq00]
    exact pq_end ⟨h, rfl⟩
theorem fold2 {l n : Nat} {wd pl : Int} (h : RJ I J) (hl : l < 6) (hn : J 1 (130 + l) = (n : Int)) (n40 : n ≤ 40) (hz : LZ J l n) (hw : 1 ≤ wd ∧ wd ≤ 40) : ∀ (m m2 p : Nat) (w f u : Int), p ≤ n → f = wd - u → 0 ≤ u → u ≤ wd → pq (f_L_rowOf_16 fu 7 (l : Int) wd pl (n : Int) m w f (p : Int) I) (f_X_folded_48 fu 0 (l : Int) wd pl m2 w u (p : Int) J) EQJ := by
  have hL : HL 1 1 I J := h.1.1.2.2.2.1
  intro m
  induction m with
  | zero => intro _ _ _ _ _ _ _ _ _; exact pq_nl
  | succ m ih =>
    intro m2
    cases m2 with
    | zero => intro _ _ _ _ _ _ _ _; exact pq_nr
    | succ m2 =>
      intro p w f u hp hf u0 u1
      show pq (fb_L_rowOf_16 fu 7 (l : Int) wd pl (n : Int) (f_L_rowOf_16 fu 7 (l : Int) wd pl (n : Int) m) w f (p : Int) I) (fb_X_folded_48 fu 0 (l : Int) wd pl (f_X_folded_48 fu 0 (l : Int) wd pl m2) w u (p : Int) J) EQJ
      unfold fb_L_rowOf_16 fb_X_folded_48
      simp only [zl_e, zj_e]
      rw [w_130 l hl]
      refine pq_gr (fun _ => ?_)
      rw [show J (0 + 1) ((130 + l : Nat) : Int).toNat = (n : Int) from hn]
      by_cases q : p < n
      · rw [if_pos (show (p : Int) < (n : Int) by omega), if_pos (show (p : Int) < (n : Int) by omega), w_row l p hl (by omega), ev_get1 fu 7 _ I (by omega), zb_zr, ev_of1 fu 0 l p J hl (by omega), zb_zr]
        have c1 : I (7 + 1) (6 * (40 * l + p) + 1) = J 1 (141 + 6 * (40 * l + p)) := (hl_r hL hl (show (p : Int) < J 1 (130 + l) by omega) (show 1 < 6 by decide)).trans (congrArg (J 1) (by omega))
        have c2 : J (0 + 1) (140 + 6 * (40 * l + p) + 1) = J 1 (141 + 6 * (40 * l + p)) := congrArg (J 1) (by omega)
        obtain ⟨z1, z2⟩ := hz p q
        rw [c1, c2]
        generalize hs : J 1 (141 + 6 * (40 * l + p)) = s at z1 z2
        rw [w_nx p (by omega)]
        have fin : ∀ (w' f' u' a' : Int), f' = wd - u' → 0 ≤ u' → u' ≤ wd → pq (if (p : Int) = pl then zr a' I else f_L_rowOf_16 fu 7 (l : Int) wd pl (n : Int) m w' f' ((p + 1 : Nat) : Int) I) (if (p : Int) = pl then zr a' J else f_X_folded_48 fu 0 (l : Int) wd pl m2 w' u' ((p + 1 : Nat) : Int) J) EQJ := fun w' f' u' a' e1 e2 e3 => pq_ii Iff.rfl (fun _ _ => pq_end ⟨h, rfl⟩) (fun _ _ => ih m2 (p + 1) w' f' u' q e1 e2 e3)
        by_cases k1 : wd < s
        · rw [if_pos (show f < s by omega), if_pos k1, if_pos (show 0 < wd by omega), if_pos k1]
          refine pq_gl (fun _ => pq_gr (fun _ => ?_))
          exact fin _ 0 wd w (by omega) (by omega) (by omega)
        · by_cases k2 : wd < u + s
          · rw [if_pos (show f < s by omega), if_neg k1, if_neg k1, wr32_i2 (x := u + s) (by omega) (by omega), if_pos k2, wr32_i2 (x := wd - s) (by omega) (by omega)]
            exact fin _ (wd - s) s w rfl (by omega) (by omega)
          · rw [if_neg (show ¬ f < s by omega), if_neg k1, wr32_i2 (x := u + s) (by omega) (by omega), if_neg k2, wr32_i2 (x := f - s) (by omega) (by omega)]
            exact fin w (f - s) (u + s) _ (by omega) (by omega) (by omega)
      · rw [if_neg (show ¬ (p : Int) < (n : Int) by omega), if_neg (show ¬ (p : Int) < (n : Int) by omega)]
        exact pq_end ⟨h, rfl⟩
theorem pj_folded (a b c : Int) (h : RJ I J) (hg : GX 0 J) : pq (f_S_folded fu 0 a b c I) (f_X_folded fu 0 a b c J) EQJ := by
  have hL : HL 1 1 I J := h.1.1.2.2.2.1
  unfold f_S_folded f_X_folded
  rw [ev_isLine, ev_xLine, zb_zr, zb_zr]
  by_cases h1 : 0 ≤ a ∧ a < 6
  · rw [if_pos h1, if_neg ne10, if_neg ne10, ev_isIn, zb_zr]
    by_cases h2 : 1 ≤ b ∧ b ≤ 40
    · rw [if_neg (show ¬ b < 1 by omega), if_neg (show ¬ 40 < b by omega), if_pos h2, if_neg ne10]
      obtain ⟨l, rfl⟩ : ∃ l : Nat, a = (l : Int) := ⟨a.toNat, by omega⟩
      have hl : l < 6 := by omega
      obtain ⟨c1, c2, c3⟩ := hl_c hL hl
      obtain ⟨n, hn⟩ : ∃ n : Nat, J 1 (130 + l) = (n : Int) := ⟨(J 1 (130 + l)).toNat, by omega⟩
      obtain ⟨hz, n40⟩ := lz_of hg hl hn
      simp only [zl_e]
      rw [w_130 l hl]
      refine pq_gr (fun _ => ?_)
      rw [show J (0 + 1) ((130 + l : Nat) : Int).toNat = (n : Int) from hn, wr32_i2 (x := (n : Int) - 1) (by omega) (by omega), ev_isIn, zb_zr]
      by_cases h3 : c < -1
      · rw [if_pos h3, if_neg (show ¬ (-1 ≤ c ∧ c ≤ (n : Int) - 1) by omega), if_pos eq00]
        exact pq_end ⟨h, rfl⟩
      · rw [if_neg h3]
        refine pq_gl (fun _ => ?_)
        rw [show I (0 + 9) ((l : Nat) : Int).toNat = (n : Int) from c1.trans hn]
        by_cases h4 : c < (n : Int)
        · rw [if_pos h4, if_pos (show -1 ≤ c ∧ c ≤ (n : Int) - 1 by omega), if_neg ne10]
          unfold f_L_rowOf
          rw [ev_countOf fu (0 + 7) l I hl (show I 9 l ≤ 40 by have : I 9 l = J 1 (130 + l) := c1; omega), zb_zr, show I (0 + 7 + 2) l = (n : Int) from c1.trans hn]
          intro x I' y J' e1 e2
          obtain ⟨x1, I1, a1, a2⟩ := of_zb e1
          cases a2
          exact fold2 h hl hn n40 hz h2 fu fu 0 0 0 b (Nat.zero_le _) (by omega) (by omega) (by omega) x I' y J' a1 e2
        · rw [if_neg h4, if_neg (show ¬ (-1 ≤ c ∧ c ≤ (n : Int) - 1) by omega), if_pos eq00]
          exact pq_end ⟨h, rfl⟩
    · rw [if_neg h2, if_pos eq00, out2 (a := b < 1) (b := 40 < b) (by omega)]
      exact pq_end ⟨h, rfl⟩
  · rw [if_neg h1, if_pos eq00, if_pos eq00]
    exact pq_end ⟨h, rfl⟩
theorem cv_pastAt2 (c : Int) (hc : 0 ≤ c ∧ c < 2147483647) : par (f_H_pastAt fu c I) (fun v I' => I' = I ∧ (v = 3 * (c % 60) ∨ (180 ≤ v ∧ v < 400))) := by
  unfold f_H_pastAt f_JM_floorMod
  simp only [zl_e]
  rw [zg_t (by decide), wrem_i2 (a := c) (c := 60) (by omega) (by omega) (by decide) (by decide)]
  refine par_zb (Q1 := fun v I' => I' = I ∧ (v = c % 60 ∨ v = c % 60 + 60)) ?_ (fun v I' ⟨g1, g2⟩ => par_zr ⟨g1, ?_⟩)
  · refine par_ite (fun _ => par_ite (fun _ => par_zr ⟨rfl, Or.inl rfl⟩) (fun _ => par_zr ⟨rfl, Or.inr ?_⟩)) (fun _ => par_zr ⟨rfl, Or.inl rfl⟩)
    exact wr32_i2 (by omega) (by omega)
  · rcases g2 with g2 | g2
    · left; rw [g2, wr32_i2 (by omega) (by omega)]; omega
    · right; rw [g2, wr32_i2 (by omega) (by omega)]; omega
theorem pj_past (a b : Int) (h : RJ I J) (hc : 0 ≤ J 1 70 ∧ J 1 70 < 2000000000) : pq (f_S_past fu 0 a b I) (f_X_past fu 0 a b J) EQJ := by
  have hY : HY 1 1 I J := h.1.1.2.1
  have hP : HP 1 1 I J := h.1.1.2.2.1
  have t0 : I 11 0 = J 1 70 := hY.1 0 (by decide)
  unfold f_S_past f_X_past
  rw [ev_isIn, zb_zr]
  simp only [zl_e, zj_e]
  by_cases h1 : 0 ≤ a ∧ a ≤ 59
  · rw [if_neg (show ¬ a < 0 by omega), if_pos (show a < 60 by omega), if_pos h1, if_neg ne10, if_neg ne10, show I (0 + 11) 0 = J 1 70 from t0, show J (0 + 1) 70 = J 1 70 from rfl]
    refine pq_ii Iff.rfl (fun q _ => ?_) (fun _ _ => ?_)
    · rw [ev_isIn, zb_zr]
      by_cases h2 : 0 ≤ b ∧ b ≤ 2
      · rw [if_neg (show ¬ b < 0 by omega), if_neg (show ¬ 2 < b by omega), if_pos h2, if_neg ne10]
        unfold f_H_pastChair
        rw [if_neg (show ¬ b < 0 by omega), if_pos (show b < 3 by omega), show I (0 + 1 + 10) 0 = J 1 70 from t0]
        rw [wr32_i2 (x := J 1 70 - 1) (by omega) (by omega), wr32_i2 (x := J 1 70 - 1 - a) (by omega) (by omega), wrem_i2 (a := J 1 70 - 1 - a) (c := 60) (by omega) (by omega) (by decide) (by decide), wr32_i2 (x := 3 * ((J 1 70 - 1 - a) % 60)) (by omega) (by omega), wr32_i2 (x := 6010 + 3 * ((J 1 70 - 1 - a) % 60)) (by omega) (by omega), wr32_i2 (x := 6010 + 3 * ((J 1 70 - 1 - a) % 60) + b) (by omega) (by omega)]
        refine pq_gr (fun _ => pq_l ?_)
        refine par_zb (Q1 := fun v I' => I' = I ∧ v = J 1 (6010 + 3 * ((J 1 70 - 1 - a) % 60) + b).toNat) ?_ (fun v I1 ⟨g1, g2⟩ => par_zr ⟨by rw [g1]; exact h, g2⟩)
        refine par_zb (cv_pastAt2 (J 1 70 - 1 - a) (by omega)) (fun v I1 ⟨g1, g2⟩ => ?_)
        simp only [zl_e]
        rcases g2 with g2 | g2
        · rw [g2, g1, wr32_i2 (x := 3 * ((J 1 70 - 1 - a) % 60) + b) (by omega) (by omega)]
          refine par_zg (fun _ => par_zr ⟨rfl, ?_⟩)
          have e := hP.2.2.2.2 (3 * ((J 1 70 - 1 - a) % 60) + b).toNat (by omega)
          exact e.trans (congrArg (J 1) (by omega))
        · refine par_zg (fun z => ?_)
          rw [wr32_i2 (x := v + b) (by omega) (by omega)] at z
          omega
      · rw [if_neg h2, if_pos eq00]
        by_cases h3 : b < 0
        · rw [if_pos h3, if_pos trivial]; exact pq_end ⟨h, rfl⟩
        · rw [if_neg h3, if_pos (show 2 < b by omega), if_pos trivial]; exact pq_end ⟨h, rfl⟩
    · rw [if_pos trivial]; exact pq_end ⟨h, rfl⟩
  · rw [if_neg h1, if_pos eq00]
    by_cases h3 : a < 0
    · rw [if_pos h3, if_pos trivial]; exact pq_end ⟨h, rfl⟩
    · rw [if_neg h3, if_neg (show ¬ a < 60 by omega), if_pos trivial]; exact pq_end ⟨h, rfl⟩
theorem pj_last (a : Int) (h : RJ I J) (hg : GX 0 J) : pq (f_S_last fu 0 a I) (f_X_last fu 0 a J) EQJ := by
  have hY : HY 1 1 I J := h.1.1.2.1
  obtain ⟨p1, p2, p3, p4, _⟩ : HP 1 1 I J := h.1.1.2.2.1
  have t0 : I 11 0 = J 1 70 := hY.1 0 (by decide)
  have hb : -1 ≤ J 1 110 ∧ J 1 110 ≤ 8 := ⟨hg.2.1.1.2.2.2.2.2.1, hg.2.1.1.2.2.2.2.2.2⟩
  unfold f_S_last f_X_last
  simp only [zl_e, zj_e]
  rw [show J (0 + 1) 110 = J 1 110 from rfl, show I (0 + 11) 0 = J 1 70 from t0]
  by_cases z : J 1 110 = -1
  · rw [if_pos z, if_pos (p1.mp z)]
    by_cases h1 : a < 0
    · rw [if_pos h1]; exact pq_end ⟨h, rfl⟩
    · rw [if_neg h1]
      by_cases h2 : a < 30
      · rw [if_pos h2]; exact pq_end ⟨h, rfl⟩
      · rw [if_neg h2]; exact pq_end ⟨h, rfl⟩
  · have z2 : ¬ J 1 70 = 0 := fun q => z (p1.mpr q)
    have e0 : I 12 0 = J 1 110 := p2 z
    rw [if_neg z, if_neg z2, ev_isIn, zb_zr, wr32_i2 (x := 9 + J 1 110) (by omega) (by omega), show I (0 + 12) 0 = J 1 110 from e0]
    generalize hx : J 1 110 = x at hb z
    by_cases h1 : 0 ≤ a ∧ a < 30
    · rw [if_neg (show ¬ a < 0 by omega), if_pos (show a < 30 by omega)]
      by_cases h2 : a < 10
      · rw [if_pos h2, if_neg (show ¬ (10 ≤ a ∧ a ≤ 9 + x) by omega), if_pos eq00, ev_isIn, zb_zr, wr32_i2 (x := 19 + x) (by omega) (by omega), if_neg (show ¬ (20 ≤ a ∧ a ≤ 19 + x) by omega), if_pos eq00]
        by_cases h3 : a < 2
        · rw [if_pos h3, if_neg ne10]
          refine pq_gl (fun _ => ?_)
          by_cases h4 : a = 0
          · rw [if_pos h4]
            refine pq_end ⟨h, ?_⟩
            rw [h4]
            exact e0.trans hx
          · rw [if_neg h4, if_pos (show a = 1 by omega)]
            refine pq_end ⟨h, ?_⟩
            rw [show a = 1 by omega]
            exact p3
        · rw [if_neg h3, if_pos trivial, if_neg (show ¬ a = 0 by omega), if_neg (show ¬ a = 1 by omega)]
          exact pq_end ⟨h, rfl⟩
      · rw [if_neg h2, wrem_i2 (a := a) (c := 10) (by omega) (by omega) (by decide) (by decide)]
        by_cases h3 : a % 10 < x
        · rw [if_pos h3, if_neg ne10]
          refine pq_gl (fun _ => ?_)
          by_cases h4 : 10 ≤ a ∧ a ≤ 9 + x
          · rw [if_pos h4, if_neg ne10, wr32_i2 (x := 112 + a) (by omega) (by omega), wr32_i2 (x := 112 + a - 10) (by omega) (by omega)]
            refine pq_gr (fun _ => pq_end ⟨h, ?_⟩)
            have e := (p4 (a - 10).toNat (by omega)).1
            rw [show 10 + (a - 10).toNat = a.toNat by omega, show 112 + (a - 10).toNat = (112 + a - 10).toNat by omega] at e
            exact e
          · rw [if_neg h4, if_pos eq00, ev_isIn, zb_zr, wr32_i2 (x := 19 + x) (by omega) (by omega), if_pos (show 20 ≤ a ∧ a ≤ 19 + x by omega), if_neg ne10, wr32_i2 (x := 120 + a) (by omega) (by omega), wr32_i2 (x := 120 + a - 20) (by omega) (by omega)]
            refine pq_gr (fun _ => pq_end ⟨h, ?_⟩)
            have e := (p4 (a - 20).toNat (by omega)).2
            rw [show 20 + (a - 20).toNat = a.toNat by omega, show 120 + (a - 20).toNat = (120 + a - 20).toNat by omega] at e
            exact e
        · rw [if_neg h3, if_pos trivial, if_neg (show ¬ (10 ≤ a ∧ a ≤ 9 + x) by omega), if_pos eq00, ev_isIn, zb_zr, wr32_i2 (x := 19 + x) (by omega) (by omega), if_neg (show ¬ (20 ≤ a ∧ a ≤ 19 + x) by omega), if_pos eq00, if_neg (show ¬ a = 0 by omega), if_neg (show ¬ a = 1 by omega)]
          exact pq_end ⟨h, rfl⟩
    · rw [if_neg (show ¬ (10 ≤ a ∧ a ≤ 9 + x) by omega), if_pos eq00, ev_isIn, zb_zr, wr32_i2 (x := 19 + x) (by omega) (by omega), if_neg (show ¬ (20 ≤ a ∧ a ≤ 19 + x) by omega), if_pos eq00, if_neg (show ¬ a = 0 by omega), if_neg (show ¬ a = 1 by omega)]
      by_cases h2 : a < 0
      · rw [if_pos h2]; exact pq_end ⟨h, rfl⟩
      · rw [if_neg h2, if_neg (show ¬ a < 30 by omega)]; exact pq_end ⟨h, rfl⟩
theorem pj_group (a b c : Int) (h : RJ I J) (hg : GX 0 J) : pq (f_S_group fu 0 a b c I) (f_X_group fu 0 a b c J) EQJ := by
  obtain ⟨hS, hY, hP, hL, hW⟩ : HR 1 1 I J := h.1.1
  have f6 : 0 ≤ J 1 6 ∧ J 1 6 ≤ 3 := ⟨hg.2.1.1.2.2.1, hg.2.1.1.2.2.2.1⟩
  unfold f_S_group f_X_group
  rw [ev_isLine, ev_xLine, zb_zr, zb_zr]
  by_cases h1 : 0 ≤ a ∧ a < 6
  · rw [if_pos h1, if_neg ne10, if_neg ne10, ev_isIn, zb_zr]
    by_cases h2 : 0 ≤ b ∧ b ≤ 39
    · rw [if_neg (show ¬ b < 0 by omega), if_pos (show b < 40 by omega), if_pos h2, if_neg ne10, ev_isIn, zb_zr]
      by_cases h3 : 0 ≤ c ∧ c ≤ 6
      · rw [if_neg (show ¬ c < 0 by omega), if_neg (show ¬ 6 < c by omega), if_pos h3, if_neg ne10]
        obtain ⟨l, rfl⟩ : ∃ l : Nat, a = (l : Int) := ⟨a.toNat, by omega⟩
        obtain ⟨p, rfl⟩ : ∃ p : Nat, b = (p : Int) := ⟨b.toNat, by omega⟩
        have hl : l < 6 := by omega
        obtain ⟨c1, c2, c3⟩ := hl_c hL hl
        simp only [zl_e]
        rw [w_130 l hl, ev_has fu (0 + 7) l p I hl, zb_zr, w_row l p hl (by omega), show I (0 + 7 + 2) l = J 1 (130 + l) from c1]
        refine pq_gr (fun _ => ?_)
        rw [show J (0 + 1) ((130 + l : Nat) : Int).toNat = J 1 (130 + l) from rfl]
        by_cases hp : (p : Int) < J 1 (130 + l)
        · rw [if_pos (show 0 ≤ (p : Int) ∧ (p : Int) < J 1 (130 + l) by omega), if_neg ne10, if_pos hp]
          by_cases h6 : c = 6
          · rw [if_pos h6, if_pos h6]
            obtain ⟨k, hk⟩ : ∃ k : Nat, J 1 6 = (k : Int) := ⟨(J 1 6).toNat, by omega⟩
            have hk4 : k < 4 := by omega
            obtain ⟨law, L1, L2, L3⟩ := hW k (by omega)
            have q5 : I 2 5 = (k : Int) := (hS.1 5 (by decide)).trans hk
            have q0 : I (0 + 2) 0 = J 1 1 := hS.1 0 (by decide)
            rw [q0, show J (0 + 1) 1 = J 1 1 from rfl]
            refine pq_bl (cv_facts (hb := 1) (l := l) (p := p) (left := J 1 1) (taken := 0) (s := (k : Int)) (by omega) hL hl hp) (fun _ I1 _ ⟨g1, g2⟩ => ?_)
            have r5 : I1 (0 + 1 + 1) 5 = (k : Int) := (g1 2 5 (by decide)).trans q5
            rw [ev_law fu (0 + 1) I1 (by rw [r5]; omega), zb_zr, r5]
            refine pq_bl (cv_value (ol := 1 + 15 + 5 * k) (o3 := 14) (s := (k : Int)) (l := law) (F := WF J l p (J 1 1) 0) (fun d hd => by omega) L3 I1 (lc_mv L1 (fun d j hd => g1 _ _ (by omega))) g2) (fun v I2 _ ⟨g3, g4⟩ => pq_r ?_)
            refine par_zb (xv_worth (k := k) (law := law) hl hp c3 hk4 hk L3 L2) (fun y J1 ⟨g5, g6⟩ => par_zr ⟨?_, g3.trans g5.symm⟩)
            refine rj_same h (fun q j hq => ?_) (fun q j hq => g6 _ _ (by omega) (by omega))
            rw [g4 _ _ (by omega), g1 _ _ (by omega)]
          · rw [if_neg h6, if_neg h6]
            obtain ⟨f, rfl⟩ : ∃ f : Nat, c = (f : Int) := ⟨c.toNat, by omega⟩
            rw [ev_get fu (0 + 7) _ f I (by omega) (by omega), zb_zr, ev_of fu 0 l p f J hl (by omega) (by omega), zb_zr]
            exact pq_end ⟨h, hl_r hL hl hp (by omega)⟩
        · rw [if_neg (show ¬ (0 ≤ (p : Int) ∧ (p : Int) < J 1 (130 + l)) by omega), if_pos eq00, if_neg hp]
          exact pq_end ⟨h, rfl⟩
      · rw [if_neg h3, if_pos eq00, out2 (a := c < 0) (b := 6 < c) (by omega)]
        exact pq_end ⟨h, rfl⟩
    · rw [if_neg h2, if_pos eq00]
      by_cases h3 : b < 0
      · rw [if_pos h3]; exact pq_end ⟨h, rfl⟩
      · rw [if_neg h3, if_neg (show ¬ b < 40 by omega)]; exact pq_end ⟨h, rfl⟩
  · rw [if_neg h1, if_pos eq00, if_pos eq00]
    exact pq_end ⟨h, rfl⟩
theorem pj_count (a : Int) (h : RJ I J) : pq (f_S_count fu 0 a I) (f_X_count fu 0 a J) (fun _ I' _ J' => RJ I' J') := by
  intro x I' y J' e1 e2
  have a1 : I' = I := funext fun q => fr_S_count (fun _ => False) fu 0 a I e1 q (fun z => z)
  have a2 : J' = J := funext fun q => funext fun j => fc_X_count (fun _ _ => False) fu 0 a J e2 q j (fun z => z)
  rw [a1, a2]; exact h
end
/-! calls that set: both sides -/
section
variable {fu : Nat} {I J : IMem}
theorem ev_canTell (a b : Int) (I : IMem) : ∃ v, f_S_canTell fu a b I = zr v I ∧ ((v = 0 ∧ ¬ CSet a b) ∨ (v = 1 ∧ CSet a b)) := by
  unfold f_S_canTell
  by_cases h : 0 ≤ a ∧ a ≤ 5
  · have hl : (a = 0 → leastZ a.toNat = 2 ∧ mostZ a.toNat = 8) ∧ (a = 1 → leastZ a.toNat = 1 ∧ mostZ a.toNat = 99) ∧ (a = 2 → leastZ a.toNat = 0 ∧ mostZ a.toNat = 999) ∧ (a = 3 → leastZ a.toNat = 0 ∧ mostZ a.toNat = 1000) ∧ (a = 4 → leastZ a.toNat = 0 ∧ mostZ a.toNat = 99) ∧ (a = 5 → leastZ a.toNat = 0 ∧ mostZ a.toNat = 3) := by
      refine ⟨?_, ?_, ?_, ?_, ?_, ?_⟩ <;> (intro e; subst e; decide)
    rw [if_neg (show ¬ a < 0 by omega), if_neg (show ¬ 5 < a by omega), zg_t (show 0 ≤ a ∧ a < 6 by omega)]
    by_cases h1 : b < leastZ a.toNat
    · rw [if_pos h1]
      exact ⟨0, rfl, Or.inl ⟨rfl, by unfold CSet; omega⟩⟩
    · rw [if_neg h1, zg_t (show 0 ≤ a ∧ a < 6 by omega)]
      by_cases h2 : mostZ a.toNat < b
      · rw [if_pos h2]
        exact ⟨0, rfl, Or.inl ⟨rfl, by unfold CSet; omega⟩⟩
      · rw [if_neg h2]
        exact ⟨1, rfl, Or.inr ⟨rfl, by unfold CSet; omega⟩⟩
  · rw [out2 (a := a < 0) (b := 5 < a) (by omega)]
    exact ⟨0, rfl, Or.inl ⟨rfl, by unfold CSet; omega⟩⟩
def XSW (fu : Nat) (a b : Int) (J : IMem) : Res := zl (wr32 (1 + a)) fun x5 => zg (0 ≤ x5 ∧ x5 < 6190) (zw J (0 + 1) x5.toNat b fun I4 => if a = 0 then zb (f_X_forgets fu 0 I4) fun _ I7 => zr 1 I7 else zr 1 I4)
theorem xe_set1 {a b : Int} (hc : CSet a b) (J : IMem) : f_X_set fu 0 a b J = XSW fu a b J := by
  unfold CSet at hc
  unfold f_X_set XSW
  simp only [zj_e]
  rcases hc with ⟨e, c1, c2⟩ | ⟨e, c1, c2⟩ | ⟨e, c1, c2⟩ | ⟨e, c1, c2⟩ | ⟨e, c1, c2⟩ | ⟨e, c1, c2⟩
  · rw [if_pos e, ev_isIn, zb_zr, if_pos (show 2 ≤ b ∧ b ≤ 8 from ⟨c1, c2⟩), if_neg ne10]
  · rw [if_neg (show ¬ a = 0 by omega), if_pos e, ev_isIn, zb_zr, if_pos (show 1 ≤ b ∧ b ≤ 99 from ⟨c1, c2⟩), if_neg ne10]
  · rw [if_neg (show ¬ a = 0 by omega), if_neg (show ¬ a = 1 by omega), if_pos e, ev_isIn, zb_zr, if_pos (show 0 ≤ b ∧ b ≤ 999 from ⟨c1, c2⟩), if_neg ne10]
  · rw [if_neg (show ¬ a = 0 by omega), if_neg (show ¬ a = 1 by omega), if_neg (show ¬ a = 2 by omega), if_pos e, ev_isIn, zb_zr, if_pos (show 0 ≤ b ∧ b ≤ 1000 from ⟨c1, c2⟩), if_neg ne10]
  · rw [if_neg (show ¬ a = 0 by omega), if_neg (show ¬ a = 1 by omega), if_neg (show ¬ a = 2 by omega), if_neg (show ¬ a = 3 by omega), if_pos e, ev_isIn, zb_zr, if_pos (show 0 ≤ b ∧ b ≤ 99 from ⟨c1, c2⟩), if_neg ne10]
  · rw [if_neg (show ¬ a = 0 by omega), if_neg (show ¬ a = 1 by omega), if_neg (show ¬ a = 2 by omega), if_neg (show ¬ a = 3 by omega), if_neg (show ¬ a = 4 by omega), if_pos e, ev_isIn, zb_zr, if_pos (show 0 ≤ b ∧ b ≤ 3 from ⟨c1, c2⟩), if_neg ne10, if_neg ne10]
theorem xe_set0 {a b : Int} (hc : ¬ CSet a b) (J : IMem) : f_X_set fu 0 a b J = zr 0 J := by
  unfold CSet at hc
  unfold f_X_set
  simp only [zj_e]
  by_cases h0 : a = 0
  · rw [if_pos h0, ev_isIn, zb_zr, if_neg (show ¬ (2 ≤ b ∧ b ≤ 8) by omega), if_pos eq00]
  rw [if_neg h0]
  by_cases h1 : a = 1
  · rw [if_pos h1, ev_isIn, zb_zr, if_neg (show ¬ (1 ≤ b ∧ b ≤ 99) by omega), if_pos eq00]
  rw [if_neg h1]
  by_cases h2 : a = 2
  · rw [if_pos h2, ev_isIn, zb_zr, if_neg (show ¬ (0 ≤ b ∧ b ≤ 999) by omega), if_pos eq00]
  rw [if_neg h2]
  by_cases h3 : a = 3
  · rw [if_pos h3, ev_isIn, zb_zr, if_neg (show ¬ (0 ≤ b ∧ b ≤ 1000) by omega), if_pos eq00]
  rw [if_neg h3]
  by_cases h4 : a = 4
  · rw [if_pos h4, ev_isIn, zb_zr, if_neg (show ¬ (0 ≤ b ∧ b ≤ 99) by omega), if_pos eq00]
  rw [if_neg h4]
  by_cases h5 : a = 5
  · rw [if_pos h5, ev_isIn, zb_zr, if_neg (show ¬ (0 ≤ b ∧ b ≤ 3) by omega), if_pos eq00, if_pos trivial]
  rw [if_neg h5, if_pos trivial]
theorem pj_set (a b : Int) (h : RJ I J) : pq (f_S_set fu 0 a b I) (f_X_set fu 0 a b J) EQJ := by
  obtain ⟨v, ev, hv⟩ := ev_canTell (fu := fu) a b I
  unfold f_S_set
  rw [ev, zb_zr]
  rcases hv with ⟨v0, hc⟩ | ⟨v1, hc⟩
  · rw [v0, if_pos eq00, xe_set0 hc J]
    exact pq_end ⟨h, rfl⟩
  · rw [v1, if_neg ne10, xe_set1 hc J]
    unfold CSet at hc
    unfold XSW
    simp only [zl_e]
    rw [wr32_i2 (x := 1 + a) (by omega) (by omega)]
    refine pq_gl (fun _ => pq_zwl' (fun I1 e1 => pq_gr (fun _ => pq_zwr' (fun J1 e2 => ?_))))
    by_cases z : a = 0
    · rw [if_pos z, if_pos z]
      rw [z] at e1 e2
      have hb : 2 ≤ b ∧ b ≤ 8 := by omega
      refine pq_of (P1 := fun x I2 => x = 1 ∧ (∀ j, j < 240 → I2 138 j = 0) ∧ (I2 137 7 = b ∧ I2 137 8 = 0 ∧ I2 137 9 = 0 ∧ I2 137 10 = 0 ∧ I2 137 11 = 0) ∧ ∀ q j, q ≠ 138 → ¬ (q = 137 ∧ 7 ≤ j ∧ j ≤ 11) → I2 q j = I1 q j) (P2 := fun y J2 => y = 1 ∧ (∀ j, j < 240 → J2 13 j = 0) ∧ J2 0 35 = 0 ∧ ∀ q j, q ≠ 13 → ¬ (q = 0 ∧ j = 35) → J2 q j = J1 q j) ?_ ?_ ?_
      · exact par_zb (cv_clear (0 + 137) b I1) (fun _ I2 ⟨g1, g2, g3⟩ => par_zr ⟨rfl, g1, g2, g3⟩)
      · exact par_zb (xv_forgets J1) (fun _ J2 ⟨g1, g2, g3⟩ => par_zr ⟨rfl, g1, g2, g3⟩)
      · intro x I2 y J2 ⟨g0, g1, g2, g3⟩ ⟨k0, k1, k2, k3⟩
        have io : ∀ q j, q ≠ 138 → ¬ (q = 137 ∧ 7 ≤ j ∧ j ≤ 11) → ¬ (q = 2 ∧ j = 0) → I2 q j = I q j := fun q j a1 a2 a3 => by rw [g3 q j a1 a2, e1, if_neg (show ¬ (q = 0 + 2 ∧ j = (0 : Int).toNat) from a3)]
        have jo : ∀ q j, q ≠ 13 → ¬ (q = 0 ∧ j = 35) → ¬ (q = 1 ∧ j = 1) → J2 q j = J q j := fun q j a1 a2 a3 => by rw [k3 q j a1 a2, e2, if_neg (show ¬ (q = 0 + 1 ∧ j = (1 + (0 : Int)).toNat) from a3)]
        have i20 : I2 2 0 = b := by rw [g3 _ _ (by omega) (by omega), e1, if_pos ⟨rfl, rfl⟩]
        have j11 : J2 1 1 = b := by rw [k3 _ _ (by omega) (by omega), e2, if_pos ⟨rfl, rfl⟩]
        have h' := h
        obtain ⟨⟨⟨hS, hY, hP, hL, hW⟩, hz, hA⟩, a2, b2, cc, d, e, ⟨L, t1, t2, t3, t4⟩, f⟩ := h'
        refine ⟨rj_mv h ⟨⟨hs_cell (o := 2) (j := 0) (c := 1) (v := b) hS (Or.inr ⟨rfl, rfl, rfl⟩) (fun q i hq => ?_) (fun i hi => ?_), hy_mv hY (fun j => io _ _ (by omega) (by omega) (by omega)) (fun j _ _ => jo _ _ (by omega) (by omega) (by omega)), hp_mv hP (fun j => ⟨io _ _ (by omega) (by omega) (by omega), io _ _ (by omega) (by omega) (by omega)⟩) (fun j _ => jo _ _ (by omega) (by omega) (by omega)), hl_mv hL (fun j => ⟨io _ _ (by omega) (by omega) (by omega), io _ _ (by omega) (by omega) (by omega)⟩) (fun j _ _ => jo _ _ (by omega) (by omega) (by omega)), hw_mv hW (fun d j _ _ _ => io _ _ (by omega) (by omega) (by omega)) (fun j _ _ => jo _ _ (by omega) (by omega) (by omega))⟩, ?_, ?_, ?_⟩ (io _ _ (by omega) (by omega) (by omega)) (fun q j _ => io _ _ (by omega) (by omega) (by omega)) (fun q j _ => jo _ _ (by omega) (by omega) (by omega)) (pk_zero k1 k2 (by rw [j11]; exact hb) g1 ⟨by rw [g2.1, j11], g2.2⟩) ⟨L, t1, ?_, ?_, fun i hi => ?_⟩ ⟨?_, ?_⟩, by rw [g0, k0]⟩
        · by_cases y1 : q = 2 ∧ i = 0
          · rw [if_pos y1, y1.1, y1.2]; exact i20
          · rw [if_neg y1]; exact io _ _ (by omega) (by omega) y1
        · by_cases y1 : i = 1
          · rw [if_pos y1, y1]; exact j11
          · rw [if_neg y1]; exact jo _ _ (by omega) (by omega) (by omega)
        · rw [io _ _ (by omega) (by omega) (by omega), jo _ _ (by omega) (by omega) (by omega)]; exact hz
        · rw [io _ _ (by omega) (by omega) (by omega)]; exact hA.1
        · rw [io _ _ (by omega) (by omega) (by omega)]; exact hA.2
        · rw [io _ _ (by omega) (by omega) (by omega)]; exact t2
        · rw [jo _ _ (by omega) (by omega) (by omega)]; exact t3
        · rw [io _ _ (by omega) (by omega) (by omega), jo _ _ (by omega) (by omega) (by omega)]; exact t4 i hi
        · rw [io _ _ (by omega) (by omega) (by omega), jo _ _ (by omega) (by omega) (by omega)]; exact f.1
        · rw [io _ _ (by omega) (by omega) (by omega), jo _ _ (by omega) (by omega) (by omega)]; exact f.2
    · rw [if_neg z, if_neg z]
      exact pq_end ⟨rj_cell (o := 2) (j := a.toNat) (c := (1 + a).toNat) h (Or.inr (Or.inl ⟨rfl, by omega, by omega, by omega⟩)) e1 e2, rfl⟩
theorem cv_tell {k : Nat} {a b c d : Int} (hk : k < 8) : par (f_H_tellComer fu 1 (k : Int) a b c d I) (fun _ I' => ∀ q j, I' q j = if q = 5 ∧ j = 4 * k + 3 then d else if q = 5 ∧ j = 4 * k + 2 then c else if q = 5 ∧ j = 4 * k + 1 then b else if q = 5 ∧ j = 4 * k then a else I q j) := by
  unfold f_H_tellComer
  have s0 : Wq (wr32 (4 * (k : Int))) (((4 * k : Nat) : Int)) := by show wr32 (4 * (k : Int)) = ((4 * k : Nat) : Int); rw [wr32_i2 (by omega) (by omega)]; omega
  have s1 : Wq (wr32 (((4 * k : Nat) : Int) + 1)) (((4 * k + 1 : Nat) : Int)) := by show wr32 (((4 * k : Nat) : Int) + 1) = ((4 * k + 1 : Nat) : Int); rw [wr32_i2 (by omega) (by omega)]; omega
  have s2 : Wq (wr32 (((4 * k : Nat) : Int) + 2)) (((4 * k + 2 : Nat) : Int)) := by show wr32 (((4 * k : Nat) : Int) + 2) = ((4 * k + 2 : Nat) : Int); rw [wr32_i2 (by omega) (by omega)]; omega
  have s3 : Wq (wr32 (((4 * k : Nat) : Int) + 3)) (((4 * k + 3 : Nat) : Int)) := by show wr32 (((4 * k : Nat) : Int) + 3) = ((4 * k + 3 : Nat) : Int); rw [wr32_i2 (by omega) (by omega)]; omega
  simp only [zl_e]
  rw [if_neg (show ¬ (k : Int) < 0 by omega), if_pos (show (k : Int) < 8 by omega), s0.e, s1.e, s2.e, s3.e]
  refine par_zg (fun _ => par_zw' (fun I1 e1 => par_zg (fun _ => par_zw' (fun I2 e2 => par_zg (fun _ => par_zw' (fun I3 e3 => par_zg (fun _ => par_zw' (fun I4 e4 => par_zr (fun q j => ?_)))))))))
  rw [e4, e3, e2, e1]
  rfl
theorem pj_comer (a1 a2 a3 a4 a5 : Int) (h : RJ I J) : pq (f_S_comer fu 0 a1 a2 a3 a4 a5 I) (f_X_comer fu 0 a1 a2 a3 a4 a5 J) EQJ := by
  unfold f_S_comer f_X_comer
  rw [ev_isIn, zb_zr, ev_canBe, zb_zr]
  by_cases h1 : 0 ≤ a1 ∧ a1 ≤ 7
  · rw [if_neg (show ¬ a1 < 0 by omega), if_pos (show a1 < 8 by omega), if_pos h1, if_neg ne10, ev_isGroup, zb_zr]
    by_cases h2 : 1 ≤ a2 ∧ a2 ≤ 8 ∧ 1 ≤ a3 ∧ a3 ≤ a2 ∧ 0 ≤ a4 ∧ a4 ≤ 3
    · rw [if_pos h2, if_neg ne10, if_neg ne10, ev_isIn, zb_zr]
      by_cases h3 : 0 ≤ a5 ∧ a5 ≤ 1000
      · rw [if_neg (show ¬ a5 < 0 by omega), if_neg (show ¬ 1000 < a5 by omega), if_pos h3, if_neg ne10]
        obtain ⟨k, rfl⟩ : ∃ k : Nat, a1 = (k : Int) := ⟨a1.toNat, by omega⟩
        have hk : k < 8 := by omega
        have s0 : Wq (wr32 (4 * (k : Int))) (((4 * k : Nat) : Int)) := by show wr32 (4 * (k : Int)) = ((4 * k : Nat) : Int); rw [wr32_i2 (by omega) (by omega)]; omega
        have r0 : Wq (wr32 (26 + ((4 * k : Nat) : Int))) (((26 + 4 * k : Nat) : Int)) := by show wr32 (26 + ((4 * k : Nat) : Int)) = ((26 + 4 * k : Nat) : Int); rw [wr32_i2 (by omega) (by omega)]; omega
        have r1 : Wq (wr32 (((26 + 4 * k : Nat) : Int) + 1)) (((26 + (4 * k + 1) : Nat) : Int)) := by show wr32 (((26 + 4 * k : Nat) : Int) + 1) = ((26 + (4 * k + 1) : Nat) : Int); rw [wr32_i2 (by omega) (by omega)]; omega
        have r2 : Wq (wr32 (((26 + 4 * k : Nat) : Int) + 2)) (((26 + (4 * k + 2) : Nat) : Int)) := by show wr32 (((26 + 4 * k : Nat) : Int) + 2) = ((26 + (4 * k + 2) : Nat) : Int); rw [wr32_i2 (by omega) (by omega)]; omega
        have r3 : Wq (wr32 (((26 + 4 * k : Nat) : Int) + 3)) (((26 + (4 * k + 3) : Nat) : Int)) := by show wr32 (((26 + 4 * k : Nat) : Int) + 3) = ((26 + (4 * k + 3) : Nat) : Int); rw [wr32_i2 (by omega) (by omega)]; omega
        simp only [zl_e]
        rw [s0.e, r0.e, r1.e, r2.e, r3.e]
        refine pq_gr (fun _ => pq_zwr' (fun J1 e1 => pq_gr (fun _ => pq_zwr' (fun J2 e2 => pq_gr (fun _ => pq_zwr' (fun J3 e3 => pq_gr (fun _ => pq_zwr' (fun J4 e4 => pq_l ?_))))))))
        refine par_zb (cv_tell hk) (fun _ I' g => par_zr ⟨?_, rfl⟩)
        have m : ∀ f : Nat, f < 4 → MTC 5 (4 * k + f) (26 + (4 * k + f)) := fun f hf => Or.inr (Or.inr (Or.inr (Or.inr (Or.inl ⟨rfl, by omega, rfl⟩))))
        have x1 : RJ (up I 5 (4 * k) a2) J1 := rj_cell (o := 5) (j := 4 * k) (c := 26 + 4 * k) h (m 0 (by decide)) (fun _ _ => rfl) e1
        have x2 : RJ (up (up I 5 (4 * k) a2) 5 (4 * k + 1) a3) J2 := rj_cell (o := 5) (j := 4 * k + 1) (c := 26 + (4 * k + 1)) x1 (m 1 (by decide)) (fun _ _ => rfl) e2
        have x3 : RJ (up (up (up I 5 (4 * k) a2) 5 (4 * k + 1) a3) 5 (4 * k + 2) a4) J3 := rj_cell (o := 5) (j := 4 * k + 2) (c := 26 + (4 * k + 2)) x2 (m 2 (by decide)) (fun _ _ => rfl) e3
        have x4 : RJ (up (up (up (up I 5 (4 * k) a2) 5 (4 * k + 1) a3) 5 (4 * k + 2) a4) 5 (4 * k + 3) a5) J4 := rj_cell (o := 5) (j := 4 * k + 3) (c := 26 + (4 * k + 3)) x3 (m 3 (by decide)) (fun _ _ => rfl) e4
        have e : I' = up (up (up (up I 5 (4 * k) a2) 5 (4 * k + 1) a3) 5 (4 * k + 2) a4) 5 (4 * k + 3) a5 := funext fun q => funext fun j => g q j
        rw [e]; exact x4
      · rw [if_neg h3, if_pos eq00, out2 (a := a5 < 0) (b := 1000 < a5) (by omega)]
        exact pq_end ⟨h, rfl⟩
    · rw [if_neg h2, if_pos eq00, if_pos eq00]
      exact pq_end ⟨h, rfl⟩
  · rw [if_neg h1, if_pos eq00]
    by_cases h3 : a1 < 0
    · rw [if_pos h3]; exact pq_end ⟨h, rfl⟩
    · rw [if_neg h3, if_neg (show ¬ a1 < 8 by omega)]; exact pq_end ⟨h, rfl⟩
/-- the heap's first n, and without a -/
def hpS (J : IMem) : Nat → Int
  | 0 => 0
  | n + 1 => hpS J n + J 1 (60 + (n + 1))
def hpX (J : IMem) (a : Nat) : Nat → Int
  | 0 => 0
  | n + 1 => hpX J a n + if n + 1 = a then 0 else J 1 (60 + (n + 1))
theorem hpX_e (a : Nat) (ha : 1 ≤ a) : ∀ n : Nat, hpX J a n = hpS J n - if a ≤ n then J 1 (60 + a) else 0 := by
  intro n
  induction n with
  | zero => rw [if_neg (show ¬ a ≤ 0 by omega)]; rfl
  | succ n ih =>
    show hpX J a n + (if n + 1 = a then 0 else J 1 (60 + (n + 1))) = hpS J n + J 1 (60 + (n + 1)) - _
    rw [ih]
    by_cases q : n + 1 = a
    · rw [if_pos q, if_neg (show ¬ a ≤ n by omega), if_pos (show a ≤ n + 1 by omega), ← q]; omega
    · rw [if_neg q]
      by_cases q2 : a ≤ n
      · rw [if_pos q2, if_pos (show a ≤ n + 1 by omega)]; omega
      · rw [if_neg q2, if_neg (show ¬ a ≤ n + 1 by omega)]; omega
theorem hp_b (hh : ∀ s : Nat, 1 ≤ s → s ≤ 8 → 0 ≤ J 1 (60 + s) ∧ J 1 (60 + s) ≤ 12) (a : Nat) : ∀ n : Nat, n ≤ 8 → (0 ≤ hpS J n ∧ hpS J n ≤ 12 * (n : Int)) ∧ (0 ≤ hpX J a n ∧ hpX J a n ≤ 12 * (n : Int)) := by
  intro n
  induction n with
  | zero => intro _; exact ⟨⟨Int.le_refl _, Int.le_refl _⟩, ⟨Int.le_refl _, Int.le_refl _⟩⟩
  | succ n ih =>
    intro hn
    obtain ⟨⟨i1, i2⟩, i3, i4⟩ := ih (by omega)
    obtain ⟨z1, z2⟩ := hh (n + 1) (by omega) hn
    have e : hpS J (n + 1) = hpS J n + J 1 (60 + (n + 1)) := rfl
    have e2 : hpX J a (n + 1) = hpX J a n + if n + 1 = a then 0 else J 1 (60 + (n + 1)) := rfl
    refine ⟨by omega, ?_⟩
    rw [e2]
    by_cases q : n + 1 = a
    · rw [if_pos q]; omega
    · rw [if_neg q]; omega
theorem cv_heap {Q : Int → IMem → Prop} (kk : Int → IMem → Res) (p1 p2 : Int) (x : Int) (hx : -1000 ≤ x ∧ x ≤ 1000) (hI : ∀ s : Nat, 1 ≤ s → s ≤ 8 → I 6 s = J 1 (60 + s)) (hh : ∀ s : Nat, 1 ≤ s → s ≤ 8 → 0 ≤ J 1 (60 + s) ∧ J 1 (60 + s) ≤ 12) (hend : par (kk (x + hpS J 8) I) Q) : ∀ (m n : Nat), n ≤ 8 → par (f_S_heap_38 fu kk 0 p1 p2 m (x + hpS J n) ((n + 1 : Nat) : Int) I) Q := by
  intro m
  induction m with
  | zero => intro _ _; exact par_none
  | succ m ih =>
    intro n hn
    show par (fb_S_heap_38 fu kk 0 p1 p2 (f_S_heap_38 fu kk 0 p1 p2 m) (x + hpS J n) ((n + 1 : Nat) : Int) I) _
    unfold fb_S_heap_38
    by_cases q : n < 8
    · rw [if_pos (show ((n + 1 : Nat) : Int) < 9 by omega)]
      refine par_zg (fun _ => ?_)
      obtain ⟨⟨b1, b2⟩, _⟩ := hp_b hh 0 n hn
      obtain ⟨z1, z2⟩ := hh (n + 1) (by omega) q
      simp only [zl_e]
      rw [show I (0 + 6) ((n + 1 : Nat) : Int).toNat = J 1 (60 + (n + 1)) from hI (n + 1) (by omega) q, w_nx (n + 1) (by omega), wr32_i2 (x := x + hpS J n + J 1 (60 + (n + 1))) (by omega) (by omega), show x + hpS J n + J 1 (60 + (n + 1)) = x + hpS J (n + 1) from Int.add_assoc _ _ _]
      exact ih (n + 1) q
    · rw [if_neg (show ¬ ((n + 1 : Nat) : Int) < 9 by omega)]
      have : n = 8 := by omega
      subst this
      exact hend
theorem xv_heap {Q : Int → IMem → Prop} (kk : Int → IMem → Res) (a : Nat) (p2 : Int) (x : Int) (hx : -1000 ≤ x ∧ x ≤ 1000) (hh : ∀ s : Nat, 1 ≤ s → s ≤ 8 → 0 ≤ J 1 (60 + s) ∧ J 1 (60 + s) ≤ 12) (hend : par (kk (x + hpX J a 8) J) Q) : ∀ (m n : Nat), n ≤ 8 → par (f_X_heap_27 fu kk 0 (a : Int) p2 m (x + hpX J a n) ((n + 1 : Nat) : Int) J) Q := by
  intro m
  induction m with
  | zero => intro _ _; exact par_none
  | succ m ih =>
    intro n hn
    show par (fb_X_heap_27 fu kk 0 (a : Int) p2 (f_X_heap_27 fu kk 0 (a : Int) p2 m) (x + hpX J a n) ((n + 1 : Nat) : Int) J) _
    unfold fb_X_heap_27
    by_cases q : n < 8
    · rw [if_neg (show ¬ 8 < ((n + 1 : Nat) : Int) by omega)]
      obtain ⟨_, b1, b2⟩ := hp_b hh a n hn
      obtain ⟨z1, z2⟩ := hh (n + 1) (by omega) q
      have e2 : hpX J a (n + 1) = hpX J a n + if n + 1 = a then 0 else J 1 (60 + (n + 1)) := rfl
      simp only [zl_e, zj_e]
      rw [w_nx (n + 1) (by omega)]
      by_cases q2 : n + 1 = a
      · rw [if_pos (show ((n + 1 : Nat) : Int) = (a : Int) by omega), wr32_i2 (x := x + hpX J a n + 0) (by omega) (by omega)]
        rw [if_pos q2] at e2
        rw [show x + hpX J a n + 0 = x + hpX J a (n + 1) by omega]
        exact ih (n + 1) q
      · rw [if_neg (show ¬ ((n + 1 : Nat) : Int) = (a : Int) by omega)]
        rw [if_neg q2] at e2
        rw [show wr32 (60 + ((n + 1 : Nat) : Int)) = ((60 + (n + 1) : Nat) : Int) by rw [wr32_i2 (by omega) (by omega)]; omega]
        refine par_zg (fun _ => ?_)
        rw [show J (0 + 1) ((60 + (n + 1) : Nat) : Int).toNat = J 1 (60 + (n + 1)) from rfl, wr32_i2 (x := x + hpX J a n + J 1 (60 + (n + 1))) (by omega) (by omega), show x + hpX J a n + J 1 (60 + (n + 1)) = x + hpX J a (n + 1) by omega]
        exact ih (n + 1) q
    · rw [if_pos (show 8 < ((n + 1 : Nat) : Int) by omega)]
      have : n = 8 := by omega
      subst this
      exact hend
theorem pj_heap (a b : Int) (h : RJ I J) (hg : GX 0 J) : pq (f_S_heap fu 0 a b I) (f_X_heap fu 0 a b J) EQJ := by
  have hS : HS 1 1 I J := h.1.1.1
  have hh : ∀ s : Nat, 1 ≤ s → s ≤ 8 → 0 ≤ J 1 (60 + s) ∧ J 1 (60 + s) ≤ 12 := by
    have w := hg.2.1.2.2.2.2.1
    obtain ⟨w1, w2⟩ := w
    unfold hsum at w2
    have y : ∀ k : Nat, 1 ≤ k → k ≤ 8 → 0 ≤ J 1 (60 + k) := w1
    have y1 : 0 ≤ J 1 61 := y 1 (by decide) (by decide)
    have y2 : 0 ≤ J 1 62 := y 2 (by decide) (by decide)
    have y3 : 0 ≤ J 1 63 := y 3 (by decide) (by decide)
    have y4 : 0 ≤ J 1 64 := y 4 (by decide) (by decide)
    have y5 : 0 ≤ J 1 65 := y 5 (by decide) (by decide)
    have y6 : 0 ≤ J 1 66 := y 6 (by decide) (by decide)
    have y7 : 0 ≤ J 1 67 := y 7 (by decide) (by decide)
    have y8 : 0 ≤ J 1 68 := y 8 (by decide) (by decide)
    have w3 : J 1 61 + J 1 62 + J 1 63 + J 1 64 + J 1 65 + J 1 66 + J 1 67 + J 1 68 ≤ 12 := w2
    intro s s1 s2
    rcases (show s = 1 ∨ s = 2 ∨ s = 3 ∨ s = 4 ∨ s = 5 ∨ s = 6 ∨ s = 7 ∨ s = 8 by omega) with e | e | e | e | e | e | e | e <;> subst e <;> constructor
    · exact y1
    · show J 1 61 ≤ 12; omega
    · exact y2
    · show J 1 62 ≤ 12; omega
    · exact y3
    · show J 1 63 ≤ 12; omega
    · exact y4
    · show J 1 64 ≤ 12; omega
    · exact y5
    · show J 1 65 ≤ 12; omega
    · exact y6
    · show J 1 66 ≤ 12; omega
    · exact y7
    · show J 1 67 ≤ 12; omega
    · exact y8
    · show J 1 68 ≤ 12; omega
  have hI : ∀ s : Nat, 1 ≤ s → s ≤ 8 → I 6 s = J 1 (60 + s) := fun s s1 s2 => hS.2.2.2.2.2.2 s s1 s2
  unfold f_S_heap f_X_heap
  rw [ev_isIn, zb_zr]
  by_cases h1 : 1 ≤ a ∧ a ≤ 8
  · rw [if_neg (show ¬ a < 1 by omega), if_neg (show ¬ 8 < a by omega), if_pos h1, if_neg ne10, ev_isIn, zb_zr]
    by_cases h2 : 0 ≤ b ∧ b ≤ 9
    · rw [if_neg (show ¬ b < 0 by omega), if_neg (show ¬ 9 < b by omega), if_pos h2, if_neg ne10]
      obtain ⟨k, rfl⟩ : ∃ k : Nat, a = (k : Int) := ⟨a.toNat, by omega⟩
      have hk := hh k (by omega) (by omega)
      simp only [zl_e]
      refine pq_gl (fun _ => ?_)
      rw [show I (0 + 6) ((k : Nat) : Int).toNat = J 1 (60 + k) from hI k (by omega) (by omega), wr32_i2 (x := b - J 1 (60 + k)) (by omega) (by omega)]
      have e8 := hpX_e (J := J) k (by omega) 8
      rw [if_pos (show k ≤ 8 by omega)] at e8
      have w60 : Wq (wr32 (60 + (k : Int))) (((60 + k : Nat) : Int)) := by show wr32 (60 + (k : Int)) = ((60 + k : Nat) : Int); rw [wr32_i2 (by omega) (by omega)]; omega
      have fin : pq (if 12 < b + hpX J k 8 then zr 0 I else zg (0 ≤ (k : Int) ∧ (k : Int) < 9) (zw I (0 + 6) ((k : Nat) : Int).toNat b fun I6 => zr 1 I6)) (if 12 < b + hpX J k 8 then zr 0 J else zg (0 ≤ ((60 + k : Nat) : Int) ∧ ((60 + k : Nat) : Int) < 6190) (zw J (0 + 1) ((60 + k : Nat) : Int).toNat b fun I15 => zr 1 I15)) EQJ := by
        refine pq_ii Iff.rfl (fun _ _ => pq_end ⟨h, rfl⟩) (fun _ _ => pq_gl (fun _ => pq_zwl' (fun I1 e1 => pq_gr (fun _ => pq_zwr' (fun J1 e2 => pq_end ⟨?_, rfl⟩)))))
        exact rj_cell (o := 6) (j := k) (c := 60 + k) h (Or.inr (Or.inr (Or.inr (Or.inr (Or.inr ⟨rfl, by omega, by omega, rfl⟩))))) e1 e2
      intro x I' y J' q1 q2
      have p2 := xv_heap (fu := fu) (J := J) (Q := fun y J' => (if 12 < b + hpX J k 8 then zr 0 J else zg (0 ≤ ((60 + k : Nat) : Int) ∧ ((60 + k : Nat) : Int) < 6190) (zw J (0 + 1) ((60 + k : Nat) : Int).toNat b fun I15 => zr 1 I15)) = some (y, J')) (fun (x14 : Int) (I13 : IMem) => if 12 < x14 then zr 0 I13 else zg (0 ≤ wr32 (60 + (k : Int)) ∧ wr32 (60 + (k : Int)) < 6190) (zw I13 (0 + 1) (wr32 (60 + (k : Int))).toNat b fun I15 => zr 1 I15)) k b b (by omega) hh (fun y J' e => by rw [w60.e] at e; exact e) fu 0 (by decide)
      have p1 := cv_heap (fu := fu) (I := I) (J := J) (Q := fun x I' => (if 12 < b + hpX J k 8 then zr 0 I else zg (0 ≤ (k : Int) ∧ (k : Int) < 9) (zw I (0 + 6) ((k : Nat) : Int).toNat b fun I6 => zr 1 I6)) = some (x, I')) (fun (x5 : Int) (I4 : IMem) => if 12 < x5 then zr 0 I4 else zg (0 ≤ (k : Int) ∧ (k : Int) < 9) (zw I4 (0 + 6) ((k : Nat) : Int).toNat b fun I6 => zr 1 I6)) k b (b - J 1 (60 + k)) (by omega) hI hh (fun x I' e => by rw [show b - J 1 (60 + k) + hpS J 8 = b + hpX J k 8 by omega] at e; exact e) fu 0 (by decide)
      rw [show b + hpX J k 0 = b from Int.add_zero b] at p2
      rw [show b - J 1 (60 + k) + hpS J 0 = b - J 1 (60 + k) from Int.add_zero _] at p1
      exact fin x I' y J' (p1 x I' q1) (p2 y J' q2)
    · rw [if_neg h2, if_pos eq00, out2 (a := b < 0) (b := 9 < b) (by omega)]
      exact pq_end ⟨h, rfl⟩
  · rw [if_neg h1, if_pos eq00, out2 (a := a < 1) (b := 8 < a) (by omega)]
    exact pq_end ⟨h, rfl⟩
end
