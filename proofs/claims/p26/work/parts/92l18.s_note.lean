/-! those who sit are noted, on both sides -/
theorem wr32_wl (x y : Int) : wr32 (wr32 x + y) = wr32 (x + y) := by unfold wr32; omega
section
variable {fu : Nat}
theorem cv_note (hb i k z : Nat) (I : IMem) (hi : i < 8) (hk : k < 240) (hz : 1 ≤ z ∧ z ≤ 8) : par (f_H_note fu hb (i : Int) (k : Int) (z : Int) I) (fun _ I' => ∀ q j, I' q j = if q = hb + 11 ∧ j = 20 + i then (z : Int) else if q = hb + 11 ∧ j = 10 + i then I (hb + 7) (6 * k + 0) else if q = hb + 10 ∧ j = 2 then wr32 (I (hb + 10) 2 + z) else if q = hb + 10 ∧ j = 30 + z then (if I (hb + 10) (30 + z) < I (hb + 7) (6 * k + 4) then I (hb + 7) (6 * k + 4) else I (hb + 10) (30 + z)) else if q = hb + 10 ∧ j = 20 + z then wr32 (I (hb + 10) (20 + z) + I (hb + 7) (6 * k + 4)) else if q = hb + 10 ∧ j = 10 + z then wr32 (I (hb + 10) (10 + z) + 1) else I q j) := by
  unfold f_H_note
  rw [if_neg (by omega), if_pos (by omega), if_neg (by omega), if_neg (by omega), ev_get4 fu (hb + 6) k I hk, zb_zr]
  have w1 : Wq (wr32 (10 + (z : Int))) (((10 + z : Nat) : Int)) := by show wr32 (10 + (z : Int)) = ((10 + z : Nat) : Int); rw [wr32_i2 (by omega) (by omega)]; omega
  have w2 : Wq (wr32 (20 + (z : Int))) (((20 + z : Nat) : Int)) := by show wr32 (20 + (z : Int)) = ((20 + z : Nat) : Int); rw [wr32_i2 (by omega) (by omega)]; omega
  have w3 : Wq (wr32 (30 + (z : Int))) (((30 + z : Nat) : Int)) := by show wr32 (30 + (z : Int)) = ((30 + z : Nat) : Int); rw [wr32_i2 (by omega) (by omega)]; omega
  have w4 : Wq (wr32 (10 + (i : Int))) (((10 + i : Nat) : Int)) := by show wr32 (10 + (i : Int)) = ((10 + i : Nat) : Int); rw [wr32_i2 (by omega) (by omega)]; omega
  have w5 : Wq (wr32 (20 + (i : Int))) (((20 + i : Nat) : Int)) := by show wr32 (20 + (i : Int)) = ((20 + i : Nat) : Int); rw [wr32_i2 (by omega) (by omega)]; omega
  simp only [zl_e]
  rw [w1.e, w2.e, w3.e, w4.e, w5.e]
  refine par_zg (fun _ => par_zg (fun _ => par_zw' (fun I1 e1 => par_zg (fun _ => par_zg (fun _ => par_zw' (fun I2 e2 => par_zg (fun _ => ?_)))))))
  rw [ev_max, zb_zr]
  refine par_zg (fun _ => par_zw' (fun I3 e3 => par_zw' (fun I4 e4 => ?_)))
  rw [ev_get0 fu (hb + 6) k I4 hk, zb_zr]
  refine par_zg (fun _ => par_zw' (fun I5 e5 => par_zg (fun _ => par_zw' (fun I6 e6 => par_zr (fun q j => ?_)))))
  have n1 : ((10 + z : Nat) : Int).toNat = 10 + z := rfl
  have n2 : ((20 + z : Nat) : Int).toNat = 20 + z := rfl
  have n3 : ((30 + z : Nat) : Int).toNat = 30 + z := rfl
  have n4 : ((10 + i : Nat) : Int).toNat = 10 + i := rfl
  have n5 : ((20 + i : Nat) : Int).toNat = 20 + i := rfl
  rw [n1] at e1
  rw [n2] at e2
  rw [n3] at e3
  rw [n4] at e5
  rw [n5] at e6
  have a2 : I1 (hb + 10) (20 + z) = I (hb + 10) (20 + z) := by rw [e1, if_neg (by omega)]
  have a3 : I2 (hb + 10) (30 + z) = I (hb + 10) (30 + z) := by rw [e2, if_neg (by omega), e1, if_neg (by omega)]
  have a4 : I3 (hb + 10) 2 = I (hb + 10) 2 := by rw [e3, if_neg (by omega), e2, if_neg (by omega), e1, if_neg (by omega)]
  have a5 : I4 (hb + 6 + 1) (6 * k + 0) = I (hb + 7) (6 * k + 0) := by rw [e4, if_neg (by omega), e3, if_neg (by omega), e2, if_neg (by omega), e1, if_neg (by omega)]
  rw [show I (hb + 6 + 1) (6 * k + 4) = I (hb + 7) (6 * k + 4) from rfl] at e2 e3
  rw [a2] at e2
  rw [a3] at e3
  rw [a4] at e4
  rw [a5] at e5
  rw [e6, e5, e4, e3, e2, e1]
end
def NRl (oc hb : Nat) (i : Nat) (I0 J0 I J : IMem) : Prop :=
  (∀ q j, ¬ ((q = hb + 10 ∧ (j = 2 ∨ (11 ≤ j ∧ j ≤ 38))) ∨ (q = hb + 11 ∧ 10 ≤ j ∧ j ≤ 27)) → I q j = I0 q j) ∧
  (∀ q j, ¬ (q = 1 ∧ ((81 ≤ j ∧ j ≤ 108) ∨ (112 ≤ j ∧ j ≤ 127))) → J q j = J0 q j) ∧
  (∀ s, 1 ≤ s → s ≤ 8 → I (hb + 10) (10 + s) = J 1 (80 + s) ∧ I (hb + 10) (20 + s) = J 1 (90 + s) ∧ I (hb + 10) (30 + s) = J 1 (100 + s)) ∧
  (∀ t, t < 8 → I (hb + 11) (10 + t) = J 1 (112 + t) ∧ I (hb + 11) (20 + t) = J 1 (120 + t)) ∧
  I (hb + 10) 2 = wr32 (I0 (hb + 10) 2 + sm (I0 (oc + 3)) i)
section
variable {fu oc hb : Nat} {Q : Int → IMem → Int → IMem → Prop}
theorem note2 (hd : hb + 40 ≤ oc) (kC kX : IMem → Res) (p1 p2 : Int) (I0 J0 : IMem) (hF : FRl oc I0 J0) (hL : HLP oc hb I0 J0) (hend : ∀ I J, NRl oc hb (J0 0 31).toNat I0 J0 I J → pq (kC I) (kX J) Q) : ∀ (m m2 i : Nat) (I J : IMem), (i : Int) ≤ J0 0 31 → NRl oc hb i I0 J0 I J → pq (f_C_leave_9 fu kC oc hb p2 m (i : Int) I) (f_X_goesOff_61 fu kX 0 p1 m2 (i : Int) J) Q := by
  intro m
  induction m with
  | zero => intro _ _ _ _ _ _; exact pq_nl
  | succ m ih =>
    intro m2 i I J hi hN
    cases m2 with
    | zero => exact pq_nr
    | succ m2 =>
    show pq (fb_C_leave_9 fu kC oc hb p2 (f_C_leave_9 fu kC oc hb p2 m) (i : Int) I) (fb_X_goesOff_61 fu kX 0 p1 (f_X_goesOff_61 fu kX 0 p1 m2) (i : Int) J) Q
    unfold fb_C_leave_9 fb_X_goesOff_61
    have hN' := hN
    obtain ⟨n1, n2, n3, n4, n5⟩ := hN'
    have hF' := hF
    obtain ⟨⟨a1, a2, a3⟩, ⟨b1, b2, b3, b4⟩, _, _, e, fo, g, s⟩ := hF'
    have i8 : I oc 8 = J0 0 31 := (n1 _ _ (by omega)).trans a2
    have j31 : J 0 31 = J0 0 31 := n2 _ _ (by omega)
    rw [i8, j31]
    by_cases h : (i : Int) < J0 0 31
    · rw [if_pos h, if_pos (by omega), if_pos h]
      obtain ⟨k, k1, k2, k3, k4, k5, k6⟩ := fo i h
      obtain ⟨z, hz⟩ : ∃ z : Nat, J0 9 k = (z : Int) := ⟨(J0 9 k).toNat, by omega⟩
      have hk := k1.1
      have r : ∀ f, f < 6 → ¬ (f = 1 ∨ f = 2) → I0 (hb + 7) (6 * k + f) = J0 1 (140 + 6 * k + f) := by
        intro f hf h12
        have := (hL (k / 40) (by omega)).2.2 (k % 40) f k1.2 hf
        rw [show 40 * (k / 40) + k % 40 = k by omega, if_neg (fun q => h12 q.2)] at this
        exact this
      have s1 : I (oc + 2) i = (k : Int) := (n1 _ _ (by omega)).trans k3
      have s2 : I (oc + 3) i = (z : Int) := (n1 _ _ (by omega)).trans (k4.trans hz)
      have t1 : J 11 i = (k : Int) := (n2 _ _ (by omega)).trans k2
      have t2 : J 9 k = (z : Int) := (n2 _ _ (by omega)).trans hz
      refine pq_gl (fun _ => pq_gl (fun _ => ?_))
      rw [show ((i : Nat) : Int).toNat = i from rfl, s1, s2]
      refine pq_bl (cv_note (fu := fu) hb i k z I (by omega) hk (by omega)) (fun _ I1 _ g1 => ?_)
      have wn : Wq (wr32 ((i : Int) + 1)) (((i + 1 : Nat) : Int)) := by show wr32 ((i : Int) + 1) = ((i + 1 : Nat) : Int); rw [wr32_i2 (by omega) (by omega)]; rfl
      simp only [zl_e, zj_e, Nat.zero_add]
      rw [wn.e, t1, wd40 k hk, wr40 k hk]
      refine pq_gr (fun _ => pq_gr (fun _ => pq_gr (fun _ => pq_gr (fun _ => ?_))))
      rw [show ((k : Nat) : Int).toNat = k from rfl, t2, ev_of4 fu 0 (k / 40) (k % 40) J (by omega) (by omega), zb_zr, ev_of0 fu 0 (k / 40) (k % 40) J (by omega) (by omega), zb_zr, show 40 * (k / 40) + k % 40 = k by omega]
      have w1 : Wq (wr32 (112 + (i : Int))) (((112 + i : Nat) : Int)) := by show wr32 (112 + (i : Int)) = ((112 + i : Nat) : Int); rw [wr32_i2 (by omega) (by omega)]; omega
      have w2 : Wq (wr32 (120 + (i : Int))) (((120 + i : Nat) : Int)) := by show wr32 (120 + (i : Int)) = ((120 + i : Nat) : Int); rw [wr32_i2 (by omega) (by omega)]; omega
      have w3 : Wq (wr32 (80 + (z : Int))) (((80 + z : Nat) : Int)) := by show wr32 (80 + (z : Int)) = ((80 + z : Nat) : Int); rw [wr32_i2 (by omega) (by omega)]; omega
      have w4 : Wq (wr32 (90 + (z : Int))) (((90 + z : Nat) : Int)) := by show wr32 (90 + (z : Int)) = ((90 + z : Nat) : Int); rw [wr32_i2 (by omega) (by omega)]; omega
      have w5 : Wq (wr32 (100 + (z : Int))) (((100 + z : Nat) : Int)) := by show wr32 (100 + (z : Int)) = ((100 + z : Nat) : Int); rw [wr32_i2 (by omega) (by omega)]; omega
      rw [w1.e, w2.e, w3.e, w4.e, w5.e]
      have y4 : J (0 + 1) (140 + 6 * k + 4) = J0 1 (140 + 6 * k + 4) := n2 _ _ (by omega)
      have y0 : J (0 + 1) (140 + 6 * k + 0) = J0 1 (140 + 6 * k + 0) := n2 _ _ (by omega)
      rw [y4, y0]
      refine pq_gr (fun _ => pq_zwr' (fun J1 e1 => pq_gr (fun _ => pq_zwr' (fun J2 e2 => pq_gr (fun _ => pq_gr (fun _ => pq_zwr' (fun J3 e3 => pq_gr (fun _ => pq_gr (fun _ => pq_zwr' (fun J4 e4 => pq_gr (fun _ => ?_)))))))))))
      rw [show ((112 + i : Nat) : Int).toNat = 112 + i from rfl] at e1
      rw [show ((120 + i : Nat) : Int).toNat = 120 + i from rfl] at e2
      rw [show ((80 + z : Nat) : Int).toNat = 80 + z from rfl] at e3
      rw [show ((90 + z : Nat) : Int).toNat = 90 + z from rfl] at e4
      have c3 : J2 1 (80 + z) = J 1 (80 + z) := by rw [e2, if_neg (by omega), e1, if_neg (by omega)]
      have c4 : J3 1 (90 + z) = J 1 (90 + z) := by rw [e3, if_neg (by omega), e2, if_neg (by omega), e1, if_neg (by omega)]
      have c5 : J4 1 (100 + z) = J 1 (100 + z) := by rw [e4, if_neg (by omega), e3, if_neg (by omega), e2, if_neg (by omega), e1, if_neg (by omega)]
      have b4' : ∀ q j, J4 q j = if q = 1 ∧ j = 90 + z then wr32 (J 1 (90 + z) + J0 1 (140 + 6 * k + 4)) else if q = 1 ∧ j = 80 + z then wr32 (J 1 (80 + z) + 1) else if q = 1 ∧ j = 120 + i then (z : Int) else if q = 1 ∧ j = 112 + i then J0 1 (140 + 6 * k + 0) else J q j := fun q j => by
        rw [c3] at e3
        rw [c4] at e4
        rw [e4, e3, e2, e1]
      clear e4 e3 e2 e1
      -- with the longest told
      have fin : ∀ J5 : IMem, (∀ q j, J5 q j = if q = 1 ∧ j = 100 + z then (if J 1 (100 + z) < J0 1 (140 + 6 * k + 4) then J0 1 (140 + 6 * k + 4) else J 1 (100 + z)) else J4 q j) → NRl oc hb (i + 1) I0 J0 I1 J5 := by
        intro J5 e5
        have x4 : I (hb + 7) (6 * k + 4) = J0 1 (140 + 6 * k + 4) := (n1 _ _ (by omega)).trans (r 4 (by decide) (by decide))
        have x0 : I (hb + 7) (6 * k + 0) = J0 1 (140 + 6 * k + 0) := (n1 _ _ (by omega)).trans (r 0 (by decide) (by decide))
        refine ⟨fun q j hq => ?_, fun q j hq => ?_, fun s h1 h2 => ?_, fun t ht => ?_, ?_⟩
        · rw [g1, if_neg (by omega), if_neg (by omega), if_neg (by omega), if_neg (by omega), if_neg (by omega), if_neg (by omega)]; exact n1 q j hq
        · rw [e5, if_neg (by omega), b4', if_neg (by omega), if_neg (by omega), if_neg (by omega), if_neg (by omega)]; exact n2 q j hq
        · have q1 := n3 s h1 h2
          rw [g1, g1, g1, e5, e5, e5, b4', b4', b4']
          by_cases hs : s = z
          · subst hs
            refine ⟨?_, ?_, ?_⟩
            · rw [if_neg (by omega), if_neg (by omega), if_neg (by omega), if_neg (by omega), if_neg (by omega), if_pos ⟨rfl, rfl⟩, if_neg (by omega), if_neg (by omega), if_pos ⟨rfl, rfl⟩, q1.1]
            · rw [if_neg (by omega), if_neg (by omega), if_neg (by omega), if_neg (by omega), if_pos ⟨rfl, rfl⟩, if_neg (by omega), if_pos ⟨rfl, rfl⟩, q1.2.1, x4]
            · rw [if_neg (by omega), if_neg (by omega), if_neg (by omega), if_pos ⟨rfl, rfl⟩, q1.2.2, x4]
              exact (if_pos ⟨rfl, rfl⟩).symm
          · refine ⟨?_, ?_, ?_⟩
            · rw [if_neg (by omega), if_neg (by omega), if_neg (by omega), if_neg (by omega), if_neg (by omega), if_neg (by omega), if_neg (by omega), if_neg (by omega), if_neg (by omega), if_neg (by omega), if_neg (by omega)]; exact q1.1
            · rw [if_neg (by omega), if_neg (by omega), if_neg (by omega), if_neg (by omega), if_neg (by omega), if_neg (by omega), if_neg (by omega), if_neg (by omega), if_neg (by omega), if_neg (by omega), if_neg (by omega)]; exact q1.2.1
            · rw [if_neg (by omega), if_neg (by omega), if_neg (by omega), if_neg (by omega), if_neg (by omega), if_neg (by omega), if_neg (by omega), if_neg (by omega), if_neg (by omega), if_neg (by omega), if_neg (by omega)]; exact q1.2.2
        · have q1 := n4 t ht
          rw [g1, g1, e5, e5, b4', b4']
          by_cases hs : t = i
          · subst hs
            refine ⟨?_, ?_⟩
            · rw [if_neg (by omega), if_pos ⟨rfl, rfl⟩, if_neg (by omega), if_neg (by omega), if_neg (by omega), if_neg (by omega), if_pos ⟨rfl, rfl⟩]; exact x0
            · rw [if_pos ⟨rfl, rfl⟩, if_neg (by omega), if_neg (by omega), if_neg (by omega), if_pos ⟨rfl, rfl⟩]
          · refine ⟨?_, ?_⟩
            · rw [if_neg (by omega), if_neg (by omega), if_neg (by omega), if_neg (by omega), if_neg (by omega), if_neg (by omega), if_neg (by omega), if_neg (by omega), if_neg (by omega), if_neg (by omega), if_neg (by omega)]; exact q1.1
            · rw [if_neg (by omega), if_neg (by omega), if_neg (by omega), if_neg (by omega), if_neg (by omega), if_neg (by omega), if_neg (by omega), if_neg (by omega), if_neg (by omega), if_neg (by omega), if_neg (by omega)]; exact q1.2
        · rw [g1, if_neg (by omega), if_neg (by omega), if_pos ⟨rfl, rfl⟩, n5, wr32_wl]
          show _ = wr32 (I0 (hb + 10) 2 + (sm (I0 (oc + 3)) i + I0 (oc + 3) i))
          rw [k4, hz]
          exact congrArg wr32 (by omega)
      rw [show ((100 + z : Nat) : Int).toNat = 100 + z from rfl, c5]
      by_cases hl : J 1 (100 + z) < J0 1 (140 + 6 * k + 4)
      · rw [if_pos hl]
        refine pq_gr (fun _ => pq_zwr' (fun J5 e5 => ih m2 (i + 1) I1 J5 (by omega) (fin J5 (fun q j => ?_))))
        rw [e5, if_pos hl]
      · rw [if_neg hl]
        refine ih m2 (i + 1) I1 J4 (by omega) (fin J4 (fun q j => ?_))
        by_cases hq : q = 1 ∧ j = 100 + z
        · rw [if_pos hq, if_neg hl, hq.1, hq.2, c5]
        · rw [if_neg hq]
    · rw [if_neg h, if_neg h]
      refine hend I J ?_
      rw [show (J0 0 31).toNat = i by omega]
      exact hN
end
