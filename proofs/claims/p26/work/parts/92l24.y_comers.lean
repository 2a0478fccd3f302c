/-! comers by chances, turns: both sides -/
section
variable {fu oc hb : Nat} {I J : IMem}
theorem draw2 (hfu : 5000000000 < fu) (h : HG hb I J) (hb1 : hb = 1 ∨ hb = 82) : pq (f_H_draw fu hb 1000 I) (f_X_draw fu 0 1000 J) (fun x I' y J' => x = y ∧ HG hb I' J' ∧ (∀ j, j ≠ 0 → J' 1 j = J 1 j) ∧ (∀ q j, q ≠ hb → I' q j = I q j)) := by
  obtain ⟨⟨hR, hz, hA⟩, hG, hC⟩ := h
  have key : pq (f_H_draw fu hb 1000 I) (f_X_draw fu 0 1000 J) (fun x I' y J' => x = y ∧ HX hb I' J' ∧ (∀ j, j ≠ 0 → J' 1 j = J 1 j) ∧ (∀ q j, q ≠ hb → I' q j = I q j)) := by
    unfold f_H_draw f_X_draw
    obtain ⟨hS, hY, hP, hL, hW⟩ := hR
    have s0 : I hb 6 = J (0 + 1) 0 := hS.2.1
    rw [s0, Int.mul_comm 1664525 (J (0 + 1) 0)]
    refine pq_zwl' (fun I1 e1 => pq_zwr' (fun J1 e2 => ?_))
    rw [if_pos (by decide), zg_t (by decide), zg_t (by decide)]
    have r1 : I1 hb 6 = J1 (0 + 1) 0 := by rw [e1, if_pos ⟨rfl, rfl⟩, e2, if_pos ⟨rfl, rfl⟩]
    rw [r1]
    have io : ∀ q j, ¬ (q = hb ∧ j = 6) → I1 q j = I q j := fun q j a => by rw [e1, if_neg a]
    have jo : ∀ j, j ≠ 0 → J1 1 j = J 1 j := fun j a => by rw [e2, if_neg (by omega)]
    refine pq_end ⟨rfl, ⟨⟨?_, hy_mv hY (fun j => io _ _ (by omega)) (fun j a b => jo j (by omega)), hp_mv hP (fun j => ⟨io _ _ (by omega), io _ _ (by omega)⟩) (fun j a => jo j (by omega)), hl_mv hL (fun j => ⟨io _ _ (by omega), io _ _ (by omega)⟩) (fun j a b => jo j (by omega)), hw_mv hW (fun d j a b c => io _ _ (by omega)) (fun j a b => jo j (by omega))⟩, ?_, ?_, ?_⟩, jo, fun q j a => io q j (by omega)⟩
    · obtain ⟨a1, a2, a3, a4, a5, a6, a7⟩ := hS
      refine ⟨fun k hk => ?_, r1, ?_, fun k hk => ?_, fun k h3 h4 => ?_, fun k hk => ?_, fun k h3 h4 => ?_⟩
      · rw [io _ _ (by omega), jo _ (by omega)]; exact a1 k hk
      · rw [io _ _ (by omega), jo _ (by omega)]; exact a3
      · rw [io _ _ (by omega), jo _ (by omega)]; exact a4 k hk
      · rw [io _ _ (by omega), jo _ (by omega)]; exact a5 k h3 h4
      · rw [io _ _ (by omega), jo _ (by omega)]; exact a6 k hk
      · rw [io _ _ (by omega), jo _ (by omega)]; exact a7 k h3 h4
    · rw [io _ _ (by omega), e2, if_neg (by omega)]; exact hz
    · rw [io _ _ (by omega)]; exact hA.1
    · rw [io _ _ (by omega)]; exact hA.2
  have hok : hb = 1 ∨ hb = 41 ∨ hb = 82 := by omega
  refine pq_mono (pq_al (pq_ar key (par_sat (ok_X_draw fu 0 1000 J hfu hG (lit_in rfl) (by decide)))) (P := fun _ I' => GC I') (fun x I' e => ?_)) (fun x I' y J' ⟨⟨⟨k1, k2, k4, k5⟩, _, k3, _⟩, k6⟩ => ⟨k1, ⟨k2, k3, k6⟩, k4, k5⟩)
  have : par (f_H_draw fu hb 1000 I) (fun _ I' => GC I') := by
    unfold f_H_draw
    refine par_zw ?_
    rw [if_pos (by decide), zg_t (by decide)]
    exact par_zr (gc_up hC (wr32_in _) (Or.inl (by omega)))
  exact this x I' e
theorem comers2 {Q : Int → IMem → Int → IMem → Prop} (hfu : 5000000000 < fu) (hb1 : hb = 1 ∨ hb = 82) (c0 : Int) (kX : IMem → Res) (hend : ∀ I J, HG hb I J → J 1 70 = c0 → pq (zr 0 I) (kX J) Q) : ∀ (m m2 k : Nat) (I J : IMem), k ≤ 8 → HG hb I J → J 1 70 = c0 → pq (f_H_letComersEnter_2 fu hb m ((4 * k : Nat) : Int) I) (f_X_turn_2 fu kX 0 m2 (k : Int) J) Q := by
  intro m
  induction m with
  | zero => intro _ _ _ _ _ _ _; exact pq_nl
  | succ m ih =>
    intro m2 k I J hk h h70
    cases m2 with
    | zero => exact pq_nr
    | succ m2 =>
    show pq (fb_H_letComersEnter_2 fu hb (f_H_letComersEnter_2 fu hb m) ((4 * k : Nat) : Int) I) (fb_X_turn_2 fu kX 0 (f_X_turn_2 fu kX 0 m2) (k : Int) J) Q
    unfold fb_H_letComersEnter_2 fb_X_turn_2
    have h' := h
    obtain ⟨⟨⟨hS, hY, hP, hL, hW⟩, hz, hA⟩, hG, hC⟩ := h'
    have hok : hb = 1 ∨ hb = 41 ∨ hb = 82 := by omega
    have w1 : Wq (wr32 (((4 * k : Nat) : Int) + 3)) (((4 * k + 3 : Nat) : Int)) := by show wr32 (((4 * k : Nat) : Int) + 3) = ((4 * k + 3 : Nat) : Int); rw [wr32_i2 (by omega) (by omega)]; omega
    have w2 : Wq (wr32 (((4 * k : Nat) : Int) + 1)) (((4 * k + 1 : Nat) : Int)) := by show wr32 (((4 * k : Nat) : Int) + 1) = ((4 * k + 1 : Nat) : Int); rw [wr32_i2 (by omega) (by omega)]; omega
    have w3 : Wq (wr32 (((4 * k : Nat) : Int) + 2)) (((4 * k + 2 : Nat) : Int)) := by show wr32 (((4 * k : Nat) : Int) + 2) = ((4 * k + 2 : Nat) : Int); rw [wr32_i2 (by omega) (by omega)]; omega
    have w4 : Wq (wr32 (((4 * k : Nat) : Int) + 4)) (((4 * (k + 1) : Nat) : Int)) := by show wr32 (((4 * k : Nat) : Int) + 4) = ((4 * (k + 1) : Nat) : Int); rw [wr32_i2 (by omega) (by omega)]; omega
    have v0 : Wq (wr32 (26 + wr32 (4 * (k : Int)))) (((26 + 4 * k : Nat) : Int)) := by show wr32 (26 + wr32 (4 * (k : Int))) = ((26 + 4 * k : Nat) : Int); rw [wr32_i2 (x := 4 * (k : Int)) (by omega) (by omega), wr32_i2 (by omega) (by omega)]; omega
    have v1 : Wq (wr32 (((26 + 4 * k : Nat) : Int) + 1)) (((26 + 4 * k + 1 : Nat) : Int)) := by show wr32 (((26 + 4 * k : Nat) : Int) + 1) = ((26 + 4 * k + 1 : Nat) : Int); rw [wr32_i2 (by omega) (by omega)]; omega
    have v2 : Wq (wr32 (((26 + 4 * k : Nat) : Int) + 2)) (((26 + 4 * k + 2 : Nat) : Int)) := by show wr32 (((26 + 4 * k : Nat) : Int) + 2) = ((26 + 4 * k + 2 : Nat) : Int); rw [wr32_i2 (by omega) (by omega)]; omega
    have v3 : Wq (wr32 (((26 + 4 * k : Nat) : Int) + 3)) (((26 + 4 * k + 3 : Nat) : Int)) := by show wr32 (((26 + 4 * k : Nat) : Int) + 3) = ((26 + 4 * k + 3 : Nat) : Int); rw [wr32_i2 (by omega) (by omega)]; omega
    have wn : Wq (wr32 ((k : Int) + 1)) (((k + 1 : Nat) : Int)) := by show wr32 ((k : Int) + 1) = ((k + 1 : Nat) : Int); rw [wr32_i2 (by omega) (by omega)]; rfl
    simp only [zl_e, zj_e, Nat.zero_add]
    rw [w1.e, w2.e, w3.e, w4.e, v0.e, v1.e, v2.e, v3.e, wn.e]
    clear w1 w2 w3 w4 v0 v1 v2 v3 wn
    by_cases h8 : k < 8
    · rw [if_pos (show ((4 * k + 3 : Nat) : Int) < 32 by omega), if_pos (show (k : Int) < 8 by omega)]
      refine pq_gl (fun _ => pq_gr (fun _ => ?_))
      rw [tn, tn, tn, tn, tn, tn]
      have cm : ∀ i, i < 4 → I (hb + 4) (4 * k + i) = J 1 (26 + 4 * k + i) := fun i hi => by
        rw [hS.2.2.2.2.2.1 _ (by omega)]; exact congrArg _ (by omega)
      have c3 := cm 3 (by decide)
      rw [c3]
      have nxt : ∀ I1 J1, HG hb I1 J1 → J1 1 70 = c0 → pq (f_H_letComersEnter_2 fu hb m ((4 * (k + 1) : Nat) : Int) I1) (f_X_turn_2 fu kX 0 m2 ((k + 1 : Nat) : Int) J1) Q := fun I1 J1 a b => ih m2 (k + 1) I1 J1 h8 a b
      by_cases hp : 0 < J 1 (26 + 4 * k + 3)
      · rw [if_pos hp, if_pos hp]
        refine pq_b (draw2 (fu := fu) hfu h hb1) (fun x I1 y J1 _ _ ⟨d1, d2, d3, d4⟩ => ?_)
        subst d1
        refine pq_gr (fun _ => ?_)
        rw [d3 _ (by omega)]
        have j70 : J1 1 70 = c0 := (d3 70 (by decide)).trans h70
        by_cases hx : x < J 1 (26 + 4 * k + 3)
        · rw [if_pos hx, if_pos hx]
          refine pq_gl (fun _ => pq_gl (fun _ => pq_gl (fun _ => pq_gr (fun _ => pq_gr (fun _ => pq_gr (fun _ => ?_))))))
          have e0 : I1 (hb + 4) (4 * k) = J1 1 (26 + 4 * k) := by rw [d4 _ _ (by omega), d3 _ (by omega)]; exact cm 0 (by decide)
          have e1 : I1 (hb + 4) (4 * k + 1) = J1 1 (26 + 4 * k + 1) := by rw [d4 _ _ (by omega), d3 _ (by omega)]; exact cm 1 (by decide)
          have e2 : I1 (hb + 4) (4 * k + 2) = J1 1 (26 + 4 * k + 2) := by rw [d4 _ _ (by omega), d3 _ (by omega)]; exact cm 2 (by decide)
          rw [e0, e1, e2]
          obtain ⟨hX1, hG1, hC1⟩ := d2
          have wx := hG1.2.1.2.2.2.1 k h8
          have z1 : 1 ≤ J1 1 (26 + 4 * k) ∧ J1 1 (26 + 4 * k) ≤ 8 := wx (by
            show 0 < J1 1 (29 + 4 * k)
            rw [d3 _ (by omega), show 29 + 4 * k = 26 + 4 * k + 3 by omega]; exact hp)
          refine pq_b (pq_al (pq_ar (enter2 (fu := fu) (hb := hb) (size := J1 1 (26 + 4 * k)) (says := J1 1 (26 + 4 * k + 1)) (sort := J1 1 (26 + 4 * k + 2)) hX1 hG1.1) (par_sat (ok_X_comes fu 0 _ _ _ J1 hfu hG1 (hG1.1 _ _) (hG1.1 _ _) (hG1.1 _ _) z1))) (par_sat (ok_H_enter fu hb _ _ _ I1 hfu hC1 hok (hG1.1 _ _) (hG1.1 _ _) (hG1.1 _ _)))) (fun x2 I2 y2 J2 _ _ ⟨⟨⟨f1, f2⟩, _, f3, f4, _⟩, _, f5, _⟩ => ?_)
          exact nxt I2 J2 ⟨f2, f3, f5⟩ ((f4 70 (by decide) (by decide)).trans j70)
        · rw [if_neg hx, if_neg hx]
          exact nxt I1 J1 d2 j70
      · rw [if_neg hp, if_neg hp]
        exact nxt I J h h70
    · rw [if_neg (by omega), if_neg (by omega)]
      exact hend I J h h70
/-- nobody is picked -/
def ZPK (J : IMem) : Prop := (∀ j, j < 240 → J 13 j = 0) ∧ J 0 35 = 0
/-- the comers, then a chair -/
theorem turn2 (ho : OCH oc hb) (hfu : 5000000000 < fu) (h : HG hb I J) (hc : J 1 70 < 2000000000) : pq (zb (f_H_letComersEnter fu hb I) fun _ I2 => zb (f_C_fill fu oc hb I2) fun _ I5 => zb (f_C_leave fu oc hb I5) fun y7 I8 => zr y7 I8) (f_X_turn fu 0 J) (fun x I' y J' => x = y ∧ HG hb I' J' ∧ ZPK J' ∧ J' 1 70 = J 1 70 + 1) := by
  have hb1 : hb = 1 ∨ hb = 82 := by unfold OCH at ho; omega
  unfold f_X_turn f_H_letComersEnter
  intro x I9 y J9 e1 e2
  obtain ⟨v, I1, e3, e4⟩ := of_zb e1
  refine comers2 (fu := fu) (Q := fun _ I1 y J9 => ∀ x I9, (zb (f_C_fill fu oc hb I1) fun _ I5 => zb (f_C_leave fu oc hb I5) fun y7 I8 => zr y7 I8) = some (x, I9) → (x = y ∧ HG hb I9 J9 ∧ ZPK J9 ∧ J9 1 70 = J 1 70 + 1)) hfu hb1 (J 1 70) _ (fun I2 J2 h2 h3 => ?_) fu fu 0 I J (by decide) h rfl v I1 y J9 e3 e2 x I9 e4
  intro v' I' y' J' e5 e6
  cases e5
  intro x' I9' e7
  obtain ⟨y8, J8, e8, e9⟩ := of_zb e6
  cases e9
  have g := ride2 (fu := fu) ho hfu h2 (by rw [h3]; exact hc) x' I9' y' J' (by unfold f_C_ride; exact e7) e8
  exact ⟨g.1, g.2.1, ⟨g.2.2.1, g.2.2.2.1⟩, by rw [g.2.2.2.2.1, h3]⟩
theorem turns2 (ho : OCH oc hb) (hfu : 5000000000 < fu) (n : Int) (hn : n ≤ 60) : ∀ (m m2 i : Nat) (w : Int) (I J : IMem), (i : Int) ≤ 60 → HG hb I J → J 1 70 + 60 < 2000000000 + i → ((i : Int) < n ∨ ZPK J) → pq (f_C_turns_5 fu oc hb n m w (i : Int) I) (f_X_run_16 fu 0 n m2 w (i : Int) J) (fun x I' y J' => x = y ∧ HG hb I' J' ∧ ZPK J') := by
  intro m
  induction m with
  | zero => intro _ _ _ _ _ _ _ _ _; exact pq_nl
  | succ m ih =>
    intro m2 i w I J hi h hc hz
    cases m2 with
    | zero => exact pq_nr
    | succ m2 =>
      show pq (fb_C_turns_5 fu oc hb n (f_C_turns_5 fu oc hb n m) w (i : Int) I) (fb_X_run_16 fu 0 n (f_X_run_16 fu 0 n m2) w (i : Int) J) _
      unfold fb_C_turns_5 fb_X_run_16
      by_cases hin : (i : Int) < n
      · rw [if_pos hin, if_pos hin]
        have w1 : Wq (wr32 ((i : Int) + 1)) (((i + 1 : Nat) : Int)) := by show wr32 ((i : Int) + 1) = ((i + 1 : Nat) : Int); rw [wr32_i2 (by omega) (by omega)]; rfl
        simp only [zl_e]
        rw [w1.e]
        clear w1
        intro x I9 y J9 e1 e2
        obtain ⟨v1, I1, e3, e4⟩ := of_zb e1
        obtain ⟨v2, I2, e5, e6⟩ := of_zb e4
        obtain ⟨v3, I3, e7, e8⟩ := of_zb e6
        obtain ⟨y1, J1, e9, e10⟩ := of_zb e2
        have g := turn2 ho hfu h (show J 1 70 < 2000000000 by omega) v3 I3 y1 J1 (by rw [e3]; show zb (f_C_fill fu oc hb I1) _ = _; rw [e5]; show zb (f_C_leave fu oc hb I2) _ = _; rw [e7]; rfl) e9
        obtain ⟨g1, g2, g4, g3⟩ := g
        subst g1
        exact ih m2 (i + 1) (wr32 (w + v3)) I3 J1 (by omega) g2 (by rw [g3]; omega) (Or.inr g4) x I9 y J9 e8 e10
      · rw [if_neg hin, if_neg hin]
        exact pq_end ⟨rfl, h, hz.resolve_left hin⟩
end
