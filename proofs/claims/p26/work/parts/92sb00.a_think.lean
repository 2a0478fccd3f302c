/-! in thought: both sides -/
/-- a sum from i on, a greatest from i on -/
def sfo (c : Nat → Int) : Nat → Nat → Int → Int
  | 0, _, w => w
  | n + 1, i, w => sfo c n (i + 1) (wr32 (w + c i))
def mfo (c : Nat → Int) : Nat → Nat → Int → Int
  | 0, _, w => w
  | n + 1, i, w => mfo c n (i + 1) (if w < c i then c i else w)
theorem sfo_eq {c d : Nat → Int} : ∀ (n i : Nat) (w : Int), (∀ s, i ≤ s → s < i + n → c s = d s) → sfo c n i w = sfo d n i w := by
  intro n
  induction n with
  | zero => intro _ _ _; rfl
  | succ n ih =>
    intro i w h
    show sfo c n (i + 1) (wr32 (w + c i)) = sfo d n (i + 1) (wr32 (w + d i))
    rw [h i (Nat.le_refl _) (by omega)]
    exact ih (i + 1) _ (fun s h1 h2 => h s (by omega) (by omega))
theorem mfo_eq {c d : Nat → Int} : ∀ (n i : Nat) (w : Int), (∀ s, i ≤ s → s < i + n → c s = d s) → mfo c n i w = mfo d n i w := by
  intro n
  induction n with
  | zero => intro _ _ _; rfl
  | succ n ih =>
    intro i w h
    show mfo c n (i + 1) (if w < c i then c i else w) = mfo d n (i + 1) (if w < d i then d i else w)
    rw [h i (Nat.le_refl _) (by omega)]
    exact ih (i + 1) _ (fun s h1 h2 => h s (by omega) (by omega))
section
variable {fu : Nat} {I J : IMem}
theorem cv_aw4 (o : Nat) (I : IMem) : ∀ (m n i : Nat) (w : Int), i + n = 9 → par (f_M_allWait_4 fu o m w (i : Int) I) (fun v I' => v = sfo (fun s => I (o + 10) (20 + s)) n i w ∧ I' = I) := by
  intro m
  induction m with
  | zero => intro _ _ _ _; exact par_none
  | succ m ih =>
    intro n i w hi
    show par (fb_M_allWait_4 fu o (f_M_allWait_4 fu o m) w (i : Int) I) _
    unfold fb_M_allWait_4
    cases n with
    | zero =>
      rw [if_pos (by omega)]
      exact par_zr ⟨rfl, rfl⟩
    | succ n =>
      rw [if_neg (by omega)]
      have w1 : Wq (wr32 (20 + (i : Int))) (((20 + i : Nat) : Int)) := by show wr32 (20 + (i : Int)) = ((20 + i : Nat) : Int); rw [wr32_i2 (by omega) (by omega)]; omega
      have w2 : Wq (wr32 ((i : Int) + 1)) (((i + 1 : Nat) : Int)) := by show wr32 ((i : Int) + 1) = ((i + 1 : Nat) : Int); rw [wr32_i2 (by omega) (by omega)]; rfl
      simp only [zl_e]
      rw [w1.e, w2.e]
      have g := ih n (i + 1) (wr32 (w + I (o + 10) (20 + i))) (by omega)
      exact par_zg (fun _ => g)
theorem cv_lg4 (o : Nat) (I : IMem) : ∀ (m n i : Nat) (w : Int), i + n = 9 → par (f_M_longest_4 fu o m w (i : Int) I) (fun v I' => v = mfo (fun s => I (o + 11) (30 + s)) n i w ∧ I' = I) := by
  intro m
  induction m with
  | zero => intro _ _ _ _; exact par_none
  | succ m ih =>
    intro n i w hi
    show par (fb_M_longest_4 fu o (f_M_longest_4 fu o m) w (i : Int) I) _
    unfold fb_M_longest_4
    cases n with
    | zero =>
      rw [if_pos (by omega)]
      exact par_zr ⟨rfl, rfl⟩
    | succ n =>
      rw [if_neg (by omega)]
      have w1 : Wq (wr32 (30 + (i : Int))) (((30 + i : Nat) : Int)) := by show wr32 (30 + (i : Int)) = ((30 + i : Nat) : Int); rw [wr32_i2 (by omega) (by omega)]; omega
      have w2 : Wq (wr32 ((i : Int) + 1)) (((i + 1 : Nat) : Int)) := by show wr32 ((i : Int) + 1) = ((i + 1 : Nat) : Int); rw [wr32_i2 (by omega) (by omega)]; rfl
      simp only [zl_e]
      rw [w1.e, w2.e]
      refine par_zg (fun _ => ?_)
      rw [ev_max, zb_zr]
      exact ih n (i + 1) (if w < I (o + 11) (30 + i) then I (o + 11) (30 + i) else w) (by omega)
theorem xv_sm4 (J : IMem) : ∀ (m n i : Nat) (w : Int), i + n = 9 → par (f_X_sum_4 fu 0 90 m w (i : Int) J) (fun v J' => v = sfo (fun s => J 1 (90 + s)) n i w ∧ J' = J) := by
  intro m
  induction m with
  | zero => intro _ _ _ _; exact par_none
  | succ m ih =>
    intro n i w hi
    show par (fb_X_sum_4 fu 0 90 (f_X_sum_4 fu 0 90 m) w (i : Int) J) _
    unfold fb_X_sum_4
    cases n with
    | zero =>
      rw [if_pos (by omega)]
      exact par_zr ⟨rfl, rfl⟩
    | succ n =>
      rw [if_neg (by omega)]
      have w1 : Wq (wr32 (90 + (i : Int))) (((90 + i : Nat) : Int)) := by show wr32 (90 + (i : Int)) = ((90 + i : Nat) : Int); rw [wr32_i2 (by omega) (by omega)]; omega
      have w2 : Wq (wr32 ((i : Int) + 1)) (((i + 1 : Nat) : Int)) := by show wr32 ((i : Int) + 1) = ((i + 1 : Nat) : Int); rw [wr32_i2 (by omega) (by omega)]; rfl
      simp only [zl_e]
      rw [w1.e, w2.e]
      have g := ih n (i + 1) (wr32 (w + J 1 (90 + i))) (by omega)
      exact par_zg (fun _ => g)
theorem xv_lg4 (J : IMem) : ∀ (m n i : Nat) (w : Int), i + n = 9 → par (f_X_longest_4 fu 0 m w (i : Int) J) (fun v J' => v = mfo (fun s => J 1 (100 + s)) n i w ∧ J' = J) := by
  intro m
  induction m with
  | zero => intro _ _ _ _; exact par_none
  | succ m ih =>
    intro n i w hi
    show par (fb_X_longest_4 fu 0 (f_X_longest_4 fu 0 m) w (i : Int) J) _
    unfold fb_X_longest_4
    cases n with
    | zero =>
      rw [if_pos (by omega)]
      exact par_zr ⟨rfl, rfl⟩
    | succ n =>
      rw [if_neg (by omega)]
      have w1 : Wq (wr32 (100 + (i : Int))) (((100 + i : Nat) : Int)) := by show wr32 (100 + (i : Int)) = ((100 + i : Nat) : Int); rw [wr32_i2 (by omega) (by omega)]; omega
      have w2 : Wq (wr32 ((i : Int) + 1)) (((i + 1 : Nat) : Int)) := by show wr32 ((i : Int) + 1) = ((i + 1 : Nat) : Int); rw [wr32_i2 (by omega) (by omega)]; rfl
      simp only [zl_e, zj_e]
      rw [w1.e, w2.e]
      refine par_zg (fun _ => ?_)
      have g := ih n (i + 1) (if w < J 1 (100 + i) then J 1 (100 + i) else w) (by omega)
      have e : mfo (fun s => J 1 (100 + s)) (n + 1) i w = mfo (fun s => J 1 (100 + s)) n (i + 1) (if w < J 1 (100 + i) then J 1 (100 + i) else w) := rfl
      rw [e]
      show par (if w < J 1 (100 + i) then _ else _) _
      refine par_ite (fun q => ?_) (fun q => ?_)
      · rw [if_pos q] at g ⊢
        exact par_zg (fun _ => g)
      · rw [if_neg q] at g ⊢
        exact g
/-- what came, by the class's memory -/
def GNv (I : IMem) (k : Nat) : Int := if k = 0 then wr32 (I 92 1 - I 11 1) else if k = 1 then wr32 (I 92 2 - I 11 2) else if k = 2 then wr32 (sfo (fun s => I 92 (20 + s)) 8 1 0 - sfo (fun s => I 11 (20 + s)) 8 1 0) else if k = 3 then wr32 (I 92 6 - I 11 6) else if k = 4 then wr32 (I 92 5 - I 11 5) else mfo (fun s => I 92 (30 + s)) 8 1 0
theorem gnv0 (I : IMem) : GNv I 0 = wr32 (I 92 1 - I 11 1) := if_pos rfl
theorem gnv1 (I : IMem) : GNv I 1 = wr32 (I 92 2 - I 11 2) := (if_neg (by decide)).trans (if_pos rfl)
theorem gnv2 (I : IMem) : GNv I 2 = wr32 (sfo (fun s => I 92 (20 + s)) 8 1 0 - sfo (fun s => I 11 (20 + s)) 8 1 0) := (if_neg (by decide)).trans ((if_neg (by decide)).trans (if_pos rfl))
theorem gnv3 (I : IMem) : GNv I 3 = wr32 (I 92 6 - I 11 6) := (if_neg (by decide)).trans ((if_neg (by decide)).trans ((if_neg (by decide)).trans (if_pos rfl)))
theorem gnv4 (I : IMem) : GNv I 4 = wr32 (I 92 5 - I 11 5) := (if_neg (by decide)).trans ((if_neg (by decide)).trans ((if_neg (by decide)).trans ((if_neg (by decide)).trans (if_pos rfl))))
theorem gnv5 (I : IMem) : GNv I 5 = mfo (fun s => I 92 (30 + s)) 8 1 0 := (if_neg (by decide)).trans ((if_neg (by decide)).trans ((if_neg (by decide)).trans ((if_neg (by decide)).trans (if_neg (by decide)))))
theorem cv_gain (a : Int) (ha : 0 ≤ a ∧ a ≤ 5) (I : IMem) : par (f_M_gained fu 81 1 a I) (fun v I' => v = GNv I a.toNat ∧ I' = I) := by
  unfold f_M_gained f_M_allWait f_M_longest
  rcases (show a = 0 ∨ a = 1 ∨ a = 2 ∨ a = 3 ∨ a = 4 ∨ a = 5 by omega) with rfl | rfl | rfl | rfl | rfl | rfl
  · rw [if_pos rfl]
    exact par_zr ⟨(gnv0 I).symm, rfl⟩
  · rw [if_neg (by decide), if_pos rfl]
    exact par_zr ⟨(gnv1 I).symm, rfl⟩
  · rw [if_neg (by decide), if_neg (by decide), if_pos rfl]
    refine par_zb (cv_aw4 (81 + 1) I fu 8 1 0 (by decide)) (fun y4 I5 ⟨e1, e2⟩ => ?_)
    rw [e2]
    refine par_zb (cv_aw4 1 I fu 8 1 0 (by decide)) (fun y7 I8 ⟨e3, e4⟩ => ?_)
    rw [e4, e1, e3]
    exact par_zr ⟨(gnv2 I).symm, rfl⟩
  · rw [if_neg (by decide), if_neg (by decide), if_neg (by decide), if_pos rfl]
    exact par_zr ⟨(gnv3 I).symm, rfl⟩
  · rw [if_neg (by decide), if_neg (by decide), if_neg (by decide), if_neg (by decide), if_pos rfl]
    exact par_zr ⟨(gnv4 I).symm, rfl⟩
  · rw [if_neg (by decide), if_neg (by decide), if_neg (by decide), if_neg (by decide), if_neg (by decide)]
    refine par_zb (cv_lg4 81 I fu 8 1 0 (by decide)) (fun y4 I5 ⟨e1, e2⟩ => ?_)
    rw [e2, e1]
    exact par_zr ⟨(gnv5 I).symm, rfl⟩
/-- the end of leads -/
def xLT (fu : Nat) (y4 : Int) (I14 : IMem) : Res :=
      zw I14 (0 + 25) 0 (wr32 ((I14 (0 + 1) 71) - (I14 (0 + 3) 71))) fun I15 =>
      zw I15 (0 + 25) 1 (wr32 ((I15 (0 + 1) 72) - (I15 (0 + 3) 72))) fun I16 =>
      zb (f_X_sum fu 0 90 I16) fun y17 I18 =>
      zw I18 (0 + 25) 2 (wr32 (y17 - y4)) fun I20 =>
      zw I20 (0 + 25) 3 (wr32 ((I20 (0 + 1) 76) - (I20 (0 + 3) 76))) fun I21 =>
      zw I21 (0 + 25) 4 (wr32 ((I21 (0 + 1) 75) - (I21 (0 + 3) 75))) fun I22 =>
      zb (f_X_longest fu 0 I22) fun y23 I24 =>
      zw I24 (0 + 25) 5 y23 fun I26 =>
      zb (f_X_comesBack fu 0 I26) fun _ I28 =>
      zr 0 I28
theorem leads_eq (fu : Nat) (a1 a2 a3 a4 : Int) (J : IMem) : f_X_leads fu 0 a1 a2 a3 a4 J = zb (f_X_setsOut fu 0 J) fun _ I2 => zb (f_X_sum fu 0 90 I2) fun y4 I5 => zw I5 (0 + 1) 6 a1 fun I7 => zw I7 (0 + 1) 5 a2 fun I8 => zw I8 (0 + 1) 1 a3 fun I9 => f_X_leads_37 fu (xLT fu y4) 0 a4 y4 fu 0 I9 := rfl
theorem xv_lt (y4 : Int) (J : IMem) : par (xLT fu y4 J) (fun _ J' => J' 25 0 = wr32 (J 1 71 - J 3 71) ∧ J' 25 1 = wr32 (J 1 72 - J 3 72) ∧ J' 25 2 = wr32 (sfo (fun s => J 1 (90 + s)) 8 1 0 - y4) ∧ J' 25 3 = wr32 (J 1 76 - J 3 76) ∧ J' 25 4 = wr32 (J 1 75 - J 3 75) ∧ J' 25 5 = mfo (fun s => J 1 (100 + s)) 8 1 0) := by
  unfold xLT f_X_sum f_X_longest
  simp only [Nat.zero_add]
  refine par_zw' (fun J1 e1 => par_zw' (fun J2 e2 => par_zb (xv_sm4 J2 fu 8 1 0 (by decide)) (fun y17 J3 ⟨e3, e4⟩ => ?_)))
  rw [e4]
  refine par_zw' (fun J5 e5 => par_zw' (fun J6 e6 => par_zw' (fun J7 e7 => par_zb (xv_lg4 J7 fu 8 1 0 (by decide)) (fun y23 J8 ⟨e8, e9⟩ => ?_))))
  rw [e9]
  refine par_zw' (fun J10 e10 => ?_)
  have f1 : ∀ q j, q ≠ 25 → J1 q j = J q j := fun q j h => by rw [e1, if_neg (by omega)]
  have f2 : ∀ q j, q ≠ 25 → J2 q j = J q j := fun q j h => by rw [e2, if_neg (by omega)]; exact f1 q j h
  have f5 : ∀ q j, q ≠ 25 → J5 q j = J q j := fun q j h => by rw [e5, if_neg (by omega)]; exact f2 q j h
  have f6 : ∀ q j, q ≠ 25 → J6 q j = J q j := fun q j h => by rw [e6, if_neg (by omega)]; exact f5 q j h
  have f7 : ∀ q j, q ≠ 25 → J7 q j = J q j := fun q j h => by rw [e7, if_neg (by omega)]; exact f6 q j h
  have s3 : y17 = sfo (fun s => J 1 (90 + s)) 8 1 0 := e3.trans (sfo_eq 8 1 0 (fun s _ _ => f2 _ _ (by decide)))
  have s8 : y23 = mfo (fun s => J 1 (100 + s)) 8 1 0 := e8.trans (mfo_eq 8 1 0 (fun s _ _ => f7 _ _ (by decide)))
  refine par_zb (Q1 := fun _ J' => ∀ j, J' 25 j = J10 25 j) (fun v J11 e j => fc_X_comesBack (fun q _ => q ≠ 25) fu 0 J10 (fun _ => by omega) (fun _ => by omega) (fun _ => by omega) (by omega) e 25 j (by omega)) (fun _ J11 g => par_zr ⟨?_, ?_, ?_, ?_, ?_, ?_⟩)
  · rw [g, e10, if_neg (by omega), e7, if_neg (by omega), e6, if_neg (by omega), e5, if_neg (by omega), e2, if_neg (by omega), e1, if_pos ⟨rfl, rfl⟩]
  · rw [g, e10, if_neg (by omega), e7, if_neg (by omega), e6, if_neg (by omega), e5, if_neg (by omega), e2, if_pos ⟨rfl, rfl⟩, f1 _ _ (by decide), f1 _ _ (by decide)]
  · rw [g, e10, if_neg (by omega), e7, if_neg (by omega), e6, if_neg (by omega), e5, if_pos ⟨rfl, rfl⟩, s3]
  · rw [g, e10, if_neg (by omega), e7, if_neg (by omega), e6, if_pos ⟨rfl, rfl⟩, f5 _ _ (by decide), f5 _ _ (by decide)]
  · rw [g, e10, if_neg (by omega), e7, if_pos ⟨rfl, rfl⟩, f6 _ _ (by decide), f6 _ _ (by decide)]
  · rw [g, e10, if_pos ⟨rfl, rfl⟩, s8]
/-- turns in the dream, turns of the reference -/
theorem leads37 {Q : Int → IMem → Int → IMem → Prop} (hfu : 5000000000 < fu) (n p5 : Int) (c : Nat → Int) (kk : IMem → Res) (hend : ∀ I J : IMem, HG 82 I J → (∀ j, J 3 j = c j) → pq (zr 0 I) (kk J) Q) : ∀ (m m2 i : Nat) (w : Int) (I J : IMem), (i : Int) ≤ 60 → n ≤ 60 → HG 82 I J → (∀ j, J 3 j = c j) → J 1 70 + 60 < 2000000000 + i → pq (zb (f_C_turns_5 fu 122 82 n m w (i : Int) I) fun _ I8 => zr 0 I8) (f_X_leads_37 fu kk 0 n p5 m2 (i : Int) J) Q := by
  intro m
  induction m with
  | zero => intro _ _ _ _ _ _ _ _ _ _; exact pq_nl
  | succ m ih =>
    intro m2 i w I J hi hn h h3 hc
    cases m2 with
    | zero => exact pq_nr
    | succ m2 =>
      show pq (zb (fb_C_turns_5 fu 122 82 n (f_C_turns_5 fu 122 82 n m) w (i : Int) I) fun _ I8 => zr 0 I8) (fb_X_leads_37 fu kk 0 n p5 (f_X_leads_37 fu kk 0 n p5 m2) (i : Int) J) _
      unfold fb_C_turns_5 fb_X_leads_37
      by_cases hin : (i : Int) < n
      · rw [if_pos hin, if_pos hin]
        have w1 : Wq (wr32 ((i : Int) + 1)) (((i + 1 : Nat) : Int)) := by show wr32 ((i : Int) + 1) = ((i + 1 : Nat) : Int); rw [wr32_i2 (by omega) (by omega)]; rfl
        simp only [zl_e]
        rw [w1.e]
        clear w1
        intro x I9 y J9 e1 e2
        obtain ⟨v0, I0, e0, e00⟩ := of_zb e1
        obtain ⟨v1, I1, e3, e4⟩ := of_zb e0
        obtain ⟨v2, I2, e5, e6⟩ := of_zb e4
        obtain ⟨v3, I3, e7, e8⟩ := of_zb e6
        obtain ⟨y1, J1, e9, e10⟩ := of_zb e2
        have g := turn2 (oc := 122) (hb := 82) (Or.inl ⟨rfl, rfl⟩) hfu h (show J 1 70 < 2000000000 by omega) v3 I3 y1 J1 (by rw [e3]; show zb (f_C_fill fu 122 82 I1) _ = _; rw [e5]; show zb (f_C_leave fu 122 82 I2) _ = _; rw [e7]; rfl) e9
        obtain ⟨g1, g2, g4, g3⟩ := g
        have f3 : ∀ j, J1 3 j = J 3 j := fun j => fc_X_turn (fun q _ => q ≠ 3) fu 0 J (fun _ => by omega) (fun _ => by omega) (fun _ => by omega) (fun _ => by omega) (fun _ => by omega) (fun _ => by omega) (fun _ => by omega) (fun _ => by omega) (by omega) (by omega) (by omega) (by omega) (by omega) (by omega) (by omega) (by omega) (by omega) (by omega) (by omega) (by omega) (by omega) (by omega) (by omega) (by omega) (by omega) (by omega) e9 3 j (by omega)
        refine ih m2 (i + 1) (wr32 (w + v3)) I3 J1 (by omega) hn g2 (fun j => (f3 j).trans (h3 j)) (by rw [g3]; omega) x I9 y J9 ?_ e10
        rw [e8]
        exact e00
      · rw [if_neg hin, if_neg hin]
        exact hend I J h h3
/-- what came, on both sides -/
def GNx (I' J J' : IMem) : Prop := (J' 25 0 = wr32 (I' 92 1 - J 1 71) ∧ J' 25 1 = wr32 (I' 92 2 - J 1 72) ∧ J' 25 2 = wr32 (sfo (fun s => I' 92 (20 + s)) 8 1 0 - sfo (fun s => J 1 (90 + s)) 8 1 0) ∧ J' 25 3 = wr32 (I' 92 6 - J 1 76) ∧ J' 25 4 = wr32 (I' 92 5 - J 1 75) ∧ J' 25 5 = mfo (fun s => I' 92 (30 + s)) 8 1 0) ∧ HA 82 I'
theorem lead_core {r b s n : Int} {I6 : IMem} (hfu : 5000000000 < fu) (hG : GX 0 J) (hC : GC I6) (hX : ∀ J9 : IMem, (∀ q j, q ≠ 3 → q ≠ 23 → q ≠ 24 → ¬ (q = 0 ∧ j = 50) → J9 q j = if q = 1 ∧ j = 1 then s else if q = 1 ∧ j = 5 then b else if q = 1 ∧ j = 6 then r else J q j) → HX 82 I6 J9) (hr : 0 ≤ r ∧ r ≤ 3) (hb : inr b) (hs : 2 ≤ s ∧ s ≤ 8) (hn : n ≤ 60) (hc : J 1 70 + 60 < 2000000000) : pq (zb (f_C_turns fu 122 82 n I6) fun _ I8 => zr 0 I8) (f_X_leads fu 0 r b s n J) (fun _ I' _ J' => GNx I' J J') := by
  rw [leads_eq]
  unfold f_C_turns f_X_sum
  refine pq_br (par_sat (ok_X_setsOut fu 0 J hfu hG)) (fun _ J2 _ ⟨_, hG2, so⟩ => ?_)
  refine pq_br (xv_sm4 J2 fu 8 1 0 (by decide)) (fun y4 J5 _ ⟨e4, e5⟩ => ?_)
  rw [e5]
  have g7 : GX 0 (up J2 (0 + 1) 6 r) := GX_up1 hG2 (by unfold inr; omega) (cw_6 ⟨rfl, hr⟩)
  have g8 : GX 0 (up (up J2 (0 + 1) 6 r) (0 + 1) 5 b) := GX_up1 g7 hb (cw_f1 (Or.inr ⟨by decide, by decide⟩))
  have g9 : GX 0 (up (up (up J2 (0 + 1) 6 r) (0 + 1) 5 b) (0 + 1) 1 s) := GX_up1 g8 (by unfold inr; omega) (cw_1 ⟨rfl, hs⟩)
  have f9 : ∀ q j, up (up (up J2 (0 + 1) 6 r) (0 + 1) 5 b) (0 + 1) 1 s q j = if q = 1 ∧ j = 1 then s else if q = 1 ∧ j = 5 then b else if q = 1 ∧ j = 6 then r else J2 q j := fun q j => rfl
  refine pq_zwr (pq_zwr (pq_zwr ?_))
  obtain ⟨J9, hJ⟩ : ∃ J9, J9 = up (up (up J2 (0 + 1) 6 r) (0 + 1) 5 b) (0 + 1) 1 s := ⟨_, rfl⟩
  rw [← hJ]
  rw [← hJ] at g9 f9
  have so' : ∀ q j, q ≠ 3 → q ≠ 23 → q ≠ 24 → ¬ (q = 0 ∧ j = 50) → J2 q j = J q j := fun q j a b c d => so.2.2.2.2 q j (by omega) (by omega) (by omega) (by omega)
  have k3 : ∀ j, j < 6190 → J2 3 j = J 1 j := so.1
  have hX9 : HX 82 I6 J9 := hX J9 (fun q j a b c d => by rw [f9, so' q j a b c d])
  have c9 : J9 1 70 = J 1 70 := by rw [f9, if_neg (by omega), if_neg (by omega), if_neg (by omega)]; exact so' _ _ (by decide) (by decide) (by decide) (by decide)
  have b9 : ∀ j, J9 3 j = J2 3 j := fun j => by rw [f9, if_neg (by omega), if_neg (by omega), if_neg (by omega)]
  refine leads37 hfu n y4 (fun j => J2 3 j) (xLT fu y4) (fun I J1 hH h3 => ?_) fu fu 0 0 I6 J9 (by decide) hn ⟨hX9, g9, hC⟩ b9 (by rw [c9]; omega)
  have h3' : ∀ j, j < 6190 → J1 3 j = J 1 j := fun j hj => (h3 j).trans (k3 j hj)
  have hY : HY 82 1 I J1 := hH.1.1.2.1
  have y1 : J1 1 71 = I 92 1 := (hY.1 1 (by decide)).symm
  have y2 : J1 1 72 = I 92 2 := (hY.1 2 (by decide)).symm
  have y5 : J1 1 75 = I 92 5 := (hY.1 5 (by decide)).symm
  have y6 : J1 1 76 = I 92 6 := (hY.1 6 (by decide)).symm
  have s1 : sfo (fun s => J1 1 (90 + s)) 8 1 0 = sfo (fun s => I 92 (20 + s)) 8 1 0 := sfo_eq 8 1 0 (fun s h1 h2 => ((hY.2 s h1 (by omega)).2.1).symm)
  have s2 : sfo (fun s => J2 1 (90 + s)) 8 1 0 = sfo (fun s => J 1 (90 + s)) 8 1 0 := sfo_eq 8 1 0 (fun s h1 h2 => so' _ _ (by decide) (by decide) (by decide) (by omega))
  have s5 : mfo (fun s => J1 1 (100 + s)) 8 1 0 = mfo (fun s => I 92 (30 + s)) 8 1 0 := mfo_eq 8 1 0 (fun s h1 h2 => ((hY.2 s h1 (by omega)).2.2).symm)
  refine pq_r (par_mono (xv_lt y4 J1) (fun _ J' ⟨t0, t1, t2, t3, t4, t5⟩ => ⟨⟨?_, ?_, ?_, ?_, ?_, ?_⟩, hH.1.2.2⟩))
  · rw [t0, y1, h3' 71 (by decide)]
  · rw [t1, y2, h3' 72 (by decide)]
  · rw [t2, s1, e4, s2]
  · rw [t3, y6, h3' 76 (by decide)]
  · rw [t4, y5, h3' 75 (by decide)]
  · rw [t5, s5]
theorem gn_eq {I' J' : IMem} (hY : HY 1 1 I J) (g : GNx I' J J') (f : ∀ j, I' 11 j = I 11 j) : ∀ k : Nat, k < 6 → J' 25 k = GNv I' k := by
  obtain ⟨⟨t0, t1, t2, t3, t4, t5⟩, _⟩ := g
  have y1 : J 1 71 = I' 11 1 := ((f 1).trans (hY.1 1 (by decide))).symm
  have y2 : J 1 72 = I' 11 2 := ((f 2).trans (hY.1 2 (by decide))).symm
  have y5 : J 1 75 = I' 11 5 := ((f 5).trans (hY.1 5 (by decide))).symm
  have y6 : J 1 76 = I' 11 6 := ((f 6).trans (hY.1 6 (by decide))).symm
  have s1 : sfo (fun s => J 1 (90 + s)) 8 1 0 = sfo (fun s => I' 11 (20 + s)) 8 1 0 := sfo_eq 8 1 0 (fun s h1 h2 => ((f _).trans (hY.2 s h1 (by omega)).2.1).symm)
  intro k hk
  rcases (show k = 0 ∨ k = 1 ∨ k = 2 ∨ k = 3 ∨ k = 4 ∨ k = 5 by omega) with rfl | rfl | rfl | rfl | rfl | rfl
  · rw [t0, y1, gnv0]
  · rw [t1, y2, gnv1]
  · rw [t2, s1, gnv2]
  · rw [t3, y6, gnv3]
  · rw [t4, y5, gnv4]
  · rw [t5, gnv5]
/-- the class's thinking leaves the hills as they are -/
theorem fr_dream {a b c d : Int} {x : Int} {I' : IMem} (e : f_M_imagine fu 81 1 a b c d I = some (x, I')) : ∀ q j, q < 82 → I' q j = I q j := fun q j hq => congrFun (fr_M_imagine (fun q => 82 ≤ q) fu 81 1 a b c d I (fun q a b => by omega) (by omega) (by omega) (by omega) (by omega) (by omega) (by omega) (by omega) (by omega) (by omega) (by omega) (by omega) (by omega) (by omega) (by omega) (by omega) (by omega) (by omega) (by omega) (by omega) (by omega) e q (by omega)) j
theorem fr_dcopy {x : Int} {I' : IMem} (e : f_H_copyFrom fu 82 1 I = some (x, I')) : ∀ q j, (q < 82 ∨ q = 96 ∨ 122 ≤ q) → I' q j = I q j := fun q j hq => congrFun (fr_H_copyFrom (fun q => 82 ≤ q ∧ q ≠ 96 ∧ q < 122) fu 82 1 I (fun q a b => by omega) (by omega) (by omega) (by omega) (by omega) (by omega) (by omega) (by omega) (by omega) (by omega) (by omega) (by omega) e q (by omega)) j
/-- the dream is the hill's copy, with these told -/
theorem hx_told {I2 I6 J9 : IMem} {r b s : Int} (h : HR 1 1 I J) (h11 : I 1 11 = J 0 22) (hA : HA 82 I) (hc : HCP 82 1 I2 I) (f2 : ∀ q j, (q < 82 ∨ q = 96 ∨ 122 ≤ q) → I2 q j = I q j) (e6 : ∀ q j, I6 q j = if q = 83 ∧ j = 0 then s else if q = 83 ∧ j = 4 then b else if q = 83 ∧ j = 5 then r else I2 q j) (e9 : ∀ q j, q ≠ 3 → q ≠ 23 → q ≠ 24 → ¬ (q = 0 ∧ j = 50) → J9 q j = if q = 1 ∧ j = 1 then s else if q = 1 ∧ j = 5 then b else if q = 1 ∧ j = 6 then r else J q j) : HX 82 I6 J9 := by
  have h2 : HR 82 1 I2 J := hr_cp h hc (fun _ _ => rfl)
  obtain ⟨hS, hY, hP, hL, hW⟩ := h2
  obtain ⟨z1, z2, z3, z4, z5, z6, z7⟩ := hS
  have j9 : ∀ j, j ≠ 1 → j ≠ 5 → j ≠ 6 → J9 1 j = J 1 j := fun j a c d => by rw [e9 1 j (by decide) (by decide) (by decide) (by omega), if_neg (by omega), if_neg (by omega), if_neg (by omega)]
  have i6 : ∀ q j, q ≠ 83 → I6 q j = I2 q j := fun q j a => by rw [e6, if_neg (by omega), if_neg (by omega), if_neg (by omega)]
  refine ⟨⟨⟨fun k hk => ?_, ?_, ?_, fun k hk => ?_, fun k b1 b2 => ?_, fun k hk => ?_, fun k b1 b2 => ?_⟩, hy_mv hY (fun j => i6 _ _ (by omega)) (fun j b1 b2 => j9 _ (by omega) (by omega) (by omega)), hp_mv hP (fun j => ⟨i6 _ _ (by omega), i6 _ _ (by omega)⟩) (fun j hj => j9 _ (by omega) (by omega) (by omega)), hl_mv hL (fun j => ⟨i6 _ _ (by omega), i6 _ _ (by omega)⟩) (fun j b1 b2 => j9 _ (by omega) (by omega) (by omega)), hw_mv hW (fun d j b1 b2 b3 => i6 _ _ (by omega)) (fun j b1 b2 => j9 _ (by omega) (by omega) (by omega))⟩, ?_, ?_, ?_⟩
  · show I6 83 k = J9 1 (1 + k)
    rw [e6, e9 1 _ (by decide) (by decide) (by decide) (by omega)]
    by_cases k0 : k = 0
    · rw [if_pos ⟨rfl, k0⟩, if_pos (by omega)]
    · rw [if_neg (by omega), if_neg (show ¬ (1 = 1 ∧ 1 + k = 1) by omega)]
      by_cases k4 : k = 4
      · rw [if_pos ⟨rfl, k4⟩, if_pos (by omega)]
      · rw [if_neg (by omega), if_neg (show ¬ (1 = 1 ∧ 1 + k = 5) by omega)]
        by_cases k5 : k = 5
        · rw [if_pos ⟨rfl, k5⟩, if_pos (by omega)]
        · rw [if_neg (by omega), if_neg (show ¬ (1 = 1 ∧ 1 + k = 6) by omega)]
          exact z1 k hk
  · rw [i6 _ _ (by decide), j9 _ (by decide) (by decide) (by decide)]; exact z2
  · rw [i6 _ _ (by decide), j9 _ (by decide) (by decide) (by decide)]; exact z3
  · rw [i6 _ _ (by decide), j9 _ (by omega) (by omega) (by omega)]; exact z4 k hk
  · rw [i6 _ _ (by decide), j9 _ (by omega) (by omega) (by omega)]; exact z5 k b1 b2
  · rw [i6 _ _ (by decide), j9 _ (by omega) (by omega) (by omega)]; exact z6 k hk
  · rw [i6 _ _ (by decide), j9 _ (by omega) (by omega) (by omega)]; exact z7 k b1 b2
  · rw [i6 _ _ (by decide), e9 0 22 (by decide) (by decide) (by decide) (by decide), if_neg (by omega), if_neg (by omega), if_neg (by omega), ← h11]
    exact hc.1.2.2
  · rw [i6 _ _ (by decide), f2 _ _ (Or.inr (Or.inl rfl))]; exact hA.1
  · rw [i6 _ _ (by decide), f2 _ _ (Or.inr (Or.inl rfl))]; exact hA.2
theorem imag2 {r b s n : Int} (hfu : 5000000000 < fu) (h : HR 1 1 I J) (h11 : I 1 11 = J 0 22) (hA : HA 82 I) (hG : GX 0 J) (hC : GC I) (hr : 0 ≤ r ∧ r ≤ 3) (hb : 0 ≤ b ∧ b ≤ 99) (hs : 2 ≤ s ∧ s ≤ 8) (hn : n ≤ 60) (hc : J 1 70 + 60 < 2000000000) : pq (f_M_imagine fu 81 1 r b s n I) (f_X_leads fu 0 r b s n J) (fun _ I' _ J' => GNx I' J J') := by
  unfold f_M_imagine
  refine pq_bl (par_and (cv_hcopy (fu := fu) (81 + 1) 1 (by omega) I) (par_sat (ok_H_copyFrom fu (81 + 1) 1 I hfu hC (by omega) (by omega)))) (fun _ I2 e ⟨hc2, _, hC2, _⟩ => ?_)
  have f2 := fr_dcopy (fu := fu) (I := I) e
  have c4 : GC (up I2 (81 + 2) 5 r) := gc_up hC2 (by unfold inr; omega) (Or.inl (by decide))
  have c5 : GC (up (up I2 (81 + 2) 5 r) (81 + 2) 4 b) := gc_up c4 (by unfold inr; omega) (Or.inl (by decide))
  have c6 : GC (up (up (up I2 (81 + 2) 5 r) (81 + 2) 4 b) (81 + 2) 0 s) := gc_up c5 (by unfold inr; omega) (Or.inl (by decide))
  have e6 : ∀ q j, up (up (up I2 (81 + 2) 5 r) (81 + 2) 4 b) (81 + 2) 0 s q j = if q = 83 ∧ j = 0 then s else if q = 83 ∧ j = 4 then b else if q = 83 ∧ j = 5 then r else I2 q j := fun q j => rfl
  refine pq_zwl (pq_zwl (pq_zwl ?_))
  exact lead_core hfu hG c6 (fun J9 e9 => hx_told h h11 hA hc2 f2 e6 e9) hr (by unfold inr; omega) hs hn hc
end
