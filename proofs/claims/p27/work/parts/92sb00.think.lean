/-! in thought: both sides -/
/-- a sum from i on, a greatest from i on -/
def sfo (c : Nat → Int) : Nat → Nat → Int → Int
  | 0, _, w => w
  | n + 1, i, w => sfo c n (i + 1) (wr32 (w + c i))
def mfo (c : Nat → Int) : Nat → Nat → Int → Int
  | 0, _, w => w
  | n + 1, i, w => mfo c n (i + 1) (if w < c i then c i else w)
theorem sfo_eq {c d : Nat → Int} : ∀ (n i : Nat) (w : Int), (∀ s, i ≤ s → s < i + n → c s = d s) → sfo c n i w = sfo d n i w := by
  intro n
  induction n with
  | zero => intro _ _ _; rfl
  | succ n ih =>
    intro i w h
    show sfo c n (i + 1) (wr32 (w + c i)) = sfo d n (i + 1) (wr32 (w + d i))
    rw [h i (Nat.le_refl _) (by omega)]
    exact ih (i + 1) _ (fun s h1 h2 => h s (by omega) (by omega))
theorem mfo_eq {c d : Nat → Int} : ∀ (n i : Nat) (w : Int), (∀ s, i ≤ s → s < i + n → c s = d s) → mfo c n i w = mfo d n i w := by
  intro n
  induction n with
  | zero => intro _ _ _; rfl
  | succ n ih =>
    intro i w h
    show mfo c n (i + 1) (if w < c i then c i else w) = mfo d n (i + 1) (if w < d i then d i else w)
    rw [h i (Nat.le_refl _) (by omega)]
    exact ih (i + 1) _ (fun s h1 h2 => h s (by omega) (by omega))
section
variable {fu : Nat} {I J : IMem}
theorem cv_aw4 (o : Nat) (I : IMem) : ∀ (m n i : Nat) (w : Int), i + n = 9 → par (f_M_allWait_4 fu o m w (i : Int) I) (fun v I' => v = sfo (fun s => I (o + 10) (20 + s)) n i w ∧ I' = I) := by
  intro m
  induction m with
  | zero => intro _ _ _ _; exact par_none
  | succ m ih =>
    intro n i w hi
    show par (fb_M_allWait_4 fu o (f_M_allWait_4 fu o m) w (i : Int) I) _
    unfold fb_M_allWait_4
    cases n with
    | zero =>
      rw [if_pos (by omega)]
      exact par_zr ⟨rfl, rfl⟩
    | succ n =>
      rw [if_neg (by omega)]
      have w1 : Wq (wr32 (20 + (i : Int))) (((20 + i : Nat) : Int)) := by show wr32 (20 + (i : Int)) = ((20 + i : Nat) : Int); rw [wr32_i2 (by omega) (by omega)]; omega
      have w2 : Wq (wr32 ((i : Int) + 1)) (((i + 1 : Nat) : Int)) := by show wr32 ((i : Int) + 1) = ((i + 1 : Nat) : Int); rw [wr32_i2 (by omega) (by omega)]; rfl
      simp only [zl_e]
      rw [w1.e, w2.e]
      have g := ih n (i + 1) (wr32 (w + I (o + 10) (20 + i))) (by omega)
      exact par_zg (fun _ => g)
theorem cv_lg4 (o : Nat) (I : IMem) : ∀ (m n i : Nat) (w : Int), i + n = 9 → par (f_M_longest_4 fu o m w (i : Int) I) (fun v I' => v = mfo (fun s => I (o + 11) (30 + s)) n i w ∧ I' = I) := by
  intro m
  induction m with
  | zero => intro _ _ _ _; exact par_none
  | succ m ih =>
    intro n i w hi
    show par (fb_M_longest_4 fu o (f_M_longest_4 fu o m) w (i : Int) I) _
    unfold fb_M_longest_4
    cases n with
    | zero =>
      rw [if_pos (by omega)]
      exact par_zr ⟨rfl, rfl⟩
    | succ n =>
      rw [if_neg (by omega)]
      have w1 : Wq (wr32 (30 + (i : Int))) (((30 + i : Nat) : Int)) := by show wr32 (30 + (i : Int)) = ((30 + i : Nat) : Int); rw [wr32_i2 (by omega) (by omega)]; omega
      have w2 : Wq (wr32 ((i : Int) + 1)) (((i + 1 : Nat) : Int)) := by show wr32 ((i : Int) + 1) = ((i + 1 : Nat) : Int); rw [wr32_i2 (by omega) (by omega)]; rfl
      simp only [zl_e]
      rw [w1.e, w2.e]
      refine par_zg (fun _ => ?_)
      rw [ev_max, zb_zr]
      exact ih n (i + 1) (if w < I (o + 11) (30 + i) then I (o + 11) (30 + i) else w) (by omega)
theorem xv_sm4 (J : IMem) : ∀ (m n i : Nat) (w : Int), i + n = 9 → par (f_X_sum_4 fu 0 90 m w (i : Int) J) (fun v J' => v = sfo (fun s => J 1 (90 + s)) n i w ∧ J' = J) := by
  intro m
  induction m with
  | zero => intro _ _ _ _; exact par_none
  | succ m ih =>
    intro n i w hi
    show par (fb_X_sum_4 fu 0 90 (f_X_sum_4 fu 0 90 m) w (i : Int) J) _
    unfold fb_X_sum_4
    cases n with
    | zero =>
      rw [if_pos (by omega)]
      exact par_zr ⟨rfl, rfl⟩
    | succ n =>
      rw [if_neg (by omega)]
      have w1 : Wq (wr32 (90 + (i : Int))) (((90 + i : Nat) : Int)) := by show wr32 (90 + (i : Int)) = ((90 + i : Nat) : Int); rw [wr32_i2 (by omega) (by omega)]; omega
      have w2 : Wq (wr32 ((i : Int) + 1)) (((i + 1 : Nat) : Int)) := by show wr32 ((i : Int) + 1) = ((i + 1 : Nat) : Int); rw [wr32_i2 (by omega) (by omega)]; rfl
      simp only [zl_e]
      rw [w1.e, w2.e]
      have g := ih n (i + 1) (wr32 (w + J 1 (90 + i))) (by omega)
      exact par_zg (fun _ => g)
theorem xv_lg4 (J : IMem) : ∀ (m n i : Nat) (w : Int), i + n = 9 → par (f_X_longest_4 fu 0 m w (i : Int) J) (fun v J' => v = mfo (fun s => J 1 (100 + s)) n i w ∧ J' = J) := by
  intro m
  induction m with
  | zero => intro _ _ _ _; exact par_none
  | succ m ih =>
    intro n i w hi
    show par (fb_X_longest_4 fu 0 (f_X_longest_4 fu 0 m) w (i : Int) J) _
    unfold fb_X_longest_4
    cases n with
    | zero =>
      rw [if_pos (by omega)]
      exact par_zr ⟨rfl, rfl⟩
    | succ n =>
      rw [if_neg (by omega)]
      have w1 : Wq (wr32 (100 + (i : Int))) (((100 + i : Nat) : Int)) := by show wr32 (100 + (i : Int)) = ((100 + i : Nat) : Int); rw [wr32_i2 (by omega) (by omega)]; omega
      have w2 : Wq (wr32 ((i : Int) + 1)) (((i + 1 : Nat) : Int)) := by show wr32 ((i : Int) + 1) = ((i + 1 : Nat) : Int); rw [wr32_i2 (by omega) (by omega)]; rfl
      simp only [zl_e, zj_e]
      rw [w1.e, w2.e]
      refine par_zg (fun _ => ?_)
      have g := ih n (i + 1) (if w < J 1 (100 + i) then J 1 (100 + i) else w) (by omega)
      have e : mfo (fun s => J 1 (100 + s)) (n + 1) i w = mfo (fun s => J 1 (100 + s)) n (i + 1) (if w < J 1 (100 + i) then J 1 (100 + i) else w) := rfl
      rw [e]
      show par (if w < J 1 (100 + i) then _ else _) _
      refine par_ite (fun q => ?_) (fun q => ?_)
      · rw [if_pos q] at g ⊢
        exact par_zg (fun _ => g)
      · rw [if_neg q] at g ⊢
        exact g
/-- what came, by the class's memory -/
def GNv (I : IMem) (k : Nat) : Int := if k = 0 then wr32 (I 92 1 - I 11 1) else if k = 1 then wr32 (I 92 2 - I 11 2) else if k = 2 then wr32 (sfo (fun s => I 92 (20 + s)) 8 1 0 - sfo (fun s => I 11 (20 + s)) 8 1 0) else if k = 3 then wr32 (I 92 6 - I 11 6) else if k = 4 then wr32 (I 92 5 - I 11 5) else mfo (fun s => I 92 (30 + s)) 8 1 0
theorem gnv0 (I : IMem) : GNv I 0 = wr32 (I 92 1 - I 11 1) := if_pos rfl
theorem gnv1 (I : IMem) : GNv I 1 = wr32 (I 92 2 - I 11 2) := (if_neg (by decide)).trans (if_pos rfl)
theorem gnv2 (I : IMem) : GNv I 2 = wr32 (sfo (fun s => I 92 (20 + s)) 8 1 0 - sfo (fun s => I 11 (20 + s)) 8 1 0) := (if_neg (by decide)).trans ((if_neg (by decide)).trans (if_pos rfl))
theorem gnv3 (I : IMem) : GNv I 3 = wr32 (I 92 6 - I 11 6) := (if_neg (by decide)).trans ((if_neg (by decide)).trans ((if_neg (by decide)).trans (if_pos rfl)))
theorem gnv4 (I : IMem) : GNv I 4 = wr32 (I 92 5 - I 11 5) := (if_neg (by decide)).trans ((if_neg (by decide)).trans ((if_neg (by decide)).trans ((if_neg (by decide)).trans (if_pos rfl))))
theorem gnv5 (I : IMem) : GNv I 5 = mfo (fun s => I 92 (30 + s)) 8 1 0 := (if_neg (by decide)).trans ((if_neg (by decide)).trans ((if_neg (by decide)).trans ((if_neg (by decide)).trans (if_neg (by decide)))))
theorem cv_gain (a : Int) (ha : 0 ≤ a ∧ a ≤ 5) (I : IMem) : par (f_M_gained fu 81 1 a I) (fun v I' => v = GNv I a.toNat ∧ I' = I) := by
  unfold f_M_gained f_M_allWait f_M_longest
  rcases (show a = 0 ∨ a = 1 ∨ a = 2 ∨ a = 3 ∨ a = 4 ∨ a = 5 by omega) with rfl | rfl | rfl | rfl | rfl | rfl
  · rw [if_pos rfl]
    exact par_zr ⟨(gnv0 I).symm, rfl⟩
  · rw [if_neg (by decide), if_pos rfl]
    exact par_zr ⟨(gnv1 I).symm, rfl⟩
  · rw [if_neg (by decide), if_neg (by decide), if_pos rfl]
    refine par_zb (cv_aw4 (81 + 1) I fu 8 1 0 (by decide)) (fun y4 I5 ⟨e1, e2⟩ => ?_)
    rw [e2]
    refine par_zb (cv_aw4 1 I fu 8 1 0 (by decide)) (fun y7 I8 ⟨e3, e4⟩ => ?_)
    rw [e4, e1, e3]
    exact par_zr ⟨(gnv2 I).symm, rfl⟩
  · rw [if_neg (by decide), if_neg (by decide), if_neg (by decide), if_pos rfl]
    exact par_zr ⟨(gnv3 I).symm, rfl⟩
  · rw [if_neg (by decide), if_neg (by decide), if_neg (by decide), if_neg (by decide), if_pos rfl]
    exact par_zr ⟨(gnv4 I).symm, rfl⟩
  · rw [if_neg (by decide), if_neg (by decide), if_neg (by decide), if_neg (by decide), if_neg (by decide)]
    refine par_zb (cv_lg4 81 I fu 8 1 0 (by decide)) (fun y4 I5 ⟨e1, e2⟩ => ?_)
    rw [e2, e1]
    exact par_zr ⟨(gnv5 I).symm, rfl⟩
/-- the end of leads -/
def xLT (fu : Nat) (y4 : Int) (I14 : IMem) : Res :=
      zw I14 (0 + 25) 0 (wr32 ((I14 (0 + 1) 71) - (I14 (0 + 3) 71))) fun I15 =>
      zw I15 (0 + 25) 1 (wr32 ((I15 (0 + 1) 72) - (I15 (0 + 3) 72))) fun I16 =>
      zb (f_X_sum fu 0 90 I16) fun y17 I18 =>
      zw I18 (0 + 25) 2 (wr32 (y17 - y4)) fun I20 =>
      zw I20 (0 + 25) 3 (wr32 ((I20 (0 + 1) 76) - (I20 (0 + 3) 76))) fun I21 =>
      zw I21 (0 + 25) 4 (wr32 ((I21 (0 + 1) 75) - (I21 (0 + 3) 75))) fun I22 =>
      zb (f_X_longest fu 0 I22) fun y23 I24 =>
      zw I24 (0 + 25) 5 y23 fun I26 =>
      zb (f_X_comesBack fu 0 I26) fun _ I28 =>
      zr 0 I28
theorem leads_eq (fu : Nat) (a1 a2 a3 a4 : Int) (J : IMem) : f_X_leads fu 0 a1 a2 a3 a4 J = zb (f_X_setsOut fu 0 J) fun _ I2 => zb (f_X_sum fu 0 90 I2) fun y4 I5 => zw I5 (0 + 1) 6 a1 fun I7 => zw I7 (0 + 1) 5 a2 fun I8 => zw I8 (0 + 1) 1 a3 fun I9 => f_X_leads_37 fu (xLT fu y4) 0 a4 y4 fu 0 I9 := rfl
theorem xv_lt (y4 : Int) (J : IMem) : par (xLT fu y4 J) (fun _ J' => J' 25 0 = wr32 (J 1 71 - J 3 71) ∧ J' 25 1 = wr32 (J 1 72 - J 3 72) ∧ J' 25 2 = wr32 (sfo (fun s => J 1 (90 + s)) 8 1 0 - y4) ∧ J' 25 3 = wr32 (J 1 76 - J 3 76) ∧ J' 25 4 = wr32 (J 1 75 - J 3 75) ∧ J' 25 5 = mfo (fun s => J 1 (100 + s)) 8 1 0) := by
  unfold xLT f_X_sum f_X_longest
  simp only [Nat.zero_add]
  refine par_zw' (fun J1 e1 => par_zw' (fun J2 e2 => par_zb (xv_sm4 J2 fu 8 1 0 (by decide)) (fun y17 J3 ⟨e3, e4⟩ => ?_)))
  rw [e4]
  refine par_zw' (fun J5 e5 => par_zw' (fun J6 e6 => par_zw' (fun J7 e7 => par_zb (xv_lg4 J7 fu 8 1 0 (by decide)) (fun y23 J8 ⟨e8, e9⟩ => ?_))))
  rw [e9]
  refine par_zw' (fun J10 e10 => ?_)
  have f1 : ∀ q j, q ≠ 25 → J1 q j = J q j := fun q j h => by rw [e1, if_neg (by omega)]
  have f2 : ∀ q j, q ≠ 25 → J2 q j = J q j := fun q j h => by rw [e2, if_neg (by omega)]; exact f1 q j h
  have f5 : ∀ q j, q ≠ 25 → J5 q j = J q j := fun q j h => by rw [e5, if_neg (by omega)]; exact f2 q j h
  have f6 : ∀ q j, q ≠ 25 → J6 q j = J q j := fun q j h => by rw [e6, if_neg (by omega)]; exact f5 q j h
  have f7 : ∀ q j, q ≠ 25 → J7 q j = J q j := fun q j h => by rw [e7, if_neg (by omega)]; exact f6 q j h
  have s3 : y17 = sfo (fun s => J 1 (90 + s)) 8 1 0 := e3.trans (sfo_eq 8 1 0 (fun s _ _ => f2 _ _ (by decide)))
  have s8 : y23 = mfo (fun s => J 1 (100 + s)) 8 1 0 := e8.trans (mfo_eq 8 1 0 (fun s _ _ => f7 _ _ (by decide)))
  refine par_zb (Q1 := fun _ J' => ∀ j, J' 25 j = J10 25 j) (fun v J11 e j => fc_X_comesBack (fun q _ => q ≠ 25) fu 0 J10 (fun _ => by omega) (fun _ => by omega) (fun _ => by omega) (by omega) e 25 j (by omega)) (fun _ J11 g => par_zr ⟨?_, ?_, ?_, ?_, ?_, ?_⟩)
  · rw [g, e10, if_neg (by omega), e7, if_neg (by omega), e6, if_neg (by omega), e5, if_neg (by omega), e2, if_neg (by omega), e1, if_pos ⟨rfl, rfl⟩]
  · rw [g, e10, if_neg (by omega), e7, if_neg (by omega), e6, if_neg (by omega), e5, if_neg (by omega), e2, if_pos ⟨rfl, rfl⟩, f1 _ _ (by decide), f1 _ _ (by decide)]
  · rw [g, e10, if_neg (by omega), e7, if_neg (by omega), e6, if_neg (by omega), e5, if_pos ⟨rfl, rfl⟩, s3]
  · rw [g, e10, if_neg (by omega), e7, if_neg (by omega), e6, if_pos ⟨rfl, rfl⟩, f5 _ _ (by decide), f5 _ _ (by decide)]
  · rw [g, e10, if_neg (by omega), e7, if_pos ⟨rfl, rfl⟩, f6 _ _ (by decide), f6 _ _ (by decide)]
  · rw [g, e10, if_pos ⟨rfl, rfl⟩, s8]
/-- turns in the dream, turns of the reference -/
theorem leads37 {Q : Int → IMem → Int → IMem → Prop} (hfu : 5000000000 < fu) (n p5 : Int) (c : Nat → Int) (kk : IMem → Res) (hend : ∀ I J : IMem, HG 82 I J → (∀ j, J 3 j = c j) → pq (zr 0 I) (kk J) Q) : ∀ (m m2 i : Nat) (w : Int) (I J : IMem), (i : Int) ≤ 60 → n ≤ 60 → HG 82 I J → (∀ j, J 3 j = c j) → J 1 70 + 60 < 2000000000 + i → pq (zb (f_C_turns_5 fu 122 82 n m w (i : Int) I) fun _ I8 => zr 0 I8) (f_X_leads_37 fu kk 0 n p5 m2 (i : Int) J) Q := by
  intro m
  induction m with
  | zero => intro _ _ _ _ _ _ _ _ _ _; exact pq_nl
  | succ m ih =>
    intro m2 i w I J hi hn h h3 hc
    cases m2 with
    | zero => exact pq_nr
    | succ m2 =>
      show pq (zb (fb_C_turns_5 fu 122 82 n (f_C_turns_5 fu 122 82 n m) w (i : Int) I) fun _ I8 => zr 0 I8) (fb_X_leads_37 fu kk 0 n p5 (f_X_leads_37 fu kk 0 n p5 m2) (i : Int) J) _
      unfold fb_C_turns_5 fb_X_leads_37
      by_cases hin : (i : Int) < n
      · rw [if_pos hin, if_pos hin]
        have w1 : Wq (wr32 ((i : Int) + 1)) (((i + 1 : Nat) : Int)) := by show wr32 ((i : Int) + 1) = ((i + 1 : Nat) : Int); rw [wr32_i2 (by omega) (by omega)]; rfl
        simp only [zl_e]
        rw [w1.e]
        clear w1
        intro x I9 y J9 e1 e2
        obtain ⟨v0, I0, e0, e00⟩ := of_zb e1
        obtain ⟨v1, I1, e3, e4⟩ := of_zb e0
        obtain ⟨v2, I2, e5, e6⟩ := of_zb e4
        obtain ⟨v3, I3, e7, e8⟩ := of_zb e6
        obtain ⟨y1, J1, e9, e10⟩ := of_zb e2
        have g := turn2 (oc := 122) (hb := 82) (Or.inl ⟨rfl, rfl⟩) hfu h (show J 1 70 < 2000000000 by omega) v3 I3 y1 J1 (by rw [e3]; show zb (f_C_fill fu 122 82 I1) _ = _; rw [e5]; show zb (f_C_leave fu 122 82 I2) _ = _; rw [e7]; rfl) e9
        obtain ⟨g1, g2, g4, g3⟩ := g
        have f3 : ∀ j, J1 3 j = J 3 j := fun j => fc_X_turn (fun q _ => q ≠ 3) fu 0 J (fun _ => by omega) (fun _ => by omega) (fun _ => by omega) (fun _ => by omega) (fun _ => by omega) (fun _ => by omega) (fun _ => by omega) (fun _ => by omega) (by omega) (by omega) (by omega) (by omega) (by omega) (by omega) (by omega) (by omega) (by omega) (by omega) (by omega) (by omega) (by omega) (by omega) (by omega) (by omega) (by omega) (by omega) e9 3 j (by omega)
        refine ih m2 (i + 1) (wr32 (w + v3)) I3 J1 (by omega) hn g2 (fun j => (f3 j).trans (h3 j)) (by rw [g3]; omega) x I9 y J9 ?_ e10
        rw [e8]
        exact e00
      · rw [if_neg hin, if_neg hin]
        exact hend I J h h3
/-- what came, on both sides -/
def GNx (I' J J' : IMem) : Prop := (J' 25 0 = wr32 (I' 92 1 - J 1 71) ∧ J' 25 1 = wr32 (I' 92 2 - J 1 72) ∧ J' 25 2 = wr32 (sfo (fun s => I' 92 (20 + s)) 8 1 0 - sfo (fun s => J 1 (90 + s)) 8 1 0) ∧ J' 25 3 = wr32 (I' 92 6 - J 1 76) ∧ J' 25 4 = wr32 (I' 92 5 - J 1 75) ∧ J' 25 5 = mfo (fun s => I' 92 (30 + s)) 8 1 0) ∧ HA 82 I'
theorem lead_core {r b s n : Int} {I6 : IMem} (hfu : 5000000000 < fu) (hG : GX 0 J) (hC : GC I6) (hX : ∀ J9 : IMem, (∀ q j, q ≠ 3 → q ≠ 23 → q ≠ 24 → ¬ (q = 0 ∧ j = 50) → J9 q j = if q = 1 ∧ j = 1 then s else if q = 1 ∧ j = 5 then b else if q = 1 ∧ j = 6 then r else J q j) → HX 82 I6 J9) (hr : 0 ≤ r ∧ r ≤ 3) (hb : inr b) (hs : 2 ≤ s ∧ s ≤ 8) (hn : n ≤ 60) (hc : J 1 70 + 60 < 2000000000) : pq (zb (f_C_turns fu 122 82 n I6) fun _ I8 => zr 0 I8) (f_X_leads fu 0 r b s n J) (fun _ I' _ J' => GNx I' J J') := by
  rw [leads_eq]
  unfold f_C_turns f_X_sum
  refine pq_br (par_sat (ok_X_setsOut fu 0 J hfu hG)) (fun _ J2 _ ⟨_, hG2, so⟩ => ?_)
  refine pq_br (xv_sm4 J2 fu 8 1 0 (by decide)) (fun y4 J5 _ ⟨e4, e5⟩ => ?_)
  rw [e5]
  have g7 : GX 0 (up J2 (0 + 1) 6 r) := GX_up1 hG2 (by unfold inr; omega) (cw_6 ⟨rfl, hr⟩)
  have g8 : GX 0 (up (up J2 (0 + 1) 6 r) (0 + 1) 5 b) := GX_up1 g7 hb (cw_f1 (Or.inr ⟨by decide, by decide⟩))
  have g9 : GX 0 (up (up (up J2 (0 + 1) 6 r) (0 + 1) 5 b) (0 + 1) 1 s) := GX_up1 g8 (by unfold inr; omega) (cw_1 ⟨rfl, hs⟩)
  have f9 : ∀ q j, up (up (up J2 (0 + 1) 6 r) (0 + 1) 5 b) (0 + 1) 1 s q j = if q = 1 ∧ j = 1 then s else if q = 1 ∧ j = 5 then b else if q = 1 ∧ j = 6 then r else J2 q j := fun q j => rfl
  refine pq_zwr (pq_zwr (pq_zwr ?_))
  obtain ⟨J9, hJ⟩ : ∃ J9, J9 = up (up (up J2 (0 + 1) 6 r) (0 + 1) 5 b) (0 + 1) 1 s := ⟨_, rfl⟩
  rw [← hJ]
  rw [← hJ] at g9 f9
  have so' : ∀ q j, q ≠ 3 → q ≠ 23 → q ≠ 24 → ¬ (q = 0 ∧ j = 50) → J2 q j = J q j := fun q j a b c d => so.2.2.2.2 q j (by omega) (by omega) (by omega) (by omega)
  have k3 : ∀ j, j < 6190 → J2 3 j = J 1 j := so.1
  have hX9 : HX 82 I6 J9 := hX J9 (fun q j a b c d => by rw [f9, so' q j a b c d])
  have c9 : J9 1 70 = J 1 70 := by rw [f9, if_neg (by omega), if_neg (by omega), if_neg (by omega)]; exact so' _ _ (by decide) (by decide) (by decide) (by decide)
  have b9 : ∀ j, J9 3 j = J2 3 j := fun j => by rw [f9, if_neg (by omega), if_neg (by omega), if_neg (by omega)]
  refine leads37 hfu n y4 (fun j => J2 3 j) (xLT fu y4) (fun I J1 hH h3 => ?_) fu fu 0 0 I6 J9 (by decide) hn ⟨hX9, g9, hC⟩ b9 (by rw [c9]; omega)
  have h3' : ∀ j, j < 6190 → J1 3 j = J 1 j := fun j hj => (h3 j).trans (k3 j hj)
  have hY : HY 82 1 I J1 := hH.1.1.2.1
  have y1 : J1 1 71 = I 92 1 := (hY.1 1 (by decide)).symm
  have y2 : J1 1 72 = I 92 2 := (hY.1 2 (by decide)).symm
  have y5 : J1 1 75 = I 92 5 := (hY.1 5 (by decide)).symm
  have y6 : J1 1 76 = I 92 6 := (hY.1 6 (by decide)).symm
  have s1 : sfo (fun s => J1 1 (90 + s)) 8 1 0 = sfo (fun s => I 92 (20 + s)) 8 1 0 := sfo_eq 8 1 0 (fun s h1 h2 => ((hY.2 s h1 (by omega)).2.1).symm)
  have s2 : sfo (fun s => J2 1 (90 + s)) 8 1 0 = sfo (fun s => J 1 (90 + s)) 8 1 0 := sfo_eq 8 1 0 (fun s h1 h2 => so' _ _ (by decide) (by decide) (by decide) (by omega))
  have s5 : mfo (fun s => J1 1 (100 + s)) 8 1 0 = mfo (fun s => I 92 (30 + s)) 8 1 0 := mfo_eq 8 1 0 (fun s h1 h2 => ((hY.2 s h1 (by omega)).2.2).symm)
  refine pq_r (par_mono (xv_lt y4 J1) (fun _ J' ⟨t0, t1, t2, t3, t4, t5⟩ => ⟨⟨?_, ?_, ?_, ?_, ?_, ?_⟩, hH.1.2.2⟩))
  · rw [t0, y1, h3' 71 (by decide)]
  · rw [t1, y2, h3' 72 (by decide)]
  · rw [t2, s1, e4, s2]
  · rw [t3, y6, h3' 76 (by decide)]
  · rw [t4, y5, h3' 75 (by decide)]
  · rw [t5, s5]
theorem gn_eq {I' J' : IMem} (hY : HY 1 1 I J) (g : GNx I' J J') (f : ∀ j, I' 11 j = I 11 j) : ∀ k : Nat, k < 6 → J' 25 k = GNv I' k := by
  obtain ⟨⟨t0, t1, t2, t3, t4, t5⟩, _⟩ := g
  have y1 : J 1 71 = I' 11 1 := ((f 1).trans (hY.1 1 (by decide))).symm
  have y2 : J 1 72 = I' 11 2 := ((f 2).trans (hY.1 2 (by decide))).symm
  have y5 : J 1 75 = I' 11 5 := ((f 5).trans (hY.1 5 (by decide))).symm
  have y6 : J 1 76 = I' 11 6 := ((f 6).trans (hY.1 6 (by decide))).symm
  have s1 : sfo (fun s => J 1 (90 + s)) 8 1 0 = sfo (fun s => I' 11 (20 + s)) 8 1 0 := sfo_eq 8 1 0 (fun s h1 h2 => ((f _).trans (hY.2 s h1 (by omega)).2.1).symm)
  intro k hk
  rcases (show k = 0 ∨ k = 1 ∨ k = 2 ∨ k = 3 ∨ k = 4 ∨ k = 5 by omega) with rfl | rfl | rfl | rfl | rfl | rfl
  · rw [t0, y1, gnv0]
  · rw [t1, y2, gnv1]
  · rw [t2, s1, gnv2]
  · rw [t3, y6, gnv3]
  · rw [t4, y5, gnv4]
  · rw [t5, gnv5]
/-- the class's thinking leaves the hills as they are -/
theorem fr_dream {a b c d : Int} {x : Int} {I' : IMem} (e : f_M_imagine fu 81 1 a b c d I = some (x, I')) : ∀ q j, q < 82 → I' q j = I q j := fun q j hq => congrFun (fr_M_imagine (fun q => 82 ≤ q) fu 81 1 a b c d I (fun q a b => by omega) (by omega) (by omega) (by omega) (by omega) (by omega) (by omega) (by omega) (by omega) (by omega) (by omega) (by omega) (by omega) (by omega) (by omega) (by omega) (by omega) (by omega) (by omega) (by omega) (by omega) e q (by omega)) j
theorem fr_dcopy {x : Int} {I' : IMem} (e : f_H_copyFrom fu 82 1 I = some (x, I')) : ∀ q j, (q < 82 ∨ q = 96 ∨ 122 ≤ q) → I' q j = I q j := fun q j hq => congrFun (fr_H_copyFrom (fun q => 82 ≤ q ∧ q ≠ 96 ∧ q < 122) fu 82 1 I (fun q a b => by omega) (by omega) (by omega) (by omega) (by omega) (by omega) (by omega) (by omega) (by omega) (by omega) (by omega) (by omega) e q (by omega)) j
/-- the dream is the hill's copy, with these told -/
theorem hx_told {I2 I6 J9 : IMem} {r b s : Int} (h : HR 1 1 I J) (h11 : I 1 11 = J 0 22) (hA : HA 82 I) (hc : HCP 82 1 I2 I) (f2 : ∀ q j, (q < 82 ∨ q = 96 ∨ 122 ≤ q) → I2 q j = I q j) (e6 : ∀ q j, I6 q j = if q = 83 ∧ j = 0 then s else if q = 83 ∧ j = 4 then b else if q = 83 ∧ j = 5 then r else I2 q j) (e9 : ∀ q j, q ≠ 3 → q ≠ 23 → q ≠ 24 → ¬ (q = 0 ∧ j = 50) → J9 q j = if q = 1 ∧ j = 1 then s else if q = 1 ∧ j = 5 then b else if q = 1 ∧ j = 6 then r else J q j) : HX 82 I6 J9 := by
  have h2 : HR 82 1 I2 J := hr_cp h hc (fun _ _ => rfl)
  obtain ⟨hS, hY, hP, hL, hW⟩ := h2
  obtain ⟨z1, z2, z3, z4, z5, z6, z7⟩ := hS
  have j9 : ∀ j, j ≠ 1 → j ≠ 5 → j ≠ 6 → J9 1 j = J 1 j := fun j a c d => by rw [e9 1 j (by decide) (by decide) (by decide) (by omega), if_neg (by omega), if_neg (by omega), if_neg (by omega)]
  have i6 : ∀ q j, q ≠ 83 → I6 q j = I2 q j := fun q j a => by rw [e6, if_neg (by omega), if_neg (by omega), if_neg (by omega)]
  refine ⟨⟨⟨fun k hk => ?_, ?_, ?_, fun k hk => ?_, fun k b1 b2 => ?_, fun k hk => ?_, fun k b1 b2 => ?_⟩, hy_mv hY (fun j => i6 _ _ (by omega)) (fun j b1 b2 => j9 _ (by omega) (by omega) (by omega)), hp_mv hP (fun j => ⟨i6 _ _ (by omega), i6 _ _ (by omega)⟩) (fun j hj => j9 _ (by omega) (by omega) (by omega)), hl_mv hL (fun j => ⟨i6 _ _ (by omega), i6 _ _ (by omega)⟩) (fun j b1 b2 => j9 _ (by omega) (by omega) (by omega)), hw_mv hW (fun d j b1 b2 b3 => i6 _ _ (by omega)) (fun j b1 b2 => j9 _ (by omega) (by omega) (by omega))⟩, ?_, ?_, ?_⟩
  · show I6 83 k = J9 1 (1 + k)
    rw [e6, e9 1 _ (by decide) (by decide) (by decide) (by omega)]
    by_cases k0 : k = 0
    · rw [if_pos ⟨rfl, k0⟩, if_pos (by omega)]
    · rw [if_neg (by omega), if_neg (show ¬ (1 = 1 ∧ 1 + k = 1) by omega)]
      by_cases k4 : k = 4
      · rw [if_pos ⟨rfl, k4⟩, if_pos (by omega)]
      · rw [if_neg (by omega), if_neg (show ¬ (1 = 1 ∧ 1 + k = 5) by omega)]
        by_cases k5 : k = 5
        · rw [if_pos ⟨rfl, k5⟩, if_pos (by omega)]
        · rw [if_neg (by omega), if_neg (show ¬ (1 = 1 ∧ 1 + k = 6) by omega)]
          exact z1 k hk
  · rw [i6 _ _ (by decide), j9 _ (by decide) (by decide) (by decide)]; exact z2
  · rw [i6 _ _ (by decide), j9 _ (by decide) (by decide) (by decide)]; exact z3
  · rw [i6 _ _ (by decide), j9 _ (by omega) (by omega) (by omega)]; exact z4 k hk
  · rw [i6 _ _ (by decide), j9 _ (by omega) (by omega) (by omega)]; exact z5 k b1 b2
  · rw [i6 _ _ (by decide), j9 _ (by omega) (by omega) (by omega)]; exact z6 k hk
  · rw [i6 _ _ (by decide), j9 _ (by omega) (by omega) (by omega)]; exact z7 k b1 b2
  · rw [i6 _ _ (by decide), e9 0 22 (by decide) (by decide) (by decide) (by decide), if_neg (by omega), if_neg (by omega), if_neg (by omega), ← h11]
    exact hc.1.2.2
  · rw [i6 _ _ (by decide), f2 _ _ (Or.inr (Or.inl rfl))]; exact hA.1
  · rw [i6 _ _ (by decide), f2 _ _ (Or.inr (Or.inl rfl))]; exact hA.2
theorem imag2 {r b s n : Int} (hfu : 5000000000 < fu) (h : HR 1 1 I J) (h11 : I 1 11 = J 0 22) (hA : HA 82 I) (hG : GX 0 J) (hC : GC I) (hr : 0 ≤ r ∧ r ≤ 3) (hb : 0 ≤ b ∧ b ≤ 99) (hs : 2 ≤ s ∧ s ≤ 8) (hn : n ≤ 60) (hc : J 1 70 + 60 < 2000000000) : pq (f_M_imagine fu 81 1 r b s n I) (f_X_leads fu 0 r b s n J) (fun _ I' _ J' => GNx I' J J') := by
  unfold f_M_imagine
  refine pq_bl (par_and (cv_hcopy (fu := fu) (81 + 1) 1 (by omega) I) (par_sat (ok_H_copyFrom fu (81 + 1) 1 I hfu hC (by omega) (by omega)))) (fun _ I2 e ⟨hc2, _, hC2, _⟩ => ?_)
  have f2 := fr_dcopy (fu := fu) (I := I) e
  have c4 : GC (up I2 (81 + 2) 5 r) := gc_up hC2 (by unfold inr; omega) (Or.inl (by decide))
  have c5 : GC (up (up I2 (81 + 2) 5 r) (81 + 2) 4 b) := gc_up c4 (by unfold inr; omega) (Or.inl (by decide))
  have c6 : GC (up (up (up I2 (81 + 2) 5 r) (81 + 2) 4 b) (81 + 2) 0 s) := gc_up c5 (by unfold inr; omega) (Or.inl (by decide))
  have e6 : ∀ q j, up (up (up I2 (81 + 2) 5 r) (81 + 2) 4 b) (81 + 2) 0 s q j = if q = 83 ∧ j = 0 then s else if q = 83 ∧ j = 4 then b else if q = 83 ∧ j = 5 then r else I2 q j := fun q j => rfl
  refine pq_zwl (pq_zwl (pq_zwl ?_))
  exact lead_core hfu hG c6 (fun J9 e9 => hx_told h h11 hA hc2 f2 e6 e9) hr (by unfold inr; omega) hs hn hc
end
/-! thought, price, needed, which: the answers -/
section
variable {fu : Nat} {I J : IMem}
theorem zb_idq (m : Res) : zb m (fun v I => zr v I) = m := by
  cases m with
  | none => rfl
  | some r => rfl
theorem pq_ig {m m2 : Res} {P : IMem → IMem → Prop} (h : pq (zb m (fun _ I => zr 0 I)) m2 (fun _ I' _ J' => P I' J')) : pq m m2 (fun _ I' _ J' => P I' J') := fun x I' y J' e1 e2 => h 0 I' y J' (by rw [e1]; rfl) e2
theorem rj_ha (h : RJ I J) : HA 82 I := ⟨h.2.2.2.2.1.1, h.2.2.2.2.1.2.1⟩
theorem pj_thought (a1 a2 a3 a4 a5 : Int) (hfu : 5000000000 < fu) (h : RJ I J) (hg : GX 0 J) (hC : GC I) (hc : J 1 70 + 60 < 2000000000) : pq (f_S_thought fu 0 a1 a2 a3 a4 a5 I) (f_X_thought fu 0 a1 a2 a3 a4 a5 J) (fun x _ y _ => x = y) := by
  unfold f_S_thought f_X_thought
  obtain ⟨v1, ev1, hv1⟩ := ev_canTell (fu := fu) 5 a1 I
  unfold CSet at hv1
  rw [ev1, zb_zr, ev_isIn, zb_zr]
  by_cases c1 : 0 ≤ a1 ∧ a1 ≤ 3
  · rw [if_neg (show ¬ v1 = 0 by omega), if_pos c1, if_neg ne10]
    obtain ⟨v2, ev2, hv2⟩ := ev_canTell (fu := fu) 4 a2 I
    unfold CSet at hv2
    rw [ev2, zb_zr, ev_isIn, zb_zr]
    by_cases c2 : 0 ≤ a2 ∧ a2 ≤ 99
    · rw [if_neg (show ¬ v2 = 0 by omega), if_pos c2, if_neg ne10]
      obtain ⟨v3, ev3, hv3⟩ := ev_canTell (fu := fu) 0 a3 I
      unfold CSet at hv3
      rw [ev3, zb_zr, ev_isIn, zb_zr]
      by_cases c3 : 2 ≤ a3 ∧ a3 ≤ 8
      · rw [if_neg (show ¬ v3 = 0 by omega), if_pos c3, if_neg ne10, ev_isIn, zb_zr]
        by_cases c4 : 1 ≤ a4 ∧ a4 ≤ 40
        · rw [if_neg (show ¬ a4 < 1 by omega), if_neg (show ¬ 40 < a4 by omega), if_pos c4, if_neg ne10, ev_isIn, zb_zr]
          by_cases c5 : 0 ≤ a5 ∧ a5 ≤ 5
          · rw [if_neg (show ¬ a5 < 0 by omega), if_neg (show ¬ 5 < a5 by omega), if_pos c5, if_neg ne10]
            refine pq_b (imag2 hfu h.1.1 h.1.2.1 (rj_ha h) hg hC c1 c2 c3 (by omega) hc) (fun x I1 y J1 e1 e2 g => ?_)
            have gn := gn_eq (I := I) h.1.1.2.1 g (fun j => fr_dream (fu := fu) e1 11 j (by decide))
            refine pq_bl (cv_gain (fu := fu) a5 c5 I1) (fun v I2 _ ⟨g1, g2⟩ => ?_)
            refine pq_gr (fun _ => pq_end ?_)
            rw [g1]
            exact (gn a5.toNat (by omega)).symm
          · rw [out2 (a := a5 < 0) (b := 5 < a5) (by omega), if_neg c5, if_pos eq00]
            exact pq_end rfl
        · rw [out2 (a := a4 < 1) (b := 40 < a4) (by omega), if_neg c4, if_pos eq00]
          exact pq_end rfl
      · rw [if_pos (show v3 = 0 by omega), if_neg c3, if_pos eq00]
        exact pq_end rfl
    · rw [if_pos (show v2 = 0 by omega), if_neg c2, if_pos eq00]
      exact pq_end rfl
  · rw [if_pos (show v1 = 0 by omega), if_neg c1, if_pos eq00]
    exact pq_end rfl
/-- what leads leaves -/
theorem xl_22 {a b c d : Int} {y : Int} {J' : IMem} (e : f_X_leads fu 0 a b c d J = some (y, J')) : J' 0 22 = J 0 22 := fc_X_leads (fun q j => ¬ (q = 0 ∧ j = 22)) fu 0 a b c d J (fun _ => by omega) (fun _ => by omega) (fun _ => by omega) (fun _ => by omega) (fun _ => by omega) (fun _ => by omega) (fun _ => by omega) (fun _ => by omega) (fun _ => by omega) (fun _ => by omega) (fun _ => by omega) (fun _ => by omega) (by omega) (by omega) (by omega) (by omega) (by omega) (by omega) (by omega) (by omega) (by omega) (by omega) (by omega) (by omega) (by omega) (by omega) (by omega) (by omega) (by omega) (by omega) (by omega) (by omega) (by omega) (by omega) (by omega) (by omega) (by omega) e 0 22 (by omega)
theorem pj_price (a1 a2 : Int) (hfu : 5000000000 < fu) (h : RJ I J) (hg : GX 0 J) (hC : GC I) (hc : J 1 70 + 60 < 1900000000) : pq (f_S_price fu 0 a1 a2 I) (f_X_price fu 0 a1 a2 J) (fun x _ y _ => x = y) := by
  unfold f_S_price f_X_price
  obtain ⟨v1, ev1, hv1⟩ := ev_canTell (fu := fu) 4 a1 I
  unfold CSet at hv1
  obtain ⟨⟨s1, s2⟩, ⟨f1, f2⟩, _⟩ := gx_facts hg
  rw [ev1, zb_zr, ev_isIn, zb_zr]
  by_cases c1 : 0 ≤ a1 ∧ a1 ≤ 99
  · rw [if_neg (show ¬ v1 = 0 by omega), if_pos c1, if_neg ne10, ev_isIn, zb_zr]
    by_cases c2 : 1 ≤ a2 ∧ a2 ≤ 40
    · rw [if_neg (show ¬ a2 < 1 by omega), if_neg (show ¬ 40 < a2 by omega), if_pos c2, if_neg ne10]
      have t5 : I (0 + 2) 5 = J (0 + 1) 6 := h.1.1.1.1 5 (by decide)
      have t0 : I (0 + 2) 0 = J (0 + 1) 1 := h.1.1.1.1 0 (by decide)
      simp only [zl_e]
      rw [t5, t0]
      refine pq_b (pq_al (pq_ar (imag2 hfu h.1.1 h.1.2.1 (rj_ha h) hg hC ⟨f1, f2⟩ c1 ⟨s1, s2⟩ (by omega) (by omega)) (par_sat (ok_X_leads fu 0 (J (0 + 1) 6) a1 (J (0 + 1) 1) a2 J hfu hg (hg.1 _ _) (by unfold inr; omega) (hg.1 _ _) (by unfold inr; omega) ⟨f1, f2, s1, s2, by omega⟩ (by show J 1 70 < 1900000000; omega)))) (par_sat (ok_M_imagine fu 81 1 (J (0 + 1) 6) a1 (J (0 + 1) 1) a2 I hfu hC rfl (Or.inl rfl) (hg.1 _ _) (by unfold inr; omega) (hg.1 _ _) (by unfold inr; omega)))) (fun x I1 y J1 e1 e2 ⟨⟨g, _, hg1, sa⟩, _, hC1, _⟩ => ?_)
      have fd := fr_dream (fu := fu) e1
      have gn := gn_eq (I := I) h.1.1.2.1 g (fun j => fd 11 j (by decide))
      have sa1 : ∀ j, j < 6190 → J1 1 j = J 1 j := sa.1
      have h1 : HR 1 1 I1 J1 := hr_mv h.1.1 (fun d j q => fd _ _ (by unfold CH at q; omega)) sa1
      have h11 : I1 1 11 = J1 0 22 := by rw [fd 1 11 (by decide), xl_22 (fu := fu) e2]; exact h.1.2.1
      refine pq_bl (cv_gain (fu := fu) 0 (by decide) I1) (fun v I2 _ ⟨g1, g2⟩ => ?_)
      rw [g2]
      have u6 : J1 (0 + 1) 6 = J (0 + 1) 6 := sa1 6 (by decide)
      have u1 : J1 (0 + 1) 1 = J (0 + 1) 1 := sa1 1 (by decide)
      have u70 : J1 1 70 = J 1 70 := sa1 70 (by decide)
      rw [u6, u1]
      refine pq_b (imag2 hfu h1 h11 g.2 hg1 hC1 ⟨f1, f2⟩ (by decide) ⟨s1, s2⟩ (by omega) (by omega)) (fun x3 I3 y3 J3 e3 e4 k => ?_)
      have kn := gn_eq (I := I1) h1.2.1 k (fun j => fr_dream (fu := fu) e3 11 j (by decide))
      refine pq_bl (cv_gain (fu := fu) 0 (by decide) I3) (fun v4 I4 _ ⟨g3, g4⟩ => pq_end ?_)
      rw [g1, g3]
      show wr32 (GNv I1 0 - GNv I3 0) = wr32 (J1 25 0 - J3 25 0)
      rw [gn 0 (by decide), kn 0 (by decide)]
    · rw [out2 (a := a2 < 1) (b := 40 < a2) (by omega), if_neg c2, if_pos eq00]
      exact pq_end rfl
  · rw [if_pos (show v1 = 0 by omega), if_neg c1, if_pos eq00]
    exact pq_end rfl
/-- the chairs of needed -/
theorem need13 (hfu : 5000000000 < fu) (n : Int) (hn : n ≤ 40) (kk : Int → IMem → Res) (hkk : ∀ v J, par (kk v J) (fun y _ => y = v)) : ∀ (m m2 i : Nat) (w : Int) (I J : IMem), (i : Int) ≤ 60 → HG 82 I J → J 1 70 + 60 < 2000000000 + i → inr w → pq (f_M_emptyNeeded_13 fu 81 n m w (i : Int) I) (f_X_needed_20 fu kk 0 n m2 w (i : Int) J) (fun x _ y _ => x = y) := by
  intro m
  induction m with
  | zero => intro _ _ _ _ _ _ _ _ _; exact pq_nl
  | succ m ih =>
    intro m2 i w I J hi h hc hw
    cases m2 with
    | zero => exact pq_nr
    | succ m2 =>
      show pq (fb_M_emptyNeeded_13 fu 81 n (f_M_emptyNeeded_13 fu 81 n m) w (i : Int) I) (fb_X_needed_20 fu kk 0 n (f_X_needed_20 fu kk 0 n m2) w (i : Int) J) _
      unfold fb_M_emptyNeeded_13 fb_X_needed_20
      by_cases hin : (i : Int) < n
      · rw [if_pos hin, if_pos hin]
        have w1 : Wq (wr32 ((i : Int) + 1)) (((i + 1 : Nat) : Int)) := by show wr32 ((i : Int) + 1) = ((i + 1 : Nat) : Int); rw [wr32_i2 (by omega) (by omega)]; rfl
        simp only [zl_e, zj_e]
        rw [w1.e]
        refine pq_b (ride2 (fu := fu) (oc := 122) (hb := 82) (Or.inl ⟨rfl, rfl⟩) hfu h (by omega)) (fun x1 I1 y1 J1 _ _ ⟨g1, g2, _, _, g5, g6⟩ => ?_)
        subst g1
        have a1 : I (81 + 11) 1 = J 1 71 := h.1.1.2.1.1 1 (by decide)
        have b1 : I1 (81 + 11) 1 = J1 1 71 := g2.1.1.2.1.1 1 (by decide)
        have L := g2.2.1.1 1 111
        have K := h.2.1.1 1 71
        have e : Wq (wr32 (I1 (81 + 11) 1 - I (81 + 11) 1)) (J1 (0 + 1) 111) := by
          show (wr32 (I1 (81 + 11) 1 - I (81 + 11) 1)) = (J1 (0 + 1) 111)
          rw [a1, b1, g6]
          show _ = J1 1 111
          unfold inr at L K
          unfold wr32
          omega
        rw [e.e]
        have w0 : Wq (wr32 (w + 0)) w := by show wr32 (w + 0) = w; rw [Int.add_zero]; exact wr32_id hw
        rw [w0.e]
        have hc1 : J1 1 70 + 60 < 2000000000 + ((i + 1 : Nat) : Int) := by rw [g5]; omega
        refine pq_ii Iff.rfl (fun _ _ => ?_) (fun _ _ => ?_)
        · exact ih m2 (i + 1) _ I1 J1 (by omega) g2 hc1 (wr32_in _)
        · exact ih m2 (i + 1) _ I1 J1 (by omega) g2 hc1 hw
      · rw [if_neg hin, if_neg hin]
        exact pq_r (par_mono (hkk w J) (fun _ _ e => e.symm))
theorem hx_copy {I2 J2 : IMem} (h : RJ I J) (hc : HCP 82 1 I2 I) (f2 : ∀ q j, (q < 82 ∨ q = 96 ∨ 122 ≤ q) → I2 q j = I q j) (so : ∀ q j, q ≠ 3 → q ≠ 23 → q ≠ 24 → ¬ (q = 0 ∧ j = 50) → J2 q j = J q j) : HX 82 I2 J2 := by
  refine ⟨hr_cp h.1.1 hc (fun j _ => so 1 j (by decide) (by decide) (by decide) (by omega)), ?_, ?_, ?_⟩
  · rw [so 0 22 (by decide) (by decide) (by decide) (by decide), ← h.1.2.1]
    exact hc.1.2.2
  · exact (f2 _ _ (Or.inr (Or.inl rfl))).trans (rj_ha h).1
  · exact (f2 _ _ (Or.inr (Or.inl rfl))).trans (rj_ha h).2
theorem pj_needed (n : Int) (hfu : 5000000000 < fu) (h : RJ I J) (hg : GX 0 J) (hC : GC I) (hc : J 1 70 + 60 < 2000000000) : pq (f_S_needed fu 0 n I) (f_X_needed fu 0 n J) (fun x _ y _ => x = y) := by
  unfold f_S_needed f_X_needed
  rw [ev_isIn, zb_zr]
  by_cases c : 1 ≤ n ∧ n ≤ 40
  · rw [if_neg (show ¬ n < 1 by omega), if_neg (show ¬ 40 < n by omega), if_pos c, if_neg ne10, zb_idq]
    unfold f_M_emptyNeeded
    refine pq_bl (par_and (cv_hcopy (fu := fu) (0 + 81 + 1) (0 + 1) (by omega) I) (par_sat (ok_H_copyFrom fu (0 + 81 + 1) (0 + 1) I hfu hC (by omega) (by omega)))) (fun _ I2 e ⟨hc2, _, hC2, _⟩ => ?_)
    have f2 := fr_dcopy (fu := fu) (I := I) e
    refine pq_br (par_sat (ok_X_setsOut fu 0 J hfu hg)) (fun _ J2 _ ⟨_, hG2, so⟩ => ?_)
    have so' : ∀ q j, q ≠ 3 → q ≠ 23 → q ≠ 24 → ¬ (q = 0 ∧ j = 50) → J2 q j = J q j := fun q j a b c d => so.2.2.2.2 q j (by omega) (by omega) (by omega) (by omega)
    refine need13 hfu n c.2 _ (fun v J3 => ?_) fu fu 0 0 I2 J2 (by decide) ⟨hx_copy h hc2 f2 so', hG2, hC2⟩ ?_ (lit_in rfl)
    · exact par_zb (Q1 := fun _ _ => True) (fun _ _ _ => trivial) (fun _ _ _ => par_zr rfl)
    · rw [so' 1 70 (by decide) (by decide) (by decide) (by decide)]
      omega
  · rw [out2 (a := n < 1) (b := 40 < n) (by omega), if_neg c, if_pos eq00]
    exact pq_end rfl
/-- between two sets of WHICH -/
def WIV (i : Nat) (w3 w4 w5 : Int) (I J : IMem) : Prop := HR 1 1 I J ∧ HA 82 I ∧ GX 0 J ∧ GC I ∧ J 1 70 + 60 < 1900000000 ∧ ((i = 0 ∧ w3 = -1) ∨ (i ≠ 0 ∧ w3 ≠ -1 ∧ I 129 0 = w3 ∧ I 129 1 = w4 ∧ I 129 2 = w5))
def kcW (a3 : Int) (I22 : IMem) : Res := if a3 < 0 then (zr (-1) I22) else (if a3 < 3 then (zg (0 ≤ a3 ∧ a3 < 3) (zr (I22 (81 + 48) a3.toNat) I22)) else (zr (-1) I22))
def kxW (a2 : Int) (x22 x23 x24 : Int) (I21 : IMem) : Res := zw I21 0 22 ((-1)) fun I25 => if a2 = 0 then (zr x22 I25) else (if a2 = 1 then (zr x23 I25) else (zr x24 I25))
theorem best3 (hfu : 5000000000 < fu) (n w : Int) (hn : 1 ≤ n ∧ n ≤ 20) (hw : 0 ≤ w ∧ w ≤ 2) : ∀ (m m2 i : Nat) (w3 w4 w5 : Int) (I J : IMem), i ≤ 16 → WIV i w3 w4 w5 I J → pq (f_M_bestSet_3 fu (kcW w) 81 1 n w m (i : Int) I) (f_X_which_32 fu (kxW w) 0 n w m2 w3 w4 w5 (i : Int) J) (fun x _ y _ => x = y) := by
  intro m
  induction m with
  | zero => intro _ _ _ _ _ _ _ _ _; exact pq_nl
  | succ m ih =>
    intro m2 i w3 w4 w5 I J hi hV
    obtain ⟨hR, hA, hg, hC, hc, hv⟩ := hV
    cases m2 with
    | zero => exact pq_nr
    | succ m2 =>
      show pq (fb_M_bestSet_3 fu (kcW w) 81 1 n w (f_M_bestSet_3 fu (kcW w) 81 1 n w m) (i : Int) I) (fb_X_which_32 fu (kxW w) 0 n w (f_X_which_32 fu (kxW w) 0 n w m2) w3 w4 w5 (i : Int) J) _
      unfold fb_M_bestSet_3 fb_X_which_32
      by_cases hin : (i : Int) < 16
      · rw [if_pos hin, if_pos hin]
        have w1 : Wq (wr32 ((i : Int) + 1)) (((i + 1 : Nat) : Int)) := by show wr32 ((i : Int) + 1) = ((i + 1 : Nat) : Int); rw [wr32_i2 (by omega) (by omega)]; rfl
        simp only [zl_e, zj_e]
        rw [w1.e]
        refine pq_bl (par_and (cv_hcopy (fu := fu) (81 + 1) 1 (by omega) I) (par_sat (ok_H_copyFrom fu (81 + 1) 1 I hfu hC (by omega) (by omega)))) (fun _ I2 e ⟨hc2, _, hC2, _⟩ => ?_)
        have f2 := fr_dcopy (fu := fu) (I := I) e
        have c4 : GC (up I2 (81 + 1) 11 (i : Int)) := gc_up hC2 (by unfold inr; omega) (Or.inl (by decide))
        have g7 : GX 0 (up J 0 22 (i : Int)) := GX_up0 hg (by unfold inr; omega) (Or.inr (Or.inr (Or.inl ⟨rfl, by omega, by omega⟩)))
        have e4 : ∀ q j, up I2 (81 + 1) 11 (i : Int) q j = if q = 82 ∧ j = 11 then (i : Int) else I2 q j := fun q j => rfl
        have e7 : ∀ q j, up J 0 22 (i : Int) q j = if q = 0 ∧ j = 22 then (i : Int) else J q j := fun q j => rfl
        refine pq_zwl (pq_zwr ?_)
        obtain ⟨I4, hI4⟩ : ∃ I4, I4 = up I2 (81 + 1) 11 (i : Int) := ⟨_, rfl⟩
        obtain ⟨J7, hJ7⟩ : ∃ J7, J7 = up J 0 22 (i : Int) := ⟨_, rfl⟩
        rw [← hI4, ← hJ7]
        rw [← hI4] at c4 e4
        rw [← hJ7] at g7 e7
        have j7 : ∀ j, J7 1 j = J 1 j := fun j => by rw [e7, if_neg (by omega)]
        obtain ⟨⟨s1, s2⟩, ⟨f1, f2'⟩, _⟩ := gx_facts g7
        have hX : ∀ J9 : IMem, (∀ q j, q ≠ 3 → q ≠ 23 → q ≠ 24 → ¬ (q = 0 ∧ j = 50) → J9 q j = if q = 1 ∧ j = 1 then J7 (0 + 1) 1 else if q = 1 ∧ j = 5 then J7 (0 + 1) 5 else if q = 1 ∧ j = 6 then J7 (0 + 1) 6 else J7 q j) → HX 82 I4 J9 := by
          intro J9 e9
          have j9 : ∀ j, J9 1 j = J 1 j := by
            intro j
            rw [e9 1 j (by decide) (by decide) (by decide) (by omega)]
            by_cases k1 : j = 1
            · rw [if_pos ⟨rfl, k1⟩, k1]; exact j7 1
            · rw [if_neg (fun q => k1 q.2)]
              by_cases k5 : j = 5
              · rw [if_pos ⟨rfl, k5⟩, k5]; exact j7 5
              · rw [if_neg (fun q => k5 q.2)]
                by_cases k6 : j = 6
                · rw [if_pos ⟨rfl, k6⟩, k6]; exact j7 6
                · rw [if_neg (fun q => k6 q.2)]; exact j7 j
          refine ⟨hr_mv (hr_cp hR hc2 (fun _ _ => rfl)) (fun d j q => ?_) (fun j _ => j9 j), ?_, ?_, ?_⟩
          · rw [e4, if_neg (by unfold CH at q; omega)]
          · rw [e4, if_pos ⟨rfl, rfl⟩, e9 0 22 (by decide) (by decide) (by decide) (by decide), if_neg (by omega), if_neg (by omega), if_neg (by omega), e7, if_pos ⟨rfl, rfl⟩]
          · rw [e4, if_neg (by omega), f2 _ _ (Or.inr (Or.inl rfl))]; exact hA.1
          · rw [e4, if_neg (by omega), f2 _ _ (Or.inr (Or.inl rfl))]; exact hA.2
        refine pq_b (Q1 := fun _ I' _ J' => GNx I' J7 J') (pq_ig (lead_core hfu g7 c4 hX ⟨f1, f2'⟩ (g7.1 1 5) ⟨s1, s2⟩ (by omega) (by rw [j7]; omega))) (fun x6 I6 y9 J9 e5 e6 g => ?_)
        have a6 : ∀ q j, (q < 82 ∨ q = 129) → I6 q j = I q j := fun q j hq => by
          have := congrFun (fr_C_turns (fun q => 82 ≤ q ∧ q ≠ 129) fu (81 + 41) (81 + 1) n I4 (fun q a b => by omega) (by omega) (by omega) (by omega) (by omega) (by omega) (by omega) (by omega) (by omega) (by omega) (by omega) (by omega) (by omega) (by omega) (by omega) (by omega) e5 q (by omega)) j
          show I6 q j = _
          refine (show I6 q j = I4 q j from this).trans ?_
          rw [e4, if_neg (by omega)]
          exact f2 q j (by omega)
        have hC6 : GC I6 := (par_sat (ok_C_turns fu (81 + 41) (81 + 1) n I4 hfu c4 (by omega) (by omega) (by unfold inr; omega)) x6 I6 e5).2.1
        obtain ⟨_, hg9, sa⟩ := par_sat (ok_X_leads fu 0 (J7 (0 + 1) 6) (J7 (0 + 1) 5) (J7 (0 + 1) 1) n J7 hfu g7 (g7.1 _ _) (g7.1 _ _) (g7.1 _ _) (by unfold inr; omega) ⟨f1, f2', s1, s2, by omega⟩ (by show J7 1 70 < 1900000000; rw [j7]; omega)) y9 J9 e6
        have j9 : ∀ j, j < 6190 → J9 1 j = J 1 j := fun j hj => (sa.1 j hj).trans (j7 j)
        have hR6 : HR 1 1 I6 J9 := hr_mv hR (fun d j q => a6 _ _ (by unfold CH at q; omega)) j9
        have gn := gn_eq (I := I) (hy_mv hR.2.1 (fun _ => rfl) (fun j _ _ => j7 j)) g (fun j => a6 11 j (by decide))
        refine pq_bl (cv_gain (fu := fu) 0 (by decide) I6) (fun v8 I8 _ ⟨g1, g2⟩ => ?_)
        rw [g2]
        refine pq_bl (cv_gain (fu := fu) 2 (by decide) I6) (fun v11 I11 _ ⟨g3, g4⟩ => ?_)
        rw [g4]
        have y8 : v8 = J9 (0 + 25) 0 := g1.trans (gn 0 (by decide)).symm
        have y11 : v11 = J9 (0 + 25) 2 := g3.trans (gn 2 (by decide)).symm
        have c9 : J9 1 70 + 60 < 1900000000 := by rw [j9 70 (by decide)]; exact hc
        have upd : pq (zw I6 (81 + 48) 0 (i : Int) fun I19 => zw I19 (81 + 48) 1 v8 fun I20 => zw I20 (81 + 48) 2 v11 fun I21 => f_M_bestSet_3 fu (kcW w) 81 1 n w m ((i + 1 : Nat) : Int) I21) (f_X_which_32 fu (kxW w) 0 n w m2 (i : Int) (J9 (0 + 25) 0) (J9 (0 + 25) 2) ((i + 1 : Nat) : Int) J9) (fun x _ y _ => x = y) := by
          have c7 : GC (up (up (up I6 (81 + 48) 0 (i : Int)) (81 + 48) 1 v8) (81 + 48) 2 v11) := gc_up (gc_up (gc_up hC6 (by unfold inr; omega) (Or.inl (by decide))) (by rw [y8]; exact hg9.1 _ _) (Or.inl (by decide))) (by rw [y11]; exact hg9.1 _ _) (Or.inl (by decide))
          have e8 : ∀ q j, up (up (up I6 (81 + 48) 0 (i : Int)) (81 + 48) 1 v8) (81 + 48) 2 v11 q j = if q = 129 ∧ j = 2 then v11 else if q = 129 ∧ j = 1 then v8 else if q = 129 ∧ j = 0 then (i : Int) else I6 q j := fun q j => rfl
          refine pq_zwl (pq_zwl (pq_zwl ?_))
          obtain ⟨I12, h12⟩ : ∃ I12, I12 = up (up (up I6 (81 + 48) 0 (i : Int)) (81 + 48) 1 v8) (81 + 48) 2 v11 := ⟨_, rfl⟩
          rw [← h12]
          rw [← h12] at c7 e8
          have i12 : ∀ q j, q ≠ 129 → I12 q j = I6 q j := fun q j a => by rw [e8, if_neg (by omega), if_neg (by omega), if_neg (by omega)]
          refine ih m2 (i + 1) _ _ _ I12 J9 (by omega) ⟨hr_mv hR6 (fun d j q => i12 _ _ (by unfold CH at q; omega)) (fun _ _ => rfl), ⟨(i12 _ _ (by decide)).trans g.2.1, (i12 _ _ (by decide)).trans g.2.2⟩, hg9, c7, c9, Or.inr ⟨by omega, by omega, ?_, ?_, ?_⟩⟩
          · rw [e8, if_neg (by omega), if_neg (by omega), if_pos ⟨rfl, rfl⟩]
          · rw [e8, if_neg (by omega), if_pos ⟨rfl, rfl⟩]; exact y8
          · rw [e8, if_pos ⟨rfl, rfl⟩]; exact y11
        have keep : i ≠ 0 → pq (f_M_bestSet_3 fu (kcW w) 81 1 n w m ((i + 1 : Nat) : Int) I6) (f_X_which_32 fu (kxW w) 0 n w m2 w3 w4 w5 ((i + 1 : Nat) : Int) J9) (fun x _ y _ => x = y) := by
          intro i0
          rcases hv with ⟨z, _⟩ | ⟨_, v3, v4, v5, v6⟩
          · exact absurd z i0
          · exact ih m2 (i + 1) w3 w4 w5 I6 J9 (by omega) ⟨hR6, g.2, hg9, hC6, c9, Or.inr ⟨by omega, v3, (a6 _ _ (Or.inr rfl)).trans v4, (a6 _ _ (Or.inr rfl)).trans v5, (a6 _ _ (Or.inr rfl)).trans v6⟩⟩
        rcases hv with ⟨z, z3⟩ | ⟨i0, v3, v4, v5, v6⟩
        · rw [if_pos (show (i : Int) = 0 by omega), if_pos z3]
          exact upd
        · have q4 : I6 (81 + 48) 1 = w4 := (a6 _ _ (Or.inr rfl)).trans v5
          have q5 : I6 (81 + 48) 2 = w5 := (a6 _ _ (Or.inr rfl)).trans v6
          rw [if_neg (show ¬ (i : Int) = 0 by omega), if_neg v3, q4, q5, ← y8, ← y11]
          rw [← y8, ← y11] at upd
          by_cases d1 : v8 < w4
          · rw [if_pos d1, if_neg (show ¬ w4 < v8 by omega), if_neg (show ¬ v8 = w4 by omega)]
            exact upd
          · rw [if_neg d1]
            by_cases d2 : v8 = w4
            · rw [if_pos d2, if_neg (show ¬ w4 < v8 by omega), if_pos d2]
              by_cases d3 : v11 < w5
              · rw [if_pos d3, if_pos d3]
                exact upd
              · rw [if_neg d3, if_neg d3]
                exact keep i0
            · rw [if_neg d2, if_pos (show w4 < v8 by omega)]
              exact keep i0
      · rw [if_neg hin, if_neg hin]
        rcases hv with ⟨z, _⟩ | ⟨i0, v3, v4, v5, v6⟩
        · omega
        · unfold kcW kxW
          rw [if_neg (show ¬ w < 0 by omega), if_pos (show w < 3 by omega)]
          refine pq_gl (fun _ => pq_zwr ?_)
          rcases (show w = 0 ∨ w = 1 ∨ w = 2 by omega) with rfl | rfl | rfl
          · rw [if_pos rfl]
            exact pq_end v4
          · rw [if_neg (by decide), if_pos rfl]
            exact pq_end v5
          · rw [if_neg (by decide), if_neg (by decide)]
            exact pq_end v6
theorem pj_which (n w : Int) (hfu : 5000000000 < fu) (h : RJ I J) (hg : GX 0 J) (hC : GC I) (hc : J 1 70 + 60 < 1900000000) : pq (f_S_which fu 0 n w I) (f_X_which fu 0 n w J) (fun x _ y _ => x = y) := by
  unfold f_S_which f_X_which
  rw [ev_isIn, zb_zr]
  by_cases c1 : 1 ≤ n ∧ n ≤ 20
  · rw [if_neg (show ¬ n < 1 by omega), if_neg (show ¬ 20 < n by omega), if_pos c1, if_neg ne10, ev_isIn, zb_zr]
    by_cases c2 : 0 ≤ w ∧ w ≤ 2
    · rw [if_neg (show ¬ w < 0 by omega), if_neg (show ¬ 2 < w by omega), if_pos c2, if_neg ne10, zb_idq]
      exact best3 hfu n w c1 c2 fu fu 0 (-1) 0 0 I J (by decide) ⟨h.1.1, rj_ha h, hg, hC, hc, Or.inl ⟨rfl, rfl⟩⟩
    · rw [out2 (a := w < 0) (b := 2 < w) (by omega), if_neg c2, if_pos eq00]
      exact pq_end rfl
  · rw [out2 (a := n < 1) (b := 20 < n) (by omega), if_neg c1, if_pos eq00]
    exact pq_end rfl
end
/-! BEST filling: the groups that are seen, on both sides -/
/-- how many below n are so -/
def cnB (P : Nat → Bool) : Nat → Nat
  | 0 => 0
  | n + 1 => cnB P n + (if P n = true then 1 else 0)
theorem cnB_y {P : Nat → Bool} {n : Nat} (h : P n = true) : cnB P (n + 1) = cnB P n + 1 := by
  show cnB P n + (if P n = true then 1 else 0) = _
  rw [if_pos h]
theorem cnB_n {P : Nat → Bool} {n : Nat} (h : P n = false) : cnB P (n + 1) = cnB P n := by
  show cnB P n + (if P n = true then 1 else 0) = _
  rw [if_neg (by rw [h]; decide)]
  rfl
theorem cnB_skip {P : Nat → Bool} (a : Nat) : ∀ b : Nat, a ≤ b → (∀ k, a ≤ k → k < b → P k = false) → cnB P b = cnB P a := by
  intro b
  induction b with
  | zero => intro h _; rw [show a = 0 by omega]
  | succ b ih =>
    intro h hp
    by_cases e : a = b + 1
    · rw [e]
    · rw [cnB_n (hp b (by omega) (by omega))]
      exact ih (by omega) (fun k h1 h2 => hp k h1 (by omega))
theorem cnB_mono {P : Nat → Bool} (a : Nat) : ∀ b : Nat, a ≤ b → cnB P a ≤ cnB P b := by
  intro b
  induction b with
  | zero => intro h; rw [show a = 0 by omega]; exact Nat.le_refl _
  | succ b ih =>
    intro h
    by_cases e : a = b + 1
    · rw [e]; exact Nat.le_refl _
    · have := ih (by omega)
      have : cnB P (b + 1) = cnB P b + (if P b = true then 1 else 0) := rfl
      omega
theorem cnB_lt {P : Nat → Bool} {a b : Nat} (h : a < b) (hp : P a = true) : cnB P a < cnB P b := by
  have h1 := cnB_mono (P := P) (a + 1) b h
  rw [cnB_y hp] at h1
  omega
theorem cnB_at {P : Nat → Bool} : ∀ (K n : Nat), n < cnB P K → ∃ k, k < K ∧ P k = true ∧ cnB P k = n := by
  intro K
  induction K with
  | zero => intro n h; exact absurd h (Nat.not_lt_zero _)
  | succ K ih =>
    intro n h
    cases hp : P K with
    | false =>
      rw [cnB_n hp] at h
      obtain ⟨k, k1, k2, k3⟩ := ih n h
      exact ⟨k, by omega, k2, k3⟩
    | true =>
      rw [cnB_y hp] at h
      by_cases e : n = cnB P K
      · exact ⟨K, by omega, hp, e.symm⟩
      · obtain ⟨k, k1, k2, k3⟩ := ih n (by omega)
        exact ⟨k, by omega, k2, k3⟩
/-- those below K stand in a, in their order -/
def LSB (P : Nat → Bool) (a : Nat → Int) (n K : Nat) : Prop := n = cnB P K ∧ ∀ k, k < K → P k = true → a (cnB P k) = (k : Int)
theorem lsb_skip {P : Nat → Bool} {a : Nat → Int} {n K K2 : Nat} (h : LSB P a n K) (hK : K ≤ K2) (hp : ∀ k, K ≤ k → k < K2 → P k = false) : LSB P a n K2 := by
  refine ⟨h.1.trans (cnB_skip K K2 hK hp).symm, fun k hk hpk => ?_⟩
  by_cases y : k < K
  · exact h.2 k y hpk
  · rw [hp k (by omega) hk] at hpk; exact absurd hpk (by decide)
theorem lsb_add {P : Nat → Bool} {a a2 : Nat → Int} {n K : Nat} (h : LSB P a n K) (hp : P K = true) (h1 : ∀ j, j ≠ n → a2 j = a j) (h2 : a2 n = (K : Int)) : LSB P a2 (n + 1) (K + 1) := by
  refine ⟨by rw [cnB_y hp, ← h.1], fun k hk hpk => ?_⟩
  by_cases y : k = K
  · subst y; rw [← h.1]; exact h2
  · have := cnB_lt (P := P) (show k < K by omega) hpk
    rw [h1 _ (by rw [h.1]; omega)]
    exact h.2 k (by omega) hpk
/-- who is in the row: seen, and no dear one -/
def PBb (c sv srt : Nat → Int) (k : Nat) : Bool := decide (((k % 40 : Nat) : Int) < c (k / 40) ∧ ((k % 40 : Nat) : Int) < sv (k / 40) ∧ srt k ≠ 2)
theorem pb_iff {c sv srt : Nat → Int} {k : Nat} : PBb c sv srt k = true ↔ ((k % 40 : Nat) : Int) < c (k / 40) ∧ ((k % 40 : Nat) : Int) < sv (k / 40) ∧ srt k ≠ 2 := by
  unfold PBb
  rw [decide_eq_true_iff]
theorem pb_no {c sv srt : Nat → Int} {k : Nat} (h : ¬ (((k % 40 : Nat) : Int) < c (k / 40) ∧ ((k % 40 : Nat) : Int) < sv (k / 40) ∧ srt k ≠ 2)) : PBb c sv srt k = false := by
  unfold PBb
  exact decide_eq_false h
section
variable {fu : Nat} {Q : Int → IMem → Prop}
/-- the reference's row below K -/
def XRV (P : Nat → Bool) (J0 : IMem) (K g : Nat) (J : IMem) : Prop := J 0 40 = (g : Int) ∧ LSB P (J 16) g K ∧ ∀ q j, q ≠ 16 → ¬ (q = 0 ∧ j = 40) → J q j = J0 q j
theorem xr_15 (kk : IMem → Res) {P : Nat → Bool} (J0 : IMem) {l : Nat} (hl : l < 6) (hc : J0 1 (130 + l) ≤ 40) (hP : ∀ k, k < 240 → (P k = true ↔ ((k % 40 : Nat) : Int) < J0 1 (130 + k / 40) ∧ ((k % 40 : Nat) : Int) < J0 1 (10 + k / 40) ∧ J0 1 (140 + 6 * k + 3) ≠ 2)) (hk : ∀ (g : Nat) (J : IMem), XRV P J0 (40 * (l + 1)) g J → par (kk J) Q) : ∀ (m p g : Nat) (J : IMem), p ≤ 40 → XRV P J0 (40 * l + p) g J → par (f_X_laysRow_15 fu kk 0 (l : Int) m (p : Int) J) Q := by
  intro m
  induction m with
  | zero => intro _ _ _ _ _; exact par_none
  | succ m ih =>
    intro p g J hp hV
    have hV' := hV
    obtain ⟨v1, v2, v3⟩ := hV'
    show par (fb_X_laysRow_15 fu kk 0 (l : Int) (f_X_laysRow_15 fu kk 0 (l : Int) m) (p : Int) J) Q
    unfold fb_X_laysRow_15
    have w1 : Wq (wr32 (130 + (l : Int))) (((130 + l : Nat) : Int)) := by show wr32 (130 + (l : Int)) = ((130 + l : Nat) : Int); rw [wr32_i2 (by omega) (by omega)]; omega
    have w2 : Wq (wr32 (10 + (l : Int))) (((10 + l : Nat) : Int)) := by show wr32 (10 + (l : Int)) = ((10 + l : Nat) : Int); rw [wr32_i2 (by omega) (by omega)]; omega
    have w3 : Wq (wr32 ((p : Int) + 1)) (((p + 1 : Nat) : Int)) := by show wr32 ((p : Int) + 1) = ((p + 1 : Nat) : Int); rw [wr32_i2 (by omega) (by omega)]; rfl
    have w4 : Wq (wr32 (wr32 (40 * (l : Int)) + (p : Int))) (((40 * l + p : Nat) : Int)) := by show wr32 (wr32 (40 * (l : Int)) + (p : Int)) = ((40 * l + p : Nat) : Int); rw [wr32_i2 (x := 40 * (l : Int)) (by omega) (by omega), wr32_i2 (by omega) (by omega)]; omega
    have stop : (∀ k, 40 * l + p ≤ k → k < 40 * (l + 1) → P k = false) → par (kk J) Q := fun hs => hk g J ⟨v1, lsb_skip v2 (by omega) hs, v3⟩
    have no : ∀ k, k < 240 → ¬ (((k % 40 : Nat) : Int) < J0 1 (130 + k / 40) ∧ ((k % 40 : Nat) : Int) < J0 1 (10 + k / 40) ∧ J0 1 (140 + 6 * k + 3) ≠ 2) → P k = false := fun k hk240 hn => by
      cases hpk : P k with
      | false => rfl
      | true => exact absurd ((hP k hk240).mp hpk) hn
    simp only [zl_e, zj_e]
    rw [w1.e, w2.e, w3.e, w4.e]
    refine par_zg (fun _ => ?_)
    have e1 : J (0 + 1) ((130 + l : Nat) : Int).toNat = J0 1 (130 + l) := v3 1 (130 + l) (by decide) (by omega)
    have e2 : J (0 + 1) ((10 + l : Nat) : Int).toNat = J0 1 (10 + l) := v3 1 (10 + l) (by decide) (by omega)
    rw [e1, e2]
    refine par_ite (fun q1 => par_zg (fun _ => par_ite (fun q2 => ?_) (fun q2 => ?_))) (fun q1 => ?_)
    · have p40 : p < 40 := by omega
      rw [ev_of3 fu 0 l p J hl p40, zb_zr]
      have d1 : (40 * l + p) / 40 = l := by omega
      have d2 : (40 * l + p) % 40 = p := by omega
      have e3 : J (0 + 1) (140 + 6 * (40 * l + p) + 3) = J0 1 (140 + 6 * (40 * l + p) + 3) := v3 1 _ (by decide) (by omega)
      have hPk := hP (40 * l + p) (by omega)
      rw [d1, d2] at hPk
      rw [e3]
      refine par_ite (fun q3 => ?_) (fun q3 => ?_)
      · refine ih (p + 1) g J (by omega) ⟨v1, lsb_skip v2 (by omega) (fun k h1 h2 => ?_), v3⟩
        have : k = 40 * l + p := by omega
        subst this
        refine no _ (by omega) ?_
        rw [d1, d2]
        exact fun z => z.2.2 q3
      · refine par_zg (fun r => par_zw' (fun J1 f1 => par_zw' (fun J2 f2 => ?_)))
        have g40 : J1 0 40 = (g : Int) := by rw [f1, if_neg (by omega)]; exact v1
        rw [v1] at r
        have gt : (J 0 40).toNat = g := by rw [v1]; rfl
        rw [gt] at f1
        refine ih (p + 1) (g + 1) J2 (by omega) ⟨?_, lsb_add v2 (hPk.mpr ⟨q1, q2, q3⟩) (fun j hj => ?_) ?_, fun q j h1 h2 => ?_⟩
        · rw [f2, if_pos ⟨rfl, rfl⟩, g40, wr32_i2 (by omega) (by omega)]; rfl
        · rw [f2, if_neg (by omega), f1, if_neg (by omega)]
        · rw [f2, if_neg (by omega), f1, if_pos ⟨rfl, rfl⟩] <;> first | rfl | omega
        · rw [f2, if_neg h2, f1, if_neg (by omega)]; exact v3 q j h1 h2
    · refine stop (fun k h1 h2 => no k (by omega) ?_)
      rw [show k / 40 = l by omega]
      exact fun z => q2 (by omega)
    · refine stop (fun k h1 h2 => no k (by omega) ?_)
      rw [show k / 40 = l by omega]
      exact fun z => q1 (by omega)
theorem xr_7 {P : Nat → Bool} (J0 : IMem) (hc : ∀ l, l < 6 → J0 1 (130 + l) ≤ 40) (hP : ∀ k, k < 240 → (P k = true ↔ ((k % 40 : Nat) : Int) < J0 1 (130 + k / 40) ∧ ((k % 40 : Nat) : Int) < J0 1 (10 + k / 40) ∧ J0 1 (140 + 6 * k + 3) ≠ 2)) : ∀ (m l g : Nat) (J : IMem), l ≤ 6 → XRV P J0 (40 * l) g J → par (f_X_laysRow_7 fu 0 m (l : Int) J) (fun _ J' => ∃ g, XRV P J0 240 g J') := by
  intro m
  induction m with
  | zero => intro _ _ _ _ _; exact par_none
  | succ m ih =>
    intro l g J hl hV
    show par (fb_X_laysRow_7 fu 0 (f_X_laysRow_7 fu 0 m) (l : Int) J) _
    unfold fb_X_laysRow_7
    by_cases hin : (l : Int) < 6
    · rw [if_pos hin]
      refine xr_15 _ J0 (show l < 6 by omega) (hc l (by omega)) hP (fun g2 J2 h2 => ?_) fu 0 g J (by decide) hV
      have w1 : Wq (wr32 ((l : Int) + 1)) (((l + 1 : Nat) : Int)) := by show wr32 ((l : Int) + 1) = ((l + 1 : Nat) : Int); rw [wr32_i2 (by omega) (by omega)]; rfl
      simp only [zl_e]
      rw [w1.e]
      exact ih (l + 1) g2 J2 (by omega) h2
    · rw [if_neg hin]
      have : l = 6 := by omega
      subst this
      exact par_zr ⟨g, hV⟩
theorem xr_row {P : Nat → Bool} (J : IMem) (hc : ∀ l, l < 6 → J 1 (130 + l) ≤ 40) (hP : ∀ k, k < 240 → (P k = true ↔ ((k % 40 : Nat) : Int) < J 1 (130 + k / 40) ∧ ((k % 40 : Nat) : Int) < J 1 (10 + k / 40) ∧ J 1 (140 + 6 * k + 3) ≠ 2)) : par (f_X_laysRow fu 0 J) (fun _ J' => ∃ g, XRV P J 240 g J') := by
  unfold f_X_laysRow
  refine par_zw' (fun J1 e1 => ?_)
  refine par_mono (xr_7 (P := P) J1 (fun l hl => ?_) (fun k hk => ?_) fu 0 0 J1 (by decide) ⟨?_, ⟨rfl, fun k hk => absurd hk (Nat.not_lt_zero _)⟩, fun _ _ _ _ => rfl⟩) (fun _ J' ⟨g, h1, h2, h3⟩ => ⟨g, h1, h2, fun q j a b => ?_⟩)
  · rw [e1, if_neg (by omega)]; exact hc l hl
  · rw [e1, if_neg (by omega), e1, if_neg (by omega), e1, if_neg (by omega)]; exact hP k hk
  · rw [e1, if_pos ⟨rfl, rfl⟩]; rfl
  · rw [h3 q j a b, e1, if_neg b]
/-- the class's groups before the i-th of those seen -/
def CGV (P : Nat → Bool) (a0 : Nat → Int) (n : Nat) (I0 : IMem) (i g : Nat) (I : IMem) : Prop := g ≤ i ∧ I 154 3 = (g : Int) ∧ (∀ j, i ≤ j → I 155 j = a0 j) ∧ LSB P (I 155) g (nxS a0 n i) ∧ (∀ k, k < nxS a0 n i → P k = true → I 156 (cnB P k) = I0 8 (6 * k + 1) ∧ I 157 (cnB P k) = I0 8 (6 * k + 3)) ∧ ∀ q j, q ≠ 155 → q ≠ 156 → q ≠ 157 → ¬ (q = 154 ∧ j = 3) → I q j = I0 q j
theorem nxS_gap {a c s : Nat → Int} {lg : Int} {n i k : Nat} (h : SLI a c s lg 240 n) (hi : i < n) (hk : a i = (k : Int)) : k < 240 ∧ SN c s lg k ∧ nxS a n i = k ∧ k + 1 ≤ nxS a n (i + 1) ∧ nxS a n (i + 1) ≤ 240 ∧ ∀ k2, k + 1 ≤ k2 → k2 < nxS a n (i + 1) → ¬ SN c s lg k2 := by
  have e0 : nxS a n i = k := by unfold nxS; rw [if_pos hi, hk]; rfl
  obtain ⟨k0, q1, q2, q3⟩ := h.1 i hi
  have k0k : k0 = k := by omega
  subst k0k
  have hb : k0 + 1 ≤ nxS a n (i + 1) ∧ nxS a n (i + 1) ≤ 240 := by
    unfold nxS
    by_cases hn : i + 1 < n
    · rw [if_pos hn]
      have := h.2.1 i (i + 1) (by omega) hn
      obtain ⟨k1, p1, p2, _⟩ := h.1 (i + 1) hn
      omega
    · rw [if_neg hn]; omega
  refine ⟨q1, q3, e0, hb.1, hb.2, fun k2 h1 h2 hs => ?_⟩
  obtain ⟨i2, j1, j2⟩ := h.2.2 k2 (by omega) hs
  have a1 : i < i2 := by
    rcases Nat.lt_trichotomy i i2 with x | x | x
    · exact x
    · subst x; omega
    · have := h.2.1 i2 i x hi; omega
  unfold nxS at h2
  by_cases hn : i + 1 < n
  · rw [if_pos hn] at h2
    obtain ⟨k1, p1, p2, _⟩ := h.1 (i + 1) hn
    by_cases hx : i2 = i + 1
    · subst hx; omega
    · have := h.2.1 (i + 1) i2 (by omega) j1; omega
  · omega
theorem cg_18 {P : Nat → Bool} {a0 c s : Nat → Int} {lg : Int} {n : Nat} (I0 : IMem) (hn : n ≤ 144) (hS : SLI a0 c s lg 240 n) (hP : ∀ k, k < 240 → (P k = true ↔ SN c s lg k ∧ I0 8 (6 * k + 3) ≠ 2)) : ∀ (m i g : Nat) (I : IMem), i ≤ n → CGV P a0 n I0 i g I → par (f_F_gather_18 fu 154 7 (n : Int) m (i : Int) I) (fun _ I' => ∃ g, g ≤ 144 ∧ CGV P a0 n I0 n g I') := by
  intro m
  induction m with
  | zero => intro _ _ _ _ _; exact par_none
  | succ m ih =>
    intro i g I hi hV
    have hV' := hV
    obtain ⟨v0, v1, v2, v3, v4, v5⟩ := hV'
    show par (fb_F_gather_18 fu 154 7 (n : Int) (f_F_gather_18 fu 154 7 (n : Int) m) (i : Int) I) _
    unfold fb_F_gather_18
    by_cases hin : i < n
    · rw [if_pos (show (i : Int) < (n : Int) by omega), if_pos (show (i : Int) < 144 by omega)]
      obtain ⟨k0, q1, q2, q3⟩ := hS.1 i hin
      obtain ⟨k1, k2, k3, k4, k5, k6⟩ := nxS_gap hS hin q2
      rw [k3] at v3 v4
      have w1 : Wq (wr32 ((i : Int) + 1)) (((i + 1 : Nat) : Int)) := by show wr32 ((i : Int) + 1) = ((i + 1 : Nat) : Int); rw [wr32_i2 (by omega) (by omega)]; rfl
      refine par_zg (fun _ => ?_)
      have sp : I (154 + 1) (i : Int).toNat = (k0 : Int) := (v2 i (Nat.le_refl _)).trans q2
      rw [sp, ev_get3 fu 7 k0 I k1, zb_zr]
      have r3 : I (7 + 1) (6 * k0 + 3) = I0 8 (6 * k0 + 3) := v5 8 _ (by decide) (by decide) (by decide) (by omega)
      rw [r3]
      simp only [zl_e, zj_e]
      rw [w1.e]
      have gap : ∀ k, k0 + 1 ≤ k → k < nxS a0 n (i + 1) → P k = false := fun k h1 h2 => by
        cases hpk : P k with
        | false => rfl
        | true => exact absurd ((hP k (by omega)).mp hpk).1 (k6 k h1 h2)
      refine par_ite (fun q => ?_) (fun q => ?_)
      · have pk : P k0 = false := by
          cases hpk : P k0 with
          | false => rfl
          | true => exact absurd q ((hP k0 k1).mp hpk).2
        have all : ∀ k, k0 ≤ k → k < nxS a0 n (i + 1) → P k = false := fun k h1 h2 => by
          by_cases e : k = k0
          · rw [e]; exact pk
          · exact gap k (by omega) h2
        refine ih (i + 1) g I (by omega) ⟨by omega, v1, fun j hj => v2 j (by omega), lsb_skip v3 (by omega) all, fun k hk hpk => ?_, v5⟩
        by_cases y : k < k0
        · exact v4 k y hpk
        · rw [all k (by omega) hk] at hpk; exact absurd hpk (by decide)
      · have pk : P k0 = true := (hP k0 k1).mpr ⟨q3, q⟩
        have gt : (I 154 3).toNat = g := by rw [v1]; rfl
        rw [gt]
        refine par_zg (fun _ => par_zg (fun _ => par_zw' (fun I1 e1 => par_zg (fun _ => ?_))))
        rw [sp] at e1
        have s1 : I1 (154 + 1) (i : Int).toNat = (k0 : Int) := by
          rw [e1]
          by_cases y : (154 + 1 = 154 + 1 ∧ (i : Int).toNat = g)
          · rw [if_pos y]
          · rw [if_neg y]; exact sp
        rw [s1, ev_get1 fu 7 k0 I1 k1, zb_zr]
        have r1 : I1 (7 + 1) (6 * k0 + 1) = I0 8 (6 * k0 + 1) := by rw [e1, if_neg (by omega)]; exact v5 8 _ (by decide) (by decide) (by decide) (by omega)
        have g1 : (I1 154 3).toNat = g := by rw [e1, if_neg (by omega)]; exact gt
        rw [r1, g1]
        refine par_zg (fun _ => par_zw' (fun I2 e2 => ?_))
        have g2 : (I2 154 3).toNat = g := by rw [e2, if_neg (by omega)]; exact g1
        rw [g2]
        refine par_zg (fun _ => par_zw' (fun I3 e3 => par_zw' (fun I4 e4 => ?_)))
        have g3 : I3 154 3 = (g : Int) := by rw [e3, if_neg (by omega), e2, if_neg (by omega), e1, if_neg (by omega)]; exact v1
        rw [g3, wr32_i2 (x := (g : Int) + 1) (by omega) (by omega)] at e4
        have f4 : ∀ q j, I4 q j = if q = 154 ∧ j = 3 then (g : Int) + 1 else if q = 154 + 3 ∧ j = g then I0 8 (6 * k0 + 3) else if q = 154 + 2 ∧ j = g then I0 8 (6 * k0 + 1) else if q = 154 + 1 ∧ j = g then (k0 : Int) else I q j := fun q j => by rw [e4, e3, e2, e1]
        clear e4 e3 e2 e1
        have cg := v3.1
        refine ih (i + 1) (g + 1) I4 (by omega) ⟨by omega, ?_, fun j hj => ?_, lsb_skip (lsb_add v3 pk (fun j hj => ?_) ?_) k4 gap, fun k hk hpk => ?_, fun q j a1 a2 a3 a4 => ?_⟩
        · rw [f4, if_pos ⟨rfl, rfl⟩]; rfl
        · rw [f4, if_neg (by omega), if_neg (by omega), if_neg (by omega), if_neg (by omega)]; exact v2 j (by omega)
        · rw [f4, if_neg (by omega), if_neg (by omega), if_neg (by omega), if_neg (by omega)]
        · rw [f4, if_neg (by omega), if_neg (by omega), if_neg (by omega), if_pos ⟨rfl, rfl⟩]
        · by_cases y : k = k0
          · subst y
            rw [← cg, f4, if_neg (by omega), if_neg (by omega), if_pos ⟨rfl, rfl⟩, f4, if_neg (by omega), if_pos ⟨rfl, rfl⟩]
            exact ⟨rfl, rfl⟩
          · by_cases y2 : k < k0
            · have := cnB_lt (P := P) y2 hpk
              rw [f4, if_neg (by omega), if_neg (by omega), if_neg (by omega), if_neg (by omega), f4, if_neg (by omega), if_neg (by omega), if_neg (by omega), if_neg (by omega)]
              exact v4 k y2 hpk
            · rw [gap k (by omega) hk] at hpk; exact absurd hpk (by decide)
        · rw [f4, if_neg a4, if_neg (by omega), if_neg (by omega), if_neg (by omega)]; exact v5 q j a1 a2 a3 a4
    · have : i = n := by omega
      subst this
      rw [if_neg (by omega)]
      exact par_zr ⟨g, by omega, hV⟩
theorem cg_row {P : Nat → Bool} (lg : Int) (I : IMem) (hc : ∀ l, l < 6 → 0 ≤ I 9 l ∧ I 9 l ≤ 40) (hs : ∀ l : Nat, l < 6 → 0 ≤ I 10 l + (if (l : Int) = lg then 1 else 0) ∧ I 10 l + (if (l : Int) = lg then 1 else 0) ≤ 24) (hP : ∀ k, k < 240 → (P k = true ↔ SN (I 9) (I 10) lg k ∧ I 8 (6 * k + 3) ≠ 2)) : par (f_F_gather fu 154 7 lg I) (fun _ I' => ∃ g : Nat, g ≤ 144 ∧ I' 154 3 = (g : Int) ∧ LSB P (I' 155) g 240 ∧ (∀ k, k < 240 → P k = true → I' 156 (cnB P k) = I 8 (6 * k + 1) ∧ I' 157 (cnB P k) = I 8 (6 * k + 3)) ∧ ∀ q j, q ≠ 155 → q ≠ 156 → q ≠ 157 → ¬ (q = 154 ∧ j = 3) → I' q j = I q j) := by
  unfold f_F_gather
  refine par_zb (cv_seen (fu := fu) 7 (154 + 1) lg ⟨by decide, by decide⟩ I hc hs) (fun v I2 ⟨n, hv, hn, hS, f2⟩ => ?_)
  refine par_zw' (fun I4 e4 => ?_)
  rw [hv]
  have i4 : ∀ q j, q ≠ 155 → ¬ (q = 154 ∧ j = 3) → I4 q j = I q j := fun q j a b => by rw [e4, if_neg b]; exact congrFun (f2 q a) j
  have s4 : ∀ j, I4 155 j = I2 155 j := fun j => by rw [e4, if_neg (by omega)]
  have r4 : ∀ j, I4 8 j = I 8 j := fun j => i4 8 j (by decide) (by omega)
  have P4 : ∀ k, k < 240 → (P k = true ↔ SN (I 9) (I 10) lg k ∧ I4 8 (6 * k + 3) ≠ 2) := fun k hk => by rw [r4]; exact hP k hk
  have z0 : cnB P (nxS (I2 155) n 0) = 0 ∧ ∀ k, k < nxS (I2 155) n 0 → P k = false := by
    have all : ∀ k, k < nxS (I2 155) n 0 → P k = false := by
      intro k hk
      have k240 : k < 240 := by
        unfold nxS at hk
        by_cases hn0 : 0 < n
        · rw [if_pos hn0] at hk
          obtain ⟨k0, q1, q2, _⟩ := hS.1 0 hn0
          have q2' : I2 155 0 = (k0 : Int) := q2
          omega
        · rw [if_neg hn0] at hk; exact hk
      cases hpk : P k with
      | false => rfl
      | true =>
        exfalso
        obtain ⟨i, i1, i2⟩ := hS.2.2 k k240 ((hP k k240).mp hpk).1
        have i2' : I2 155 i = (k : Int) := i2
        unfold nxS at hk
        rw [if_pos (show 0 < n by omega)] at hk
        by_cases hi0 : i = 0
        · subst hi0; omega
        · have h0 : I2 155 0 < I2 155 i := hS.2.1 0 i (by omega) i1
          omega
    exact ⟨cnB_skip 0 _ (Nat.zero_le _) (fun k _ hk => all k hk), all⟩
  refine par_mono (cg_18 (P := P) (a0 := I2 155) (c := I 9) (s := I 10) (lg := lg) I4 hn hS P4 fu 0 0 I4 (Nat.zero_le _) ⟨Nat.le_refl _, ?_, fun j _ => s4 j, ⟨z0.1.symm, fun k hk hpk => ?_⟩, fun k hk hpk => ?_, fun _ _ _ _ _ _ => rfl⟩) (fun _ I' ⟨g, g1, g2⟩ => ?_)
  · rw [e4, if_pos ⟨rfl, rfl⟩]; rfl
  · rw [z0.2 k hk] at hpk; exact absurd hpk (by decide)
  · rw [z0.2 k hk] at hpk; exact absurd hpk (by decide)
  · obtain ⟨h0, h1, h2, h3, h4, h5⟩ := g2
    rw [nxS_n] at h3 h4
    refine ⟨g, g1, h1, h3, fun k hk hpk => ?_, fun q j a1 a2 a3 a4 => (h5 q j a1 a2 a3 a4).trans (i4 q j a1 a4)⟩
    rw [← r4, ← r4]
    exact h4 k hk hpk
end
/-! BEST filling: the table on both sides -/
/-- who is there with one more -/
def tw (s t : Int) : Int := if s = 1 then (if t = 0 then 1 else t) else 2
/-- the most that d groups from the i-th on fill -/
def mB (z s : Nat → Int) : Nat → Nat → Int → Int → Int
  | 0, _, t, _ => if t = 1 then -1 else 0
  | d + 1, i, t, x => if mB z s d (i + 1) t x < (if x < z i then -1 else if mB z s d (i + 1) (tw (s i) t) (x - z i) = -1 then -1 else mB z s d (i + 1) (tw (s i) t) (x - z i) + z i) then (if x < z i then -1 else if mB z s d (i + 1) (tw (s i) t) (x - z i) = -1 then -1 else mB z s d (i + 1) (tw (s i) t) (x - z i) + z i) else mB z s d (i + 1) t x
/-- with the i-th -/
def wB (z s : Nat → Int) (d i : Nat) (t x : Int) : Int := if x < z i then -1 else if mB z s d (i + 1) (tw (s i) t) (x - z i) = -1 then -1 else mB z s d (i + 1) (tw (s i) t) (x - z i) + z i
theorem mB_s (z s : Nat → Int) (d i : Nat) (t x : Int) : mB z s (d + 1) i t x = if mB z s d (i + 1) t x < wB z s d i t x then wB z s d i t x else mB z s d (i + 1) t x := rfl
theorem tw_rng {s t : Int} (h : 0 ≤ t ∧ t ≤ 2) : 0 ≤ tw s t ∧ tw s t ≤ 2 := by
  unfold tw
  split
  · split <;> omega
  · omega
theorem wB_rng {z s : Nat → Int} {d i : Nat} {t x : Int} (hz : 1 ≤ z i ∧ z i ≤ 8) (hx : 0 ≤ x) (ih : ∀ t x : Int, 0 ≤ t → t ≤ 2 → 0 ≤ x → -1 ≤ mB z s d (i + 1) t x ∧ mB z s d (i + 1) t x ≤ x) (h0 : 0 ≤ t) (h2 : t ≤ 2) : -1 ≤ wB z s d i t x ∧ wB z s d i t x ≤ x := by
  unfold wB
  have ht := tw_rng (s := s i) ⟨h0, h2⟩
  split
  · omega
  · have := ih (tw (s i) t) (x - z i) ht.1 ht.2 (by omega)
    split <;> omega
theorem mB_rng {z s : Nat → Int} : ∀ (d i : Nat), (∀ j, i ≤ j → j < i + d → 1 ≤ z j ∧ z j ≤ 8) → ∀ t x : Int, 0 ≤ t → t ≤ 2 → 0 ≤ x → -1 ≤ mB z s d i t x ∧ mB z s d i t x ≤ x := by
  intro d
  induction d with
  | zero =>
    intro i _ t x h0 h2 hx
    show -1 ≤ (if t = 1 then -1 else (0 : Int)) ∧ (if t = 1 then -1 else (0 : Int)) ≤ x
    split <;> omega
  | succ d ih =>
    intro i hz t x h0 h2 hx
    have ih' := ih (i + 1) (fun j h1 h2 => hz j (by omega) (by omega))
    have a := ih' t x h0 h2 hx
    have b := wB_rng (hz i (Nat.le_refl _) (by omega)) hx ih' h0 h2
    rw [mB_s]
    split
    · exact b
    · exact a
theorem mB_pos {z s : Nat → Int} : ∀ (d i : Nat) (t x : Int), t ≠ 1 → 0 ≤ mB z s d i t x := by
  intro d
  induction d with
  | zero =>
    intro i t x h
    show 0 ≤ (if t = 1 then -1 else (0 : Int))
    rw [if_neg h]
    exact Int.le_refl _
  | succ d ih =>
    intro i t x h
    have a := ih (i + 1) t x h
    rw [mB_s]
    split
    · omega
    · exact a
section
variable {fu : Nat} {Q : Int → IMem → Prop}
/-- the class's table from the K-th group on -/
def TBc (z s : Nat → Int) (n K : Nat) (I : IMem) : Prop := ∀ i t x : Nat, K ≤ i → i ≤ n → t < 3 → x < 9 → I 158 (27 * i + 9 * t + x) = mB z s (n - i) i (t : Int) (x : Int)
/-- the class's groups -/
def GRc (z s : Nat → Int) (n : Nat) (I : IMem) : Prop := n ≤ 144 ∧ I 154 3 = (n : Int) ∧ ∀ i, i < n → I 156 i = z i ∧ I 157 i = s i ∧ 1 ≤ z i ∧ z i ≤ 8
theorem ev_fat (i t x : Nat) (I : IMem) (hi : i ≤ 144) (ht : t < 3) (hx : x < 9) : f_F_at fu (i : Int) (t : Int) (x : Int) I = zr ((27 * i + 9 * t + x : Nat) : Int) I := by
  unfold f_F_at
  simp only [zj_e]
  rw [if_neg (show ¬ (i : Int) < 0 by omega), if_neg (show ¬ 144 < (i : Int) by omega), if_neg (show ¬ (t : Int) < 0 by omega), if_pos (show (t : Int) < 3 by omega), if_neg (show ¬ (x : Int) < 0 by omega), if_pos (show (x : Int) < 9 by omega), if_neg ne10]
  have e1 : Wq (wr32 ((i : Int) * 3)) ((i : Int) * 3) := wr32_i2 (by omega) (by omega)
  rw [e1.e]
  have e2 : Wq (wr32 ((i : Int) * 3 + (t : Int))) ((i : Int) * 3 + (t : Int)) := wr32_i2 (by omega) (by omega)
  rw [e2.e]
  have e3 : Wq (wr32 (((i : Int) * 3 + (t : Int)) * 9)) (((i : Int) * 3 + (t : Int)) * 9) := wr32_i2 (by omega) (by omega)
  rw [e3.e]
  have e4 : Wq (wr32 (((i : Int) * 3 + (t : Int)) * 9 + (x : Int))) (((27 * i + 9 * t + x : Nat) : Int)) := by
    show (wr32 (((i : Int) * 3 + (t : Int)) * 9 + (x : Int))) = (((27 * i + 9 * t + x : Nat) : Int))
    rw [wr32_i2 (by omega) (by omega)]; omega
  rw [e4.e]
theorem ev_there (z s : Nat → Int) {n i : Nat} (t : Int) {I : IMem} (h : GRc z s n I) (hi : i < n) : f_F_thereWith fu 154 (i : Int) t I = zr (tw (s i) t) I := by
  have hn := h.1
  have e : I (154 + 3) (i : Int).toNat = s i := (h.2.2 i hi).2.1
  unfold f_F_thereWith tw
  rw [zg_t (show 0 ≤ (i : Int) ∧ (i : Int) < 144 by omega), e]
  by_cases h1 : s i = 1
  · rw [if_pos h1, if_pos h1]
    by_cases h2 : t = 0
    · rw [if_pos h2, if_pos h2]
    · rw [if_neg h2, if_neg h2]
  · rw [if_neg h1, if_neg h1]
theorem ev_mw (z s : Nat → Int) {n i t x : Nat} {I : IMem} (h : GRc z s n I) (hi : i < n) (ht : t < 3) (hx : x < 9) (hT : TBc z s n (i + 1) I) : f_F_mostWith fu 154 (i : Int) (t : Int) (x : Int) I = zr (wB z s (n - (i + 1)) i (t : Int) (x : Int)) I := by
  have hn := h.1
  obtain ⟨g1, g2, g3, g4⟩ := h.2.2 i hi
  have ez : I (154 + 2) (i : Int).toNat = z i := g1
  unfold f_F_mostWith wB
  rw [if_neg (show ¬ (i : Int) < 0 by omega), if_pos (show (i : Int) < 144 by omega), zg_t (show 0 ≤ (i : Int) ∧ (i : Int) < 144 by omega), ez]
  by_cases h1 : (x : Int) < z i
  · rw [if_pos h1, if_pos h1]
  · rw [if_neg h1, if_neg h1, ev_there z s (t : Int) h hi, zb_zr, zg_t (show 0 ≤ (i : Int) ∧ (i : Int) < 144 by omega)]
    have tr := tw_rng (s := s i) (t := (t : Int)) ⟨by omega, by omega⟩
    obtain ⟨t2, ht2⟩ : ∃ t2 : Nat, tw (s i) (t : Int) = (t2 : Int) := ⟨(tw (s i) (t : Int)).toNat, by omega⟩
    obtain ⟨x2, hx2⟩ : ∃ x2 : Nat, (x : Int) - z i = (x2 : Int) := ⟨((x : Int) - z i).toNat, by omega⟩
    have w1 : Wq (wr32 ((i : Int) + 1)) (((i + 1 : Nat) : Int)) := by show wr32 ((i : Int) + 1) = ((i + 1 : Nat) : Int); rw [wr32_i2 (by omega) (by omega)]; rfl
    have w2 : Wq (wr32 ((x : Int) - z i)) ((x2 : Int)) := by show wr32 ((x : Int) - z i) = (x2 : Int); rw [wr32_i2 (by omega) (by omega)]; exact hx2
    rw [ez, w1.e, w2.e, ht2, hx2, ev_fat (i + 1) t2 x2 I (by omega) (by omega) (by omega), zb_zr, zg_t (show 0 ≤ ((27 * (i + 1) + 9 * t2 + x2 : Nat) : Int) ∧ ((27 * (i + 1) + 9 * t2 + x2 : Nat) : Int) < 3915 by omega)]
    have e := hT (i + 1) t2 x2 (Nat.le_refl _) (by omega) (by omega) (by omega)
    have e' : I (154 + 4) ((27 * (i + 1) + 9 * t2 + x2 : Nat) : Int).toNat = mB z s (n - (i + 1)) (i + 1) (t2 : Int) (x2 : Int) := e
    simp only [zl_e]
    rw [e']
    have r := mB_rng (z := z) (s := s) (n - (i + 1)) (i + 1) (fun j a b => ⟨(h.2.2 j (by omega)).2.2.1, (h.2.2 j (by omega)).2.2.2⟩) (t2 : Int) (x2 : Int) (by omega) (by omega) (by omega)
    by_cases h2 : mB z s (n - (i + 1)) (i + 1) (t2 : Int) (x2 : Int) = -1
    · rw [if_pos h2, if_pos h2]
    · rw [if_neg h2, if_neg h2, zg_t (show 0 ≤ (i : Int) ∧ (i : Int) < 144 by omega), ez, wr32_i2 (by omega) (by omega)]
/-- the last row of the class's table -/
theorem cbx_24 (z s : Nat → Int) {n : Nat} (kk : IMem → Res) (p3 : Int) (I0 : IMem) (hn : n ≤ 144) (h3 : I0 154 3 = (n : Int)) (hk : ∀ I : IMem, TBc z s n n I → (∀ q j, q ≠ 158 → I q j = I0 q j) → par (kk I) Q) : ∀ (m x : Nat) (I : IMem), x ≤ 9 → (∀ t x2 : Nat, t < 3 → x2 < x → I 158 (27 * n + 9 * t + x2) = if (t : Int) = 1 then -1 else 0) → (∀ q j, q ≠ 158 → I q j = I0 q j) → par (f_F_fillMost_24 fu kk 154 p3 m (x : Int) I) Q := by
  intro m
  induction m with
  | zero => intro _ _ _ _ _; exact par_none
  | succ m ih =>
    intro x I hx hT hf
    show par (fb_F_fillMost_24 fu kk 154 p3 (f_F_fillMost_24 fu kk 154 p3 m) (x : Int) I) Q
    unfold fb_F_fillMost_24
    by_cases hin : x < 9
    · rw [if_pos (show (x : Int) < 9 by omega)]
      have n0 : I 154 3 = (n : Int) := (hf 154 3 (by decide)).trans h3
      have w1 : Wq (wr32 ((x : Int) + 1)) (((x + 1 : Nat) : Int)) := by show wr32 ((x : Int) + 1) = ((x + 1 : Nat) : Int); rw [wr32_i2 (by omega) (by omega)]; rfl
      have a0 : f_F_at fu (n : Int) 0 (x : Int) I = zr ((27 * n + 9 * 0 + x : Nat) : Int) I := ev_fat n 0 x I hn (by decide) hin
      rw [n0, a0, zb_zr]
      refine par_zg (fun _ => par_zw' (fun I1 e1 => ?_))
      have n1 : I1 154 3 = (n : Int) := by rw [e1, if_neg (by omega)]; exact n0
      have a1 : f_F_at fu (n : Int) 1 (x : Int) I1 = zr ((27 * n + 9 * 1 + x : Nat) : Int) I1 := ev_fat n 1 x I1 hn (by decide) hin
      rw [n1, a1, zb_zr]
      refine par_zg (fun _ => par_zw' (fun I2 e2 => ?_))
      have n2 : I2 154 3 = (n : Int) := by rw [e2, if_neg (by omega)]; exact n1
      have a2 : f_F_at fu (n : Int) 2 (x : Int) I2 = zr ((27 * n + 9 * 2 + x : Nat) : Int) I2 := ev_fat n 2 x I2 hn (by decide) hin
      rw [n2, a2, zb_zr]
      refine par_zg (fun _ => par_zw' (fun I3 e3 => ?_))
      simp only [zl_e]
      rw [w1.e]
      rw [tn] at e1 e2 e3
      refine ih (x + 1) I3 (by omega) (fun t x2 ht hx2 => ?_) (fun q j hq => ?_)
      · by_cases y : x2 = x
        · subst y
          rcases (show t = 0 ∨ t = 1 ∨ t = 2 by omega) with rfl | rfl | rfl
          · rw [e3, if_neg (by omega), e2, if_neg (by omega), e1, if_pos ⟨rfl, rfl⟩]; rfl
          · rw [e3, if_neg (by omega), e2, if_pos ⟨rfl, rfl⟩]; rfl
          · rw [e3, if_pos ⟨rfl, rfl⟩]; rfl
        · rw [e3, if_neg (by omega), e2, if_neg (by omega), e1, if_neg (by omega)]
          exact hT t x2 ht (by omega)
      · rw [e3, if_neg (by omega), e2, if_neg (by omega), e1, if_neg (by omega)]; exact hf q j hq
    · rw [if_neg (show ¬ (x : Int) < 9 by omega)]
      refine hk I (fun i t x2 y1 y2 y3 y4 => ?_) hf
      have : i = n := by omega
      subst this
      rw [Nat.sub_self]
      exact hT t x2 y3 (by omega)
/-- a row of the class's table, till (t, x) -/
def TRc (z s : Nat → Int) (n i t x : Nat) (I : IMem) : Prop := ∀ t2 x2 : Nat, t2 < 3 → x2 < 9 → (t2 < t ∨ (t2 = t ∧ x2 < x)) → I 158 (27 * i + 9 * t2 + x2) = mB z s (n - i) i (t2 : Int) (x2 : Int)
theorem grc_fr {z s : Nat → Int} {n : Nat} {I I' : IMem} (h : GRc z s n I) (hf : ∀ q j, q ≠ 158 → I' q j = I q j) : GRc z s n I' := ⟨h.1, (hf _ _ (by decide)).trans h.2.1, fun i hi => ⟨(hf _ _ (by decide)).trans (h.2.2 i hi).1, (hf _ _ (by decide)).trans (h.2.2 i hi).2.1, (h.2.2 i hi).2.2⟩⟩
theorem cbx_110 (z s : Nat → Int) {n i t : Nat} (kk : IMem → Res) (p3 : Int) (I0 : IMem) (hG : GRc z s n I0) (hi : i < n) (ht : t < 3) (hk : ∀ I : IMem, TBc z s n (i + 1) I → TRc z s n i (t + 1) 0 I → (∀ q j, q ≠ 158 → I q j = I0 q j) → par (kk I) Q) : ∀ (m x : Nat) (I : IMem), x ≤ 9 → TBc z s n (i + 1) I → TRc z s n i t x I → (∀ q j, q ≠ 158 → I q j = I0 q j) → par (f_F_fillMost_110 fu kk 154 p3 (i : Int) (t : Int) m (x : Int) I) Q := by
  intro m
  induction m with
  | zero => intro _ _ _ _ _ _; exact par_none
  | succ m ih =>
    intro x I hx hT hR hf
    have hn := hG.1
    show par (fb_F_fillMost_110 fu kk 154 p3 (i : Int) (t : Int) (f_F_fillMost_110 fu kk 154 p3 (i : Int) (t : Int) m) (x : Int) I) Q
    unfold fb_F_fillMost_110
    by_cases hin : x < 9
    · rw [if_pos (show (x : Int) < 9 by omega)]
      have w1 : Wq (wr32 ((x : Int) + 1)) (((x + 1 : Nat) : Int)) := by show wr32 ((x : Int) + 1) = ((x + 1 : Nat) : Int); rw [wr32_i2 (by omega) (by omega)]; rfl
      have w2 : Wq (wr32 ((i : Int) + 1)) (((i + 1 : Nat) : Int)) := by show wr32 ((i : Int) + 1) = ((i + 1 : Nat) : Int); rw [wr32_i2 (by omega) (by omega)]; rfl
      have hG' := grc_fr hG hf
      rw [ev_fat i t x I (by omega) ht hin, zb_zr, w2.e, ev_fat (i + 1) t x I (by omega) ht hin, zb_zr]
      refine par_zg (fun _ => ?_)
      rw [ev_mw z s hG' hi ht hin hT, zb_zr, ev_max, zb_zr]
      have e := hT (i + 1) t x (Nat.le_refl _) (by omega) ht hin
      have e' : I (154 + 4) ((27 * (i + 1) + 9 * t + x : Nat) : Int).toNat = mB z s (n - (i + 1)) (i + 1) (t : Int) (x : Int) := e
      rw [e']
      have em : (if mB z s (n - (i + 1)) (i + 1) (t : Int) (x : Int) < wB z s (n - (i + 1)) i (t : Int) (x : Int) then wB z s (n - (i + 1)) i (t : Int) (x : Int) else mB z s (n - (i + 1)) (i + 1) (t : Int) (x : Int)) = mB z s (n - i) i (t : Int) (x : Int) := by
        rw [show n - i = n - (i + 1) + 1 by omega, mB_s]
      rw [em]
      refine par_zg (fun _ => par_zw' (fun I1 e1 => ?_))
      simp only [zl_e]
      rw [w1.e]
      rw [tn] at e1
      refine ih (x + 1) I1 (by omega) (fun i2 t2 x2 h1 h2 h3 h4 => ?_) (fun t2 x2 h3 h4 h5 => ?_) (fun q j hq => ?_)
      · rw [e1, if_neg (by omega)]; exact hT i2 t2 x2 h1 h2 h3 h4
      · by_cases y : t2 = t ∧ x2 = x
        · rw [y.1, y.2, e1, if_pos ⟨rfl, rfl⟩]
        · rw [e1, if_neg (by omega)]; exact hR t2 x2 h3 h4 (by omega)
      · rw [e1, if_neg (by omega)]; exact hf q j hq
    · rw [if_neg (show ¬ (x : Int) < 9 by omega)]
      exact hk I hT (fun t2 x2 h3 h4 h5 => hR t2 x2 h3 h4 (by omega)) hf
theorem cb_101 (z s : Nat → Int) {n i : Nat} (kk : IMem → Res) (p3 : Int) (I0 : IMem) (hG : GRc z s n I0) (hi : i < n) (hk : ∀ I : IMem, TBc z s n i I → (∀ q j, q ≠ 158 → I q j = I0 q j) → par (kk I) Q) : ∀ (m t : Nat) (I : IMem), t ≤ 3 → TBc z s n (i + 1) I → TRc z s n i t 0 I → (∀ q j, q ≠ 158 → I q j = I0 q j) → par (f_F_fillMost_101 fu kk 154 p3 (i : Int) m (t : Int) I) Q := by
  intro m
  induction m with
  | zero => intro _ _ _ _ _ _; exact par_none
  | succ m ih =>
    intro t I ht hT hR hf
    show par (fb_F_fillMost_101 fu kk 154 p3 (i : Int) (f_F_fillMost_101 fu kk 154 p3 (i : Int) m) (t : Int) I) Q
    unfold fb_F_fillMost_101
    by_cases hin : t < 3
    · rw [if_neg (show ¬ 2 < (t : Int) by omega)]
      refine cbx_110 z s _ p3 I0 hG hi hin (fun I2 h1 h2 h3 => ?_) fu 0 I (by decide) hT hR hf
      have w1 : Wq (wr32 ((t : Int) + 1)) (((t + 1 : Nat) : Int)) := by show wr32 ((t : Int) + 1) = ((t + 1 : Nat) : Int); rw [wr32_i2 (by omega) (by omega)]; rfl
      simp only [zl_e]
      rw [w1.e]
      exact ih (t + 1) I2 (by omega) h1 h2 h3
    · rw [if_pos (show 2 < (t : Int) by omega)]
      refine hk I (fun i2 t2 x2 h1 h2 h3 h4 => ?_) hf
      by_cases y : i2 = i
      · subst y; exact hR t2 x2 h3 h4 (by omega)
      · exact hT i2 t2 x2 (by omega) h2 h3 h4
theorem cb_93 (z s : Nat → Int) {n : Nat} (kk : IMem → Res) (p3 : Int) (I0 : IMem) (hG : GRc z s n I0) (hk : ∀ I : IMem, TBc z s n 0 I → (∀ q j, q ≠ 158 → I q j = I0 q j) → par (kk I) Q) : ∀ (m i : Nat) (I : IMem), i ≤ n → TBc z s n i I → (∀ q j, q ≠ 158 → I q j = I0 q j) → par (f_F_fillMost_93 fu kk 154 p3 m ((i : Int) - 1) I) Q := by
  intro m
  induction m with
  | zero => intro _ _ _ _ _; exact par_none
  | succ m ih =>
    intro i I hi hT hf
    have hn := hG.1
    show par (fb_F_fillMost_93 fu kk 154 p3 (f_F_fillMost_93 fu kk 154 p3 m) ((i : Int) - 1) I) Q
    unfold fb_F_fillMost_93
    cases i with
    | zero =>
      rw [if_pos (by omega)]
      exact hk I hT hf
    | succ i =>
      have e : ((i + 1 : Nat) : Int) - 1 = (i : Int) := by omega
      rw [e, if_neg (by omega)]
      refine cb_101 z s _ p3 I0 hG (by omega) (fun I2 h1 h2 => ?_) fu 0 I (by decide) hT (fun t2 x2 h3 h4 h5 => by omega) hf
      have w1 : Wq (wr32 ((i : Int) + (-1))) ((i : Int) - 1) := by show wr32 ((i : Int) + (-1)) = (i : Int) - 1; rw [wr32_i2 (by omega) (by omega)]; omega
      simp only [zl_e]
      rw [w1.e]
      exact ih i I2 (by omega) h1 h2
end
/-! BEST filling: the reference's table -/
def cut (v : Int) : Int := if v < 0 then -1 else v
def cwh (w : Nat) : Int := if w < 2 then (w : Int) else 2
/-- a value that can be, or far below -/
def XVq (v x : Int) : Prop := (0 ≤ v ∧ v ≤ x) ∨ (-99 ≤ v ∧ v ≤ -99 + x)
def wow (s : Int) (w : Nat) : Nat := if s = 1 then (if w < 2 then 1 else 3) else (if w = 0 ∨ w = 2 then 2 else 3)
theorem cwh_rng (w : Nat) : 0 ≤ cwh w ∧ cwh w ≤ 2 := by
  unfold cwh
  split <;> omega
theorem wow_lt (s : Int) (w : Nat) : wow s w < 4 := by
  unfold wow
  split <;> split <;> decide
theorem cwh_wow (s : Int) (w : Nat) : cwh (wow s w) = tw s (cwh w) := by
  unfold wow tw cwh
  by_cases h : s = 1
  · rw [if_pos h, if_pos h]
    by_cases h2 : w < 2
    · rw [if_pos h2, if_pos h2, if_pos (by decide)]
      by_cases h0 : (w : Int) = 0
      · rw [if_pos h0]; rfl
      · rw [if_neg h0]; show (1 : Int) = _; omega
    · rw [if_neg h2, if_neg h2, if_neg (by decide), if_neg (by decide)]
  · rw [if_neg h, if_neg h]
    by_cases h2 : w = 0 ∨ w = 2
    · rw [if_pos h2, if_neg (by decide)]
    · rw [if_neg h2, if_neg (by decide)]
theorem cut_mx {a b x : Int} (ha : XVq a x) (hb : XVq b x) (h8 : x ≤ 8) : XVq (if b < a then a else b) x ∧ cut (if b < a then a else b) = if cut b < cut a then cut a else cut b := by
  unfold XVq at *
  unfold cut
  by_cases h : b < a
  · rw [if_pos h]
    refine ⟨ha, ?_⟩
    by_cases a0 : a < 0
    · rw [if_pos a0, if_pos (show b < 0 by omega), if_neg (by decide)]
    · rw [if_neg a0]
      by_cases b0 : b < 0
      · rw [if_pos b0, if_pos (by omega)]
      · rw [if_neg b0, if_pos h]
  · rw [if_neg h]
    refine ⟨hb, ?_⟩
    by_cases a0 : a < 0
    · rw [if_pos a0]
      by_cases b0 : b < 0
      · rw [if_pos b0, if_neg (by decide)]
      · rw [if_neg b0, if_neg (by omega)]
    · rw [if_neg a0, if_neg (show ¬ b < 0 by omega), if_neg h]
section
variable {fu : Nat} {Q : Int → IMem → Prop}
/-- the reference's table from the K-th group on -/
def TBx (z s : Nat → Int) (n K : Nat) (J : IMem) : Prop := ∀ i x w : Nat, K ≤ i → i ≤ n → x < 9 → w < 4 → XVq (J 17 (36 * i + 4 * x + w)) (x : Int) ∧ cut (J 17 (36 * i + 4 * x + w)) = mB z s (n - i) i (cwh w) (x : Int)
/-- the reference's groups -/
def GRx (z s : Nat → Int) (n : Nat) (J : IMem) : Prop := n ≤ 144 ∧ J 0 40 = (n : Int) ∧ ∀ i, i < n → ∃ k : Nat, k < 240 ∧ J 16 i = (k : Int) ∧ J 1 (140 + 6 * k + 1) = z i ∧ J 1 (140 + 6 * k + 3) = s i ∧ 1 ≤ z i ∧ z i ≤ 8
theorem ev_spot (i x w : Nat) (J : IMem) (hi : i ≤ 144) (hx : x < 9) (hw : w < 4) : f_X_spot fu (i : Int) (x : Int) (w : Int) J = zr ((36 * i + 4 * x + w : Nat) : Int) J := by
  unfold f_X_spot
  have e1 : Wq (wr32 (36 * (i : Int))) (36 * (i : Int)) := wr32_i2 (by omega) (by omega)
  have e2 : Wq (wr32 (4 * (x : Int))) (4 * (x : Int)) := wr32_i2 (by omega) (by omega)
  rw [e1.e, e2.e]
  have e3 : Wq (wr32 (36 * (i : Int) + 4 * (x : Int))) (36 * (i : Int) + 4 * (x : Int)) := wr32_i2 (by omega) (by omega)
  rw [e3.e]
  have e4 : Wq (wr32 (36 * (i : Int) + 4 * (x : Int) + (w : Int))) (((36 * i + 4 * x + w : Nat) : Int)) := by
    show (wr32 (36 * (i : Int) + 4 * (x : Int) + (w : Int))) = (((36 * i + 4 * x + w : Nat) : Int))
    rw [wr32_i2 (by omega) (by omega)]; omega
  rw [e4.e]
theorem wor_1 (w : Nat) (h : w < 4) : wor (w : Int) 1 = ((if w < 2 then 1 else 3 : Nat) : Int) := by
  rcases (show w = 0 ∨ w = 1 ∨ w = 2 ∨ w = 3 by omega) with rfl | rfl | rfl | rfl <;> decide +kernel
theorem wor_2 (w : Nat) (h : w < 4) : wor (w : Int) 2 = ((if w = 0 ∨ w = 2 then 2 else 3 : Nat) : Int) := by
  rcases (show w = 0 ∨ w = 1 ∨ w = 2 ∨ w = 3 by omega) with rfl | rfl | rfl | rfl <;> decide +kernel
theorem ev_with (k w : Nat) (J : IMem) (hk : k < 240) (hw : w < 4) : f_X_with fu 0 (w : Int) (k : Int) J = zr ((wow (J 1 (140 + 6 * k + 3)) w : Nat) : Int) J := by
  unfold f_X_with wow
  have e1 : Wq (wr32 (6 * (k : Int))) (6 * (k : Int)) := wr32_i2 (by omega) (by omega)
  rw [e1.e]
  have e2 : Wq (wr32 (140 + 6 * (k : Int))) (140 + 6 * (k : Int)) := wr32_i2 (by omega) (by omega)
  rw [e2.e]
  have e3 : Wq (wr32 (140 + 6 * (k : Int) + 3)) (((140 + 6 * k + 3 : Nat) : Int)) := by show wr32 (140 + 6 * (k : Int) + 3) = ((140 + 6 * k + 3 : Nat) : Int); rw [wr32_i2 (by omega) (by omega)]; omega
  rw [e3.e]
  simp only [zl_e]
  rw [zg_t (show 0 ≤ ((140 + 6 * k + 3 : Nat) : Int) ∧ ((140 + 6 * k + 3 : Nat) : Int) < 6190 by omega)]
  have e4 : J (0 + 1) ((140 + 6 * k + 3 : Nat) : Int).toNat = J 1 (140 + 6 * k + 3) := rfl
  rw [e4]
  by_cases h : J 1 (140 + 6 * k + 3) = 1
  · rw [if_pos h, if_pos h, wor_1 w hw]
  · rw [if_neg h, if_neg h, wor_2 w hw]
theorem ev_tk (z s : Nat → Int) {n i x w : Nat} {J : IMem} (h : GRx z s n J) (hi : i < n) (hx : x < 9) (hw : w < 4) (hT : TBx z s n (i + 1) J) : ∃ v, f_X_taking fu 0 (i : Int) (x : Int) (w : Int) J = zr v J ∧ XVq v (x : Int) ∧ cut v = wB z s (n - (i + 1)) i (cwh w) (x : Int) := by
  have hn := h.1
  obtain ⟨k, k1, k2, k3, k4, k5, k6⟩ := h.2.2 i hi
  have ek : J (0 + 16) (i : Int).toNat = (k : Int) := k2
  unfold f_X_taking wB
  rw [zg_t (show 0 ≤ (i : Int) ∧ (i : Int) < 150 by omega), ek]
  have e1 : Wq (wr32 (6 * (k : Int))) (6 * (k : Int)) := wr32_i2 (by omega) (by omega)
  rw [e1.e]
  have e2 : Wq (wr32 (140 + 6 * (k : Int))) (140 + 6 * (k : Int)) := wr32_i2 (by omega) (by omega)
  rw [e2.e]
  have e3 : Wq (wr32 (140 + 6 * (k : Int) + 1)) (((140 + 6 * k + 1 : Nat) : Int)) := by show wr32 (140 + 6 * (k : Int) + 1) = ((140 + 6 * k + 1 : Nat) : Int); rw [wr32_i2 (by omega) (by omega)]; omega
  rw [e3.e]
  simp only [zl_e]
  rw [zg_t (show 0 ≤ ((140 + 6 * k + 1 : Nat) : Int) ∧ ((140 + 6 * k + 1 : Nat) : Int) < 6190 by omega)]
  have e4 : J (0 + 1) ((140 + 6 * k + 1 : Nat) : Int).toNat = z i := k3
  rw [e4]
  by_cases h1 : (x : Int) < z i
  · rw [if_pos h1, if_pos h1]
    refine ⟨-99, rfl, Or.inr ⟨by decide, by omega⟩, ?_⟩
    unfold cut
    rw [if_pos (by decide)]
  · rw [if_neg h1, if_neg h1, zg_t (show 0 ≤ (i : Int) ∧ (i : Int) < 150 by omega), ev_with k w J k1 hw, zb_zr, k4]
    obtain ⟨x2, hx2⟩ : ∃ x2 : Nat, (x : Int) - z i = (x2 : Int) := ⟨((x : Int) - z i).toNat, by omega⟩
    have w1 : Wq (wr32 ((i : Int) + 1)) (((i + 1 : Nat) : Int)) := by show wr32 ((i : Int) + 1) = ((i + 1 : Nat) : Int); rw [wr32_i2 (by omega) (by omega)]; rfl
    have w2 : Wq (wr32 ((x : Int) - z i)) ((x2 : Int)) := by show wr32 ((x : Int) - z i) = (x2 : Int); rw [wr32_i2 (by omega) (by omega)]; exact hx2
    have hq := wow_lt (s i) w
    rw [w1.e, w2.e, ev_spot (i + 1) x2 (wow (s i) w) J (by omega) (by omega) hq, zb_zr, zg_t (show 0 ≤ ((36 * (i + 1) + 4 * x2 + wow (s i) w : Nat) : Int) ∧ ((36 * (i + 1) + 4 * x2 + wow (s i) w : Nat) : Int) < 5440 by omega)]
    obtain ⟨r1, r2⟩ := hT (i + 1) x2 (wow (s i) w) (Nat.le_refl _) (by omega) (by omega) hq
    have e5 : J (0 + 17) ((36 * (i + 1) + 4 * x2 + wow (s i) w : Nat) : Int).toNat = J 17 (36 * (i + 1) + 4 * x2 + wow (s i) w) := rfl
    rw [e5]
    rw [cwh_wow, ← hx2] at r2
    generalize J 17 (36 * (i + 1) + 4 * x2 + wow (s i) w) = v at r1 r2 ⊢
    unfold XVq at r1
    refine ⟨_, rfl, ?_, ?_⟩
    · rw [wr32_i2 (by omega) (by omega)]
      unfold XVq
      omega
    · rw [wr32_i2 (by omega) (by omega), ← r2]
      unfold cut
      by_cases v0 : v < 0
      · rw [if_pos v0, if_pos (by omega), if_pos rfl]
      · rw [if_neg v0, if_neg (by omega), if_neg (by omega)]
        omega
theorem xt_14 (z s : Nat → Int) {n x : Nat} (kk : IMem → Res) (J0 : IMem) (hn : n ≤ 144) (hx : x < 9) (h40 : J0 0 40 = (n : Int)) (hk : ∀ J : IMem, (∀ x2 w : Nat, x2 < x + 1 → w < 4 → XVq (J 17 (36 * n + 4 * x2 + w)) (x2 : Int) ∧ cut (J 17 (36 * n + 4 * x2 + w)) = mB z s 0 n (cwh w) (x2 : Int)) → (∀ q j, q ≠ 17 → J q j = J0 q j) → par (kk J) Q) : ∀ (m w : Nat) (J : IMem), w ≤ 4 → (∀ x2 w2 : Nat, w2 < 4 → (x2 < x ∨ (x2 = x ∧ w2 < w)) → XVq (J 17 (36 * n + 4 * x2 + w2)) (x2 : Int) ∧ cut (J 17 (36 * n + 4 * x2 + w2)) = mB z s 0 n (cwh w2) (x2 : Int)) → (∀ q j, q ≠ 17 → J q j = J0 q j) → par (f_X_reckons_14 fu kk 0 (x : Int) m (w : Int) J) Q := by
  intro m
  induction m with
  | zero => intro _ _ _ _ _; exact par_none
  | succ m ih =>
    intro w J hw hT hf
    show par (fb_X_reckons_14 fu kk 0 (x : Int) (f_X_reckons_14 fu kk 0 (x : Int) m) (w : Int) J) Q
    unfold fb_X_reckons_14
    by_cases hin : w < 4
    · rw [if_pos (show (w : Int) < 4 by omega)]
      have n0 : J 0 40 = (n : Int) := (hf 0 40 (by decide)).trans h40
      have w1 : Wq (wr32 ((w : Int) + 1)) (((w + 1 : Nat) : Int)) := by show wr32 ((w : Int) + 1) = ((w + 1 : Nat) : Int); rw [wr32_i2 (by omega) (by omega)]; rfl
      rw [n0, ev_spot n x w J hn hx hin, zb_zr]
      simp only [zl_e, zj_e]
      rw [w1.e]
      have go : ∀ v : Int, XVq v (x : Int) → cut v = mB z s 0 n (cwh w) (x : Int) → par (zg (0 ≤ ((36 * n + 4 * x + w : Nat) : Int) ∧ ((36 * n + 4 * x + w : Nat) : Int) < 5440) (zw J (0 + 17) ((36 * n + 4 * x + w : Nat) : Int).toNat v fun I10 => f_X_reckons_14 fu kk 0 (x : Int) m ((w + 1 : Nat) : Int) I10)) Q := by
        intro v v1 v2
        refine par_zg (fun _ => par_zw' (fun J1 e1 => ?_))
        rw [tn] at e1
        refine ih (w + 1) J1 (by omega) (fun x2 w2 h1 h2 => ?_) (fun q j hq => ?_)
        · by_cases y : x2 = x ∧ w2 = w
          · rw [y.1, y.2, e1, if_pos ⟨rfl, rfl⟩]
            exact ⟨v1, v2⟩
          · rw [e1, if_neg (by omega)]
            exact hT x2 w2 h1 (by omega)
        · rw [e1, if_neg (by omega)]; exact hf q j hq
      refine par_ite (fun q => ?_) (fun q => ?_)
      · refine go (-99) (Or.inr ⟨by decide, by omega⟩) ?_
        have : w = 1 := by omega
        subst this
        rfl
      · refine go 0 (Or.inl ⟨by decide, by omega⟩) ?_
        show cut 0 = (if cwh w = 1 then -1 else (0 : Int))
        rw [if_neg (show ¬ cwh w = 1 by unfold cwh; split <;> omega)]
        rfl
    · rw [if_neg (show ¬ (w : Int) < 4 by omega)]
      exact hk J (fun x2 w2 h1 h2 => hT x2 w2 h2 (by omega)) hf
theorem xt_6 (z s : Nat → Int) {n : Nat} (kk : IMem → Res) (J0 : IMem) (hn : n ≤ 144) (h40 : J0 0 40 = (n : Int)) (hk : ∀ J : IMem, TBx z s n n J → (∀ q j, q ≠ 17 → J q j = J0 q j) → par (kk J) Q) : ∀ (m x : Nat) (J : IMem), x ≤ 9 → (∀ x2 w2 : Nat, x2 < x → w2 < 4 → XVq (J 17 (36 * n + 4 * x2 + w2)) (x2 : Int) ∧ cut (J 17 (36 * n + 4 * x2 + w2)) = mB z s 0 n (cwh w2) (x2 : Int)) → (∀ q j, q ≠ 17 → J q j = J0 q j) → par (f_X_reckons_6 fu kk 0 m (x : Int) J) Q := by
  intro m
  induction m with
  | zero => intro _ _ _ _ _; exact par_none
  | succ m ih =>
    intro x J hx hT hf
    show par (fb_X_reckons_6 fu kk 0 (f_X_reckons_6 fu kk 0 m) (x : Int) J) Q
    unfold fb_X_reckons_6
    by_cases hin : x < 9
    · rw [if_pos (show (x : Int) < 9 by omega)]
      refine xt_14 z s _ J0 hn hin h40 (fun J2 h1 h2 => ?_) fu 0 J (by decide) (fun x2 w2 h1 h2 => hT x2 w2 (by omega) h1) hf
      have w1 : Wq (wr32 ((x : Int) + 1)) (((x + 1 : Nat) : Int)) := by show wr32 ((x : Int) + 1) = ((x + 1 : Nat) : Int); rw [wr32_i2 (by omega) (by omega)]; rfl
      simp only [zl_e]
      rw [w1.e]
      exact ih (x + 1) J2 (by omega) h1 h2
    · rw [if_neg (show ¬ (x : Int) < 9 by omega)]
      refine hk J (fun i x2 w h1 h2 h3 h4 => ?_) hf
      have : i = n := by omega
      subst this
      rw [Nat.sub_self]
      exact hT x2 w (by omega) h4
/-- a row of the reference's table, till (x, w) -/
def TRx (z s : Nat → Int) (n i x w : Nat) (J : IMem) : Prop := ∀ x2 w2 : Nat, x2 < 9 → w2 < 4 → (x2 < x ∨ (x2 = x ∧ w2 < w)) → XVq (J 17 (36 * i + 4 * x2 + w2)) (x2 : Int) ∧ cut (J 17 (36 * i + 4 * x2 + w2)) = mB z s (n - i) i (cwh w2) (x2 : Int)
theorem grx_fr {z s : Nat → Int} {n : Nat} {J J' : IMem} (h : GRx z s n J) (hf : ∀ q j, q ≠ 17 → J' q j = J q j) : GRx z s n J' := ⟨h.1, (hf _ _ (by decide)).trans h.2.1, fun i hi => by
  obtain ⟨k, a1, a2, a3, a4, a5⟩ := h.2.2 i hi
  exact ⟨k, a1, (hf _ _ (by decide)).trans a2, (hf _ _ (by decide)).trans a3, (hf _ _ (by decide)).trans a4, a5⟩⟩
theorem xt_77 (z s : Nat → Int) {n i x : Nat} (kk : IMem → Res) (J0 : IMem) (hG : GRx z s n J0) (hi : i < n) (hx : x < 9) (hk : ∀ J : IMem, TBx z s n (i + 1) J → TRx z s n i (x + 1) 0 J → (∀ q j, q ≠ 17 → J q j = J0 q j) → par (kk J) Q) : ∀ (m w : Nat) (J : IMem), w ≤ 4 → TBx z s n (i + 1) J → TRx z s n i x w J → (∀ q j, q ≠ 17 → J q j = J0 q j) → par (f_X_reckons_77 fu kk 0 (i : Int) (x : Int) m (w : Int) J) Q := by
  intro m
  induction m with
  | zero => intro _ _ _ _ _ _; exact par_none
  | succ m ih =>
    intro w J hw hT hR hf
    have hn := hG.1
    show par (fb_X_reckons_77 fu kk 0 (i : Int) (x : Int) (f_X_reckons_77 fu kk 0 (i : Int) (x : Int) m) (w : Int) J) Q
    unfold fb_X_reckons_77
    by_cases hin : w < 4
    · rw [if_pos (show (w : Int) < 4 by omega)]
      have w1 : Wq (wr32 ((w : Int) + 1)) (((w + 1 : Nat) : Int)) := by show wr32 ((w : Int) + 1) = ((w + 1 : Nat) : Int); rw [wr32_i2 (by omega) (by omega)]; rfl
      have w2 : Wq (wr32 ((i : Int) + 1)) (((i + 1 : Nat) : Int)) := by show wr32 ((i : Int) + 1) = ((i + 1 : Nat) : Int); rw [wr32_i2 (by omega) (by omega)]; rfl
      have hG' := grx_fr hG hf
      obtain ⟨v, ev, v1, v2⟩ := ev_tk (fu := fu) z s hG' hi hx hin hT
      rw [ev, zb_zr, w2.e, ev_spot (i + 1) x w J (by omega) hx hin, zb_zr]
      refine par_zg (fun _ => ?_)
      simp only [zl_e, zj_e]
      rw [ev_spot i x w J (by omega) hx hin, zb_zr, w1.e]
      obtain ⟨r1, r2⟩ := hT (i + 1) x w (Nat.le_refl _) (by omega) hx hin
      have e5 : J (0 + 17) ((36 * (i + 1) + 4 * x + w : Nat) : Int).toNat = J 17 (36 * (i + 1) + 4 * x + w) := rfl
      rw [e5]
      obtain ⟨c1, c2⟩ := cut_mx v1 r1 (by omega)
      rw [r2, v2] at c2
      have em : (if mB z s (n - (i + 1)) (i + 1) (cwh w) (x : Int) < wB z s (n - (i + 1)) i (cwh w) (x : Int) then wB z s (n - (i + 1)) i (cwh w) (x : Int) else mB z s (n - (i + 1)) (i + 1) (cwh w) (x : Int)) = mB z s (n - i) i (cwh w) (x : Int) := by
        rw [show n - i = n - (i + 1) + 1 by omega, mB_s]
      rw [em] at c2
      have go : ∀ u : Int, XVq u (x : Int) → cut u = mB z s (n - i) i (cwh w) (x : Int) → par (zg (0 ≤ ((36 * i + 4 * x + w : Nat) : Int) ∧ ((36 * i + 4 * x + w : Nat) : Int) < 5440) (zw J (0 + 17) ((36 * i + 4 * x + w : Nat) : Int).toNat u fun I29 => f_X_reckons_77 fu kk 0 (i : Int) (x : Int) m ((w + 1 : Nat) : Int) I29)) Q := by
        intro u u1 u2
        refine par_zg (fun _ => par_zw' (fun J1 e1 => ?_))
        rw [tn] at e1
        refine ih (w + 1) J1 (by omega) (fun i2 x2 w3 h1 h2 h3 h4 => ?_) (fun x2 w3 h3 h4 h5 => ?_) (fun q j hq => ?_)
        · rw [e1, if_neg (by omega)]; exact hT i2 x2 w3 h1 h2 h3 h4
        · by_cases y : x2 = x ∧ w3 = w
          · rw [y.1, y.2, e1, if_pos ⟨rfl, rfl⟩]
            exact ⟨u1, u2⟩
          · rw [e1, if_neg (by omega)]; exact hR x2 w3 h3 h4 (by omega)
        · rw [e1, if_neg (by omega)]; exact hf q j hq
      refine par_ite (fun q => ?_) (fun q => ?_)
      · rw [if_pos q] at c1 c2
        exact go v c1 c2
      · rw [if_neg q] at c1 c2
        exact go _ c1 c2
    · rw [if_neg (show ¬ (w : Int) < 4 by omega)]
      exact hk J hT (fun x2 y2 h3 h4 h5 => hR x2 y2 h3 h4 (by omega)) hf
theorem xt_69 (z s : Nat → Int) {n i : Nat} (kk : IMem → Res) (J0 : IMem) (hG : GRx z s n J0) (hi : i < n) (hk : ∀ J : IMem, TBx z s n i J → (∀ q j, q ≠ 17 → J q j = J0 q j) → par (kk J) Q) : ∀ (m x : Nat) (J : IMem), x ≤ 9 → TBx z s n (i + 1) J → TRx z s n i x 0 J → (∀ q j, q ≠ 17 → J q j = J0 q j) → par (f_X_reckons_69 fu kk 0 (i : Int) m (x : Int) J) Q := by
  intro m
  induction m with
  | zero => intro _ _ _ _ _ _; exact par_none
  | succ m ih =>
    intro x J hx hT hR hf
    show par (fb_X_reckons_69 fu kk 0 (i : Int) (f_X_reckons_69 fu kk 0 (i : Int) m) (x : Int) J) Q
    unfold fb_X_reckons_69
    by_cases hin : x < 9
    · rw [if_pos (show (x : Int) < 9 by omega)]
      refine xt_77 z s _ J0 hG hi hin (fun J2 h1 h2 h3 => ?_) fu 0 J (by decide) hT hR hf
      have w1 : Wq (wr32 ((x : Int) + 1)) (((x + 1 : Nat) : Int)) := by show wr32 ((x : Int) + 1) = ((x + 1 : Nat) : Int); rw [wr32_i2 (by omega) (by omega)]; rfl
      simp only [zl_e]
      rw [w1.e]
      exact ih (x + 1) J2 (by omega) h1 h2 h3
    · rw [if_neg (show ¬ (x : Int) < 9 by omega)]
      refine hk J (fun i2 x2 w2 h1 h2 h3 h4 => ?_) hf
      by_cases y : i2 = i
      · subst y; exact hR x2 w2 h3 h4 (by omega)
      · exact hT i2 x2 w2 (by omega) h2 h3 h4
theorem xt_63 (z s : Nat → Int) {n : Nat} (J0 : IMem) (hG : GRx z s n J0) : ∀ (m i : Nat) (J : IMem), i ≤ n → TBx z s n i J → (∀ q j, q ≠ 17 → J q j = J0 q j) → par (f_X_reckons_63 fu 0 m ((i : Int) - 1) J) (fun _ J' => TBx z s n 0 J' ∧ ∀ q j, q ≠ 17 → J' q j = J0 q j) := by
  intro m
  induction m with
  | zero => intro _ _ _ _ _; exact par_none
  | succ m ih =>
    intro i J hi hT hf
    have hn := hG.1
    show par (fb_X_reckons_63 fu 0 (f_X_reckons_63 fu 0 m) ((i : Int) - 1) J) _
    unfold fb_X_reckons_63
    cases i with
    | zero =>
      rw [if_pos (by omega)]
      exact par_zr ⟨hT, hf⟩
    | succ i =>
      have e : ((i + 1 : Nat) : Int) - 1 = (i : Int) := by omega
      rw [e, if_neg (by omega)]
      refine xt_69 z s _ J0 hG (by omega) (fun J2 h1 h2 => ?_) fu 0 J (by decide) hT (fun x2 w2 h3 h4 h5 => by omega) hf
      have w1 : Wq (wr32 ((i : Int) + (-1))) ((i : Int) - 1) := by show wr32 ((i : Int) + (-1)) = (i : Int) - 1; rw [wr32_i2 (by omega) (by omega)]; omega
      simp only [zl_e]
      rw [w1.e]
      exact ih i J2 (by omega) h1 h2
end
/-! BEST filling: who is in it; both sides -/
theorem par_zbw {Q : Int → IMem → Prop} {I : IMem} {o j : Nat} {v : Int} {k : IMem → Res} {k2 : Int → IMem → Res} (h : ∀ I1 : IMem, (∀ p i, I1 p i = if p = o ∧ i = j then v else I p i) → par (zb (k I1) k2) Q) : par (zb (zw I o j v k) k2) Q := h _ (fun _ _ => rfl)
/-- those in it, from the i-th on -/
def chL (z s : Nat → Int) : Nat → Nat → Int → Int → List Nat
  | 0, _, _, _ => []
  | d + 1, i, t, x => if wB z s d i t x ≠ -1 ∧ wB z s d i t x = mB z s (d + 1) i t x then i :: chL z s d (i + 1) (tw (s i) t) (x - z i) else chL z s d (i + 1) t x
theorem chL_len {z s : Nat → Int} : ∀ (d i : Nat) (t x : Int), (∀ j, i ≤ j → j < i + d → 1 ≤ z j) → 0 ≤ x → ((chL z s d i t x).length : Int) ≤ x := by
  intro d
  induction d with
  | zero => intro i t x _ hx; exact hx
  | succ d ih =>
    intro i t x hz hx
    have hz' : ∀ j, i + 1 ≤ j → j < i + 1 + d → 1 ≤ z j := fun j h1 h2 => hz j (by omega) (by omega)
    show ((if wB z s d i t x ≠ -1 ∧ wB z s d i t x = mB z s (d + 1) i t x then i :: chL z s d (i + 1) (tw (s i) t) (x - z i) else chL z s d (i + 1) t x).length : Int) ≤ x
    by_cases h : wB z s d i t x ≠ -1 ∧ wB z s d i t x = mB z s (d + 1) i t x
    · rw [if_pos h]
      have h1 : ¬ x < z i := fun q => h.1 (by unfold wB; rw [if_pos q])
      have := ih (i + 1) (tw (s i) t) (x - z i) hz' (by omega)
      have z1 := hz i (Nat.le_refl _) (by omega)
      rw [List.length_cons]
      omega
    · rw [if_neg h]
      exact ih (i + 1) t x hz' hx
def fKq (v : Int) : Int := wr32 (wr32 (100 * (wdiv v 40)) + wrem v 40)
/-- what best answers, c of them being told before -/
def RESq (a : Nat → Int) (p1 : Int) (c : Nat) (L : List Nat) : Int := if 10 + (c : Int) ≤ p1 ∧ p1 < 10 + (c : Int) + (L.length : Int) then fKq (a (L.getD (p1 - 10 - (c : Int)).toNat 0)) else if p1 = 1 then ((c + L.length : Nat) : Int) else -1
theorem res_nil (a : Nat → Int) (p1 : Int) (c : Nat) : RESq a p1 c [] = if p1 = 1 then (c : Int) else -1 := by
  unfold RESq
  rw [if_neg (by show ¬ (10 + (c : Int) ≤ p1 ∧ p1 < 10 + (c : Int) + ((0 : Nat) : Int)); omega)]
  rfl
theorem res_at (a : Nat → Int) (c i : Nat) (L : List Nat) : RESq a (10 + (c : Int)) c (i :: L) = fKq (a i) := by
  unfold RESq
  rw [List.length_cons, if_pos (by omega), show (10 + (c : Int) - 10 - (c : Int)).toNat = 0 by omega]
  rfl
theorem res_on (a : Nat → Int) (p1 : Int) (c i : Nat) (L : List Nat) (h : p1 ≠ 10 + (c : Int)) : RESq a p1 c (i :: L) = RESq a p1 (c + 1) L := by
  unfold RESq
  rw [List.length_cons]
  by_cases h1 : 10 + ((c + 1 : Nat) : Int) ≤ p1 ∧ p1 < 10 + ((c + 1 : Nat) : Int) + (L.length : Int)
  · rw [if_pos h1, if_pos (by omega)]
    obtain ⟨e, he⟩ : ∃ e : Nat, p1 - 10 - ((c + 1 : Nat) : Int) = (e : Int) := ⟨(p1 - 10 - ((c + 1 : Nat) : Int)).toNat, by omega⟩
    rw [show (p1 - 10 - (c : Int)).toNat = e + 1 by omega, show (p1 - 10 - ((c + 1 : Nat) : Int)).toNat = e by omega]
    rfl
  · rw [if_neg h1, if_neg (by omega)]
    by_cases h2 : p1 = 1
    · rw [if_pos h2, if_pos h2]; omega
    · rw [if_neg h2, if_neg h2]
section
variable {fu : Nat} {Q : Int → IMem → Prop} {I J : IMem}
/-- the class's choice -/
theorem cc_12 (z s : Nat → Int) {n : Nat} (I0 : IMem) (hG : GRc z s n I0) (hT : TBc z s n 0 I0) : ∀ (m i t x c : Nat) (I : IMem), i ≤ n → t < 3 → x + c ≤ 8 → I 154 6 = (c : Int) → (∀ q j, q ≠ 159 → ¬ (q = 154 ∧ j = 6) → I q j = I0 q j) → par (f_F_choose_12 fu 154 m (t : Int) (x : Int) (i : Int) I) (fun _ I' => I' 154 6 = ((c + (chL z s (n - i) i (t : Int) (x : Int)).length : Nat) : Int) ∧ (∀ j, j < (chL z s (n - i) i (t : Int) (x : Int)).length → I' 159 (c + j) = I0 155 ((chL z s (n - i) i (t : Int) (x : Int)).getD j 0)) ∧ (∀ j, j < c → I' 159 j = I 159 j) ∧ ∀ q j, q ≠ 159 → ¬ (q = 154 ∧ j = 6) → I' q j = I0 q j) := by
  intro m
  induction m with
  | zero => intro _ _ _ _ _ _ _ _ _ _; exact par_none
  | succ m ih =>
    intro i t x c I hi ht hx hc hf
    have hn := hG.1
    have h3 : I 154 3 = (n : Int) := (hf 154 3 (by decide) (by omega)).trans hG.2.1
    show par (fb_F_choose_12 fu 154 (f_F_choose_12 fu 154 m) (t : Int) (x : Int) (i : Int) I) _
    unfold fb_F_choose_12
    rw [h3, hc]
    by_cases hin : i < n
    · rw [if_pos (show (i : Int) < (n : Int) by omega), if_pos (show (i : Int) < 144 by omega)]
      have en : n - i = n - (i + 1) + 1 := by omega
      have hz : ∀ j, i ≤ j → j < i + (n - i) → 1 ≤ z j := fun j h1 h2 => (hG.2.2 j (by omega)).2.2.1
      have hlen := chL_len (z := z) (s := s) (n - i) i (t : Int) (x : Int) hz (by omega)
      by_cases c8 : c < 8
      · rw [if_pos (show (c : Int) < 8 by omega)]
        have hG' : GRc z s n I := ⟨hn, h3, fun j hj => ⟨(hf _ _ (by decide) (by omega)).trans (hG.2.2 j hj).1, (hf _ _ (by decide) (by omega)).trans (hG.2.2 j hj).2.1, (hG.2.2 j hj).2.2⟩⟩
        have hT' : ∀ K, TBc z s n K I := fun K i2 t2 x2 _ h2 h4 h5 => (hf _ _ (by decide) (by omega)).trans (hT i2 t2 x2 (Nat.zero_le _) h2 h4 h5)
        have w1 : Wq (wr32 ((i : Int) + 1)) (((i + 1 : Nat) : Int)) := by show wr32 ((i : Int) + 1) = ((i + 1 : Nat) : Int); rw [wr32_i2 (by omega) (by omega)]; rfl
        rw [ev_mw z s hG' hin ht (by omega) (hT' (i + 1)), zb_zr]
        simp only [zl_e, zj_e]
        rw [w1.e]
        have skip : chL z s (n - i) i (t : Int) (x : Int) = chL z s (n - (i + 1)) (i + 1) (t : Int) (x : Int) → par (f_F_choose_12 fu 154 m (t : Int) (x : Int) ((i + 1 : Nat) : Int) I) (fun _ I' => I' 154 6 = ((c + (chL z s (n - i) i (t : Int) (x : Int)).length : Nat) : Int) ∧ (∀ j, j < (chL z s (n - i) i (t : Int) (x : Int)).length → I' 159 (c + j) = I0 155 ((chL z s (n - i) i (t : Int) (x : Int)).getD j 0)) ∧ (∀ j, j < c → I' 159 j = I 159 j) ∧ ∀ q j, q ≠ 159 → ¬ (q = 154 ∧ j = 6) → I' q j = I0 q j) := by
          intro e
          rw [e]
          exact ih (i + 1) t x c I (by omega) ht hx hc hf
        have open1 : chL z s (n - i) i (t : Int) (x : Int) = if wB z s (n - (i + 1)) i (t : Int) (x : Int) ≠ -1 ∧ wB z s (n - (i + 1)) i (t : Int) (x : Int) = mB z s (n - i) i (t : Int) (x : Int) then i :: chL z s (n - (i + 1)) (i + 1) (tw (s i) (t : Int)) ((x : Int) - z i) else chL z s (n - (i + 1)) (i + 1) (t : Int) (x : Int) := by
          rw [en]; rfl
        by_cases h1 : wB z s (n - (i + 1)) i (t : Int) (x : Int) = -1
        · rw [if_pos h1]
          exact skip (open1.trans (if_neg (fun q => q.1 h1)))
        · rw [if_neg h1, ev_fat i t x I (by omega) ht (by omega), zb_zr]
          refine par_zg (fun _ => ?_)
          have e := hT' 0 i t x (Nat.zero_le _) hi ht (by omega)
          have e' : I (154 + 4) ((27 * i + 9 * t + x : Nat) : Int).toNat = mB z s (n - i) i (t : Int) (x : Int) := e
          rw [e']
          by_cases h2 : wB z s (n - (i + 1)) i (t : Int) (x : Int) = mB z s (n - i) i (t : Int) (x : Int)
          · rw [if_pos h2]
            have op := open1.trans (if_pos ⟨h1, h2⟩)
            rw [op]
            have zx : z i ≤ (x : Int) := by
              rcases Int.lt_or_le (x : Int) (z i) with q | q
              · exact absurd (show wB z s (n - (i + 1)) i (t : Int) (x : Int) = -1 by unfold wB; rw [if_pos q]) h1
              · exact q
            obtain ⟨g1, g2, g3, g4⟩ := hG.2.2 i hin
            have tr := tw_rng (s := s i) (t := (t : Int)) ⟨by omega, by omega⟩
            obtain ⟨t2, ht2⟩ : ∃ t2 : Nat, tw (s i) (t : Int) = (t2 : Int) := ⟨(tw (s i) (t : Int)).toNat, by omega⟩
            obtain ⟨x2, hx2⟩ : ∃ x2 : Nat, (x : Int) - z i = (x2 : Int) := ⟨((x : Int) - z i).toNat, by omega⟩
            rw [ht2, hx2]
            have ct : (I 154 6).toNat = c := by rw [hc]; rfl
            rw [ct]
            refine par_zg (fun _ => par_zg (fun _ => par_zw' (fun I1 e1 => par_zw' (fun I2 e2 => ?_))))
            have sp : I (154 + 1) (i : Int).toNat = I0 155 i := hf 155 i (by decide) (by omega)
            rw [sp] at e1
            have c1 : I1 154 6 = (c : Int) := by rw [e1, if_neg (by omega)]; exact hc
            rw [c1, wr32_i2 (x := (c : Int) + 1) (by omega) (by omega)] at e2
            have f2 : ∀ q j, q ≠ 159 → ¬ (q = 154 ∧ j = 6) → I2 q j = I0 q j := fun q j a b => by rw [e2, if_neg b, e1, if_neg (by omega)]; exact hf q j a b
            have hG2 : GRc z s n I2 := ⟨hn, (f2 _ _ (by decide) (by omega)).trans hG.2.1, fun j hj => ⟨(f2 _ _ (by decide) (by omega)).trans (hG.2.2 j hj).1, (f2 _ _ (by decide) (by omega)).trans (hG.2.2 j hj).2.1, (hG.2.2 j hj).2.2⟩⟩
            rw [ev_there z s (t : Int) hG2 hin, zb_zr, ht2]
            refine par_zg (fun _ => ?_)
            have ez : I2 (154 + 2) (i : Int).toNat = z i := (hG2.2.2 i hin).1
            have w2 : Wq (wr32 ((x : Int) - z i)) ((x2 : Int)) := by show wr32 ((x : Int) - z i) = (x2 : Int); rw [wr32_i2 (by omega) (by omega)]; exact hx2
            rw [ez, w2.e]
            refine par_mono (ih (i + 1) t2 x2 (c + 1) I2 (by omega) (by omega) (by omega) ?_ f2) (fun _ I' ⟨k1, k2, k3, k4⟩ => ⟨?_, fun j hj => ?_, fun j hj => ?_, k4⟩)
            · rw [e2, if_pos ⟨rfl, rfl⟩]; rfl
            · rw [k1, List.length_cons]
              omega
            · rw [List.length_cons] at hj
              cases j with
              | zero =>
                rw [show c + 0 = c by omega, k3 c (by omega), e2, if_neg (by omega), e1, if_pos ⟨rfl, rfl⟩]
                rfl
              | succ j =>
                rw [show c + (j + 1) = c + 1 + j by omega, k2 j (by omega)]
                rfl
            · rw [k3 j (by omega), e2, if_neg (by omega), e1, if_neg (by omega)]
          · rw [if_neg h2]
            exact skip (open1.trans (if_neg (fun q => h2 q.2)))
      · rw [if_neg (show ¬ (c : Int) < 8 by omega)]
        have l0 : (chL z s (n - i) i (t : Int) (x : Int)).length = 0 := by omega
        refine par_zr ⟨?_, fun j hj => ?_, fun _ _ => rfl, hf⟩
        · rw [l0]; exact hc
        · rw [l0] at hj; exact absurd hj (Nat.not_lt_zero _)
    · rw [if_neg (show ¬ (i : Int) < (n : Int) by omega)]
      have e0 : n - i = 0 := by omega
      rw [e0]
      exact par_zr ⟨hc, fun j hj => absurd hj (Nat.not_lt_zero _), fun _ _ => rfl, hf⟩
/-- the reference's choice -/
theorem xc_35 (z s : Nat → Int) {n : Nat} (J0 : IMem) (hG : GRx z s n J0) (hT : TBx z s n 0 J0) (p1 : Int) : ∀ (m i x w c : Nat), i ≤ n → x < 9 → w < 4 → c ≤ i → par (f_X_best_35 fu (fun (x24 : Int) (I23 : IMem) => zg (0 ≤ x24 ∧ x24 < 150) (zg (0 ≤ x24 ∧ x24 < 150) (zr (wr32 ((wr32 (100 * (wdiv (I23 (0 + 16) x24.toNat) 40))) + (wrem (I23 (0 + 16) x24.toNat) 40))) I23))) (fun (x26 : Int) (I25 : IMem) => if p1 = 1 then (zr x26 I25) else (zr ((-1)) I25)) 0 p1 m (x : Int) (w : Int) (c : Int) (i : Int) J0) (fun v _ => v = RESq (J0 16) p1 c (chL z s (n - i) i (cwh w) (x : Int))) := by
  intro m
  induction m with
  | zero => intro _ _ _ _ _ _ _ _; exact par_none
  | succ m ih =>
    intro i x w c hi hx hw hci
    have hn := hG.1
    show par (fb_X_best_35 fu _ _ 0 p1 (f_X_best_35 fu _ _ 0 p1 m) (x : Int) (w : Int) (c : Int) (i : Int) J0) _
    unfold fb_X_best_35
    rw [hG.2.1]
    by_cases hin : i < n
    · rw [if_pos (show (i : Int) < (n : Int) by omega)]
      have en : n - i = n - (i + 1) + 1 := by omega
      have w1 : Wq (wr32 ((i : Int) + 1)) (((i + 1 : Nat) : Int)) := by show wr32 ((i : Int) + 1) = ((i + 1 : Nat) : Int); rw [wr32_i2 (by omega) (by omega)]; rfl
      have hT' : TBx z s n (i + 1) J0 := fun i2 x2 w2 _ h2 h4 h5 => hT i2 x2 w2 (Nat.zero_le _) h2 h4 h5
      obtain ⟨v, ev, v1, v2⟩ := ev_tk (fu := fu) z s hG hin hx hw hT'
      rw [ev, zb_zr]
      simp only [zl_e, zj_e]
      rw [w1.e]
      have open1 : chL z s (n - i) i (cwh w) (x : Int) = if wB z s (n - (i + 1)) i (cwh w) (x : Int) ≠ -1 ∧ wB z s (n - (i + 1)) i (cwh w) (x : Int) = mB z s (n - i) i (cwh w) (x : Int) then i :: chL z s (n - (i + 1)) (i + 1) (tw (s i) (cwh w)) ((x : Int) - z i) else chL z s (n - (i + 1)) (i + 1) (cwh w) (x : Int) := by
        rw [en]; rfl
      obtain ⟨r1, r2⟩ := hT i x w (Nat.zero_le _) hi hx hw
      have big : wB z s (n - (i + 1)) i (cwh w) (x : Int) ≤ mB z s (n - i) i (cwh w) (x : Int) := by
        rw [en, mB_s]
        split <;> omega
      unfold XVq at v1 r1
      unfold cut at v2 r2
      by_cases h1 : v < 0
      · rw [if_pos h1]
        rw [if_pos h1] at v2
        rw [open1, if_neg (fun q => q.1 v2.symm)]
        exact ih (i + 1) x w c (by omega) hx hw (by omega)
      · rw [if_neg h1, ev_spot i x w J0 (by omega) hx hw, zb_zr]
        rw [if_neg h1] at v2
        refine par_zg (fun _ => ?_)
        have e5 : J0 (0 + 17) ((36 * i + 4 * x + w : Nat) : Int).toNat = J0 17 (36 * i + 4 * x + w) := rfl
        rw [e5]
        generalize J0 17 (36 * i + 4 * x + w) = u at r1 r2 ⊢
        have r2' : u = mB z s (n - i) i (cwh w) (x : Int) := by
          by_cases u0 : u < 0
          · rw [if_pos u0] at r2; omega
          · rw [if_neg u0] at r2; exact r2
        by_cases h2 : v < u
        · rw [if_pos h2, open1, if_neg (fun q => by have := q.2; omega)]
          exact ih (i + 1) x w c (by omega) hx hw (by omega)
        · have w2 : Wq (wr32 (10 + (c : Int))) (10 + (c : Int)) := wr32_i2 (by omega) (by omega)
          have w3 : Wq (wr32 ((c : Int) + 1)) (((c + 1 : Nat) : Int)) := by show wr32 ((c : Int) + 1) = ((c + 1 : Nat) : Int); rw [wr32_i2 (by omega) (by omega)]; rfl
          rw [if_neg h2, w2.e, w3.e, open1, if_pos (c := _ ∧ _) ⟨by omega, by omega⟩]
          by_cases h3 : p1 = 10 + (c : Int)
          · rw [if_pos h3, h3, res_at]
            exact par_zg (fun _ => par_zg (fun _ => par_zr rfl))
          · rw [if_neg h3, res_on _ _ _ _ _ h3]
            obtain ⟨k, k1, k2, k3, k4, k5, k6⟩ := hG.2.2 i hin
            have ek : J0 (0 + 16) (i : Int).toNat = (k : Int) := k2
            have zx : z i ≤ (x : Int) := by
              rcases Int.lt_or_le (x : Int) (z i) with q | q
              · exact absurd (show wB z s (n - (i + 1)) i (cwh w) (x : Int) = -1 by unfold wB; rw [if_pos q]) (by omega)
              · exact q
            obtain ⟨x2, hx2⟩ : ∃ x2 : Nat, (x : Int) - z i = (x2 : Int) := ⟨((x : Int) - z i).toNat, by omega⟩
            have e1 : Wq (wr32 (6 * (k : Int))) (6 * (k : Int)) := wr32_i2 (by omega) (by omega)
            have e2 : Wq (wr32 (140 + 6 * (k : Int))) (140 + 6 * (k : Int)) := wr32_i2 (by omega) (by omega)
            have e3 : Wq (wr32 (140 + 6 * (k : Int) + 1)) (((140 + 6 * k + 1 : Nat) : Int)) := by show wr32 (140 + 6 * (k : Int) + 1) = ((140 + 6 * k + 1 : Nat) : Int); rw [wr32_i2 (by omega) (by omega)]; omega
            have e4 : J0 (0 + 1) ((140 + 6 * k + 1 : Nat) : Int).toNat = z i := k3
            have w5 : Wq (wr32 ((x : Int) - z i)) ((x2 : Int)) := by show wr32 ((x : Int) - z i) = (x2 : Int); rw [wr32_i2 (by omega) (by omega)]; exact hx2
            rw [ek]
            refine par_zg (fun _ => ?_)
            rw [ev_with k w J0 k1 hw, zb_zr, k4]
            refine par_zg (fun _ => ?_)
            rw [ek, e1.e, e2.e, e3.e]
            refine par_zg (fun _ => ?_)
            rw [e4, w5.e, ← cwh_wow, hx2]
            exact ih (i + 1) x2 (wow (s i) w) (c + 1) (by omega) (by omega) (wow_lt _ _) (by omega)
    · rw [if_neg (show ¬ (i : Int) < (n : Int) by omega)]
      have e0 : n - i = 0 := by omega
      rw [e0]
      show par _ (fun v _ => v = RESq (J0 16) p1 c [])
      rw [res_nil]
      by_cases h1 : p1 = 1
      · rw [if_pos h1]; show par (if p1 = 1 then zr (c : Int) J0 else zr (-1) J0) _; rw [if_pos h1]; exact par_zr rfl
      · rw [if_neg h1]; show par (if p1 = 1 then zr (c : Int) J0 else zr (-1) J0) _; rw [if_neg h1]; exact par_zr rfl
/-- the i-th of those that are so -/
def nB (P : Nat → Bool) : Nat → Nat → Nat
  | 0, _ => 0
  | K + 1, i => if P K = true ∧ cnB P K = i then K else nB P K i
theorem nB_at {P : Nat → Bool} : ∀ (K k : Nat), k < K → P k = true → nB P K (cnB P k) = k := by
  intro K
  induction K with
  | zero => intro k h _; exact absurd h (Nat.not_lt_zero _)
  | succ K ih =>
    intro k hk hp
    show (if P K = true ∧ cnB P K = cnB P k then K else nB P K (cnB P k)) = k
    by_cases y : k = K
    · rw [y, if_pos ⟨by rw [← y]; exact hp, rfl⟩]
    · have := cnB_lt (P := P) (show k < K by omega) hp
      rw [if_neg (fun q => by have := q.2; omega)]
      exact ih k (by omega) hp
/-- the groups of a row: their sizes, sorts -/
def zP (P : Nat → Bool) (sz : Nat → Int) (i : Nat) : Int := sz (nB P 240 i)
theorem zP_at {P : Nat → Bool} {sz : Nat → Int} {k : Nat} (hk : k < 240) (hp : P k = true) : zP P sz (cnB P k) = sz k := by
  unfold zP
  rw [nB_at 240 k hk hp]
/-- fillMost -/
theorem cf_most {P : Nat → Bool} {sz so : Nat → Int} {x : Nat} (lg : Int) (I : IMem) (hx : I 2 0 = (x : Int)) (x8 : x ≤ 8) (hc : ∀ l, l < 6 → 0 ≤ I 9 l ∧ I 9 l ≤ 40) (hs : ∀ l : Nat, l < 6 → 0 ≤ I 10 l + (if (l : Int) = lg then 1 else 0) ∧ I 10 l + (if (l : Int) = lg then 1 else 0) ≤ 24) (hP : ∀ k, k < 240 → (P k = true ↔ SN (I 9) (I 10) lg k ∧ I 8 (6 * k + 3) ≠ 2)) (hR : ∀ k, k < 240 → P k = true → I 8 (6 * k + 1) = sz k ∧ I 8 (6 * k + 3) = so k ∧ 1 ≤ sz k ∧ sz k ≤ 8) : par (f_F_fillMost fu 154 1 lg I) (fun v I' => v = mB (zP P sz) (zP P so) (cnB P 240) 0 0 (x : Int) ∧ cnB P 240 ≤ 144 ∧ LSB P (I' 155) (cnB P 240) 240 ∧ I' 154 6 = ((chL (zP P sz) (zP P so) (cnB P 240) 0 0 (x : Int)).length : Nat) ∧ (∀ j, j < (chL (zP P sz) (zP P so) (cnB P 240) 0 0 (x : Int)).length → I' 159 j = I' 155 ((chL (zP P sz) (zP P so) (cnB P 240) 0 0 (x : Int)).getD j 0)) ∧ (∀ j, 1 ≤ zP P sz j ∨ cnB P 240 ≤ j) ∧ ∀ q j, ¬ (154 ≤ q ∧ q ≤ 159) → I' q j = I q j) := by
  unfold f_F_fillMost
  have hx' : I (1 + 1) 0 = (x : Int) := hx
  rw [ev_min, zb_zr, hx', if_neg (show ¬ 8 < (x : Int) by omega)]
  refine par_zb (cg_row (fu := fu) (P := P) lg I hc hs hP) (fun _ I1 ⟨g, g1, g2, g3, g4, g5⟩ => ?_)
  have gn : g = cnB P 240 := g3.1
  subst gn
  generalize hnn : cnB P 240 = n at *
  have zz : ∀ i, i < n → I1 156 i = zP P sz i ∧ I1 157 i = zP P so i ∧ 1 ≤ zP P sz i ∧ zP P sz i ≤ 8 := by
    intro i hi
    obtain ⟨k, k1, k2, k3⟩ := cnB_at (P := P) 240 i (by rw [hnn]; exact hi)
    obtain ⟨a1, a2⟩ := g4 k k1 k2
    obtain ⟨b1, b2, b3, b4⟩ := hR k k1 k2
    have e1 := zP_at (sz := sz) k1 k2
    have e2 := zP_at (sz := so) k1 k2
    rw [k3] at a1 a2 e1 e2
    rw [e1, e2, a1, a2]
    exact ⟨b1, b2, b3, b4⟩
  have hG1 : GRc (zP P sz) (zP P so) n I1 := ⟨g1, g2, zz⟩
  refine cbx_24 (zP P sz) (zP P so) _ (x : Int) I1 g1 g2 (fun I2 hT2 f2 => ?_) fu 0 I1 (by decide) (fun t x2 _ h2 => absurd h2 (Nat.not_lt_zero _)) (fun _ _ _ => rfl)
  have h23 : I2 154 3 = (n : Int) := (f2 _ _ (by decide)).trans g2
  have w1 : Wq (wr32 (I2 154 3 - 1)) ((n : Int) - 1) := by show wr32 (I2 154 3 - 1) = (n : Int) - 1; rw [h23, wr32_i2 (by omega) (by omega)]
  simp only [zl_e]
  rw [w1.e]
  refine cb_93 (zP P sz) (zP P so) _ (x : Int) I1 hG1 (fun I3 hT3 f3 => ?_) fu n I2 (Nat.le_refl _) hT2 f2
  unfold f_F_choose
  have hG3 : GRc (zP P sz) (zP P so) n I3 := grc_fr hG1 f3
  refine par_zbw (fun I4 e4 => ?_)
  have hG4 : GRc (zP P sz) (zP P so) n I4 := ⟨g1, by rw [e4, if_neg (by omega)]; exact hG3.2.1, fun i hi => ⟨by rw [e4, if_neg (by omega)]; exact (hG3.2.2 i hi).1, by rw [e4, if_neg (by omega)]; exact (hG3.2.2 i hi).2.1, (hG3.2.2 i hi).2.2⟩⟩
  have hT4 : TBc (zP P sz) (zP P so) n 0 I4 := fun i t x2 h1 h2 h3 h4 => by rw [e4, if_neg (by omega)]; exact hT3 i t x2 h1 h2 h3 h4
  refine par_zb (cc_12 (fu := fu) (zP P sz) (zP P so) I4 hG4 hT4 fu 0 0 x 0 I4 (Nat.zero_le _) (by decide) (by omega) (by rw [e4, if_pos ⟨rfl, rfl⟩]; rfl) (fun _ _ _ _ => rfl)) (fun _ I5 ⟨k1, k2, k3, k4⟩ => ?_)
  have a0 : f_F_at fu 0 0 (x : Int) I5 = zr ((27 * 0 + 9 * 0 + x : Nat) : Int) I5 := ev_fat 0 0 x I5 (by decide) (by decide) (by omega)
  rw [a0, zb_zr]
  have s5 : ∀ j, I5 155 j = I1 155 j := fun j => (k4 _ _ (by decide) (by omega)).trans (by rw [e4, if_neg (by omega)]; exact f3 _ _ (by decide))
  have s45 : ∀ j, I4 155 j = I5 155 j := fun j => (k4 155 j (by decide) (by omega)).symm
  refine par_zg (fun _ => par_zr ⟨?_, g1, ⟨g3.1, fun k hk hp => by rw [s5]; exact g3.2 k hk hp⟩, ?_, fun j hj => ?_, fun j => ?_, fun q j hq => ?_⟩)
  · have e := hT4 0 0 x (Nat.zero_le _) (Nat.zero_le _) (by decide) (by omega)
    have e' : I5 (154 + 4) ((27 * 0 + 9 * 0 + x : Nat) : Int).toNat = I4 158 (27 * 0 + 9 * 0 + x) := k4 158 _ (by decide) (by omega)
    rw [e', e]
    rfl
  · rw [k1, Nat.zero_add]; rfl
  · have := k2 j hj
    rw [Nat.zero_add] at this
    rw [this, s45]
    rfl
  · by_cases y : j < n
    · exact Or.inl (zz j y).2.2.1
    · exact Or.inr (by omega)
  · rw [k4 q j (by omega) (by omega), e4, if_neg (by omega), f3 q j (by omega)]
    exact g5 q j (by omega) (by omega) (by omega) (by omega)
/-- reckons, best -/
theorem xf_best {P : Nat → Bool} {sz so : Nat → Int} {x : Nat} (p1 : Int) (J : IMem) (hx : J 1 1 = (x : Int)) (x8 : x ≤ 8) (hn : cnB P 240 ≤ 144) (hc : ∀ l, l < 6 → J 1 (130 + l) ≤ 40) (hP : ∀ k, k < 240 → (P k = true ↔ ((k % 40 : Nat) : Int) < J 1 (130 + k / 40) ∧ ((k % 40 : Nat) : Int) < J 1 (10 + k / 40) ∧ J 1 (140 + 6 * k + 3) ≠ 2)) (hR : ∀ k, k < 240 → P k = true → J 1 (140 + 6 * k + 1) = sz k ∧ J 1 (140 + 6 * k + 3) = so k ∧ 1 ≤ sz k ∧ sz k ≤ 8) : par (f_X_best fu 0 p1 J) (fun v J' => (p1 = 0 → v = mB (zP P sz) (zP P so) (cnB P 240) 0 0 (x : Int)) ∧ (p1 ≠ 0 → ∃ a, LSB P a (cnB P 240) 240 ∧ v = RESq a p1 0 (chL (zP P sz) (zP P so) (cnB P 240) 0 0 (x : Int)))) := by
  unfold f_X_best f_X_reckons
  rw [zb_assoc]
  refine par_zb (xr_row (fu := fu) (P := P) J hc hP) (fun _ J1 ⟨g, h1, h2, h3⟩ => ?_)
  have gn : g = cnB P 240 := h2.1
  subst gn
  generalize hnn : cnB P 240 = n at *
  have zz : ∀ i, i < n → ∃ k : Nat, k < 240 ∧ J1 16 i = (k : Int) ∧ J1 1 (140 + 6 * k + 1) = zP P sz i ∧ J1 1 (140 + 6 * k + 3) = zP P so i ∧ 1 ≤ zP P sz i ∧ zP P sz i ≤ 8 := by
    intro i hi
    obtain ⟨k, k1, k2, k3⟩ := cnB_at (P := P) 240 i (by rw [hnn]; exact hi)
    obtain ⟨b1, b2, b3, b4⟩ := hR k k1 k2
    have e1 := zP_at (sz := sz) k1 k2
    have e2 := zP_at (sz := so) k1 k2
    have e3 := h2.2 k k1 k2
    rw [k3] at e1 e2 e3
    refine ⟨k, k1, e3, ?_, ?_, ?_, ?_⟩
    · rw [h3 _ _ (by decide) (by omega), e1]; exact b1
    · rw [h3 _ _ (by decide) (by omega), e2]; exact b2
    · rw [e1]; exact b3
    · rw [e1]; exact b4
  have hG1 : GRx (zP P sz) (zP P so) n J1 := ⟨hn, h1, zz⟩
  -- the table first
  have tab : par (f_X_reckons_6 fu (fun (I14 : IMem) => zl (wr32 ((I14 0 40) - 1)) fun x15 => f_X_reckons_63 fu 0 fu x15 I14) 0 fu 0 J1) (fun _ J' => TBx (zP P sz) (zP P so) n 0 J' ∧ ∀ q j, q ≠ 17 → J' q j = J1 q j) := by
    refine xt_6 (zP P sz) (zP P so) _ J1 hn h1 (fun J2 hT2 f2 => ?_) fu 0 J1 (by decide) (fun x2 w2 h _ => absurd h (Nat.not_lt_zero _)) (fun _ _ _ => rfl)
    have h40 : J2 0 40 = (n : Int) := (f2 _ _ (by decide)).trans h1
    have w1 : Wq (wr32 (J2 0 40 - 1)) ((n : Int) - 1) := by show wr32 (J2 0 40 - 1) = (n : Int) - 1; rw [h40, wr32_i2 (by omega) (by omega)]
    simp only [zl_e]
    rw [w1.e]
    exact xt_63 (zP P sz) (zP P so) J1 hG1 fu n J2 (Nat.le_refl _) hT2 f2
  refine par_zb tab (fun _ J3 ⟨hT3, f3⟩ => ?_)
  have hG3 : GRx (zP P sz) (zP P so) n J3 := grx_fr hG1 f3
  have x3 : J3 (0 + 1) 1 = (x : Int) := (f3 1 1 (by decide)).trans ((h3 1 1 (by decide) (by omega)).trans hx)
  simp only [zl_e]
  rw [x3]
  by_cases p0 : p1 = 0
  · rw [if_pos p0]
    have a0 : f_X_spot fu 0 (x : Int) 0 J3 = zr ((36 * 0 + 4 * x + 0 : Nat) : Int) J3 := ev_spot 0 x 0 J3 (by decide) (by omega) (by decide)
    rw [a0, zb_zr]
    refine par_zg (fun _ => par_zr ⟨fun _ => ?_, fun q => absurd p0 q⟩)
    obtain ⟨r1, r2⟩ := hT3 0 x 0 (Nat.zero_le _) (Nat.zero_le _) (by omega) (by decide)
    have e5 : J3 (0 + 17) ((36 * 0 + 4 * x + 0 : Nat) : Int).toNat = J3 17 (36 * 0 + 4 * x + 0) := rfl
    rw [e5]
    have pos := mB_pos (z := zP P sz) (s := zP P so) (n - 0) 0 (cwh 0) (x : Int) (by decide)
    have r3 : J3 17 (36 * 0 + 4 * x + 0) = mB (zP P sz) (zP P so) (n - 0) 0 (cwh 0) (x : Int) := by
      unfold cut at r2
      by_cases u0 : J3 17 (36 * 0 + 4 * x + 0) < 0
      · rw [if_pos u0] at r2; omega
      · rw [if_neg u0] at r2; exact r2
    rw [r3]
    rfl
  · rw [if_neg p0]
    refine par_mono (xc_35 (fu := fu) (zP P sz) (zP P so) J3 hG3 hT3 p1 fu 0 x 0 0 (Nat.zero_le _) (by omega) (by decide) (Nat.le_refl _)) (fun v J' e => ⟨fun q => absurd q p0, fun _ => ⟨J3 16, ⟨h2.1, fun k hk hp => ?_⟩, e⟩⟩)
    rw [f3 16 _ (by decide)]
    exact h2.2 k hk hp
/-- two rows of one kind are the same -/
theorem lsb_eq {P : Nat → Bool} {a b : Nat → Int} {n K : Nat} (h : LSB P a n K) (h2 : LSB P b n K) {i : Nat} (hi : i < n) : a i = b i := by
  obtain ⟨k, k1, k2, k3⟩ := cnB_at (P := P) K i (by rw [← h.1]; exact hi)
  have e1 := h.2 k k1 k2
  have e2 := h2.2 k k1 k2
  rw [k3] at e1 e2
  rw [e1, e2]
theorem chL_in {z s : Nat → Int} : ∀ (d i : Nat) (t x : Int) (j : Nat), j < (chL z s d i t x).length → (chL z s d i t x).getD j 0 < i + d := by
  intro d
  induction d with
  | zero => intro i t x j h; exact absurd h (Nat.not_lt_zero _)
  | succ d ih =>
    intro i t x j
    show j < (if wB z s d i t x ≠ -1 ∧ wB z s d i t x = mB z s (d + 1) i t x then i :: chL z s d (i + 1) (tw (s i) t) (x - z i) else chL z s d (i + 1) t x).length → (if wB z s d i t x ≠ -1 ∧ wB z s d i t x = mB z s (d + 1) i t x then i :: chL z s d (i + 1) (tw (s i) t) (x - z i) else chL z s d (i + 1) t x).getD j 0 < i + (d + 1)
    by_cases h : wB z s d i t x ≠ -1 ∧ wB z s d i t x = mB z s (d + 1) i t x
    · rw [if_pos h]
      intro hj
      cases j with
      | zero => show i < _; omega
      | succ j =>
        have := ih (i + 1) (tw (s i) t) (x - z i) j (by rw [List.length_cons] at hj; omega)
        show (chL z s d (i + 1) (tw (s i) t) (x - z i)).getD j 0 < _
        omega
    · rw [if_neg h]
      intro hj
      have := ih (i + 1) t x j hj
      omega
/-- who is seen, by the reference's memory; with one more of a line -/
def PBj (J : IMem) (lg : Int) : Nat → Bool := PBb (fun l => J 1 (130 + l)) (fun l => J 1 (10 + l) + (if (l : Int) = lg then 1 else 0)) (fun k => J 1 (140 + 6 * k + 3))
theorem pbj_c (h : RJ I J) (lg : Int) : ∀ k, k < 240 → (PBj J lg k = true ↔ SN (I 9) (I 10) lg k ∧ I 8 (6 * k + 3) ≠ 2) := by
  intro k hk
  obtain ⟨hS, _, _, hL, _⟩ := h.1.1
  have c : I 9 (k / 40) = J 1 (130 + k / 40) := (hL (k / 40) (by omega)).1
  have s : I 10 (k / 40) = J 1 (10 + k / 40) := hS.2.2.2.1 (k / 40) (by omega)
  have r : ((k % 40 : Nat) : Int) < J 1 (130 + k / 40) → I 8 (6 * k + 3) = J 1 (140 + 6 * k + 3) := fun q => by
    have := (hL (k / 40) (by omega)).2.2 (k % 40) 3 q (by decide)
    rw [show 40 * (k / 40) + k % 40 = k by omega] at this
    exact this
  unfold PBj SN
  rw [pb_iff, c, s]
  constructor
  · intro ⟨a, b, d⟩
    exact ⟨⟨a, b⟩, by rw [r a]; exact d⟩
  · intro ⟨⟨a, b⟩, d⟩
    exact ⟨a, b, by rw [← r a]; exact d⟩
theorem pbj_r (h : RJ I J) (hg : GX 0 J) (lg : Int) : ∀ k, k < 240 → PBj J lg k = true → I 8 (6 * k + 1) = J 1 (140 + 6 * k + 1) ∧ I 8 (6 * k + 3) = J 1 (140 + 6 * k + 3) ∧ 1 ≤ J 1 (140 + 6 * k + 1) ∧ J 1 (140 + 6 * k + 1) ≤ 8 := by
  intro k hk hp
  unfold PBj at hp
  have q := (pb_iff.mp hp).1
  have r : ∀ f, f < 6 → I 8 (6 * k + f) = J 1 (140 + 6 * k + f) := fun f hf => by
    have := (h.1.1.2.2.2.1 (k / 40) (by omega)).2.2 (k % 40) f q hf
    rw [show 40 * (k / 40) + k % 40 = k by omega] at this
    exact this
  have g := (gx_facts hg).2.2.2.2.1 k ⟨hk, q⟩
  rw [show 141 + 6 * k = 140 + 6 * k + 1 by omega] at g
  exact ⟨r 1 (by decide), r 3 (by decide), g⟩
theorem cnB_144 {P : Nat → Bool} (h : ∀ k, k < 240 → P k = true → k % 40 < 24) : ∀ K : Nat, K ≤ 240 → cnB P K ≤ 24 * (K / 40) + K % 40 ∧ cnB P K ≤ 24 * (K / 40) + 24 := by
  intro K
  induction K with
  | zero => intro _; exact ⟨Nat.zero_le _, Nat.zero_le _⟩
  | succ K ih =>
    intro hK
    obtain ⟨a, b⟩ := ih (by omega)
    cases hp : P K with
    | false =>
      rw [cnB_n hp]
      omega
    | true =>
      have := h K (by omega) hp
      rw [cnB_y hp]
      omega
theorem pbj_144 (hg : GX 0 J) (lg : Int) (hl : ∀ l : Nat, l < 6 → (l : Int) = lg → J 1 (10 + l) < 24) : cnB (PBj J lg) 240 ≤ 144 := by
  have gs := (gx_facts hg).2.2.1
  have := cnB_144 (P := PBj J lg) (fun k hk hp => by
    unfold PBj at hp
    have q := (pb_iff.mp hp).2.1
    have g := gs (k / 40) (by omega)
    by_cases y : ((k / 40 : Nat) : Int) = lg
    · have := hl (k / 40) (by omega) y
      rw [if_pos y] at q; omega
    · rw [if_neg y] at q; omega) 240 (Nat.le_refl _)
  omega
/-- fillMost of the hill -/
theorem cf_hill {I5 : IMem} {x : Nat} (lg : Int) (h : RJ I J) (hg : GX 0 J) (hC : GC I) (fr : ∀ q j, q < 100 → I5 q j = I q j) (hx : J 1 1 = (x : Int)) (hl : ∀ l : Nat, l < 6 → (l : Int) = lg → J 1 (10 + l) < 24) : par (f_F_fillMost fu 154 1 lg I5) (fun v I' => v = mB (zP (PBj J lg) (fun k => J 1 (140 + 6 * k + 1))) (zP (PBj J lg) (fun k => J 1 (140 + 6 * k + 3))) (cnB (PBj J lg) 240) 0 0 (x : Int) ∧ cnB (PBj J lg) 240 ≤ 144 ∧ LSB (PBj J lg) (I' 155) (cnB (PBj J lg) 240) 240 ∧ I' 154 6 = ((chL (zP (PBj J lg) (fun k => J 1 (140 + 6 * k + 1))) (zP (PBj J lg) (fun k => J 1 (140 + 6 * k + 3))) (cnB (PBj J lg) 240) 0 0 (x : Int)).length : Nat) ∧ (∀ j, j < (chL (zP (PBj J lg) (fun k => J 1 (140 + 6 * k + 1))) (zP (PBj J lg) (fun k => J 1 (140 + 6 * k + 3))) (cnB (PBj J lg) 240) 0 0 (x : Int)).length → I' 159 j = I' 155 ((chL (zP (PBj J lg) (fun k => J 1 (140 + 6 * k + 1))) (zP (PBj J lg) (fun k => J 1 (140 + 6 * k + 3))) (cnB (PBj J lg) 240) 0 0 (x : Int)).getD j 0)) ∧ (∀ j, 1 ≤ zP (PBj J lg) (fun k => J 1 (140 + 6 * k + 1)) j ∨ cnB (PBj J lg) 240 ≤ j) ∧ ∀ q j, ¬ (154 ≤ q ∧ q ≤ 159) → I' q j = I5 q j) := by
  obtain ⟨⟨s1, s2⟩, _, gs, _⟩ := gx_facts hg
  have e9 : I5 9 = I 9 := funext (fun j => fr 9 j (by decide))
  have e10 : I5 10 = I 10 := funext (fun j => fr 10 j (by decide))
  have e8 : I5 8 = I 8 := funext (fun j => fr 8 j (by decide))
  refine cf_most lg I5 ((fr 2 0 (by decide)).trans ((h.1.1.1.1 0 (by decide)).trans hx)) (by omega) (fun l hl => by rw [e9]; exact hC.2.1 l hl) (fun l hl6 => ?_) (fun k hk => by rw [e9, e10, e8]; exact pbj_c h lg k hk) (fun k hk hp => by rw [e8]; exact pbj_r h hg lg k hk hp)
  have e : I5 10 l = J 1 (10 + l) := (fr 10 l (by decide)).trans (h.1.1.1.2.2.2.1 l hl6)
  have g := gs l hl6
  rw [e]
  by_cases y : (l : Int) = lg
  · have := hl l hl6 y
    rw [if_pos y]; omega
  · rw [if_neg y]; omega
theorem pbj_x (lg : Int) {J1 : IMem} (f1 : ∀ j, 130 ≤ j → j < 1580 → J1 1 j = J 1 j) (f2 : ∀ l : Nat, l < 6 → J1 1 (10 + l) = J 1 (10 + l) + (if (l : Int) = lg then 1 else 0)) : ∀ k, k < 240 → (PBj J lg k = true ↔ ((k % 40 : Nat) : Int) < J1 1 (130 + k / 40) ∧ ((k % 40 : Nat) : Int) < J1 1 (10 + k / 40) ∧ J1 1 (140 + 6 * k + 3) ≠ 2) := by
  intro k hk
  unfold PBj
  rw [pb_iff, f1 _ (by omega) (by omega), f2 _ (by omega), f1 _ (by omega) (by omega)]
theorem pj_best (a : Int) (ha : inr a) (h : RJ I J) (hg : GX 0 J) (hC : GC I) : pq (f_S_best fu 0 a I) (f_X_best fu 0 a J) (fun x _ y _ => x = y) := by
  obtain ⟨⟨s1, s2⟩, _, gs, _, gz, _⟩ := gx_facts hg
  obtain ⟨x, hx⟩ : ∃ x : Nat, J 1 1 = (x : Int) := ⟨(J 1 1).toNat, by omega⟩
  have hP := pbj_x (J := J) (J1 := J) (-1) (fun _ _ _ => rfl) (fun l _ => by rw [if_neg (by omega), Int.add_zero])
  have hn := pbj_144 hg (-1) (fun l _ q => by omega)
  have cl := cf_hill (fu := fu) (I5 := I) (x := x) (-1) h hg hC (fun _ _ _ => rfl) hx (fun l _ q => by omega)
  have xl := xf_best (fu := fu) (P := PBj J (-1)) (sz := fun k => J 1 (140 + 6 * k + 1)) (so := fun k => J 1 (140 + 6 * k + 3)) (x := x) a J hx (by omega) hn (fun l hl => (h.1.1.2.2.2.1 l hl).2.1.2) hP (fun k hk hp => ⟨rfl, rfl, (pbj_r h hg (-1) k hk hp).2.2⟩)
  unfold f_S_best
  unfold inr at ha
  by_cases a0 : a < 0
  · rw [if_pos a0]
    refine pq_r (par_mono xl (fun y J1 ⟨_, q2⟩ => ?_))
    obtain ⟨b, _, hb⟩ := q2 (by omega)
    rw [hb]
    unfold RESq
    rw [if_neg (by omega), if_neg (by omega)]
  · rw [if_neg a0]
    refine pq_bl cl (fun v I1 _ ⟨g1, g2, g3, g4, g5, g6, g7⟩ => ?_)
    by_cases a10 : a < 10
    · rw [if_pos a10]
      by_cases e0 : a = 0
      · rw [if_pos e0]
        exact pq_r (par_mono xl (fun y J1 ⟨q1, _⟩ => g1.trans (q1 e0).symm))
      · rw [if_neg e0]
        by_cases e1 : a = 1
        · rw [if_pos e1]
          refine pq_r (par_mono xl (fun y J1 ⟨_, q2⟩ => ?_))
          obtain ⟨b, _, hb⟩ := q2 e0
          rw [hb]
          unfold RESq
          rw [if_neg (by omega), if_pos e1, Nat.zero_add]
          exact g4.trans (congrArg (fun t : Nat => (t : Int)) (Nat.zero_add _).symm)
        · rw [if_neg e1]
          refine pq_r (par_mono xl (fun y J1 ⟨_, q2⟩ => ?_))
          obtain ⟨b, _, hb⟩ := q2 e0
          rw [hb]
          unfold RESq
          rw [if_neg (by omega), if_neg e1]
    · rw [if_neg a10, zb_idq]
      obtain ⟨e, he⟩ : ∃ e : Nat, a - 10 = (e : Int) := ⟨(a - 10).toNat, by omega⟩
      have w1 : Wq (wr32 (a - 10)) ((e : Int)) := by show wr32 (a - 10) = (e : Int); rw [wr32_i2 (by omega) (by omega)]; exact he
      rw [w1.e]
      unfold f_F_chosenAt
      have g4' : I1 (0 + 154) 6 = ((chL (zP (PBj J (-1)) (fun k => J 1 (140 + 6 * k + 1))) (zP (PBj J (-1)) (fun k => J 1 (140 + 6 * k + 3))) (cnB (PBj J (-1)) 240) 0 0 (x : Int)).length : Nat) := g4
      have hlen := chL_len (z := zP (PBj J (-1)) (fun k => J 1 (140 + 6 * k + 1))) (s := zP (PBj J (-1)) (fun k => J 1 (140 + 6 * k + 3))) (cnB (PBj J (-1)) 240) 0 0 (x : Int) (fun j _ h2 => (g6 j).resolve_right (by omega)) (by omega)
      have hin := chL_in (z := zP (PBj J (-1)) (fun k => J 1 (140 + 6 * k + 1))) (s := zP (PBj J (-1)) (fun k => J 1 (140 + 6 * k + 3))) (cnB (PBj J (-1)) 240) 0 0 (x : Int)
      rw [g4']
      generalize chL (zP (PBj J (-1)) (fun k => J 1 (140 + 6 * k + 1))) (zP (PBj J (-1)) (fun k => J 1 (140 + 6 * k + 3))) (cnB (PBj J (-1)) 240) 0 0 (x : Int) = L at g5 hlen hin xl ⊢
      rw [if_neg (show ¬ (e : Int) < 0 by omega)]
      by_cases y : e < L.length
      · rw [if_pos (show (e : Int) < ((L.length : Nat) : Int) by omega), if_pos (show (e : Int) < 8 by omega)]
        refine pq_gl (fun _ => pq_gl (fun _ => ?_))
        refine pq_r (par_mono xl (fun y1 J1 ⟨_, q2⟩ => ?_))
        obtain ⟨b, b1, hb⟩ := q2 (by omega)
        rw [hb]
        unfold RESq
        rw [if_pos (by omega), show (a - 10 - ((0 : Nat) : Int)).toNat = e by omega]
        have v1 : I1 (0 + 154 + 5) (e : Int).toNat = I1 155 (L.getD e 0) := g5 e y
        have v2 : I1 155 (L.getD e 0) = b (L.getD e 0) := lsb_eq g3 b1 (by have := hin e y; omega)
        rw [v1, v2]
        rfl
      · rw [if_neg (show ¬ (e : Int) < ((L.length : Nat) : Int) by omega)]
        refine pq_r (par_mono xl (fun y1 J1 ⟨_, q2⟩ => ?_))
        obtain ⟨b, b1, hb⟩ := q2 (by omega)
        rw [hb]
        unfold RESq
        rw [if_neg (by omega), if_neg (by omega)]
theorem pj_look (a : Int) (h : RJ I J) (hg : GX 0 J) (hC : GC I) : pq (f_S_look fu 0 a I) (f_X_look fu 0 a J) (fun x _ y _ => x = y) := by
  obtain ⟨⟨s1, s2⟩, _, gs, _, gz, _⟩ := gx_facts hg
  obtain ⟨x, hx⟩ : ∃ x : Nat, J 1 1 = (x : Int) := ⟨(J 1 1).toNat, by omega⟩
  unfold f_S_look f_X_look
  rw [ev_isLine, ev_xLine, zb_zr, zb_zr]
  by_cases h1 : 0 ≤ a ∧ a < 6
  · rw [if_pos h1, if_neg ne10, if_neg ne10]
    obtain ⟨l, rfl⟩ : ∃ l : Nat, a = (l : Int) := ⟨a.toNat, by omega⟩
    have l6 : l < 6 := by omega
    have w10 : Wq (wr32 (10 + (l : Int))) (((10 + l : Nat) : Int)) := by show wr32 (10 + (l : Int)) = ((10 + l : Nat) : Int); rw [wr32_i2 (by omega) (by omega)]; omega
    have gl := gs l l6
    have il : I (0 + 10) (l : Int).toNat = J 1 (10 + l) := h.1.1.1.2.2.2.1 l l6
    have jl : J (0 + 1) ((10 + l : Nat) : Int).toNat = J 1 (10 + l) := rfl
    simp only [zl_e]
    rw [w10.e, il]
    refine pq_gl (fun _ => pq_gr (fun _ => ?_))
    rw [jl]
    by_cases h2 : J 1 (10 + l) < 24
    · rw [if_pos h2, if_neg (show ¬ J 1 (10 + l) = 24 by omega)]
      have hl1 : ∀ l2 : Nat, l2 < 6 → (l2 : Int) = (l : Int) → J 1 (10 + l2) < 24 := fun l2 _ q => by
        have : l2 = l := by omega
        rw [this]; exact h2
      have hl0 : ∀ l2 : Nat, l2 < 6 → (l2 : Int) = -1 → J 1 (10 + l2) < 24 := fun l2 _ q => by omega
      refine pq_bl (cf_hill (fu := fu) (I5 := I) (x := x) (l : Int) h hg hC (fun _ _ _ => rfl) hx hl1) (fun v1 I1 _ ⟨g1, _, _, _, _, _, g7⟩ => ?_)
      refine pq_bl (cf_hill (fu := fu) (I5 := I1) (x := x) (-1) h hg hC (fun q j hq => g7 q j (by omega)) hx hl0) (fun v2 I2 _ ⟨k1, _⟩ => ?_)
      have hP0 := pbj_x (J := J) (J1 := J) (-1) (fun _ _ _ => rfl) (fun l _ => by rw [if_neg (by omega), Int.add_zero])
      refine pq_br (xf_best (fu := fu) (P := PBj J (-1)) (sz := fun k => J 1 (140 + 6 * k + 1)) (so := fun k => J 1 (140 + 6 * k + 3)) (x := x) 0 J hx (by omega) (pbj_144 hg (-1) hl0) (fun l hl => (h.1.1.2.2.2.1 l hl).2.1.2) hP0 (fun k hk hp => ⟨rfl, rfl, (pbj_r h hg (-1) k hk hp).2.2⟩)) (fun y1 J1 e1 ⟨q1, _⟩ => ?_)
      have f1 : ∀ q j, q = 1 → J1 q j = J q j := fun q j hq => fc_X_best (fun q j => q ≠ 1) fu 0 0 J (fun _ => by omega) (fun _ => by omega) (by omega) e1 q j (by omega)
      refine pq_gr (fun _ => pq_gr (fun _ => pq_zwr' (fun J2 e2 => ?_)))
      have u1 : J1 (0 + 1) ((10 + l : Nat) : Int).toNat = J 1 (10 + l) := f1 1 (10 + l) rfl
      rw [u1, wr32_i2 (x := J 1 (10 + l) + 1) (by omega) (by omega)] at e2
      have f2 : ∀ j, j ≠ 10 + l → J2 1 j = J 1 j := fun j hj => by
        rw [e2, if_neg (fun q => hj q.2)]; exact f1 1 j rfl
      have f2' : J2 1 (10 + l) = J 1 (10 + l) + 1 := by rw [e2, if_pos ⟨rfl, rfl⟩]
      have hP1 := pbj_x (J := J) (J1 := J2) (l : Int) (fun j b1 b2 => f2 j (by omega)) (fun l2 hl2 => by
        by_cases y : l2 = l
        · rw [y, if_pos rfl]; exact f2'
        · rw [if_neg (by omega), Int.add_zero]; exact f2 _ (by omega))
      refine pq_br (xf_best (fu := fu) (P := PBj J (l : Int)) (sz := fun k => J 1 (140 + 6 * k + 1)) (so := fun k => J 1 (140 + 6 * k + 3)) (x := x) 0 J2 ((f2 1 (by omega)).trans hx) (by omega) (pbj_144 hg (l : Int) hl1) (fun l hl => by rw [f2 _ (by omega)]; exact (h.1.1.2.2.2.1 l hl).2.1.2) hP1 (fun k hk hp => ⟨f2 _ (by omega), f2 _ (by omega), (pbj_r h hg (l : Int) k hk hp).2.2⟩)) (fun y3 J3 e3 ⟨q3, _⟩ => ?_)
      refine pq_gr (fun _ => pq_gr (fun _ => pq_zwr' (fun J4 e4 => pq_end ?_)))
      rw [g1, k1, q1 rfl, q3 rfl]
    · rw [if_neg h2, if_pos (show J 1 (10 + l) = 24 by omega)]
      exact pq_end rfl
  · rw [if_neg h1, if_pos eq00, if_pos eq00]
    exact pq_end rfl
end
/-! who is marked, by the reference's memory: the lists are whole -/
def CVS (J : IMem) : Prop :=
  (0 ≤ J 0 31 ∧ 0 ≤ J 0 32) ∧
  (∀ k, k < 240 → J 9 k ≠ 0 → INL J k ∧ J 12 k = 0 ∧ ∃ i : Nat, (i : Int) < J 0 31 ∧ J 11 i = (k : Int)) ∧
  (∀ k, k < 240 → J 12 k ≠ 0 → INL J k ∧ J 9 k = 0 ∧ ∃ i : Nat, (i : Int) < J 0 32 ∧ J 10 i = (k : Int)) ∧
  (∀ i : Nat, (i : Int) < J 0 31 → ∃ k : Nat, INL J k ∧ J 11 i = (k : Int) ∧ J 9 k ≠ 0) ∧
  (∀ i : Nat, (i : Int) < J 0 32 → ∃ k : Nat, INL J k ∧ J 10 i = (k : Int) ∧ J 12 k ≠ 0) ∧
  (∀ i j : Nat, (i : Int) < J 0 32 → (j : Int) < J 0 32 → J 10 i = J 10 j → i = j)
theorem inl_to {J J' : IMem} (h : ∀ l, l < 6 → J' 1 (130 + l) = J 1 (130 + l)) {k : Nat} (hk : INL J k) : INL J' k := ⟨hk.1, by rw [h _ (by have := hk.1; omega)]; exact hk.2⟩
/-- one more sits -/
theorem cvs_sit {J J' : IMem} {k : Nat} {z : Int} (h : CVS J) (hin : INL J k) (h9 : J 9 k = 0) (h12 : J 12 k = 0) (hz : z ≠ 0) (c : ∀ l, l < 6 → J' 1 (130 + l) = J 1 (130 + l)) (f31 : J' 0 31 = J 0 31 + 1) (f32 : J' 0 32 = J 0 32) (f9 : ∀ j, J' 9 j = if j = k then z else J 9 j) (f12 : ∀ j, J' 12 j = J 12 j) (f11 : ∀ j, J' 11 j = if j = (J 0 31).toNat then (k : Int) else J 11 j) (f10 : ∀ j, J' 10 j = J 10 j) : CVS J' := by
  obtain ⟨⟨a1, a2⟩, b, d, e, f, g⟩ := h
  refine ⟨⟨by omega, by omega⟩, fun k2 hk2 hn => ?_, fun k2 hk2 hn => ?_, fun i hi => ?_, fun i hi => ?_, fun i j hi hj q => ?_⟩
  · by_cases y : k2 = k
    · rw [y]
      refine ⟨inl_to c hin, by rw [f12]; exact h12, (J 0 31).toNat, by omega, ?_⟩
      rw [f11, if_pos rfl]
    · rw [f9, if_neg y] at hn
      obtain ⟨x1, x2, i, i1, i2⟩ := b k2 hk2 hn
      refine ⟨inl_to c x1, by rw [f12]; exact x2, i, by omega, ?_⟩
      rw [f11, if_neg (by omega)]; exact i2
  · rw [f12] at hn
    obtain ⟨x1, x2, i, i1, i2⟩ := d k2 hk2 hn
    have y : k2 ≠ k := fun y => hn (by rw [y]; exact h12)
    exact ⟨inl_to c x1, by rw [f9, if_neg y]; exact x2, i, by omega, by rw [f10]; exact i2⟩
  · by_cases y : i = (J 0 31).toNat
    · exact ⟨k, inl_to c hin, by rw [f11, if_pos y], by rw [f9, if_pos rfl]; exact hz⟩
    · obtain ⟨k2, x1, x2, x3⟩ := e i (by omega)
      refine ⟨k2, inl_to c x1, by rw [f11, if_neg y]; exact x2, ?_⟩
      rw [f9]
      split
      · exact hz
      · exact x3
  · rw [f32] at hi
    obtain ⟨k2, x1, x2, x3⟩ := f i hi
    exact ⟨k2, inl_to c x1, by rw [f10]; exact x2, by rw [f12]; exact x3⟩
  · rw [f32] at hi hj
    rw [f10, f10] at q
    exact g i j hi hj q
/-- one more is found out -/
theorem cvs_found {J J' : IMem} {k : Nat} (h : CVS J) (hin : INL J k) (h9 : J 9 k = 0) (h12 : J 12 k = 0) (c : ∀ l, l < 6 → J' 1 (130 + l) = J 1 (130 + l)) (f31 : J' 0 31 = J 0 31) (f32 : J' 0 32 = J 0 32 + 1) (f9 : ∀ j, J' 9 j = J 9 j) (f12 : ∀ j, J' 12 j = if j = k then 1 else J 12 j) (f11 : ∀ j, J' 11 j = J 11 j) (f10 : ∀ j, J' 10 j = if j = (J 0 32).toNat then (k : Int) else J 10 j) : CVS J' := by
  obtain ⟨⟨a1, a2⟩, b, d, e, f, g⟩ := h
  have fresh : ∀ i : Nat, (i : Int) < J 0 32 → J 10 i ≠ (k : Int) := fun i hi q => by
    obtain ⟨k2, _, x2, x3⟩ := f i hi
    have : k2 = k := by omega
    exact x3 (by rw [this]; exact h12)
  refine ⟨⟨by omega, by omega⟩, fun k2 hk2 hn => ?_, fun k2 hk2 hn => ?_, fun i hi => ?_, fun i hi => ?_, fun i j hi hj q => ?_⟩
  · rw [f9] at hn
    obtain ⟨x1, x2, i, i1, i2⟩ := b k2 hk2 hn
    have y : k2 ≠ k := fun y => hn (by rw [y]; exact h9)
    exact ⟨inl_to c x1, by rw [f12, if_neg y]; exact x2, i, by omega, by rw [f11]; exact i2⟩
  · by_cases y : k2 = k
    · rw [y]
      refine ⟨inl_to c hin, by rw [f9]; exact h9, (J 0 32).toNat, by omega, ?_⟩
      rw [f10, if_pos rfl]
    · rw [f12, if_neg y] at hn
      obtain ⟨x1, x2, i, i1, i2⟩ := d k2 hk2 hn
      refine ⟨inl_to c x1, by rw [f9]; exact x2, i, by omega, ?_⟩
      rw [f10, if_neg (by omega)]; exact i2
  · rw [f31] at hi
    obtain ⟨k2, x1, x2, x3⟩ := e i hi
    exact ⟨k2, inl_to c x1, by rw [f11]; exact x2, by rw [f9]; exact x3⟩
  · by_cases y : i = (J 0 32).toNat
    · exact ⟨k, inl_to c hin, by rw [f10, if_pos y], by rw [f12, if_pos rfl]; decide⟩
    · obtain ⟨k2, x1, x2, x3⟩ := f i (by omega)
      refine ⟨k2, inl_to c x1, by rw [f10, if_neg y]; exact x2, ?_⟩
      rw [f12]
      split
      · decide
      · exact x3
  · rw [f10, f10] at q
    by_cases y : i = (J 0 32).toNat
    · rw [if_pos y] at q
      by_cases y2 : j = (J 0 32).toNat
      · rw [y, y2]
      · rw [if_neg y2] at q
        exact absurd q.symm (fresh j (by omega))
    · rw [if_neg y] at q
      by_cases y2 : j = (J 0 32).toNat
      · rw [if_pos y2] at q
        exact absurd q (fresh i (by omega))
      · rw [if_neg y2] at q
        exact g i j (by omega) (by omega) q
theorem cvs_fr {J J' : IMem} (h : CVS J) (c : ∀ l, l < 6 → J' 1 (130 + l) = J 1 (130 + l)) (g : ∀ q j, (q = 0 ∧ (j = 31 ∨ j = 32)) ∨ q = 9 ∨ q = 10 ∨ q = 11 ∨ q = 12 → J' q j = J q j) : CVS J' := by
  obtain ⟨⟨a1, a2⟩, b, d, e, f, k⟩ := h
  have g31 := g 0 31 (by omega)
  have g32 := g 0 32 (by omega)
  refine ⟨⟨by omega, by omega⟩, fun k2 hk2 hn => ?_, fun k2 hk2 hn => ?_, fun i hi => ?_, fun i hi => ?_, fun i j hi hj q => ?_⟩
  · rw [g 9 _ (by omega)] at hn
    obtain ⟨x1, x2, i, i1, i2⟩ := b k2 hk2 hn
    exact ⟨inl_to c x1, by rw [g 12 _ (by omega)]; exact x2, i, by omega, by rw [g 11 _ (by omega)]; exact i2⟩
  · rw [g 12 _ (by omega)] at hn
    obtain ⟨x1, x2, i, i1, i2⟩ := d k2 hk2 hn
    exact ⟨inl_to c x1, by rw [g 9 _ (by omega)]; exact x2, i, by omega, by rw [g 10 _ (by omega)]; exact i2⟩
  · obtain ⟨k2, x1, x2, x3⟩ := e i (by omega)
    exact ⟨k2, inl_to c x1, by rw [g 11 _ (by omega)]; exact x2, by rw [g 9 _ (by omega)]; exact x3⟩
  · obtain ⟨k2, x1, x2, x3⟩ := f i (by omega)
    exact ⟨k2, inl_to c x1, by rw [g 10 _ (by omega)]; exact x2, by rw [g 12 _ (by omega)]; exact x3⟩
  · rw [g 10 _ (by omega), g 10 _ (by omega)] at q
    exact k i j (by omega) (by omega) q
/-- the filling under way -/
def GMV (J0 J : IMem) : Prop := CVS J ∧ (0 ≤ J 0 30 ∧ J 0 30 + J 0 31 ≤ 8 ∧ 0 ≤ J 0 33 ∧ J 0 33 ≤ J 0 31) ∧ ∀ j, j ≠ 75 → J 1 j = J0 1 j
section
variable {fu : Nat} {Q : Int → IMem → Prop}
theorem gmv_c {J0 J : IMem} (h : GMV J0 J) {J' : IMem} (f : ∀ j, j ≠ 75 → J' 1 j = J 1 j) : ∀ l, l < 6 → J' 1 (130 + l) = J 1 (130 + l) := fun l hl => f _ (by omega)
theorem gmv_sit {J0 J J' : IMem} {k : Nat} {z s : Int} (h : GMV J0 J) (hin : INL J k) (h9 : J 9 k = 0) (h12 : J 12 k = 0) (hz : 1 ≤ z ∧ z ≤ J 0 30) (g : ∀ q j, q ≠ 7 → q ≠ 8 → J' q j = if q = 0 ∧ j = 34 then wr32 (J 0 34 + (if s = 1 then 0 else 1)) else if q = 0 ∧ j = 33 then wr32 (J 0 33 + (if s = 2 then 1 else 0)) else if q = 0 ∧ j = 30 then wr32 (J 0 30 - z) else if q = 0 ∧ j = 31 then J 0 31 + 1 else if q = 11 ∧ j = (J 0 31).toNat then (k : Int) else if q = 9 ∧ j = k then z else J q j) : GMV J0 J' := by
  obtain ⟨h1, ⟨b1, b2, b3, b4⟩, h3⟩ := h
  have a1 := h1.1.1
  have w : ∀ j, J' 1 j = J 1 j := fun j => by rw [g 1 j (by decide) (by decide), if_neg (by omega), if_neg (by omega), if_neg (by omega), if_neg (by omega), if_neg (by omega), if_neg (by omega)]
  have f31 : J' 0 31 = J 0 31 + 1 := by rw [g 0 31 (by decide) (by decide), if_neg (by omega), if_neg (by omega), if_neg (by omega), if_pos ⟨rfl, rfl⟩]
  have f30 : J' 0 30 = J 0 30 - z := by rw [g 0 30 (by decide) (by decide), if_neg (by omega), if_neg (by omega), if_pos ⟨rfl, rfl⟩, wr32_i2 (by omega) (by omega)]
  have f33 : 0 ≤ J' 0 33 ∧ J' 0 33 ≤ J 0 33 + 1 := by
    rw [g 0 33 (by decide) (by decide), if_neg (by omega), if_pos ⟨rfl, rfl⟩]
    by_cases y : s = 2
    · rw [if_pos y, wr32_i2 (by omega) (by omega)]; omega
    · rw [if_neg y, wr32_i2 (by omega) (by omega)]; omega
  refine ⟨cvs_sit (k := k) (z := z) h1 hin h9 h12 (by omega) (fun l hl => w _) f31 ?_ (fun j => ?_) (fun j => ?_) (fun j => ?_) (fun j => ?_), ⟨by omega, by omega, by omega, by omega⟩, fun j hj => (w j).trans (h3 j hj)⟩
  · rw [g 0 32 (by decide) (by decide), if_neg (by omega), if_neg (by omega), if_neg (by omega), if_neg (by omega), if_neg (by omega), if_neg (by omega)]
  · rw [g 9 j (by decide) (by decide), if_neg (by omega), if_neg (by omega), if_neg (by omega), if_neg (by omega), if_neg (by omega)]
    by_cases y : j = k
    · rw [if_pos ⟨rfl, y⟩, if_pos y]
    · rw [if_neg (fun z => y z.2), if_neg y]
  · rw [g 12 j (by decide) (by decide), if_neg (by omega), if_neg (by omega), if_neg (by omega), if_neg (by omega), if_neg (by omega), if_neg (by omega)]
  · rw [g 11 j (by decide) (by decide), if_neg (by omega), if_neg (by omega), if_neg (by omega), if_neg (by omega)]
    by_cases y : j = (J 0 31).toNat
    · rw [if_pos ⟨rfl, y⟩, if_pos y]
    · rw [if_neg (fun z => y z.2), if_neg y, if_neg (by omega)]
  · rw [g 10 j (by decide) (by decide), if_neg (by omega), if_neg (by omega), if_neg (by omega), if_neg (by omega), if_neg (by omega), if_neg (by omega)]
theorem gmv_mv {J0 J J' : IMem} (h : GMV J0 J) (g : ∀ q j, q ≠ 7 → q ≠ 8 → J' q j = J q j) : GMV J0 J' := by
  obtain ⟨h1, ⟨b1, b2, b3, b4⟩, h3⟩ := h
  refine ⟨cvs_fr h1 (fun l hl => g _ _ (by decide) (by decide)) (fun q j hq => g _ _ (by omega) (by omega)), ?_, fun j hj => (g 1 j (by decide) (by decide)).trans (h3 j hj)⟩
  rw [g 0 30 (by decide) (by decide), g 0 31 (by decide) (by decide), g 0 33 (by decide) (by decide)]
  exact ⟨b1, b2, b3, b4⟩
theorem xg_b7 (kk R_ : IMem → Res) (J0 : IMem) {x9 : Int} {J : IMem} (h : GMV J0 J) (hz0 : ∀ k, INL J0 k → 1 ≤ J0 1 (141 + 6 * k) ∧ J0 1 (141 + 6 * k) ≤ 8) (hx : x9 = -1 ∨ ∃ k : Nat, k < 240 ∧ eF J k = true ∧ x9 = (k : Int)) (hA : ∀ J, GMV J0 J → par (kk J) Q) (hB : ∀ J, GMV J0 J → par (R_ J) Q) : par (xB7 fu kk R_ x9 J) Q := by
  unfold xB7
  rcases hx with hx | ⟨k, hk, he, hx⟩
  · rw [if_pos hx]; exact hA J h
  · rw [if_neg (by omega), hx]
    obtain ⟨l, p, hl, hp, rfl⟩ : ∃ l p, l < 6 ∧ p < 40 ∧ k = 40 * l + p := ⟨k / 40, k % 40, by omega, by omega, by omega⟩
    obtain ⟨c1, c2, c3, c4, _⟩ := (ef_iff J hp).mp he
    have d1 : (40 * l + p) / 40 = l := by omega
    have d2 : (40 * l + p) % 40 = p := by omega
    have hin : INL J (40 * l + p) := ⟨hk, by rw [d1, d2]; exact c1⟩
    have hin0 : INL J0 (40 * l + p) := inl_to (fun l hl => (h.2.2 (130 + l) (by omega)).symm) hin
    have z1 := hz0 _ hin0
    rw [show 141 + 6 * (40 * l + p) = 140 + 6 * (40 * l + p) + 1 by omega, ← h.2.2 (140 + 6 * (40 * l + p) + 1) (by omega)] at z1
    obtain ⟨h1, ⟨b1, b2, b3, b4⟩, h3⟩ := h
    have h' : GMV J0 J := ⟨h1, ⟨b1, b2, b3, b4⟩, h3⟩
    have a1 := h1.1.1
    have a2 := h1.1.2
    rw [wd40 _ hk, wr40 _ hk, d1, d2, ev_of1 fu 0 l p J hl hp, zb_zr]
    refine par_ite (fun q => ?_) (fun q => ?_)
    · refine par_zg (fun _ => par_zw' (fun J1 e1 => ?_))
      rw [tn] at e1
      simp only [zl_e]
      have u1 : J1 0 32 = J 0 32 := by rw [e1, if_neg (by omega)]
      rw [u1]
      refine par_zg (fun r => par_zw' (fun J2 e2 => par_zw' (fun J3 e3 => par_zw' (fun J4 e4 => hB J4 ?_))))
      have u2 : J2 0 32 = J 0 32 := by rw [e2, if_neg (by omega), u1]
      rw [u2, wr32_i2 (x := J 0 32 + 1) (by omega) (by omega)] at e3
      have f : ∀ q j, ¬ (q = 0 + 1 ∧ j = 75) → J4 q j = if q = 0 ∧ j = 32 then J 0 32 + 1 else if q = 0 + 10 ∧ j = (J 0 32).toNat then ((40 * l + p : Nat) : Int) else if q = 0 + 12 ∧ j = 40 * l + p then 1 else J q j := fun q j hq => by rw [e4, if_neg hq, e3, e2, e1]
      clear e4 e3 e2 e1
      have w : ∀ j, j ≠ 75 → J4 1 j = J 1 j := fun j hj => by rw [f 1 j (by omega), if_neg (by omega), if_neg (by omega), if_neg (by omega)]
      refine ⟨cvs_found (k := 40 * l + p) h1 hin c3 c4 (fun l hl => w _ (by omega)) ?_ ?_ (fun j => ?_) (fun j => ?_) (fun j => ?_) (fun j => ?_), ?_, fun j hj => (w j hj).trans (h3 j hj)⟩
      · rw [f 0 31 (by omega), if_neg (by omega), if_neg (by omega), if_neg (by omega)]
      · rw [f 0 32 (by omega), if_pos ⟨rfl, rfl⟩]
      · rw [f 9 j (by omega), if_neg (by omega), if_neg (by omega), if_neg (by omega)]
      · rw [f 12 j (by omega), if_neg (by omega), if_neg (by omega)]
        by_cases y : j = 40 * l + p
        · rw [if_pos ⟨rfl, y⟩, if_pos y]
        · rw [if_neg (fun z => y z.2), if_neg y]
      · rw [f 11 j (by omega), if_neg (by omega), if_neg (by omega), if_neg (by omega)]
      · rw [f 10 j (by omega), if_neg (by omega)]
        by_cases y : j = (J 0 32).toNat
        · rw [if_pos ⟨rfl, y⟩, if_pos y]
        · rw [if_neg (fun z => y z.2), if_neg y, if_neg (by omega)]
      · rw [f 0 30 (by omega), if_neg (by omega), if_neg (by omega), if_neg (by omega), f 0 31 (by omega), if_neg (by omega), if_neg (by omega), if_neg (by omega), f 0 33 (by omega), if_neg (by omega), if_neg (by omega), if_neg (by omega)]
        exact ⟨b1, b2, b3, b4⟩
    · rw [ev_of1 fu 0 l p J hl hp, zb_zr]
      have zz : 1 ≤ J (0 + 1) (140 + 6 * (40 * l + p) + 1) ∧ J (0 + 1) (140 + 6 * (40 * l + p) + 1) ≤ J 0 30 := ⟨z1.1, Int.not_lt.mp q⟩
      refine par_zb (xv_takes (fu := fu) l p (J (0 + 1) (140 + 6 * (40 * l + p) + 1)) J hl hp ⟨a1, by omega⟩) (fun _ J1 g => hB J1 ?_)
      exact gmv_sit (k := 40 * l + p) h' hin c3 c4 zz (fun q j _ _ => g q j)
theorem xg_4 (kk : IMem → Res) (J0 : IMem) {kl : Nat} {law : List LRec} (hw : LWX J0 kl law) (hc : ∀ l, l < 6 → 0 ≤ J0 1 (130 + l) ∧ J0 1 (130 + l) ≤ 40) (hbd : inr (J0 1 5)) (hz0 : ∀ k, INL J0 k → 1 ≤ J0 1 (141 + 6 * k) ∧ J0 1 (141 + 6 * k) ≤ 8) (hA : ∀ J, GMV J0 J → par (kk J) Q) : ∀ (m : Nat) (J : IMem), GMV J0 J → par (f_X_fills_4 fu kk 0 m J) Q := by
  intro m
  induction m with
  | zero => intro _ _; exact par_none
  | succ m ih =>
    intro J h
    show par (fb_X_fills_4 fu kk 0 (f_X_fills_4 fu kk 0 m) J) Q
    rw [fills_eq]
    have w : ∀ j, j ≠ 75 → J 1 j = J0 1 j := h.2.2
    have find : ∀ (by1 : Bool) (b : Int), b = (if by1 then 1 else 0) → ∀ J2, GMV J0 J2 → par (f_X_finds fu 0 b J2) (fun y J' => (y = -1 ∨ ∃ k : Nat, k < 240 ∧ eF J' k = true ∧ y = (k : Int)) ∧ GMV J0 J') := by
      intro by1 b hb J2 h2
      have w2 : ∀ j, j ≠ 75 → J2 1 j = J0 1 j := h2.2.2
      refine par_mono (xv_finds (fu := fu) by1 b hb J2 (lwx_same hw (fun j hj => w2 j (by omega))) (fun l hl => by rw [w2 _ (by omega)]; exact hc l hl) (by rw [w2 5 (by decide)]; exact hbd)) (fun y J' ⟨e, g⟩ => ⟨?_, gmv_mv h2 g⟩)
      rw [ef_same g]
      rcases amF_rng (e := eF J2) (v := vF J2 by1 kl law) (lo := loF J2 by1) 240 with q | ⟨k, q1, q2, q3, _⟩
      · rw [q] at e; exact Or.inl e
      · exact Or.inr ⟨k, q1, q2, e.trans q3⟩
    have b4 : ∀ (x6 : Int) (J2 : IMem), GMV J0 J2 → (x6 = -1 ∨ ∃ k : Nat, k < 240 ∧ eF J2 k = true ∧ x6 = (k : Int)) → par (xB4 fu kk (f_X_fills_4 fu kk 0 m) x6 J2) Q := by
      intro x6 J2 h2 hx
      unfold xB4
      by_cases q : x6 = -1
      · rw [if_pos q]
        exact par_zb (find false 0 rfl J2 h2) (fun y J3 ⟨g1, g2⟩ => xg_b7 kk _ J0 g2 hz0 g1 hA ih)
      · rw [if_neg q]
        exact xg_b7 kk _ J0 h2 hz0 hx hA ih
    refine par_ite (fun _ => par_zb (find true 1 rfl J h) (fun y J3 ⟨g1, g2⟩ => b4 y J3 g2 g1)) (fun _ => b4 (-1) J h (Or.inl rfl))
/-- fills: the lists are whole -/
theorem xg_fills (J : IMem) {kl : Nat} {law : List LRec} (hw : LWX J kl law) (hg : GX 0 J) (hc : ∀ l, l < 6 → 0 ≤ J 1 (130 + l) ∧ J 1 (130 + l) ≤ 40) : par (f_X_fills fu 0 J) (fun _ J' => CVS J' ∧ ∀ j, j ≠ 75 → J' 1 j = J 1 j) := by
  obtain ⟨⟨s1, s2⟩, _, gs, gpt, gz, gb, _⟩ := gx_facts hg
  unfold f_X_fills
  refine par_zb (xv_begins (fu := fu) J) (fun _ J1 ⟨g1, ⟨g2, g3, g4, g5, g6⟩, g7⟩ => ?_)
  have w1 : ∀ j, J1 1 j = J 1 j := fun j => g7 1 j (by decide) (by decide) (by omega)
  have h1 : GMV J J1 := by
    refine ⟨⟨⟨by omega, by omega⟩, fun k hk hn => absurd (g1 k hk).1 hn, fun k hk hn => absurd (g1 k hk).2 hn, fun i hi => ?_, fun i hi => ?_, fun i j hi => ?_⟩, ⟨by omega, by omega, by omega, by omega⟩, fun j _ => w1 j⟩
    · rw [g3] at hi; omega
    · rw [g4] at hi; omega
    · rw [g4] at hi; omega
  refine xg_4 _ J hw hc gb gz (fun J2 h2 => ?_) fu J1 h1
  have w2 : ∀ j, j ≠ 75 → J2 1 j = J 1 j := h2.2.2
  have c2 : ∀ l, l < 6 → 0 ≤ J2 1 (130 + l) ∧ J2 1 (130 + l) ≤ 40 := fun l hl => by rw [w2 _ (by omega)]; exact hc l hl
  have z2 : ∀ k, INL J2 k → 1 ≤ J2 1 (141 + 6 * k) ∧ J2 1 (141 + 6 * k) ≤ 8 := fun k hk => by rw [w2 _ (by omega)]; exact gz k (inl_to (fun l hl => (w2 _ (by omega)).symm) hk)
  obtain ⟨k1, ⟨b1, b2, b3, b4⟩, k3⟩ := h2
  refine par_zb (xv_parts0 (fu := fu) J2 (lwx_same hw (fun j hj => w2 j (by omega))) z2 (pts_mv gpt (fun j a b => w2 j (by omega))) c2 b3 ⟨k1.1.1, b1, b2⟩) (fun _ J3 g => par_zr ?_)
  rcases g with ⟨_, g⟩ | ⟨k, p1, p2, _, p4, g⟩
  · have := gmv_mv (J0 := J) ⟨k1, ⟨b1, b2, b3, b4⟩, k3⟩ g
    exact ⟨this.1, this.2.2⟩
  · have p2' := p2
    unfold pF at p2'
    obtain ⟨q1, _, ⟨_, q4, q5⟩, _⟩ := p2'
    have := gmv_sit (J0 := J) (k := k) (z := pzF J2 k) (s := 0) ⟨k1, ⟨b1, b2, b3, b4⟩, k3⟩ ⟨p1, q1⟩ q4 q5 ⟨p4.1, p4.2.1⟩ g
    exact ⟨this.1, this.2.2⟩
end
/-! NUMBERS as a chair goes: the reference -/
theorem cnB_lek {P : Nat → Bool} : ∀ K : Nat, cnB P K ≤ K := by
  intro K
  induction K with
  | zero => exact Nat.le_refl _
  | succ K ih =>
    have : cnB P (K + 1) = cnB P K + (if P K = true then 1 else 0) := rfl
    rw [this]
    split <;> omega
/-- the group at place p of line l stays in its line -/
def KPb (J : IMem) (l p : Nat) : Bool := decide (J 12 (40 * l + p) = 0 ∧ J 9 (40 * l + p) ≠ J 1 (140 + 6 * (40 * l + p) + 1))
theorem kp_iff {J : IMem} {l p : Nat} : KPb J l p = true ↔ (J 12 (40 * l + p) = 0 ∧ J 9 (40 * l + p) ≠ J 1 (140 + 6 * (40 * l + p) + 1)) := by
  unfold KPb
  rw [decide_eq_true_iff]
theorem kp_eq {J J' : IMem} {l p : Nat} (h12 : J' 12 (40 * l + p) = J 12 (40 * l + p)) (h9 : J' 9 (40 * l + p) = J 9 (40 * l + p)) (h1 : J' 1 (140 + 6 * (40 * l + p) + 1) = J 1 (140 + 6 * (40 * l + p) + 1)) : KPb J' l p = KPb J l p := by
  unfold KPb
  rw [h12, h9, h1]
theorem cnB_eq {P P' : Nat → Bool} : ∀ K : Nat, (∀ k, k < K → P' k = P k) → cnB P' K = cnB P K := by
  intro K
  induction K with
  | zero => intro _; rfl
  | succ K ih =>
    intro h
    show cnB P' K + (if P' K = true then 1 else 0) = cnB P K + (if P K = true then 1 else 0)
    rw [ih (fun k hk => h k (by omega)), h K (by omega)]
section
variable {fu : Nat} {Q : Int → IMem → Prop}
/-- a line's rows below p have moved up -/
def XNV (J0 : IMem) (l p : Nat) (J : IMem) : Prop := (∀ q j, ¬ (q = 1 ∧ 140 + 240 * l ≤ j ∧ j < 140 + 240 * l + 6 * cnB (KPb J0 l) p) → J q j = J0 q j) ∧ ∀ p', p' < p → KPb J0 l p' = true → J 1 (140 + 6 * (40 * l + cnB (KPb J0 l) p')) = J0 1 (140 + 6 * (40 * l + p'))
theorem xn_57 (kk : Int → IMem → Res) (l c : Nat) (hl : l < 6) (hc : c ≤ 40) (J0 : IMem) (h9 : ∀ p, p < c → 0 ≤ J0 9 (40 * l + p) ∧ J0 9 (40 * l + p) ≤ J0 1 (140 + 6 * (40 * l + p) + 1) ∧ J0 1 (140 + 6 * (40 * l + p) + 1) ≤ 8) (hend : ∀ J, XNV J0 l c J → par (kk ((cnB (KPb J0 l) c : Nat) : Int) J) Q) : ∀ (m p : Nat) (w3 : Int) (J : IMem), p ≤ c → XNV J0 l p J → par (f_X_movesUp_57 fu kk 0 (l : Int) (c : Int) m w3 ((cnB (KPb J0 l) p : Nat) : Int) (p : Int) J) Q := by
  intro m
  induction m with
  | zero => intro _ _ _ _ _; exact par_none
  | succ m ih =>
    intro p w3 J hp hV
    show par (fb_X_movesUp_57 fu kk 0 (l : Int) (c : Int) (f_X_movesUp_57 fu kk 0 (l : Int) (c : Int) m) w3 ((cnB (KPb J0 l) p : Nat) : Int) (p : Int) J) Q
    rw [moves_eq]
    by_cases h : p < c
    · obtain ⟨v1, v2⟩ := hV
      have hle := cnB_lek (P := KPb J0 l) p
      have hp4 : p < 40 := by omega
      have w2 : Wq (wr32 (wr32 (40 * (l : Int)) + (p : Int))) ((40 * l + p : Nat) : Int) := by show wr32 (wr32 (40 * (l : Int)) + (p : Int)) = ((40 * l + p : Nat) : Int); rw [wr32_i2 (x := 40 * (l : Int)) (by omega) (by omega), wr32_i2 (by omega) (by omega)]; omega
      have wp : Wq (wr32 ((p : Int) + 1)) ((p + 1 : Nat) : Int) := by show wr32 ((p : Int) + 1) = ((p + 1 : Nat) : Int); rw [wr32_i2 (by omega) (by omega)]; rfl
      have f12 : J 12 (40 * l + p) = J0 12 (40 * l + p) := v1 _ _ (by omega)
      have f9 : J 9 (40 * l + p) = J0 9 (40 * l + p) := v1 _ _ (by omega)
      have fr : ∀ f, f < 6 → J 1 (140 + 6 * (40 * l + p) + f) = J0 1 (140 + 6 * (40 * l + p) + f) := fun f _ => v1 _ _ (by omega)
      rw [if_pos (show (p : Int) < (c : Int) by omega), w2.e]
      refine par_zg (fun _ => ?_)
      have body : ∀ x15 : Int, par (xDB fu (l : Int) (c : Int) ((40 * l + p : Nat) : Int) x15 ((cnB (KPb J0 l) p : Nat) : Int) (p : Int) (f_X_movesUp_57 fu kk 0 (l : Int) (c : Int) m) J) Q := by
        intro x15
        cases hk : KPb J0 l p with
        | true =>
          obtain ⟨k1, k2⟩ := kp_iff.mp hk
          have hb := h9 p h
          refine xv_keep (fu := fu) l p (cnB (KPb J0 l) p) hl hp4 hle x15 (c : Int) _ J (by rw [f12]; exact k1) (by rw [f9, fr 1 (by decide)]; exact k2) (by rw [f9, fr 1 (by decide)]; exact hb) (fun J2 g => ?_)
          have e1 := cnB_y (P := KPb J0 l) hk
          rw [← e1]
          refine ih (p + 1) x15 J2 h ⟨fun q j hq => ?_, fun p' hp' hk' => ?_⟩
          · rw [e1] at hq
            rw [g, if_neg (by omega), if_neg (by omega), if_neg (by omega), if_neg (by omega)]
            exact v1 q j (by omega)
          · by_cases y : p' = p
            · rw [y, g, if_neg (by omega), if_neg (by omega), if_neg (by omega), if_pos (by omega), show 140 + 6 * (40 * l + p) + (140 + 6 * (40 * l + cnB (KPb J0 l) p) - (140 + 6 * (40 * l + cnB (KPb J0 l) p))) = 140 + 6 * (40 * l + p) + 0 by omega]
              exact fr 0 (by decide)
            · have hlt := cnB_lt (P := KPb J0 l) (show p' < p by omega) hk'
              rw [g, if_neg (by omega), if_neg (by omega), if_neg (by omega), if_neg (by omega)]
              exact v2 p' (by omega) hk'
        | false =>
          have e1 := cnB_n (P := KPb J0 l) hk
          have nxt : par (f_X_movesUp_57 fu kk 0 (l : Int) (c : Int) m x15 ((cnB (KPb J0 l) p : Nat) : Int) ((p + 1 : Nat) : Int) J) Q := by
            have g := ih (p + 1) x15 J h ⟨fun q j hq => v1 q j (by rw [e1] at hq; exact hq), fun p' hp' hk' => ?_⟩
            · rw [e1] at g; exact g
            · by_cases y : p' = p
              · rw [y, hk] at hk'; exact absurd hk' (by decide)
              · exact v2 p' (by omega) hk'
          unfold xDB
          rw [wp.e]
          refine par_zg (fun _ => ?_)
          have z12 : J (0 + 12) ((40 * l + p : Nat) : Int).toNat = J0 12 (40 * l + p) := f12
          rw [z12]
          refine par_ite (fun q => ?_) (fun _ => nxt)
          refine par_zg (fun _ => ?_)
          rw [ev_of1 fu 0 l p J hl hp4, zb_zr]
          have z9 : J (0 + 9) ((40 * l + p : Nat) : Int).toNat = J0 9 (40 * l + p) := f9
          have z1 : J (0 + 1) (140 + 6 * (40 * l + p) + 1) = J0 1 (140 + 6 * (40 * l + p) + 1) := fr 1 (by decide)
          rw [z9, z1]
          by_cases q2 : J0 9 (40 * l + p) = J0 1 (140 + 6 * (40 * l + p) + 1)
          · rw [if_pos q2]; exact nxt
          · have := kp_iff.mpr ⟨q, q2⟩
            rw [hk] at this
            exact absurd this (by decide)
      exact par_ite (fun _ => body _) (fun _ => body _)
    · rw [if_neg (show ¬ (p : Int) < (c : Int) by omega)]
      have : p = c := by omega
      subst this
      exact hend J hV
theorem xn_up (l c : Nat) (hl : l < 6) (hc : c ≤ 40) (J : IMem) (hcJ : J 1 (130 + l) = (c : Int)) (h9 : ∀ p, p < c → 0 ≤ J 9 (40 * l + p) ∧ J 9 (40 * l + p) ≤ J 1 (140 + 6 * (40 * l + p) + 1) ∧ J 1 (140 + 6 * (40 * l + p) + 1) ≤ 8) : par (f_X_movesUp fu 0 (l : Int) J) (fun _ J' => (∀ q j, ¬ (q = 1 ∧ (j = 130 + l ∨ (140 + 240 * l ≤ j ∧ j < 380 + 240 * l))) → J' q j = J q j) ∧ J' 1 (130 + l) = ((cnB (KPb J l) c : Nat) : Int) ∧ ∀ p, p < c → KPb J l p = true → J' 1 (140 + 6 * (40 * l + cnB (KPb J l) p)) = J 1 (140 + 6 * (40 * l + p))) := by
  unfold f_X_movesUp
  have w1 : Wq (wr32 (130 + (l : Int))) ((130 + l : Nat) : Int) := by show wr32 (130 + (l : Int)) = ((130 + l : Nat) : Int); rw [wr32_i2 (by omega) (by omega)]; omega
  simp only [zl_e]
  rw [w1.e]
  refine par_zg (fun _ => ?_)
  have c1 : J (0 + 1) ((130 + l : Nat) : Int).toNat = (c : Int) := hcJ
  rw [c1]
  refine xv_cnt16 (fu := fu) _ l hl c hc J ?_ fu 0 (Nat.zero_le _)
  refine xn_57 _ l c hl hc J h9 (fun J2 hV => ?_) fu 0 (cnt (sf J l) c) J (Nat.zero_le _) ⟨fun _ _ _ => rfl, fun p' hp' => absurd hp' (Nat.not_lt_zero _)⟩
  obtain ⟨v1, v2⟩ := hV
  have hle := cnB_lek (P := KPb J l) c
  refine par_zg (fun _ => par_zw' (fun J3 e3 => par_zr ⟨fun q j hq => ?_, ?_, fun p hp hk => ?_⟩))
  · rw [tn] at e3
    rw [e3, if_neg (by omega)]
    exact v1 q j (by omega)
  · rw [tn] at e3
    rw [e3, if_pos ⟨rfl, rfl⟩]
  · rw [tn] at e3
    rw [e3, if_neg (by omega)]
    exact v2 p hp hk
/-- the lines below l have moved up -/
def XMV (J0 : IMem) (l : Nat) (J : IMem) : Prop := (∀ q j, ¬ (q = 1 ∧ 130 ≤ j ∧ j < 1580) → J q j = J0 q j) ∧ (∀ l', l ≤ l' → l' < 6 → J 1 (130 + l') = J0 1 (130 + l') ∧ ∀ j, 140 + 240 * l' ≤ j → j < 380 + 240 * l' → J 1 j = J0 1 j) ∧ ∀ l', l' < l → J 1 (130 + l') = ((cnB (KPb J0 l') (J0 1 (130 + l')).toNat : Nat) : Int) ∧ ∀ p : Nat, (p : Int) < J0 1 (130 + l') → KPb J0 l' p = true → J 1 (140 + 6 * (40 * l' + cnB (KPb J0 l') p)) = J0 1 (140 + 6 * (40 * l' + p))
theorem xn_266 (kk : IMem → Res) (p1 : Int) (J0 : IMem) (hc : ∀ l, l < 6 → 0 ≤ J0 1 (130 + l) ∧ J0 1 (130 + l) ≤ 40) (h9 : ∀ k, INL J0 k → 0 ≤ J0 9 k ∧ J0 9 k ≤ J0 1 (140 + 6 * k + 1) ∧ J0 1 (140 + 6 * k + 1) ≤ 8) (hend : ∀ J, XMV J0 6 J → par (kk J) Q) : ∀ (m l : Nat) (J : IMem), l ≤ 6 → XMV J0 l J → par (f_X_goesOff_266 fu kk 0 p1 m (l : Int) J) Q := by
  intro m
  induction m with
  | zero => intro _ _ _ _; exact par_none
  | succ m ih =>
    intro l J hl hV
    show par (fb_X_goesOff_266 fu kk 0 p1 (f_X_goesOff_266 fu kk 0 p1 m) (l : Int) J) Q
    unfold fb_X_goesOff_266
    by_cases h : l < 6
    · rw [if_pos (show (l : Int) < 6 by omega)]
      obtain ⟨v1, v2, v3⟩ := hV
      obtain ⟨a1, a2⟩ := v2 l (Nat.le_refl _) h
      obtain ⟨c, hcc⟩ : ∃ c : Nat, J0 1 (130 + l) = (c : Int) := ⟨(J0 1 (130 + l)).toNat, by have := hc l h; omega⟩
      have hc40 : c ≤ 40 := by have := hc l h; omega
      have kpe : ∀ p, p < 40 → KPb J l p = KPb J0 l p := fun p hp => kp_eq (v1 _ _ (by omega)) (v1 _ _ (by omega)) (a2 _ (by omega) (by omega))
      have cne : ∀ p, p ≤ 40 → cnB (KPb J l) p = cnB (KPb J0 l) p := fun p hp => cnB_eq p (fun k hk => kpe k (by omega))
      refine par_zb (xn_up (fu := fu) l c h hc40 J (a1.trans hcc) (fun p hp => ?_)) (fun _ J1 ⟨g1, g2, g3⟩ => ?_)
      · have := h9 (40 * l + p) ⟨by omega, by rw [show (40 * l + p) % 40 = p by omega, show (40 * l + p) / 40 = l by omega, hcc]; omega⟩
        rw [v1 9 _ (by omega), a2 _ (by omega) (by omega)]
        exact this
      have w1 : Wq (wr32 ((l : Int) + 1)) ((l + 1 : Nat) : Int) := by show wr32 ((l : Int) + 1) = ((l + 1 : Nat) : Int); rw [wr32_i2 (by omega) (by omega)]; rfl
      simp only [zl_e]
      rw [w1.e]
      refine ih (l + 1) J1 h ⟨fun q j hq => ?_, fun l' h1 h2 => ⟨?_, fun j h3 h4 => ?_⟩, fun l' h1 => ?_⟩
      · rw [g1 q j (by omega)]; exact v1 q j hq
      · rw [g1 _ _ (by omega)]; exact (v2 l' (by omega) h2).1
      · rw [g1 _ _ (by omega)]; exact (v2 l' (by omega) h2).2 j h3 h4
      · by_cases y : l' = l
        · subst y
          rw [hcc, show ((c : Nat) : Int).toNat = c from rfl]
          refine ⟨by rw [g2, cne c hc40], fun p hp hk => ?_⟩
          have hpc : p < c := by omega
          have g := g3 p hpc (by rw [kpe p (by omega)]; exact hk)
          rw [cne p (by omega)] at g
          rw [g]
          exact a2 _ (by omega) (by omega)
        · obtain ⟨b1, b2⟩ := v3 l' (by omega)
          refine ⟨by rw [g1 _ _ (by omega)]; exact b1, fun p hp hk => ?_⟩
          have hcl := hc l' (by omega)
          have hlt := cnB_lek (P := KPb J0 l') p
          rw [g1 _ _ (by omega)]
          exact b2 p hp hk
    · rw [if_neg (show ¬ (l : Int) < 6 by omega)]
      have : l = 6 := by omega
      subst this
      exact hend J hV
/-- each NUMBER stands once -/
def NUQ (J : IMem) : Prop := ∀ k k', INL J k → INL J k' → J 1 (140 + 6 * k) = J 1 (140 + 6 * k') → k = k'
/-- a NUMBER stands -/
def STD (N : Int) (J : IMem) : Prop := ∃ k, INL J k ∧ J 1 (140 + 6 * k) = N
/-- after the lines have moved up -/
theorem xm_src {J0 J : IMem} (hc : ∀ l, l < 6 → 0 ≤ J0 1 (130 + l) ∧ J0 1 (130 + l) ≤ 40) (h : XMV J0 6 J) : (∀ k, INL J k → ∃ k0, INL J0 k0 ∧ KPb J0 (k0 / 40) (k0 % 40) = true ∧ J 1 (140 + 6 * k) = J0 1 (140 + 6 * k0) ∧ k / 40 = k0 / 40 ∧ k % 40 = cnB (KPb J0 (k0 / 40)) (k0 % 40)) ∧ ∀ k0, INL J0 k0 → KPb J0 (k0 / 40) (k0 % 40) = true → STD (J0 1 (140 + 6 * k0)) J := by
  obtain ⟨v1, v2, v3⟩ := h
  refine ⟨fun k hk => ?_, fun k0 hk hp => ?_⟩
  · obtain ⟨h1, h2⟩ := hk
    have l6 : k / 40 < 6 := by omega
    obtain ⟨b1, b2⟩ := v3 (k / 40) l6
    rw [b1] at h2
    have hcl := hc (k / 40) l6
    obtain ⟨p, p1, p2, p3⟩ := cnB_at (P := KPb J0 (k / 40)) (J0 1 (130 + k / 40)).toNat (k % 40) (by omega)
    have d1 : (40 * (k / 40) + p) / 40 = k / 40 := by omega
    have d2 : (40 * (k / 40) + p) % 40 = p := by omega
    refine ⟨40 * (k / 40) + p, ⟨by omega, by rw [d1, d2]; omega⟩, by rw [d1, d2]; exact p2, ?_, d1.symm, by rw [d1, d2]; exact p3.symm⟩
    have g := b2 p (by omega) p2
    rw [p3, show 40 * (k / 40) + k % 40 = k by omega] at g
    exact g
  · obtain ⟨h1, h2⟩ := hk
    have l6 : k0 / 40 < 6 := by omega
    obtain ⟨b1, b2⟩ := v3 (k0 / 40) l6
    have hcl := hc (k0 / 40) l6
    have hlt : cnB (KPb J0 (k0 / 40)) (k0 % 40) < cnB (KPb J0 (k0 / 40)) (J0 1 (130 + k0 / 40)).toNat := cnB_lt (by omega) hp
    have hle := cnB_lek (P := KPb J0 (k0 / 40)) (k0 % 40)
    have d1 : (40 * (k0 / 40) + cnB (KPb J0 (k0 / 40)) (k0 % 40)) / 40 = k0 / 40 := by omega
    have d2 : (40 * (k0 / 40) + cnB (KPb J0 (k0 / 40)) (k0 % 40)) % 40 = cnB (KPb J0 (k0 / 40)) (k0 % 40) := by omega
    refine ⟨40 * (k0 / 40) + cnB (KPb J0 (k0 / 40)) (k0 % 40), ⟨by omega, by rw [d1, d2, b1]; omega⟩, ?_⟩
    have g := b2 (k0 % 40) (by omega) hp
    rw [show 40 * (k0 / 40) + k0 % 40 = k0 by omega] at g
    exact g
/-- the first i of those found out came behind LINE 0, or went away -/
def GNV (J0 J1 : IMem) (i : Nat) (J : IMem) : Prop :=
  (∀ q j, ¬ (q = 1 ∧ (j = 76 ∨ (130 ≤ j ∧ j < 1580))) → ¬ (q = 0 ∧ j = 24) → J q j = J1 q j) ∧ (∀ l, l < 6 → 0 ≤ J 1 (130 + l) ∧ J 1 (130 + l) ≤ 40) ∧
  (∀ k, INL J k → ∃ k0, INL J0 k0 ∧ J 1 (140 + 6 * k) = J0 1 (140 + 6 * k0) ∧ (KPb J0 (k0 / 40) (k0 % 40) = true ∨ ∃ i' : Nat, i' < i ∧ J0 10 i' = (k0 : Int))) ∧
  NUQ J ∧
  (∀ k0, INL J0 k0 → KPb J0 (k0 / 40) (k0 % 40) = true → STD (J0 1 (140 + 6 * k0)) J) ∧
  (∀ i' k0 : Nat, i' < i → J0 10 i' = (k0 : Int) → STD (J0 1 (140 + 6 * k0)) J ∨ (J0 1 (140 + 6 * k0) = J0 0 23 → J 0 24 ≠ 0)) ∧
  (J 0 24 ≠ 0 → J0 0 24 ≠ 0 ∨ ∃ i' k0 : Nat, i' < i ∧ J0 10 i' = (k0 : Int) ∧ J0 1 (140 + 6 * k0) = J0 0 23 ∧ ¬ STD (J0 0 23) J)
theorem xn_285 (kk : IMem → Res) (p1 : Int) {J0 J1 : IMem} (hS : CVS J0) (hU : NUQ J0) {n : Nat} (h32 : J0 0 32 = (n : Int)) (hn : n ≤ 240) (j32 : J1 0 32 = (n : Int)) (j23 : J1 0 23 = J0 0 23) (hout : ∀ i k : Nat, i < n → J0 10 i = (k : Int) → J1 14 (6 * i) = J0 1 (140 + 6 * k)) (hend : ∀ J, GNV J0 J1 n J → par (kk J) Q) : ∀ (m i : Nat) (J : IMem), i ≤ n → GNV J0 J1 i J → par (f_X_goesOff_285 fu kk 0 p1 m (i : Int) J) Q := by
  intro m
  induction m with
  | zero => intro _ _ _ _; exact par_none
  | succ m ih =>
    intro i J hi hV
    have hV' := hV
    obtain ⟨v1, v2, va, vb, vc, vd, ve⟩ := hV'
    show par (fb_X_goesOff_285 fu kk 0 p1 (f_X_goesOff_285 fu kk 0 p1 m) (i : Int) J) Q
    unfold fb_X_goesOff_285
    have i32 : J 0 32 = (n : Int) := (v1 0 32 (by omega) (by omega)).trans j32
    rw [i32]
    by_cases h : i < n
    · rw [if_pos (show (i : Int) < (n : Int) by omega)]
      have w0 : Wq (wr32 (6 * (i : Int))) ((6 * i : Nat) : Int) := by show wr32 (6 * (i : Int)) = ((6 * i : Nat) : Int); rw [wr32_i2 (by omega) (by omega)]; omega
      have wn : Wq (wr32 ((i : Int) + 1)) ((i + 1 : Nat) : Int) := by show wr32 ((i : Int) + 1) = ((i + 1 : Nat) : Int); rw [wr32_i2 (by omega) (by omega)]; rfl
      simp only [zl_e]
      rw [w0.e, wn.e]
      refine par_zg (fun _ => par_zg (fun _ => par_zg (fun _ => par_zg (fun _ => par_zg (fun _ => par_zg (fun _ => ?_))))))
      obtain ⟨k, k1, k2, k3⟩ := hS.2.2.2.2.1 i (by rw [h32]; omega)
      have on : J (0 + 14) ((6 * i : Nat) : Int).toNat = J0 1 (140 + 6 * k) := by
        show J 14 (6 * i) = _
        rw [v1 14 _ (by omega) (by omega)]; exact hout i k h k2
      rw [on]
      have kd := hS.2.2.1 k k1.1 k3
      have nkp : KPb J0 (k / 40) (k % 40) ≠ true := fun q => by
        have := (kp_iff.mp q).1
        rw [show 40 * (k / 40) + k % 40 = k by omega] at this
        exact k3 this
      have nst : ¬ STD (J0 1 (140 + 6 * k)) J := by
        rintro ⟨k', q1, q2⟩
        obtain ⟨k0, r1, r2, r3⟩ := va k' q1
        have e : k0 = k := hU k0 k r1 k1 (r2.symm.trans q2)
        subst e
        rcases r3 with r3 | ⟨i', r4, r5⟩
        · exact nkp r3
        · have := hS.2.2.2.2.2 i' i (by rw [h32]; omega) (by rw [h32]; omega) (r5.trans k2.symm)
          omega
      have oth : ∀ i' k' : Nat, i' < i → J0 10 i' = (k' : Int) → J0 1 (140 + 6 * k') ≠ J0 1 (140 + 6 * k) := fun i' k' q1 q2 q3 => by
        obtain ⟨k2', s1, s2, _⟩ := hS.2.2.2.2.1 i' (by rw [h32]; omega)
        have e1 : k2' = k' := by omega
        subst e1
        have e : k2' = k := hU k2' k s1 k1 q3
        subst e
        have := hS.2.2.2.2.2 i' i (by rw [h32]; omega) (by rw [h32]; omega) (q2.trans k2.symm)
        omega
      have z0 : f_X_stands fu 0 0 (J0 1 (140 + 6 * k)) = f_X_stands fu 0 ((0 : Nat) : Int) (J0 1 (140 + 6 * k)) := rfl
      rw [z0]
      refine par_zb (xv_stands (fu := fu) (l := 0) (by decide) (v2 0 (by decide))) (fun v J2 g => ?_)
      have c23 : J 0 23 = J0 0 23 := (v1 0 23 (by omega) (by omega)).trans j23
      rcases g with ⟨_, g2, g3, _, g5⟩ | ⟨_, g2, g3⟩
      · -- LINE 0 is full
        have w : ∀ j, j ≠ 76 → J2 1 j = J 1 j := fun j hj => g3 1 j (by omega) (by omega)
        have cw : ∀ l, l < 6 → J2 1 (130 + l) = J 1 (130 + l) := fun l hl => w _ (by omega)
        have cw' : ∀ l, l < 6 → J 1 (130 + l) = J2 1 (130 + l) := fun l hl => (cw l hl).symm
        have st : ∀ N, STD N J2 ↔ STD N J := fun N => ⟨fun ⟨k', a, b⟩ => ⟨k', inl_to cw' a, by rw [← b]; exact (w _ (by omega)).symm⟩, fun ⟨k', a, b⟩ => ⟨k', inl_to cw a, by rw [← b]; exact w _ (by omega)⟩⟩
        rw [c23] at g5
        refine ih (i + 1) J2 h ⟨fun q j a b => (g3 q j (by omega) (by omega)).trans (v1 q j a b), fun l hl => by rw [cw l hl]; exact v2 l hl, fun k' hk' => ?_, fun k' k'' a b e => ?_, fun k0 a b => (st _).mpr (vc k0 a b), fun i' k0 a b => ?_, fun hne => ?_⟩
        · obtain ⟨k0, r1, r2, r3⟩ := va k' (inl_to cw' hk')
          refine ⟨k0, r1, (w _ (by omega)).trans r2, ?_⟩
          rcases r3 with r3 | ⟨i', r4, r5⟩
          · exact Or.inl r3
          · exact Or.inr ⟨i', by omega, r5⟩
        · rw [w _ (by omega), w _ (by omega)] at e
          exact vb k' k'' (inl_to cw' a) (inl_to cw' b) e
        · by_cases y : i' = i
          · subst y
            have e : k0 = k := by omega
            subst e
            exact Or.inr (fun q z => (g5.mp z).2 q)
          · rcases vd i' k0 (by omega) b with x | x
            · exact Or.inl ((st _).mpr x)
            · exact Or.inr (fun q z => x q (g5.mp z).1)
        · by_cases y : J 0 24 = 0
          · have e : J0 1 (140 + 6 * k) = J0 0 23 := Classical.byContradiction (fun q => hne (g5.mpr ⟨y, q⟩))
            exact Or.inr ⟨i, k, by omega, k2, e, fun z => nst (by rw [e]; exact (st _).mp z)⟩
          · rcases ve y with x | ⟨i', k0, x1, x2, x3, x4⟩
            · exact Or.inl x
            · exact Or.inr ⟨i', k0, by omega, x2, x3, fun z => x4 ((st _).mp z)⟩
      · -- one more behind LINE 0
        obtain ⟨r, hr⟩ : ∃ r : Nat, J 1 (130 + 0) = (r : Int) := ⟨(J 1 (130 + 0)).toNat, by have := v2 0 (by decide); omega⟩
        have r40 : r < 40 := by omega
        rw [hr, show ((r : Nat) : Int).toNat = r from rfl] at g3
        have c0 : J2 1 (130 + 0) = (r : Int) + 1 := by rw [g3, if_pos ⟨rfl, rfl⟩]
        have cl : ∀ l, l ≠ 0 → l < 6 → J2 1 (130 + l) = J 1 (130 + l) := fun l h0 hl => by rw [g3, if_neg (by omega), if_neg (by omega)]
        have nr : J2 1 (140 + 6 * r) = J0 1 (140 + 6 * k) := by
          rw [g3, if_neg (by omega), if_pos (by omega), show 140 + 6 * r - (140 + 6 * (40 * 0 + r)) = 0 by omega]
          rfl
        have no : ∀ k', k' ≠ r → k' < 240 → J2 1 (140 + 6 * k') = J 1 (140 + 6 * k') := fun k' hk' _ => by rw [g3, if_neg (by omega), if_neg (by omega)]
        have inr1 : INL J2 r := ⟨by omega, by rw [show r % 40 = r by omega, show r / 40 = 0 by omega, c0]; omega⟩
        have up1 : ∀ k', INL J k' → INL J2 k' ∧ k' ≠ r := fun k' hk' => by
          obtain ⟨a, b⟩ := hk'
          by_cases y : k' / 40 = 0
          · rw [y, hr] at b
            exact ⟨⟨a, by rw [y, c0]; omega⟩, by omega⟩
          · exact ⟨⟨a, by rw [cl _ y (by omega)]; exact b⟩, by omega⟩
        have dn1 : ∀ k', INL J2 k' → k' = r ∨ INL J k' := fun k' hk' => by
          obtain ⟨a, b⟩ := hk'
          by_cases y : k' / 40 = 0
          · rw [y, c0] at b
            by_cases e : k' = r
            · exact Or.inl e
            · exact Or.inr ⟨a, by rw [y, hr]; omega⟩
          · rw [cl _ y (by omega)] at b
            exact Or.inr ⟨a, b⟩
        have st1 : ∀ N, STD N J → STD N J2 := fun N ⟨k', a, b⟩ => ⟨k', (up1 k' a).1, by rw [no k' (up1 k' a).2 a.1]; exact b⟩
        have st2 : ∀ N, STD N J2 → STD N J ∨ N = J0 1 (140 + 6 * k) := fun N ⟨k', a, b⟩ => by
          rcases dn1 k' a with e | e
          · rw [e, nr] at b; exact Or.inr b.symm
          · rw [no k' (up1 k' e).2 e.1] at b; exact Or.inl ⟨k', e, b⟩
        have c24 : J2 0 24 = J 0 24 := by rw [g3, if_neg (by omega), if_neg (by omega)]
        refine ih (i + 1) J2 h ⟨fun q j a b => ?_, fun l hl => ?_, fun k' hk' => ?_, fun k' k'' a b e => ?_, fun k0 a b => st1 _ (vc k0 a b), fun i' k0 a b => ?_, fun hne => ?_⟩
        · rw [g3, if_neg (by omega), if_neg (by omega)]; exact v1 q j a b
        · by_cases y : l = 0
          · rw [y, c0]; omega
          · rw [cl l y hl]; exact v2 l hl
        · rcases dn1 k' hk' with e | e
          · exact ⟨k, k1, by rw [e]; exact nr, Or.inr ⟨i, by omega, k2⟩⟩
          · obtain ⟨k0, r1, r2, r3⟩ := va k' e
            refine ⟨k0, r1, by rw [no k' (up1 k' e).2 e.1]; exact r2, ?_⟩
            rcases r3 with r3 | ⟨i', r4, r5⟩
            · exact Or.inl r3
            · exact Or.inr ⟨i', by omega, r5⟩
        · rcases dn1 k' a with y | y
          · rcases dn1 k'' b with y2 | y2
            · rw [y, y2]
            · rw [y, nr, no k'' (up1 k'' y2).2 y2.1] at e
              exact absurd ⟨k'', y2, e.symm⟩ nst
          · rcases dn1 k'' b with y2 | y2
            · rw [y2, nr, no k' (up1 k' y).2 y.1] at e
              exact absurd ⟨k', y, e⟩ nst
            · rw [no k' (up1 k' y).2 y.1, no k'' (up1 k'' y2).2 y2.1] at e
              exact vb k' k'' y y2 e
        · by_cases y : i' = i
          · subst y
            have e : k0 = k := by omega
            subst e
            exact Or.inl ⟨r, inr1, nr⟩
          · rcases vd i' k0 (by omega) b with x | x
            · exact Or.inl (st1 _ x)
            · exact Or.inr (fun q => by rw [c24]; exact x q)
        · rw [c24] at hne
          rcases ve hne with x | ⟨i', k0, x1, x2, x3, x4⟩
          · exact Or.inl x
          · refine Or.inr ⟨i', k0, by omega, x2, x3, fun z => ?_⟩
            rcases st2 _ z with z2 | z2
            · exact x4 z2
            · exact oth i' k0 x1 x2 (x3.trans z2)
    · rw [if_neg (show ¬ (i : Int) < (n : Int) by omega)]
      have : i = n := by omega
      subst this
      exact hend J hV
end
