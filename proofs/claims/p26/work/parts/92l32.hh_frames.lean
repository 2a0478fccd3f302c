/-! calls that leave the state as it is -/
section
variable {fu : Nat} {I J : IMem}
/-- what the relation reads of the class's, of the reference's objects -/
def NSQ (q j : Nat) : Prop := ¬ ((q = 0 ∧ j = 8) ∨ (1 ≤ q ∧ q ≤ 80 ∧ q ≠ 14 ∧ ¬ (16 ≤ q ∧ q ≤ 40 ∧ q % 5 = 0)) ∨ (q = 96 ∧ (j = 4 ∨ j = 5)) ∨ (137 ≤ q ∧ q ≤ 140) ∨ q = 144 ∨ q = 145 ∨ (q = 151 ∧ j = 0))
def NSO (q : Nat) : Prop := ¬ (q = 0 ∨ (1 ≤ q ∧ q ≤ 80 ∧ q ≠ 14 ∧ ¬ (16 ≤ q ∧ q ≤ 40 ∧ q % 5 = 0)) ∨ q = 96 ∨ (137 ≤ q ∧ q ≤ 140) ∨ q = 144 ∨ q = 145 ∨ q = 151)
def NXQ (q j : Nat) : Prop := ¬ ((q = 0 ∧ (j = 3 ∨ j = 12 ∨ j = 19 ∨ j = 21 ∨ j = 22 ∨ j = 35)) ∨ q = 1 ∨ q = 2 ∨ q = 6 ∨ q = 13 ∨ q = 15)
def NXS (q j : Nat) : Prop := ¬ ((q = 0 ∧ (j = 3 ∨ j = 12 ∨ j = 19 ∨ j = 21 ∨ j = 22)) ∨ q = 2 ∨ q = 6)
def NXW (q j : Nat) : Prop := ¬ ((q = 0 ∧ (j = 3 ∨ j = 12 ∨ j = 19 ∨ j = 21)) ∨ q = 2 ∨ q = 6)
theorem rj_fo {I' J' : IMem} (h : RJ I J) (h1 : ∀ q, ¬ NSO q → I' q = I q) (h2 : ∀ q j, ¬ NXQ q j → J' q j = J q j) : RJ I' J' := by
  refine rj_same h (fun q j hq => ?_) (fun q j hq => h2 q j (fun z => z (by omega)))
  exact congrFun (h1 q (fun z => z (by omega))) j
theorem rj_sa {I' J' : IMem} (h : RJ I J) (h1 : ∀ q j, ¬ NSQ q j → I' q j = I q j) (hs : SA 0 J J') (h2 : ∀ q j, ¬ NXS q j → J' q j = J q j) : RJ I' J' := by
  obtain ⟨s1, s13, s15, s35⟩ := hs
  have w1 : ∀ q j, ((q = 0 ∧ j = 8) ∨ (1 ≤ q ∧ q ≤ 80 ∧ q ≠ 14 ∧ ¬ (16 ≤ q ∧ q ≤ 40 ∧ q % 5 = 0)) ∨ (q = 96 ∧ (j = 4 ∨ j = 5)) ∨ (137 ≤ q ∧ q ≤ 140) ∨ q = 144 ∨ q = 145 ∨ (q = 151 ∧ j = 0)) → I' q j = I q j := fun q j hq => h1 q j (fun z => z hq)
  have w2 : ∀ q j, ((q = 0 ∧ (j = 3 ∨ j = 12 ∨ j = 19 ∨ j = 21 ∨ j = 22)) ∨ q = 2 ∨ q = 6) → J' q j = J q j := fun q j hq => h2 q j (fun z => z hq)
  have x1 : ∀ j, j < 6190 → J' 1 j = J 1 j := s1
  have x13 : ∀ j, j < 240 → J' 13 j = J 13 j := s13
  have x15 : ∀ j, j < 8 → J' 15 j = J 15 j := s15
  have h' := h
  obtain ⟨⟨hR, hz, hA⟩, a, b, c, d, e, ⟨L, t1, t2, t3, t4⟩, f⟩ := h'
  refine rj_mv h ⟨hr_mv hR (fun d j q => w1 _ _ (by unfold CH at q; omega)) x1, ?_, ?_, ?_⟩ (w1 _ _ (by omega)) (fun q j q => w1 _ _ (by omega)) (fun q j q => w2 _ _ (by omega)) (pk_mv e (fun q j q => w1 _ _ (by omega)) (fun q j hq => ?_) (fun k hk => ?_)) ⟨L, t1, ?_, ?_, fun j hj => ?_⟩ ⟨?_, ?_⟩
  · rw [w1 _ _ (by omega), w2 _ _ (by omega)]; exact hz
  · rw [w1 _ _ (by omega)]; exact hA.1
  · rw [w1 _ _ (by omega)]; exact hA.2
  · rcases hq with ⟨rfl, hq⟩ | ⟨rfl, hq⟩ | ⟨rfl, rfl⟩ | ⟨rfl, rfl⟩
    · exact x13 j hq
    · exact x15 j hq
    · exact s35
    · exact x1 1 (by decide)
  · have k1 := hk.1
    exact ⟨⟨k1, by rw [x1 _ (by omega)]; exact hk.2⟩, x1 _ (by omega), x1 _ (by omega)⟩
  · rw [w1 _ _ (by omega)]; exact t2
  · rw [w2 _ _ (by omega)]; exact t3
  · rw [w1 _ _ (by omega), w2 _ _ (by omega)]; exact t4 j hj
  · rw [w1 _ _ (by omega), w2 _ _ (by omega)]; exact f.1
  · rw [w1 _ _ (by omega), w2 _ _ (by omega)]; exact f.2
/-- the class by whole objects -/
theorem rj_so {I' J' : IMem} (h : RJ I J) (h1 : ∀ q, ¬ NSO q → I' q = I q) (hs : SA 0 J J') (h2 : ∀ q j, ¬ NXS q j → J' q j = J q j) : RJ I' J' := rj_sa h (fun q j hq => congrFun (h1 q (fun z => hq (fun y => z (by unfold NSO at *; omega)))) j) hs h2
/-- after which, the law of the choice is the hill's own again -/
theorem xw_loop {Q : Int → IMem → Prop} (kk : Int → Int → Int → IMem → Res) (a b : Int) (hk : ∀ x y z I, par (kk x y z I) Q) : ∀ (m : Nat) (w3 w4 w5 w6 : Int) (I : IMem), par (f_X_which_32 fu kk 0 a b m w3 w4 w5 w6 I) Q := by
  intro m
  induction m with
  | zero => intro _ _ _ _ _; exact par_none
  | succ m ih =>
    intro w3 w4 w5 w6 I
    show par (fb_X_which_32 fu kk 0 a b (f_X_which_32 fu kk 0 a b m) w3 w4 w5 w6 I) _
    unfold fb_X_which_32
    simp only [zl_e, zj_e]
    refine par_ite (fun _ => par_zw' (fun I1 _ => par_zb (Q1 := fun _ _ => True) (fun _ _ _ => trivial) (fun _ I2 _ => ?_))) (fun _ => hk _ _ _ _)
    exact par_ite (fun _ => ih _ _ _ _ _) (fun _ => par_ite (fun _ => ih _ _ _ _ _) (fun _ => par_ite (fun _ => par_ite (fun _ => ih _ _ _ _ _) (fun _ => ih _ _ _ _ _)) (fun _ => ih _ _ _ _ _)))
theorem xw_22 (a b : Int) (h : J 0 22 = -1) : par (f_X_which fu 0 a b J) (fun _ J' => J' 0 22 = -1) := by
  unfold f_X_which
  rw [ev_isIn, zb_zr]
  refine par_ite (fun _ => par_zr h) (fun _ => ?_)
  rw [ev_isIn, zb_zr]
  refine par_ite (fun _ => par_zr h) (fun _ => ?_)
  refine xw_loop _ a b (fun x y z I => ?_) fu _ _ _ _ J
  refine par_zw' (fun I1 e1 => ?_)
  have g : I1 0 22 = -1 := by rw [e1, if_pos ⟨rfl, rfl⟩]
  exact par_ite (fun _ => par_zr g) (fun _ => par_ite (fun _ => par_zr g) (fun _ => par_zr g))
/-- look gives back the line that it tried -/
theorem xl_look (a : Int) (hs : ∀ l : Nat, l < 6 → 1 ≤ J 1 (10 + l) ∧ J 1 (10 + l) ≤ 24) (hb : ∀ (J1 : IMem) (y : Int) (J2 : IMem), f_X_best fu 0 0 J1 = some (y, J2) → ∀ q j, ¬ NXQ q j → J2 q j = J1 q j) : par (f_X_look fu 0 a J) (fun _ J' => ∀ q j, ¬ NXQ q j → J' q j = J q j) := by
  unfold f_X_look
  rw [ev_xLine, zb_zr]
  by_cases h1 : 0 ≤ a ∧ a < 6
  · rw [if_pos h1, if_neg ne10]
    obtain ⟨l, rfl⟩ : ∃ l : Nat, a = (l : Int) := ⟨a.toNat, by omega⟩
    have w10 : Wq (wr32 (10 + (l : Int))) (((10 + l : Nat) : Int)) := by show wr32 (10 + (l : Int)) = ((10 + l : Nat) : Int); rw [wr32_i2 (by omega) (by omega)]; omega
    have hl := hs l (by omega)
    simp only [zl_e]
    rw [w10.e]
    refine par_zg (fun _ => par_ite (fun _ => par_zr (fun _ _ _ => rfl)) (fun _ => ?_))
    refine par_zb (Q1 := fun _ J1 => ∀ q j, ¬ NXQ q j → J1 q j = J q j) (fun y J1 e => hb J y J1 e) (fun _ J1 g1 => ?_)
    have o1 : ∀ j, ¬ NXQ 1 j := fun j z => z (by omega)
    refine par_zg (fun _ => par_zg (fun _ => par_zw' (fun J2 e2 => ?_)))
    refine par_zb (Q1 := fun _ J3 => ∀ q j, ¬ NXQ q j → J3 q j = J2 q j) (fun y J3 e => hb J2 y J3 e) (fun _ J3 g3 => ?_)
    refine par_zg (fun _ => par_zg (fun _ => par_zw' (fun J4 e4 => par_zr (fun q j hq => ?_))))
    have v1 : J1 (0 + 1) ((10 + l : Nat) : Int).toNat = J 1 (10 + l) := g1 1 (10 + l) (o1 _)
    have v2 : J2 1 (10 + l) = J 1 (10 + l) + 1 := by
      rw [e2, if_pos ⟨rfl, rfl⟩, v1, wr32_i2 (by omega) (by omega)]
    have v3 : J3 (0 + 1) ((10 + l : Nat) : Int).toNat = J 1 (10 + l) + 1 := (g3 1 (10 + l) (o1 _)).trans v2
    rw [e4]
    by_cases y : q = 1 ∧ j = 10 + l
    · rw [if_pos (show q = 0 + 1 ∧ j = ((10 + l : Nat) : Int).toNat from y), v3, wr32_i2 (by omega) (by omega), y.1, y.2]
      omega
    · rw [if_neg (show ¬ (q = 0 + 1 ∧ j = ((10 + l : Nat) : Int).toNat) from y), g3 q j hq, e2, if_neg (show ¬ (q = 0 + 1 ∧ j = ((10 + l : Nat) : Int).toNat) from y)]
      exact g1 q j hq
  · rw [if_neg h1, if_pos eq00]
    exact par_zr (fun _ _ _ => rfl)
end
