/-! the lines move up, on both sides -/
section
variable {fu : Nat} {Q : Int → IMem → Prop}
/-- the rearmost of a line that sits -/
def REAR (mk : Nat → Int) (c : Int) (R : Int) : Prop := (R = -1 ∧ ∀ p : Nat, (p : Int) < c → ¬ (mk p = 1 ∨ mk p = 3)) ∨ ∃ r : Nat, R = (r : Int) ∧ (r : Int) < c ∧ (mk r = 1 ∨ mk r = 3) ∧ ∀ p : Nat, r < p → (p : Int) < c → ¬ (mk p = 1 ∨ mk p = 3)
theorem cv_rear9 (o1 l : Nat) (hl : l < 6) (c : Int) (hc : 0 ≤ c ∧ c ≤ 40) (I : IMem) : ∀ (m j : Nat), (j : Int) ≤ c → (∀ p : Nat, j ≤ p → (p : Int) < c → ¬ (I o1 (40 * l + p) = 1 ∨ I o1 (40 * l + p) = 3)) → par (f_L_rearmostSitting_9 fu o1 240 (l : Int) m ((j : Int) - 1) I) (fun v I' => I' = I ∧ REAR (fun p => I o1 (40 * l + p)) c v) := by
  intro m
  induction m with
  | zero => intro _ _ _; exact par_none
  | succ m ih =>
    intro j hj hn
    show par (fb_L_rearmostSitting_9 fu o1 240 (l : Int) (f_L_rearmostSitting_9 fu o1 240 (l : Int) m) ((j : Int) - 1) I) _
    unfold fb_L_rearmostSitting_9
    cases j with
    | zero =>
      rw [if_pos (by omega)]
      exact par_zr ⟨rfl, Or.inl ⟨rfl, fun p hp => hn p (Nat.zero_le _) hp⟩⟩
    | succ j =>
      have e1 : ((j + 1 : Nat) : Int) - 1 = (j : Int) := by omega
      rw [e1, if_neg (by omega)]
      have w1 : Wq (wr32 (wr32 ((l : Int) * 40) + (j : Int))) (((40 * l + j : Nat) : Int)) := by show wr32 (wr32 ((l : Int) * 40) + (j : Int)) = ((40 * l + j : Nat) : Int); rw [wr32_i2 (x := (l : Int) * 40) (by omega) (by omega), wr32_i2 (by omega) (by omega)]; omega
      have w2 : Wq (wr32 ((j : Int) + -1)) ((j : Int) - 1) := by show wr32 ((j : Int) + -1) = (j : Int) - 1; rw [wr32_i2 (by omega) (by omega)]; omega
      simp only [zl_e, zj_e]
      rw [w1.e, w2.e, if_pos (by omega)]
      refine par_zg (fun _ => ?_)
      show par (if I o1 (40 * l + j) = 1 then _ else _) _
      have yes : (I o1 (40 * l + j) = 1 ∨ I o1 (40 * l + j) = 3) → par (zr (j : Int) I) (fun v I' => I' = I ∧ REAR (fun p => I o1 (40 * l + p)) c v) := fun h => par_zr ⟨rfl, Or.inr ⟨j, rfl, by omega, h, fun p h1 h2 => hn p (by omega) h2⟩⟩
      refine par_ite (fun q => yes (Or.inl q)) (fun q => par_zg (fun _ => ?_))
      show par (if I o1 (40 * l + j) = 3 then _ else _) _
      refine par_ite (fun q2 => yes (Or.inr q2)) (fun q2 => ih j (by omega) (fun p h1 h2 => ?_))
      by_cases z : p = j
      · subst z; exact fun y => y.elim q q2
      · exact hn p (by omega) h2
theorem cv_rear (o o1 l : Nat) (hl : l < 6) (I : IMem) (hc : 0 ≤ I (o + 2) l ∧ I (o + 2) l ≤ 40) : par (f_L_rearmostSitting fu o o1 240 (l : Int) I) (fun v I' => I' = I ∧ REAR (fun p => I o1 (40 * l + p)) (I (o + 2) l) v) := by
  unfold f_L_rearmostSitting
  refine par_zg (fun _ => ?_)
  simp only [zl_e]
  rw [show ((l : Nat) : Int).toNat = l from rfl, wr32_i2 (x := I (o + 2) l - 1) (by omega) (by omega)]
  have e : I (o + 2) l - 1 = (((I (o + 2) l).toNat : Nat) : Int) - 1 := by omega
  have g := cv_rear9 (fu := fu) o1 l hl (I (o + 2) l) hc I fu (I (o + 2) l).toNat (by omega) (fun p h1 h2 => by omega)
  rw [← e] at g
  exact g
/-- how many sit behind -/
def sf (J : IMem) (l : Nat) : Nat → Int := fun p => if 0 < J 9 (40 * l + p) then 1 else 0
theorem xv_cnt16 (kk : Int → IMem → Res) (l : Nat) (hl : l < 6) (c : Nat) (hc : c ≤ 40) (J : IMem) (hk : par (kk (cnt (sf J l) c) J) Q) : ∀ (m p : Nat), p ≤ c → par (f_X_movesUp_16 fu kk 0 (l : Int) (c : Int) m (cnt (sf J l) p) (p : Int) J) Q := by
  intro m
  induction m with
  | zero => intro _ _; exact par_none
  | succ m ih =>
    intro p hp
    show par (fb_X_movesUp_16 fu kk 0 (l : Int) (c : Int) (f_X_movesUp_16 fu kk 0 (l : Int) (c : Int) m) (cnt (sf J l) p) (p : Int) J) Q
    unfold fb_X_movesUp_16
    have nn := cnt_nn (sf J l) p
    by_cases h : p < c
    · rw [if_pos (by omega)]
      have w1 : Wq (wr32 (wr32 (40 * (l : Int)) + (p : Int))) (((40 * l + p : Nat) : Int)) := by show wr32 (wr32 (40 * (l : Int)) + (p : Int)) = ((40 * l + p : Nat) : Int); rw [wr32_i2 (x := 40 * (l : Int)) (by omega) (by omega), wr32_i2 (by omega) (by omega)]; omega
      have wn : Wq (wr32 ((p : Int) + 1)) (((p + 1 : Nat) : Int)) := by show wr32 ((p : Int) + 1) = ((p + 1 : Nat) : Int); rw [wr32_i2 (by omega) (by omega)]; rfl
      simp only [zl_e, zj_e, Nat.zero_add]
      rw [w1.e, wn.e]
      refine par_zg (fun _ => ?_)
      rw [show ((40 * l + p : Nat) : Int).toNat = 40 * l + p from rfl]
      have g := ih (p + 1) h
      have e : cnt (sf J l) (p + 1) = cnt (sf J l) p + (if sf J l p = 0 then 0 else 1) := rfl
      rw [e] at g
      unfold sf at g
      refine par_ite (fun q => ?_) (fun q => ?_)
      · rw [if_pos q, if_neg (by decide)] at g
        rw [wr32_i2 (by omega) (by omega)]
        exact g
      · rw [if_neg q, if_pos rfl] at g
        rw [wr32_i2 (by omega) (by omega)]
        exact g
    · rw [if_neg (by omega)]
      have : p = c := by omega
      subst this
      exact hk
/-- a row is copied forward -/
theorem xv_copy (kk : IMem → Res) (l p t : Nat) (hl : l < 6) (hp : p < 40) (ht : t ≤ p) (p2 p3 p4 p6 : Int) (J0 : IMem) (hk : ∀ J : IMem, (∀ q j, J q j = if q = 1 ∧ 140 + 6 * (40 * l + t) ≤ j ∧ j < 140 + 6 * (40 * l + t) + 6 then J0 1 (140 + 6 * (40 * l + p) + (j - (140 + 6 * (40 * l + t)))) else J0 q j) → par (kk J) Q) : ∀ (m f : Nat) (J : IMem), f ≤ 6 → (∀ q j, J q j = if q = 1 ∧ 140 + 6 * (40 * l + t) ≤ j ∧ j < 140 + 6 * (40 * l + t) + f then J0 1 (140 + 6 * (40 * l + p) + (j - (140 + 6 * (40 * l + t)))) else J0 q j) → par (f_X_movesUp_132 fu kk 0 (l : Int) p2 p3 p4 (p : Int) p6 ((140 + 6 * (40 * l + t) : Nat) : Int) m (f : Int) J) Q := by
  intro m
  induction m with
  | zero => intro _ _ _ _; exact par_none
  | succ m ih =>
    intro f J hf hJ
    show par (fb_X_movesUp_132 fu kk 0 (l : Int) p2 p3 p4 (p : Int) p6 ((140 + 6 * (40 * l + t) : Nat) : Int) (f_X_movesUp_132 fu kk 0 (l : Int) p2 p3 p4 (p : Int) p6 ((140 + 6 * (40 * l + t) : Nat) : Int) m) (f : Int) J) Q
    unfold fb_X_movesUp_132
    by_cases h : f < 6
    · rw [if_pos (by omega), ev_of fu 0 l p f J hl hp h, zb_zr]
      have w1 : Wq (wr32 (((140 + 6 * (40 * l + t) : Nat) : Int) + (f : Int))) (((140 + 6 * (40 * l + t) + f : Nat) : Int)) := by show wr32 (((140 + 6 * (40 * l + t) : Nat) : Int) + (f : Int)) = ((140 + 6 * (40 * l + t) + f : Nat) : Int); rw [wr32_i2 (by omega) (by omega)]; omega
      have wn : Wq (wr32 ((f : Int) + 1)) (((f + 1 : Nat) : Int)) := by show wr32 ((f : Int) + 1) = ((f + 1 : Nat) : Int); rw [wr32_i2 (by omega) (by omega)]; rfl
      simp only [zl_e, Nat.zero_add]
      rw [w1.e, wn.e]
      refine par_zg (fun _ => par_zw' (fun J1 e1 => ih (f + 1) J1 h (fun q j => ?_)))
      rw [show ((140 + 6 * (40 * l + t) + f : Nat) : Int).toNat = 140 + 6 * (40 * l + t) + f from rfl] at e1
      rw [e1]
      by_cases z : q = 1 ∧ j = 140 + 6 * (40 * l + t) + f
      · rw [if_pos z, if_pos (by omega), hJ, if_neg (by omega), z.2]
        exact congrArg _ (by omega)
      · rw [if_neg z, hJ]
        by_cases y : q = 1 ∧ 140 + 6 * (40 * l + t) ≤ j ∧ j < 140 + 6 * (40 * l + t) + f
        · rw [if_pos y, if_pos (by omega)]
        · rw [if_neg y, if_neg (by omega)]
    · rw [if_neg (by omega)]
      have : f = 6 := by omega
      subst this
      exact hk J hJ
end
theorem pq_ofr {Q : Int → IMem → Int → IMem → Prop} {m1 m2 : Res} (h : ∀ x I, m1 = some (x, I) → par m2 (fun y J => Q x I y J)) : pq m1 m2 Q := fun x I y J e1 e2 => h x I e1 y J e2
theorem pq_tor {Q : Int → IMem → Int → IMem → Prop} {m1 m2 : Res} (h : pq m1 m2 Q) {x : Int} {I : IMem} (e : m1 = some (x, I)) : par m2 (fun y J => Q x I y J) := fun y J e2 => h x I y J e e2
theorem pq_ofl {Q : Int → IMem → Int → IMem → Prop} {m1 m2 : Res} (h : ∀ y J, m2 = some (y, J) → par m1 (fun x I => Q x I y J)) : pq m1 m2 Q := fun x I y J e1 e2 => h y J e2 x I e1
theorem pq_tol {Q : Int → IMem → Int → IMem → Prop} {m1 m2 : Res} (h : pq m1 m2 Q) {y : Int} {J : IMem} (e : m2 = some (y, J)) : par m1 (fun x I => Q x I y J) := fun x I e1 => h x I y J e1 e
/-- the reference's turn for a row that moves up -/
def xDD (x15 w4 w5 y23 : Int) (R_ : Int → Int → Int → IMem → Res) (I34 : IMem) : Res :=
                      zl (wr32 (y23 + 4)) fun x35 =>
                      zg (0 ≤ x35 ∧ x35 < 6190) (
                      zg (0 ≤ x35 ∧ x35 < 6190) (zw I34 (0 + 1) x35.toNat (wr32 ((I34 (0 + 1) x35.toNat) + 1)) fun I36 =>
                      zl (wr32 (y23 + 5)) fun x37 =>
                      zg (0 ≤ x37 ∧ x37 < 6190) (
                        if 0 < x15 then (
                          zg (0 ≤ x37 ∧ x37 < 6190) (zw I36 (0 + 1) x37.toNat (wr32 ((I36 (0 + 1) x37.toNat) + 1)) fun I41 =>
                          zl (wr32 (w4 + 1)) fun x42 =>
                          R_ x15 x42 (wr32 (w5 + 1)) I41))
                        else (
                          zg (0 ≤ x37 ∧ x37 < 6190) (zw I36 (0 + 1) x37.toNat (wr32 ((I36 (0 + 1) x37.toNat) + 0)) fun I41 =>
                          zl (wr32 (w4 + 1)) fun x42 =>
                          R_ x15 x42 (wr32 (w5 + 1)) I41)))))
def xDC (x11 x15 w4 w5 y23 : Int) (R_ : Int → Int → Int → IMem → Res) (I32 : IMem) : Res :=
                  zg (0 ≤ x11 ∧ x11 < 240) (
                    if 0 < I32 (0 + 9) x11.toNat then (
                      zl (wr32 (y23 + 1)) fun x43 =>
                      zg (0 ≤ x43 ∧ x43 < 6190) (
                      zg (0 ≤ x11 ∧ x11 < 240) (
                      zg (0 ≤ x43 ∧ x43 < 6190) (zw I32 (0 + 1) x43.toNat (wr32 ((I32 (0 + 1) x43.toNat) - (I32 (0 + 9) x11.toNat))) fun I44 =>
                      zl (wr32 (y23 + 1)) fun x45 =>
                      zg (0 ≤ x45 ∧ x45 < 6190) (
                      zl (wr32 (y23 + 2)) fun x47 =>
                      zg (0 ≤ x47 ∧ x47 < 6190) (zw I44 (0 + 1) x47.toNat (I44 (0 + 1) x45.toNat) fun I46 =>
                      xDD x15 w4 w5 y23 R_ I46))))))
                    else (
                      xDD x15 w4 w5 y23 R_ I32))
def xDB (fu : Nat) (p1 p2 x11 x15 w4 w5 : Int) (R_ : Int → Int → Int → IMem → Res) (I13 : IMem) : Res :=
          zg (0 ≤ x11 ∧ x11 < 240) (
            if I13 (0 + 12) x11.toNat = 0 then (
              zg (0 ≤ x11 ∧ x11 < 240) (
              zb (f_X_of fu 0 p1 w5 1 I13) fun y20 I21 =>
              if I13 (0 + 9) x11.toNat = y20 then (
                R_ x15 w4 (wr32 (w5 + 1)) I21)
              else (
                zb (f_X_cell fu p1 w4 I21) fun y23 I24 =>
                f_X_movesUp_132 fu (xDC x11 x15 w4 w5 y23 R_) 0 p1 p2 x15 w4 w5 x11 y23 fu 0 I24)))
            else (
              R_ x15 w4 (wr32 (w5 + 1)) I13))
theorem moves_eq (fu : Nat) (k_254 : Int → IMem → Res) (p1 p2 : Int) (R_ : Int → Int → Int → IMem → Res) (w3 w4 w5 : Int) (I0 : IMem) : fb_X_movesUp_57 fu k_254 0 p1 p2 R_ w3 w4 w5 I0 = if w5 < p2 then (zg (0 ≤ wr32 ((wr32 (40 * p1)) + w5) ∧ wr32 ((wr32 (40 * p1)) + w5) < 240) (if 0 < I0 (0 + 9) (wr32 ((wr32 (40 * p1)) + w5)).toNat then xDB fu p1 p2 (wr32 ((wr32 (40 * p1)) + w5)) (wr32 (w3 - 1)) w4 w5 R_ I0 else xDB fu p1 p2 (wr32 ((wr32 (40 * p1)) + w5)) (wr32 (w3 - 0)) w4 w5 R_ I0)) else k_254 w4 I0 := by
  unfold fb_X_movesUp_57 xDB xDC xDD
  simp only [zl_e, zj_e]
/-- the class's turn for a row that moves up -/
def cDK (fu o0 : Nat) (p2 p3 x4 w4 w5 : Int) (R_ : Int → Int → IMem → Res) (I13 : IMem) : Res :=
                  zl (wr32 ((wr32 (p2 * 40)) + w4)) fun x14 =>
                  zg ((0 : Int) ≤ wr32 (x4 * 6) ∧ (0 : Int) ≤ wr32 (x14 * 6) ∧ (0 : Int) ≤ 6 ∧ (wr32 (x4 * 6) : Int) + 6 ≤ 1440 ∧ (wr32 (x14 * 6) : Int) + 6 ≤ 1440) (zc I13 (o0 + 1) (wr32 (x4 * 6)) (o0 + 1) (wr32 (x14 * 6)) 6 fun I15 =>
                  zb (f_L_get fu o0 x14 4 I15) fun y16 I17 =>
                  zb (f_L_put fu o0 x14 4 (wr32 (y16 + 1)) I17) fun _ I20 =>
                  zb (f_L_get fu o0 x14 5 I20) fun y22 I23 =>
                    if w5 < p3 then (
                      zb (f_L_put fu o0 x14 5 (wr32 (y22 + 1)) I23) fun _ I29 =>
                      zl (wr32 (w4 + 1)) fun x31 =>
                      R_ x31 (wr32 (w5 + 1)) I29)
                    else (
                      zb (f_L_put fu o0 x14 5 (wr32 (y22 + 0)) I23) fun _ I29 =>
                      zl (wr32 (w4 + 1)) fun x31 =>
                      R_ x31 (wr32 (w5 + 1)) I29))
def cDM (fu o0 : Nat) (p2 p3 x4 w4 w5 : Int) (R_ : Int → Int → IMem → Res) (x7 : Int) (I6 : IMem) : Res :=
                if x7 = 0 then cDK fu o0 p2 p3 x4 w4 w5 R_ I6
                else (
                  if x7 = 3 then cDK fu o0 p2 p3 x4 w4 w5 R_ I6
                  else R_ w4 (wr32 (w5 + 1)) I6)
theorem depart_eq (fu : Nat) (k_159 : Int → IMem → Res) (o0 o1 n1 : Nat) (p2 p3 : Int) (R_ : Int → Int → IMem → Res) (w4 w5 : Int) (I0 : IMem) : fb_L_depart_21 fu k_159 o0 o1 n1 p2 p3 R_ w4 w5 I0 = zg (0 ≤ p2 ∧ p2 < 6) (if w5 < I0 (o0 + 2) p2.toNat then (if w5 < 40 then (if wr32 ((wr32 (p2 * 40)) + w5) < (n1 : Int) then zg (0 ≤ wr32 ((wr32 (p2 * 40)) + w5) ∧ wr32 ((wr32 (p2 * 40)) + w5) < n1) (cDM fu o0 p2 p3 (wr32 ((wr32 (p2 * 40)) + w5)) w4 w5 R_ (I0 o1 (wr32 ((wr32 (p2 * 40)) + w5)).toNat) I0) else cDM fu o0 p2 p3 (wr32 ((wr32 (p2 * 40)) + w5)) w4 w5 R_ 0 I0) else k_159 w4 I0) else k_159 w4 I0) := by
  unfold fb_L_depart_21 cDM cDK
  simp only [zl_e, zj_e]
section
variable {fu : Nat} {Q : Int → IMem → Prop}
/-- a row that moves up: the class -/
theorem cv_keep (o l p t : Nat) (hl : l < 6) (hp : p < 40) (ht : t ≤ p) (R : Int) (R_ : Int → Int → IMem → Res) (I0 : IMem) (hk : ∀ I : IMem, (∀ q j, I q j = if q = o + 1 ∧ j = 6 * (40 * l + t) + 5 then wr32 (I0 (o + 1) (6 * (40 * l + p) + 5) + (if (p : Int) < R then 1 else 0)) else if q = o + 1 ∧ j = 6 * (40 * l + t) + 4 then wr32 (I0 (o + 1) (6 * (40 * l + p) + 4) + 1) else if q = o + 1 ∧ 6 * (40 * l + t) ≤ j ∧ j < 6 * (40 * l + t) + 6 then I0 (o + 1) (6 * (40 * l + p) + (j - 6 * (40 * l + t))) else I0 q j) → par (R_ ((t + 1 : Nat) : Int) ((p + 1 : Nat) : Int) I) Q) : par (cDK fu o (l : Int) R ((40 * l + p : Nat) : Int) (t : Int) (p : Int) R_ I0) Q := by
  unfold cDK
  have w3 : Wq (wr32 (wr32 ((l : Int) * 40) + (t : Int))) (((40 * l + t : Nat) : Int)) := by show wr32 (wr32 ((l : Int) * 40) + (t : Int)) = ((40 * l + t : Nat) : Int); rw [wr32_i2 (x := (l : Int) * 40) (by omega) (by omega), wr32_i2 (by omega) (by omega)]; omega
  have wp : Wq (wr32 ((p : Int) + 1)) (((p + 1 : Nat) : Int)) := by show wr32 ((p : Int) + 1) = ((p + 1 : Nat) : Int); rw [wr32_i2 (by omega) (by omega)]; rfl
  have wt : Wq (wr32 ((t : Int) + 1)) (((t + 1 : Nat) : Int)) := by show wr32 ((t : Int) + 1) = ((t + 1 : Nat) : Int); rw [wr32_i2 (by omega) (by omega)]; rfl
  have w6 : Wq (wr32 (((40 * l + p : Nat) : Int) * 6)) (((6 * (40 * l + p) : Nat) : Int)) := by show wr32 (((40 * l + p : Nat) : Int) * 6) = ((6 * (40 * l + p) : Nat) : Int); rw [wr32_i2 (by omega) (by omega)]; omega
  have w7 : Wq (wr32 (((40 * l + t : Nat) : Int) * 6)) (((6 * (40 * l + t) : Nat) : Int)) := by show wr32 (((40 * l + t : Nat) : Int) * 6) = ((6 * (40 * l + t) : Nat) : Int); rw [wr32_i2 (by omega) (by omega)]; omega
  simp only [zl_e]
  rw [w3.e, wp.e, wt.e, w6.e, w7.e]
  refine par_zg (fun _ => par_zc' (fun I1 e1 => ?_))
  have n1 : ((6 * (40 * l + t) : Nat) : Int).toNat = 6 * (40 * l + t) := rfl
  have n2 : ((6 * (40 * l + p) : Nat) : Int).toNat = 6 * (40 * l + p) := rfl
  have n3 : (6 : Int).toNat = 6 := rfl
  rw [n1, n2, n3] at e1
  have r4 : I1 (o + 1) (6 * (40 * l + t) + 4) = I0 (o + 1) (6 * (40 * l + p) + 4) := by
    rw [e1, if_pos (by omega)]; exact congrArg _ (by omega)
  have r5 : I1 (o + 1) (6 * (40 * l + t) + 5) = I0 (o + 1) (6 * (40 * l + p) + 5) := by
    rw [e1, if_pos (by omega)]; exact congrArg _ (by omega)
  rw [ev_get4 fu o _ I1 (by omega), zb_zr, r4, ev_put4 fu o _ _ I1 (by omega), zb_zw]
  refine par_zw' (fun I2 e2 => ?_)
  have s5 : I2 (o + 1) (6 * (40 * l + t) + 5) = I0 (o + 1) (6 * (40 * l + p) + 5) := by rw [e2, if_neg (by omega)]; exact r5
  rw [zb_zr, ev_get5 fu o _ I2 (by omega), zb_zr, s5]
  refine par_ite (fun q => ?_) (fun q => ?_)
  · rw [ev_put5 fu o _ _ I2 (by omega), zb_zw]
    refine par_zw' (fun I3 e3 => hk I3 (fun q' j => ?_))
    rw [e3, e2, e1, if_pos q]
  · rw [ev_put5 fu o _ _ I2 (by omega), zb_zw]
    refine par_zw' (fun I3 e3 => hk I3 (fun q' j => ?_))
    rw [e3, e2, e1, if_neg q]
/-- a row that moves up: the reference -/
theorem xv_keep (l p t : Nat) (hl : l < 6) (hp : p < 40) (ht : t ≤ p) (x15 p2 : Int) (R_ : Int → Int → Int → IMem → Res) (J0 : IMem) (hf : J0 12 (40 * l + p) = 0) (hs : J0 9 (40 * l + p) ≠ J0 1 (140 + 6 * (40 * l + p) + 1)) (hb : 0 ≤ J0 9 (40 * l + p) ∧ J0 9 (40 * l + p) ≤ J0 1 (140 + 6 * (40 * l + p) + 1) ∧ J0 1 (140 + 6 * (40 * l + p) + 1) ≤ 8) (hk : ∀ J : IMem, (∀ q j, J q j = if q = 1 ∧ j = 140 + 6 * (40 * l + t) + 5 then wr32 (J0 1 (140 + 6 * (40 * l + p) + 5) + (if 0 < x15 then 1 else 0)) else if q = 1 ∧ j = 140 + 6 * (40 * l + t) + 4 then wr32 (J0 1 (140 + 6 * (40 * l + p) + 4) + 1) else if 0 < J0 9 (40 * l + p) ∧ q = 1 ∧ (j = 140 + 6 * (40 * l + t) + 1 ∨ j = 140 + 6 * (40 * l + t) + 2) then J0 1 (140 + 6 * (40 * l + p) + 1) - J0 9 (40 * l + p) else if q = 1 ∧ 140 + 6 * (40 * l + t) ≤ j ∧ j < 140 + 6 * (40 * l + t) + 6 then J0 1 (140 + 6 * (40 * l + p) + (j - (140 + 6 * (40 * l + t)))) else J0 q j) → par (R_ x15 ((t + 1 : Nat) : Int) ((p + 1 : Nat) : Int) J) Q) : par (xDB fu (l : Int) p2 ((40 * l + p : Nat) : Int) x15 (t : Int) (p : Int) R_ J0) Q := by
  unfold xDB
  refine par_zg (fun _ => ?_)
  show par (if J0 12 (40 * l + p) = 0 then _ else _) _
  rw [if_pos hf]
  refine par_zg (fun _ => ?_)
  rw [ev_of1 fu 0 l p J0 hl hp, zb_zr]
  show par (if J0 9 (40 * l + p) = J0 1 (140 + 6 * (40 * l + p) + 1) then _ else _) _
  rw [if_neg hs, ev_cell fu l t J0 hl (by omega), zb_zr]
  refine xv_copy (fu := fu) _ l p t hl hp ht p2 x15 (t : Int) ((40 * l + p : Nat) : Int) J0 (fun J1 e1 => ?_) fu 0 J0 (by decide) (fun q j => by rw [if_neg (by omega)])
  unfold xDC
  have m9 : J1 9 (40 * l + p) = J0 9 (40 * l + p) := by rw [e1, if_neg (by omega)]
  have wn : ∀ f : Nat, f < 6 → wr32 (((140 + 6 * (40 * l + t) : Nat) : Int) + (f : Int)) = ((140 + 6 * (40 * l + t) + f : Nat) : Int) := fun f hf => by rw [wr32_i2 (by omega) (by omega)]; omega
  have v1 : Wq (wr32 (((140 + 6 * (40 * l + t) : Nat) : Int) + 1)) (((140 + 6 * (40 * l + t) + 1 : Nat) : Int)) := wn 1 (by decide)
  have v2 : Wq (wr32 (((140 + 6 * (40 * l + t) : Nat) : Int) + 2)) (((140 + 6 * (40 * l + t) + 2 : Nat) : Int)) := wn 2 (by decide)
  have v4 : Wq (wr32 (((140 + 6 * (40 * l + t) : Nat) : Int) + 4)) (((140 + 6 * (40 * l + t) + 4 : Nat) : Int)) := wn 4 (by decide)
  have v5 : Wq (wr32 (((140 + 6 * (40 * l + t) : Nat) : Int) + 5)) (((140 + 6 * (40 * l + t) + 5 : Nat) : Int)) := wn 5 (by decide)
  have wp : Wq (wr32 ((p : Int) + 1)) (((p + 1 : Nat) : Int)) := by show wr32 ((p : Int) + 1) = ((p + 1 : Nat) : Int); rw [wr32_i2 (by omega) (by omega)]; rfl
  have wt : Wq (wr32 ((t : Int) + 1)) (((t + 1 : Nat) : Int)) := by show wr32 ((t : Int) + 1) = ((t + 1 : Nat) : Int); rw [wr32_i2 (by omega) (by omega)]; rfl
  have row : ∀ f, f < 6 → J1 1 (140 + 6 * (40 * l + t) + f) = J0 1 (140 + 6 * (40 * l + p) + f) := fun f hf => by
    rw [e1, if_pos (by omega)]; exact congrArg _ (by omega)
  -- waited and passed
  have last : ∀ J2 : IMem, (∀ q j, J2 q j = if 0 < J0 9 (40 * l + p) ∧ q = 1 ∧ (j = 140 + 6 * (40 * l + t) + 1 ∨ j = 140 + 6 * (40 * l + t) + 2) then J0 1 (140 + 6 * (40 * l + p) + 1) - J0 9 (40 * l + p) else J1 q j) → par (xDD x15 (t : Int) (p : Int) ((140 + 6 * (40 * l + t) : Nat) : Int) R_ J2) Q := by
    intro J2 e2
    unfold xDD
    simp only [zl_e, Nat.zero_add]
    rw [v4.e, v5.e, wp.e, wt.e]
    have a4 : J2 1 (140 + 6 * (40 * l + t) + 4) = J0 1 (140 + 6 * (40 * l + p) + 4) := by rw [e2, if_neg (by omega)]; exact row 4 (by decide)
    have a5 : J2 1 (140 + 6 * (40 * l + t) + 5) = J0 1 (140 + 6 * (40 * l + p) + 5) := by rw [e2, if_neg (by omega)]; exact row 5 (by decide)
    refine par_zg (fun _ => par_zg (fun _ => ?_))
    rw [show ((140 + 6 * (40 * l + t) + 4 : Nat) : Int).toNat = 140 + 6 * (40 * l + t) + 4 from rfl, a4]
    refine par_zw' (fun J3 e3 => par_zg (fun _ => ?_))
    have b5 : J3 1 (140 + 6 * (40 * l + t) + 5) = J0 1 (140 + 6 * (40 * l + p) + 5) := by rw [e3, if_neg (by omega)]; exact a5
    rw [show ((140 + 6 * (40 * l + t) + 5 : Nat) : Int).toNat = 140 + 6 * (40 * l + t) + 5 from rfl, b5]
    refine par_ite (fun q => par_zg (fun _ => par_zw' (fun J4 e4 => hk J4 (fun q' j => ?_)))) (fun q => par_zg (fun _ => par_zw' (fun J4 e4 => hk J4 (fun q' j => ?_))))
    · rw [e4, e3, e2, e1, if_pos q]
    · rw [e4, e3, e2, e1, if_neg q]
  refine par_zg (fun _ => ?_)
  show par (if 0 < J1 9 (40 * l + p) then _ else _) _
  rw [m9]
  refine par_ite (fun q => ?_) (fun q => last J1 (fun q' j => by rw [if_neg (fun z => q z.1)]))
  simp only [zl_e, Nat.zero_add]
  rw [v1.e, v2.e]
  refine par_zg (fun _ => par_zg (fun _ => par_zg (fun _ => ?_)))
  rw [show ((140 + 6 * (40 * l + t) + 1 : Nat) : Int).toNat = 140 + 6 * (40 * l + t) + 1 from rfl, row 1 (by decide)]
  have m9' : J1 9 ((40 * l + p : Nat) : Int).toNat = J0 9 (40 * l + p) := m9
  rw [m9', wr32_i2 (x := J0 1 (140 + 6 * (40 * l + p) + 1) - J0 9 (40 * l + p)) (by omega) (by omega)]
  refine par_zw' (fun J2 e2 => par_zg (fun _ => par_zg (fun _ => ?_)))
  have c1 : J2 1 (140 + 6 * (40 * l + t) + 1) = J0 1 (140 + 6 * (40 * l + p) + 1) - J0 9 (40 * l + p) := by rw [e2, if_pos ⟨rfl, rfl⟩]
  rw [show ((140 + 6 * (40 * l + t) + 2 : Nat) : Int).toNat = 140 + 6 * (40 * l + t) + 2 from rfl, c1]
  refine par_zw' (fun J3 e3 => last J3 (fun q' j => ?_))
  rw [e3, e2]
  by_cases y : 0 < J0 9 (40 * l + p) ∧ q' = 1 ∧ (j = 140 + 6 * (40 * l + t) + 1 ∨ j = 140 + 6 * (40 * l + t) + 2)
  · rw [if_pos y]
    by_cases y2 : q' = 1 ∧ j = 140 + 6 * (40 * l + t) + 2
    · rw [if_pos y2]
    · rw [if_neg y2, if_pos (by omega)]
  · rw [if_neg y, if_neg (fun z => y ⟨q, z.1, Or.inr z.2⟩), if_neg (fun z => y ⟨q, z.1, Or.inl z.2⟩)]
end
def DRl (hb l t : Nat) (I0 J0 I J : IMem) : Prop :=
  (∀ q j, ¬ (q = hb + 7 ∧ 240 * l ≤ j ∧ j < 240 * l + 6 * t) → I q j = I0 q j) ∧
  (∀ q j, ¬ (q = 1 ∧ 140 + 240 * l ≤ j ∧ j < 140 + 240 * l + 6 * t) → J q j = J0 q j) ∧
  ∀ t' f, t' < t → f < 6 → I (hb + 7) (6 * (40 * l + t') + f) = J 1 (140 + 6 * (40 * l + t') + f)
section
variable {fu oc hb : Nat} {Q : Int → IMem → Int → IMem → Prop}
theorem depart_in (hd : hb + 40 ≤ oc) (l : Nat) (hl : l < 6) (kC kX : Int → IMem → Res) (I0 J0 : IMem) (R : Int) (c : Nat) (hc40 : c ≤ 40) (hcI : I0 (hb + 8) l = c) (hrow : ∀ p f, p < c → f < 6 → I0 (hb + 7) (6 * (40 * l + p) + f) = if I0 (oc + 1) (40 * l + p) = 3 ∧ (f = 1 ∨ f = 2) then J0 1 (140 + 6 * (40 * l + p) + 1) - J0 9 (40 * l + p) else J0 1 (140 + 6 * (40 * l + p) + f)) (hmk : ∀ p, p < c → MKR (I0 (oc + 1) (40 * l + p)) (J0 9 (40 * l + p)) (J0 12 (40 * l + p)) (J0 1 (141 + 6 * (40 * l + p)))) (hz : ∀ p, p < c → 1 ≤ J0 1 (141 + 6 * (40 * l + p)) ∧ J0 1 (141 + 6 * (40 * l + p)) ≤ 8) (hR : REAR (fun p => I0 (oc + 1) (40 * l + p)) c R) (hend : ∀ (t : Nat) (I J : IMem), t ≤ c → DRl hb l t I0 J0 I J → pq (kC (t : Int) I) (kX (t : Int) J) Q) : ∀ (m m2 t p : Nat) (w3 : Int) (I J : IMem), t ≤ p → p ≤ c → w3 = cnt (sf J0 l) c - cnt (sf J0 l) p → DRl hb l t I0 J0 I J → pq (f_L_depart_21 fu kC (hb + 6) (oc + 1) 240 (l : Int) R m (t : Int) (p : Int) I) (f_X_movesUp_57 fu kX 0 (l : Int) (c : Int) m2 w3 (t : Int) (p : Int) J) Q := by
  intro m
  induction m with
  | zero => intro _ _ _ _ _ _ _ _ _ _; exact pq_nl
  | succ m ih =>
    intro m2 t p w3 I J htp hpc hw3 hD
    cases m2 with
    | zero => exact pq_nr
    | succ m2 =>
    show pq (fb_L_depart_21 fu kC (hb + 6) (oc + 1) 240 (l : Int) R (f_L_depart_21 fu kC (hb + 6) (oc + 1) 240 (l : Int) R m) (t : Int) (p : Int) I) (fb_X_movesUp_57 fu kX 0 (l : Int) (c : Int) (f_X_movesUp_57 fu kX 0 (l : Int) (c : Int) m2) w3 (t : Int) (p : Int) J) Q
    rw [depart_eq, moves_eq]
    have hD' := hD
    obtain ⟨d1, d2, d3⟩ := hD'
    have ci : I (hb + 6 + 2) (l : Int).toNat = (c : Int) := (d1 _ _ (by omega)).trans hcI
    refine pq_gl (fun _ => ?_)
    rw [ci]
    by_cases h : p < c
    · rw [if_pos (show (p : Int) < (c : Int) by omega), if_pos (show (p : Int) < 40 by omega), if_pos (show (p : Int) < (c : Int) by omega)]
      have hp4 : p < 40 := by omega
      have hk : 40 * l + p < 240 := by omega
      have mk := hmk p h
      have z1 := hz p h
      rw [show 141 + 6 * (40 * l + p) = 140 + 6 * (40 * l + p) + 1 by omega] at z1 mk
      have w1 : Wq (wr32 (wr32 ((l : Int) * 40) + (p : Int))) (((40 * l + p : Nat) : Int)) := by show wr32 (wr32 ((l : Int) * 40) + (p : Int)) = ((40 * l + p : Nat) : Int); rw [wr32_i2 (x := (l : Int) * 40) (by omega) (by omega), wr32_i2 (by omega) (by omega)]; omega
      have w2 : Wq (wr32 (wr32 (40 * (l : Int)) + (p : Int))) (((40 * l + p : Nat) : Int)) := by show wr32 (wr32 (40 * (l : Int)) + (p : Int)) = ((40 * l + p : Nat) : Int); rw [wr32_i2 (x := 40 * (l : Int)) (by omega) (by omega), wr32_i2 (by omega) (by omega)]; omega
      have wp : Wq (wr32 ((p : Int) + 1)) (((p + 1 : Nat) : Int)) := by show wr32 ((p : Int) + 1) = ((p + 1 : Nat) : Int); rw [wr32_i2 (by omega) (by omega)]; rfl
      have c0 := cnt_nn (sf J0 l) p
      have c1 := cnt_nn (sf J0 l) c
      have cs : cnt (sf J0 l) (p + 1) = cnt (sf J0 l) p + (if sf J0 l p = 0 then 0 else 1) := rfl
      have jm : J 9 (40 * l + p) = J0 9 (40 * l + p) := d2 _ _ (by omega)
      have jf : J 12 (40 * l + p) = J0 12 (40 * l + p) := d2 _ _ (by omega)
      have jr : ∀ f, f < 6 → J 1 (140 + 6 * (40 * l + p) + f) = J0 1 (140 + 6 * (40 * l + p) + f) := fun f _ => d2 _ _ (by omega)
      have ir : ∀ f, f < 6 → I (hb + 7) (6 * (40 * l + p) + f) = I0 (hb + 7) (6 * (40 * l + p) + f) := fun f _ => d1 _ _ (by omega)
      have im : I (oc + 1) (40 * l + p) = I0 (oc + 1) (40 * l + p) := d1 _ _ (by omega)
      rw [w1.e, w2.e, if_pos (by omega)]
      refine pq_gl (fun _ => pq_gr (fun _ => ?_))
      rw [show ((40 * l + p : Nat) : Int).toNat = 40 * l + p from rfl, im]
      show pq _ (if 0 < J 9 (40 * l + p) then _ else _) _
      rw [jm]
      -- how many sit behind, from here on
      have body : ∀ x15 : Int, x15 = cnt (sf J0 l) c - cnt (sf J0 l) (p + 1) → pq (cDM fu (hb + 6) (l : Int) R ((40 * l + p : Nat) : Int) (t : Int) (p : Int) (f_L_depart_21 fu kC (hb + 6) (oc + 1) 240 (l : Int) R m) (I0 (oc + 1) (40 * l + p)) I) (xDB fu (l : Int) (c : Int) ((40 * l + p : Nat) : Int) x15 (t : Int) (p : Int) (f_X_movesUp_57 fu kX 0 (l : Int) (c : Int) m2) J) Q := by
        intro x15 h15
        have beh : 0 < x15 ↔ (p : Int) < R := by
          have mono : ∀ a b : Nat, a ≤ b → cnt (sf J0 l) a ≤ cnt (sf J0 l) b := by
            intro a b hab
            induction b with
            | zero => rw [show a = 0 by omega]; exact Int.le_refl _
            | succ b ihb =>
              by_cases q : a = b + 1
              · rw [q]; exact Int.le_refl _
              · have := ihb (by omega)
                show _ ≤ cnt (sf J0 l) b + (if sf J0 l b = 0 then 0 else 1)
                split <;> omega
          have sfm : ∀ p', p' < c → (sf J0 l p' ≠ 0 ↔ (I0 (oc + 1) (40 * l + p') = 1 ∨ I0 (oc + 1) (40 * l + p') = 3)) := by
            intro p' hp'
            have mk' := hmk p' hp'
            unfold MKR at mk'
            unfold sf
            split
            · exact ⟨fun _ => by omega, fun _ => by decide⟩
            · exact ⟨fun x => absurd rfl x, fun x => by omega⟩
          rcases hR with ⟨r1, r2⟩ | ⟨r, r1, r2, r3, r4⟩
          · have : ∀ b : Nat, b ≤ c → cnt (sf J0 l) b = 0 := by
              intro b
              induction b with
              | zero => intro _; rfl
              | succ b ihb =>
                intro hb2
                show cnt (sf J0 l) b + (if sf J0 l b = 0 then 0 else 1) = 0
                rw [ihb (by omega)]
                have := r2 b (by omega)
                rw [← sfm b (by omega)] at this
                rw [if_pos (Classical.byContradiction this)]
                rfl
            rw [h15, this c (Nat.le_refl _), this (p + 1) (by omega), r1]
            omega
          · constructor
            · intro hx
              rcases Nat.lt_or_ge p r with q | q
              · omega
              · exfalso
                have : ∀ b : Nat, p + 1 ≤ b → b ≤ c → cnt (sf J0 l) b = cnt (sf J0 l) (p + 1) := by
                  intro b
                  induction b with
                  | zero => intro h1 _; omega
                  | succ b ihb =>
                    intro h1 h2
                    by_cases q2 : p + 1 = b + 1
                    · rw [q2]
                    · show cnt (sf J0 l) b + (if sf J0 l b = 0 then 0 else 1) = _
                      rw [ihb (by omega) (by omega)]
                      have := r4 b (by omega) (by omega)
                      rw [← sfm b (by omega)] at this
                      rw [if_pos (Classical.byContradiction this)]
                      omega
                have := this c (by omega) (Nat.le_refl _)
                omega
            · intro hx
              have hr : r < c := by omega
              have e1 : cnt (sf J0 l) (r + 1) = cnt (sf J0 l) r + 1 := by
                show cnt (sf J0 l) r + (if sf J0 l r = 0 then 0 else 1) = _
                rw [if_neg ((sfm r hr).mpr r3)]
              have := mono (p + 1) r (by omega)
              have := mono (r + 1) c (by omega)
              omega
        unfold cDM
        unfold MKR at mk
        -- one who goes
        have goes : (I0 (oc + 1) (40 * l + p) = 1 ∨ I0 (oc + 1) (40 * l + p) = 2) → pq (f_L_depart_21 fu kC (hb + 6) (oc + 1) 240 (l : Int) R m (t : Int) (wr32 ((p : Int) + 1)) I) (xDB fu (l : Int) (c : Int) ((40 * l + p : Nat) : Int) x15 (t : Int) (p : Int) (f_X_movesUp_57 fu kX 0 (l : Int) (c : Int) m2) J) Q := by
          intro hg
          unfold xDB
          rw [wp.e]
          refine pq_gr (fun _ => ?_)
          show pq _ (if J 12 (40 * l + p) = 0 then _ else _) _
          rw [jf]
          have nxt := ih m2 t (p + 1) x15 I J (by omega) h h15 hD
          by_cases q : J0 12 (40 * l + p) = 0
          · rw [if_pos q]
            refine pq_gr (fun _ => ?_)
            rw [ev_of1 fu 0 l p J hl hp4, zb_zr]
            show pq _ (if J 9 (40 * l + p) = J 1 (140 + 6 * (40 * l + p) + 1) then _ else _) _
            rw [jm, jr 1 (by decide), if_pos (by omega)]
            exact nxt
          · rw [if_neg q]
            exact nxt
        -- one who stays
        have stays : (I0 (oc + 1) (40 * l + p) = 0 ∨ I0 (oc + 1) (40 * l + p) = 3) → pq (cDK fu (hb + 6) (l : Int) R ((40 * l + p : Nat) : Int) (t : Int) (p : Int) (f_L_depart_21 fu kC (hb + 6) (oc + 1) 240 (l : Int) R m) I) (xDB fu (l : Int) (c : Int) ((40 * l + p : Nat) : Int) x15 (t : Int) (p : Int) (f_X_movesUp_57 fu kX 0 (l : Int) (c : Int) m2) J) Q := by
          intro hg
          refine pq_ofl (fun y J9 e9 => cv_keep (fu := fu) (hb + 6) l p t hl hp4 htp R _ I (fun I1 g1 => pq_tol (m2 := xDB fu (l : Int) (c : Int) ((40 * l + p : Nat) : Int) x15 (t : Int) (p : Int) (f_X_movesUp_57 fu kX 0 (l : Int) (c : Int) m2) J) (pq_ofr (fun x I9 e8 => xv_keep (fu := fu) l p t hl hp4 htp x15 (c : Int) _ J (by rw [jf]; omega) (by rw [jm, jr 1 (by decide)]; omega) (by rw [jm, jr 1 (by decide)]; omega) (fun J1 g2 => pq_tor (ih m2 (t + 1) (p + 1) x15 I1 J1 (by omega) h h15 ⟨fun q j hq => ?_, fun q j hq => ?_, fun t' f ht' hf => ?_⟩) e8))) e9))
          · rw [g1, if_neg (by omega), if_neg (by omega), if_neg (by omega)]; exact d1 q j (by omega)
          · rw [g2, if_neg (by omega), if_neg (by omega), if_neg (by omega), if_neg (by omega)]; exact d2 q j (by omega)
          · rw [g1, g2]
            by_cases q : t' = t
            · subst q
              rw [jm, jr 5 (by decide), jr 4 (by decide), jr 1 (by decide)]
              have i5 : I (hb + 6 + 1) (6 * (40 * l + p) + 5) = J0 1 (140 + 6 * (40 * l + p) + 5) := (ir 5 (by decide)).trans ((hrow p 5 h (by decide)).trans (if_neg (by omega)))
              have i4 : I (hb + 6 + 1) (6 * (40 * l + p) + 4) = J0 1 (140 + 6 * (40 * l + p) + 4) := (ir 4 (by decide)).trans ((hrow p 4 h (by decide)).trans (if_neg (by omega)))
              rw [i5, i4]
              have ebeh : (if (p : Int) < R then (1 : Int) else 0) = if 0 < x15 then 1 else 0 := by
                by_cases z : 0 < x15
                · rw [if_pos z, if_pos (beh.mp z)]
                · rw [if_neg z, if_neg (fun y => z (beh.mpr y))]
              rw [ebeh]
              by_cases f5 : f = 5
              · subst f5; exact (if_pos ⟨rfl, rfl⟩).trans (if_pos ⟨rfl, rfl⟩).symm
              · rw [if_neg (show ¬ (hb + 7 = hb + 6 + 1 ∧ 6 * (40 * l + t') + f = 6 * (40 * l + t') + 5) by omega), if_neg (show ¬ (1 = 1 ∧ 140 + 6 * (40 * l + t') + f = 140 + 6 * (40 * l + t') + 5) by omega)]
                by_cases f4 : f = 4
                · subst f4; exact (if_pos ⟨rfl, rfl⟩).trans (if_pos ⟨rfl, rfl⟩).symm
                · rw [if_neg (show ¬ (hb + 7 = hb + 6 + 1 ∧ 6 * (40 * l + t') + f = 6 * (40 * l + t') + 4) by omega), if_neg (show ¬ (1 = 1 ∧ 140 + 6 * (40 * l + t') + f = 140 + 6 * (40 * l + t') + 4) by omega), if_pos (show hb + 7 = hb + 6 + 1 ∧ 6 * (40 * l + t') ≤ 6 * (40 * l + t') + f ∧ 6 * (40 * l + t') + f < 6 * (40 * l + t') + 6 by omega)]
                  have ei : I (hb + 6 + 1) (6 * (40 * l + p) + (6 * (40 * l + t') + f - 6 * (40 * l + t'))) = I0 (hb + 7) (6 * (40 * l + p) + f) := by
                    rw [show 6 * (40 * l + t') + f - 6 * (40 * l + t') = f by omega]; exact ir f hf
                  rw [ei, hrow p f h hf]
                  by_cases q3 : 0 < J0 9 (40 * l + p) ∧ (f = 1 ∨ f = 2)
                  · rw [if_pos (by omega), if_pos (by omega)]
                  · rw [if_neg (by omega), if_neg (by omega), if_pos (by omega), show 140 + 6 * (40 * l + t') + f - (140 + 6 * (40 * l + t')) = f by omega, jr f hf]
            · rw [if_neg (by omega), if_neg (by omega), if_neg (by omega), if_neg (by omega), if_neg (by omega), if_neg (by omega), if_neg (by omega)]
              exact d3 t' f (by omega) hf
        by_cases q0 : I0 (oc + 1) (40 * l + p) = 0
        · rw [if_pos q0]; exact stays (Or.inl q0)
        · rw [if_neg q0]
          by_cases q3 : I0 (oc + 1) (40 * l + p) = 3
          · rw [if_pos q3]; exact stays (Or.inr q3)
          · rw [if_neg q3]; exact goes (by omega)
      have sfp : sf J0 l p = if 0 < J0 9 (40 * l + p) then 1 else 0 := rfl
      refine pq_ir (fun q => body _ ?_) (fun q => body _ ?_)
      · rw [sfp, if_pos q, if_neg (by decide)] at cs
        have c2 := cnt_nn (sf J0 l) (p + 1)
        rw [wr32_i2 (by omega) (by omega)]; omega
      · rw [sfp, if_neg q, if_pos rfl] at cs
        rw [wr32_i2 (by omega) (by omega)]; omega
    · rw [if_neg (by omega), if_neg (by omega)]
      have : p = c := by omega
      exact hend t I J (by omega) hD
end
