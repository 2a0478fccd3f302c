/-! FEWEST in the reference, from its start -/
section
variable {fu : Nat} {Q : Int → IMem → Prop}
theorem fwO_fail {h : Nat → Int} {S : Int} {k : Nat} (k1 : 1 ≤ k) (k2 : k ≤ 8) (h0 : 0 < h k) (hS : S < (k : Int)) : ¬ fwO h S := fun z => by
  have := z k k1 k2 h0
  omega
theorem fx_few16 {h : Nat → Int} {S : Int} (p1 : Int) (hh : fwH h) (ht : fwT h 8 ≤ 12) (J0 : IMem) (hH : ∀ k, 1 ≤ k → k ≤ 8 → J0 1 (60 + k) = h k) (hs : J0 1 1 = S) (kk : Int → IMem → Res) (hno : ∀ J, ¬ fwO h S → par (zr (-1) J) Q) (hk : ∀ J, fwO h S → (∀ k, 1 ≤ k → k ≤ 8 → J 19 k = h k ∧ J 21 k = 0 ∧ J 20 k = fwR h k) → (∀ j, J 1 j = J0 1 j) → par (kk (fwR h 9) J) Q) : ∀ (m v : Nat) (J : IMem), v ≤ 8 → (∀ k, 1 ≤ k → k ≤ v → J 19 k = h k ∧ J 21 k = 0 ∧ J 20 k = fwR h k) → (∀ j, J 1 j = J0 1 j) → (∀ k : Nat, 1 ≤ k → k ≤ v → 0 < h k → (k : Int) ≤ S) → par (f_X_fewest_16 fu kk 0 p1 m (fwR h (v + 1)) ((v + 1 : Nat) : Int) J) Q := by
  intro m
  induction m with
  | zero => intro _ _ _ _ _ _; exact par_none
  | succ m ih =>
    intro v J hv hz h1 ho
    show par (fb_X_fewest_16 fu kk 0 p1 (f_X_fewest_16 fu kk 0 p1 m) (fwR h (v + 1)) ((v + 1 : Nat) : Int) J) Q
    unfold fb_X_fewest_16
    by_cases h8 : v < 8
    · rw [if_neg (show ¬ 8 < ((v + 1 : Nat) : Int) by omega)]
      have e1 : Wq (wr32 (60 + ((v + 1 : Nat) : Int))) (((60 + (v + 1) : Nat) : Int)) := by show wr32 (60 + ((v + 1 : Nat) : Int)) = ((60 + (v + 1) : Nat) : Int); rw [wr32_i2 (by omega) (by omega)]; omega
      simp only [zl_e]
      rw [e1.e]
      refine par_zg (fun _ => par_zg (fun _ => par_zw' (fun J5 e5 => par_zg (fun _ => par_zw' (fun J6 e6 => par_zg (fun _ => par_zw' (fun J7 e7 => par_zg (fun _ => par_zg (fun _ => ?_)))))))))
      have ew : J (0 + 1) ((60 + (v + 1) : Nat) : Int).toNat = h (v + 1) := (h1 _).trans (hH (v + 1) (by omega) (by omega))
      rw [ew, tn] at e5
      rw [tn] at e6 e7
      have v19 : ∀ k, J7 19 k = if k = v + 1 then h (v + 1) else J 19 k := fun k => by
        rw [e7, if_neg (by omega), e6, if_neg (by omega), e5]
        by_cases y : k = v + 1
        · rw [if_pos ⟨rfl, y⟩, if_pos y]
        · rw [if_neg (fun x => y x.2), if_neg y]
      have v21 : ∀ k, J7 21 k = if k = v + 1 then 0 else J 21 k := fun k => by
        rw [e7, if_neg (by omega), e6]
        by_cases y : k = v + 1
        · rw [if_pos ⟨rfl, y⟩, if_pos y]
        · rw [if_neg (fun x => y x.2), if_neg y, e5, if_neg (by omega)]
      have v20 : ∀ k, J7 20 k = if k = v + 1 then fwR h (v + 1) else J 20 k := fun k => by
        rw [e7]
        by_cases y : k = v + 1
        · rw [if_pos ⟨rfl, y⟩, if_pos y]
        · rw [if_neg (fun x => y x.2), if_neg y, e6, if_neg (by omega), e5, if_neg (by omega)]
      have v1 : ∀ j, J7 1 j = J0 1 j := fun j => by
        rw [e7, if_neg (by omega), e6, if_neg (by omega), e5, if_neg (by omega)]
        exact h1 j
      have en : J7 (0 + 19) ((v + 1 : Nat) : Int).toNat = h (v + 1) := (v19 (v + 1)).trans (if_pos rfl)
      have es : J7 (0 + 1) 1 = S := (v1 1).trans hs
      obtain ⟨r1, r2⟩ := fwR_le hh ht (k := v + 1) (by omega) (by omega)
      obtain ⟨s1, s2⟩ := fwR_le hh ht (k := v + 1 + 1) (by omega) (by omega)
      rw [fwR_s h (n := v + 1) (by omega)] at s1 s2
      have hb := hh (v + 1) (by omega) (by omega)
      have hb9 := (fwT_ge (f := h) 8 hh).2 (v + 1) (by omega) (by omega)
      have e2 : Wq (wr32 (((v + 1 : Nat) : Int) + 1)) (((v + 1 + 1 : Nat) : Int)) := by show wr32 (((v + 1 : Nat) : Int) + 1) = ((v + 1 + 1 : Nat) : Int); rw [wr32_i2 (by omega) (by omega)]; rfl
      have e3 : Wq (wr32 (fwR h (v + 1) * wr32 (h (v + 1) + 1))) (fwR h (v + 1 + 1)) := by
        show wr32 (fwR h (v + 1) * wr32 (h (v + 1) + 1)) = fwR h (v + 1 + 1)
        rw [wr32_i2 (x := h (v + 1) + 1) (by omega) (by omega), fwR_s h (n := v + 1) (by omega), wr32_i2 (by omega) (by omega)]
      rw [en, e3.e, es, e2.e]
      have on : (0 < h (v + 1) → (((v + 1 : Nat)) : Int) ≤ S) → par (f_X_fewest_16 fu kk 0 p1 m (fwR h (v + 1 + 1)) ((v + 1 + 1 : Nat) : Int) J7) Q := fun hx => by
        refine ih (v + 1) J7 (by omega) (fun k k1 k2 => ?_) v1 (fun k k1 k2 k3 => ?_)
        · rw [v19, v21, v20]
          by_cases y : k = v + 1
          · rw [if_pos y, if_pos y, if_pos y, y]
            exact ⟨rfl, rfl, rfl⟩
          · rw [if_neg y, if_neg y, if_neg y]
            exact hz k k1 (by omega)
        · by_cases y : k = v + 1
          · rw [y] at k3 ⊢
            exact hx k3
          · exact ho k k1 (by omega) k3
      refine par_zj (fun k9 e9 => ?_)
      subst e9
      refine par_ite (fun z => par_ite (fun z2 => hno J7 (fwO_fail (by omega) (by omega) z z2)) (fun z2 => ?_)) (fun z => ?_)
      · exact on (fun _ => by omega)
      · exact on (fun x => absurd x z)
    · have e8 : v = 8 := by omega
      subst e8
      rw [if_pos (show 8 < ((8 + 1 : Nat) : Int) by omega)]
      exact hk J (fun k k1 k2 k3 => ho k k1 k2 k3) hz h1
theorem fx_few91 {v : Int} (p1 : Int) (kk : IMem → Res) (J0 : IMem) (hv : v ≤ 1296) (hk : ∀ J, (∀ n : Nat, (n : Int) < v → J 18 n = -1) → (∀ q j, q ≠ 18 → J q j = J0 q j) → par (kk J) Q) : ∀ (m n : Nat) (J : IMem), n ≤ 1296 → (∀ i : Nat, i < n → (i : Int) < v → J 18 i = -1) → (∀ q j, q ≠ 18 → J q j = J0 q j) → par (f_X_fewest_91 fu kk 0 p1 v m (n : Int) J) Q := by
  intro m
  induction m with
  | zero => intro _ _ _ _ _; exact par_none
  | succ m ih =>
    intro n J hn hz hf
    show par (fb_X_fewest_91 fu kk 0 p1 v (f_X_fewest_91 fu kk 0 p1 v m) (n : Int) J) Q
    unfold fb_X_fewest_91
    refine par_ite (fun z => par_zg (fun _ => par_zw' (fun J14 e14 => ?_))) (fun z => hk J (fun i hi => hz i (by omega) hi) hf)
    have e2 : Wq (wr32 ((n : Int) + 1)) (((n + 1 : Nat) : Int)) := by show wr32 ((n : Int) + 1) = ((n + 1 : Nat) : Int); rw [wr32_i2 (by omega) (by omega)]; rfl
    rw [tn] at e14
    simp only [zl_e]
    rw [e2.e]
    refine ih (n + 1) J14 (by omega) (fun i i1 i2 => ?_) (fun q j hq => ?_)
    · rw [e14]
      by_cases y : i = n
      · rw [if_pos ⟨rfl, y⟩]
      · rw [if_neg (fun x => y x.2)]
        exact hz i (by omega) i2
    · rw [e14, if_neg (fun x => hq x.1)]
      exact hf q j hq
/-- the reference's answer -/
def fwD (h : Nat → Int) (S a y : Int) : Prop := (¬ (0 ≤ a ∧ a ≤ 8) ∧ y = -1) ∨ ((0 ≤ a ∧ a ≤ 8) ∧ ((¬ fwO h S ∧ y = -1) ∨ (fwO h S ∧ ((a = 0 ∧ y = fwV S h) ∨ (a ≠ 0 ∧ ((fwV S h = 0 ∧ y = 0) ∨ (fwV S h ≠ 0 ∧ fwQ h 8 ≠ 0 ∧ ((∀ f, fwF (fw1 h (fwQ h 8) (-1)) (fwQ h 8) (S - (fwQ h 8 : Nat)) f → fwV S (fun k => fw1 h (fwQ h 8) (-1) k - f k) ≠ fwV S h - 1) ∨ ∃ f, fwF (fw1 h (fwQ h 8) (-1)) (fwQ h 8) (S - (fwQ h 8 : Nat)) f ∧ fwV S (fun k => fw1 h (fwQ h 8) (-1) k - f k) = fwV S h - 1 ∧ (∀ f2, fwF (fw1 h (fwQ h 8) (-1)) (fwQ h 8) (S - (fwQ h 8 : Nat)) f2 → fwV S (fun k => fw1 h (fwQ h 8) (-1) k - f2 k) = fwV S h - 1 → fwL f2 f 8 = true) ∧ (1 ≤ a.toNat → y = fw1 f (fwQ h 8) 1 a.toNat)))))))))
theorem fx_fewest {h : Nat → Int} {S : Int} (a : Int) (hS : S ≤ 8) (hh : fwH h) (ht : fwT h 8 ≤ 12) (J0 : IMem) (hH : ∀ k, 1 ≤ k → k ≤ 8 → J0 1 (60 + k) = h k) (hs : J0 1 1 = S) : par (f_X_fewest fu 0 a J0) (fun y _ => fwD h S a y) := by
  unfold f_X_fewest
  rw [ev_isIn, zb_zr]
  by_cases ha : 0 ≤ a ∧ a ≤ 8
  · rw [if_pos ha, if_neg ne10]
    refine fx_few16 (S := S) a hh ht J0 hH hs _ (fun J ho => par_zr (Or.inr ⟨ha, Or.inl ⟨ho, rfl⟩⟩)) (fun J ho hJ h1 => ?_) fu 0 J0 (Nat.zero_le _) (fun k k1 k2 => by omega) (fun _ => rfl) (fun k k1 k2 => by omega)
    have b96 := fwR_1296 hh ht
    refine fx_few91 a _ J b96 (fun J16 hz hf => ?_) fu 0 J (by decide) (fun i hi => absurd hi (Nat.not_lt_zero _)) (fun _ _ _ => rfl)
    have hB : fwB h h := fun k k1 k2 => ⟨hh k k1 k2, Int.le_refl _⟩
    have hR16 : fxR h S J16 := ⟨hh, ht, ⟨hS, ho⟩, fun k k1 k2 => (hf 20 k (by decide)).trans (hJ k k1 k2).2.2, (hf 1 1 (by decide)).trans ((h1 1).trans hs)⟩
    have hM16 : fxM h S J16 := fun d hd => by
      have dr := nr_rng hh hd 8 (Nat.le_refl _)
      have e9 : fwR h (8 + 1) = fwR h 9 := rfl
      exact Or.inl (hz _ (by omega))
    refine par_zb (fx_need h J16 hB hR16 hM16 (fun k k1 k2 => (hf 19 k (by decide)).trans (hJ k k1 k2).1)) (fun y17 J18 ⟨ey, fr, mm⟩ => ?_)
    subst ey
    refine par_ite (fun z => par_zr (Or.inr ⟨ha, Or.inr ⟨ho, Or.inl ⟨z, rfl⟩⟩⟩)) (fun z => par_ite (fun z2 => par_zr (Or.inr ⟨ha, Or.inr ⟨ho, Or.inr ⟨z, Or.inl ⟨z2, z2⟩⟩⟩⟩)) (fun z2 => ?_))
    have n18 : ∀ k, 1 ≤ k → k ≤ 8 → J18 19 k = h k := fun k k1 k2 => (fr 19 k (by decide)).trans ((hf 19 k (by decide)).trans (hJ k k1 k2).1)
    have z18 : ∀ k, 1 ≤ k → k ≤ 8 → J18 21 k = 0 := fun k k1 k2 => (fr 21 k (by decide)).trans ((hf 21 k (by decide)).trans (hJ k k1 k2).2.1)
    have eq : fwQ (J18 19) 8 = fwQ h 8 := fwQ_ext 8 n18
    have hg0 : fwQ h 8 ≠ 0 := fun x => z2 (fwV_0 x)
    obtain ⟨a1, a2, a3⟩ := fwQ_spec h 8
    have a2' := a2 hg0
    have hg1 : par (f_X_greatest fu 0 J18) (fun y J2 => J2 = J18 ∧ y = ((fwQ (J18 19) 8 : Nat) : Int)) := by
      unfold f_X_greatest
      exact fx_great fu 8 (Nat.le_refl _) (fun k k1 k2 => by omega)
    rw [eq] at hg1
    refine par_zb hg1 (fun y20 J21 ⟨e1, e2⟩ => ?_)
    subst e1
    subst e2
    refine par_zg (fun _ => par_zg (fun _ => par_zw' (fun J23 e23 => par_zg (fun _ => par_zw' (fun J24 e24 => ?_)))))
    have en : J21 (0 + 19) ((fwQ h 8 : Nat) : Int).toNat = h (fwQ h 8) := n18 _ (by omega) a1
    have hb9 := (fwT_ge (f := h) 8 hh).2 (fwQ h 8) (by omega) a1
    rw [en, tn, wr32_i2 (by omega) (by omega)] at e23
    rw [tn] at e24
    have f24 : ∀ q j, q ≠ 19 → q ≠ 21 → J24 q j = J21 q j := fun q j x y => by rw [e24, if_neg (fun w => y w.1), e23, if_neg (fun w => x w.1)]
    have v24 : ∀ k, 1 ≤ k → k ≤ 8 → J24 19 k = fw1 h (fwQ h 8) (-1) k := fun k k1 k2 => by
      rw [e24, if_neg (by omega), e23]
      by_cases y : k = fwQ h 8
      · rw [if_pos ⟨rfl, y⟩, y, fw1_at]; rfl
      · rw [if_neg (fun x => y x.2), fw1_ne h (-1) y]
        exact n18 k k1 k2
    have w24 : ∀ k, 1 ≤ k → k ≤ 8 → J24 21 k = if k = fwQ h 8 then 1 else 0 := fun k k1 k2 => by
      rw [e24]
      by_cases y : k = fwQ h 8
      · rw [if_pos ⟨rfl, y⟩, if_pos y]
      · rw [if_neg (fun x => y x.2), if_neg y, e23, if_neg (by omega)]
        exact z18 k k1 k2
    have gs := fw_gS ho hB hg0
    have es : Wq (wr32 (J24 (0 + 1) 1 - ((fwQ h 8 : Nat) : Int))) (S - ((fwQ h 8 : Nat) : Int)) := by
      show wr32 (J24 (0 + 1) 1 - ((fwQ h 8 : Nat) : Int)) = S - ((fwQ h 8 : Nat) : Int)
      have : J24 (0 + 1) 1 = S := (f24 1 1 (by decide) (by decide)).trans ((fr 1 1 (by decide)).trans hR16.2.2.2.2)
      rw [this, wr32_i2 (by omega) (by omega)]
    have vr := fwV_rng S h
    have ev : Wq (wr32 (fwV S h - 1)) (fwV S h - 1) := wr32_i2 (by omega) (by omega)
    rw [es.e, ev.e]
    refine par_zb (fx_gXF (fu := fu) 20 (fw1 h (fwQ h 8) (-1)) J24 (fwQ h 8) (S - ((fwQ h 8 : Nat) : Int)) (fwV S h - 1) a1 (by omega) (by omega) (fwB_1 hB a2') (fxR_mv hR16 (fun j => (f24 20 j (by decide) (by decide)).trans (fr 20 j (by decide))) ((f24 1 1 (by decide) (by decide)).trans (fr 1 1 (by decide)))) (fun d hd => by rw [f24 18 _ (by decide) (by decide)]; exact mm d hd) v24 (fun k k1 k2 => ?_)) (fun y25 J26 ⟨_, _, hy⟩ => ?_)
    · rw [w24 k k1 k2]
      split <;> omega
    · have fin : ∀ y, ((∀ f, fwF (fw1 h (fwQ h 8) (-1)) (fwQ h 8) (S - (fwQ h 8 : Nat)) f → fwV S (fun k => fw1 h (fwQ h 8) (-1) k - f k) ≠ fwV S h - 1) ∨ ∃ f, fwF (fw1 h (fwQ h 8) (-1)) (fwQ h 8) (S - (fwQ h 8 : Nat)) f ∧ fwV S (fun k => fw1 h (fwQ h 8) (-1) k - f k) = fwV S h - 1 ∧ (∀ f2, fwF (fw1 h (fwQ h 8) (-1)) (fwQ h 8) (S - (fwQ h 8 : Nat)) f2 → fwV S (fun k => fw1 h (fwQ h 8) (-1) k - f2 k) = fwV S h - 1 → fwL f2 f 8 = true) ∧ (1 ≤ a.toNat → y = fw1 f (fwQ h 8) 1 a.toNat)) → fwD h S a y := fun y w => Or.inr ⟨ha, Or.inr ⟨ho, Or.inr ⟨z, Or.inr ⟨z2, hg0, w⟩⟩⟩⟩
      rcases hy with ⟨y1, _, y3⟩ | ⟨y1, f, f1, f2, f3, f4⟩
      · rw [if_pos y1]
        exact par_zr (fin _ (Or.inl y3))
      · rw [if_neg y1]
        refine par_zg (fun _ => par_zr (fin _ (Or.inr ⟨f, f1, f2, f4, fun ha1 => ?_⟩)))
        show J26 21 a.toNat = _
        rw [f3 a.toNat ha1 (by omega), w24 a.toNat ha1 (by omega)]
        unfold fw1
        split <;> omega
  · rw [if_neg ha, if_pos rfl]
    exact par_zr (Or.inl ⟨ha, rfl⟩)
/-- both answers -/
theorem fw_same {h : Nat → Int} {S a y y2 : Int} (hS : S ≤ 8) (hh : fwH h) (ht : fwT h 8 ≤ 12) (hA : fwA h S a y) (hD : fwD h S a y2) : y = y2 := by
  rcases hA with ⟨a1, a2⟩ | ⟨a1, hA⟩
  · rcases hD with ⟨_, b2⟩ | ⟨b1, _⟩
    · omega
    · exact absurd b1 a1
  rcases hD with ⟨b1, _⟩ | ⟨_, hD⟩
  · exact absurd a1 b1
  rcases hA with ⟨o1, o2⟩ | ⟨o1, hA⟩
  · rcases hD with ⟨_, p2⟩ | ⟨p1, _⟩
    · omega
    · exact absurd p1 o1
  rcases hD with ⟨p1, _⟩ | ⟨_, hD⟩
  · exact absurd o1 p1
  rcases hA with ⟨c1, c2⟩ | ⟨c1, hA⟩
  · rcases hD with ⟨_, d2⟩ | ⟨d1, _⟩
    · omega
    · exact absurd c1 d1
  rcases hD with ⟨d1, _⟩ | ⟨_, hD⟩
  · exact absurd d1 c1
  rcases hA with ⟨q1, q2⟩ | ⟨q1, r, r1, r2, r3, r4, r5⟩
  · rcases hD with ⟨_, v2⟩ | ⟨_, g1, _⟩
    · omega
    · exact absurd q1 g1
  · rcases hD with ⟨v1, _⟩ | ⟨_, g1, hD⟩
    · have := (fwV_rng S (fun k => h k - fwY r k)).1
      omega
    · have un := fw_unfill r1 r2 q1
      have ue : fwV S (fun k => fw1 h (fwQ h 8) (-1) k - fw1 (fwY r) (fwQ h 8) (-1) k) = fwV S h - 1 := by
        rw [← r3]
        exact fwV_ext S (fun k _ _ => by
          unfold fw1
          split <;> omega)
      rcases hD with w | ⟨f, f1, f2, f3, f4⟩
      · exact absurd ue (w _ un)
      · have ha : 1 ≤ a.toNat := by omega
        rw [f4 ha, r5]
        exact fw_first hS q1 r1 r2 r3 r4 f1 f2 f3 a.toNat ha (by omega)
theorem pj_fewest (a : Int) {I J : IMem} (h : RJ I J) (hg : GX 0 J) (hK : fwK I) : pq (f_S_fewest fu 0 a I) (f_X_fewest fu 0 a J) (fun x I2 y _ => x = y ∧ fwK I2) := by
  have hS : HS 1 1 I J := h.1.1.1
  obtain ⟨w1, w2⟩ := hg.2.1.2.2.2.2.1
  have w3 : J 1 61 + J 1 62 + J 1 63 + J 1 64 + J 1 65 + J 1 66 + J 1 67 + J 1 68 ≤ 12 := w2
  have hh : fwH (fun k => J 1 (60 + k)) := w1
  have ht : fwT (fun k => J 1 (60 + k)) 8 ≤ 12 := by
    have e : fwT (fun k => J 1 (60 + k)) 8 = 0 + J 1 61 + J 1 62 + J 1 63 + J 1 64 + J 1 65 + J 1 66 + J 1 67 + J 1 68 := rfl
    omega
  have s8 := (gx_facts hg).1.2
  have hI : ∀ k : Nat, 1 ≤ k → k ≤ 8 → I 6 k = J 1 (60 + k) := fun k k1 k2 => hS.2.2.2.2.2.2 k k1 k2
  have h2 : I 2 0 = J 1 1 := hS.1 0 (by decide)
  exact pq_of (fp_fewest (h := fun k => J 1 (60 + k)) a s8 hh ht I hK hI h2) (fx_fewest (h := fun k => J 1 (60 + k)) a s8 hh ht J (fun _ _ _ => rfl) rfl) (fun x I2 y _ ⟨k2, hA⟩ hD => ⟨fw_same s8 hh ht hA hD, k2⟩)
end
