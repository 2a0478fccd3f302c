/-! FEWEST in the reference -/
section
variable {fu : Nat} {Q : Int → IMem → Prop}
theorem fx_great {J : IMem} : ∀ (m w : Nat), w ≤ 8 → (∀ k, w < k → k ≤ 8 → ¬ 0 < J 19 k) → par (f_X_greatest_3 fu 0 m (w : Int) J) (fun y J2 => J2 = J ∧ y = ((fwQ (J 19) 8 : Nat) : Int)) := by
  intro m
  induction m with
  | zero => intro _ _ _; exact par_none
  | succ m ih =>
    intro w h8 hw
    show par (fb_X_greatest_3 fu 0 (f_X_greatest_3 fu 0 m) (w : Int) J) _
    unfold fb_X_greatest_3
    by_cases h : w = 0
    · subst h
      rw [if_neg (show ¬ 0 < ((0 : Nat) : Int) by omega)]
      have e : fwQ (J 19) 8 = 0 := fwQ_of (by decide) (fun z => absurd rfl z) hw
      rw [e]
      exact par_zr ⟨rfl, rfl⟩
    · rw [if_pos (show 0 < (w : Int) by omega)]
      refine par_zg (fun _ => ?_)
      have ec : J (0 + 19) ((w : Nat) : Int).toNat = J 19 w := rfl
      rw [ec]
      refine par_ite (fun q => ?_) (fun q => ?_)
      · have e : fwQ (J 19) 8 = w := fwQ_of h8 (fun _ => q) hw
        rw [e]
        exact par_zr ⟨rfl, rfl⟩
      · have e2 : Wq (wr32 ((w : Int) + (-1))) (((w - 1 : Nat) : Int)) := by show wr32 ((w : Int) + (-1)) = ((w - 1 : Nat) : Int); rw [wr32_i2 (by omega) (by omega)]; omega
        simp only [zl_e]
        rw [e2.e]
        refine ih (w - 1) (by omega) (fun k k1 k2 => ?_)
        by_cases y : k = w
        · rw [y]; exact q
        · exact hw k (by omega) k2
/-- what stays while chairs are counted -/
def fxR (h : Nat → Int) (S : Int) (J : IMem) : Prop := fwH h ∧ fwT h 8 ≤ 12 ∧ (S ≤ 8 ∧ fwO h S) ∧ (∀ k, 1 ≤ k → k ≤ 8 → J 20 k = fwR h k) ∧ J 1 1 = S
def fxM (h : Nat → Int) (S : Int) (J : IMem) : Prop := ∀ d, fwB h d → J 18 (nr (fwR h) d 8).toNat = -1 ∨ J 18 (nr (fwR h) d 8).toNat = fwV S d
def fxF (J J2 : IMem) : Prop := ∀ q j, q ≠ 18 → J2 q j = J q j
theorem fxR_mv {h : Nat → Int} {S : Int} {J J2 : IMem} (hR : fxR h S J) (h1 : ∀ j, J2 20 j = J 20 j) (h2 : J2 1 1 = J 1 1) : fxR h S J2 := ⟨hR.1, hR.2.1, hR.2.2.1, fun k a b => (h1 k).trans (hR.2.2.2.1 k a b), h2.trans hR.2.2.2.2⟩
theorem fx_num {h : Nat → Int} {S : Int} {J : IMem} {c : Nat → Int} (hR : fxR h S J) (hc : fwB h c) (hn : ∀ k, 1 ≤ k → k ≤ 8 → J 19 k = c k) : ∀ (m v : Nat), v ≤ 8 → par (f_X_number0_4 fu 0 m (nr (fwR h) c v) ((v + 1 : Nat) : Int) J) (fun y J2 => J2 = J ∧ y = nr (fwR h) c 8) := by
  obtain ⟨hh, ht, ho, hr, hs⟩ := hR
  intro m
  induction m with
  | zero => intro _ _; exact par_none
  | succ m ih =>
    intro v hv
    show par (fb_X_number0_4 fu 0 (f_X_number0_4 fu 0 m) (nr (fwR h) c v) ((v + 1 : Nat) : Int) J) _
    unfold fb_X_number0_4
    by_cases h8 : v < 8
    · rw [if_neg (show ¬ 8 < ((v + 1 : Nat) : Int) by omega)]
      have ec : J (0 + 19) ((v + 1 : Nat) : Int).toNat = c (v + 1) := hn (v + 1) (by omega) (by omega)
      have er : J (0 + 20) ((v + 1 : Nat) : Int).toNat = fwR h (v + 1) := hr (v + 1) (by omega) (by omega)
      have b96 := fwR_le hh ht (k := v + 1 + 1) (by omega) (by omega)
      have n1 := nr_rng hh hc v (by omega)
      have n2 := nr_rng hh hc (v + 1) (by omega)
      rw [nr_s] at n2
      have p0 : 0 ≤ fwR h (v + 1) * c (v + 1) := Int.mul_nonneg (by have := (fwR_le hh ht (k := v + 1) (by omega) (by omega)).1; omega) (hc (v + 1) (by omega) (by omega)).1
      refine par_zg (fun _ => par_zg (fun _ => ?_))
      rw [ec, er]
      have e1 : Wq (wr32 (nr (fwR h) c v + wr32 (fwR h (v + 1) * c (v + 1)))) (nr (fwR h) c (v + 1)) := by
        show wr32 (nr (fwR h) c v + wr32 (fwR h (v + 1) * c (v + 1))) = nr (fwR h) c (v + 1)
        rw [wr32_i2 (x := fwR h (v + 1) * c (v + 1)) (by omega) (by omega), wr32_i2 (by omega) (by omega), nr_s]
      have e2 : Wq (wr32 (((v + 1 : Nat) : Int) + 1)) (((v + 1 + 1 : Nat) : Int)) := by show wr32 (((v + 1 : Nat) : Int) + 1) = ((v + 1 + 1 : Nat) : Int); rw [wr32_i2 (by omega) (by omega)]; rfl
      simp only [zl_e]
      rw [e1.e, e2.e]
      exact ih (v + 1) (by omega)
    · have e8 : v = 8 := by omega
      subst e8
      rw [if_pos (show 8 < ((8 + 1 : Nat) : Int) by omega)]
      exact par_zr ⟨rfl, rfl⟩
def fxN (h : Nat → Int) (S : Int) (F : Nat → IMem → Res) : Prop := ∀ (c : Nat → Int) (J : IMem), fwB h c → fxR h S J → fxM h S J → (∀ k, 1 ≤ k → k ≤ 8 → J 19 k = c k) → par (F 0 J) (fun y J2 => y = fwV S c ∧ fxF J J2 ∧ fxM h S J2)
def fxB (h : Nat → Int) (S : Int) (F : Nat → Int → Int → IMem → Res) : Prop := ∀ (c : Nat → Int) (J : IMem) (g : Nat) (s : Int), g ≤ 8 → 0 ≤ s → s ≤ 8 → fwB h c → fxR h S J → fxM h S J → (∀ k, 1 ≤ k → k ≤ 8 → J 19 k = c k) → par (F 0 (g : Int) s J) (fun y J2 => ((∃ f, fwF c g s f ∧ fwV S (fun k => c k - f k) = y) ∧ ∀ f, fwF c g s f → y ≤ fwV S (fun k => c k - f k)) ∧ fxF J J2 ∧ fxM h S J2)
theorem fx_needs {h : Nat → Int} {S : Int} {R : (Nat → IMem → Res) × (Nat → Int → Int → IMem → Res)} (h2 : fxB h S R.2) : fxN h S (fb_X_needs fu R) := by
  intro c J hc hR hM hn
  unfold fb_X_needs
  have eq : fwQ (J 19) 8 = fwQ c 8 := fwQ_ext 8 hn
  obtain ⟨a1, a2, a3⟩ := fwQ_spec c 8
  obtain ⟨hh, ht, ⟨hS8, hO⟩, hr, hs⟩ := id hR
  have hg1 : par (f_X_greatest fu 0 J) (fun y J2 => J2 = J ∧ y = ((fwQ (J 19) 8 : Nat) : Int)) := by
    unfold f_X_greatest
    exact fx_great fu 8 (Nat.le_refl _) (fun k k1 k2 => by omega)
  rw [eq] at hg1
  refine par_zb hg1 (fun y1 J2 ⟨e1, e2⟩ => ?_)
  subst e1
  subst e2
  refine par_ite (fun z => par_zr ⟨(fwV_0 (by omega)).symm, fun _ _ _ => rfl, hM⟩) (fun z => ?_)
  have hg : fwQ c 8 ≠ 0 := by omega
  have a2' := a2 hg
  have hnum : par (f_X_number0 fu 0 J2) (fun y J3 => J3 = J2 ∧ y = nr (fwR h) c 8) := by
    unfold f_X_number0
    exact fx_num hR hc hn fu 0 (Nat.zero_le _)
  refine par_zb hnum (fun y4 J3 ⟨e3, e4⟩ => ?_)
  subst e3
  subst e4
  have nn := nr_rng hh hc 8 (Nat.le_refl _)
  have b96 := fwR_1296 hh ht
  have e9 : fwR h (8 + 1) = fwR h 9 := rfl
  refine par_zg (fun _ => par_ite (fun z2 => ?_) (fun z2 => par_zg (fun _ => par_zr ⟨(hM c hc).resolve_left z2, fun _ _ _ => rfl, hM⟩)))
  refine par_zg (fun _ => par_zg (fun _ => par_zw' (fun J7 e7 => ?_)))
  have en : J3 (0 + 19) ((fwQ c 8 : Nat) : Int).toNat = c (fwQ c 8) := hn _ (by omega) a1
  have ch := hc (fwQ c 8) (by omega) a1
  have hb9 := (fwT_ge (f := h) 8 hh).2 (fwQ c 8) (by omega) a1
  rw [en, tn, wr32_i2 (by omega) (by omega)] at e7
  have f7 : ∀ q j, q ≠ 19 → J7 q j = J3 q j := fun q j hq => by rw [e7, if_neg (fun x => hq x.1)]
  have v7 : ∀ k, 1 ≤ k → k ≤ 8 → J7 19 k = fw1 c (fwQ c 8) (-1) k := fun k k1 k2 => by
    rw [e7]
    by_cases y : k = fwQ c 8
    · rw [if_pos ⟨rfl, y⟩, y, fw1_at]; rfl
    · rw [if_neg (fun x => y x.2), fw1_ne c (-1) y]
      exact hn k k1 k2
  have gs := fw_gS hO hc hg
  have es : Wq (wr32 (J7 (0 + 1) 1 - ((fwQ c 8 : Nat) : Int))) (S - ((fwQ c 8 : Nat) : Int)) := by
    show wr32 (J7 (0 + 1) 1 - ((fwQ c 8 : Nat) : Int)) = S - ((fwQ c 8 : Nat) : Int)
    have : J7 (0 + 1) 1 = S := (f7 1 1 (by decide)).trans hs
    rw [this, wr32_i2 (by omega) (by omega)]
  rw [es.e]
  refine par_zb (h2 (fw1 c (fwQ c 8) (-1)) J7 (fwQ c 8) (S - ((fwQ c 8 : Nat) : Int)) a1 (by omega) (by omega) (fwB_1 hc a2') (fxR_mv hR (fun j => f7 20 j (by decide)) (f7 1 1 (by decide))) (fun d hd => by rw [f7 18 _ (by decide)]; exact hM d hd) v7) (fun y8 J9 ⟨⟨m1, m2⟩, fr, mm⟩ => ?_)
  have tc : fwT c 8 ≤ 12 := Int.le_trans (fwT_le 8 (fun k k1 k2 => (hc k k1 k2).2)) ht
  have ev := fwV_min hS8 (fun k k1 k2 => (hc k k1 k2).1) tc hg m1 m2
  have vr := fwV_rng S c
  have ex : Wq (wr32 (1 + y8)) (fwV S c) := by
    show wr32 (1 + y8) = fwV S c
    rw [← ev, wr32_i2 (by omega) (by omega)]
  simp only [zl_e]
  rw [ex.e]
  refine par_zg (fun _ => par_zg (fun _ => par_zw' (fun J12 e12 => par_zg (fun _ => par_zw' (fun J13 e13 => par_zr ⟨rfl, ?_, ?_⟩)))))
  · have en9 : J9 (0 + 19) ((fwQ c 8 : Nat) : Int).toNat = c (fwQ c 8) - 1 := (fr 19 _ (by decide)).trans ((v7 _ (by omega) a1).trans (fw1_at c (fwQ c 8) (-1)))
    rw [en9, tn, wr32_i2 (by omega) (by omega)] at e12
    intro q j hq
    rw [e13, if_neg (fun x => hq x.1), e12]
    by_cases y : q = 0 + 19 ∧ j = fwQ c 8
    · rw [if_pos y, y.1, y.2]
      have := hn (fwQ c 8) (by omega) a1
      show c (fwQ c 8) - 1 + 1 = J3 19 (fwQ c 8)
      omega
    · rw [if_neg y, fr q j hq, e7, if_neg y]
  · intro d hd
    have dr := nr_rng hh hd 8 (Nat.le_refl _)
    rw [e13]
    by_cases y : nr (fwR h) d 8 = nr (fwR h) c 8
    · rw [if_pos ⟨rfl, by rw [y]⟩]
      exact Or.inr (fwV_ext S (nr_inj hh hc hd 8 (Nat.le_refl _) y.symm))
    · rw [if_neg (fun x => y (by omega)), e12, if_neg (by omega)]
      exact mm d hd
theorem fwF_0 {c : Nat → Int} {s : Int} (hc : ∀ k, 1 ≤ k → k ≤ 8 → 0 ≤ c k) (hs : 0 ≤ s) : fwF c 0 s (fun _ => 0) := ⟨fun k k1 k2 => ⟨Int.le_refl _, hc k k1 k2⟩, fun _ _ _ => rfl, hs⟩
theorem fwF_s {c f : Nat → Int} {g : Nat} {s : Int} (hf : fwF c g s f) : fwF c (g + 1) s f := ⟨hf.1, fun k k1 k2 => hf.2.1 k (by omega) k2, hf.2.2⟩
theorem fwF_p {c f : Nat → Int} {g : Nat} {s : Int} (hf : fwF c (g + 1) s f) (h0 : f (g + 1) = 0) : fwF c g s f := ⟨hf.1, fun k k1 k2 => by
  by_cases y : k = g + 1
  · rw [y]; exact h0
  · exact hf.2.1 k (by omega) k2, hf.2.2⟩
theorem fwF_u {c f : Nat → Int} {g : Nat} {s : Int} (hg : g + 1 ≤ 8) (hf : fwF (fw1 c (g + 1) (-1)) (g + 1) (s - ((g + 1 : Nat) : Int)) f) : fwF c (g + 1) s (fw1 f (g + 1) 1) := by
  obtain ⟨f1, f2, f3⟩ := hf
  have es := fwS_1 f (g := g + 1) (by omega) 8
  rw [if_pos hg] at es
  refine ⟨fun k k1 k2 => ?_, fun k k1 k2 => ?_, by rw [es]; omega⟩
  · have a := f1 k k1 k2
    unfold fw1 at a ⊢
    split
    · rename_i y
      rw [if_pos y] at a
      omega
    · rename_i y
      rw [if_neg y] at a
      exact a
  · rw [fw1_ne f 1 (by omega)]
    exact f2 k k1 k2
theorem fwF_d {c f : Nat → Int} {g : Nat} {s : Int} (hg : g + 1 ≤ 8) (hf : fwF c (g + 1) s f) (h0 : f (g + 1) ≠ 0) : fwF (fw1 c (g + 1) (-1)) (g + 1) (s - ((g + 1 : Nat) : Int)) (fw1 f (g + 1) (-1)) := by
  obtain ⟨f1, f2, f3⟩ := hf
  have es := fwS_1 (fw1 f (g + 1) (-1)) (g := g + 1) (by omega) 8
  rw [if_pos hg] at es
  have ee : fwS (fw1 (fw1 f (g + 1) (-1)) (g + 1) 1) 8 = fwS f 8 := fwS_ext 8 (fun k _ _ => by
    unfold fw1
    split
    · omega
    · rfl)
  rw [ee] at es
  refine ⟨fun k k1 k2 => ?_, fun k k1 k2 => ?_, by omega⟩
  · have a := f1 k k1 k2
    unfold fw1
    split
    · rename_i y
      rw [y] at a ⊢
      omega
    · exact a
  · rw [fw1_ne f (-1) (by omega)]
    exact f2 k k1 k2
theorem fx_behind {h : Nat → Int} {S : Int} {R : (Nat → IMem → Res) × (Nat → Int → Int → IMem → Res)} (h1 : fxN h S R.1) (h2 : fxB h S R.2) : fxB h S (fb_X_fewestBehind fu R) := by
  intro c J g s hg8 hs0 hs8 hc hR hM hn
  unfold fb_X_fewestBehind
  have c0 : ∀ k, 1 ≤ k → k ≤ 8 → 0 ≤ c k := fun k k1 k2 => (hc k k1 k2).1
  cases g with
  | zero =>
    rw [if_pos (show ((0 : Nat) : Int) = 0 from rfl)]
    refine par_zb (h1 c J hc hR hM hn) (fun y J2 ⟨ey, fr, mm⟩ => par_zr ⟨⟨⟨fun _ => 0, fwF_0 c0 hs0, ?_⟩, fun f hf => ?_⟩, fr, mm⟩)
    · rw [ey]
      exact fwV_ext S (fun k _ _ => Int.sub_zero _)
    · rw [ey]
      refine Int.le_of_eq (fwV_ext S (fun k k1 k2 => ?_))
      rw [hf.2.1 k (by omega) k2, Int.sub_zero]
  | succ g =>
    rw [if_neg (show ¬ ((g + 1 : Nat) : Int) = 0 by omega)]
    have e1 : Wq (wr32 (((g + 1 : Nat) : Int) - 1)) ((g : Int)) := by show wr32 (((g + 1 : Nat) : Int) - 1) = (g : Int); rw [wr32_i2 (by omega) (by omega)]; omega
    rw [e1.e]
    refine par_zb (h2 c J g s (by omega) hs0 hs8 hc hR hM hn) (fun y1 J2 ⟨⟨⟨f0, hf0, ef0⟩, m2⟩, fr, mm⟩ => ?_)
    refine par_zg (fun _ => ?_)
    have en : J2 (0 + 19) ((g + 1 : Nat) : Int).toNat = c (g + 1) := (fr 19 _ (by decide)).trans (hn (g + 1) (by omega) hg8)
    rw [en]
    have stay : (∀ f, fwF c (g + 1) s f → f (g + 1) = 0) → (((∃ f, fwF c (g + 1) s f ∧ fwV S (fun k => c k - f k) = y1) ∧ ∀ f, fwF c (g + 1) s f → y1 ≤ fwV S (fun k => c k - f k)) ∧ fxF J J2 ∧ fxM h S J2) := fun hz => ⟨⟨⟨f0, fwF_s hf0, ef0⟩, fun f hf => m2 f (fwF_p hf (hz f hf))⟩, fr, mm⟩
    refine par_ite (fun z => par_zr (stay (fun f hf => ?_))) (fun z => par_ite (fun z2 => par_zr (stay (fun f hf => ?_))) (fun z2 => ?_))
    · have := hf.1 (g + 1) (by omega) hg8
      omega
    · have a := hf.1 (g + 1) (by omega) hg8
      have b := (fwS_nn (f := f) 8 (fun k k1 k2 => (hf.1 k k1 k2).1)).2 (g + 1) (by omega) hg8
      have d := hf.2.2
      rcases (show 0 < f (g + 1) ∨ f (g + 1) ≤ 0 by omega) with y | y
      · have e := Int.mul_le_mul_of_nonneg_left (show 1 ≤ f (g + 1) by omega) (show 0 ≤ ((g + 1 : Nat) : Int) by omega)
        omega
      · omega
    · obtain ⟨hh, ht, ⟨hS8, hO⟩, hr, hs⟩ := id hR
      have ch := hc (g + 1) (by omega) hg8
      have hb9 := (fwT_ge (f := h) 8 hh).2 (g + 1) (by omega) hg8
      refine par_zg (fun _ => par_zg (fun _ => par_zw' (fun J4 e4 => ?_)))
      rw [tn, wr32_i2 (by omega) (by omega)] at e4
      have f4 : ∀ q j, q ≠ 19 → J4 q j = J2 q j := fun q j hq => by rw [e4, if_neg (fun x => hq x.1)]
      have v4 : ∀ k, 1 ≤ k → k ≤ 8 → J4 19 k = fw1 c (g + 1) (-1) k := fun k k1 k2 => by
        rw [e4]
        by_cases y : k = g + 1
        · rw [if_pos ⟨rfl, y⟩, y, fw1_at]; rfl
        · rw [if_neg (fun x => y x.2), fw1_ne c (-1) y]
          exact (fr 19 k (by decide)).trans (hn k k1 k2)
      have e2 : Wq (wr32 (s - ((g + 1 : Nat) : Int))) (s - ((g + 1 : Nat) : Int)) := wr32_i2 (by omega) (by omega)
      rw [e2.e]
      refine par_zb (h2 (fw1 c (g + 1) (-1)) J4 (g + 1) (s - ((g + 1 : Nat) : Int)) hg8 (by omega) (by omega) (fwB_1 hc (by omega)) (fxR_mv hR (fun j => (f4 20 j (by decide)).trans (fr 20 j (by decide))) ((f4 1 1 (by decide)).trans (fr 1 1 (by decide)))) (fun d hd => by rw [f4 18 _ (by decide)]; exact mm d hd) v4) (fun y5 J6 ⟨⟨⟨f5, hf5, ef5⟩, m5⟩, fr6, mm6⟩ => ?_)
      refine par_zg (fun _ => par_zg (fun _ => par_zw' (fun J8 e8 => ?_)))
      have en6 : J6 (0 + 19) ((g + 1 : Nat) : Int).toNat = c (g + 1) - 1 := (fr6 19 _ (by decide)).trans ((v4 _ (by omega) hg8).trans (fw1_at c (g + 1) (-1)))
      rw [en6, tn, wr32_i2 (by omega) (by omega)] at e8
      have fr8 : fxF J J8 := fun q j hq => by
        rw [e8]
        by_cases y : q = 0 + 19 ∧ j = g + 1
        · rw [if_pos y, y.1, y.2]
          have := hn (g + 1) (by omega) hg8
          show c (g + 1) - 1 + 1 = J 19 (g + 1)
          omega
        · rw [if_neg y, fr6 q j hq, e4, if_neg y, fr q j hq]
      have mm8 : fxM h S J8 := fun d hd => by
        rw [e8, if_neg (by omega)]
        exact mm6 d hd
      have all : ∀ f, fwF c (g + 1) s f → f (g + 1) ≠ 0 → y5 ≤ fwV S (fun k => c k - f k) := fun f hf h0 => by
        have a := m5 _ (fwF_d hg8 hf h0)
        have e : fwV S (fun k => fw1 c (g + 1) (-1) k - fw1 f (g + 1) (-1) k) = fwV S (fun k => c k - f k) := fwV_ext S (fun k _ _ => by
          unfold fw1
          split <;> omega)
        rw [e] at a
        exact a
      have ev5 : fwV S (fun k => c k - fw1 f5 (g + 1) 1 k) = y5 := by
        rw [← ef5]
        exact fwV_ext S (fun k _ _ => (fw_less c f5 (g + 1) k).symm)
      refine par_ite (fun z3 => par_zr ⟨⟨⟨_, fwF_u hg8 hf5, ev5⟩, fun f hf => ?_⟩, fr8, mm8⟩) (fun z3 => par_zr ⟨⟨⟨f0, fwF_s hf0, ef0⟩, fun f hf => ?_⟩, fr8, mm8⟩)
      · by_cases h0 : f (g + 1) = 0
        · have := m2 f (fwF_p hf h0)
          omega
        · exact all f hf h0
      · by_cases h0 : f (g + 1) = 0
        · exact m2 f (fwF_p hf h0)
        · have := all f hf h0
          omega
theorem fx_gXN {h : Nat → Int} {S : Int} : ∀ n, fxN h S (gXN fu n).1 ∧ fxB h S (gXN fu n).2 := by
  intro n
  induction n with
  | zero => exact ⟨fun _ _ _ _ _ _ => par_none, fun _ _ _ _ _ _ _ _ _ _ _ => par_none⟩
  | succ n ih => exact ⟨fx_needs (fu := fu) ih.2, fx_behind (fu := fu) ih.1 ih.2⟩
theorem fx_need {h : Nat → Int} {S : Int} : fxN h S (f_X_needs fu) := fun c J a b d e => (fx_gXN (fu := fu) 300).1 c J a b d e
/-- FIRST, tried from the most down -/
def fxT (h : Nat → Int) (S : Int) (F : Nat → Int → Int → Int → IMem → Res) : Prop := ∀ (c : Nat → Int) (J : IMem) (g : Nat) (s rest : Int), g ≤ 8 → 0 ≤ s → s ≤ 8 → fwB h c → fxR h S J → fxM h S J → (∀ k, 1 ≤ k → k ≤ 8 → J 19 k = c k) → (∀ k, 1 ≤ k → k ≤ 8 → 0 ≤ J 21 k ∧ J 21 k ≤ 100 - 10 * (g : Int)) → par (F 0 (g : Int) s rest J) (fun y J2 => (∀ q j, q ≠ 18 → q ≠ 21 → J2 q j = J q j) ∧ fxM h S J2 ∧ ((y = 0 ∧ (∀ j, J2 21 j = J 21 j) ∧ ∀ f, fwF c g s f → fwV S (fun k => c k - f k) ≠ rest) ∨ (y ≠ 0 ∧ ∃ f, fwF c g s f ∧ fwV S (fun k => c k - f k) = rest ∧ (∀ k, 1 ≤ k → k ≤ 8 → J2 21 k = J 21 k + f k) ∧ ∀ f2, fwF c g s f2 → fwV S (fun k => c k - f2 k) = rest → fwL f2 f 8 = true)))
theorem fx_fill0 {h : Nat → Int} {S : Int} {R : Nat → Int → Int → Int → IMem → Res} {c : Nat → Int} {J : IMem} {s rest : Int} (hs0 : 0 ≤ s) (hc : fwB h c) (hR : fxR h S J) (hM : fxM h S J) (hn : ∀ k, 1 ≤ k → k ≤ 8 → J 19 k = c k) : par (fb_X_fillsFirst fu R 0 ((0 : Nat) : Int) s rest J) (fun y J2 => (∀ q j, q ≠ 18 → q ≠ 21 → J2 q j = J q j) ∧ fxM h S J2 ∧ ((y = 0 ∧ (∀ j, J2 21 j = J 21 j) ∧ ∀ f, fwF c 0 s f → fwV S (fun k => c k - f k) ≠ rest) ∨ (y ≠ 0 ∧ ∃ f, fwF c 0 s f ∧ fwV S (fun k => c k - f k) = rest ∧ (∀ k, 1 ≤ k → k ≤ 8 → J2 21 k = J 21 k + f k) ∧ ∀ f2, fwF c 0 s f2 → fwV S (fun k => c k - f2 k) = rest → fwL f2 f 8 = true))) := by
  unfold fb_X_fillsFirst
  rw [if_pos (show ((0 : Nat) : Int) = 0 from rfl)]
  have z : ∀ f, fwF c 0 s f → fwV S (fun k => c k - f k) = fwV S c := fun f hf => fwV_ext S (fun k k1 k2 => by rw [hf.2.1 k (by omega) k2, Int.sub_zero])
  refine par_zb (fx_need c J hc hR hM hn) (fun y J2 ⟨ey, fr, mm⟩ => ?_)
  refine par_ite (fun q => par_zr ⟨fun a b x _ => fr a b x, mm, Or.inr ⟨by decide, fun _ => 0, fwF_0 (fun k k1 k2 => (hc k k1 k2).1) hs0, ?_, fun k _ _ => ?_, fun f2 hf2 _ => ?_⟩⟩) (fun q => par_zr ⟨fun a b x _ => fr a b x, mm, Or.inl ⟨rfl, fun j => fr 21 j (by decide), fun f hf => ?_⟩⟩)
  · rw [z _ (fwF_0 (fun k k1 k2 => (hc k k1 k2).1) hs0), ← ey]; exact q
  · rw [fr 21 k (by decide), Int.add_zero]
  · rw [fwL_ext (f2 := fun _ => 0) (g2 := fun _ => 0) 8 (fun k k1 k2 => hf2.2.1 k (by omega) k2) (fun _ _ _ => rfl)]
    exact fwL_refl _ 8
  · rw [z f hf, ← ey]; exact q
theorem fwF_up {c f : Nat → Int} {g : Nat} {s n : Int} (hg : g + 1 ≤ 8) (h0 : 0 ≤ n) (hf : fwF (fw1 c (g + 1) (-n)) g (s - n * ((g + 1 : Nat) : Int)) f) : fwF c (g + 1) s (fw1 f (g + 1) n) := by
  obtain ⟨f1, f2, f3⟩ := hf
  have z := f2 (g + 1) (by omega) hg
  have es := fwS_d f (g := g + 1) n (by omega) 8
  rw [if_pos hg, Int.mul_comm] at es
  refine ⟨fun k k1 k2 => ?_, fun k k1 k2 => ?_, by rw [es]; omega⟩
  · have a := f1 k k1 k2
    unfold fw1 at a ⊢
    by_cases y : k = g + 1
    · rw [if_pos y] at a ⊢
      rw [y, z]
      rw [y, z] at a
      omega
    · rw [if_neg y] at a ⊢
      exact a
  · rw [fw1_ne f n (by omega)]
    exact f2 k (by omega) k2
theorem fwF_down {c f : Nat → Int} {g : Nat} {s n : Int} (hg : g + 1 ≤ 8) (hf : fwF c (g + 1) s f) (h0 : f (g + 1) = n) : fwF (fw1 c (g + 1) (-n)) g (s - n * ((g + 1 : Nat) : Int)) (fw1 f (g + 1) (-n)) := by
  obtain ⟨f1, f2, f3⟩ := hf
  have es := fwS_d (fw1 f (g + 1) (-n)) (g := g + 1) n (by omega) 8
  rw [if_pos hg, Int.mul_comm] at es
  have ee : fwS (fw1 (fw1 f (g + 1) (-n)) (g + 1) n) 8 = fwS f 8 := fwS_ext 8 (fun k _ _ => by
    unfold fw1
    split
    · omega
    · rfl)
  rw [ee] at es
  refine ⟨fun k k1 k2 => ?_, fun k k1 k2 => ?_, by omega⟩
  · have a := f1 k k1 k2
    unfold fw1
    by_cases y : k = g + 1
    · rw [if_pos y, if_pos y, y, h0]
      rw [y, h0] at a
      omega
    · rw [if_neg y, if_neg y]
      exact a
  · by_cases y : k = g + 1
    · rw [y, fw1_at, h0]; omega
    · rw [fw1_ne f (-n) y]
      exact f2 k (by omega) k2
theorem fx_fill48 {h : Nat → Int} {S : Int} {R : Nat → Int → Int → Int → IMem → Res} (hT : fxT h S R) {c : Nat → Int} {J0 : IMem} {g : Nat} {s rest : Int} (hg : g + 1 ≤ 8) (hs0 : 0 ≤ s) (hs8 : s ≤ 8) (hc : fwB h c) (hR0 : fxR h S J0) (hn0 : ∀ k, 1 ≤ k → k ≤ 8 → J0 19 k = c k) (h21 : ∀ k, 1 ≤ k → k ≤ 8 → 0 ≤ J0 21 k ∧ J0 21 k ≤ 100 - 10 * ((g + 1 : Nat) : Int)) : ∀ (m i : Nat) (J : IMem), (i : Int) - 1 ≤ c (g + 1) → ((i : Int) - 1) * ((g + 1 : Nat) : Int) ≤ s → fxM h S J → (∀ q j, q ≠ 18 → J q j = J0 q j) → (∀ f, fwF c (g + 1) s f → (i : Int) ≤ f (g + 1) → fwV S (fun k => c k - f k) ≠ rest) → par (f_X_fillsFirst_48 fu R 0 ((g + 1 : Nat) : Int) s rest m ((i : Int) - 1) J) (fun y J2 => (∀ q j, q ≠ 18 → q ≠ 21 → J2 q j = J0 q j) ∧ fxM h S J2 ∧ ((y = 0 ∧ (∀ j, J2 21 j = J0 21 j) ∧ ∀ f, fwF c (g + 1) s f → fwV S (fun k => c k - f k) ≠ rest) ∨ (y ≠ 0 ∧ ∃ f, fwF c (g + 1) s f ∧ fwV S (fun k => c k - f k) = rest ∧ (∀ k, 1 ≤ k → k ≤ 8 → J2 21 k = J0 21 k + f k) ∧ ∀ f2, fwF c (g + 1) s f2 → fwV S (fun k => c k - f2 k) = rest → fwL f2 f 8 = true))) := by
  intro m
  induction m with
  | zero => intro _ _ _ _ _ _ _; exact par_none
  | succ m ih =>
    intro i J hi hi2 hM hf hno
    show par (fb_X_fillsFirst_48 fu R 0 ((g + 1 : Nat) : Int) s rest (f_X_fillsFirst_48 fu R 0 ((g + 1 : Nat) : Int) s rest m) ((i : Int) - 1) J) _
    unfold fb_X_fillsFirst_48
    cases i with
    | zero =>
      rw [if_pos (by omega)]
      exact par_zr ⟨fun q j a _ => hf q j a, hM, Or.inl ⟨rfl, fun j => hf 21 j (by decide), fun f hq => hno f hq (hq.1 (g + 1) (by omega) hg).1⟩⟩
    | succ i =>
      have ei : ((i + 1 : Nat) : Int) - 1 = (i : Int) := by omega
      rw [ei] at hi hi2 ⊢
      rw [if_neg (by omega)]
      have ch := hc (g + 1) (by omega) hg
      have p0 : 0 ≤ (i : Int) * ((g + 1 : Nat) : Int) := Int.mul_nonneg (by omega) (by omega)
      have i8 : (i : Int) ≤ 8 := by
        have a := Int.mul_le_mul_of_nonneg_left (show (1 : Int) ≤ ((g + 1 : Nat) : Int) by omega) (show 0 ≤ (i : Int) by omega)
        omega
      obtain ⟨hh, ht, ⟨hS8, hO⟩, hr, hss⟩ := id hR0
      have hb9 := (fwT_ge (f := h) 8 hh).2 (g + 1) (by omega) hg
      have hw1 := h21 (g + 1) (by omega) hg
      have en : J (0 + 19) ((g + 1 : Nat) : Int).toNat = c (g + 1) := (hf 19 _ (by decide)).trans (hn0 (g + 1) (by omega) hg)
      refine par_zg (fun _ => par_zg (fun _ => par_zw' (fun J4 e4 => par_zg (fun _ => par_zg (fun _ => par_zw' (fun J5 e5 => ?_))))))
      rw [en, tn, wr32_i2 (by omega) (by omega)] at e4
      have ef : J4 (0 + 21) ((g + 1 : Nat) : Int).toNat = J0 21 (g + 1) := by
        rw [e4, if_neg (by omega)]
        exact hf 21 _ (by decide)
      rw [ef, tn, wr32_i2 (by omega) (by omega)] at e5
      have f5 : ∀ q j, q ≠ 19 → q ≠ 21 → J5 q j = J q j := fun q j a b => by rw [e5, if_neg (fun x => b x.1), e4, if_neg (fun x => a x.1)]
      have v5 : ∀ k, 1 ≤ k → k ≤ 8 → J5 19 k = fw1 c (g + 1) (-(i : Int)) k := fun k k1 k2 => by
        rw [e5, if_neg (by omega), e4]
        by_cases y : k = g + 1
        · rw [if_pos ⟨rfl, y⟩, y, fw1_at]; omega
        · rw [if_neg (fun x => y x.2), fw1_ne c _ y]
          exact (hf 19 k (by decide)).trans (hn0 k k1 k2)
      have w5 : ∀ k, J5 21 k = fw1 (J0 21) (g + 1) (i : Int) k := fun k => by
        rw [e5]
        by_cases y : k = g + 1
        · rw [if_pos ⟨rfl, y⟩, y, fw1_at]
        · rw [if_neg (fun x => y x.2), fw1_ne _ _ y, e4, if_neg (by omega)]
          exact hf 21 k (by decide)
      have e1 : Wq (wr32 (((g + 1 : Nat) : Int) - 1)) ((g : Int)) := by show wr32 (((g + 1 : Nat) : Int) - 1) = (g : Int); rw [wr32_i2 (by omega) (by omega)]; omega
      have e2 : Wq (wr32 (s - wr32 ((i : Int) * ((g + 1 : Nat) : Int)))) (s - (i : Int) * ((g + 1 : Nat) : Int)) := by
        show wr32 (s - wr32 ((i : Int) * ((g + 1 : Nat) : Int))) = s - (i : Int) * ((g + 1 : Nat) : Int)
        rw [wr32_i2 (x := (i : Int) * ((g + 1 : Nat) : Int)) (by omega) (by omega), wr32_i2 (by omega) (by omega)]
      rw [e1.e, e2.e]
      have hB5 : fwB h (fw1 c (g + 1) (-(i : Int))) := fun k k1 k2 => by
        have a := hc k k1 k2
        unfold fw1
        split
        · rename_i y
          rw [y] at a ⊢
          omega
        · exact a
      refine par_zb (hT (fw1 c (g + 1) (-(i : Int))) J5 g (s - (i : Int) * ((g + 1 : Nat) : Int)) rest (by omega) (by omega) (by omega) hB5 (fxR_mv hR0 (fun j => (f5 20 j (by decide) (by decide)).trans (hf 20 j (by decide))) ((f5 1 1 (by decide) (by decide)).trans (hf 1 1 (by decide)))) (fun d hd => by rw [f5 18 _ (by decide) (by decide)]; exact hM d hd) v5 (fun k k1 k2 => ?_)) (fun y6 J7 ⟨fr7, mm7, hy⟩ => ?_)
      · have a := h21 k k1 k2
        rw [w5]
        unfold fw1
        split <;> omega
      have en7 : J7 (0 + 19) ((g + 1 : Nat) : Int).toNat = c (g + 1) - (i : Int) := by
        have a := fr7 19 (g + 1) (by decide) (by decide)
        have b := v5 (g + 1) (by omega) hg
        rw [fw1_at] at b
        show J7 19 (g + 1) = _
        omega
      refine par_zg (fun _ => par_zg (fun _ => par_zw' (fun J9 e9 => ?_)))
      rw [en7, tn, wr32_i2 (by omega) (by omega)] at e9
      have f9 : ∀ q j, q ≠ 18 → q ≠ 21 → J9 q j = J0 q j := fun q j a b => by
        rw [e9]
        by_cases y : q = 0 + 19 ∧ j = g + 1
        · rw [if_pos y, y.1, y.2]
          have := hn0 (g + 1) (by omega) hg
          show c (g + 1) - (i : Int) + (i : Int) = J0 19 (g + 1)
          omega
        · rw [if_neg y, fr7 q j a b]
          by_cases z : q = 19
          · subst z
            rw [e5, if_neg (by omega), e4, if_neg (fun x => y ⟨rfl, x.2⟩)]
            exact hf 19 j (by decide)
          · rw [f5 q j z b]
            exact hf q j a
      have m9 : fxM h S J9 := fun d hd => by
        rw [e9, if_neg (by omega)]
        exact mm7 d hd
      have g9 : ∀ j, J9 21 j = J7 21 j := fun j => by rw [e9, if_neg (by omega)]
      have vv : ∀ f : Nat → Int, fwV S (fun k => fw1 c (g + 1) (-(i : Int)) k - f k) = fwV S (fun k => c k - fw1 f (g + 1) (i : Int) k) := fun f => fwV_ext S (fun k _ _ => by
        unfold fw1
        split <;> omega)
      have vd : ∀ f : Nat → Int, fwV S (fun k => fw1 c (g + 1) (-(i : Int)) k - fw1 f (g + 1) (-(i : Int)) k) = fwV S (fun k => c k - f k) := fun f => fwV_ext S (fun k _ _ => by
        unfold fw1
        split <;> omega)
      refine par_ite (fun z => ?_) (fun z => par_zr ⟨f9, m9, Or.inr ⟨by decide, ?_⟩⟩)
      · rcases hy with ⟨_, y2, y3⟩ | ⟨y1, _⟩
        · refine par_zg (fun _ => par_zg (fun _ => par_zw' (fun J10 e10 => ?_)))
          have e11 : Wq (wr32 ((i : Int) + (-1))) ((i : Int) - 1) := by show wr32 ((i : Int) + (-1)) = (i : Int) - 1; rw [wr32_i2 (by omega) (by omega)]; omega
          have e10f : J9 (0 + 21) ((g + 1 : Nat) : Int).toNat = J0 21 (g + 1) + (i : Int) := (g9 _).trans ((y2 _).trans ((w5 (g + 1)).trans (fw1_at _ _ _)))
          rw [e10f, tn, wr32_i2 (by omega) (by omega)] at e10
          simp only [zl_e]
          rw [e11.e]
          refine ih i J10 (by omega) ?_ (fun d hd => by rw [e10, if_neg (by omega)]; exact m9 d hd) (fun q j a => ?_) (fun f hf2 hle => ?_)
          · rw [Int.sub_mul, Int.one_mul]; omega
          · rw [e10]
            by_cases y : q = 0 + 21 ∧ j = g + 1
            · rw [if_pos y, y.1, y.2]
              show J0 21 (g + 1) + (i : Int) - (i : Int) = J0 21 (g + 1)
              omega
            · rw [if_neg y]
              by_cases x : q = 21
              · subst x
                rw [g9, y2, w5, fw1_ne _ _ (fun w => y ⟨rfl, w⟩)]
              · exact f9 q j a x
          · by_cases y : f (g + 1) = (i : Int)
            · have := y3 _ (fwF_down hg hf2 y)
              rw [vd] at this
              exact this
            · exact hno f hf2 (by omega)
        · exact absurd z y1
      · rcases hy with ⟨y1, _⟩ | ⟨_, f, hf3, ef3, fil, best⟩
        · exact absurd y1 z
        have z0 := hf3.2.1 (g + 1) (by omega) hg
        refine ⟨fw1 f (g + 1) (i : Int), fwF_up hg (by omega) hf3, by rw [← vv]; exact ef3, fun k k1 k2 => ?_, fun f2 hf2 ef2 => ?_⟩
        · rw [g9, fil k k1 k2, w5]
          unfold fw1
          split <;> omega
        · have le : f2 (g + 1) ≤ (i : Int) := by
            rcases (show (i : Int) < f2 (g + 1) ∨ f2 (g + 1) ≤ (i : Int) by omega) with x | x
            · exact absurd ef2 (hno f2 hf2 (by omega))
            · exact x
          by_cases y : f2 (g + 1) = (i : Int)
          · have b := best _ (fwF_down hg hf2 y) (by rw [vd]; exact ef2)
            have b2 := fwL_d _ _ (g + 1) (i : Int) 8 b
            rw [fwL_ext (f2 := f2) (g2 := fw1 f (g + 1) (i : Int)) 8 (fun k _ _ => by
              unfold fw1
              split
              · omega
              · rfl) (fun _ _ _ => rfl)] at b2
            exact b2
          · refine fwL_lt (q := g + 1) (by omega) (by rw [fw1_at, z0]; omega) 8 hg (fun k k1 k2 => ?_)
            rw [fw1_ne f _ (by omega), hf2.2.1 k (by omega) k2, hf3.2.1 k (by omega) k2]
theorem fx_fillS {h : Nat → Int} {S : Int} {R : Nat → Int → Int → Int → IMem → Res} (hT : fxT h S R) : fxT h S (fb_X_fillsFirst fu R) := by
  intro c J g s rest hg hs0 hs8 hc hR hM hn h21
  cases g with
  | zero => exact fx_fill0 hs0 hc hR hM hn
  | succ g =>
    unfold fb_X_fillsFirst
    rw [if_neg (show ¬ ((g + 1 : Nat) : Int) = 0 by omega)]
    have ch := hc (g + 1) (by omega) hg
    have en : J (0 + 19) ((g + 1 : Nat) : Int).toNat = c (g + 1) := hn (g + 1) (by omega) hg
    have ed : wdiv s ((g + 1 : Nat) : Int) = s / ((g + 1 : Nat) : Int) := wdiv_i2 (by omega) hs0 (by omega) (by omega)
    have d0 : 0 ≤ s / ((g + 1 : Nat) : Int) := Int.ediv_nonneg hs0 (by omega)
    have d1 : s / ((g + 1 : Nat) : Int) * ((g + 1 : Nat) : Int) ≤ s := Int.ediv_mul_le s (by omega)
    refine par_zg (fun _ => par_zg (fun _ => par_zj (fun k1 e1 => ?_)))
    rw [en, ed]
    have most : ∀ f, fwF c (g + 1) s f → f (g + 1) ≤ s / ((g + 1 : Nat) : Int) ∧ f (g + 1) ≤ c (g + 1) := fun f hf => by
      have a := (fwS_nn (f := f) 8 (fun k k1 k2 => (hf.1 k k1 k2).1)).2 (g + 1) (by omega) hg
      have b := hf.2.2
      refine ⟨?_, (hf.1 (g + 1) (by omega) hg).2⟩
      refine (Int.le_ediv_iff_mul_le (by omega)).mpr ?_
      rw [Int.mul_comm]
      omega
    have go : ∀ x : Int, 0 ≤ x → x ≤ c (g + 1) → x ≤ s / ((g + 1 : Nat) : Int) → (x = c (g + 1) ∨ x = s / ((g + 1 : Nat) : Int)) → par (k1 x J) (fun y J2 => (∀ q j, q ≠ 18 → q ≠ 21 → J2 q j = J q j) ∧ fxM h S J2 ∧ ((y = 0 ∧ (∀ j, J2 21 j = J 21 j) ∧ ∀ f, fwF c (g + 1) s f → fwV S (fun k => c k - f k) ≠ rest) ∨ (y ≠ 0 ∧ ∃ f, fwF c (g + 1) s f ∧ fwV S (fun k => c k - f k) = rest ∧ (∀ k, 1 ≤ k → k ≤ 8 → J2 21 k = J 21 k + f k) ∧ ∀ f2, fwF c (g + 1) s f2 → fwV S (fun k => c k - f2 k) = rest → fwL f2 f 8 = true))) := fun x x0 x1 x2 x3 => by
      subst e1
      obtain ⟨i, hi⟩ : ∃ i : Nat, x = ((i + 1 : Nat) : Int) - 1 := ⟨x.toNat, by omega⟩
      subst hi
      have m1 := Int.mul_le_mul_of_nonneg_right x2 (show 0 ≤ ((g + 1 : Nat) : Int) by omega)
      exact fx_fill48 hT hg hs0 hs8 hc hR hn h21 fu (i + 1) J (by omega) (by omega) hM (fun _ _ _ => rfl) (fun f hf hle => by
        have := most f hf
        omega)
    exact par_ite (fun z => par_zg (fun _ => go _ d0 (by omega) (Int.le_refl _) (Or.inr rfl))) (fun z => par_zg (fun _ => go _ ch.1 (Int.le_refl _) (by omega) (Or.inl rfl)))
theorem fx_gXF {h : Nat → Int} {S : Int} : ∀ n, fxT h S (gXF fu n) := by
  intro n
  induction n with
  | zero => exact fun _ _ _ _ _ _ _ _ _ _ _ _ _ => par_none
  | succ n ih => exact fx_fillS (fu := fu) ih
end
