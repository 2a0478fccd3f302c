/-! the image, by hand -/
theorem GX_set3 {o : Nat} {I I1 : IMem} (h : GX o I) (hw : WX I (o + 2)) (hr : RG I1) (e : ∀ p i, I1 p i = if p = o ∧ i = 3 then 1 else I p i) : GX o I1 := by
  obtain ⟨_, a, _, c, d, f⟩ := h
  have hf : ∀ q j, ¬ (q = o ∧ j = 3) → I1 q j = I q j := fun q j hq => by rw [e, if_neg hq]
  refine ⟨hr, WX_eq (fun j _ => hf _ _ (by omega)) a, fun _ => WX_eq (fun j _ => hf _ _ (by omega)) hw, ?_, fun k hk => ?_, fun k hk => ?_⟩
  · rw [hf o 12 (by omega), hf o 22 (by omega), hf o 35 (by omega), hf o 50 (by omega), e o 3, if_pos ⟨rfl, rfl⟩]
    omega
  · rw [hf (o + 13) k (by omega), hf (o + 23) k (by omega)]; exact d k hk
  · rw [hf (o + 15) k (by omega), hf (o + 24) k (by omega)]; exact f k hk
theorem GX_img {o : Nat} {Ib I : IMem} (h : GX o Ib) (hr : RG I) (hf : ∀ q j, q ≠ o + 2 → I q j = Ib q j) (hc : ∀ j, j < 6190 → I (o + 2) j = Ib (o + 1) j) : GX o I ∧ WX I (o + 2) := by
  obtain ⟨_, a, b, c, d, e⟩ := h
  have f0 : ∀ j, I o j = Ib o j := fun j => hf _ _ (by omega)
  have hw : WX I (o + 2) := WX_eq hc a
  refine ⟨⟨hr, WX_eq (fun j _ => hf _ _ (by omega)) a, fun _ => hw, ?_, fun k hk => ?_, fun k hk => ?_⟩, hw⟩
  · simp only [f0]; exact c
  · rw [hf (o + 13) k (by omega), hf (o + 23) k (by omega)]; exact d k hk
  · rw [hf (o + 15) k (by omega), hf (o + 24) k (by omega)]; exact e k hk
theorem GX_old {o : Nat} {Ib I : IMem} (h : GX o Ib) (hw : WX Ib (o + 2)) (hr : RG I) (hf : ∀ q j, q ≠ o + 1 → I q j = Ib q j) (hc : ∀ j, j < 6190 → I (o + 1) j = Ib (o + 2) j) : GX o I ∧ WX I (o + 2) := by
  obtain ⟨_, _, b, c, d, e⟩ := h
  have f0 : ∀ j, I o j = Ib o j := fun j => hf _ _ (by omega)
  have hw2 : WX I (o + 2) := WX_eq (fun j _ => hf _ _ (by omega)) hw
  refine ⟨⟨hr, WX_eq hc hw, fun _ => hw2, ?_, fun k hk => ?_, fun k hk => ?_⟩, hw2⟩
  · simp only [f0]; exact c
  · rw [hf (o + 13) k (by omega), hf (o + 23) k (by omega)]; exact d k hk
  · rw [hf (o + 15) k (by omega), hf (o + 24) k (by omega)]; exact e k hk
theorem ok_img15 (fu : Nat) (K : IMem → Res) (o0 : Nat) (p1 : Int) (Ib : IMem) (c d : Nat) (hcd : c ≠ d) (hp : (p1 = 0 ∧ c = 1 ∧ d = 2) ∨ (p1 ≠ 0 ∧ c = 2 ∧ d = 1)) {Q : Int → IMem → Prop} (hk : ∀ I, RG I → (∀ q j, q ≠ o0 + c → I q j = Ib q j) → (∀ j, j < 6190 → I (o0 + c) j = Ib (o0 + d) j) → sat (K I) Q) : ∀ (m : Nat) (w : Int) (I : IMem), inr w → RG I → (∀ q j, q ≠ o0 + c → I q j = Ib q j) → 0 ≤ w → (∀ j : Nat, (j : Int) < w → I (o0 + c) j = Ib (o0 + d) j) → ((6190 : Int) - w).toNat < m → sat (f_X_image_15 fu K o0 p1 m w I) Q := by
  intro m
  induction m with
  | zero => intro w I _ _ _ _ _ h0; exact absurd h0 (Nat.not_lt_zero _)
  | succ m ih =>
    intro w I qw hI hf hw hc hm
    show sat (fb_X_image_15 fu K o0 p1 (f_X_image_15 fu K o0 p1 m) w I) Q
    unfold fb_X_image_15
    refine sat_ite (fun q => ?_) (fun q => ?_)
    · refine sat_zj (fun k3 ek3 => ?_)
      have hk3 : ∀ I1, RG I1 → (∀ p i, I1 p i = if p = o0 + c ∧ i = w.toNat then I (o0 + d) w.toNat else I p i) → sat (k3 I1) Q := by
        intro I1 hI1 e1
        subst ek3
        refine sat_zl (wr32_in _) (fun x hx ax bx => ?_)
        rw [wr32_i2 (by omega) (by omega)] at hx
        refine ih x I1 ⟨ax, bx⟩ hI1 (fun p j hp => by rw [e1, if_neg (fun z => hp z.1)]; exact hf p j hp) (by omega) (fun j hj => ?_) (by omega)
        rw [e1]
        by_cases z : j = w.toNat
        · rw [if_pos ⟨rfl, z⟩, hf _ _ (by omega), z]
        · rw [if_neg (fun y => z y.2)]; exact hc j (by omega)
      clear ek3
      rcases hp with ⟨h1, h2, h3⟩ | ⟨h1, h2, h3⟩ <;> subst h2 <;> subst h3
      · rw [if_pos h1]
        refine sat_zg (by omega) (fun _ => sat_zg (by omega) (fun _ => ?_))
        exact sat_zw hI (hI _ _) (fun I1 e1 hI1 => hk3 I1 hI1 e1)
      · rw [if_neg h1]
        refine sat_zg (by omega) (fun _ => sat_zg (by omega) (fun _ => ?_))
        exact sat_zw hI (hI _ _) (fun I1 e1 hI1 => hk3 I1 hI1 e1)
    · exact hk I hI hf (fun j hj => hc j (by omega))
def IM (o : Nat) (a1 : Int) (I0 I : IMem) : Prop := I = I0 ∨ (a1 = 0 ∧ I0 o 3 ≠ 0 ∧ I o 3 = 1 ∧ I o 35 = 0 ∧ (∀ k, k < 240 → I (o + 13) k = 0) ∧ (∀ j, j < 6190 → I (o + 1) j = I0 (o + 2) j) ∧ (∀ j, j < 6190 → I (o + 2) j = I0 (o + 2) j)) ∨ (a1 ≠ 0 ∧ I o 3 = 1 ∧ (∀ j, j < 6190 → I (o + 2) j = I0 (o + 1) j) ∧ SA o I0 I)
theorem ok_X_image (fu : Nat) (o0 : Nat) (a1 : Int) (I0 : IMem) (hfu : 5000000000 < fu) (hRI0 : GX o0 I0) (qa1 : inr a1) : sat (f_X_image fu o0 a1 I0) (fun v I => inr v ∧ GX o0 I ∧ IM o0 a1 I0 I) := by
  unfold f_X_image
  refine sat_zj (fun k1 ek1 => ?_)
  have hk1 : (a1 = 0 → I0 o0 3 ≠ 0) → sat (k1 I0) (fun v I => inr v ∧ GX o0 I ∧ IM o0 a1 I0 I) := by
    intro h3
    subst ek1
    by_cases ha : a1 = 0
    · refine ok_img15 fu _ o0 a1 I0 1 2 (by decide) (Or.inl ⟨ha, rfl, rfl⟩) ?_ fu 0 I0 (lit_in rfl) hRI0.1 (fun _ _ _ => rfl) (Int.le_refl _) (fun j hj => by omega) (by omega)
      intro I8 hr8 f8 c8
      have hg8 := GX_old hRI0 (hRI0.2.2.1 (h3 ha)) hr8 f8 c8
      refine sat_zj (fun k9 ek9 => ?_)
      rw [if_pos ha]
      refine sat_zb (ok_X_forgets fu o0 I8 hfu hg8.1) (fun u I13 c13 ⟨_, hRI13, pI13⟩ => ?_)
      have f13 : ∀ q j, ¬ (q = o0 + 13 ∨ (q = o0 ∧ j = 35)) → I13 q j = I8 q j := fc_X_forgets (fun q j => q = o0 + 13 ∨ (q = o0 ∧ j = 35)) fu o0 I8 (fun _ => by simp) (by simp) c13
      subst ek9
      refine sat_zw hRI13.1 (lit_in rfl) (fun I11 e11 hr11 => ?_)
      have hw13 : WX I13 (o0 + 2) := WX_eq (fun j _ => f13 _ _ (by omega)) hg8.2
      refine sat_zr ⟨lit_in rfl, GX_set3 hRI13 hw13 hr11 e11, Or.inr (Or.inl ⟨ha, h3 ha, ?_, ?_, fun k hk => ?_, fun j hj => ?_, fun j hj => ?_⟩)⟩
      · rw [e11, if_pos ⟨rfl, rfl⟩]
      · rw [e11, if_neg (by omega)]; exact pI13.1
      · rw [e11, if_neg (by omega)]; exact pI13.2 k hk
      · rw [e11, if_neg (by omega), f13 _ _ (by omega)]; exact c8 j hj
      · rw [e11, if_neg (by omega), f13 _ _ (by omega)]; exact f8 _ _ (by omega)
    · refine ok_img15 fu _ o0 a1 I0 2 1 (by decide) (Or.inr ⟨ha, rfl, rfl⟩) ?_ fu 0 I0 (lit_in rfl) hRI0.1 (fun _ _ _ => rfl) (Int.le_refl _) (fun j hj => by omega) (by omega)
      intro I8 hr8 f8 c8
      have hg8 := GX_img hRI0 hr8 f8 c8
      refine sat_zj (fun k9 ek9 => ?_)
      rw [if_neg ha]
      subst ek9
      refine sat_zw hr8 (lit_in rfl) (fun I11 e11 hr11 => ?_)
      refine sat_zr ⟨lit_in rfl, GX_set3 hg8.1 hg8.2 hr11 e11, Or.inr (Or.inr ⟨ha, ?_, fun j hj => ?_, sa_fr sa_rfl (fun q j h => ?_)⟩)⟩
      · rw [e11, if_pos ⟨rfl, rfl⟩]
      · rw [e11, if_neg (by omega)]; exact c8 j hj
      · rw [e11, if_neg (by omega)]; exact f8 _ _ (by omega)
  clear ek1
  refine sat_ite (fun q1 => ?_) (fun q1 => ?_)
  · refine sat_ite (fun q2 => ?_) (fun q2 => ?_)
    · exact sat_zr ⟨lit_in rfl, hRI0, Or.inl rfl⟩
    · exact hk1 (fun _ => q2)
  · exact hk1 (fun h => absurd h q1)
