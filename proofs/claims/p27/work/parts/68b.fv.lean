/-! a filling goes on -/
theorem fv_take {o : Nat} {I I1 : IMem} {x v : Int} (h : FV o I) (hx : 0 ≤ x ∧ x < 240) (h9x : I (o + 9) x.toNat = 0) (h12x : I (o + 12) x.toNat = 0) (hv : 1 ≤ v ∧ v ≤ I (o + 1) (141 + 6 * x.toNat) ∧ v ≤ 8 ∧ v ≤ I o 30) (h1 : ∀ k, I1 (o + 1) k = I (o + 1) k) (h9 : ∀ k, I1 (o + 9) k = if k = x.toNat then v else I (o + 9) k) (h10 : ∀ k, I1 (o + 10) k = I (o + 10) k) (h11 : ∀ k, I1 (o + 11) k = if k = (I o 31).toNat then x else I (o + 11) k) (h12 : ∀ k, I1 (o + 12) k = I (o + 12) k) (h30 : I1 o 30 = I o 30 - v) (h31 : I1 o 31 = I o 31 + 1) (h32 : I1 o 32 = I o 32) : FV o I1 ∧ cnt (mk o I1) 240 = cnt (mk o I) 240 + 1 := by
  obtain ⟨hs, a, b, c⟩ := h
  have hm := mk_up (o := o) (I := I) (I1 := I1) (x := x.toNat) h9x h12x (fun k hk => ⟨by rw [h9, if_neg hk], h12 k⟩) (Or.inl (by rw [h9, if_pos rfl]; omega)) (by omega)
  have ht := hs.1
  exact ⟨⟨fs_take (x := x) (v := v) hs (by omega) hx ⟨by omega, hv.2.1, hv.2.2.1⟩ h1 h9 h10 h11 h31 h32, by omega, by omega, by omega⟩, hm⟩
theorem fv_found {o : Nat} {I I1 : IMem} {x : Int} (h : FV o I) (hx : 0 ≤ x ∧ x < 240) (h9x : I (o + 9) x.toNat = 0) (h12x : I (o + 12) x.toNat = 0) (hv : 1 ≤ I (o + 1) (141 + 6 * x.toNat)) (h1 : ∀ k, k < 240 → I1 (o + 1) (141 + 6 * k) = I (o + 1) (141 + 6 * k)) (h9 : ∀ k, I1 (o + 9) k = I (o + 9) k) (h10 : ∀ k, I1 (o + 10) k = if k = (I o 32).toNat then x else I (o + 10) k) (h11 : ∀ k, I1 (o + 11) k = I (o + 11) k) (h12 : ∀ k, I1 (o + 12) k = if k = x.toNat then 1 else I (o + 12) k) (h30 : I1 o 30 = I o 30) (h31 : I1 o 31 = I o 31) (h32 : I1 o 32 = I o 32 + 1) : FV o I1 ∧ cnt (mk o I1) 240 = cnt (mk o I) 240 + 1 := by
  obtain ⟨hs, a, b, c⟩ := h
  have hm := mk_up (o := o) (I := I) (I1 := I1) (x := x.toNat) h9x h12x (fun k hk => ⟨h9 k, by rw [h12, if_neg hk]⟩) (Or.inr (by rw [h12, if_pos rfl]; decide)) (by omega)
  have ht := hs.1
  have hl := cnt_lt (f := mk o I) (i := x.toNat) (mk_0 h9x h12x) 240 (by omega)
  exact ⟨⟨fs_found (x := x) hs (by omega) hx hv h1 h9 h10 h11 h31 h32, by omega, by omega, by omega⟩, hm⟩
theorem fv_room {o : Nat} {I : IMem} {x : Nat} (h : FV o I) (h9x : I (o + 9) x = 0) (h12x : I (o + 12) x = 0) (hx : x < 240) : 0 ≤ I o 32 ∧ I o 32 < 240 ∧ 0 ≤ I o 31 ∧ 0 ≤ I o 30 ∧ I o 31 + I o 30 ≤ 8 ∧ cnt (mk o I) 240 < 240 := by
  obtain ⟨hs, a, b, c⟩ := h
  have ht := hs.1
  have hl := cnt_lt (f := mk o I) (i := x) (mk_0 h9x h12x) 240 hx
  omega
theorem fv_same {o : Nat} {I I1 : IMem} (h : FV o I) (h1 : ∀ k, k < 240 → I1 (o + 1) (141 + 6 * k) = I (o + 1) (141 + 6 * k)) (h9 : ∀ k, I1 (o + 9) k = I (o + 9) k) (h10 : ∀ k, I1 (o + 10) k = I (o + 10) k) (h11 : ∀ k, I1 (o + 11) k = I (o + 11) k) (h12 : ∀ k, I1 (o + 12) k = I (o + 12) k) (h30 : I1 o 30 = I o 30) (h31 : I1 o 31 = I o 31) (h32 : I1 o 32 = I o 32) : FV o I1 ∧ cnt (mk o I1) 240 = cnt (mk o I) 240 := by
  have hm := mk_same (o := o) (I := I) (I1 := I1) h9 h12
  exact ⟨⟨fs_same h.1 h1 h9 h10 h11 h31 h32, by rw [h30]; exact h.2.1, by rw [h30, h31]; exact h.2.2.1, by rw [h31, h32, hm]; exact h.2.2.2⟩, hm⟩
theorem fv_fr {o : Nat} {I I1 : IMem} (h : FV o I) (hf : ∀ q j, q ≠ o + 7 → q ≠ o + 8 → I1 q j = I q j) : FV o I1 ∧ cnt (mk o I1) 240 = cnt (mk o I) 240 :=
  fv_same h (fun _ _ => hf _ _ (by omega) (by omega)) (fun _ => hf _ _ (by omega) (by omega)) (fun _ => hf _ _ (by omega) (by omega)) (fun _ => hf _ _ (by omega) (by omega)) (fun _ => hf _ _ (by omega) (by omega)) (hf _ _ (by omega) (by omega)) (hf _ _ (by omega) (by omega)) (hf _ _ (by omega) (by omega))
/-- nobody, or an open group -/
def OB (o : Nat) (I : IMem) (w : Int) : Prop := w = -1 ∨ (0 ≤ w ∧ w < 240 ∧ w % 40 < I (o + 1) (130 + w / 40).toNat ∧ I (o + 9) w.toNat = 0 ∧ I (o + 12) w.toNat = 0)
theorem ob_fr {o : Nat} {I I1 : IMem} {w : Int} (h : OB o I w) (hf : ∀ q j, q ≠ o + 7 → q ≠ o + 8 → I1 q j = I q j) : OB o I1 w := by
  rcases h with h | h
  · exact Or.inl h
  · refine Or.inr ?_
    rw [hf _ _ (by omega) (by omega), hf _ _ (by omega) (by omega), hf _ _ (by omega) (by omega)]
    exact h
theorem ob_new {o : Nat} {I : IMem} {l p w : Int} (hw : w = 40 * l + p) (hl : 0 ≤ l ∧ l < 6) (hp : 0 ≤ p ∧ p < 40) (hm : p < I (o + 1) (130 + l).toNat) (h : I (o + 9) (40 * l + p).toNat = 0 ∧ I (o + 12) (40 * l + p).toNat = 0) : OB o I w := by
  subst hw
  refine Or.inr ⟨by omega, by omega, ?_, h⟩
  rw [show (40 * l + p) / 40 = l by omega, show (40 * l + p) % 40 = p by omega]
  exact hm
/-- the part of a group of s -/
def pz (a s l : Int) : Int := if a = 0 then 0 else if s - a ≤ l then (if (if a ≤ l then a else 0) < s - a then s - a else (if a ≤ l then a else 0)) else (if a ≤ l then a else 0)
def K9 (o : Nat) (I : IMem) (l p s : Int) : Prop := (0 ≤ p ∧ p < 40) ∧ (1 ≤ s ∧ s ≤ 8) ∧ s = I (o + 1) (141 + 6 * (40 * l + p)).toNat ∧ I (o + 9) (40 * l + p).toNat = 0 ∧ I (o + 12) (40 * l + p).toNat = 0 ∧ pz (I (o + 1) (16 + s).toNat) s (I o 30) ≠ 0
theorem k9_fr {o : Nat} {I I1 : IMem} {l p s : Int} (h : K9 o I l p s) (hf : ∀ q j, q ≠ o + 7 → q ≠ o + 8 → I1 q j = I q j) : K9 o I1 l p s := by
  unfold K9
  rw [hf _ _ (by omega) (by omega), hf _ _ (by omega) (by omega), hf _ _ (by omega) (by omega), hf _ _ (by omega) (by omega), hf _ _ (by omega) (by omega)]
  exact h
theorem fv_found4 {o : Nat} {I I1 I2 I3 I4 : IMem} {x y : Int} (h : FV o I) (hx : 0 ≤ x ∧ x < 240) (h9x : I (o + 9) x.toNat = 0) (h12x : I (o + 12) x.toNat = 0) (hv : 1 ≤ I (o + 1) (141 + 6 * x.toNat)) (hy : y = I1 o 32) (e1 : ∀ p i, I1 p i = if p = o + 12 ∧ i = x.toNat then 1 else I p i) (e2 : ∀ p i, I2 p i = if p = o + 10 ∧ i = y.toNat then x else I1 p i) (e3 : ∀ p i, I3 p i = if p = o ∧ i = 32 then wr32 (I2 o 32 + 1) else I2 p i) (e4 : ∀ p i, I4 p i = if p = o + 1 ∧ i = 75 then wr32 (I3 (o + 1) 75 + 1) else I3 p i) : (FV o I4 ∧ cnt (mk o I4) 240 = cnt (mk o I) 240 + 1) ∧ ∀ j, j ≠ 75 → I4 (o + 1) j = I (o + 1) j := by
  have ht := fv_room h h9x h12x (by omega)
  have hy2 : y = I o 32 := by rw [hy, e1, if_neg (by omega)]
  have hg : ∀ q j, q ≠ o + 12 → q ≠ o + 10 → ¬ (q = o ∧ j = 32) → ¬ (q = o + 1 ∧ j = 75) → I4 q j = I q j := fun q j a b c d => by rw [e4, if_neg d, e3, if_neg c, e2, if_neg (by omega), e1, if_neg (by omega)]
  refine ⟨fv_found (x := x) h hx h9x h12x hv (fun k _ => hg _ _ (by omega) (by omega) (by omega) (by omega)) (fun k => hg _ _ (by omega) (by omega) (by omega) (by omega)) (fun k => ?_) (fun k => hg _ _ (by omega) (by omega) (by omega) (by omega)) (fun k => ?_) (hg _ _ (by omega) (by omega) (by omega) (by omega)) (hg _ _ (by omega) (by omega) (by omega) (by omega)) ?_, fun j hj => hg _ _ (by omega) (by omega) (by omega) (by omega)⟩
  · rw [e4, if_neg (by omega), e3, if_neg (by omega), e2, hy2]
    by_cases q : k = (I o 32).toNat
    · rw [if_pos ⟨rfl, q⟩, if_pos q]
    · rw [if_neg (fun z => q z.2), if_neg q, e1, if_neg (by omega)]
  · rw [e4, if_neg (by omega), e3, if_neg (by omega), e2, if_neg (by omega), e1]
    by_cases q : k = x.toNat
    · rw [if_pos ⟨rfl, q⟩, if_pos q]
    · rw [if_neg (fun z => q z.2), if_neg q]
  · rw [e4, if_neg (by omega), e3, if_pos ⟨rfl, rfl⟩, e2, if_neg (by omega), e1, if_neg (by omega)]
    exact wr32_i2 (by omega) (by omega)
