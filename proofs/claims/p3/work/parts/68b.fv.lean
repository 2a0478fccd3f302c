/-! a filling goes on -/
theorem fv_take {o : Nat} {I I1 : IMem} {x v : Int} (h : FV o I) (hx : 0 ≤ x ∧ x < 240) (h9x : I (o + 9) x.toNat = 0) (h12x : I (o + 12) x.toNat = 0) (hv : 1 ≤ v ∧ v ≤ I (o + 1) (141 + 6 * x.toNat) ∧ v ≤ 8 ∧ v ≤ I o 30) (h1 : ∀ k, I1 (o + 1) k = I (o + 1) k) (h9 : ∀ k, I1 (o + 9) k = if k = x.toNat then v else I (o + 9) k) (h10 : ∀ k, I1 (o + 10) k = I (o + 10) k) (h11 : ∀ k, I1 (o + 11) k = if k = (I o 31).toNat then x else I (o + 11) k) (h12 : ∀ k, I1 (o + 12) k = I (o + 12) k) (h30 : I1 o 30 = I o 30 - v) (h31 : I1 o 31 = I o 31 + 1) (h32 : I1 o 32 = I o 32) : FV o I1 ∧ cnt (mk o I1) 240 = cnt (mk o I) 240 + 1 := by
  obtain ⟨hs, a, b, c⟩ := h
  have hm := mk_up (o := o) (I := I) (I1 := I1) (x := x.toNat) h9x h12x (fun k hk => ⟨by rw [h9, if_neg hk], h12 k⟩) (Or.inl (by rw [h9, if_pos rfl]; omega)) (by omega)
  have ht := hs.1
  exact ⟨⟨fs_take (x := x) (v := v) hs (by omega) hx ⟨by omega, hv.2.1, hv.2.2.1⟩ h1 h9 h10 h11 h31 h32, by omega, by omega, by omega⟩, hm⟩
theorem fv_found {o : Nat} {I I1 : IMem} {x : Int} (h : FV o I) (hx : 0 ≤ x ∧ x < 240) (h9x : I (o + 9) x.toNat = 0) (h12x : I (o + 12) x.toNat = 0) (hv : 1 ≤ I (o + 1) (141 + 6 * x.toNat)) (h1 : ∀ k, k < 240 → I1 (o + 1) (141 + 6 * k) = I (o + 1) (141 + 6 * k)) (h9 : ∀ k, I1 (o + 9) k = I (o + 9) k) (h10 : ∀ k, I1 (o + 10) k = if k = (I o 32).toNat then x else I (o + 10) k) (h11 : ∀ k, I1 (o + 11) k = I (o + 11) k) (h12 : ∀ k, I1 (o + 12) k = if k = x.toNat then 1 else I (o + 12) k) (h30 : I1 o 30 = I o 30) (h31 : I1 o 31 = I o 31) (h32 : I1 o 32 = I o 32 + 1) : FV o I1 ∧ cnt (mk o I1) 240 = cnt (mk o I) 240 + 1 := by
  obtain ⟨hs, a, b, c⟩ := h
  have hm := mk_up (o := o) (I := I) (I1 := I1) (x := x.toNat) h9x h12x (fun k hk => ⟨h9 k, by rw [h12, if_neg hk]⟩) (Or.inr (by rw [h12, if_pos rfl]; decide)) (by omega)
  have ht := hs.1
  have hl := cnt_lt (f := mk o I) (i := x.toNat) (mk_0 h9x h12x) 240 (by omega)
  exact ⟨⟨fs_found (x := x) hs (by omega) hx hv h1 h9 h10 h11 h31 h32, by omega, by omega, by omega⟩, hm⟩
theorem fv_room {o : Nat} {I : IMem} {x : Nat} (h : FV o I) (h9x : I (o + 9) x = 0) (h12x : I (o + 12) x = 0) (hx : x < 240) : 0 ≤ I o 32 ∧ I o 32 < 240 ∧ 0 ≤ I o 31 ∧ 0 ≤ I o 30 ∧ I o 31 + I o 30 ≤ 8 ∧ cnt (mk o I) 240 < 240 := by
  obtain ⟨hs, a, b, c⟩ := h
  have ht := hs.1
  have hl := cnt_lt (f := mk o I) (i := x) (mk_0 h9x h12x) 240 hx
  omega
theorem fv_same {o : Nat} {I I1 : IMem} (h : FV o I) (h1 : ∀ k, k < 240 → I1 (o + 1) (141 + 6 * k) = I (o + 1) (141 + 6 * k)) (h9 : ∀ k, I1 (o + 9) k = I (o + 9) k) (h10 : ∀ k, I1 (o + 10) k = I (o + 10) k) (h11 : ∀ k, I1 (o + 11) k = I (o + 11) k) (h12 : ∀ k, I1 (o + 12) k = I (o + 12) k) (h30 : I1 o 30 = I o 30) (h31 : I1 o 31 = I o 31) (h32 : I1 o 32 = I o 32) : FV o I1 ∧ cnt (mk o I1) 240 = cnt (mk o I) 240 := by
  have hm := mk_same (o := o) (I := I) (I1 := I1) h9 h12
  exact ⟨⟨fs_same h.1 h1 h9 h10 h11 h31 h32, by rw [h30]; exact h.2.1, by rw [h30, h31]; exact h.2.2.1, by rw [h31, h32, hm]; exact h.2.2.2⟩, hm⟩
