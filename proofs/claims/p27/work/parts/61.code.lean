/-! a TEXT's code at work: CT: from step i to e, with t on the pile, it leaves one -/
def CT (I : IMem) (o : Nat) (k e i t : Int) : Prop := 0 ≤ k ∧ k < 5 ∧ 0 ≤ t ∧ t ≤ i ∧ i ≤ e ∧ e ≤ 410 ∧ rn (cdT I (o + 1) k.toNat) (e.toNat - i.toNat) i.toNat t = some 1
theorem cdT_eq {I I' : IMem} {a k : Nat} (h : ∀ j, I' a j = I a j) : cdT I' a k = cdT I a k := funext fun _ => h _
theorem rn_step {c : Nat → Int} {e i : Nat} {w : Int} (h : rn c (e - i) i w = some 1) (hi : i < e) : ∃ h', st1 (c (2 * i)) (c (2 * i + 1)) w = some h' ∧ rn c (e - (i + 1)) (i + 1) h' = some 1 := by
  rw [show e - i = (e - (i + 1)) + 1 by omega] at h
  have h2 : (st1 (c (2 * i)) (c (2 * i + 1)) w).bind (rn c (e - (i + 1)) (i + 1)) = some 1 := h
  cases hs : st1 (c (2 * i)) (c (2 * i + 1)) w with
  | none => rw [hs] at h2; cases h2
  | some h' => rw [hs] at h2; exact ⟨h', rfl, h2⟩
theorem ct_step {I : IMem} {o : Nat} {k e i t s v : Int} (h : CT I o k e i t) (hi : i < e) (hs : s = I (o + 1) (1910 + 820 * k + 2 * i).toNat) (hv : v = I (o + 1) (1910 + 820 * k + 2 * i + 1).toNat) : ∃ t', st1 s v t = some t' ∧ rn (cdT I (o + 1) k.toNat) (e.toNat - (i + 1).toNat) (i + 1).toNat t' = some 1 := by
  obtain ⟨h1, h2, h3, h4, h5, h6, h7⟩ := h
  obtain ⟨t', q1, q2⟩ := rn_step h7 (by omega)
  refine ⟨t', ?_, ?_⟩
  · have e1 : cdT I (o + 1) k.toNat (2 * i.toNat) = s := by
      rw [hs]; show I (o + 1) (1910 + 820 * k.toNat + 2 * i.toNat) = _
      congr 1; omega
    have e2 : cdT I (o + 1) k.toNat (2 * i.toNat + 1) = v := by
      rw [hv]; show I (o + 1) (1910 + 820 * k.toNat + (2 * i.toNat + 1)) = _
      congr 1; omega
    rw [e1, e2] at q1
    exact q1
  · rw [show (i + 1).toNat = i.toNat + 1 by omega]
    exact q2
theorem ct_facts {I : IMem} {o : Nat} {k e i t s v : Int} (h : CT I o k e i t) (hi : i < e) (hs : s = I (o + 1) (1910 + 820 * k + 2 * i).toNat) (hv : v = I (o + 1) (1910 + 820 * k + 2 * i + 1).toNat) : (s < 12 → 0 ≤ s) ∧ (s = 15 → 1 ≤ t ∧ v ≠ 0) ∧ (s = 19 → 1 ≤ t) ∧ (12 ≤ s → s ≠ 15 → s ≠ 19 → 2 ≤ t) ∧ 0 ≤ t ∧ t ≤ i ∧ e ≤ 410 := by
  obtain ⟨t', q1, -⟩ := ct_step h hi hs hv
  obtain ⟨h1, h2, h3, h4, h5, h6, h7⟩ := h
  unfold st1 at q1
  refine ⟨fun a => ?_, fun a => ?_, fun a => ?_, fun a b c => ?_, h3, h4, h6⟩
  · rw [if_pos a] at q1
    by_cases z : 0 ≤ s
    · exact z
    · rw [if_neg z] at q1; cases q1
  · rw [if_neg (by omega), if_pos a] at q1
    by_cases z : 1 ≤ t ∧ v ≠ 0
    · exact z
    · rw [if_neg z] at q1; cases q1
  · rw [if_neg (by omega), if_neg (by omega), if_pos a] at q1
    by_cases z : 1 ≤ t
    · exact z
    · rw [if_neg z] at q1; cases q1
  · rw [if_neg (by omega), if_neg b, if_neg c] at q1
    by_cases z : 2 ≤ t
    · exact z
    · rw [if_neg z] at q1; cases q1
theorem ct_next {I I' : IMem} {o : Nat} {k e i t s v t2 : Int} (h : CT I o k e i t) (hi : i < e) (hs : s = I (o + 1) (1910 + 820 * k + 2 * i).toNat) (hv : v = I (o + 1) (1910 + 820 * k + 2 * i + 1).toNat) (hf : ∀ j, I' (o + 1) j = I (o + 1) j) (ht : t2 = if s < 12 then t + 1 else if s = 15 then t else if s = 19 then t else t - 1) : CT I' o k e (i + 1) t2 := by
  have hf2 := ct_facts h hi hs hv
  obtain ⟨t', q1, q2⟩ := ct_step h hi hs hv
  obtain ⟨h1, h2, h3, h4, h5, h6, h7⟩ := h
  have e1 : t' = t2 := by
    unfold st1 at q1
    rw [ht]
    split at q1
    · rename_i a
      rw [if_pos a]
      split at q1
      · cases q1; rfl
      · cases q1
    · rename_i a
      rw [if_neg a]
      split at q1
      · rename_i b
        rw [if_pos b]
        split at q1
        · cases q1; rfl
        · cases q1
      · rename_i b
        rw [if_neg b]
        split at q1
        · rename_i c
          rw [if_pos c]
          split at q1
          · cases q1; rfl
          · cases q1
        · rename_i c
          rw [if_neg c]
          split at q1
          · cases q1; rfl
          · cases q1
  subst e1
  refine ⟨h1, h2, ?_, ?_, by omega, h6, by rw [cdT_eq hf]; exact q2⟩
  · rw [ht]
    split
    · omega
    · split
      · omega
      · split
        · omega
        · have := hf2.2.2.2.1 (by omega) (by assumption) (by assumption); omega
  · rw [ht]
    split
    · omega
    · split
      · omega
      · split <;> omega
theorem gx_line {o : Nat} {I : IMem} (h : GX o I) (k y : Int) (h1 : 0 ≤ k) (h2 : k < 5) (h3 : 16 * k ≤ y) (h4 : y < 16 * k + I (o + 1) (1580 + k).toNat) : TL I (o + 1) k.toNat (y - 16 * k).toNat ∧ y < 16 * k + 16 := by
  have ht := h.2.1.2.2.2.2.2.2.2.2 k.toNat (by omega)
  rw [show (1580 + k).toNat = 1580 + k.toNat by omega] at h4
  exact ⟨ht.2.2 _ (by omega), by omega⟩
theorem gx_lm {o : Nat} {I : IMem} (h : GX o I) (k : Int) (h1 : 0 ≤ k) (h2 : k < 5) : 0 ≤ I (o + 1) (1580 + k).toNat ∧ I (o + 1) (1580 + k).toNat ≤ 16 := by
  have ht := h.2.1.2.2.2.2.2.2.2.2 k.toNat (by omega)
  rw [show (1580 + k).toNat = 1580 + k.toNat by omega]
  exact ⟨ht.1, ht.2.1⟩
theorem gx_val {o : Nat} {I : IMem} (h : GX o I) (y : Int) (h3 : 64 ≤ y) (h4 : y < 64 + I (o + 1) 1584) : 0 ≤ I (o + 1) (1590 + y).toNat ∧ I (o + 1) (1590 + y).toNat ≤ 5 := by
  have hl := gx_line h 4 y (by decide) (by decide) h3 h4
  have := hl.1.2.2.2.2.2.2 rfl
  rwa [show 1590 + 16 * (4 : Int).toNat + (y - 16 * 4).toNat = (1590 + y).toNat by have : (4 : Int).toNat = 4 := rfl; omega] at this
theorem gx_fm {o : Nat} {I : IMem} (h : GX o I) (k y : Int) (h1 : 0 ≤ k) (h2 : k < 4) (h3 : 16 * k ≤ y) (h4 : y < 16 * k + I (o + 1) (1580 + k).toNat) : CT I o k (I (o + 1) (1750 + y).toNat) (I (o + 1) (1670 + y).toNat) 0 := by
  obtain ⟨hl, hy⟩ := gx_line h k y h1 (by omega) h3 h4
  have e1 : 1670 + 16 * k.toNat + (y - 16 * k).toNat = (1670 + y).toNat := by omega
  have e2 : 1750 + 16 * k.toNat + (y - 16 * k).toNat = (1750 + y).toNat := by omega
  unfold TL at hl
  rw [e1, e2] at hl
  obtain ⟨t1, t2, t3, t4, t5, t6, t7⟩ := hl
  exact ⟨h1, by omega, by omega, by omega, t2, by omega, t5 (by omega)⟩
theorem gx_mt {o : Nat} {I : IMem} (h : GX o I) (k y : Int) (h1 : 0 ≤ k) (h2 : k < 5) (h3 : 16 * k ≤ y) (h4 : y < 16 * k + I (o + 1) (1580 + k).toNat) (hne : I (o + 1) (1830 + y).toNat ≠ I (o + 1) (1750 + y).toNat) : CT I o k (I (o + 1) (1830 + y).toNat) (I (o + 1) (1750 + y).toNat) 0 := by
  obtain ⟨hl, hy⟩ := gx_line h k y h1 (by omega) h3 h4
  have e1 : 1830 + 16 * k.toNat + (y - 16 * k).toNat = (1830 + y).toNat := by omega
  have e2 : 1750 + 16 * k.toNat + (y - 16 * k).toNat = (1750 + y).toNat := by omega
  unfold TL at hl
  rw [e1, e2] at hl
  obtain ⟨t1, t2, t3, t4, t5, t6, t7⟩ := hl
  refine ⟨h1, by omega, by omega, by omega, t3, by omega, ?_⟩
  rcases t6 with t6 | t6
  · exact absurd t6.symm hne
  · exact t6
