/-! THE REFERENCE'S INVARIANT -/
/-- one step of a TEXT's code, on a pile so high -/
def st1 (s v h : Int) : Option Int := if s < 12 then (if 0 ≤ s then some (h + 1) else none) else if s = 15 then (if 1 ≤ h ∧ v ≠ 0 then some h else none) else if s = 19 then (if 1 ≤ h then some h else none) else if 2 ≤ h then some (h - 1) else none
def rn (c : Nat → Int) : Nat → Nat → Int → Option Int
  | 0, _, h => some h
  | n + 1, i, h => (st1 (c (2 * i)) (c (2 * i + 1)) h).bind (rn c n (i + 1))
def cdT (I : IMem) (a k : Nat) : Nat → Int := fun j => I a (1910 + 820 * k + j)
/-- line i of TEXT k is well made -/
def TL (I : IMem) (a k i : Nat) : Prop := 0 ≤ I a (1670 + 16 * k + i) ∧ I a (1670 + 16 * k + i) ≤ I a (1750 + 16 * k + i) ∧ I a (1750 + 16 * k + i) ≤ I a (1830 + 16 * k + i) ∧ I a (1830 + 16 * k + i) ≤ 410 ∧
  (k < 4 → rn (cdT I a k) ((I a (1750 + 16 * k + i)).toNat - (I a (1670 + 16 * k + i)).toNat) (I a (1670 + 16 * k + i)).toNat 0 = some 1) ∧
  (I a (1750 + 16 * k + i) = I a (1830 + 16 * k + i) ∨ rn (cdT I a k) ((I a (1830 + 16 * k + i)).toNat - (I a (1750 + 16 * k + i)).toNat) (I a (1750 + 16 * k + i)).toNat 0 = some 1) ∧
  (k = 4 → 0 ≤ I a (1590 + 16 * k + i) ∧ I a (1590 + 16 * k + i) ≤ 5)
def TX (I : IMem) (a : Nat) : Prop := ∀ k, k < 5 → 0 ≤ I a (1580 + k) ∧ I a (1580 + k) ≤ 16 ∧ ∀ i : Nat, (i : Int) < I a (1580 + k) → TL I a k i
def hsum (I : IMem) (a : Nat) : Int := I a 61 + I a 62 + I a 63 + I a 64 + I a 65 + I a 66 + I a 67 + I a 68
def WX (I : IMem) (a : Nat) : Prop :=
  (2 ≤ I a 1 ∧ I a 1 ≤ 8 ∧ 0 ≤ I a 6 ∧ I a 6 ≤ 3 ∧ 0 ≤ I a 70 ∧ -1 ≤ I a 110 ∧ I a 110 ≤ 8) ∧
  (∀ l, l < 6 → 1 ≤ I a (10 + l) ∧ I a (10 + l) ≤ 24) ∧
  (∀ s : Nat, 1 ≤ s → s ≤ 8 → 0 ≤ I a (16 + s) ∧ I a (16 + s) < (s : Int)) ∧
  (∀ k, k < 8 → 0 < I a (29 + 4 * k) → 1 ≤ I a (26 + 4 * k) ∧ I a (26 + 4 * k) ≤ 8) ∧
  ((∀ k, 1 ≤ k → k ≤ 8 → 0 ≤ I a (60 + k)) ∧ hsum I a ≤ 12) ∧
  (∀ l, l < 6 → 0 ≤ I a (130 + l) ∧ I a (130 + l) ≤ 40) ∧
  (∀ l p : Nat, l < 6 → (p : Int) < I a (130 + l) → 1 ≤ I a (141 + 6 * (40 * l + p)) ∧ I a (141 + 6 * (40 * l + p)) ≤ 8) ∧
  (∀ k, k < 240 → 0 ≤ I a (141 + 6 * k) ∧ I a (141 + 6 * k) ≤ 8) ∧
  TX I a
def BX (o : Nat) (I : IMem) : Prop := (∀ k, k < 240 → (I (o + 13) k = 0 ∨ I (o + 13) k = 1) ∧ (I (o + 23) k = 0 ∨ I (o + 23) k = 1)) ∧ (∀ k, k < 8 → (0 ≤ I (o + 15) k ∧ I (o + 15) k < 240) ∧ (0 ≤ I (o + 24) k ∧ I (o + 24) k < 240))
def GX (o : Nat) (I : IMem) : Prop := RG I ∧ WX I (o + 1) ∧ (I o 3 ≠ 0 → WX I (o + 2)) ∧ (0 ≤ I o 12 ∧ I o 12 ≤ 400 ∧ -1 ≤ I o 22 ∧ I o 22 ≤ 15 ∧ 0 ≤ I o 35 ∧ I o 35 ≤ 8 ∧ 0 ≤ I o 50 ∧ I o 50 ≤ 8 ∧ (I o 3 = 0 ∨ I o 3 = 1)) ∧ BX o I
/-- what may be written at place j of a -/
def CW (I : IMem) (a j : Nat) (v : Int) : Prop :=
  (j < 1 ∨ (2 ≤ j ∧ j ≤ 5) ∨ (7 ≤ j ∧ j ≤ 9) ∨ j = 16 ∨ j = 25 ∨ (58 ≤ j ∧ j ≤ 60) ∨ j = 69 ∨ (71 ≤ j ∧ j ≤ 109) ∨ (111 ≤ j ∧ j ≤ 129) ∨ (136 ≤ j ∧ j ≤ 139) ∨ (140 ≤ j ∧ j < 1580 ∧ (j - 140) % 6 ≠ 1) ∨ (1585 ≤ j ∧ j < 1590) ∨ 6010 ≤ j) ∨
  (j = 1 ∧ 2 ≤ v ∧ v ≤ 8) ∨ (j = 6 ∧ 0 ≤ v ∧ v ≤ 3) ∨ (10 ≤ j ∧ j ≤ 15 ∧ 1 ≤ v ∧ v ≤ 24) ∨ (17 ≤ j ∧ j ≤ 24 ∧ 0 ≤ v ∧ v < (j : Int) - 16) ∨
  (26 ≤ j ∧ j ≤ 57 ∧ ((j - 26) % 4 = 1 ∨ (j - 26) % 4 = 2 ∨ ((j - 26) % 4 = 0 ∧ 1 ≤ v ∧ v ≤ 8) ∨ ((j - 26) % 4 = 3 ∧ 1 ≤ I a (j - 3) ∧ I a (j - 3) ≤ 8))) ∨
  (61 ≤ j ∧ j ≤ 68 ∧ 0 ≤ v ∧ v - I a j + hsum I a ≤ 12) ∨ (j = 70 ∧ 0 ≤ v) ∨ (j = 110 ∧ -1 ≤ v ∧ v ≤ 8) ∨
  (130 ≤ j ∧ j ≤ 135 ∧ 0 ≤ v ∧ v ≤ 40 ∧ (v ≤ I a j ∨ (v ≤ I a j + 1 ∧ 1 ≤ I a (141 + 6 * (40 * (j - 130) + (I a j).toNat)) ∧ I a (141 + 6 * (40 * (j - 130) + (I a j).toNat)) ≤ 8))) ∨
  (140 ≤ j ∧ j < 1580 ∧ (j - 140) % 6 = 1 ∧ 1 ≤ v ∧ v ≤ 8)
theorem TL_eq {I I1 : IMem} {a b k i : Nat} (hk : k < 5) (hi : i < 16) (h : ∀ j, 1590 ≤ j → j < 6010 → I1 b j = I a j) (ht : TL I a k i) : TL I1 b k i := by
  have hc : cdT I1 b k = cdT I a k ∨ True := Or.inr trivial
  have key : ∀ n s h0, s + n ≤ 410 → rn (cdT I1 b k) n s h0 = rn (cdT I a k) n s h0 := by
    intro n
    induction n with
    | zero => intro s h0 _; rfl
    | succ n ih =>
      intro s h0 hs
      have e1 : cdT I1 b k (2 * s) = cdT I a k (2 * s) := h _ (by omega) (by omega)
      have e2 : cdT I1 b k (2 * s + 1) = cdT I a k (2 * s + 1) := h _ (by omega) (by omega)
      show (st1 (cdT I1 b k (2 * s)) (cdT I1 b k (2 * s + 1)) h0).bind (rn (cdT I1 b k) n (s + 1)) = (st1 (cdT I a k (2 * s)) (cdT I a k (2 * s + 1)) h0).bind (rn (cdT I a k) n (s + 1))
      rw [e1, e2]
      congr 1
      funext x
      exact ih (s + 1) x (by omega)
  have a1 := h (1670 + 16 * k + i) (by omega) (by omega)
  have a2 := h (1750 + 16 * k + i) (by omega) (by omega)
  have a3 := h (1830 + 16 * k + i) (by omega) (by omega)
  have a4 := h (1590 + 16 * k + i) (by omega) (by omega)
  unfold TL at ht ⊢
  rw [a1, a2, a3, a4]
  obtain ⟨t1, t2, t3, t4, t5, t6, t7⟩ := ht
  refine ⟨t1, t2, t3, t4, fun hk4 => ?_, ?_, t7⟩
  · rw [key _ _ _ (by omega)]; exact t5 hk4
  · rcases t6 with t6 | t6
    · exact Or.inl t6
    · exact Or.inr (by rw [key _ _ _ (by omega)]; exact t6)
theorem TX_eq {I I1 : IMem} {a b : Nat} (h : ∀ j, 1580 ≤ j → j < 6010 → (j < 1585 ∨ 1590 ≤ j) → I1 b j = I a j) (ht : TX I a) : TX I1 b := by
  intro k hk
  obtain ⟨h1, h2, h3⟩ := ht k hk
  have e := h (1580 + k) (by omega) (by omega) (Or.inl (by omega))
  rw [e]
  exact ⟨h1, h2, fun i hi => TL_eq hk (by omega) (fun j q1 q2 => h j (by omega) q2 (Or.inr q1)) (h3 i hi)⟩
theorem WX_eq {I I1 : IMem} {a b : Nat} (h : ∀ j, j < 6190 → I1 b j = I a j) (hw : WX I a) : WX I1 b := by
  obtain ⟨hA, hB, hC, hD, hE, hF, hG, hS, hT⟩ := hw
  refine ⟨?_, fun l hl => ?_, fun s h1 h2 => ?_, fun k hk => ?_, ⟨fun k h1 h2 => ?_, ?_⟩, fun l hl => ?_, fun l p hl hp => ?_, fun k hk => by rw [h _ (by omega)]; exact hS k hk, TX_eq (fun j h1 h2 _ => h j (by omega)) hT⟩
  · rw [h 1 (by omega), h 6 (by omega), h 70 (by omega), h 110 (by omega)]; exact hA
  · rw [h _ (by omega)]; exact hB l hl
  · rw [h _ (by omega)]; exact hC s h1 h2
  · rw [h _ (by omega), h _ (by omega)]; exact hD k hk
  · rw [h _ (by omega)]; exact hE.1 k h1 h2
  · unfold hsum
    rw [h 61 (by omega), h 62 (by omega), h 63 (by omega), h 64 (by omega), h 65 (by omega), h 66 (by omega), h 67 (by omega), h 68 (by omega)]
    exact hE.2
  · rw [h _ (by omega)]; exact hF l hl
  · have hm := hF l hl
    rw [h _ (by omega)] at hp
    rw [h _ (by omega)]
    exact hG l p hl hp
theorem up_at {I : IMem} {o j : Nat} {v : Int} (p i : Nat) : up I o j v p i = if p = o ∧ i = j then v else I p i := rfl
theorem WX_up {I : IMem} {a j : Nat} {v : Int} (hw : WX I a) (hc : CW I a j v) : WX (up I a j v) a := by
  obtain ⟨hA, hB, hC, hD, hE, hF, hG, hS, hT⟩ := hw
  unfold CW at hc
  have e : ∀ i, up I a j v a i = if i = j then v else I a i := fun i => by rw [up_at]; simp
  refine ⟨?_, fun l hl => ?_, fun s h1 h2 => ?_, fun k hk hp => ?_, ⟨fun k h1 h2 => ?_, ?_⟩, fun l hl => ?_, fun l p hl hp => ?_, fun k hk => ?_, TX_eq (fun i h1 h2 h3 => ?_) hT⟩
  · rw [e 1, e 6, e 70, e 110]; omega
  · have := hB l hl; rw [e]; split <;> omega
  · have := hC s h1 h2; rw [e]; split <;> omega
  · have h1 := hD k hk
    rw [e] at hp
    rw [e]
    by_cases q1 : 29 + 4 * k = j
    · subst q1
      rw [if_neg (by omega)]
      have q2 : 29 + 4 * k - 3 = 26 + 4 * k := by omega
      rw [q2] at hc
      omega
    · rw [if_neg q1] at hp
      have := h1 hp
      split <;> omega
  · have := hE.1 k h1 h2; rw [e]; split <;> omega
  · have h1 := hE.2
    unfold hsum at h1 hc ⊢
    rw [e, e, e, e, e, e, e, e]
    by_cases q : 61 ≤ j ∧ j ≤ 68
    · rcases (show j = 61 ∨ j = 62 ∨ j = 63 ∨ j = 64 ∨ j = 65 ∨ j = 66 ∨ j = 67 ∨ j = 68 by omega) with rfl | rfl | rfl | rfl | rfl | rfl | rfl | rfl <;> simp <;> omega
    · rw [if_neg (by omega), if_neg (by omega), if_neg (by omega), if_neg (by omega), if_neg (by omega), if_neg (by omega), if_neg (by omega), if_neg (by omega)]
      exact h1
  · have := hF l hl; rw [e]; split <;> omega
  · have hm := hF l hl
    rw [e] at hp
    rw [e]
    by_cases q1 : 130 + l = j
    · subst q1
      rw [if_pos rfl] at hp
      rw [if_neg (by omega)]
      by_cases q2 : (p : Int) < I a (130 + l)
      · exact hG l p hl q2
      · have q3 : 130 + l - 130 = l := by omega
        rw [q3] at hc
        have q4 : p = (I a (130 + l)).toNat := by omega
        rw [← q4] at hc
        omega
    · rw [if_neg q1] at hp
      have h2 := hG l p hl hp
      split <;> omega
  · have := hS k hk; rw [e]; split <;> omega
  · rw [e, if_neg (by omega)]
theorem WX_ne {I : IMem} {o a j : Nat} {v : Int} (hw : WX I a) (ho : o ≠ a) : WX (up I o j v) a := WX_eq (fun i _ => by rw [up_at, if_neg (fun q => ho q.1.symm)]) hw
theorem GX_upn {I : IMem} {o c j : Nat} {v : Int} (h : GX o I) (hv : inr v) (hc : 3 ≤ c) (h13 : c ≠ 13 ∧ c ≠ 23 ∧ c ≠ 15 ∧ c ≠ 24 ∨ ((c = 13 ∨ c = 23) ∧ (v = 0 ∨ v = 1)) ∨ ((c = 15 ∨ c = 24) ∧ 0 ≤ v ∧ v < 240)) : GX o (up I (o + c) j v) := by
  obtain ⟨h1, h2, h3, h4, h5, h6⟩ := h
  have e : ∀ i, up I (o + c) j v o i = I o i := fun i => by rw [up_at, if_neg (fun q => by omega)]
  refine ⟨h1.up hv, WX_ne h2 (by omega), fun q => ?_, ?_, fun k hk => ?_, fun k hk => ?_⟩
  · rw [e] at q; exact WX_ne (h3 q) (by omega)
  · rw [e, e, e, e, e]; exact h4
  · have := h5 k hk
    rw [up_at, up_at]
    split <;> split <;> omega
  · have := h6 k hk
    rw [up_at, up_at]
    split <;> split <;> omega
theorem GX_up1 {I : IMem} {o j : Nat} {v : Int} (h : GX o I) (hv : inr v) (hc : CW I (o + 1) j v) : GX o (up I (o + 1) j v) := by
  obtain ⟨h1, h2, h3, h4, h5, h6⟩ := h
  have e : ∀ i, up I (o + 1) j v o i = I o i := fun i => by rw [up_at, if_neg (fun q => by omega)]
  refine ⟨h1.up hv, WX_up h2 hc, fun q => ?_, ?_, fun k hk => ?_, fun k hk => ?_⟩
  · rw [e] at q; exact WX_ne (h3 q) (by omega)
  · rw [e, e, e, e, e]; exact h4
  · rw [up_at, up_at, if_neg (fun q => by omega), if_neg (fun q => by omega)]; exact h5 k hk
  · rw [up_at, up_at, if_neg (fun q => by omega), if_neg (fun q => by omega)]; exact h6 k hk
theorem GX_up0 {I : IMem} {o j : Nat} {v : Int} (h : GX o I) (hv : inr v) (hc : (j ≠ 3 ∧ j ≠ 12 ∧ j ≠ 22 ∧ j ≠ 35 ∧ j ≠ 50) ∨ (j = 12 ∧ 0 ≤ v ∧ v ≤ 400) ∨ (j = 22 ∧ -1 ≤ v ∧ v ≤ 15) ∨ ((j = 35 ∨ j = 50) ∧ 0 ≤ v ∧ v ≤ 8)) : GX o (up I o j v) := by
  obtain ⟨h1, h2, h3, h4, h5, h6⟩ := h
  have e : ∀ i, up I o j v o i = if i = j then v else I o i := fun i => by rw [up_at]; simp
  refine ⟨h1.up hv, WX_ne h2 (by omega), fun q => ?_, ?_, fun k hk => ?_, fun k hk => ?_⟩
  · rw [e, if_neg (by omega)] at q; exact WX_ne (h3 q) (by omega)
  · have e3 : up I o j v o 3 = I o 3 := by rw [e, if_neg (by omega)]
    rw [e3, e, e, e, e]
    by_cases q1 : 12 = j
    · rw [if_pos q1, if_neg (by omega), if_neg (by omega), if_neg (by omega)]; omega
    · by_cases q2 : 22 = j
      · rw [if_neg q1, if_pos q2, if_neg (by omega), if_neg (by omega)]; omega
      · by_cases q3 : 35 = j
        · rw [if_neg q1, if_neg q2, if_pos q3, if_neg (by omega)]; omega
        · by_cases q4 : 50 = j
          · rw [if_neg q1, if_neg q2, if_neg q3, if_pos q4]; omega
          · rw [if_neg q1, if_neg q2, if_neg q3, if_neg q4]; exact h4
  · rw [up_at, up_at, if_neg (fun q => by omega), if_neg (fun q => by omega)]; exact h5 k hk
  · rw [up_at, up_at, if_neg (fun q => by omega), if_neg (fun q => by omega)]; exact h6 k hk
theorem sat_zwXn {Q : Int → IMem → Prop} {I : IMem} {o c j : Nat} {v : Int} {k : IMem → Res} (hI : GX o I) (hv : inr v) (hc : 3 ≤ c) (h13 : c ≠ 13 ∧ c ≠ 23 ∧ c ≠ 15 ∧ c ≠ 24 ∨ ((c = 13 ∨ c = 23) ∧ (v = 0 ∨ v = 1)) ∨ ((c = 15 ∨ c = 24) ∧ 0 ≤ v ∧ v < 240)) (h : ∀ I1 : IMem, (∀ p i, I1 p i = if p = o + c ∧ i = j then v else I p i) → GX o I1 → sat (k I1) Q) : sat (zw I (o + c) j v k) Q := h _ (fun _ _ => rfl) (GX_upn hI hv hc h13)
theorem sat_zwX1 {Q : Int → IMem → Prop} {I : IMem} {o j : Nat} {v : Int} {k : IMem → Res} (hI : GX o I) (hv : inr v) (hc : CW I (o + 1) j v) (h : ∀ I1 : IMem, (∀ p i, I1 p i = if p = o + 1 ∧ i = j then v else I p i) → GX o I1 → sat (k I1) Q) : sat (zw I (o + 1) j v k) Q := h _ (fun _ _ => rfl) (GX_up1 hI hv hc)
theorem sat_zwX0 {Q : Int → IMem → Prop} {I : IMem} {o j : Nat} {v : Int} {k : IMem → Res} (hI : GX o I) (hv : inr v) (hc : (j ≠ 3 ∧ j ≠ 12 ∧ j ≠ 22 ∧ j ≠ 35 ∧ j ≠ 50) ∨ (j = 12 ∧ 0 ≤ v ∧ v ≤ 400) ∨ (j = 22 ∧ -1 ≤ v ∧ v ≤ 15) ∨ ((j = 35 ∨ j = 50) ∧ 0 ≤ v ∧ v ≤ 8)) (h : ∀ I1 : IMem, (∀ p i, I1 p i = if p = o ∧ i = j then v else I p i) → GX o I1 → sat (k I1) Q) : sat (zw I o j v k) Q := h _ (fun _ _ => rfl) (GX_up0 hI hv hc)
theorem gx_t {o : Nat} {I : IMem} (h : GX o I) : 0 ≤ I o 12 ∧ I o 12 ≤ 400 ∧ -1 ≤ I o 22 ∧ I o 22 ≤ 15 ∧ 0 ≤ I o 35 ∧ I o 35 ≤ 8 ∧ 0 ≤ I o 50 ∧ I o 50 ≤ 8 ∧ (I o 3 = 0 ∨ I o 3 = 1) := h.2.2.2.1
theorem gx_b {o : Nat} {I : IMem} (h : GX o I) (j : Nat) (hj : j < 240) : (I (o + 13) j = 0 ∨ I (o + 13) j = 1) ∧ (I (o + 23) j = 0 ∨ I (o + 23) j = 1) := h.2.2.2.2.1 j hj
theorem gx_h {o : Nat} {I : IMem} (h : GX o I) (j : Nat) (hj : j < 8) : (0 ≤ I (o + 15) j ∧ I (o + 15) j < 240) ∧ (0 ≤ I (o + 24) j ∧ I (o + 24) j < 240) := h.2.2.2.2.2 j hj
theorem gx_rows {o : Nat} {I : IMem} (h : GX o I) (j : Nat) (h1 : 140 ≤ j) (h2 : j < 1580) (h3 : (j - 140) % 6 = 1) : 0 ≤ I (o + 1) j ∧ I (o + 1) j ≤ 8 := by
  have := h.2.1.2.2.2.2.2.2.2.1 ((j - 141) / 6) (by omega)
  rwa [show 141 + 6 * ((j - 141) / 6) = j by omega] at this
theorem gx_a {o : Nat} {I : IMem} (h : GX o I) : 2 ≤ I (o + 1) 1 ∧ I (o + 1) 1 ≤ 8 ∧ 0 ≤ I (o + 1) 6 ∧ I (o + 1) 6 ≤ 3 ∧ 0 ≤ I (o + 1) 70 ∧ -1 ≤ I (o + 1) 110 ∧ I (o + 1) 110 ≤ 8 := h.2.1.1
theorem gx_many {o : Nat} {I : IMem} (h : GX o I) (j : Nat) (h1 : 130 ≤ j) (h2 : j < 136) : 0 ≤ I (o + 1) j ∧ I (o + 1) j ≤ 40 := by
  have := h.2.1.2.2.2.2.2.1 (j - 130) (by omega)
  rwa [show 130 + (j - 130) = j by omega] at this
theorem gx_seen {o : Nat} {I : IMem} (h : GX o I) (j : Nat) (h1 : 10 ≤ j) (h2 : j < 16) : 1 ≤ I (o + 1) j ∧ I (o + 1) j ≤ 24 := by
  have := h.2.1.2.1 (j - 10) (by omega)
  rwa [show 10 + (j - 10) = j by omega] at this
theorem gx_part {o : Nat} {I : IMem} (h : GX o I) (j : Nat) (h1 : 17 ≤ j) (h2 : j < 25) : 0 ≤ I (o + 1) j ∧ I (o + 1) j < (j : Int) - 16 := by
  have := h.2.1.2.2.1 (j - 16) (by omega) (by omega)
  rw [show 16 + (j - 16) = j by omega] at this
  omega
theorem gx_size {o : Nat} {I : IMem} (h : GX o I) (l p : Int) (h1 : 0 ≤ l) (h2 : l < 6) (h3 : 0 ≤ p) (h4 : p < I (o + 1) (130 + l).toNat) : 1 ≤ I (o + 1) (140 + 6 * (40 * l + p) + 1).toNat ∧ I (o + 1) (140 + 6 * (40 * l + p) + 1).toNat ≤ 8 := by
  have e1 : (130 + l).toNat = 130 + l.toNat := by omega
  rw [e1] at h4
  have := h.2.1.2.2.2.2.2.2.1 l.toNat p.toNat (by omega) (by omega)
  rwa [show (140 + 6 * (40 * l + p) + 1).toNat = 141 + 6 * (40 * l.toNat + p.toNat) by omega]
section CWS
variable {I : IMem} {a j : Nat} {v : Int}
theorem cw_f1 (h : j < 1 ∨ (2 ≤ j ∧ j ≤ 5)) : CW I a j v := Or.inl (h.elim Or.inl (fun h => Or.inr (Or.inl h)))
theorem cw_lit (h : (decide (j < 1) || (decide (2 ≤ j) && decide (j ≤ 5)) || (decide (7 ≤ j) && decide (j ≤ 9)) || (decide (71 ≤ j) && decide (j ≤ 109)) || (decide (111 ≤ j) && decide (j ≤ 129))) = true) : CW I a j v := by
  simp only [Bool.or_eq_true, Bool.and_eq_true, decide_eq_true_eq] at h
  exact Or.inl (by omega)
theorem cw_71 (h : 71 ≤ j ∧ j ≤ 109) : CW I a j v := Or.inl (by omega)
theorem cw_111 (h : 111 ≤ j ∧ j ≤ 129) : CW I a j v := Or.inl (by omega)
theorem cw_6010 (h : 6010 ≤ j) : CW I a j v := Or.inl (by omega)
theorem cw_grp (h : 140 ≤ j ∧ j < 1580 ∧ (j - 140) % 6 ≠ 1) : CW I a j v := Or.inl (by omega)
theorem cw_1 (h : j = 1 ∧ 2 ≤ v ∧ v ≤ 8) : CW I a j v := Or.inr (Or.inl h)
theorem cw_6 (h : j = 6 ∧ 0 ≤ v ∧ v ≤ 3) : CW I a j v := Or.inr (Or.inr (Or.inl h))
theorem cw_10 (h : 10 ≤ j ∧ j ≤ 15 ∧ 1 ≤ v ∧ v ≤ 24) : CW I a j v := Or.inr (Or.inr (Or.inr (Or.inl h)))
theorem cw_17 (h : 17 ≤ j ∧ j ≤ 24 ∧ 0 ≤ v ∧ v < (j : Int) - 16) : CW I a j v := Or.inr (Or.inr (Or.inr (Or.inr (Or.inl h))))
theorem cw_26 (h : 26 ≤ j ∧ j ≤ 57 ∧ ((j - 26) % 4 = 1 ∨ (j - 26) % 4 = 2 ∨ ((j - 26) % 4 = 0 ∧ 1 ≤ v ∧ v ≤ 8) ∨ ((j - 26) % 4 = 3 ∧ 1 ≤ I a (j - 3) ∧ I a (j - 3) ≤ 8))) : CW I a j v := Or.inr (Or.inr (Or.inr (Or.inr (Or.inr (Or.inl h)))))
theorem cw_61 (h : 61 ≤ j ∧ j ≤ 68 ∧ 0 ≤ v ∧ v - I a j + hsum I a ≤ 12) : CW I a j v := Or.inr (Or.inr (Or.inr (Or.inr (Or.inr (Or.inr (Or.inl h))))))
theorem cw_70 (h : j = 70 ∧ 0 ≤ v) : CW I a j v := Or.inr (Or.inr (Or.inr (Or.inr (Or.inr (Or.inr (Or.inr (Or.inl h)))))))
theorem cw_110 (h : j = 110 ∧ -1 ≤ v ∧ v ≤ 8) : CW I a j v := Or.inr (Or.inr (Or.inr (Or.inr (Or.inr (Or.inr (Or.inr (Or.inr (Or.inl h))))))))
theorem cw_130 (h : 130 ≤ j ∧ j ≤ 135 ∧ 0 ≤ v ∧ v ≤ 40 ∧ (v ≤ I a j ∨ (v ≤ I a j + 1 ∧ 1 ≤ I a (141 + 6 * (40 * (j - 130) + (I a j).toNat)) ∧ I a (141 + 6 * (40 * (j - 130) + (I a j).toNat)) ≤ 8))) : CW I a j v := Or.inr (Or.inr (Or.inr (Or.inr (Or.inr (Or.inr (Or.inr (Or.inr (Or.inr (Or.inl h)))))))))
theorem cw_sz (h : 140 ≤ j ∧ j < 1580 ∧ (j - 140) % 6 = 1 ∧ 1 ≤ v ∧ v ≤ 8) : CW I a j v := Or.inr (Or.inr (Or.inr (Or.inr (Or.inr (Or.inr (Or.inr (Or.inr (Or.inr (Or.inr h)))))))))
end CWS
