/-! text, by hand -/
def DA (a j : Nat) : Prop := j = 1580 + a ∨ (1590 + 16 * a ≤ j ∧ j < 1606 + 16 * a) ∨ (1670 + 16 * a ≤ j ∧ j < 1686 + 16 * a) ∨ (1750 + 16 * a ≤ j ∧ j < 1766 + 16 * a) ∨ (1830 + 16 * a ≤ j ∧ j < 1846 + 16 * a) ∨ (1910 + 820 * a ≤ j ∧ j < 2730 + 820 * a)
theorem da_lo {a j : Nat} (h : j < 1580) : ¬ DA a j := by unfold DA; omega
theorem da_ne {a k j : Nat} (hk : k < 5) (ha : a < 5) (hn : k ≠ a) (h : DA k j) : ¬ DA a j := by
  unfold DA at h ⊢
  rcases Nat.lt_or_gt_of_ne hn with q | q
  · rcases h with h | h | h | h | h | h <;> omega
  · rcases h with h | h | h | h | h | h <;> omega
theorem TL_eq2 {I I1 : IMem} {a b k i : Nat} (hi : i < 16) (h : ∀ j, DA k j → I1 b j = I a j) (ht : TL I a k i) : TL I1 b k i := by
  have key : ∀ n s h0, s + n ≤ 410 → rn (cdT I1 b k) n s h0 = rn (cdT I a k) n s h0 := by
    intro n s h0 hs
    refine rn_eq (c := cdT I a k) _ _ _ (fun j q1 q2 => ?_)
    exact h (1910 + 820 * k + j) (by unfold DA; omega)
  have a1 := h (1670 + 16 * k + i) (by unfold DA; omega)
  have a2 := h (1750 + 16 * k + i) (by unfold DA; omega)
  have a3 := h (1830 + 16 * k + i) (by unfold DA; omega)
  have a4 := h (1590 + 16 * k + i) (by unfold DA; omega)
  unfold TL at ht ⊢
  rw [a1, a2, a3, a4]
  obtain ⟨t1, t2, t3, t4, t5, t6, t7⟩ := ht
  refine ⟨t1, t2, t3, t4, fun hk4 => ?_, ?_, t7⟩
  · rw [key _ _ _ (by omega)]; exact t5 hk4
  · rcases t6 with t6 | t6
    · exact Or.inl t6
    · exact Or.inr (by rw [key _ _ _ (by omega)]; exact t6)
theorem WX_eq2 {I I1 : IMem} {a b : Nat} (h : ∀ j, j < 1580 → I1 b j = I a j) (hT1 : TX I1 b) (hw : WX I a) : WX I1 b := by
  obtain ⟨hA, hB, hC, hD, hE, hF, hG, hS, hT⟩ := hw
  refine ⟨?_, fun l hl => ?_, fun s h1 h2 => ?_, fun k hk => ?_, ⟨fun k h1 h2 => ?_, ?_⟩, fun l hl => ?_, fun l p hl hp => ?_, fun k hk => by rw [h _ (by omega)]; exact hS k hk, hT1⟩
  · rw [h 1 (by omega), h 6 (by omega), h 70 (by omega), h 110 (by omega)]; exact hA
  · rw [h _ (by omega)]; exact hB l hl
  · rw [h _ (by omega)]; exact hC s h1 h2
  · rw [h _ (by omega), h _ (by omega)]; exact hD k hk
  · rw [h _ (by omega)]; exact hE.1 k h1 h2
  · unfold hsum
    rw [h 61 (by omega), h 62 (by omega), h 63 (by omega), h 64 (by omega), h 65 (by omega), h 66 (by omega), h 67 (by omega), h 68 (by omega)]
    exact hE.2
  · rw [h _ (by omega)]; exact hF l hl
  · have hm := hF l hl
    rw [h _ (by omega)] at hp
    rw [h _ (by omega)]
    exact hG l p hl hp
theorem GX_w {o : Nat} {Ib I : IMem} (h : GX o Ib) (hw : WX I (o + 1)) (hr : RG I) (hf : ∀ q j, q ≠ o + 1 → I q j = Ib q j) : GX o I := by
  obtain ⟨_, _, b, c, d, e⟩ := h
  have f0 : ∀ j, I o j = Ib o j := fun j => hf _ _ (by omega)
  refine ⟨hr, hw, fun q => WX_eq (fun j _ => hf _ _ (by omega)) (b (by rw [← f0]; exact q)), ?_, fun k hk => ?_, fun k hk => ?_⟩
  · simp only [f0]; exact c
  · rw [hf (o + 13) k (by omega), hf (o + 23) k (by omega)]; exact d k hk
  · rw [hf (o + 15) k (by omega), hf (o + 24) k (by omega)]; exact e k hk
/-- while the rows are copied -/
def PR (o A : Nat) (Ib : IMem) (w c : Int) (I : IMem) : Prop := RG I ∧ (∀ q j, q ≠ o + 1 → I q j = Ib q j) ∧ I (o + 1) (1580 + A) = Ib o 10 ∧ (∀ j, ¬ DA A j → I (o + 1) j = Ib (o + 1) j) ∧ (∀ i : Nat, (i : Int) < w → I (o + 1) (1590 + 16 * A + i) = Ib (o + 4) (4 * i) ∧ I (o + 1) (1670 + 16 * A + i) = Ib (o + 4) (4 * i + 1) ∧ I (o + 1) (1750 + 16 * A + i) = Ib (o + 4) (4 * i + 2) ∧ I (o + 1) (1830 + 16 * A + i) = Ib (o + 4) (4 * i + 3)) ∧ (∀ j : Nat, (j : Int) < c → I (o + 1) (1910 + 820 * A + j) = Ib (o + 5) j)
/-- what stands before the copying -/
def PBx (o A : Nat) (Ib : IMem) : Prop := A < 5 ∧ GX o Ib ∧ Ib o 9 = A ∧ 0 ≤ Ib o 10 ∧ Ib o 10 ≤ 16 ∧ 0 ≤ Ib o 11 ∧ Ib o 11 ≤ 410 ∧ ∀ i : Nat, (i : Int) < Ib o 10 → LR o Ib i
theorem pr_fin {o A : Nat} {Ib I : IMem} (hb : PBx o A Ib) (h : PR o A Ib (Ib o 10) (2 * Ib o 11) I) : GX o I ∧ ∀ j, j < 1580 → I (o + 1) j = Ib (o + 1) j := by
  obtain ⟨hA, hG, h9, l0, l1, s0, s1, hl⟩ := hb
  obtain ⟨hr, hf, ht, hd, hrow, hco⟩ := h
  have lo : ∀ j, j < 1580 → I (o + 1) j = Ib (o + 1) j := fun j hj => hd j (da_lo hj)
  refine ⟨GX_w hG (WX_eq2 lo ?_ hG.2.1) hr hf, lo⟩
  intro k hk
  by_cases e : k = A
  · subst e
    rw [ht]
    refine ⟨l0, l1, fun i hi => ?_⟩
    obtain ⟨r0, r1, r2, r3⟩ := hrow i hi
    have hli := hl i hi
    unfold LR at hli
    obtain ⟨a, b, c, d, e, f, g⟩ := hli
    unfold TL
    rw [r0, r1, r2, r3]
    refine ⟨a, b, c, by omega, fun w => ?_, ?_, fun w => g (by omega)⟩
    · rw [rn_eq (c := Ib (o + 5)) (c1 := cdT I (o + 1) k) _ _ _ (fun j q1 q2 => hco j (by omega))]
      exact e (by omega)
    · rcases f with f | f
      · exact Or.inl f
      · refine Or.inr ?_
        rw [rn_eq (c := Ib (o + 5)) (c1 := cdT I (o + 1) k) _ _ _ (fun j q1 q2 => hco j (by omega))]
        exact f
  · have h0 := hG.2.1.2.2.2.2.2.2.2.2 k hk
    have e1 : I (o + 1) (1580 + k) = Ib (o + 1) (1580 + k) := hd _ (da_ne hk hA e (Or.inl rfl))
    rw [e1]
    refine ⟨h0.1, h0.2.1, fun i hi => ?_⟩
    exact TL_eq2 (by have := h0.2.1; omega) (fun j hj => hd j (da_ne hk hA e hj)) (h0.2.2 i hi)
theorem ok_text259 (fu : Nat) (o0 A : Nat) (Ib : IMem) (hb : PBx o0 A Ib) : ∀ (m : Nat) (w : Int) (I : IMem), 0 ≤ w → PR o0 A Ib (Ib o0 10) w I → (2 * Ib o0 11 - w).toNat < m → sat (f_X_text_259 fu o0 (A : Int) m w I) (fun v I => inr v ∧ GX o0 I ∧ ∀ j, j < 1580 → I (o0 + 1) j = Ib (o0 + 1) j) := by
  intro m
  induction m with
  | zero => intro w I _ _ h0; exact absurd h0 (Nat.not_lt_zero _)
  | succ m ih =>
    intro w I hw hp hm
    show sat (fb_X_text_259 fu o0 (A : Int) (f_X_text_259 fu o0 (A : Int) m) w I) _
    unfold fb_X_text_259
    have hb2 := hb
    obtain ⟨hA, hG, h9, l0, l1, s0, s1, hl⟩ := hb2
    have hp2 := hp
    obtain ⟨hr, hf, ht, hd, hrow, hco⟩ := hp2
    have e11 : I o0 11 = Ib o0 11 := hf _ _ (by omega)
    rw [e11, wr32_i2 (x := 2 * Ib o0 11) (by omega) (by omega)]
    refine sat_ite (fun q => ?_) (fun q => ?_)
    · obtain ⟨W, hW⟩ : ∃ W : Nat, w = W := ⟨w.toNat, by omega⟩
      subst hW
      refine sat_zg (by omega) (fun _ => ?_)
      refine sat_zl (wr32_in _) (fun x44 hx44 ax44 bx44 => ?_)
      rw [wr32_i2 (x := 820 * (A : Int)) (by omega) (by omega), wr32_i2 (x := 1910 + 820 * (A : Int)) (by omega) (by omega), wr32_i2 (by omega) (by omega)] at hx44
      refine sat_zg (by omega) (fun _ => ?_)
      refine sat_zw hr (hr _ _) (fun I1 e1 hr1 => ?_)
      refine sat_zl (wr32_in _) (fun x45 hx45 ax45 bx45 => ?_)
      rw [wr32_i2 (by omega) (by omega)] at hx45
      refine ih x45 I1 (by omega) ⟨hr1, fun q j hq => by rw [e1, if_neg (fun z => hq z.1)]; exact hf q j hq, by rw [e1, if_neg (by omega)]; exact ht, fun j hj => ?_, fun i hi => ?_, fun j hj => ?_⟩ (by omega)
      · rw [e1, if_neg (fun z => hj (by unfold DA; omega))]; exact hd j hj
      · rw [e1, e1, e1, e1, if_neg (by omega), if_neg (by omega), if_neg (by omega), if_neg (by omega)]; exact hrow i hi
      · rw [e1]
        by_cases z : j = W
        · rw [if_pos ⟨rfl, by omega⟩, hf _ _ (by omega), z]; rfl
        · rw [if_neg (by omega)]; exact hco j (by omega)
    · have hc : PR o0 A Ib (Ib o0 10) (2 * Ib o0 11) I := ⟨hr, hf, ht, hd, hrow, fun j hj => hco j (by omega)⟩
      exact sat_zr ⟨hr _ _, pr_fin hb hc⟩
theorem ok_text145 (fu : Nat) (o0 A : Nat) (Ib : IMem) (hfu : 5000000000 < fu) (hb : PBx o0 A Ib) : ∀ (m : Nat) (w : Int) (I : IMem), 0 ≤ w → PR o0 A Ib w 0 I → w ≤ Ib o0 10 → (Ib o0 10 - w).toNat < m → sat (f_X_text_145 fu (fun I42 => f_X_text_259 fu o0 (A : Int) fu 0 I42) o0 (A : Int) m w I) (fun v I => inr v ∧ GX o0 I ∧ ∀ j, j < 1580 → I (o0 + 1) j = Ib (o0 + 1) j) := by
  intro m
  induction m with
  | zero => intro w I _ _ _ h0; exact absurd h0 (Nat.not_lt_zero _)
  | succ m ih =>
    intro w I hw hp hwl hm
    show sat (fb_X_text_145 fu (fun I42 => f_X_text_259 fu o0 (A : Int) fu 0 I42) o0 (A : Int) (f_X_text_145 fu (fun I42 => f_X_text_259 fu o0 (A : Int) fu 0 I42) o0 (A : Int) m) w I) _
    unfold fb_X_text_145
    have hb2 := hb
    obtain ⟨hA, hG, h9, l0, l1, s0, s1, hl⟩ := hb2
    have hp2 := hp
    obtain ⟨hr, hf, ht, hd, hrow, hco⟩ := hp2
    have e10 : I o0 10 = Ib o0 10 := hf _ _ (by omega)
    rw [e10]
    refine sat_ite (fun q => ?_) (fun q => ?_)
    · obtain ⟨W, hW⟩ : ∃ W : Nat, w = W := ⟨w.toNat, by omega⟩
      subst hW
      refine sat_zl (wr32_in _) (fun x29 hx29 _ _ => ?_)
      rw [wr32_i2 (by omega) (by omega)] at hx29
      refine sat_zg (by omega) (fun _ => ?_)
      refine sat_zl (wr32_in _) (fun x31 hx31 _ _ => ?_)
      rw [wr32_i2 (x := 16 * (A : Int)) (by omega) (by omega), wr32_i2 (x := 1590 + 16 * (A : Int)) (by omega) (by omega), wr32_i2 (by omega) (by omega)] at hx31
      refine sat_zg (by omega) (fun _ => ?_)
      refine sat_zw hr (hr _ _) (fun I1 e1 hr1 => ?_)
      refine sat_zl (wr32_in _) (fun x32 hx32 _ _ => ?_)
      rw [wr32_i2 (x := 4 * (W : Int)) (by omega) (by omega), wr32_i2 (by omega) (by omega)] at hx32
      refine sat_zg (by omega) (fun _ => ?_)
      refine sat_zl (wr32_in _) (fun x34 hx34 _ _ => ?_)
      rw [wr32_i2 (x := 16 * (A : Int)) (by omega) (by omega), wr32_i2 (x := 1670 + 16 * (A : Int)) (by omega) (by omega), wr32_i2 (by omega) (by omega)] at hx34
      refine sat_zg (by omega) (fun _ => ?_)
      refine sat_zw hr1 (hr1 _ _) (fun I2 e2 hr2 => ?_)
      refine sat_zl (wr32_in _) (fun x35 hx35 _ _ => ?_)
      rw [wr32_i2 (x := 4 * (W : Int)) (by omega) (by omega), wr32_i2 (by omega) (by omega)] at hx35
      refine sat_zg (by omega) (fun _ => ?_)
      refine sat_zl (wr32_in _) (fun x37 hx37 _ _ => ?_)
      rw [wr32_i2 (x := 16 * (A : Int)) (by omega) (by omega), wr32_i2 (x := 1750 + 16 * (A : Int)) (by omega) (by omega), wr32_i2 (by omega) (by omega)] at hx37
      refine sat_zg (by omega) (fun _ => ?_)
      refine sat_zw hr2 (hr2 _ _) (fun I3 e3 hr3 => ?_)
      refine sat_zl (wr32_in _) (fun x38 hx38 _ _ => ?_)
      rw [wr32_i2 (x := 4 * (W : Int)) (by omega) (by omega), wr32_i2 (by omega) (by omega)] at hx38
      refine sat_zg (by omega) (fun _ => ?_)
      refine sat_zl (wr32_in _) (fun x40 hx40 _ _ => ?_)
      rw [wr32_i2 (x := 16 * (A : Int)) (by omega) (by omega), wr32_i2 (x := 1830 + 16 * (A : Int)) (by omega) (by omega), wr32_i2 (by omega) (by omega)] at hx40
      refine sat_zg (by omega) (fun _ => ?_)
      refine sat_zw hr3 (hr3 _ _) (fun I4 e4 hr4 => ?_)
      refine sat_zl (wr32_in _) (fun x41 hx41 _ _ => ?_)
      rw [wr32_i2 (by omega) (by omega)] at hx41
      have f1 : ∀ q j, q ≠ o0 + 1 → I1 q j = I q j := fun q j hq => by rw [e1, if_neg (fun z => hq z.1)]
      have f2 : ∀ q j, q ≠ o0 + 1 → I2 q j = I q j := fun q j hq => by rw [e2, if_neg (fun z => hq z.1), f1 q j hq]
      have f3 : ∀ q j, q ≠ o0 + 1 → I3 q j = I q j := fun q j hq => by rw [e3, if_neg (fun z => hq z.1), f2 q j hq]
      have f4 : ∀ q j, q ≠ o0 + 1 → I4 q j = I q j := fun q j hq => by rw [e4, if_neg (fun z => hq z.1), f3 q j hq]
      have k4 : ∀ j, j ≠ 1590 + 16 * A + W → j ≠ 1670 + 16 * A + W → j ≠ 1750 + 16 * A + W → j ≠ 1830 + 16 * A + W → I4 (o0 + 1) j = I (o0 + 1) j := fun j a b c d => by rw [e4, if_neg (by omega), e3, if_neg (by omega), e2, if_neg (by omega), e1, if_neg (by omega)]
      have c1 : I4 (o0 + 1) (1590 + 16 * A + W) = Ib (o0 + 4) (4 * W) := by
        rw [e4, if_neg (by omega), e3, if_neg (by omega), e2, if_neg (by omega), e1, if_pos ⟨rfl, by omega⟩, hf _ _ (by omega)]; congr 1; omega
      have c2 : I4 (o0 + 1) (1670 + 16 * A + W) = Ib (o0 + 4) (4 * W + 1) := by
        rw [e4, if_neg (by omega), e3, if_neg (by omega), e2, if_pos ⟨rfl, by omega⟩, f1 _ _ (by omega), hf _ _ (by omega)]; congr 1; omega
      have c3 : I4 (o0 + 1) (1750 + 16 * A + W) = Ib (o0 + 4) (4 * W + 2) := by
        rw [e4, if_neg (by omega), e3, if_pos ⟨rfl, by omega⟩, f2 _ _ (by omega), hf _ _ (by omega)]; congr 1; omega
      have c4 : I4 (o0 + 1) (1830 + 16 * A + W) = Ib (o0 + 4) (4 * W + 3) := by
        rw [e4, if_pos ⟨rfl, by omega⟩, f3 _ _ (by omega), hf _ _ (by omega)]; congr 1; omega
      refine ih x41 I4 (by omega) ⟨hr4, fun q j hq => by rw [f4 q j hq]; exact hf q j hq, by rw [k4 _ (by omega) (by omega) (by omega) (by omega)]; exact ht, fun j hj => ?_, fun i hi => ?_, fun j hj => by omega⟩ (by omega) (by omega)
      · rw [k4 j (fun z => hj (by unfold DA; omega)) (fun z => hj (by unfold DA; omega)) (fun z => hj (by unfold DA; omega)) (fun z => hj (by unfold DA; omega))]; exact hd j hj
      · by_cases z : i = W
        · subst z; exact ⟨c1, c2, c3, c4⟩
        · rw [k4 _ (by omega) (by omega) (by omega) (by omega), k4 _ (by omega) (by omega) (by omega) (by omega), k4 _ (by omega) (by omega) (by omega) (by omega), k4 _ (by omega) (by omega) (by omega) (by omega)]
          exact hrow i (by omega)
    · have hc : PR o0 A Ib (Ib o0 10) 0 I := ⟨hr, hf, ht, hd, fun i hi => hrow i (by omega), hco⟩
      exact ok_text259 fu o0 A Ib hb fu 0 I (Int.le_refl _) hc (by omega)
theorem ok_text57 (fu : Nat) (K : Int → IMem → Res) (o0 : Nat) (a1 : Int) (Ib : IMem) (hfu : 5000000000 < fu) {Q : Int → IMem → Prop} (hk : ∀ w I, (w = 0 ∨ w = 1) → GX o0 I → I o0 9 = Ib o0 9 → (∀ j, I (o0 + 1) j = Ib (o0 + 1) j) → 0 ≤ I o0 10 ∧ I o0 10 ≤ 16 → (w = 1 → PI o0 I ∧ ∀ i : Nat, (i : Int) < I o0 10 → LR o0 I i) → sat (K w I) Q) : ∀ (m : Nat) (w : Int) (I : IMem), (w = 0 ∨ w = 1) → GX o0 I → I o0 9 = Ib o0 9 → (∀ j, I (o0 + 1) j = Ib (o0 + 1) j) → 0 ≤ I o0 10 ∧ I o0 10 ≤ 16 → (w = 1 → PI o0 I ∧ ∀ i : Nat, (i : Int) < I o0 10 → LR o0 I i) → (if w = 0 then 0 else (400 - I o0 15).toNat) < m → sat (f_X_text_57 fu K o0 a1 m w I) Q := by
  intro m
  induction m with
  | zero => intro w I _ _ _ _ _ _ h0; exact absurd h0 (Nat.not_lt_zero _)
  | succ m ih =>
    intro w I hw hI h9 h1 h10 hp hm
    show sat (fb_X_text_57 fu K o0 a1 (f_X_text_57 fu K o0 a1 m) w I) Q
    unfold fb_X_text_57
    refine sat_ite (fun q => hk w I hw hI h9 h1 h10 hp) (fun q => ?_)
    refine sat_ite (fun q2 => hk w I hw hI h9 h1 h10 hp) (fun q2 => ?_)
    have hw1 := hw.resolve_left q
    obtain ⟨hpi, hl⟩ := hp hw1
    rw [if_neg q] at hm
    have hgt := gx_t hI
    have t4 := hpi.1.2.2.2 q2
    have t3 := hpi.1.2.2.1
    refine sat_zb (ok_X_aLine fu o0 I hfu hI hpi h10 hl) (fun y I13 c1 ⟨qy, hRI13, b13, p13⟩ => ?_)
    have f13 : ∀ q j, ¬ (q = o0 + 4 ∨ q = o0 + 5 ∨ (q = o0 ∧ (j = 11 ∨ j = 13 ∨ j = 14 ∨ j = 15 ∨ j = 16 ∨ j = 17 ∨ j = 18 ∨ j = 20))) → I13 q j = I q j := fc_X_aLine (fun q j => q = o0 + 4 ∨ q = o0 + 5 ∨ (q = o0 ∧ (j = 11 ∨ j = 13 ∨ j = 14 ∨ j = 15 ∨ j = 16 ∨ j = 17 ∨ j = 18 ∨ j = 20))) fu o0 I (fun j => Or.inl rfl) (fun j => Or.inr (Or.inl rfl)) (by simp) (by simp) (by simp) (by simp) (by simp) (by simp) (by simp) (by simp) c1
    have e1310 : I13 o0 10 = I o0 10 := f13 _ _ (by omega)
    have e139 : I13 o0 9 = I o0 9 := f13 _ _ (by omega)
    refine sat_zj (fun k15 ek15 => ?_)
    subst ek15
    have hk15 : ∀ x17 : Int, x17 = y → sat (zw I13 o0 10 (wr32 ((I13 o0 10) + x17)) fun I18 => f_X_text_57 fu K o0 a1 m y I18) Q := by
      intro x17 hx
      subst hx
      refine sat_zwX0 hRI13 (wr32_in _) (by omega) (fun I18 e18 hRI18 => ?_)
      rw [e1310] at e18
      have e10 : I18 o0 10 = I o0 10 + x17 := by rw [e18, if_pos ⟨rfl, rfl⟩, wr32_i2 (by omega) (by omega)]
      have g18 : ∀ q j, ¬ (q = o0 ∧ j = 10) → I18 q j = I13 q j := fun q j hq => by rw [e18, if_neg hq]
      refine ih x17 I18 b13 hRI18 (by rw [g18 _ _ (by omega), e139, h9]) (fun j => by rw [g18 _ _ (by omega), f13 _ _ (by omega), h1]) ?_ (fun w1 => ?_) ?_
      · rcases b13 with z | z
        · omega
        · have := (p13 z).2.2.1; omega
      · obtain ⟨⟨tk, s1, s2⟩, p15, p16, prow⟩ := p13 w1
        obtain ⟨u1, u2, u3, u4⟩ := tk
        refine ⟨⟨⟨by rw [g18 _ _ (by omega)]; exact u1, by rw [g18 o0 15 (by omega), g18 o0 13 (by omega)]; exact u2, by rw [g18 o0 13 (by omega), g18 o0 12 (by omega)]; exact u3, by rw [g18 o0 14 (by omega), g18 o0 15 (by omega), g18 o0 13 (by omega)]; exact u4⟩, by rw [g18 _ _ (by omega)]; exact s1, by rw [g18 o0 11 (by omega), g18 o0 15 (by omega)]; exact s2⟩, fun i hi => ?_⟩
        exact LR_eq (I := I13) (fun j _ _ => g18 _ _ (by omega)) (g18 _ _ (by omega)) (by rw [g18 _ _ (by omega)]; exact Int.le_refl _) (fun j _ => g18 _ _ (by omega)) (prow i (by omega))
      · split
        · omega
        · rename_i z
          have := (p13 (b13.resolve_left z)).2.1
          rw [g18 o0 15 (by omega)]
          omega
    exact sat_ite (fun z => hk15 0 z.symm) (fun z => hk15 1 (b13.resolve_left z).symm)
theorem ok_X_text (fu : Nat) (o0 : Nat) (a1 : Int) (I0 : IMem) (hfu : 5000000000 < fu) (hRI0 : GX o0 I0) (qa1 : inr a1) : sat (f_X_text fu o0 a1 I0) (fun v I => inr v ∧ GX o0 I ∧ ∀ j, j < 1580 → I (o0 + 1) j = I0 (o0 + 1) j) := by
  unfold f_X_text
  refine sat_zwX0 hRI0 (lit_in rfl) (by omega) (fun I1 e1 hRI1 => ?_)
  refine sat_zb (ok_X_isIn fu a1 0 4 I1 hfu hRI1.1 qa1 (lit_in rfl) (lit_in rfl)) (fun y1 I2 c1 ⟨⟨ay1, by1⟩, _, pI2⟩ => ?_)
  have eI2 := pI2.1.symm; replace pI2 := pI2.2; subst eI2
  refine sat_ite (fun q => ?_) (fun q => ?_)
  · refine sat_zwX0 hRI1 (lit_in rfl) (by omega) (fun I46 e46 hRI46 => ?_)
    refine sat_zwX0 hRI46 (lit_in rfl) (by omega) (fun I47 e47 hRI47 => ?_)
    refine sat_zwX0 hRI47 (lit_in rfl) (by omega) (fun I48 e48 hRI48 => ?_)
    exact sat_zr ⟨lit_in rfl, hRI48, fun j _ => by rw [e48, if_neg (by omega), e47, if_neg (by omega), e46, if_neg (by omega), e1, if_neg (by omega)]⟩
  · have ha : 0 ≤ a1 ∧ a1 ≤ 4 := pI2.2.1 (by have := pI2.1; omega)
    obtain ⟨A, hA⟩ : ∃ A : Nat, a1 = A := ⟨a1.toNat, by omega⟩
    subst hA
    refine sat_zwX0 hRI1 qa1 (by omega) (fun I5 e5 hRI5 => ?_)
    refine sat_zwX0 hRI5 (lit_in rfl) (by omega) (fun I6 e6 hRI6 => ?_)
    refine sat_zwX0 hRI6 (lit_in rfl) (by omega) (fun I7 e7 hRI7 => ?_)
    refine sat_zwX0 hRI7 (lit_in rfl) (by omega) (fun I8 e8 hRI8 => ?_)
    have hgt := gx_t hRI8
    have e813 : I8 o0 13 = 0 := by rw [e8, if_neg (by omega), e7, if_neg (by omega), e6, if_pos ⟨rfl, rfl⟩]
    have e810 : I8 o0 10 = 0 := by rw [e8, if_neg (by omega), e7, if_pos ⟨rfl, rfl⟩]
    have e811 : I8 o0 11 = 0 := by rw [e8, if_pos ⟨rfl, rfl⟩]
    have e89 : I8 o0 9 = A := by rw [e8, if_neg (by omega), e7, if_neg (by omega), e6, if_neg (by omega), e5, if_pos ⟨rfl, rfl⟩]
    have b1 : ∀ j, I8 (o0 + 1) j = I0 (o0 + 1) j := fun j => by rw [e8, if_neg (by omega), e7, if_neg (by omega), e6, if_neg (by omega), e5, if_neg (by omega), e1, if_neg (by omega)]
    refine sat_zb (ok_X_next0 fu o0 I8 hfu hRI8 ⟨by omega, by omega⟩) (fun u I10 cn ⟨_, hRI10, pn⟩ => ?_)
    have f10 : ∀ q j, ¬ (q = o0 ∧ (j = 13 ∨ j = 14 ∨ j = 15 ∨ j = 16)) → I10 q j = I8 q j := fc_X_next0 (fun q j => q = o0 ∧ (j = 13 ∨ j = 14 ∨ j = 15 ∨ j = 16)) fu o0 I8 (by simp) (by simp) (by simp) (by simp) cn
    have tk10 : TK o0 I10 := ⟨pn.1, pn.2.1, pn.2.2.1, pn.2.2.2.1⟩
    have e1010 : I10 o0 10 = 0 := by rw [f10 _ _ (by omega), e810]
    have e1011 : I10 o0 11 = 0 := by rw [f10 _ _ (by omega), e811]
    have e109 : I10 o0 9 = A := by rw [f10 _ _ (by omega), e89]
    refine ok_text57 fu _ o0 (A : Int) I10 hfu ?_ fu 1 I10 (Or.inr rfl) hRI10 rfl (fun _ => rfl) (by omega) (fun _ => ⟨⟨tk10, by omega, by have := tk10.1; omega⟩, fun i hi => by omega⟩) (by rw [if_neg (by decide)]; have := tk10.1; omega)
    intro x20 I19 hx hRI19 h9 h1 h10 hp
    have hgt19 := gx_t hRI19
    refine sat_zwX0 hRI19 (lit_in rfl) (by omega) (fun I21 e21 hRI21 => ?_)
    refine sat_zwX0 hRI21 (hRI21.1 _ _) (by omega) (fun I22 e22 hRI22 => ?_)
    refine sat_zj (fun k23 ek23 => ?_)
    have hk23 : ∀ x25, inr x25 → sat (k23 x25 I22) (fun v I => inr v ∧ GX o0 I ∧ ∀ j, j < 1580 → I (o0 + 1) j = I0 (o0 + 1) j) := by
      intro x25 qx
      subst ek23
      refine sat_zwX0 hRI22 qx (by omega) (fun I26 e26 hRI26 => ?_)
      have g26 : ∀ q j, ¬ (q = o0 ∧ (j = 12 ∨ j = 19 ∨ j = 21)) → I26 q j = I19 q j := fun q j hq => by rw [e26, if_neg (by omega), e22, if_neg (by omega), e21, if_neg (by omega)]
      have b26 : ∀ j, I26 (o0 + 1) j = I0 (o0 + 1) j := fun j => by rw [g26 _ _ (by omega), h1, f10 _ _ (by omega), b1]
      refine sat_ite (fun z => sat_zr ⟨lit_in rfl, hRI26, fun j _ => b26 j⟩) (fun z => ?_)
      obtain ⟨⟨⟨u1, u2, u3, u4⟩, s1, s2⟩, hl⟩ := hp (hx.resolve_left z)
      refine sat_zl (wr32_in _) (fun x28 hx28 _ _ => ?_)
      rw [wr32_i2 (by omega) (by omega)] at hx28
      refine sat_zg (by omega) (fun _ => ?_)
      refine sat_zw hRI26.1 (hRI26.1 _ _) (fun I27 e27 hr27 => ?_)
      have d10 : I26 o0 10 = I19 o0 10 := g26 _ _ (by omega)
      have d11 : I26 o0 11 = I19 o0 11 := g26 _ _ (by omega)
      have d9 : I26 o0 9 = A := by rw [g26 _ _ (by omega), h9, e109]
      have hb : PBx o0 A I26 := ⟨by omega, hRI26, d9, by omega, by omega, by omega, by omega, fun i hi => LR_eq (I := I19) (fun j _ _ => g26 _ _ (by omega)) (g26 _ _ (by omega)) (by omega) (fun j _ => g26 _ _ (by omega)) (hl i (by omega))⟩
      have hpr : PR o0 A I26 0 0 I27 := ⟨hr27, fun q j hq => by rw [e27, if_neg (fun z => hq z.1)], by rw [e27, if_pos ⟨rfl, by omega⟩], fun j hj => by rw [e27, if_neg (fun z => hj (by unfold DA; omega))], fun i hi => by omega, fun j hj => by omega⟩
      refine sat_mono (ok_text145 fu o0 A I26 hfu hb fu 0 I27 (Int.le_refl _) hpr (by omega) (by omega)) (fun v I h => ⟨h.1, h.2.1, fun j hj => by rw [h.2.2 j hj, b26]⟩)
    clear ek23
    exact sat_ite (fun _ => hk23 _ (hRI22.1 _ _)) (fun _ => hk23 _ (lit_in rfl))
