/-! counting, picks, fillings -/
def cnt (f : Nat → Int) : Nat → Int
  | 0 => 0
  | n + 1 => cnt f n + (if f n = 0 then 0 else 1)
theorem cnt_s (f : Nat → Int) (w : Int) (h : 0 ≤ w) : cnt f (w + 1).toNat = cnt f w.toNat + (if f w.toNat = 0 then 0 else 1) := by
  rw [show (w + 1).toNat = w.toNat + 1 by omega]; rfl
theorem cnt_nn (f : Nat → Int) : ∀ n, 0 ≤ cnt f n ∧ cnt f n ≤ n := by
  intro n
  induction n with
  | zero => exact ⟨Int.le_refl _, Int.le_refl _⟩
  | succ n ih =>
    show 0 ≤ cnt f n + (if f n = 0 then 0 else 1) ∧ cnt f n + (if f n = 0 then 0 else 1) ≤ _
    split <;> omega
theorem cnt_eq {f g : Nat → Int} : ∀ n : Nat, (∀ k, k < n → f k = g k) → cnt f n = cnt g n := by
  intro n
  induction n with
  | zero => intro _; rfl
  | succ n ih =>
    intro h
    show cnt f n + (if f n = 0 then 0 else 1) = cnt g n + (if g n = 0 then 0 else 1)
    rw [ih (fun k hk => h k (by omega)), h n (by omega)]
/-- one more is marked -/
theorem cnt_mark {f g : Nat → Int} {i : Nat} (hf : f i = 0) (hg : g i ≠ 0) (h : ∀ k, k ≠ i → g k = f k) : ∀ n : Nat, cnt g n = cnt f n + (if i < n then 1 else 0) := by
  intro n
  induction n with
  | zero => rfl
  | succ n ih =>
    show cnt g n + (if g n = 0 then 0 else 1) = cnt f n + (if f n = 0 then 0 else 1) + _
    rw [ih]
    by_cases e : n = i
    · subst e
      rw [if_neg hg, if_pos hf, if_neg (by omega), if_pos (by omega)]
    · rw [h n e]
      have e2 : (if i < n then (1 : Int) else 0) = if i < n + 1 then 1 else 0 := by
        by_cases q : i < n
        · rw [if_pos q, if_pos (by omega)]
        · rw [if_neg q, if_neg (by omega)]
      rw [e2]
      omega
theorem cnt_lt {f : Nat → Int} {i : Nat} (hf : f i = 0) : ∀ n : Nat, i < n → cnt f n + 1 ≤ n := by
  intro n
  induction n with
  | zero => intro h; omega
  | succ n ih =>
    intro h
    show cnt f n + (if f n = 0 then 0 else 1) + 1 ≤ _
    have := cnt_nn f n
    by_cases e : n = i
    · subst e; rw [if_pos hf]; omega
    · have := ih (by omega); split <;> omega
/-- the picks -/
def PC (o : Nat) (I : IMem) : Prop := (∀ k, k < 240 → I (o + 13) k ≠ 0 → 1 ≤ I (o + 1) (141 + 6 * k)) ∧ I o 35 ≤ cnt (I (o + 13)) 240
theorem pc_pick {o : Nat} {I I1 : IMem} {x : Int} (h : PC o I) (hx : 0 ≤ x ∧ x < 240) (h0 : I (o + 13) x.toNat = 0) (hs : 1 ≤ I (o + 1) (141 + 6 * x.toNat)) (h1 : ∀ k, I1 (o + 13) k = if k = x.toNat then 1 else I (o + 13) k) (h2 : ∀ k, I1 (o + 1) k = I (o + 1) k) (h3 : I1 o 35 = I o 35 + 1) : PC o I1 := by
  refine ⟨fun k hk hn => ?_, ?_⟩
  · rw [h2]
    by_cases e : k = x.toNat
    · rw [e]; exact hs
    · rw [h1, if_neg e] at hn; exact h.1 k hk hn
  · have := h.2
    rw [h3, cnt_mark (f := I (o + 13)) (g := I1 (o + 13)) (i := x.toNat) h0 (by rw [h1, if_pos rfl]; decide) (fun k hk => by rw [h1, if_neg hk]) 240, if_pos (by omega)]
    omega
/-- marked: sits or was found out -/
def mk (o : Nat) (I : IMem) : Nat → Int := fun k => if I (o + 9) k = 0 ∧ I (o + 12) k = 0 then 0 else 1
theorem mk_0 {o : Nat} {I : IMem} {k : Nat} (h9 : I (o + 9) k = 0) (h12 : I (o + 12) k = 0) : mk o I k = 0 := if_pos ⟨h9, h12⟩
theorem mk_up {o : Nat} {I I1 : IMem} {x : Nat} (h9 : I (o + 9) x = 0) (h12 : I (o + 12) x = 0) (h : ∀ k, k ≠ x → I1 (o + 9) k = I (o + 9) k ∧ I1 (o + 12) k = I (o + 12) k) (hx : I1 (o + 9) x ≠ 0 ∨ I1 (o + 12) x ≠ 0) (hl : x < 240) : cnt (mk o I1) 240 = cnt (mk o I) 240 + 1 := by
  rw [cnt_mark (f := mk o I) (g := mk o I1) (i := x) (mk_0 h9 h12) (by unfold mk; rw [if_neg (fun q => hx.elim (fun z => z q.1) (fun z => z q.2))]; decide) (fun k hk => by unfold mk; rw [(h k hk).1, (h k hk).2]) 240, if_pos hl]
theorem mk_same {o : Nat} {I I1 : IMem} (h9 : ∀ k, I1 (o + 9) k = I (o + 9) k) (h12 : ∀ k, I1 (o + 12) k = I (o + 12) k) : cnt (mk o I1) 240 = cnt (mk o I) 240 := cnt_eq 240 (fun k _ => by unfold mk; rw [h9, h12])
/-- what a chair that goes must be like -/
def FS (o : Nat) (I : IMem) : Prop :=
  (0 ≤ I o 31 ∧ I o 31 ≤ 8 ∧ 0 ≤ I o 32 ∧ I o 32 ≤ 240) ∧
  (∀ i : Nat, (i : Int) < I o 31 → 0 ≤ I (o + 11) i ∧ I (o + 11) i < 240) ∧
  (∀ i : Nat, (i : Int) < I o 32 → 0 ≤ I (o + 10) i ∧ I (o + 10) i < 240 ∧ 1 ≤ I (o + 1) (141 + 6 * (I (o + 10) i).toNat)) ∧
  (∀ k, k < 240 → 0 ≤ I (o + 9) k ∧ I (o + 9) k ≤ I (o + 1) (141 + 6 * k) ∧ I (o + 9) k ≤ 8)
theorem fs_same {o : Nat} {I I1 : IMem} (h : FS o I) (h1 : ∀ k, k < 240 → I1 (o + 1) (141 + 6 * k) = I (o + 1) (141 + 6 * k)) (h9 : ∀ k, I1 (o + 9) k = I (o + 9) k) (h10 : ∀ k, I1 (o + 10) k = I (o + 10) k) (h11 : ∀ k, I1 (o + 11) k = I (o + 11) k) (h31 : I1 o 31 = I o 31) (h32 : I1 o 32 = I o 32) : FS o I1 := by
  obtain ⟨a, b, c, d⟩ := h
  refine ⟨by rw [h31, h32]; exact a, fun i hi => ?_, fun i hi => ?_, fun k hk => ?_⟩
  · rw [h31] at hi; rw [h11]; exact b i hi
  · rw [h32] at hi; have := c i hi; rw [h10, h1 _ (by omega)]; exact this
  · rw [h9, h1 k hk]; exact d k hk
/-- one more sits -/
theorem fs_take {o : Nat} {I I1 : IMem} {x v : Int} (h : FS o I) (ht : I o 31 < 8) (hx : 0 ≤ x ∧ x < 240) (hv : 0 ≤ v ∧ v ≤ I (o + 1) (141 + 6 * x.toNat) ∧ v ≤ 8) (h1 : ∀ k, I1 (o + 1) k = I (o + 1) k) (h9 : ∀ k, I1 (o + 9) k = if k = x.toNat then v else I (o + 9) k) (h10 : ∀ k, I1 (o + 10) k = I (o + 10) k) (h11 : ∀ k, I1 (o + 11) k = if k = (I o 31).toNat then x else I (o + 11) k) (h31 : I1 o 31 = I o 31 + 1) (h32 : I1 o 32 = I o 32) : FS o I1 := by
  obtain ⟨a, b, c, d⟩ := h
  refine ⟨by rw [h31, h32]; omega, fun i hi => ?_, fun i hi => ?_, fun k hk => ?_⟩
  · rw [h31] at hi; rw [h11]
    split
    · exact hx
    · exact b i (by omega)
  · rw [h32] at hi; have := c i hi; rw [h10, h1]; exact this
  · rw [h9, h1]
    split
    · rename_i e; rw [e]; exact hv
    · exact d k hk
/-- one more is found out -/
theorem fs_found {o : Nat} {I I1 : IMem} {x : Int} (h : FS o I) (ht : I o 32 < 240) (hx : 0 ≤ x ∧ x < 240) (hv : 1 ≤ I (o + 1) (141 + 6 * x.toNat)) (h1 : ∀ k, k < 240 → I1 (o + 1) (141 + 6 * k) = I (o + 1) (141 + 6 * k)) (h9 : ∀ k, I1 (o + 9) k = I (o + 9) k) (h10 : ∀ k, I1 (o + 10) k = if k = (I o 32).toNat then x else I (o + 10) k) (h11 : ∀ k, I1 (o + 11) k = I (o + 11) k) (h31 : I1 o 31 = I o 31) (h32 : I1 o 32 = I o 32 + 1) : FS o I1 := by
  obtain ⟨a, b, c, d⟩ := h
  refine ⟨by rw [h31, h32]; omega, fun i hi => ?_, fun i hi => ?_, fun k hk => ?_⟩
  · rw [h31] at hi; rw [h11]; exact b i hi
  · rw [h32] at hi; rw [h10]
    split
    · rw [h1 _ (by omega)]; exact ⟨hx.1, hx.2, hv⟩
    · have := c i (by omega); rw [h1 _ (by omega)]; exact this
  · rw [h9, h1 k hk]; exact d k hk
/-- the filling under way -/
def FV (o : Nat) (I : IMem) : Prop := FS o I ∧ 0 ≤ I o 30 ∧ I o 31 + I o 30 ≤ 8 ∧ I o 32 + I o 31 ≤ cnt (mk o I) 240
/-- who sits of a line is no more than stands there -/
def ST (o : Nat) (l : Int) (I : IMem) : Prop := ∀ p : Int, 0 ≤ p → p < 40 → 0 ≤ I (o + 9) (40 * l + p).toNat ∧ I (o + 9) (40 * l + p).toNat ≤ I (o + 1) (141 + 6 * (40 * l + p)).toNat
theorem fs_0 {o : Nat} {I : IMem} (h : GX o I) (h31 : I o 31 = 0) (h32 : I o 32 = 0) (h9 : ∀ k, k < 240 → I (o + 9) k = 0) : FS o I := by
  refine ⟨by rw [h31, h32]; decide, fun i hi => ?_, fun i hi => ?_, fun k hk => ?_⟩
  · rw [h31] at hi; omega
  · rw [h32] at hi; omega
  · have := gx_rows h (141 + 6 * k) (by omega) (by omega) (by omega)
    rw [h9 k hk]
    omega
theorem fv_0 {o : Nat} {I : IMem} (h : GX o I) (h31 : I o 31 = 0) (h32 : I o 32 = 0) (h30 : 0 ≤ I o 30 ∧ I o 30 ≤ 8) (h9 : ∀ k, k < 240 → I (o + 9) k = 0 ∧ I (o + 12) k = 0) : FV o I := by
  refine ⟨fs_0 h h31 h32 (fun k hk => (h9 k hk).1), h30.1, by omega, ?_⟩
  have := (cnt_nn (mk o I) 240).1
  omega
