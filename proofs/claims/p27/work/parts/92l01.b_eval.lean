/-! what small queries give -/
theorem zl_e (v : Int) (k : Int → Res) : zl v k = k v := id rfl
theorem zj_e {α : Type} (K : α) (M : α → Res) : zj K M = M K := id rfl
theorem zg_t {c : Prop} [Decidable c] {k : Res} (h : c) : zg c k = k := if_pos h
theorem ev_max (fu : Nat) (a c : Int) (I : IMem) : f_JM_max fu a c I = zr (if a < c then c else a) I := by
  unfold f_JM_max; split <;> rfl
theorem ev_min (fu : Nat) (a c : Int) (I : IMem) : f_JM_min fu a c I = zr (if c < a then c else a) I := by
  unfold f_JM_min; split <;> rfl
theorem ev_isLine (fu : Nat) (a : Int) (I : IMem) : f_S_isLine fu a I = zr (if 0 ≤ a ∧ a < 6 then 1 else 0) I := by
  unfold f_S_isLine
  by_cases h : a < 0
  · rw [if_pos h, if_neg (by omega)]
  · rw [if_neg h]
    by_cases h2 : a < 6
    · rw [if_pos h2, if_pos (by omega)]
    · rw [if_neg h2, if_neg (by omega)]
theorem tn (n : Nat) : ((n : Nat) : Int).toNat = n := Int.toNat_natCast n
theorem ev_get (fu o k f : Nat) (I : IMem) (hk : k < 240) (hf : f < 6) : f_L_get fu o (k : Int) (f : Int) I = zr (I (o + 1) (6 * k + f)) I := by
  unfold f_L_get
  have e : wr32 (wr32 ((k : Int) * 6) + (f : Int)) = ((6 * k + f : Nat) : Int) := by
    rw [wr32_i2 (x := (k : Int) * 6) (by omega) (by omega), wr32_i2 (by omega) (by omega)]; omega
  simp only [zl_e]
  rw [e]
  have h1 : ¬ ((6 * k + f : Nat) : Int) < 0 := by omega
  have h2 : ((6 * k + f : Nat) : Int) < 1440 := by omega
  have h3 : 0 ≤ ((6 * k + f : Nat) : Int) := by omega
  rw [if_neg h1, if_pos h2, zg_t ⟨h3, h2⟩, tn]
theorem ev_has (fu o : Nat) (l : Nat) (p : Int) (I : IMem) (hl : l < 6) : f_L_has fu o (l : Int) p I = zr (if 0 ≤ p ∧ p < I (o + 2) l then 1 else 0) I := by
  unfold f_L_has
  rw [ev_isLine, if_pos (by omega), zb_zr, if_neg (by decide)]
  by_cases h : p < 0
  · rw [if_pos h, if_neg (by omega)]
  · rw [if_neg h]
    unfold zg
    rw [if_pos (by omega)]
    show (if p < I (o + 2) l then zr 1 I else zr 0 I) = _
    by_cases h2 : p < I (o + 2) l
    · rw [if_pos h2, if_pos (by omega)]
    · rw [if_neg h2, if_neg (by omega)]
theorem ev_countOf (fu o l : Nat) (I : IMem) (hl : l < 6) (hc : I (o + 2) l ≤ 40) : f_L_countOf fu o (l : Int) I = zr (I (o + 2) l) I := by
  unfold f_L_countOf
  rw [ev_isLine, if_pos (by omega), zb_zr, if_neg (by decide)]
  unfold zg
  rw [if_pos (by omega), ev_min, zb_zr]
  show zr (if 40 < I (o + 2) l then 40 else I (o + 2) l) I = _
  rw [if_neg (by omega)]
theorem ev_isIn (fu : Nat) (v a c : Int) (I : IMem) : f_X_isIn fu v a c I = zr (if a ≤ v ∧ v ≤ c then 1 else 0) I := by
  unfold f_X_isIn
  by_cases h : v < a
  · rw [if_pos h, if_neg (by omega)]
  · rw [if_neg h]
    by_cases h2 : c < v
    · rw [if_pos h2, if_neg (by omega)]
    · rw [if_neg h2, if_pos (by omega)]
theorem ev_xLine (fu : Nat) (a : Int) (I : IMem) : f_X_isLine fu a I = zr (if 0 ≤ a ∧ a < 6 then 1 else 0) I := by
  unfold f_X_isLine
  rw [ev_isIn, zb_zr]
  by_cases h : 0 ≤ a ∧ a < 6
  · rw [if_pos h, if_pos (by omega)]; rfl
  · rw [if_neg h, if_neg (by omega)]; rfl
theorem ev_cell (fu l p : Nat) (I : IMem) (hl : l < 6) (hp : p < 41) : f_X_cell fu (l : Int) (p : Int) I = zr ((140 + 6 * (40 * l + p) : Nat) : Int) I := by
  unfold f_X_cell
  rw [wr32_i2 (x := 40 * (l : Int)) (by omega) (by omega), wr32_i2 (x := 40 * (l : Int) + (p : Int)) (by omega) (by omega), wr32_i2 (x := 6 * (40 * (l : Int) + (p : Int))) (by omega) (by omega), wr32_i2 (by omega) (by omega)]
  congr 1
theorem ev_of (fu o l p f : Nat) (I : IMem) (hl : l < 6) (hp : p < 40) (hf : f < 6) : f_X_of fu o (l : Int) (p : Int) (f : Int) I = zr (I (o + 1) (140 + 6 * (40 * l + p) + f)) I := by
  unfold f_X_of
  rw [ev_cell fu l p I hl (by omega), zb_zr]
  have e : wr32 (((140 + 6 * (40 * l + p) : Nat) : Int) + (f : Int)) = ((140 + 6 * (40 * l + p) + f : Nat) : Int) := by
    rw [wr32_i2 (by omega) (by omega)]; omega
  simp only [zl_e]
  rw [e]
  have h1 : 0 ≤ ((140 + 6 * (40 * l + p) + f : Nat) : Int) := by omega
  have h2 : ((140 + 6 * (40 * l + p) + f : Nat) : Int) < 6190 := by omega
  rw [zg_t ⟨h1, h2⟩, tn]
theorem ev_get0 (fu o k : Nat) (I : IMem) (hk : k < 240) : f_L_get fu o (k : Int) 0 I = zr (I (o + 1) (6 * k + 0)) I := ev_get fu o k 0 I hk (by decide)
theorem ev_of0 (fu o l p : Nat) (I : IMem) (hl : l < 6) (hp : p < 40) : f_X_of fu o (l : Int) (p : Int) 0 I = zr (I (o + 1) (140 + 6 * (40 * l + p) + 0)) I := ev_of fu o l p 0 I hl hp (by decide)
theorem ev_get1 (fu o k : Nat) (I : IMem) (hk : k < 240) : f_L_get fu o (k : Int) 1 I = zr (I (o + 1) (6 * k + 1)) I := ev_get fu o k 1 I hk (by decide)
theorem ev_of1 (fu o l p : Nat) (I : IMem) (hl : l < 6) (hp : p < 40) : f_X_of fu o (l : Int) (p : Int) 1 I = zr (I (o + 1) (140 + 6 * (40 * l + p) + 1)) I := ev_of fu o l p 1 I hl hp (by decide)
theorem ev_get2 (fu o k : Nat) (I : IMem) (hk : k < 240) : f_L_get fu o (k : Int) 2 I = zr (I (o + 1) (6 * k + 2)) I := ev_get fu o k 2 I hk (by decide)
theorem ev_of2 (fu o l p : Nat) (I : IMem) (hl : l < 6) (hp : p < 40) : f_X_of fu o (l : Int) (p : Int) 2 I = zr (I (o + 1) (140 + 6 * (40 * l + p) + 2)) I := ev_of fu o l p 2 I hl hp (by decide)
theorem ev_get3 (fu o k : Nat) (I : IMem) (hk : k < 240) : f_L_get fu o (k : Int) 3 I = zr (I (o + 1) (6 * k + 3)) I := ev_get fu o k 3 I hk (by decide)
theorem ev_of3 (fu o l p : Nat) (I : IMem) (hl : l < 6) (hp : p < 40) : f_X_of fu o (l : Int) (p : Int) 3 I = zr (I (o + 1) (140 + 6 * (40 * l + p) + 3)) I := ev_of fu o l p 3 I hl hp (by decide)
theorem ev_get4 (fu o k : Nat) (I : IMem) (hk : k < 240) : f_L_get fu o (k : Int) 4 I = zr (I (o + 1) (6 * k + 4)) I := ev_get fu o k 4 I hk (by decide)
theorem ev_of4 (fu o l p : Nat) (I : IMem) (hl : l < 6) (hp : p < 40) : f_X_of fu o (l : Int) (p : Int) 4 I = zr (I (o + 1) (140 + 6 * (40 * l + p) + 4)) I := ev_of fu o l p 4 I hl hp (by decide)
theorem ev_get5 (fu o k : Nat) (I : IMem) (hk : k < 240) : f_L_get fu o (k : Int) 5 I = zr (I (o + 1) (6 * k + 5)) I := ev_get fu o k 5 I hk (by decide)
theorem ev_of5 (fu o l p : Nat) (I : IMem) (hl : l < 6) (hp : p < 40) : f_X_of fu o (l : Int) (p : Int) 5 I = zr (I (o + 1) (140 + 6 * (40 * l + p) + 5)) I := ev_of fu o l p 5 I hl hp (by decide)
/-- the law in force: its object -/
theorem ev_law (fu o : Nat) (I : IMem) (h : 0 ≤ I (o + 1) 5 ∧ I (o + 1) 5 ≤ 3) : f_H_lawInForce fu o I = zr ((o + 15 + 5 * (I (o + 1) 5).toNat : Nat) : Int) I := by
  unfold f_H_lawInForce
  simp only [zl_e]
  rw [if_neg (by omega), if_pos (by omega), zg_t (by omega)]
theorem wd40 (k : Nat) (h : k < 240) : wdiv (k : Int) 40 = ((k / 40 : Nat) : Int) := by
  rw [wdiv_i2 (by omega) (by omega) (by decide) (by decide)]; omega
theorem wr40 (k : Nat) (h : k < 240) : wrem (k : Int) 40 = ((k % 40 : Nat) : Int) := by
  rw [wrem_i2 (by omega) (by omega) (by decide) (by decide)]; omega
/-- the groups of a line in the relation's own numbers -/
theorem hl_c {hb wo : Nat} {I J : IMem} (h : HL hb wo I J) {l : Nat} (hl : l < 6) : I (hb + 8) l = J wo (130 + l) ∧ 0 ≤ J wo (130 + l) ∧ J wo (130 + l) ≤ 40 := ⟨(h l hl).1, (h l hl).2.1.1, (h l hl).2.1.2⟩
theorem hl_r {hb wo : Nat} {I J : IMem} (h : HL hb wo I J) {l p f : Nat} (hl : l < 6) (hp : (p : Int) < J wo (130 + l)) (hf : f < 6) : I (hb + 7) (6 * (40 * l + p) + f) = J wo (140 + 6 * (40 * l + p) + f) := (h l hl).2.2 p f hp hf
