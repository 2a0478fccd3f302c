/-! rows of the law -/
section AML
variable {l : Launch} {b : PB} {R : Room} {y : MI} {m1 m2 : Mem} {pc : Nat} {lv st : List Value}
abbrev LVn (n : Nat) : List Value := [.ref 1000, .ref 0, .ref 166, .int (nI (6 * n))]
def axX (b : PB) (j : Nat) : Int := (scX b j).toInt
theorem ax_in {b : PB} {j : Nat} : inr (axX b j) := toInt_in _
theorem bw_arg {n j : Nat} {c : Int} (hL : scL b ≤ 3072) (hn : 6 * n + 6 ≤ scL b) (hi : n < 512) (hj : j < 6) (hc : Int32.ofInt c = nI j) (d0 : decode y.2.1 pc = .ok (.aload_n 0, 1)) (d1 : decode y.2.1 (pc + 1) = .ok (.iload_n 3, 1)) (d2 : decode y.2.1 (pc + 1 + 1) = .ok (.iconst c, 1)) (d3 : decode y.2.1 (pc + 1 + 1 + 1) = .ok (.iadd, 1)) (d4 : decode y.2.1 (pc + 1 + 1 + 1 + 1) = .ok (.iaload, 1))
    (k : BW l b R y m1 m2 (pc + 5) (LVn n) (.int (iv (axX b (6 * n + j))) :: st)) : BW l b R y m1 m2 pc (LVn n) st := by
  refine bw_aload_n rfl rfl d0 ?_
  refine bw_iload_n rfl rfl d1 ?_
  refine bw_iconst hc d2 ?_
  refine bw_iaddN d3 ?_
  have k2 : BW l b R y m1 m2 (pc + 5) (LVn n) (.int (scX b (6 * n + j)) :: st) := by
    have e : iv (axX b (6 * n + j)) = scX b (6 * n + j) := iv_of _
    rw [← e]; exact k
  exact bw_ialdS (j := 6 * n + j) (nI_in (by omega) (by omega)) (nI_clamp (by omega)) d4 k2
theorem sum_K : KC.length + KM.length = 192 ∧ sl KC + sl KM = 58489 := by decide +kernel
theorem len_C : KC.length = 166 := by decide +kernel
theorem len_M : KM.length = 26 := by decide +kernel
theorem sl_C : sl KC = 25756 := by decide +kernel
theorem sl_M : sl KM = 32733 := by decide +kernel
theorem bw_mC {y' : MI} {as : List Value} {r : Int × IMem} {idx n d' : Nat} {I J : IMem} (hg : gp b = 0) (hc0 : ct b = 166) (hm : MOk y' n) (hlk : LkV y.1.cls idx y') (hn : as.length = n) (hq : "SinglesUp" = y'.1.cls) (hR1 : d' + 1 ≤ R.frames) (hR2 : 8 + (y'.2.2.1 + 11) + 40 * d' ≤ R.locals) (hw : Nat.ble ((st.map fun v => v.category).sum) 8 = true) (hcat : as.all (fun v => v.category == 1) = true) (hle : n + 1 ≤ y'.2.2.1) (hd : decode y.2.1 pc = .ok (.invokevirtual idx, 3)) (hb : 192 ≤ R.cells ∧ 58489 ≤ R.slots)
    (hs : Ss l (bG b) d' y' KC RC (.ref 0 :: as) (ivm I) (Ps r)) (hk : inr r.1 → BW l b R y (KC, ivm r.2, RC) (KM, ivm J, RM) (pc + 3) lv (.int (iv r.1) :: st)) : BW l b R y (KC, ivm I, RC) (KM, ivm J, RM) pc lv (as.reverse ++ .ref 0 :: st) :=
  bw_callC (m1 := (KC, ivm I, RC)) (m2 := (KM, ivm J, RM)) (ci := 8) (nf := 9) (q := ("SinglesUp", zT8, 9)) (R := R) hg hc0 len_C len_M hm hlk hn rfl rfl hq ⟨hR1, hR2⟩ (Nat.le_of_ble_eq_true hw) (cat_all hcat) hle (Nat.le_trans (Nat.le_of_eq sum_K.1) hb.1) (Nat.le_trans (Nat.le_of_eq sum_K.2) hb.2) hd hs (fun v m' ⟨J2, e1, e2, e3, e4, _⟩ => by subst e1; subst e2; subst e3; exact ⟨rfl, hk e4⟩)
theorem bw_mM {y' : MI} {as : List Value} {r : Int × IMem} {idx n d' : Nat} {I J : IMem} (hg : gp b = 0) (hc0 : ct b = 166) (hm : MOk y' n) (hlk : LkV y.1.cls idx y') (hn : as.length = n) (hq : "SinglesUpModel" = y'.1.cls) (hAs : as.map (tau (bM b)) = as.map (tau b)) (hR1 : d' + 1 ≤ R.frames) (hR2 : 8 + (y'.2.2.1 + 11) + 40 * d' ≤ R.locals) (hw : Nat.ble ((st.map fun v => v.category).sum) 8 = true) (hcat : as.all (fun v => v.category == 1) = true) (hle : n + 1 ≤ y'.2.2.1) (hd : decode y.2.1 pc = .ok (.invokevirtual idx, 3)) (hb : 192 ≤ R.cells ∧ 58489 ≤ R.slots)
    (hs : Ss l (bM b) d' y' KM RM (.ref 0 :: as) (ivm J) (Ps r)) (hk : inr r.1 → BW l b R y (KC, ivm I, RC) (KM, ivm r.2, RM) (pc + 3) lv (.int (iv r.1) :: st)) : BW l b R y (KC, ivm I, RC) (KM, ivm J, RM) pc lv (as.reverse ++ .ref 166 :: st) :=
  bw_callM (m1 := (KC, ivm I, RC)) (m2 := (KM, ivm J, RM)) (ci := 9) (nf := 51) (q := ("SinglesUpModel", zT9, 51)) (R := R) hg hc0 len_C len_M hm hlk hn rfl hAs rfl hq ⟨hR1, hR2⟩ (Nat.le_of_ble_eq_true hw) (cat_all hcat) hle (Nat.le_trans (Nat.le_of_eq sum_K.1) hb.1) (Nat.le_trans (Nat.le_of_eq sum_K.2) hb.2) hd (fun r m' ⟨_, _, e⟩ => by cases e.1) hs (fun v m' ⟨J2, e1, e2, e3, e4, _⟩ => by subst e1; subst e2; subst e3; exact ⟨rfl, hk e4⟩)
end AML
theorem and31 (x : Int32) : ∃ j : Nat, j < 32 ∧ (x &&& 31).toInt = 0 + (j : Int) := by
  have h1 : (x &&& 31).toBitVec.toNat < 2 ^ 5 := by
    rw [Int32.toBitVec_and, BitVec.toNat_and]
    exact Nat.and_lt_two_pow _ (by decide)
  refine ⟨(x &&& 31).toBitVec.toNat, h1, ?_⟩
  show (x &&& 31).toBitVec.toInt = _
  rw [BitVec.toInt_eq_toNat_of_lt (by omega), Int.zero_add]
theorem cases32 {j : Nat} (h : j < 32) : j = 0 ∨ j = 1 ∨ j = 2 ∨ j = 3 ∨ j = 4 ∨ j = 5 ∨ j = 6 ∨ j = 7 ∨ j = 8 ∨ j = 9 ∨ j = 10 ∨ j = 11 ∨ j = 12 ∨ j = 13 ∨ j = 14 ∨ j = 15 ∨ j = 16 ∨ j = 17 ∨ j = 18 ∨ j = 19 ∨ j = 20 ∨ j = 21 ∨ j = 22 ∨ j = 23 ∨ j = 24 ∨ j = 25 ∨ j = 26 ∨ j = 27 ∨ j = 28 ∨ j = 29 ∨ j = 30 ∨ j = 31 := by omega
theorem lw_sub {L : Nat} (h : L ≤ 3072) : (nI L - nI 6).toInt = (L : Int) - 6 := by
  rw [nI_iv (by omega), nI_iv (n := 6) (by decide), iv_sub, iv_toInt (wr32_in _), wr32_i2 (by omega) (by omega)]
  rfl
