/-! the law's cases -/
section AML
variable {l : Launch} {b : PB} {R : Room} {y : MI} {m1 m2 : Mem} {pc : Nat} {lv st : List Value}
theorem bw_arg {j : Nat} {c : Int} (hL : scL b = 6) (hj : j < 6) (hc : Int32.ofInt c = nI j) (d0 : decode y.2.1 pc = .ok (.aload_n 0, 1)) (d1 : decode y.2.1 (pc + 1) = .ok (.iload_n 3, 1)) (d2 : decode y.2.1 (pc + 1 + 1) = .ok (.iconst c, 1)) (d3 : decode y.2.1 (pc + 1 + 1 + 1) = .ok (.iadd, 1)) (d4 : decode y.2.1 (pc + 1 + 1 + 1 + 1) = .ok (.iaload, 1)) (h0 : lv[0]? = some (.ref 1000)) (h3 : lv[3]? = some (.int (nI 0)))
    (k : BW l b R y m1 m2 (pc + 5) lv (.int (scX b j) :: st)) : BW l b R y m1 m2 pc lv st := by
  refine bw_aload_n rfl h0 d0 ?_
  refine bw_iload_n rfl h3 d1 ?_
  refine bw_iconst hc d2 ?_
  refine bw_iaddN d3 ?_
  rw [Nat.zero_add]
  have hcl : (nI j).toNatClampNeg = j := by
    rcases (show j = 0 ∨ j = 1 ∨ j = 2 ∨ j = 3 ∨ j = 4 ∨ j = 5 by omega) with rfl | rfl | rfl | rfl | rfl | rfl <;> decide
  have hn : ¬ nI j < 0 := by
    rcases (show j = 0 ∨ j = 1 ∨ j = 2 ∨ j = 3 ∨ j = 4 ∨ j = 5 by omega) with rfl | rfl | rfl | rfl | rfl | rfl <;> decide
  refine bw_ialdS (j := j) ?_ hcl d4 k
  rw [hL]
  rintro (h | h)
  · exact hn h
  · rw [hcl] at h; omega
theorem sum_K : KC.length + KM.length = 192 ∧ sl KC + sl KM = 58489 := by decide +kernel
theorem len_C : KC.length = 166 := by decide +kernel
theorem len_M : KM.length = 26 := by decide +kernel
theorem sl_C : sl KC = 25756 := by decide +kernel
theorem sl_M : sl KM = 32733 := by decide +kernel
theorem bw_mC {y' : MI} {as : List Value} {A : Int32} {idx n d' : Nat} {J I : Nat → Nat → Int32} (hg : gp b = 0) (hc0 : ct b = 166) (hm : MOk y' n) (hlk : LkV y.1.cls idx y') (hn : as.length = n) (hq : "SinglesUp" = y'.1.cls) (hR1 : d' + 1 ≤ R.frames) (hR2 : 8 + (y'.2.2.1 + 11) + 40 * d' ≤ R.locals) (hw : Nat.ble ((st.map fun v => v.category).sum) 8 = true) (hcat : as.all (fun v => v.category == 1) = true) (hle : n + 1 ≤ y'.2.2.1) (hd : decode y.2.1 pc = .ok (.invokevirtual idx, 3)) (hb : 192 ≤ R.cells ∧ 58489 ≤ R.slots)
    (hs : Ss l (bG b) d' y' KC RC (.ref 0 :: as) J (fun v _ => v = some (.int A))) (hk : ∀ J2, BW l b R y (KC, J2, RC) (KM, I, RM) (pc + 3) lv (.int A :: st)) : BW l b R y (KC, J, RC) (KM, I, RM) pc lv (as.reverse ++ .ref 0 :: st) :=
  bw_callC (m1 := (KC, J, RC)) (m2 := (KM, I, RM)) (ci := 8) (nf := 9) (q := ("SinglesUp", zT8, 9)) (R := R) hg hc0 len_C len_M hm hlk hn rfl rfl hq ⟨hR1, hR2⟩ (Nat.le_of_ble_eq_true hw) (cat_all hcat) hle (Nat.le_trans (Nat.le_of_eq sum_K.1) hb.1) (Nat.le_trans (Nat.le_of_eq sum_K.2) hb.2) hd hs (fun v m' ⟨J2, e1, e2⟩ => by subst e1; subst e2; exact ⟨rfl, hk J2⟩)
theorem bw_mM {y' : MI} {as : List Value} {A : Int32} {idx n d' : Nat} {J I : Nat → Nat → Int32} (hg : gp b = 0) (hc0 : ct b = 166) (hm : MOk y' n) (hlk : LkV y.1.cls idx y') (hn : as.length = n) (hq : "SinglesUpModel" = y'.1.cls) (hAs : as.map (tau (bM b)) = as.map (tau b)) (hR1 : d' + 1 ≤ R.frames) (hR2 : 8 + (y'.2.2.1 + 11) + 40 * d' ≤ R.locals) (hw : Nat.ble ((st.map fun v => v.category).sum) 8 = true) (hcat : as.all (fun v => v.category == 1) = true) (hle : n + 1 ≤ y'.2.2.1) (hd : decode y.2.1 pc = .ok (.invokevirtual idx, 3)) (hb : 192 ≤ R.cells ∧ 58489 ≤ R.slots)
    (hs : Ss l (bM b) d' y' KM RM (.ref 0 :: as) I (fun v _ => v = some (.int A))) (hk : ∀ I2, BW l b R y (KC, J, RC) (KM, I2, RM) (pc + 3) lv (.int A :: st)) : BW l b R y (KC, J, RC) (KM, I, RM) pc lv (as.reverse ++ .ref 166 :: st) :=
  bw_callM (m1 := (KC, J, RC)) (m2 := (KM, I, RM)) (ci := 9) (nf := 51) (q := ("SinglesUpModel", zT9, 51)) (R := R) hg hc0 len_C len_M hm hlk hn rfl hAs rfl hq ⟨hR1, hR2⟩ (Nat.le_of_ble_eq_true hw) (cat_all hcat) hle (Nat.le_trans (Nat.le_of_eq sum_K.1) hb.1) (Nat.le_trans (Nat.le_of_eq sum_K.2) hb.2) hd (fun r m' ⟨_, _, e⟩ => by cases e) hs (fun v m' ⟨J2, e1, e2⟩ => by subst e1; subst e2; exact ⟨rfl, hk J2⟩)
end AML
theorem and31 (x : Int32) : ∃ j : Nat, j < 32 ∧ (x &&& 31).toInt = 0 + (j : Int) := by
  have h1 : (x &&& 31).toBitVec.toNat < 2 ^ 5 := by
    rw [Int32.toBitVec_and, BitVec.toNat_and]
    exact Nat.and_lt_two_pow _ (by decide)
  refine ⟨(x &&& 31).toBitVec.toNat, h1, ?_⟩
  show (x &&& 31).toBitVec.toInt = _
  rw [BitVec.toInt_eq_toNat_of_lt (by omega), Int.zero_add]
theorem cases32 {j : Nat} (h : j < 32) : j = 0 ∨ j = 1 ∨ j = 2 ∨ j = 3 ∨ j = 4 ∨ j = 5 ∨ j = 6 ∨ j = 7 ∨ j = 8 ∨ j = 9 ∨ j = 10 ∨ j = 11 ∨ j = 12 ∨ j = 13 ∨ j = 14 ∨ j = 15 ∨ j = 16 ∨ j = 17 ∨ j = 18 ∨ j = 19 ∨ j = 20 ∨ j = 21 ∨ j = 22 ∨ j = 23 ∨ j = 24 ∨ j = 25 ∨ j = 26 ∨ j = 27 ∨ j = 28 ∨ j = 29 ∨ j = 30 ∨ j = 31 := by omega
theorem lw_six {L : Nat} (h : L ≤ 6) (q : ¬ nI L - nI 6 < nI 0) : L = 6 := by
  rcases (show L = 0 ∨ L = 1 ∨ L = 2 ∨ L = 3 ∨ L = 4 ∨ L = 5 ∨ L = 6 by omega) with rfl | rfl | rfl | rfl | rfl | rfl | rfl
  · exact absurd (by decide) q
  · exact absurd (by decide) q
  · exact absurd (by decide) q
  · exact absurd (by decide) q
  · exact absurd (by decide) q
  · exact absurd (by decide) q
  · rfl
def an_state (x : Int32) : Int32 := nI 0
def an_set (x z : Int32) : Int32 := if (x.toInt = 0 ∧ 2 ≤ z.toInt ∧ z.toInt ≤ 8) ∨ (x.toInt = 1 ∧ 1 ≤ z.toInt ∧ z.toInt ≤ 99) ∨ (x.toInt = 2 ∧ 0 ≤ z.toInt ∧ z.toInt ≤ 999) ∨ (x.toInt = 3 ∧ 0 ≤ z.toInt ∧ z.toInt ≤ 1000) ∨ (x.toInt = 4 ∧ 0 ≤ z.toInt ∧ z.toInt ≤ 99) ∨ (x.toInt = 5 ∧ 0 ≤ z.toInt ∧ z.toInt ≤ 3) then nI 1 else nI 0
def an_seen (x z : Int32) : Int32 := if 0 ≤ x.toInt ∧ x.toInt < 6 ∧ 1 ≤ z.toInt ∧ z.toInt ≤ 24 then nI 1 else nI 0
def an_parts (x z : Int32) : Int32 := if 2 ≤ x.toInt ∧ x.toInt ≤ 8 ∧ 0 ≤ z.toInt ∧ z.toInt < x.toInt then nI 1 else nI 0
def an_comer (x z u v c : Int32) : Int32 := if 0 ≤ x.toInt ∧ x.toInt < 8 ∧ 1 ≤ z.toInt ∧ z.toInt ≤ 8 ∧ 1 ≤ u.toInt ∧ u.toInt ≤ z.toInt ∧ 0 ≤ v.toInt ∧ v.toInt ≤ 3 ∧ 0 ≤ c.toInt ∧ c.toInt ≤ 1000 then nI 1 else nI 0
def an_feed (x z u v c : Int32) : Int32 := nI 20
def an_end (x : Int32) : Int32 := if x.toInt = 0 then nI 1 else nI 0
def an_text (x : Int32) : Int32 := if 0 ≤ x.toInt ∧ x.toInt ≤ 4 then nI 0 else -1
def an_fault (x : Int32) : Int32 := if x.toInt = 0 then nI 0 else -1
def an_come (x z u : Int32) : Int32 := if 1 ≤ x.toInt ∧ x.toInt ≤ 8 ∧ 1 ≤ z.toInt ∧ z.toInt ≤ x.toInt ∧ 0 ≤ u.toInt ∧ u.toInt ≤ 3 then nI 0 else -2
def an_group (x z u : Int32) : Int32 := if 0 ≤ x.toInt ∧ x.toInt < 6 ∧ 0 ≤ z.toInt ∧ z.toInt < 40 ∧ 0 ≤ u.toInt ∧ u.toInt ≤ 6 then -1 else -1000000
def an_line (x z : Int32) : Int32 := if 0 ≤ x.toInt ∧ x.toInt < 6 ∧ 0 ≤ z.toInt ∧ z.toInt ≤ 1 then nI 0 else -1
def an_pick (x z : Int32) : Int32 := nI 1
def an_send : Int32 := nI 0
def an_chair : Int32 := nI 0
def an_run (x : Int32) : Int32 := if 1 ≤ x.toInt ∧ x.toInt ≤ 60 then nI 0 else -1
def an_last (x : Int32) : Int32 := -1
def an_count (x : Int32) : Int32 := if (0 ≤ x.toInt ∧ x.toInt ≤ 6) ∨ (11 ≤ x.toInt ∧ x.toInt ≤ 38 ∧ 1 ≤ x.toInt % 10 ∧ x.toInt % 10 ≤ 8) then nI 0 else -1
def an_best (x : Int32) : Int32 := if 0 ≤ x.toInt ∧ x.toInt ≤ 1 then nI 0 else -1
def an_look (x : Int32) : Int32 := if 0 ≤ x.toInt ∧ x.toInt < 6 then nI 0 else -1
def an_heap (x z : Int32) : Int32 := if 1 ≤ x.toInt ∧ x.toInt ≤ 8 ∧ 0 ≤ z.toInt ∧ z.toInt ≤ 9 then nI 1 else nI 0
def an_fewest (x : Int32) : Int32 := if 0 ≤ x.toInt ∧ x.toInt ≤ 8 then nI 0 else -1
def an_thought (x z u v c : Int32) : Int32 := if (0 ≤ x.toInt ∧ x.toInt ≤ 3 ∧ 0 ≤ z.toInt ∧ z.toInt ≤ 99 ∧ 2 ≤ u.toInt ∧ u.toInt ≤ 8 ∧ 1 ≤ v.toInt ∧ v.toInt ≤ 40 ∧ 0 ≤ c.toInt ∧ c.toInt ≤ 5) ∧ c.toInt = 0 then nI (v.toInt.toNat * u.toInt.toNat) else if (0 ≤ x.toInt ∧ x.toInt ≤ 3 ∧ 0 ≤ z.toInt ∧ z.toInt ≤ 99 ∧ 2 ≤ u.toInt ∧ u.toInt ≤ 8 ∧ 1 ≤ v.toInt ∧ v.toInt ≤ 40 ∧ 0 ≤ c.toInt ∧ c.toInt ≤ 5) ∧ c.toInt ≠ 0 then nI 0 else -1
def an_price (x z : Int32) : Int32 := if 0 ≤ x.toInt ∧ x.toInt ≤ 99 ∧ 1 ≤ z.toInt ∧ z.toInt ≤ 40 then nI 0 else -1000000
def an_till (x z : Int32) : Int32 := -1
def an_together (x z u v c : Int32) : Int32 := -2
def an_needed (x : Int32) : Int32 := if 1 ≤ x.toInt ∧ x.toInt ≤ 40 then nI 0 else -1
def an_past (x z : Int32) : Int32 := -1
def an_which (x z : Int32) : Int32 := if (1 ≤ x.toInt ∧ x.toInt ≤ 20 ∧ 0 ≤ z.toInt ∧ z.toInt ≤ 2) ∧ z.toInt = 1 then nI (x.toInt.toNat * 4) else if (1 ≤ x.toInt ∧ x.toInt ≤ 20 ∧ 0 ≤ z.toInt ∧ z.toInt ≤ 2) ∧ z.toInt ≠ 1 then nI 0 else -1
def an_folded (x z u : Int32) : Int32 := if 0 ≤ x.toInt ∧ x.toInt < 6 ∧ 1 ≤ z.toInt ∧ z.toInt ≤ 40 ∧ u.toInt = -1 then nI 0 else -1
def an_image_0 : Int32 := nI 0
def an_image_1 : Int32 := nI 1
def an_told (x : Int32) : Int32 := if x.toInt = 0 then nI 4 else if x.toInt = 1 then nI 6 else if x.toInt = 2 then nI 40 else if 3 ≤ x.toInt ∧ x.toInt ≤ 8 then nI 0 else -1
section AMZ
variable {l : Launch} {b : PB}
theorem law_ret {J I : Nat → Nat → Int32} {lv : List Value} (hg : gp b = 0) : BW l b room_1 y_law (KC, J, RC) (KM, I, RM) 1234 lv [] := by
  refine bw_iconst (v := nI 1) (by decide) dw_1234 ?_
  exact bw_ret hg (Nat.le_trans (Nat.le_of_eq sum_K.1) (Nat.le_of_ble_eq_true rfl)) (Nat.le_trans (Nat.le_of_eq sum_K.2) (Nat.le_of_ble_eq_true rfl)) dw_1235
theorem law_end {J I : Nat → Nat → Int32} (hg : gp b = 0) (hL : scL b = 6) : BW l b room_1 y_law (KC, J, RC) (KM, I, RM) 1228 [.ref 1000, .ref 0, .ref 166, .int (nI 0)] [] := by
  refine bw_iinc (x := nI 0) (v := nI 6) (lv2 := [.ref 1000, .ref 0, .ref 166, .int (nI 6)]) rfl (by decide) (Nat.le_of_ble_eq_true rfl) rfl dw_1228 ?_
  refine bw_goto (tgt := 18) (by decide) dw_1231 ?_
  refine bw_iload_n rfl rfl dw_18 ?_
  refine bw_aload_n rfl rfl dw_19 ?_
  refine bw_alenS dw_20 ?_
  refine bw_bipush (v := nI 6) (by decide) dw_21 ?_
  refine bw_isub dw_23 ?_
  refine bw_icmp_gt (tgt := 1234) (by decide) dw_24 (fun _ => law_ret hg) (fun h => absurd (by rw [hL]; decide) h)
theorem law_k0 {J I : Nat → Nat → Int32} (hg : gp b = 0) (hc0 : ct b = 166) (hL : scL b = 6) (hC : FRc J) (hM : FRm I) : BW l b room_1 y_law (KC, J, RC) (KM, I, RM) 176 [.ref 1000, .ref 0, .ref 166, .int (nI 0)] [] := by
  refine bw_aload_n rfl rfl dw_176 ?_
  refine bw_arg (j := 1) hL (by decide) (by decide) dw_177 dw_178 dw_179 dw_180 dw_181 rfl rfl ?_
  refine bw_mC (as := [.int (scX b 1)]) (A := an_state (scX b 1)) (d' := 14) hg hc0 mo_S_state lk_Z_13 rfl rfl (Nat.le_of_ble_eq_true rfl) (Nat.le_of_ble_eq_true rfl) rfl rfl (Nat.le_of_ble_eq_true rfl) dw_182 ⟨Nat.le_of_ble_eq_true rfl, Nat.le_of_ble_eq_true rfl⟩ (cs_state hC (x := scX b 1) (hK := fun _ => rfl)) (fun J2 => ?_)
  refine bw_aload_n rfl rfl dw_185 ?_
  refine bw_arg (j := 1) hL (by decide) (by decide) dw_186 dw_187 dw_188 dw_189 dw_190 rfl rfl ?_
  refine bw_mM (as := [.int (scX b 1)]) (A := an_state (scX b 1)) (d' := 14) hg hc0 mo_X_state lk_Z_17 rfl rfl rfl (Nat.le_of_ble_eq_true rfl) (Nat.le_of_ble_eq_true rfl) rfl rfl (Nat.le_of_ble_eq_true rfl) dw_191 ⟨Nat.le_of_ble_eq_true rfl, Nat.le_of_ble_eq_true rfl⟩ (ms_state hM (x := scX b 1) (hK := fun _ => rfl)) (fun I2 => ?_)
  exact bw_icmp_eq (tgt := 1228) (by decide) dw_194 (fun _ => law_end hg hL) (fun h => absurd rfl h)
theorem law_k1 {J I : Nat → Nat → Int32} (hg : gp b = 0) (hc0 : ct b = 166) (hL : scL b = 6) (hC : FRc J) (hM : FRm I) : BW l b room_1 y_law (KC, J, RC) (KM, I, RM) 199 [.ref 1000, .ref 0, .ref 166, .int (nI 0)] [] := by
  refine bw_aload_n rfl rfl dw_199 ?_
  refine bw_arg (j := 1) hL (by decide) (by decide) dw_200 dw_201 dw_202 dw_203 dw_204 rfl rfl ?_
  refine bw_arg (j := 2) hL (by decide) (by decide) dw_205 dw_206 dw_207 dw_208 dw_209 rfl rfl ?_
  refine bw_mC (as := [.int (scX b 1), .int (scX b 2)]) (A := an_set (scX b 1) (scX b 2)) (d' := 14) hg hc0 mo_S_set lk_Z_18 rfl rfl (Nat.le_of_ble_eq_true rfl) (Nat.le_of_ble_eq_true rfl) rfl rfl (Nat.le_of_ble_eq_true rfl) dw_210 ⟨Nat.le_of_ble_eq_true rfl, Nat.le_of_ble_eq_true rfl⟩ (cs_set hC (x := scX b 1) (z := scX b 2) (h1 := fun q _ => congrArg (fun z => some (Value.int z)) (if_pos q).symm) (h0 := fun q _ => congrArg (fun z => some (Value.int z)) (if_neg q).symm)) (fun J2 => ?_)
  refine bw_aload_n rfl rfl dw_213 ?_
  refine bw_arg (j := 1) hL (by decide) (by decide) dw_214 dw_215 dw_216 dw_217 dw_218 rfl rfl ?_
  refine bw_arg (j := 2) hL (by decide) (by decide) dw_219 dw_220 dw_221 dw_222 dw_223 rfl rfl ?_
  refine bw_mM (as := [.int (scX b 1), .int (scX b 2)]) (A := an_set (scX b 1) (scX b 2)) (d' := 14) hg hc0 mo_X_set lk_Z_22 rfl rfl rfl (Nat.le_of_ble_eq_true rfl) (Nat.le_of_ble_eq_true rfl) rfl rfl (Nat.le_of_ble_eq_true rfl) dw_224 ⟨Nat.le_of_ble_eq_true rfl, Nat.le_of_ble_eq_true rfl⟩ (ms_set hM (x := scX b 1) (z := scX b 2) (h1 := fun q _ => congrArg (fun z => some (Value.int z)) (if_pos q).symm) (h0 := fun q _ => congrArg (fun z => some (Value.int z)) (if_neg q).symm)) (fun I2 => ?_)
  exact bw_icmp_eq (tgt := 1228) (by decide) dw_227 (fun _ => law_end hg hL) (fun h => absurd rfl h)
theorem law_k2 {J I : Nat → Nat → Int32} (hg : gp b = 0) (hc0 : ct b = 166) (hL : scL b = 6) (hC : FRc J) (hM : FRm I) : BW l b room_1 y_law (KC, J, RC) (KM, I, RM) 232 [.ref 1000, .ref 0, .ref 166, .int (nI 0)] [] := by
  refine bw_aload_n rfl rfl dw_232 ?_
  refine bw_arg (j := 1) hL (by decide) (by decide) dw_233 dw_234 dw_235 dw_236 dw_237 rfl rfl ?_
  refine bw_arg (j := 2) hL (by decide) (by decide) dw_238 dw_239 dw_240 dw_241 dw_242 rfl rfl ?_
  refine bw_mC (as := [.int (scX b 1), .int (scX b 2)]) (A := an_seen (scX b 1) (scX b 2)) (d' := 14) hg hc0 mo_S_seen lk_Z_23 rfl rfl (Nat.le_of_ble_eq_true rfl) (Nat.le_of_ble_eq_true rfl) rfl rfl (Nat.le_of_ble_eq_true rfl) dw_243 ⟨Nat.le_of_ble_eq_true rfl, Nat.le_of_ble_eq_true rfl⟩ (cs_seen hC (x := scX b 1) (z := scX b 2) (h1 := fun q _ => congrArg (fun z => some (Value.int z)) (if_pos q).symm) (h0 := fun q _ => congrArg (fun z => some (Value.int z)) (if_neg q).symm)) (fun J2 => ?_)
  refine bw_aload_n rfl rfl dw_246 ?_
  refine bw_arg (j := 1) hL (by decide) (by decide) dw_247 dw_248 dw_249 dw_250 dw_251 rfl rfl ?_
  refine bw_arg (j := 2) hL (by decide) (by decide) dw_252 dw_253 dw_254 dw_255 dw_256 rfl rfl ?_
  refine bw_mM (as := [.int (scX b 1), .int (scX b 2)]) (A := an_seen (scX b 1) (scX b 2)) (d' := 14) hg hc0 mo_X_seen lk_Z_26 rfl rfl rfl (Nat.le_of_ble_eq_true rfl) (Nat.le_of_ble_eq_true rfl) rfl rfl (Nat.le_of_ble_eq_true rfl) dw_257 ⟨Nat.le_of_ble_eq_true rfl, Nat.le_of_ble_eq_true rfl⟩ (ms_seen hM (x := scX b 1) (z := scX b 2) (h1 := fun q _ => congrArg (fun z => some (Value.int z)) (if_pos q).symm) (h0 := fun q _ => congrArg (fun z => some (Value.int z)) (if_neg q).symm)) (fun I2 => ?_)
  exact bw_icmp_eq (tgt := 1228) (by decide) dw_260 (fun _ => law_end hg hL) (fun h => absurd rfl h)
theorem law_k3 {J I : Nat → Nat → Int32} (hg : gp b = 0) (hc0 : ct b = 166) (hL : scL b = 6) (hC : FRc J) (hM : FRm I) : BW l b room_1 y_law (KC, J, RC) (KM, I, RM) 265 [.ref 1000, .ref 0, .ref 166, .int (nI 0)] [] := by
  refine bw_aload_n rfl rfl dw_265 ?_
  refine bw_arg (j := 1) hL (by decide) (by decide) dw_266 dw_267 dw_268 dw_269 dw_270 rfl rfl ?_
  refine bw_arg (j := 2) hL (by decide) (by decide) dw_271 dw_272 dw_273 dw_274 dw_275 rfl rfl ?_
  refine bw_mC (as := [.int (scX b 1), .int (scX b 2)]) (A := an_parts (scX b 1) (scX b 2)) (d' := 14) hg hc0 mo_S_parts lk_Z_27 rfl rfl (Nat.le_of_ble_eq_true rfl) (Nat.le_of_ble_eq_true rfl) rfl rfl (Nat.le_of_ble_eq_true rfl) dw_276 ⟨Nat.le_of_ble_eq_true rfl, Nat.le_of_ble_eq_true rfl⟩ (cs_parts hC (x := scX b 1) (z := scX b 2) (h1 := fun q _ => congrArg (fun z => some (Value.int z)) (if_pos q).symm) (h0 := fun q _ => congrArg (fun z => some (Value.int z)) (if_neg q).symm)) (fun J2 => ?_)
  refine bw_aload_n rfl rfl dw_279 ?_
  refine bw_arg (j := 1) hL (by decide) (by decide) dw_280 dw_281 dw_282 dw_283 dw_284 rfl rfl ?_
  refine bw_arg (j := 2) hL (by decide) (by decide) dw_285 dw_286 dw_287 dw_288 dw_289 rfl rfl ?_
  refine bw_mM (as := [.int (scX b 1), .int (scX b 2)]) (A := an_parts (scX b 1) (scX b 2)) (d' := 14) hg hc0 mo_X_parts lk_Z_30 rfl rfl rfl (Nat.le_of_ble_eq_true rfl) (Nat.le_of_ble_eq_true rfl) rfl rfl (Nat.le_of_ble_eq_true rfl) dw_290 ⟨Nat.le_of_ble_eq_true rfl, Nat.le_of_ble_eq_true rfl⟩ (ms_parts hM (x := scX b 1) (z := scX b 2) (h1 := fun q _ => congrArg (fun z => some (Value.int z)) (if_pos q).symm) (h0 := fun q _ => congrArg (fun z => some (Value.int z)) (if_neg q).symm)) (fun I2 => ?_)
  exact bw_icmp_eq (tgt := 1228) (by decide) dw_293 (fun _ => law_end hg hL) (fun h => absurd rfl h)
theorem law_k4 {J I : Nat → Nat → Int32} (hg : gp b = 0) (hc0 : ct b = 166) (hL : scL b = 6) (hC : FRc J) (hM : FRm I) : BW l b room_1 y_law (KC, J, RC) (KM, I, RM) 298 [.ref 1000, .ref 0, .ref 166, .int (nI 0)] [] := by
  refine bw_aload_n rfl rfl dw_298 ?_
  refine bw_arg (j := 1) hL (by decide) (by decide) dw_299 dw_300 dw_301 dw_302 dw_303 rfl rfl ?_
  refine bw_arg (j := 2) hL (by decide) (by decide) dw_304 dw_305 dw_306 dw_307 dw_308 rfl rfl ?_
  refine bw_arg (j := 3) hL (by decide) (by decide) dw_309 dw_310 dw_311 dw_312 dw_313 rfl rfl ?_
  refine bw_arg (j := 4) hL (by decide) (by decide) dw_314 dw_315 dw_316 dw_317 dw_318 rfl rfl ?_
  refine bw_arg (j := 5) hL (by decide) (by decide) dw_319 dw_320 dw_321 dw_322 dw_323 rfl rfl ?_
  refine bw_mC (as := [.int (scX b 1), .int (scX b 2), .int (scX b 3), .int (scX b 4), .int (scX b 5)]) (A := an_comer (scX b 1) (scX b 2) (scX b 3) (scX b 4) (scX b 5)) (d' := 14) hg hc0 mo_S_comer lk_Z_31 rfl rfl (Nat.le_of_ble_eq_true rfl) (Nat.le_of_ble_eq_true rfl) rfl rfl (Nat.le_of_ble_eq_true rfl) dw_324 ⟨Nat.le_of_ble_eq_true rfl, Nat.le_of_ble_eq_true rfl⟩ (cs_comer hC (x := scX b 1) (z := scX b 2) (u := scX b 3) (v := scX b 4) (c := scX b 5) (h1 := fun q _ => congrArg (fun z => some (Value.int z)) (if_pos q).symm) (h0 := fun q _ => congrArg (fun z => some (Value.int z)) (if_neg q).symm)) (fun J2 => ?_)
  refine bw_aload_n rfl rfl dw_327 ?_
  refine bw_arg (j := 1) hL (by decide) (by decide) dw_328 dw_329 dw_330 dw_331 dw_332 rfl rfl ?_
  refine bw_arg (j := 2) hL (by decide) (by decide) dw_333 dw_334 dw_335 dw_336 dw_337 rfl rfl ?_
  refine bw_arg (j := 3) hL (by decide) (by decide) dw_338 dw_339 dw_340 dw_341 dw_342 rfl rfl ?_
  refine bw_arg (j := 4) hL (by decide) (by decide) dw_343 dw_344 dw_345 dw_346 dw_347 rfl rfl ?_
  refine bw_arg (j := 5) hL (by decide) (by decide) dw_348 dw_349 dw_350 dw_351 dw_352 rfl rfl ?_
  refine bw_mM (as := [.int (scX b 1), .int (scX b 2), .int (scX b 3), .int (scX b 4), .int (scX b 5)]) (A := an_comer (scX b 1) (scX b 2) (scX b 3) (scX b 4) (scX b 5)) (d' := 14) hg hc0 mo_X_comer lk_Z_35 rfl rfl rfl (Nat.le_of_ble_eq_true rfl) (Nat.le_of_ble_eq_true rfl) rfl rfl (Nat.le_of_ble_eq_true rfl) dw_353 ⟨Nat.le_of_ble_eq_true rfl, Nat.le_of_ble_eq_true rfl⟩ (ms_comer hM (x := scX b 1) (z := scX b 2) (u := scX b 3) (v := scX b 4) (c := scX b 5) (h1 := fun q _ => congrArg (fun z => some (Value.int z)) (if_pos q).symm) (h0 := fun q _ => congrArg (fun z => some (Value.int z)) (if_neg q).symm)) (fun I2 => ?_)
  exact bw_icmp_eq (tgt := 1228) (by decide) dw_356 (fun _ => law_end hg hL) (fun h => absurd rfl h)
theorem law_k5 {J I : Nat → Nat → Int32} (hg : gp b = 0) (hc0 : ct b = 166) (hL : scL b = 6) (hC : FRc J) (hM : FRm I) : BW l b room_1 y_law (KC, J, RC) (KM, I, RM) 361 [.ref 1000, .ref 0, .ref 166, .int (nI 0)] [] := by
  refine bw_aload_n rfl rfl dw_361 ?_
  refine bw_arg (j := 1) hL (by decide) (by decide) dw_362 dw_363 dw_364 dw_365 dw_366 rfl rfl ?_
  refine bw_arg (j := 2) hL (by decide) (by decide) dw_367 dw_368 dw_369 dw_370 dw_371 rfl rfl ?_
  refine bw_arg (j := 3) hL (by decide) (by decide) dw_372 dw_373 dw_374 dw_375 dw_376 rfl rfl ?_
  refine bw_arg (j := 4) hL (by decide) (by decide) dw_377 dw_378 dw_379 dw_380 dw_381 rfl rfl ?_
  refine bw_arg (j := 5) hL (by decide) (by decide) dw_382 dw_383 dw_384 dw_385 dw_386 rfl rfl ?_
  refine bw_mC (as := [.int (scX b 1), .int (scX b 2), .int (scX b 3), .int (scX b 4), .int (scX b 5)]) (A := an_feed (scX b 1) (scX b 2) (scX b 3) (scX b 4) (scX b 5)) (d' := 14) hg hc0 mo_S_feed lk_Z_36 rfl rfl (Nat.le_of_ble_eq_true rfl) (Nat.le_of_ble_eq_true rfl) rfl rfl (Nat.le_of_ble_eq_true rfl) dw_387 ⟨Nat.le_of_ble_eq_true rfl, Nat.le_of_ble_eq_true rfl⟩ (cs_feed hC (x := scX b 1) (z := scX b 2) (u := scX b 3) (v := scX b 4) (c := scX b 5) (hK := fun _ => rfl)) (fun J2 => ?_)
  refine bw_aload_n rfl rfl dw_390 ?_
  refine bw_arg (j := 1) hL (by decide) (by decide) dw_391 dw_392 dw_393 dw_394 dw_395 rfl rfl ?_
  refine bw_arg (j := 2) hL (by decide) (by decide) dw_396 dw_397 dw_398 dw_399 dw_400 rfl rfl ?_
  refine bw_arg (j := 3) hL (by decide) (by decide) dw_401 dw_402 dw_403 dw_404 dw_405 rfl rfl ?_
  refine bw_arg (j := 4) hL (by decide) (by decide) dw_406 dw_407 dw_408 dw_409 dw_410 rfl rfl ?_
  refine bw_arg (j := 5) hL (by decide) (by decide) dw_411 dw_412 dw_413 dw_414 dw_415 rfl rfl ?_
  refine bw_mM (as := [.int (scX b 1), .int (scX b 2), .int (scX b 3), .int (scX b 4), .int (scX b 5)]) (A := an_feed (scX b 1) (scX b 2) (scX b 3) (scX b 4) (scX b 5)) (d' := 14) hg hc0 mo_X_feed lk_Z_40 rfl rfl rfl (Nat.le_of_ble_eq_true rfl) (Nat.le_of_ble_eq_true rfl) rfl rfl (Nat.le_of_ble_eq_true rfl) dw_416 ⟨Nat.le_of_ble_eq_true rfl, Nat.le_of_ble_eq_true rfl⟩ (ms_feed hM (x := scX b 1) (z := scX b 2) (u := scX b 3) (v := scX b 4) (c := scX b 5) (hK := fun _ => rfl)) (fun I2 => ?_)
  exact bw_icmp_eq (tgt := 1228) (by decide) dw_419 (fun _ => law_end hg hL) (fun h => absurd rfl h)
theorem law_k6 {J I : Nat → Nat → Int32} (hg : gp b = 0) (hc0 : ct b = 166) (hL : scL b = 6) (hC : FRc J) (hM : FRm I) : BW l b room_1 y_law (KC, J, RC) (KM, I, RM) 424 [.ref 1000, .ref 0, .ref 166, .int (nI 0)] [] := by
  refine bw_aload_n rfl rfl dw_424 ?_
  refine bw_arg (j := 1) hL (by decide) (by decide) dw_425 dw_426 dw_427 dw_428 dw_429 rfl rfl ?_
  refine bw_mC (as := [.int (scX b 1)]) (A := an_end (scX b 1)) (d' := 14) hg hc0 mo_S_end lk_Z_41 rfl rfl (Nat.le_of_ble_eq_true rfl) (Nat.le_of_ble_eq_true rfl) rfl rfl (Nat.le_of_ble_eq_true rfl) dw_430 ⟨Nat.le_of_ble_eq_true rfl, Nat.le_of_ble_eq_true rfl⟩ (cs_end hC (x := scX b 1) (h1 := fun q _ => congrArg (fun z => some (Value.int z)) (if_pos q).symm) (h0 := fun q _ => congrArg (fun z => some (Value.int z)) (if_neg q).symm)) (fun J2 => ?_)
  refine bw_aload_n rfl rfl dw_433 ?_
  refine bw_arg (j := 1) hL (by decide) (by decide) dw_434 dw_435 dw_436 dw_437 dw_438 rfl rfl ?_
  refine bw_mM (as := [.int (scX b 1)]) (A := an_end (scX b 1)) (d' := 14) hg hc0 mo_X_end lk_Z_45 rfl rfl rfl (Nat.le_of_ble_eq_true rfl) (Nat.le_of_ble_eq_true rfl) rfl rfl (Nat.le_of_ble_eq_true rfl) dw_439 ⟨Nat.le_of_ble_eq_true rfl, Nat.le_of_ble_eq_true rfl⟩ (ms_end hM (x := scX b 1) (h1 := fun q _ => congrArg (fun z => some (Value.int z)) (if_pos q).symm) (h0 := fun q _ => congrArg (fun z => some (Value.int z)) (if_neg q).symm)) (fun I2 => ?_)
  exact bw_icmp_eq (tgt := 1228) (by decide) dw_442 (fun _ => law_end hg hL) (fun h => absurd rfl h)
theorem law_k7 {J I : Nat → Nat → Int32} (hg : gp b = 0) (hc0 : ct b = 166) (hL : scL b = 6) (hC : FRc J) (hM : FRm I) : BW l b room_1 y_law (KC, J, RC) (KM, I, RM) 447 [.ref 1000, .ref 0, .ref 166, .int (nI 0)] [] := by
  refine bw_aload_n rfl rfl dw_447 ?_
  refine bw_arg (j := 1) hL (by decide) (by decide) dw_448 dw_449 dw_450 dw_451 dw_452 rfl rfl ?_
  refine bw_mC (as := [.int (scX b 1)]) (A := an_text (scX b 1)) (d' := 14) hg hc0 mo_S_text lk_Z_46 rfl rfl (Nat.le_of_ble_eq_true rfl) (Nat.le_of_ble_eq_true rfl) rfl rfl (Nat.le_of_ble_eq_true rfl) dw_453 ⟨Nat.le_of_ble_eq_true rfl, Nat.le_of_ble_eq_true rfl⟩ (cs_text hC (x := scX b 1) (hg := fun q _ => congrArg (fun z => some (Value.int z)) (if_pos q).symm) (hb := fun q _ => congrArg (fun z => some (Value.int z)) (if_neg q).symm)) (fun J2 => ?_)
  refine bw_aload_n rfl rfl dw_456 ?_
  refine bw_arg (j := 1) hL (by decide) (by decide) dw_457 dw_458 dw_459 dw_460 dw_461 rfl rfl ?_
  refine bw_mM (as := [.int (scX b 1)]) (A := an_text (scX b 1)) (d' := 14) hg hc0 mo_X_text lk_Z_49 rfl rfl rfl (Nat.le_of_ble_eq_true rfl) (Nat.le_of_ble_eq_true rfl) rfl rfl (Nat.le_of_ble_eq_true rfl) dw_462 ⟨Nat.le_of_ble_eq_true rfl, Nat.le_of_ble_eq_true rfl⟩ (ms_text hM (x := scX b 1) (hg := fun q _ => congrArg (fun z => some (Value.int z)) (if_pos q).symm) (hb := fun q _ => congrArg (fun z => some (Value.int z)) (if_neg q).symm)) (fun I2 => ?_)
  exact bw_icmp_eq (tgt := 1228) (by decide) dw_465 (fun _ => law_end hg hL) (fun h => absurd rfl h)
theorem law_k8 {J I : Nat → Nat → Int32} (hg : gp b = 0) (hc0 : ct b = 166) (hL : scL b = 6) (hC : FRc J) (hM : FRm I) : BW l b room_1 y_law (KC, J, RC) (KM, I, RM) 470 [.ref 1000, .ref 0, .ref 166, .int (nI 0)] [] := by
  refine bw_aload_n rfl rfl dw_470 ?_
  refine bw_arg (j := 1) hL (by decide) (by decide) dw_471 dw_472 dw_473 dw_474 dw_475 rfl rfl ?_
  refine bw_mC (as := [.int (scX b 1)]) (A := an_fault (scX b 1)) (d' := 14) hg hc0 mo_S_fault lk_Z_50 rfl rfl (Nat.le_of_ble_eq_true rfl) (Nat.le_of_ble_eq_true rfl) rfl rfl (Nat.le_of_ble_eq_true rfl) dw_476 ⟨Nat.le_of_ble_eq_true rfl, Nat.le_of_ble_eq_true rfl⟩ (cs_fault hC (x := scX b 1) (hg := fun q _ => congrArg (fun z => some (Value.int z)) (if_pos q).symm) (hb := fun q _ => congrArg (fun z => some (Value.int z)) (if_neg q).symm)) (fun J2 => ?_)
  refine bw_aload_n rfl rfl dw_479 ?_
  refine bw_arg (j := 1) hL (by decide) (by decide) dw_480 dw_481 dw_482 dw_483 dw_484 rfl rfl ?_
  refine bw_mM (as := [.int (scX b 1)]) (A := an_fault (scX b 1)) (d' := 14) hg hc0 mo_X_fault lk_Z_53 rfl rfl rfl (Nat.le_of_ble_eq_true rfl) (Nat.le_of_ble_eq_true rfl) rfl rfl (Nat.le_of_ble_eq_true rfl) dw_485 ⟨Nat.le_of_ble_eq_true rfl, Nat.le_of_ble_eq_true rfl⟩ (ms_fault hM (x := scX b 1) (hg := fun q _ => congrArg (fun z => some (Value.int z)) (if_pos q).symm) (hb := fun q _ => congrArg (fun z => some (Value.int z)) (if_neg q).symm)) (fun I2 => ?_)
  exact bw_icmp_eq (tgt := 1228) (by decide) dw_488 (fun _ => law_end hg hL) (fun h => absurd rfl h)
theorem law_k9 {J I : Nat → Nat → Int32} (hg : gp b = 0) (hc0 : ct b = 166) (hL : scL b = 6) (hC : FRc J) (hM : FRm I) : BW l b room_1 y_law (KC, J, RC) (KM, I, RM) 493 [.ref 1000, .ref 0, .ref 166, .int (nI 0)] [] := by
  refine bw_aload_n rfl rfl dw_493 ?_
  refine bw_arg (j := 1) hL (by decide) (by decide) dw_494 dw_495 dw_496 dw_497 dw_498 rfl rfl ?_
  refine bw_arg (j := 2) hL (by decide) (by decide) dw_499 dw_500 dw_501 dw_502 dw_503 rfl rfl ?_
  refine bw_arg (j := 3) hL (by decide) (by decide) dw_504 dw_505 dw_506 dw_507 dw_508 rfl rfl ?_
  refine bw_mC (as := [.int (scX b 1), .int (scX b 2), .int (scX b 3)]) (A := an_come (scX b 1) (scX b 2) (scX b 3)) (d' := 14) hg hc0 mo_S_come lk_Z_54 rfl rfl (Nat.le_of_ble_eq_true rfl) (Nat.le_of_ble_eq_true rfl) rfl rfl (Nat.le_of_ble_eq_true rfl) dw_509 ⟨Nat.le_of_ble_eq_true rfl, Nat.le_of_ble_eq_true rfl⟩ (cs_come hC (x := scX b 1) (z := scX b 2) (u := scX b 3) (hg := fun q _ => congrArg (fun z => some (Value.int z)) (if_pos q).symm) (hb := fun q _ => congrArg (fun z => some (Value.int z)) (if_neg q).symm)) (fun J2 => ?_)
  refine bw_aload_n rfl rfl dw_512 ?_
  refine bw_arg (j := 1) hL (by decide) (by decide) dw_513 dw_514 dw_515 dw_516 dw_517 rfl rfl ?_
  refine bw_arg (j := 2) hL (by decide) (by decide) dw_518 dw_519 dw_520 dw_521 dw_522 rfl rfl ?_
  refine bw_arg (j := 3) hL (by decide) (by decide) dw_523 dw_524 dw_525 dw_526 dw_527 rfl rfl ?_
  refine bw_mM (as := [.int (scX b 1), .int (scX b 2), .int (scX b 3)]) (A := an_come (scX b 1) (scX b 2) (scX b 3)) (d' := 14) hg hc0 mo_X_come lk_Z_58 rfl rfl rfl (Nat.le_of_ble_eq_true rfl) (Nat.le_of_ble_eq_true rfl) rfl rfl (Nat.le_of_ble_eq_true rfl) dw_528 ⟨Nat.le_of_ble_eq_true rfl, Nat.le_of_ble_eq_true rfl⟩ (ms_come hM (x := scX b 1) (z := scX b 2) (u := scX b 3) (hg := fun q _ => congrArg (fun z => some (Value.int z)) (if_pos q).symm) (hb := fun q _ => congrArg (fun z => some (Value.int z)) (if_neg q).symm)) (fun I2 => ?_)
  exact bw_icmp_eq (tgt := 1228) (by decide) dw_531 (fun _ => law_end hg hL) (fun h => absurd rfl h)
theorem law_k10 {J I : Nat → Nat → Int32} (hg : gp b = 0) (hc0 : ct b = 166) (hL : scL b = 6) (hC : FRc J) (hM : FRm I) : BW l b room_1 y_law (KC, J, RC) (KM, I, RM) 536 [.ref 1000, .ref 0, .ref 166, .int (nI 0)] [] := by
  refine bw_aload_n rfl rfl dw_536 ?_
  refine bw_arg (j := 1) hL (by decide) (by decide) dw_537 dw_538 dw_539 dw_540 dw_541 rfl rfl ?_
  refine bw_arg (j := 2) hL (by decide) (by decide) dw_542 dw_543 dw_544 dw_545 dw_546 rfl rfl ?_
  refine bw_arg (j := 3) hL (by decide) (by decide) dw_547 dw_548 dw_549 dw_550 dw_551 rfl rfl ?_
  refine bw_mC (as := [.int (scX b 1), .int (scX b 2), .int (scX b 3)]) (A := an_group (scX b 1) (scX b 2) (scX b 3)) (d' := 14) hg hc0 mo_S_group lk_Z_59 rfl rfl (Nat.le_of_ble_eq_true rfl) (Nat.le_of_ble_eq_true rfl) rfl rfl (Nat.le_of_ble_eq_true rfl) dw_552 ⟨Nat.le_of_ble_eq_true rfl, Nat.le_of_ble_eq_true rfl⟩ (cs_group hC (x := scX b 1) (z := scX b 2) (u := scX b 3) (hg := fun q _ => congrArg (fun z => some (Value.int z)) (if_pos q).symm) (hb := fun q _ => congrArg (fun z => some (Value.int z)) (if_neg q).symm)) (fun J2 => ?_)
  refine bw_aload_n rfl rfl dw_555 ?_
  refine bw_arg (j := 1) hL (by decide) (by decide) dw_556 dw_557 dw_558 dw_559 dw_560 rfl rfl ?_
  refine bw_arg (j := 2) hL (by decide) (by decide) dw_561 dw_562 dw_563 dw_564 dw_565 rfl rfl ?_
  refine bw_arg (j := 3) hL (by decide) (by decide) dw_566 dw_567 dw_568 dw_569 dw_570 rfl rfl ?_
  refine bw_mM (as := [.int (scX b 1), .int (scX b 2), .int (scX b 3)]) (A := an_group (scX b 1) (scX b 2) (scX b 3)) (d' := 14) hg hc0 mo_X_group lk_Z_62 rfl rfl rfl (Nat.le_of_ble_eq_true rfl) (Nat.le_of_ble_eq_true rfl) rfl rfl (Nat.le_of_ble_eq_true rfl) dw_571 ⟨Nat.le_of_ble_eq_true rfl, Nat.le_of_ble_eq_true rfl⟩ (ms_group hM (x := scX b 1) (z := scX b 2) (u := scX b 3) (hg := fun q _ => congrArg (fun z => some (Value.int z)) (if_pos q).symm) (hb := fun q _ => congrArg (fun z => some (Value.int z)) (if_neg q).symm)) (fun I2 => ?_)
  exact bw_icmp_eq (tgt := 1228) (by decide) dw_574 (fun _ => law_end hg hL) (fun h => absurd rfl h)
theorem law_k11 {J I : Nat → Nat → Int32} (hg : gp b = 0) (hc0 : ct b = 166) (hL : scL b = 6) (hC : FRc J) (hM : FRm I) : BW l b room_1 y_law (KC, J, RC) (KM, I, RM) 579 [.ref 1000, .ref 0, .ref 166, .int (nI 0)] [] := by
  refine bw_aload_n rfl rfl dw_579 ?_
  refine bw_arg (j := 1) hL (by decide) (by decide) dw_580 dw_581 dw_582 dw_583 dw_584 rfl rfl ?_
  refine bw_arg (j := 2) hL (by decide) (by decide) dw_585 dw_586 dw_587 dw_588 dw_589 rfl rfl ?_
  refine bw_mC (as := [.int (scX b 1), .int (scX b 2)]) (A := an_line (scX b 1) (scX b 2)) (d' := 14) hg hc0 mo_S_line lk_Z_63 rfl rfl (Nat.le_of_ble_eq_true rfl) (Nat.le_of_ble_eq_true rfl) rfl rfl (Nat.le_of_ble_eq_true rfl) dw_590 ⟨Nat.le_of_ble_eq_true rfl, Nat.le_of_ble_eq_true rfl⟩ (cs_line hC (x := scX b 1) (z := scX b 2) (hg := fun q _ => congrArg (fun z => some (Value.int z)) (if_pos q).symm) (hb := fun q _ => congrArg (fun z => some (Value.int z)) (if_neg q).symm)) (fun J2 => ?_)
  refine bw_aload_n rfl rfl dw_593 ?_
  refine bw_arg (j := 1) hL (by decide) (by decide) dw_594 dw_595 dw_596 dw_597 dw_598 rfl rfl ?_
  refine bw_arg (j := 2) hL (by decide) (by decide) dw_599 dw_600 dw_601 dw_602 dw_603 rfl rfl ?_
  refine bw_mM (as := [.int (scX b 1), .int (scX b 2)]) (A := an_line (scX b 1) (scX b 2)) (d' := 14) hg hc0 mo_X_line lk_Z_67 rfl rfl rfl (Nat.le_of_ble_eq_true rfl) (Nat.le_of_ble_eq_true rfl) rfl rfl (Nat.le_of_ble_eq_true rfl) dw_604 ⟨Nat.le_of_ble_eq_true rfl, Nat.le_of_ble_eq_true rfl⟩ (ms_line hM (x := scX b 1) (z := scX b 2) (hg := fun q _ => congrArg (fun z => some (Value.int z)) (if_pos q).symm) (hb := fun q _ => congrArg (fun z => some (Value.int z)) (if_neg q).symm)) (fun I2 => ?_)
  exact bw_icmp_eq (tgt := 1228) (by decide) dw_607 (fun _ => law_end hg hL) (fun h => absurd rfl h)
theorem law_k12 {J I : Nat → Nat → Int32} (hg : gp b = 0) (hc0 : ct b = 166) (hL : scL b = 6) (hC : FRc J) (hM : FRm I) : BW l b room_1 y_law (KC, J, RC) (KM, I, RM) 612 [.ref 1000, .ref 0, .ref 166, .int (nI 0)] [] := by
  refine bw_aload_n rfl rfl dw_612 ?_
  refine bw_arg (j := 1) hL (by decide) (by decide) dw_613 dw_614 dw_615 dw_616 dw_617 rfl rfl ?_
  refine bw_arg (j := 2) hL (by decide) (by decide) dw_618 dw_619 dw_620 dw_621 dw_622 rfl rfl ?_
  refine bw_mC (as := [.int (scX b 1), .int (scX b 2)]) (A := an_pick (scX b 1) (scX b 2)) (d' := 14) hg hc0 mo_S_pick lk_Z_68 rfl rfl (Nat.le_of_ble_eq_true rfl) (Nat.le_of_ble_eq_true rfl) rfl rfl (Nat.le_of_ble_eq_true rfl) dw_623 ⟨Nat.le_of_ble_eq_true rfl, Nat.le_of_ble_eq_true rfl⟩ (cs_pick hC (x := scX b 1) (z := scX b 2) (hK := fun _ => rfl)) (fun J2 => ?_)
  refine bw_aload_n rfl rfl dw_626 ?_
  refine bw_arg (j := 1) hL (by decide) (by decide) dw_627 dw_628 dw_629 dw_630 dw_631 rfl rfl ?_
  refine bw_arg (j := 2) hL (by decide) (by decide) dw_632 dw_633 dw_634 dw_635 dw_636 rfl rfl ?_
  refine bw_mM (as := [.int (scX b 1), .int (scX b 2)]) (A := an_pick (scX b 1) (scX b 2)) (d' := 14) hg hc0 mo_X_pick lk_Z_71 rfl rfl rfl (Nat.le_of_ble_eq_true rfl) (Nat.le_of_ble_eq_true rfl) rfl rfl (Nat.le_of_ble_eq_true rfl) dw_637 ⟨Nat.le_of_ble_eq_true rfl, Nat.le_of_ble_eq_true rfl⟩ (ms_pick hM (x := scX b 1) (z := scX b 2) (hK := fun _ => rfl)) (fun I2 => ?_)
  exact bw_icmp_eq (tgt := 1228) (by decide) dw_640 (fun _ => law_end hg hL) (fun h => absurd rfl h)
theorem law_k13 {J I : Nat → Nat → Int32} (hg : gp b = 0) (hc0 : ct b = 166) (hL : scL b = 6) (hC : FRc J) (hM : FRm I) : BW l b room_1 y_law (KC, J, RC) (KM, I, RM) 645 [.ref 1000, .ref 0, .ref 166, .int (nI 0)] [] := by
  refine bw_aload_n rfl rfl dw_645 ?_
  refine bw_mC (as := []) (A := an_send) (d' := 14) hg hc0 mo_S_send lk_Z_72 rfl rfl (Nat.le_of_ble_eq_true rfl) (Nat.le_of_ble_eq_true rfl) rfl rfl (Nat.le_of_ble_eq_true rfl) dw_646 ⟨Nat.le_of_ble_eq_true rfl, Nat.le_of_ble_eq_true rfl⟩ (cs_send hC (hK := fun _ => rfl)) (fun J2 => ?_)
  refine bw_aload_n rfl rfl dw_649 ?_
  refine bw_mM (as := []) (A := an_send) (d' := 14) hg hc0 mo_X_send lk_Z_76 rfl rfl rfl (Nat.le_of_ble_eq_true rfl) (Nat.le_of_ble_eq_true rfl) rfl rfl (Nat.le_of_ble_eq_true rfl) dw_650 ⟨Nat.le_of_ble_eq_true rfl, Nat.le_of_ble_eq_true rfl⟩ (ms_send hM (hK := fun _ => rfl)) (fun I2 => ?_)
  exact bw_icmp_eq (tgt := 1228) (by decide) dw_653 (fun _ => law_end hg hL) (fun h => absurd rfl h)
theorem law_k14 {J I : Nat → Nat → Int32} (hg : gp b = 0) (hc0 : ct b = 166) (hL : scL b = 6) (hC : FRc J) (hM : FRm I) : BW l b room_1 y_law (KC, J, RC) (KM, I, RM) 658 [.ref 1000, .ref 0, .ref 166, .int (nI 0)] [] := by
  refine bw_aload_n rfl rfl dw_658 ?_
  refine bw_mC (as := []) (A := an_chair) (d' := 14) hg hc0 mo_S_chair lk_Z_77 rfl rfl (Nat.le_of_ble_eq_true rfl) (Nat.le_of_ble_eq_true rfl) rfl rfl (Nat.le_of_ble_eq_true rfl) dw_659 ⟨Nat.le_of_ble_eq_true rfl, Nat.le_of_ble_eq_true rfl⟩ (cs_chair hC (hK := fun _ => rfl)) (fun J2 => ?_)
  refine bw_aload_n rfl rfl dw_662 ?_
  refine bw_mM (as := []) (A := an_chair) (d' := 6) hg hc0 mo_X_chair lk_Z_80 rfl rfl rfl (Nat.le_of_ble_eq_true rfl) (Nat.le_of_ble_eq_true rfl) rfl rfl (Nat.le_of_ble_eq_true rfl) dw_663 ⟨Nat.le_of_ble_eq_true rfl, Nat.le_of_ble_eq_true rfl⟩ (ms_chair hM (hK := fun _ => rfl)) (fun I2 => ?_)
  exact bw_icmp_eq (tgt := 1228) (by decide) dw_666 (fun _ => law_end hg hL) (fun h => absurd rfl h)
theorem law_k15 {J I : Nat → Nat → Int32} (hg : gp b = 0) (hc0 : ct b = 166) (hL : scL b = 6) (hC : FRc J) (hM : FRm I) : BW l b room_1 y_law (KC, J, RC) (KM, I, RM) 671 [.ref 1000, .ref 0, .ref 166, .int (nI 0)] [] := by
  refine bw_aload_n rfl rfl dw_671 ?_
  refine bw_arg (j := 1) hL (by decide) (by decide) dw_672 dw_673 dw_674 dw_675 dw_676 rfl rfl ?_
  refine bw_mC (as := [.int (scX b 1)]) (A := an_run (scX b 1)) (d' := 14) hg hc0 mo_S_run lk_Z_81 rfl rfl (Nat.le_of_ble_eq_true rfl) (Nat.le_of_ble_eq_true rfl) rfl rfl (Nat.le_of_ble_eq_true rfl) dw_677 ⟨Nat.le_of_ble_eq_true rfl, Nat.le_of_ble_eq_true rfl⟩ (cs_run hC (x := scX b 1) (hg := fun q _ => congrArg (fun z => some (Value.int z)) (if_pos q).symm) (hb := fun q _ => congrArg (fun z => some (Value.int z)) (if_neg q).symm)) (fun J2 => ?_)
  refine bw_aload_n rfl rfl dw_680 ?_
  refine bw_arg (j := 1) hL (by decide) (by decide) dw_681 dw_682 dw_683 dw_684 dw_685 rfl rfl ?_
  refine bw_mM (as := [.int (scX b 1)]) (A := an_run (scX b 1)) (d' := 14) hg hc0 mo_X_run lk_Z_84 rfl rfl rfl (Nat.le_of_ble_eq_true rfl) (Nat.le_of_ble_eq_true rfl) rfl rfl (Nat.le_of_ble_eq_true rfl) dw_686 ⟨Nat.le_of_ble_eq_true rfl, Nat.le_of_ble_eq_true rfl⟩ (ms_run hM (x := scX b 1) (hg := fun q _ => congrArg (fun z => some (Value.int z)) (if_pos q).symm) (hb := fun q _ => congrArg (fun z => some (Value.int z)) (if_neg q).symm)) (fun I2 => ?_)
  exact bw_icmp_eq (tgt := 1228) (by decide) dw_689 (fun _ => law_end hg hL) (fun h => absurd rfl h)
theorem law_k16 {J I : Nat → Nat → Int32} (hg : gp b = 0) (hc0 : ct b = 166) (hL : scL b = 6) (hC : FRc J) (hM : FRm I) : BW l b room_1 y_law (KC, J, RC) (KM, I, RM) 694 [.ref 1000, .ref 0, .ref 166, .int (nI 0)] [] := by
  refine bw_aload_n rfl rfl dw_694 ?_
  refine bw_arg (j := 1) hL (by decide) (by decide) dw_695 dw_696 dw_697 dw_698 dw_699 rfl rfl ?_
  refine bw_mC (as := [.int (scX b 1)]) (A := an_last (scX b 1)) (d' := 14) hg hc0 mo_S_last lk_Z_85 rfl rfl (Nat.le_of_ble_eq_true rfl) (Nat.le_of_ble_eq_true rfl) rfl rfl (Nat.le_of_ble_eq_true rfl) dw_700 ⟨Nat.le_of_ble_eq_true rfl, Nat.le_of_ble_eq_true rfl⟩ (cs_last hC (x := scX b 1) (hK := fun _ => rfl)) (fun J2 => ?_)
  refine bw_aload_n rfl rfl dw_703 ?_
  refine bw_arg (j := 1) hL (by decide) (by decide) dw_704 dw_705 dw_706 dw_707 dw_708 rfl rfl ?_
  refine bw_mM (as := [.int (scX b 1)]) (A := an_last (scX b 1)) (d' := 14) hg hc0 mo_X_last lk_Z_88 rfl rfl rfl (Nat.le_of_ble_eq_true rfl) (Nat.le_of_ble_eq_true rfl) rfl rfl (Nat.le_of_ble_eq_true rfl) dw_709 ⟨Nat.le_of_ble_eq_true rfl, Nat.le_of_ble_eq_true rfl⟩ (ms_last hM (x := scX b 1) (hK := fun _ => rfl)) (fun I2 => ?_)
  exact bw_icmp_eq (tgt := 1228) (by decide) dw_712 (fun _ => law_end hg hL) (fun h => absurd rfl h)
theorem law_k17 {J I : Nat → Nat → Int32} (hg : gp b = 0) (hc0 : ct b = 166) (hL : scL b = 6) (hC : FRc J) (hM : FRm I) : BW l b room_1 y_law (KC, J, RC) (KM, I, RM) 717 [.ref 1000, .ref 0, .ref 166, .int (nI 0)] [] := by
  refine bw_aload_n rfl rfl dw_717 ?_
  refine bw_arg (j := 1) hL (by decide) (by decide) dw_718 dw_719 dw_720 dw_721 dw_722 rfl rfl ?_
  refine bw_mC (as := [.int (scX b 1)]) (A := an_count (scX b 1)) (d' := 14) hg hc0 mo_S_count lk_Z_89 rfl rfl (Nat.le_of_ble_eq_true rfl) (Nat.le_of_ble_eq_true rfl) rfl rfl (Nat.le_of_ble_eq_true rfl) dw_723 ⟨Nat.le_of_ble_eq_true rfl, Nat.le_of_ble_eq_true rfl⟩ (cs_count hC (x := scX b 1) (hg := fun q _ => congrArg (fun z => some (Value.int z)) (if_pos q).symm) (hb := fun q _ => congrArg (fun z => some (Value.int z)) (if_neg q).symm)) (fun J2 => ?_)
  refine bw_aload_n rfl rfl dw_726 ?_
  refine bw_arg (j := 1) hL (by decide) (by decide) dw_727 dw_728 dw_729 dw_730 dw_731 rfl rfl ?_
  refine bw_mM (as := [.int (scX b 1)]) (A := an_count (scX b 1)) (d' := 14) hg hc0 mo_X_count lk_Z_92 rfl rfl rfl (Nat.le_of_ble_eq_true rfl) (Nat.le_of_ble_eq_true rfl) rfl rfl (Nat.le_of_ble_eq_true rfl) dw_732 ⟨Nat.le_of_ble_eq_true rfl, Nat.le_of_ble_eq_true rfl⟩ (ms_count hM (x := scX b 1) (hg := fun q _ => congrArg (fun z => some (Value.int z)) (if_pos q).symm) (hb := fun q _ => congrArg (fun z => some (Value.int z)) (if_neg q).symm)) (fun I2 => ?_)
  exact bw_icmp_eq (tgt := 1228) (by decide) dw_735 (fun _ => law_end hg hL) (fun h => absurd rfl h)
theorem law_k18 {J I : Nat → Nat → Int32} (hg : gp b = 0) (hc0 : ct b = 166) (hL : scL b = 6) (hC : FRc J) (hM : FRm I) : BW l b room_1 y_law (KC, J, RC) (KM, I, RM) 740 [.ref 1000, .ref 0, .ref 166, .int (nI 0)] [] := by
  refine bw_aload_n rfl rfl dw_740 ?_
  refine bw_arg (j := 1) hL (by decide) (by decide) dw_741 dw_742 dw_743 dw_744 dw_745 rfl rfl ?_
  refine bw_mC (as := [.int (scX b 1)]) (A := an_best (scX b 1)) (d' := 14) hg hc0 mo_S_best lk_Z_93 rfl rfl (Nat.le_of_ble_eq_true rfl) (Nat.le_of_ble_eq_true rfl) rfl rfl (Nat.le_of_ble_eq_true rfl) dw_746 ⟨Nat.le_of_ble_eq_true rfl, Nat.le_of_ble_eq_true rfl⟩ (cs_best hC (x := scX b 1) (hg := fun q _ => congrArg (fun z => some (Value.int z)) (if_pos q).symm) (hb := fun q _ => congrArg (fun z => some (Value.int z)) (if_neg q).symm)) (fun J2 => ?_)
  refine bw_aload_n rfl rfl dw_749 ?_
  refine bw_arg (j := 1) hL (by decide) (by decide) dw_750 dw_751 dw_752 dw_753 dw_754 rfl rfl ?_
  refine bw_mM (as := [.int (scX b 1)]) (A := an_best (scX b 1)) (d' := 14) hg hc0 mo_X_best lk_Z_96 rfl rfl rfl (Nat.le_of_ble_eq_true rfl) (Nat.le_of_ble_eq_true rfl) rfl rfl (Nat.le_of_ble_eq_true rfl) dw_755 ⟨Nat.le_of_ble_eq_true rfl, Nat.le_of_ble_eq_true rfl⟩ (ms_best hM (x := scX b 1) (hg := fun q _ => congrArg (fun z => some (Value.int z)) (if_pos q).symm) (hb := fun q _ => congrArg (fun z => some (Value.int z)) (if_neg q).symm)) (fun I2 => ?_)
  exact bw_icmp_eq (tgt := 1228) (by decide) dw_758 (fun _ => law_end hg hL) (fun h => absurd rfl h)
theorem law_k19 {J I : Nat → Nat → Int32} (hg : gp b = 0) (hc0 : ct b = 166) (hL : scL b = 6) (hC : FRc J) (hM : FRm I) : BW l b room_1 y_law (KC, J, RC) (KM, I, RM) 763 [.ref 1000, .ref 0, .ref 166, .int (nI 0)] [] := by
  refine bw_aload_n rfl rfl dw_763 ?_
  refine bw_arg (j := 1) hL (by decide) (by decide) dw_764 dw_765 dw_766 dw_767 dw_768 rfl rfl ?_
  refine bw_mC (as := [.int (scX b 1)]) (A := an_look (scX b 1)) (d' := 14) hg hc0 mo_S_look lk_Z_97 rfl rfl (Nat.le_of_ble_eq_true rfl) (Nat.le_of_ble_eq_true rfl) rfl rfl (Nat.le_of_ble_eq_true rfl) dw_769 ⟨Nat.le_of_ble_eq_true rfl, Nat.le_of_ble_eq_true rfl⟩ (cs_look hC (x := scX b 1) (hg := fun q _ => congrArg (fun z => some (Value.int z)) (if_pos q).symm) (hb := fun q _ => congrArg (fun z => some (Value.int z)) (if_neg q).symm)) (fun J2 => ?_)
  refine bw_aload_n rfl rfl dw_772 ?_
  refine bw_arg (j := 1) hL (by decide) (by decide) dw_773 dw_774 dw_775 dw_776 dw_777 rfl rfl ?_
  refine bw_mM (as := [.int (scX b 1)]) (A := an_look (scX b 1)) (d' := 14) hg hc0 mo_X_look lk_Z_100 rfl rfl rfl (Nat.le_of_ble_eq_true rfl) (Nat.le_of_ble_eq_true rfl) rfl rfl (Nat.le_of_ble_eq_true rfl) dw_778 ⟨Nat.le_of_ble_eq_true rfl, Nat.le_of_ble_eq_true rfl⟩ (ms_look hM (x := scX b 1) (hg := fun q _ => congrArg (fun z => some (Value.int z)) (if_pos q).symm) (hb := fun q _ => congrArg (fun z => some (Value.int z)) (if_neg q).symm)) (fun I2 => ?_)
  exact bw_icmp_eq (tgt := 1228) (by decide) dw_781 (fun _ => law_end hg hL) (fun h => absurd rfl h)
theorem law_k20 {J I : Nat → Nat → Int32} (hg : gp b = 0) (hc0 : ct b = 166) (hL : scL b = 6) (hC : FRc J) (hM : FRm I) : BW l b room_1 y_law (KC, J, RC) (KM, I, RM) 786 [.ref 1000, .ref 0, .ref 166, .int (nI 0)] [] := by
  refine bw_aload_n rfl rfl dw_786 ?_
  refine bw_arg (j := 1) hL (by decide) (by decide) dw_787 dw_788 dw_789 dw_790 dw_791 rfl rfl ?_
  refine bw_arg (j := 2) hL (by decide) (by decide) dw_792 dw_793 dw_794 dw_795 dw_796 rfl rfl ?_
  refine bw_mC (as := [.int (scX b 1), .int (scX b 2)]) (A := an_heap (scX b 1) (scX b 2)) (d' := 14) hg hc0 mo_S_heap lk_Z_101 rfl rfl (Nat.le_of_ble_eq_true rfl) (Nat.le_of_ble_eq_true rfl) rfl rfl (Nat.le_of_ble_eq_true rfl) dw_797 ⟨Nat.le_of_ble_eq_true rfl, Nat.le_of_ble_eq_true rfl⟩ (cs_heap hC (x := scX b 1) (z := scX b 2) (h1 := fun q _ => congrArg (fun z => some (Value.int z)) (if_pos q).symm) (h0 := fun q _ => congrArg (fun z => some (Value.int z)) (if_neg q).symm)) (fun J2 => ?_)
  refine bw_aload_n rfl rfl dw_800 ?_
  refine bw_arg (j := 1) hL (by decide) (by decide) dw_801 dw_802 dw_803 dw_804 dw_805 rfl rfl ?_
  refine bw_arg (j := 2) hL (by decide) (by decide) dw_806 dw_807 dw_808 dw_809 dw_810 rfl rfl ?_
  refine bw_mM (as := [.int (scX b 1), .int (scX b 2)]) (A := an_heap (scX b 1) (scX b 2)) (d' := 14) hg hc0 mo_X_heap lk_Z_104 rfl rfl rfl (Nat.le_of_ble_eq_true rfl) (Nat.le_of_ble_eq_true rfl) rfl rfl (Nat.le_of_ble_eq_true rfl) dw_811 ⟨Nat.le_of_ble_eq_true rfl, Nat.le_of_ble_eq_true rfl⟩ (ms_heap hM (x := scX b 1) (z := scX b 2) (h1 := fun q _ => congrArg (fun z => some (Value.int z)) (if_pos q).symm) (h0 := fun q _ => congrArg (fun z => some (Value.int z)) (if_neg q).symm)) (fun I2 => ?_)
  exact bw_icmp_eq (tgt := 1228) (by decide) dw_814 (fun _ => law_end hg hL) (fun h => absurd rfl h)
theorem law_k21 {J I : Nat → Nat → Int32} (hg : gp b = 0) (hc0 : ct b = 166) (hL : scL b = 6) (hC : FRc J) (hM : FRm I) : BW l b room_1 y_law (KC, J, RC) (KM, I, RM) 819 [.ref 1000, .ref 0, .ref 166, .int (nI 0)] [] := by
  refine bw_aload_n rfl rfl dw_819 ?_
  refine bw_arg (j := 1) hL (by decide) (by decide) dw_820 dw_821 dw_822 dw_823 dw_824 rfl rfl ?_
  refine bw_mC (as := [.int (scX b 1)]) (A := an_fewest (scX b 1)) (d' := 14) hg hc0 mo_S_fewest lk_Z_105 rfl rfl (Nat.le_of_ble_eq_true rfl) (Nat.le_of_ble_eq_true rfl) rfl rfl (Nat.le_of_ble_eq_true rfl) dw_825 ⟨Nat.le_of_ble_eq_true rfl, Nat.le_of_ble_eq_true rfl⟩ (cs_fewest hC (x := scX b 1) (hg := fun q _ => congrArg (fun z => some (Value.int z)) (if_pos q).symm) (hb := fun q _ => congrArg (fun z => some (Value.int z)) (if_neg q).symm)) (fun J2 => ?_)
  refine bw_aload_n rfl rfl dw_828 ?_
  refine bw_arg (j := 1) hL (by decide) (by decide) dw_829 dw_830 dw_831 dw_832 dw_833 rfl rfl ?_
  refine bw_mM (as := [.int (scX b 1)]) (A := an_fewest (scX b 1)) (d' := 14) hg hc0 mo_X_fewest lk_Z_108 rfl rfl rfl (Nat.le_of_ble_eq_true rfl) (Nat.le_of_ble_eq_true rfl) rfl rfl (Nat.le_of_ble_eq_true rfl) dw_834 ⟨Nat.le_of_ble_eq_true rfl, Nat.le_of_ble_eq_true rfl⟩ (ms_fewest hM (x := scX b 1) (hg := fun q _ => congrArg (fun z => some (Value.int z)) (if_pos q).symm) (hb := fun q _ => congrArg (fun z => some (Value.int z)) (if_neg q).symm)) (fun I2 => ?_)
  exact bw_icmp_eq (tgt := 1228) (by decide) dw_837 (fun _ => law_end hg hL) (fun h => absurd rfl h)
theorem law_k22 {J I : Nat → Nat → Int32} (hg : gp b = 0) (hc0 : ct b = 166) (hL : scL b = 6) (hC : FRc J) (hM : FRm I) : BW l b room_1 y_law (KC, J, RC) (KM, I, RM) 842 [.ref 1000, .ref 0, .ref 166, .int (nI 0)] [] := by
  refine bw_aload_n rfl rfl dw_842 ?_
  refine bw_arg (j := 1) hL (by decide) (by decide) dw_843 dw_844 dw_845 dw_846 dw_847 rfl rfl ?_
  refine bw_arg (j := 2) hL (by decide) (by decide) dw_848 dw_849 dw_850 dw_851 dw_852 rfl rfl ?_
  refine bw_arg (j := 3) hL (by decide) (by decide) dw_853 dw_854 dw_855 dw_856 dw_857 rfl rfl ?_
  refine bw_arg (j := 4) hL (by decide) (by decide) dw_858 dw_859 dw_860 dw_861 dw_862 rfl rfl ?_
  refine bw_arg (j := 5) hL (by decide) (by decide) dw_863 dw_864 dw_865 dw_866 dw_867 rfl rfl ?_
  refine bw_mC (as := [.int (scX b 1), .int (scX b 2), .int (scX b 3), .int (scX b 4), .int (scX b 5)]) (A := an_thought (scX b 1) (scX b 2) (scX b 3) (scX b 4) (scX b 5)) (d' := 14) hg hc0 mo_S_thought lk_Z_109 rfl rfl (Nat.le_of_ble_eq_true rfl) (Nat.le_of_ble_eq_true rfl) rfl rfl (Nat.le_of_ble_eq_true rfl) dw_868 ⟨Nat.le_of_ble_eq_true rfl, Nat.le_of_ble_eq_true rfl⟩ (cs_thought hC (x := scX b 1) (z := scX b 2) (u := scX b 3) (v := scX b 4) (c := scX b 5) (he := fun q _ => congrArg (fun z => some (Value.int z)) (Eq.symm (by unfold an_thought; rw [if_pos q]))) (hz := fun q _ => congrArg (fun z => some (Value.int z)) (Eq.symm (by unfold an_thought; rw [if_neg (by omega)]; rw [if_pos q]))) (hb := fun q _ => congrArg (fun z => some (Value.int z)) (Eq.symm (by unfold an_thought; rw [if_neg (by omega)]; rw [if_neg (by omega)])))) (fun J2 => ?_)
  refine bw_aload_n rfl rfl dw_871 ?_
  refine bw_arg (j := 1) hL (by decide) (by decide) dw_872 dw_873 dw_874 dw_875 dw_876 rfl rfl ?_
  refine bw_arg (j := 2) hL (by decide) (by decide) dw_877 dw_878 dw_879 dw_880 dw_881 rfl rfl ?_
  refine bw_arg (j := 3) hL (by decide) (by decide) dw_882 dw_883 dw_884 dw_885 dw_886 rfl rfl ?_
  refine bw_arg (j := 4) hL (by decide) (by decide) dw_887 dw_888 dw_889 dw_890 dw_891 rfl rfl ?_
  refine bw_arg (j := 5) hL (by decide) (by decide) dw_892 dw_893 dw_894 dw_895 dw_896 rfl rfl ?_
  refine bw_mM (as := [.int (scX b 1), .int (scX b 2), .int (scX b 3), .int (scX b 4), .int (scX b 5)]) (A := an_thought (scX b 1) (scX b 2) (scX b 3) (scX b 4) (scX b 5)) (d' := 14) hg hc0 mo_X_thought lk_Z_112 rfl rfl rfl (Nat.le_of_ble_eq_true rfl) (Nat.le_of_ble_eq_true rfl) rfl rfl (Nat.le_of_ble_eq_true rfl) dw_897 ⟨Nat.le_of_ble_eq_true rfl, Nat.le_of_ble_eq_true rfl⟩ (ms_thought hM (x := scX b 1) (z := scX b 2) (u := scX b 3) (v := scX b 4) (c := scX b 5) (he := fun q _ => congrArg (fun z => some (Value.int z)) (Eq.symm (by unfold an_thought; rw [if_pos q]))) (hz := fun q _ => congrArg (fun z => some (Value.int z)) (Eq.symm (by unfold an_thought; rw [if_neg (by omega)]; rw [if_pos q]))) (hb := fun q _ => congrArg (fun z => some (Value.int z)) (Eq.symm (by unfold an_thought; rw [if_neg (by omega)]; rw [if_neg (by omega)])))) (fun I2 => ?_)
  exact bw_icmp_eq (tgt := 1228) (by decide) dw_900 (fun _ => law_end hg hL) (fun h => absurd rfl h)
theorem law_k23 {J I : Nat → Nat → Int32} (hg : gp b = 0) (hc0 : ct b = 166) (hL : scL b = 6) (hC : FRc J) (hM : FRm I) : BW l b room_1 y_law (KC, J, RC) (KM, I, RM) 905 [.ref 1000, .ref 0, .ref 166, .int (nI 0)] [] := by
  refine bw_aload_n rfl rfl dw_905 ?_
  refine bw_arg (j := 1) hL (by decide) (by decide) dw_906 dw_907 dw_908 dw_909 dw_910 rfl rfl ?_
  refine bw_arg (j := 2) hL (by decide) (by decide) dw_911 dw_912 dw_913 dw_914 dw_915 rfl rfl ?_
  refine bw_mC (as := [.int (scX b 1), .int (scX b 2)]) (A := an_price (scX b 1) (scX b 2)) (d' := 14) hg hc0 mo_S_price lk_Z_113 rfl rfl (Nat.le_of_ble_eq_true rfl) (Nat.le_of_ble_eq_true rfl) rfl rfl (Nat.le_of_ble_eq_true rfl) dw_916 ⟨Nat.le_of_ble_eq_true rfl, Nat.le_of_ble_eq_true rfl⟩ (cs_price hC (x := scX b 1) (z := scX b 2) (hg := fun q _ => congrArg (fun z => some (Value.int z)) (if_pos q).symm) (hb := fun q _ => congrArg (fun z => some (Value.int z)) (if_neg q).symm)) (fun J2 => ?_)
  refine bw_aload_n rfl rfl dw_919 ?_
  refine bw_arg (j := 1) hL (by decide) (by decide) dw_920 dw_921 dw_922 dw_923 dw_924 rfl rfl ?_
  refine bw_arg (j := 2) hL (by decide) (by decide) dw_925 dw_926 dw_927 dw_928 dw_929 rfl rfl ?_
  refine bw_mM (as := [.int (scX b 1), .int (scX b 2)]) (A := an_price (scX b 1) (scX b 2)) (d' := 14) hg hc0 mo_X_price lk_Z_116 rfl rfl rfl (Nat.le_of_ble_eq_true rfl) (Nat.le_of_ble_eq_true rfl) rfl rfl (Nat.le_of_ble_eq_true rfl) dw_930 ⟨Nat.le_of_ble_eq_true rfl, Nat.le_of_ble_eq_true rfl⟩ (ms_price hM (x := scX b 1) (z := scX b 2) (hg := fun q _ => congrArg (fun z => some (Value.int z)) (if_pos q).symm) (hb := fun q _ => congrArg (fun z => some (Value.int z)) (if_neg q).symm)) (fun I2 => ?_)
  exact bw_icmp_eq (tgt := 1228) (by decide) dw_933 (fun _ => law_end hg hL) (fun h => absurd rfl h)
theorem law_k24 {J I : Nat → Nat → Int32} (hg : gp b = 0) (hc0 : ct b = 166) (hL : scL b = 6) (hC : FRc J) (hM : FRm I) : BW l b room_1 y_law (KC, J, RC) (KM, I, RM) 938 [.ref 1000, .ref 0, .ref 166, .int (nI 0)] [] := by
  refine bw_aload_n rfl rfl dw_938 ?_
  refine bw_arg (j := 1) hL (by decide) (by decide) dw_939 dw_940 dw_941 dw_942 dw_943 rfl rfl ?_
  refine bw_arg (j := 2) hL (by decide) (by decide) dw_944 dw_945 dw_946 dw_947 dw_948 rfl rfl ?_
  refine bw_mC (as := [.int (scX b 1), .int (scX b 2)]) (A := an_till (scX b 1) (scX b 2)) (d' := 14) hg hc0 mo_S_till lk_Z_117 rfl rfl (Nat.le_of_ble_eq_true rfl) (Nat.le_of_ble_eq_true rfl) rfl rfl (Nat.le_of_ble_eq_true rfl) dw_949 ⟨Nat.le_of_ble_eq_true rfl, Nat.le_of_ble_eq_true rfl⟩ (cs_till hC (x := scX b 1) (z := scX b 2) (hK := fun _ => rfl)) (fun J2 => ?_)
  refine bw_aload_n rfl rfl dw_952 ?_
  refine bw_arg (j := 1) hL (by decide) (by decide) dw_953 dw_954 dw_955 dw_956 dw_957 rfl rfl ?_
  refine bw_arg (j := 2) hL (by decide) (by decide) dw_958 dw_959 dw_960 dw_961 dw_962 rfl rfl ?_
  refine bw_mM (as := [.int (scX b 1), .int (scX b 2)]) (A := an_till (scX b 1) (scX b 2)) (d' := 14) hg hc0 mo_X_till lk_Z_120 rfl rfl rfl (Nat.le_of_ble_eq_true rfl) (Nat.le_of_ble_eq_true rfl) rfl rfl (Nat.le_of_ble_eq_true rfl) dw_963 ⟨Nat.le_of_ble_eq_true rfl, Nat.le_of_ble_eq_true rfl⟩ (ms_till hM (x := scX b 1) (z := scX b 2) (hK := fun _ => rfl)) (fun I2 => ?_)
  exact bw_icmp_eq (tgt := 1228) (by decide) dw_966 (fun _ => law_end hg hL) (fun h => absurd rfl h)
theorem law_k25 {J I : Nat → Nat → Int32} (hg : gp b = 0) (hc0 : ct b = 166) (hL : scL b = 6) (hC : FRc J) (hM : FRm I) : BW l b room_1 y_law (KC, J, RC) (KM, I, RM) 971 [.ref 1000, .ref 0, .ref 166, .int (nI 0)] [] := by
  refine bw_aload_n rfl rfl dw_971 ?_
  refine bw_arg (j := 1) hL (by decide) (by decide) dw_972 dw_973 dw_974 dw_975 dw_976 rfl rfl ?_
  refine bw_arg (j := 2) hL (by decide) (by decide) dw_977 dw_978 dw_979 dw_980 dw_981 rfl rfl ?_
  refine bw_arg (j := 3) hL (by decide) (by decide) dw_982 dw_983 dw_984 dw_985 dw_986 rfl rfl ?_
  refine bw_arg (j := 4) hL (by decide) (by decide) dw_987 dw_988 dw_989 dw_990 dw_991 rfl rfl ?_
  refine bw_arg (j := 5) hL (by decide) (by decide) dw_992 dw_993 dw_994 dw_995 dw_996 rfl rfl ?_
  refine bw_mC (as := [.int (scX b 1), .int (scX b 2), .int (scX b 3), .int (scX b 4), .int (scX b 5)]) (A := an_together (scX b 1) (scX b 2) (scX b 3) (scX b 4) (scX b 5)) (d' := 14) hg hc0 mo_S_together lk_Z_121 rfl rfl (Nat.le_of_ble_eq_true rfl) (Nat.le_of_ble_eq_true rfl) rfl rfl (Nat.le_of_ble_eq_true rfl) dw_997 ⟨Nat.le_of_ble_eq_true rfl, Nat.le_of_ble_eq_true rfl⟩ (cs_together hC (x := scX b 1) (z := scX b 2) (u := scX b 3) (v := scX b 4) (c := scX b 5) (hK := fun _ => rfl)) (fun J2 => ?_)
  refine bw_aload_n rfl rfl dw_1000 ?_
  refine bw_arg (j := 1) hL (by decide) (by decide) dw_1001 dw_1002 dw_1003 dw_1004 dw_1005 rfl rfl ?_
  refine bw_arg (j := 2) hL (by decide) (by decide) dw_1006 dw_1007 dw_1008 dw_1009 dw_1010 rfl rfl ?_
  refine bw_arg (j := 3) hL (by decide) (by decide) dw_1011 dw_1012 dw_1013 dw_1014 dw_1015 rfl rfl ?_
  refine bw_arg (j := 4) hL (by decide) (by decide) dw_1016 dw_1017 dw_1018 dw_1019 dw_1020 rfl rfl ?_
  refine bw_arg (j := 5) hL (by decide) (by decide) dw_1021 dw_1022 dw_1023 dw_1024 dw_1025 rfl rfl ?_
  refine bw_mM (as := [.int (scX b 1), .int (scX b 2), .int (scX b 3), .int (scX b 4), .int (scX b 5)]) (A := an_together (scX b 1) (scX b 2) (scX b 3) (scX b 4) (scX b 5)) (d' := 14) hg hc0 mo_X_together lk_Z_124 rfl rfl rfl (Nat.le_of_ble_eq_true rfl) (Nat.le_of_ble_eq_true rfl) rfl rfl (Nat.le_of_ble_eq_true rfl) dw_1026 ⟨Nat.le_of_ble_eq_true rfl, Nat.le_of_ble_eq_true rfl⟩ (ms_together hM (x := scX b 1) (z := scX b 2) (u := scX b 3) (v := scX b 4) (c := scX b 5) (hK := fun _ => rfl)) (fun I2 => ?_)
  exact bw_icmp_eq (tgt := 1228) (by decide) dw_1029 (fun _ => law_end hg hL) (fun h => absurd rfl h)
theorem law_k26 {J I : Nat → Nat → Int32} (hg : gp b = 0) (hc0 : ct b = 166) (hL : scL b = 6) (hC : FRc J) (hM : FRm I) : BW l b room_1 y_law (KC, J, RC) (KM, I, RM) 1034 [.ref 1000, .ref 0, .ref 166, .int (nI 0)] [] := by
  refine bw_aload_n rfl rfl dw_1034 ?_
  refine bw_arg (j := 1) hL (by decide) (by decide) dw_1035 dw_1036 dw_1037 dw_1038 dw_1039 rfl rfl ?_
  refine bw_mC (as := [.int (scX b 1)]) (A := an_needed (scX b 1)) (d' := 14) hg hc0 mo_S_needed lk_Z_125 rfl rfl (Nat.le_of_ble_eq_true rfl) (Nat.le_of_ble_eq_true rfl) rfl rfl (Nat.le_of_ble_eq_true rfl) dw_1040 ⟨Nat.le_of_ble_eq_true rfl, Nat.le_of_ble_eq_true rfl⟩ (cs_needed hC (x := scX b 1) (hg := fun q _ => congrArg (fun z => some (Value.int z)) (if_pos q).symm) (hb := fun q _ => congrArg (fun z => some (Value.int z)) (if_neg q).symm)) (fun J2 => ?_)
  refine bw_aload_n rfl rfl dw_1043 ?_
  refine bw_arg (j := 1) hL (by decide) (by decide) dw_1044 dw_1045 dw_1046 dw_1047 dw_1048 rfl rfl ?_
  refine bw_mM (as := [.int (scX b 1)]) (A := an_needed (scX b 1)) (d' := 14) hg hc0 mo_X_needed lk_Z_128 rfl rfl rfl (Nat.le_of_ble_eq_true rfl) (Nat.le_of_ble_eq_true rfl) rfl rfl (Nat.le_of_ble_eq_true rfl) dw_1049 ⟨Nat.le_of_ble_eq_true rfl, Nat.le_of_ble_eq_true rfl⟩ (ms_needed hM (x := scX b 1) (hg := fun q _ => congrArg (fun z => some (Value.int z)) (if_pos q).symm) (hb := fun q _ => congrArg (fun z => some (Value.int z)) (if_neg q).symm)) (fun I2 => ?_)
  exact bw_icmp_eq (tgt := 1228) (by decide) dw_1052 (fun _ => law_end hg hL) (fun h => absurd rfl h)
theorem law_k27 {J I : Nat → Nat → Int32} (hg : gp b = 0) (hc0 : ct b = 166) (hL : scL b = 6) (hC : FRc J) (hM : FRm I) : BW l b room_1 y_law (KC, J, RC) (KM, I, RM) 1057 [.ref 1000, .ref 0, .ref 166, .int (nI 0)] [] := by
  refine bw_aload_n rfl rfl dw_1057 ?_
  refine bw_arg (j := 1) hL (by decide) (by decide) dw_1058 dw_1059 dw_1060 dw_1061 dw_1062 rfl rfl ?_
  refine bw_arg (j := 2) hL (by decide) (by decide) dw_1063 dw_1064 dw_1065 dw_1066 dw_1067 rfl rfl ?_
  refine bw_mC (as := [.int (scX b 1), .int (scX b 2)]) (A := an_past (scX b 1) (scX b 2)) (d' := 14) hg hc0 mo_S_past lk_Z_129 rfl rfl (Nat.le_of_ble_eq_true rfl) (Nat.le_of_ble_eq_true rfl) rfl rfl (Nat.le_of_ble_eq_true rfl) dw_1068 ⟨Nat.le_of_ble_eq_true rfl, Nat.le_of_ble_eq_true rfl⟩ (cs_past hC (x := scX b 1) (z := scX b 2) (hK := fun _ => rfl)) (fun J2 => ?_)
  refine bw_aload_n rfl rfl dw_1071 ?_
  refine bw_arg (j := 1) hL (by decide) (by decide) dw_1072 dw_1073 dw_1074 dw_1075 dw_1076 rfl rfl ?_
  refine bw_arg (j := 2) hL (by decide) (by decide) dw_1077 dw_1078 dw_1079 dw_1080 dw_1081 rfl rfl ?_
  refine bw_mM (as := [.int (scX b 1), .int (scX b 2)]) (A := an_past (scX b 1) (scX b 2)) (d' := 14) hg hc0 mo_X_past lk_Z_132 rfl rfl rfl (Nat.le_of_ble_eq_true rfl) (Nat.le_of_ble_eq_true rfl) rfl rfl (Nat.le_of_ble_eq_true rfl) dw_1082 ⟨Nat.le_of_ble_eq_true rfl, Nat.le_of_ble_eq_true rfl⟩ (ms_past hM (x := scX b 1) (z := scX b 2) (hK := fun _ => rfl)) (fun I2 => ?_)
  exact bw_icmp_eq (tgt := 1228) (by decide) dw_1085 (fun _ => law_end hg hL) (fun h => absurd rfl h)
theorem law_k28 {J I : Nat → Nat → Int32} (hg : gp b = 0) (hc0 : ct b = 166) (hL : scL b = 6) (hC : FRc J) (hM : FRm I) : BW l b room_1 y_law (KC, J, RC) (KM, I, RM) 1090 [.ref 1000, .ref 0, .ref 166, .int (nI 0)] [] := by
  refine bw_aload_n rfl rfl dw_1090 ?_
  refine bw_arg (j := 1) hL (by decide) (by decide) dw_1091 dw_1092 dw_1093 dw_1094 dw_1095 rfl rfl ?_
  refine bw_arg (j := 2) hL (by decide) (by decide) dw_1096 dw_1097 dw_1098 dw_1099 dw_1100 rfl rfl ?_
  refine bw_mC (as := [.int (scX b 1), .int (scX b 2)]) (A := an_which (scX b 1) (scX b 2)) (d' := 14) hg hc0 mo_S_which lk_Z_133 rfl rfl (Nat.le_of_ble_eq_true rfl) (Nat.le_of_ble_eq_true rfl) rfl rfl (Nat.le_of_ble_eq_true rfl) dw_1101 ⟨Nat.le_of_ble_eq_true rfl, Nat.le_of_ble_eq_true rfl⟩ (cs_which hC (x := scX b 1) (z := scX b 2) (he := fun q _ => congrArg (fun z => some (Value.int z)) (Eq.symm (by unfold an_which; rw [if_pos q]))) (hz := fun q _ => congrArg (fun z => some (Value.int z)) (Eq.symm (by unfold an_which; rw [if_neg (by omega)]; rw [if_pos q]))) (hb := fun q _ => congrArg (fun z => some (Value.int z)) (Eq.symm (by unfold an_which; rw [if_neg (by omega)]; rw [if_neg (by omega)])))) (fun J2 => ?_)
  refine bw_aload_n rfl rfl dw_1104 ?_
  refine bw_arg (j := 1) hL (by decide) (by decide) dw_1105 dw_1106 dw_1107 dw_1108 dw_1109 rfl rfl ?_
  refine bw_arg (j := 2) hL (by decide) (by decide) dw_1110 dw_1111 dw_1112 dw_1113 dw_1114 rfl rfl ?_
  refine bw_mM (as := [.int (scX b 1), .int (scX b 2)]) (A := an_which (scX b 1) (scX b 2)) (d' := 14) hg hc0 mo_X_which lk_Z_136 rfl rfl rfl (Nat.le_of_ble_eq_true rfl) (Nat.le_of_ble_eq_true rfl) rfl rfl (Nat.le_of_ble_eq_true rfl) dw_1115 ⟨Nat.le_of_ble_eq_true rfl, Nat.le_of_ble_eq_true rfl⟩ (ms_which hM (x := scX b 1) (z := scX b 2) (he := fun q _ => congrArg (fun z => some (Value.int z)) (Eq.symm (by unfold an_which; rw [if_pos q]))) (hz := fun q _ => congrArg (fun z => some (Value.int z)) (Eq.symm (by unfold an_which; rw [if_neg (by omega)]; rw [if_pos q]))) (hb := fun q _ => congrArg (fun z => some (Value.int z)) (Eq.symm (by unfold an_which; rw [if_neg (by omega)]; rw [if_neg (by omega)])))) (fun I2 => ?_)
  exact bw_icmp_eq (tgt := 1228) (by decide) dw_1118 (fun _ => law_end hg hL) (fun h => absurd rfl h)
theorem law_k29 {J I : Nat → Nat → Int32} (hg : gp b = 0) (hc0 : ct b = 166) (hL : scL b = 6) (hC : FRc J) (hM : FRm I) : BW l b room_1 y_law (KC, J, RC) (KM, I, RM) 1123 [.ref 1000, .ref 0, .ref 166, .int (nI 0)] [] := by
  refine bw_aload_n rfl rfl dw_1123 ?_
  refine bw_arg (j := 1) hL (by decide) (by decide) dw_1124 dw_1125 dw_1126 dw_1127 dw_1128 rfl rfl ?_
  refine bw_arg (j := 2) hL (by decide) (by decide) dw_1129 dw_1130 dw_1131 dw_1132 dw_1133 rfl rfl ?_
  refine bw_arg (j := 3) hL (by decide) (by decide) dw_1134 dw_1135 dw_1136 dw_1137 dw_1138 rfl rfl ?_
  refine bw_mC (as := [.int (scX b 1), .int (scX b 2), .int (scX b 3)]) (A := an_folded (scX b 1) (scX b 2) (scX b 3)) (d' := 14) hg hc0 mo_S_folded lk_Z_137 rfl rfl (Nat.le_of_ble_eq_true rfl) (Nat.le_of_ble_eq_true rfl) rfl rfl (Nat.le_of_ble_eq_true rfl) dw_1139 ⟨Nat.le_of_ble_eq_true rfl, Nat.le_of_ble_eq_true rfl⟩ (cs_folded hC (x := scX b 1) (z := scX b 2) (u := scX b 3) (hg := fun q _ => congrArg (fun z => some (Value.int z)) (if_pos q).symm) (hb := fun q _ => congrArg (fun z => some (Value.int z)) (if_neg q).symm)) (fun J2 => ?_)
  refine bw_aload_n rfl rfl dw_1142 ?_
  refine bw_arg (j := 1) hL (by decide) (by decide) dw_1143 dw_1144 dw_1145 dw_1146 dw_1147 rfl rfl ?_
  refine bw_arg (j := 2) hL (by decide) (by decide) dw_1148 dw_1149 dw_1150 dw_1151 dw_1152 rfl rfl ?_
  refine bw_arg (j := 3) hL (by decide) (by decide) dw_1153 dw_1154 dw_1155 dw_1156 dw_1157 rfl rfl ?_
  refine bw_mM (as := [.int (scX b 1), .int (scX b 2), .int (scX b 3)]) (A := an_folded (scX b 1) (scX b 2) (scX b 3)) (d' := 14) hg hc0 mo_X_folded lk_Z_140 rfl rfl rfl (Nat.le_of_ble_eq_true rfl) (Nat.le_of_ble_eq_true rfl) rfl rfl (Nat.le_of_ble_eq_true rfl) dw_1158 ⟨Nat.le_of_ble_eq_true rfl, Nat.le_of_ble_eq_true rfl⟩ (ms_folded hM (x := scX b 1) (z := scX b 2) (u := scX b 3) (hg := fun q _ => congrArg (fun z => some (Value.int z)) (if_pos q).symm) (hb := fun q _ => congrArg (fun z => some (Value.int z)) (if_neg q).symm)) (fun I2 => ?_)
  exact bw_icmp_eq (tgt := 1228) (by decide) dw_1161 (fun _ => law_end hg hL) (fun h => absurd rfl h)
theorem law_k30 {J I : Nat → Nat → Int32} (hg : gp b = 0) (hc0 : ct b = 166) (hL : scL b = 6) (hC : FRc J) (hM : FRm I) : BW l b room_1 y_law (KC, J, RC) (KM, I, RM) 1166 [.ref 1000, .ref 0, .ref 166, .int (nI 0)] [] := by
  refine bw_aload_n rfl rfl dw_1166 ?_
  refine bw_arg (j := 1) hL (by decide) (by decide) dw_1167 dw_1168 dw_1169 dw_1170 dw_1171 rfl rfl ?_
  refine bw_if_eq (tgt := 1179) (by decide) dw_1172 (fun e => ?_) (fun e => ?_)
  · refine bw_iconst (v := nI 0) (by decide) dw_1179 ?_
    refine bw_mC (as := [.int (nI 0)]) (A := an_image_0) (d' := 14) hg hc0 mo_S_image lk_Z_141 rfl rfl (Nat.le_of_ble_eq_true rfl) (Nat.le_of_ble_eq_true rfl) rfl rfl (Nat.le_of_ble_eq_true rfl) dw_1180 ⟨Nat.le_of_ble_eq_true rfl, Nat.le_of_ble_eq_true rfl⟩ (cs_image_0 hC (hK := fun _ => rfl)) (fun J2 => ?_)
    refine bw_aload_n rfl rfl dw_1183 ?_
    refine bw_arg (j := 1) hL (by decide) (by decide) dw_1184 dw_1185 dw_1186 dw_1187 dw_1188 rfl rfl ?_
    refine bw_if_eq (tgt := 1196) (by decide) dw_1189 (fun e2 => ?_) (fun e2 => ?_)
    · refine bw_iconst (v := nI 0) (by decide) dw_1196 ?_
      refine bw_mM (as := [.int (nI 0)]) (A := an_image_0) (d' := 14) hg hc0 mo_X_image lk_Z_145 rfl rfl rfl (Nat.le_of_ble_eq_true rfl) (Nat.le_of_ble_eq_true rfl) rfl rfl (Nat.le_of_ble_eq_true rfl) dw_1197 ⟨Nat.le_of_ble_eq_true rfl, Nat.le_of_ble_eq_true rfl⟩ (ms_image_0 hM (hK := fun _ => rfl)) (fun I2 => ?_)
      exact bw_icmp_eq (tgt := 1228) (by decide) dw_1200 (fun _ => law_end hg hL) (fun h => absurd rfl h)
    · exact absurd e e2
  · refine bw_iconst (v := nI 1) (by decide) dw_1175 ?_
    refine bw_goto (tgt := 1180) (by decide) dw_1176 ?_
    refine bw_mC (as := [.int (nI 1)]) (A := an_image_1) (d' := 14) hg hc0 mo_S_image lk_Z_141 rfl rfl (Nat.le_of_ble_eq_true rfl) (Nat.le_of_ble_eq_true rfl) rfl rfl (Nat.le_of_ble_eq_true rfl) dw_1180 ⟨Nat.le_of_ble_eq_true rfl, Nat.le_of_ble_eq_true rfl⟩ (cs_image_1 hC (hK := fun _ => rfl)) (fun J2 => ?_)
    refine bw_aload_n rfl rfl dw_1183 ?_
    refine bw_arg (j := 1) hL (by decide) (by decide) dw_1184 dw_1185 dw_1186 dw_1187 dw_1188 rfl rfl ?_
    refine bw_if_eq (tgt := 1196) (by decide) dw_1189 (fun e2 => ?_) (fun e2 => ?_)
    · exact absurd e2 e
    · refine bw_iconst (v := nI 1) (by decide) dw_1192 ?_
      refine bw_goto (tgt := 1197) (by decide) dw_1193 ?_
      refine bw_mM (as := [.int (nI 1)]) (A := an_image_1) (d' := 14) hg hc0 mo_X_image lk_Z_145 rfl rfl rfl (Nat.le_of_ble_eq_true rfl) (Nat.le_of_ble_eq_true rfl) rfl rfl (Nat.le_of_ble_eq_true rfl) dw_1197 ⟨Nat.le_of_ble_eq_true rfl, Nat.le_of_ble_eq_true rfl⟩ (ms_image_1 hM (hK := fun _ => rfl)) (fun I2 => ?_)
      exact bw_icmp_eq (tgt := 1228) (by decide) dw_1200 (fun _ => law_end hg hL) (fun h => absurd rfl h)
theorem law_k31 {J I : Nat → Nat → Int32} (hg : gp b = 0) (hc0 : ct b = 166) (hL : scL b = 6) (hC : FRc J) (hM : FRm I) : BW l b room_1 y_law (KC, J, RC) (KM, I, RM) 1205 [.ref 1000, .ref 0, .ref 166, .int (nI 0)] [] := by
  refine bw_aload_n rfl rfl dw_1205 ?_
  refine bw_arg (j := 1) hL (by decide) (by decide) dw_1206 dw_1207 dw_1208 dw_1209 dw_1210 rfl rfl ?_
  refine bw_mC (as := [.int (scX b 1)]) (A := an_told (scX b 1)) (d' := 14) hg hc0 mo_S_told lk_Z_146 rfl rfl (Nat.le_of_ble_eq_true rfl) (Nat.le_of_ble_eq_true rfl) rfl rfl (Nat.le_of_ble_eq_true rfl) dw_1211 ⟨Nat.le_of_ble_eq_true rfl, Nat.le_of_ble_eq_true rfl⟩ (cs_told hC (x := scX b 1) (t0 := fun q _ => congrArg (fun z => some (Value.int z)) (Eq.symm (by unfold an_told; rw [if_pos q]))) (t1' := fun q _ => congrArg (fun z => some (Value.int z)) (Eq.symm (by unfold an_told; rw [if_neg (by omega)]; rw [if_pos q]))) (t2' := fun q _ => congrArg (fun z => some (Value.int z)) (Eq.symm (by unfold an_told; rw [if_neg (by omega)]; rw [if_neg (by omega)]; rw [if_pos q]))) (tz := fun q _ => congrArg (fun z => some (Value.int z)) (Eq.symm (by unfold an_told; rw [if_neg (by omega)]; rw [if_neg (by omega)]; rw [if_neg (by omega)]; rw [if_pos q]))) (tb := fun q _ => congrArg (fun z => some (Value.int z)) (Eq.symm (by unfold an_told; rw [if_neg (by omega)]; rw [if_neg (by omega)]; rw [if_neg (by omega)]; rw [if_neg (by omega)])))) (fun J2 => ?_)
  refine bw_aload_n rfl rfl dw_1214 ?_
  refine bw_arg (j := 1) hL (by decide) (by decide) dw_1215 dw_1216 dw_1217 dw_1218 dw_1219 rfl rfl ?_
  refine bw_mM (as := [.int (scX b 1)]) (A := an_told (scX b 1)) (d' := 14) hg hc0 mo_X_told lk_Z_149 rfl rfl rfl (Nat.le_of_ble_eq_true rfl) (Nat.le_of_ble_eq_true rfl) rfl rfl (Nat.le_of_ble_eq_true rfl) dw_1220 ⟨Nat.le_of_ble_eq_true rfl, Nat.le_of_ble_eq_true rfl⟩ (ms_told hM (x := scX b 1) (t0 := fun q _ => congrArg (fun z => some (Value.int z)) (Eq.symm (by unfold an_told; rw [if_pos q]))) (t1' := fun q _ => congrArg (fun z => some (Value.int z)) (Eq.symm (by unfold an_told; rw [if_neg (by omega)]; rw [if_pos q]))) (t2' := fun q _ => congrArg (fun z => some (Value.int z)) (Eq.symm (by unfold an_told; rw [if_neg (by omega)]; rw [if_neg (by omega)]; rw [if_pos q]))) (tz := fun q _ => congrArg (fun z => some (Value.int z)) (Eq.symm (by unfold an_told; rw [if_neg (by omega)]; rw [if_neg (by omega)]; rw [if_neg (by omega)]; rw [if_pos q]))) (tb := fun q _ => congrArg (fun z => some (Value.int z)) (Eq.symm (by unfold an_told; rw [if_neg (by omega)]; rw [if_neg (by omega)]; rw [if_neg (by omega)]; rw [if_neg (by omega)])))) (fun I2 => ?_)
  exact bw_icmp_eq (tgt := 1228) (by decide) dw_1223 (fun _ => law_end hg hL) (fun h => absurd rfl h)
theorem law_turn {J I : Nat → Nat → Int32} (hg : gp b = 0) (hc0 : ct b = 166) (hL : scL b = 6) (hC : FRc J) (hM : FRm I) : BW l b room_1 y_law (KC, J, RC) (KM, I, RM) 27 [.ref 1000, .ref 0, .ref 166, .int (nI 0)] [] := by
  refine bw_aload_n rfl rfl dw_27 ?_
  refine bw_iload_n rfl rfl dw_28 ?_
  refine bw_ialdS (j := 0) (by rw [hL]; unfold vp_in; decide) (by decide) dw_29 ?_
  refine bw_bipush (v := 31) (by decide) dw_30 ?_
  refine bw_iand dw_32 ?_
  obtain ⟨j, hj, hx⟩ := and31 (scX b 0)
  rcases cases32 hj with rfl | rfl | rfl | rfl | rfl | rfl | rfl | rfl | rfl | rfl | rfl | rfl | rfl | rfl | rfl | rfl | rfl | rfl | rfl | rfl | rfl | rfl | rfl | rfl | rfl | rfl | rfl | rfl | rfl | rfl | rfl | rfl
  · exact bw_tabInI 0 hx (by decide) rfl (tgt := 176) (by decide) dw_33 (law_k0 hg hc0 hL hC hM)
  · exact bw_tabInI 1 hx (by decide) rfl (tgt := 199) (by decide) dw_33 (law_k1 hg hc0 hL hC hM)
  · exact bw_tabInI 2 hx (by decide) rfl (tgt := 232) (by decide) dw_33 (law_k2 hg hc0 hL hC hM)
  · exact bw_tabInI 3 hx (by decide) rfl (tgt := 265) (by decide) dw_33 (law_k3 hg hc0 hL hC hM)
  · exact bw_tabInI 4 hx (by decide) rfl (tgt := 298) (by decide) dw_33 (law_k4 hg hc0 hL hC hM)
  · exact bw_tabInI 5 hx (by decide) rfl (tgt := 361) (by decide) dw_33 (law_k5 hg hc0 hL hC hM)
  · exact bw_tabInI 6 hx (by decide) rfl (tgt := 424) (by decide) dw_33 (law_k6 hg hc0 hL hC hM)
  · exact bw_tabInI 7 hx (by decide) rfl (tgt := 447) (by decide) dw_33 (law_k7 hg hc0 hL hC hM)
  · exact bw_tabInI 8 hx (by decide) rfl (tgt := 470) (by decide) dw_33 (law_k8 hg hc0 hL hC hM)
  · exact bw_tabInI 9 hx (by decide) rfl (tgt := 493) (by decide) dw_33 (law_k9 hg hc0 hL hC hM)
  · exact bw_tabInI 10 hx (by decide) rfl (tgt := 536) (by decide) dw_33 (law_k10 hg hc0 hL hC hM)
  · exact bw_tabInI 11 hx (by decide) rfl (tgt := 579) (by decide) dw_33 (law_k11 hg hc0 hL hC hM)
  · exact bw_tabInI 12 hx (by decide) rfl (tgt := 612) (by decide) dw_33 (law_k12 hg hc0 hL hC hM)
  · exact bw_tabInI 13 hx (by decide) rfl (tgt := 645) (by decide) dw_33 (law_k13 hg hc0 hL hC hM)
  · exact bw_tabInI 14 hx (by decide) rfl (tgt := 658) (by decide) dw_33 (law_k14 hg hc0 hL hC hM)
  · exact bw_tabInI 15 hx (by decide) rfl (tgt := 671) (by decide) dw_33 (law_k15 hg hc0 hL hC hM)
  · exact bw_tabInI 16 hx (by decide) rfl (tgt := 694) (by decide) dw_33 (law_k16 hg hc0 hL hC hM)
  · exact bw_tabInI 17 hx (by decide) rfl (tgt := 717) (by decide) dw_33 (law_k17 hg hc0 hL hC hM)
  · exact bw_tabInI 18 hx (by decide) rfl (tgt := 740) (by decide) dw_33 (law_k18 hg hc0 hL hC hM)
  · exact bw_tabInI 19 hx (by decide) rfl (tgt := 763) (by decide) dw_33 (law_k19 hg hc0 hL hC hM)
  · exact bw_tabInI 20 hx (by decide) rfl (tgt := 786) (by decide) dw_33 (law_k20 hg hc0 hL hC hM)
  · exact bw_tabInI 21 hx (by decide) rfl (tgt := 819) (by decide) dw_33 (law_k21 hg hc0 hL hC hM)
  · exact bw_tabInI 22 hx (by decide) rfl (tgt := 842) (by decide) dw_33 (law_k22 hg hc0 hL hC hM)
  · exact bw_tabInI 23 hx (by decide) rfl (tgt := 905) (by decide) dw_33 (law_k23 hg hc0 hL hC hM)
  · exact bw_tabInI 24 hx (by decide) rfl (tgt := 938) (by decide) dw_33 (law_k24 hg hc0 hL hC hM)
  · exact bw_tabInI 25 hx (by decide) rfl (tgt := 971) (by decide) dw_33 (law_k25 hg hc0 hL hC hM)
  · exact bw_tabInI 26 hx (by decide) rfl (tgt := 1034) (by decide) dw_33 (law_k26 hg hc0 hL hC hM)
  · exact bw_tabInI 27 hx (by decide) rfl (tgt := 1057) (by decide) dw_33 (law_k27 hg hc0 hL hC hM)
  · exact bw_tabInI 28 hx (by decide) rfl (tgt := 1090) (by decide) dw_33 (law_k28 hg hc0 hL hC hM)
  · exact bw_tabInI 29 hx (by decide) rfl (tgt := 1123) (by decide) dw_33 (law_k29 hg hc0 hL hC hM)
  · exact bw_tabInI 30 hx (by decide) rfl (tgt := 1166) (by decide) dw_33 (law_k30 hg hc0 hL hC hM)
  · exact bw_tabInI 31 hx (by decide) rfl (tgt := 1205) (by decide) dw_33 (law_k31 hg hc0 hL hC hM)
theorem law_c (hg : gp b = 0) : Sp l b (rmm 14 165 25747) y_S_init [.ref 0] ([(11, 9)], ISx WIc 0, GSx WGc 0) (fun v m' => v = none ∧ ∃ J, FRc J ∧ m' = (KC, J, RC)) := ctor_c (l := l) (b := b) hg (fun J hJ => ⟨rfl, J, hJ, rfl⟩)
theorem law_m (hg : gp b = 0) : Sp l b (rmm 14 25 32682) y_X_init [.ref 0] ([(12, 51)], ISx WIm 0, GSx WGm 0) (fun v m' => v = none ∧ ∃ J, FRm J ∧ m' = (KM, J, RM)) := ctor_m (l := l) (b := b) hg (fun J hJ => ⟨rfl, J, hJ, rfl⟩)
theorem law_all (hg : gp b = 0) (hc0 : ct b = 166) (hL : scL b ≤ 6) : BW l b room_1 y_law ([], ISx WIc 0, GSx WGc 0) ([], ISx WIm 0, GSx WGm 0) 0 [.ref 1000, uu, uu, uu] [] := by
  refine bw_new1 (ci := 8) (N := 9) (q := ("SinglesUp", zT8, 9)) rfl rfl (tw_in 115 (by decide +kernel) rfl) (tw_in 116 (by decide +kernel) rfl) (tw_in 97 (by decide +kernel) rfl) (fun _ => rfl) (fun _ => rfl) hg rfl (Nat.le_of_ble_eq_true rfl) (Nat.le_of_ble_eq_true rfl) dw_0 ?_
  refine bw_dup rfl dw_3 ?_
  refine bw_init1 (d' := 14) (mc := 165) (ms := 25747) (K' := fun v m' => v = none ∧ ∃ J, FRc J ∧ m' = (KC, J, RC)) hg rfl rfl mo_S_init lk_Z_9 (tw_in 117 (by decide +kernel) rfl) ⟨Nat.le_of_ble_eq_true rfl, Nat.le_of_ble_eq_true rfl⟩ (Nat.le_of_ble_eq_true rfl) (Nat.le_of_ble_eq_true rfl) (Nat.le_of_ble_eq_true rfl) (Nat.le_of_ble_eq_true rfl) dw_4 (law_c hg) ?_
  rintro v m' ⟨rfl, J, hC, rfl⟩
  refine ⟨rfl, len_C, sl_C, ?_⟩
  refine bw_astore_n (lv2 := [.ref 1000, .ref 0, uu, uu]) rfl (Nat.le_of_ble_eq_true rfl) rfl dw_7 ?_
  refine bw_new2 (ci := 9) (N := 51) (q := ("SinglesUpModel", zT9, 51)) rfl rfl (tw_in 1143 (by decide +kernel) rfl) (tw_in 1144 (by decide +kernel) rfl) (tw_in 108 (by decide +kernel) rfl) (fun _ => rfl) (fun _ => rfl) hg len_C (Nat.le_of_ble_eq_true rfl) (sl_C ▸ Nat.le_of_ble_eq_true rfl) dw_8 ?_
  refine bw_dup rfl dw_11 ?_
  refine bw_init2 (d' := 14) (mc := 25) (ms := 32682) (K' := fun v m' => v = none ∧ ∃ J, FRm J ∧ m' = (KM, J, RM)) hg hc0 len_C rfl mo_X_init lk_Z_12 (tw_in 1145 (by decide +kernel) rfl) ⟨Nat.le_of_ble_eq_true rfl, Nat.le_of_ble_eq_true rfl⟩ (Nat.le_of_ble_eq_true rfl) (Nat.le_of_ble_eq_true rfl) (Nat.le_of_ble_eq_true rfl) (by show sl KC + _ + _ ≤ _; rw [sl_C]; exact Nat.le_of_ble_eq_true rfl) dw_12 (law_m rfl) ?_
  rintro v m' ⟨rfl, I, hM, rfl⟩
  refine ⟨rfl, len_M, sl_M, ?_⟩
  refine bw_astore_n (lv2 := [.ref 1000, .ref 0, .ref 166, uu]) rfl (Nat.le_of_ble_eq_true rfl) rfl dw_15 ?_
  refine bw_iconst (v := nI 0) (by decide) dw_16 ?_
  refine bw_istore_n (lv2 := [.ref 1000, .ref 0, .ref 166, .int (nI 0)]) rfl (Nat.le_of_ble_eq_true rfl) rfl dw_17 ?_
  refine bw_iload_n rfl rfl dw_18 ?_
  refine bw_aload_n rfl rfl dw_19 ?_
  refine bw_alenS dw_20 ?_
  refine bw_bipush (v := nI 6) (by decide) dw_21 ?_
  refine bw_isub dw_23 ?_
  exact bw_icmp_gt (tgt := 1234) (by decide) dw_24 (fun _ => law_ret hg) (fun h => law_turn hg hc0 (lw_six hL h) hC hM)
end AMZ
