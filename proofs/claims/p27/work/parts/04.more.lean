section AMN
variable {l : Launch} {b : PB} {R : Room} {y : MI} {K : Kont} {lf sf : Nat} {m : Mem} {pc : Nat} {lv st : List Value}
theorem aw_top {x x2 : Int32} (e : x = x2) (k : AW l b R y K lf sf m pc lv (.int x2 :: st)) : AW l b R y K lf sf m pc lv (.int x :: st) := e ▸ k
theorem aw_iaddN {x z : Nat} (hd : decode y.2.1 pc = .ok (.iadd, 1)) (k : AW l b R y K lf sf m (pc + 1) lv (.int (nI (x + z)) :: st)) : AW l b R y K lf sf m pc lv (.int (nI z) :: .int (nI x) :: st) := aw_iadd hd (aw_top (nI_add x z) k)
theorem aw_imulN {x z : Nat} (hd : decode y.2.1 pc = .ok (.imul, 1)) (k : AW l b R y K lf sf m (pc + 1) lv (.int (nI (x * z)) :: st)) : AW l b R y K lf sf m pc lv (.int (nI z) :: .int (nI x) :: st) := aw_imul hd (aw_top (pk_mul x z) k)
theorem aw_isubN {x z : Nat} (h : z ≤ x) (hd : decode y.2.1 pc = .ok (.isub, 1)) (k : AW l b R y K lf sf m (pc + 1) lv (.int (nI (x - z)) :: st)) : AW l b R y K lf sf m pc lv (.int (nI z) :: .int (nI x) :: st) := aw_isub hd (aw_top (pk_sub h) k)
theorem aw_idivN {x z : Nat} (hx : x < 2 ^ 31) (h0 : 0 < z) (hz : z < 2 ^ 31) (hd : decode y.2.1 pc = .ok (.idiv, 1)) (k : AW l b R y K lf sf m (pc + 1) lv (.int (nI (x / z)) :: st)) : AW l b R y K lf sf m pc lv (.int (nI z) :: .int (nI x) :: st) := aw_idiv (nI_ne0 h0 hz) hd (aw_top (pk_div hx h0 hz) k)
theorem aw_iremN {x z : Nat} (hx : x < 2 ^ 31) (h0 : 0 < z) (hz : z < 2 ^ 31) (hd : decode y.2.1 pc = .ok (.irem, 1)) (k : AW l b R y K lf sf m (pc + 1) lv (.int (nI (x % z)) :: st)) : AW l b R y K lf sf m pc lv (.int (nI z) :: .int (nI x) :: st) := aw_irem (nI_ne0 h0 hz) hd (aw_top (pk_rem hx h0 hz) k)
theorem nI_of_range {x : Int32} {n : Nat} (h0 : 0 ≤ x.toInt) (h1 : x.toInt < n) : ∃ j : Nat, j < n ∧ x = nI j ∧ (nI j).toInt = (j : Int) := by
  have hb : x.toInt < 2 ^ 31 := Int32.toInt_lt x
  refine ⟨x.toInt.toNat, by omega, Int32.toInt_inj.mp ?_, nI_toInt (by omega)⟩
  rw [nI_toInt (by omega)]
  omega
theorem i32_lo (x : Int32) : -2147483648 ≤ x.toInt := Int32.le_toInt x
theorem i32_hi (x : Int32) : x.toInt < 2147483648 := Int32.toInt_lt x
theorem aw_icmp_eqI {x z : Int32} {off : Int} {tgt : Nat} (X Z : Int) (hX : x.toInt = X) (hZ : z.toInt = Z) (ht : (pc : Int) + off = (tgt : Int)) (hd : decode y.2.1 pc = .ok (.if_icmp .eq off, 3)) (kt : X = Z → AW l b R y K lf sf m tgt lv st) (kf : ¬ X = Z → AW l b R y K lf sf m (pc + 3) lv st) : AW l b R y K lf sf m pc lv (.int z :: .int x :: st) := aw_icmp_eq ht hd (fun q => kt (by rw [← hX, ← hZ, q])) (fun q => kf (fun e => q (Int32.toInt_inj.mp (by rw [hX, hZ, e]))))
theorem aw_if_eqI {x : Int32} {off : Int} {tgt : Nat} (X : Int) (hX : x.toInt = X) (ht : (pc : Int) + off = (tgt : Int)) (hd : decode y.2.1 pc = .ok (.ifCond .eq off, 3)) (kt : X = 0 → AW l b R y K lf sf m tgt lv st) (kf : ¬ X = 0 → AW l b R y K lf sf m (pc + 3) lv st) : AW l b R y K lf sf m pc lv (.int x :: st) := aw_if_eq ht hd (fun q => kt (by rw [← hX, q]; rfl)) (fun q => kf (fun e => q (Int32.toInt_inj.mp (by rw [hX, e]; rfl))))
theorem aw_icmp_neI {x z : Int32} {off : Int} {tgt : Nat} (X Z : Int) (hX : x.toInt = X) (hZ : z.toInt = Z) (ht : (pc : Int) + off = (tgt : Int)) (hd : decode y.2.1 pc = .ok (.if_icmp .ne off, 3)) (kt : ¬ X = Z → AW l b R y K lf sf m tgt lv st) (kf : X = Z → AW l b R y K lf sf m (pc + 3) lv st) : AW l b R y K lf sf m pc lv (.int z :: .int x :: st) := aw_icmp_ne ht hd (fun q => kt (fun e => q (Int32.toInt_inj.mp (by rw [hX, hZ, e])))) (fun q => kf (by rw [← hX, ← hZ, q]))
theorem aw_if_neI {x : Int32} {off : Int} {tgt : Nat} (X : Int) (hX : x.toInt = X) (ht : (pc : Int) + off = (tgt : Int)) (hd : decode y.2.1 pc = .ok (.ifCond .ne off, 3)) (kt : ¬ X = 0 → AW l b R y K lf sf m tgt lv st) (kf : X = 0 → AW l b R y K lf sf m (pc + 3) lv st) : AW l b R y K lf sf m pc lv (.int x :: st) := aw_if_ne ht hd (fun q => kt (fun e => q (Int32.toInt_inj.mp (by rw [hX, e]; rfl)))) (fun q => kf (by rw [← hX, q]; rfl))
theorem aw_icmp_ltI {x z : Int32} {off : Int} {tgt : Nat} (X Z : Int) (hX : x.toInt = X) (hZ : z.toInt = Z) (ht : (pc : Int) + off = (tgt : Int)) (hd : decode y.2.1 pc = .ok (.if_icmp .lt off, 3)) (kt : X < Z → AW l b R y K lf sf m tgt lv st) (kf : Z ≤ X → AW l b R y K lf sf m (pc + 3) lv st) : AW l b R y K lf sf m pc lv (.int z :: .int x :: st) := aw_icmp_lt ht hd (fun q => kt (by rw [← hX, ← hZ]; exact Int32.lt_iff_toInt_lt.mp q)) (fun q => kf (by rw [← hX, ← hZ]; exact Int.not_lt.mp (fun e => q (Int32.lt_iff_toInt_lt.mpr e))))
theorem aw_if_ltI {x : Int32} {off : Int} {tgt : Nat} (X : Int) (hX : x.toInt = X) (ht : (pc : Int) + off = (tgt : Int)) (hd : decode y.2.1 pc = .ok (.ifCond .lt off, 3)) (kt : X < 0 → AW l b R y K lf sf m tgt lv st) (kf : 0 ≤ X → AW l b R y K lf sf m (pc + 3) lv st) : AW l b R y K lf sf m pc lv (.int x :: st) := aw_if_lt ht hd (fun q => kt (by rw [← hX]; exact Int32.lt_iff_toInt_lt.mp q)) (fun q => kf (by rw [← hX]; exact Int.not_lt.mp (fun e => q (Int32.lt_iff_toInt_lt.mpr e))))
theorem aw_icmp_geI {x z : Int32} {off : Int} {tgt : Nat} (X Z : Int) (hX : x.toInt = X) (hZ : z.toInt = Z) (ht : (pc : Int) + off = (tgt : Int)) (hd : decode y.2.1 pc = .ok (.if_icmp .ge off, 3)) (kt : Z ≤ X → AW l b R y K lf sf m tgt lv st) (kf : X < Z → AW l b R y K lf sf m (pc + 3) lv st) : AW l b R y K lf sf m pc lv (.int z :: .int x :: st) := aw_icmp_ge ht hd (fun q => kt (by rw [← hX, ← hZ]; exact Int32.le_iff_toInt_le.mp q)) (fun q => kf (by rw [← hX, ← hZ]; exact Int.not_le.mp (fun e => q (Int32.le_iff_toInt_le.mpr e))))
theorem aw_if_geI {x : Int32} {off : Int} {tgt : Nat} (X : Int) (hX : x.toInt = X) (ht : (pc : Int) + off = (tgt : Int)) (hd : decode y.2.1 pc = .ok (.ifCond .ge off, 3)) (kt : 0 ≤ X → AW l b R y K lf sf m tgt lv st) (kf : X < 0 → AW l b R y K lf sf m (pc + 3) lv st) : AW l b R y K lf sf m pc lv (.int x :: st) := aw_if_ge ht hd (fun q => kt (by rw [← hX]; exact Int32.le_iff_toInt_le.mp q)) (fun q => kf (by rw [← hX]; exact Int.not_le.mp (fun e => q (Int32.le_iff_toInt_le.mpr e))))
theorem aw_icmp_gtI {x z : Int32} {off : Int} {tgt : Nat} (X Z : Int) (hX : x.toInt = X) (hZ : z.toInt = Z) (ht : (pc : Int) + off = (tgt : Int)) (hd : decode y.2.1 pc = .ok (.if_icmp .gt off, 3)) (kt : Z < X → AW l b R y K lf sf m tgt lv st) (kf : X ≤ Z → AW l b R y K lf sf m (pc + 3) lv st) : AW l b R y K lf sf m pc lv (.int z :: .int x :: st) := aw_icmp_gt ht hd (fun q => kt (by rw [← hX, ← hZ]; exact Int32.lt_iff_toInt_lt.mp q)) (fun q => kf (by rw [← hX, ← hZ]; exact Int.not_lt.mp (fun e => q (Int32.lt_iff_toInt_lt.mpr e))))
theorem aw_if_gtI {x : Int32} {off : Int} {tgt : Nat} (X : Int) (hX : x.toInt = X) (ht : (pc : Int) + off = (tgt : Int)) (hd : decode y.2.1 pc = .ok (.ifCond .gt off, 3)) (kt : 0 < X → AW l b R y K lf sf m tgt lv st) (kf : X ≤ 0 → AW l b R y K lf sf m (pc + 3) lv st) : AW l b R y K lf sf m pc lv (.int x :: st) := aw_if_gt ht hd (fun q => kt (by rw [← hX]; exact Int32.lt_iff_toInt_lt.mp q)) (fun q => kf (by rw [← hX]; exact Int.not_lt.mp (fun e => q (Int32.lt_iff_toInt_lt.mpr e))))
theorem aw_icmp_leI {x z : Int32} {off : Int} {tgt : Nat} (X Z : Int) (hX : x.toInt = X) (hZ : z.toInt = Z) (ht : (pc : Int) + off = (tgt : Int)) (hd : decode y.2.1 pc = .ok (.if_icmp .le off, 3)) (kt : X ≤ Z → AW l b R y K lf sf m tgt lv st) (kf : Z < X → AW l b R y K lf sf m (pc + 3) lv st) : AW l b R y K lf sf m pc lv (.int z :: .int x :: st) := aw_icmp_le ht hd (fun q => kt (by rw [← hX, ← hZ]; exact Int32.le_iff_toInt_le.mp q)) (fun q => kf (by rw [← hX, ← hZ]; exact Int.not_le.mp (fun e => q (Int32.le_iff_toInt_le.mpr e))))
theorem aw_if_leI {x : Int32} {off : Int} {tgt : Nat} (X : Int) (hX : x.toInt = X) (ht : (pc : Int) + off = (tgt : Int)) (hd : decode y.2.1 pc = .ok (.ifCond .le off, 3)) (kt : X ≤ 0 → AW l b R y K lf sf m tgt lv st) (kf : 0 < X → AW l b R y K lf sf m (pc + 3) lv st) : AW l b R y K lf sf m pc lv (.int x :: st) := aw_if_le ht hd (fun q => kt (by rw [← hX]; exact Int32.le_iff_toInt_le.mp q)) (fun q => kf (by rw [← hX]; exact Int.not_le.mp (fun e => q (Int32.le_iff_toInt_le.mpr e))))
theorem aw_tabInI {dflt lo hi : Int} {offs : Array Int} {len : Nat} {x : Int32} {off : Int} {tgt : Nat} (j : Nat) (hx : x.toInt = lo + (j : Int)) (hj : lo + (j : Int) ≤ hi) (ho : offs[j]? = some off) (ht : (pc : Int) + off = (tgt : Int)) (hd : decode y.2.1 pc = .ok (.tableswitch dflt lo hi offs, len)) (k : AW l b R y K lf sf m tgt lv st) : AW l b R y K lf sf m pc lv (.int x :: st) :=
  aw_tabIn (by rw [hx]; omega) (by rw [hx]; omega) (by rw [hx, show lo + (j : Int) - lo = (j : Int) by omega]; exact ho) ht hd k
theorem aw_popc {v : Value} (k : AW l b R y K lf sf m pc lv st) (e : v = v) : AW l b R y K lf sf m pc lv st := k
end AMN
section AMS
variable {l : Launch} {b : PB} {d : Nat} {y : MI} {Ks : List (Nat × Nat)} {G : Nat → Nat → Option Nat} {pc : Nat} {lv st : List Value} {I : Nat → Nat → Int32}
/-- within a fixed graph: only ints change -/
abbrev K2T : Type := Option Value → (Nat → Nat → Int32) → Prop
def KS (Ks : List (Nat × Nat)) (G : Nat → Nat → Option Nat) (K2 : K2T) : Kont := fun v m' => ∃ I', m' = (Ks, I', G) ∧ K2 v I'
abbrev As (l : Launch) (b : PB) (d : Nat) (y : MI) (Ks : List (Nat × Nat)) (G : Nat → Nat → Option Nat) (K2 : K2T) (I : Nat → Nat → Int32) (pc : Nat) (lv st : List Value) : Prop := AW l b (rmm d 0 0) y (KS Ks G K2) Ks.length (sl Ks) (Ks, I, G) pc lv st
def Ss (l : Launch) (b : PB) (d : Nat) (y : MI) (Ks : List (Nat × Nat)) (G : Nat → Nat → Option Nat) (as : List Value) (I : Nat → Nat → Int32) (K2 : K2T) : Prop := Sp l b (rmm d 0 0) y as (Ks, I, G) (KS Ks G K2)
variable {K2 K3 : K2T}
theorem Ss.of {as : List Value} (h : As l b d y Ks G K2 I 0 (padl y.2.2.1 as) []) : Ss l b d y Ks G as I K2 := by
  unfold Ss Sp
  show AW l b (rmm d 0 0) y (KS Ks G K2) (0 + Ks.length) (0 + sl Ks) (Ks, I, G) 0 (padl y.2.2.1 as) []
  rw [Nat.zero_add, Nat.zero_add]
  exact h
theorem Ss.mono {as : List Value} (h : Ss l b d y Ks G as I K2) (hk : ∀ v I', K2 v I' → K3 v I') : Ss l b d y Ks G as I K3 :=
  aw_mono h (fun v m' ⟨I', e, q⟩ => ⟨I', e, hk v I' q⟩)
theorem as_ret {v : Option Value} (hr : RetAt y pc v) (hK : K2 v I) : As l b d y Ks G K2 I pc lv v.toList := aw_ret ⟨I, rfl, hK⟩ hr (Nat.le_refl _) (Nat.le_refl _)
theorem as_reti {x : Int32} (hy : y.2.2.2 = some .int) (hd : decode y.2.1 pc = .ok (.ireturn, 1)) (hK : K2 (some (.int x)) I) : As l b d y Ks G K2 I pc lv [.int x] := as_ret (v := some (.int x)) ⟨⟨_, hy, rfl⟩, hd⟩ hK
theorem as_retz {x : Int32} (hy : y.2.2.2 = some .boolean) (hx : narrow .boolean (.int x) = .int x) (hd : decode y.2.1 pc = .ok (.ireturn, 1)) (hK : K2 (some (.int x)) I) : As l b d y Ks G K2 I pc lv [.int x] := as_ret (v := some (.int x)) ⟨⟨_, hy, hx⟩, hd⟩ hK
theorem as_retv (hy : y.2.2.2 = none) (hd : decode y.2.1 pc = .ok (.return_, 1)) (hK : K2 none I) : As l b d y Ks G K2 I pc lv [] := as_ret (v := none) ⟨hy, hd⟩ hK
theorem as_reta {x : Nat} {C : String} (hy : y.2.2.2 = some (.object C)) (hd : decode y.2.1 pc = .ok (.areturn, 1)) (hK : K2 (some (.ref x)) I) : As l b d y Ks G K2 I pc lv [.ref x] := as_ret (v := some (.ref x)) ⟨⟨_, hy, Or.inl ⟨_, rfl⟩⟩, hd⟩ hK
theorem cat_all {as : List Value} (h : as.all (fun v => v.category == 1) = true) : ∀ v ∈ as, v.category = 1 := fun v hv => by simpa using List.all_eq_true.mp h v hv
theorem as_callV {y' : MI} {as : List Value} {idx o ci nf n d' : Nat} {q : vw_C} (hm : MOk y' n) (hlk : LkV y.1.cls idx y') (ho : Ks[o]? = some (ci + 3, nf)) (hc : clsT[ci]? = some q) (hq : q.1 = y'.1.cls) (hn : as.length = n) (hR : RoomOk (rmm d 0 0) (rmm d' 0 0) y') (hw : Nat.ble ((st.map fun v => v.category).sum) 8 = true) (hcat : as.all (fun v => v.category == 1) = true) (hle : n + 1 ≤ y'.2.2.1)
    (hd : decode y.2.1 pc = .ok (.invokevirtual idx, 3)) (hs : Ss l b d' y' Ks G (.ref o :: as) I (fun v I' => As l b d y Ks G K2 I' (pc + 3) lv (v.toList ++ st))) : As l b d y Ks G K2 I pc lv (as.reverse ++ .ref o :: st) := by
  intro p e s mm args below meth c Q n0 s0 C h1 h2 hF H locs cells slots ls hP hS hcc hss hN hL
  exact aw_callV (R' := rmm d' 0 0) hm hlk hn ho hc hq hR (Nat.le_of_ble_eq_true hw) (cat_all hcat) hle (Or.inr rfl) ⟨Nat.le_of_eq (Nat.zero_add _), Nat.le_of_eq (Nat.zero_add _)⟩ hd hs (fun v m' ⟨I', e1, q1⟩ => by subst e1; exact ⟨(Nat.zero_add _).symm, (Nat.zero_add _).symm, hN.1, q1⟩) p e s mm args below meth c Q n0 s0 C h1 h2 hF H locs cells slots ls hP hS hcc hss hN hL
theorem as_callS {y' : MI} {as : List Value} {idx n d' : Nat} (hm : MOk y' n) (hlk : LkS y.1.cls idx y') (hn : as.length = n) (hR : RoomOk (rmm d 0 0) (rmm d' 0 0) y') (hw : Nat.ble ((st.map fun v => v.category).sum) 8 = true) (hcat : as.all (fun v => v.category == 1) = true) (hle : n ≤ y'.2.2.1)
    (hd : decode y.2.1 pc = .ok (.invokestatic idx, 3)) (hs : Ss l b d' y' Ks G as I (fun v I' => As l b d y Ks G K2 I' (pc + 3) lv (v.toList ++ st))) : As l b d y Ks G K2 I pc lv (as.reverse ++ st) := by
  intro p e s mm args below meth c Q n0 s0 C h1 h2 hF H locs cells slots ls hP hS hcc hss hN hL
  exact aw_callS (R' := rmm d' 0 0) hm hlk hn hR (Nat.le_of_ble_eq_true hw) (cat_all hcat) hle (Or.inr rfl) ⟨Nat.le_of_eq (Nat.zero_add _), Nat.le_of_eq (Nat.zero_add _)⟩ hd hs (fun v m' ⟨I', e1, q1⟩ => by subst e1; exact ⟨(Nat.zero_add _).symm, (Nat.zero_add _).symm, hN.1, q1⟩) p e s mm args below meth c Q n0 s0 C h1 h2 hF H locs cells slots ls hP hS hcc hss hN hL
theorem as_copy {idx o1 o0 n0' n1' sp dp n : Nat} (g1 : Cond.methodLink y.1.cls idx arraycopyName ∈ TW) (g2 : Cond.native arraycopyName ∈ TW) (g3 : Cond.static arraycopyName ∈ TW) (g4 : Cond.initialized "java/lang/System" ∈ TW) (ho0 : Ks[o0]? = some (0, n0')) (ho1 : Ks[o1]? = some (0, n1')) (hs : sp + n ≤ n0') (hdp : dp + n ≤ n1') (hd1 : 1 ≤ d) (hb : n0' < 2147483648 ∧ n1' < 2147483648) (hw : Nat.ble ((st.map fun v => v.category).sum) 8 = true) (hd : decode y.2.1 pc = .ok (.invokestatic idx, 3))
    (kk : As l b d y Ks G K2 (updA I o1 (va_cpy (I o0) (I o1) sp dp n)) (pc + 3) lv st) : As l b d y Ks G K2 I pc lv (.int (nI n) :: .int (nI dp) :: .ref o1 :: .int (nI sp) :: .ref o0 :: st) := by
  have e1 : (nI sp).toNatClampNeg = sp := nI_clamp (by omega)
  have e2 : (nI dp).toNatClampNeg = dp := nI_clamp (by omega)
  have e3 : (nI n).toNatClampNeg = n := nI_clamp (by omega)
  refine aw_copy g1 g2 g3 g4 ho0 ho1 (nI_pos (by omega)) (nI_pos (by omega)) (nI_pos (by omega)) (by rw [e1, e3]; exact hs) (by rw [e2, e3]; exact hdp) ⟨hd1, by show 40 ≤ 40 * d; omega⟩ (Nat.le_of_ble_eq_true hw) hd ?_
  rw [e1, e2, e3]
  exact kk
theorem as_copyE {idx o1 o0 n0' n1' sp dp n : Nat} (g1 : Cond.methodLink y.1.cls idx arraycopyName ∈ TW) (g2 : Cond.native arraycopyName ∈ TW) (g3 : Cond.static arraycopyName ∈ TW) (g4 : Cond.initialized "java/lang/System" ∈ TW) (ho0 : Ks[o0]? = some (0, n0')) (ho1 : Ks[o1]? = some (0, n1')) (hs : sp + n ≤ n0') (hdp : dp + n ≤ n1') (hd1 : 1 ≤ d) (hb : n0' < 2147483648 ∧ n1' < 2147483648) (hw : Nat.ble ((st.map fun v => v.category).sum) 8 = true) (hd : decode y.2.1 pc = .ok (.invokestatic idx, 3))
    (kk : ∀ I' : Nat → Nat → Int32, (∀ q, q ≠ o1 → I' q = I q) → (∀ j, j < n → I' o1 (dp + j) = I o0 (sp + j)) → (∀ j, j < dp ∨ dp + n ≤ j → I' o1 j = I o1 j) → As l b d y Ks G K2 I' (pc + 3) lv st) : As l b d y Ks G K2 I pc lv (.int (nI n) :: .int (nI dp) :: .ref o1 :: .int (nI sp) :: .ref o0 :: st) := by
  refine as_copy g1 g2 g3 g4 ho0 ho1 hs hdp hd1 hb hw hd (kk _ (fun q hq => ?_) (fun j hj => ?_) (fun j hj => ?_))
  · unfold updA; rw [if_neg hq]
  · rw [updA_o, pk_cpy_in (by omega) (by omega), Nat.add_sub_cancel_left]
  · rw [updA_o, pk_cpy_out hj]
theorem as_copy0 {idx o1 o0 n0' n1' n : Nat} (g1 : Cond.methodLink y.1.cls idx arraycopyName ∈ TW) (g2 : Cond.native arraycopyName ∈ TW) (g3 : Cond.static arraycopyName ∈ TW) (g4 : Cond.initialized "java/lang/System" ∈ TW) (ho0 : Ks[o0]? = some (0, n0')) (ho1 : Ks[o1]? = some (0, n1')) (hs : n ≤ n0') (hdp : n ≤ n1') (hd1 : 1 ≤ d) (hb : n0' < 2147483648 ∧ n1' < 2147483648) (hw : Nat.ble ((st.map fun v => v.category).sum) 8 = true) (hd : decode y.2.1 pc = .ok (.invokestatic idx, 3))
    (kk : ∀ I' : Nat → Nat → Int32, (∀ q, q ≠ o1 → I' q = I q) → (∀ j, j < n → I' o1 j = I o0 j) → (∀ j, n ≤ j → I' o1 j = I o1 j) → As l b d y Ks G K2 I' (pc + 3) lv st) : As l b d y Ks G K2 I pc lv (.int (nI n) :: .int (nI 0) :: .ref o1 :: .int (nI 0) :: .ref o0 :: st) :=
  as_copyE g1 g2 g3 g4 ho0 ho1 (by omega) (by omega) hd1 hb hw hd (fun I' h1 h2 h3 => kk I' h1 (fun j hj => by have := h2 j hj; rwa [Nat.zero_add] at this) (fun j hj => h3 j (Or.inr (by omega))))
theorem upd2_id {o j : Nat} {x : Int32} (h : I o j = x) : upd2 I o j x = I := by
  funext k
  unfold upd2
  by_cases hk : k = o
  · rw [if_pos hk, hk]
    funext i
    unfold upd
    by_cases hi : i = j
    · rw [if_pos hi, hi, h]
    · rw [if_neg hi]
  · rw [if_neg hk]
theorem upd2_ne {o j k : Nat} {x : Int32} (h : k ≠ o) : upd2 I o j x k = I k := by unfold upd2; rw [if_neg h]
theorem upd2_at {o j i : Nat} {x : Int32} : upd2 I o j x o i = if i = j then x else I o i := by rw [upd2_o]; rfl
theorem upd2_nx {o j i : Nat} {x : Int32} (h : i ≠ j) : upd2 I o j x o i = I o i := by rw [upd2_at, if_neg h]
theorem upd2_eq {o j : Nat} {x : Int32} : upd2 I o j x o j = x := by rw [upd2_at, if_pos rfl]
theorem copy_0 {o s : Nat} : updA I o (fun j => if j < 0 then I s j else I o j) = I := by
  funext k
  unfold updA
  by_cases h : k = o
  · rw [if_pos h, h]
    funext j
    simp
  · rw [if_neg h]
theorem copy_s {o s i : Nat} : upd2 (updA I o (fun j => if j < i then I s j else I o j)) o i (I s i) = updA I o (fun j => if j < i + 1 then I s j else I o j) := by
  funext k
  unfold upd2 updA
  by_cases h : k = o
  · rw [if_pos h, if_pos h, if_pos h]
    funext j
    unfold upd
    by_cases hj : j = i
    · rw [if_pos hj, if_pos (by omega), hj]
    · rw [if_neg hj]
      show (if j < i then I s j else I o j) = _
      by_cases hj2 : j < i
      · rw [if_pos hj2, if_pos (by omega)]
      · rw [if_neg hj2, if_neg (by omega)]
  · rw [if_neg h, if_neg h, if_neg h]
theorem updA_ne {o k : Nat} {f : Nat → Int32} (h : k ≠ o) : updA I o f k = I k := by unfold updA; rw [if_neg h]
end AMS
/-! rows that came later -/
section AMQ
variable {l : Launch} {b : PB} {R : Room} {y : MI} {K : Kont} {lf sf : Nat} {m : Mem} {pc : Nat} {lv st : List Value}
theorem aw_ldc_w {i : Nat} {v : Int32} (hw : Cond.constant y.1.cls i v ∈ TW) (hd : decode y.2.1 pc = .ok (.ldc_w i, 3)) (k : AW l b R y K lf sf m (pc + 3) lv (.int v :: st)) : AW l b R y K lf sf m pc lv st := aw_step (st := st) (st2 := (.int v :: st)) (fun p e s mm args below meth c Q n0 H locs cells slots ls C hP hS hL kk => lv_ldcw C.1.1 C.1.2.1 C.1.2.2.2.1 (C.1.2.2.2.2 _ hw) hd kk) k
end AMQ
