/-! THE STRING CONSTANTS on the abstract machine; forgetting locals; values that are references or null -/
theorem wk_n : ∀ (i : Nat) (v : Value), ([] : List Value)[i]? = some v → (kn v = false ∧ v.category = 1) ∨ ([] : List Value)[i]? = some v := fun _ _ h => Or.inr h
theorem wk_s {a : Value} {as bs : List Value} (h : ∀ (i : Nat) (v : Value), as[i]? = some v → (kn v = false ∧ v.category = 1) ∨ bs[i]? = some v) : ∀ (i : Nat) (v : Value), (a :: as)[i]? = some v → (kn v = false ∧ v.category = 1) ∨ (a :: bs)[i]? = some v := by
  intro i v hv
  cases i with
  | zero => exact Or.inr hv
  | succ i => exact h i v hv
theorem wk_u {b : Value} {as bs : List Value} (h : ∀ (i : Nat) (v : Value), as[i]? = some v → (kn v = false ∧ v.category = 1) ∨ bs[i]? = some v) : ∀ (i : Nat) (v : Value), (uu :: as)[i]? = some v → (kn v = false ∧ v.category = 1) ∨ (b :: bs)[i]? = some v := by
  intro i v hv
  cases i with
  | zero => cases hv; exact Or.inl ⟨rfl, rfl⟩
  | succ i => exact h i v hv
def isrf (v : Value) : Prop := v = .null ∨ ∃ k, v = .ref k
theorem isrf_cat {v : Value} (h : isrf v) : v.category = 1 := by rcases h with rfl | ⟨k, rfl⟩ <;> rfl
theorem cat_iiv {a c : Int32} {v : Value} (h : isrf v) : [Value.int a, Value.int c, v].all (fun v => v.category == 1) = true := by rcases h with rfl | ⟨k, rfl⟩ <;> rfl
theorem isrf_kn {v : Value} (h : isrf v) : kn v = true := by rcases h with rfl | ⟨k, rfl⟩ <;> rfl
def bytZ (i j : Nat) : Int := ((bytJ.getD i []).getD j 0).toInt
theorem bytZ_in (i j : Nat) : inr (bytZ i j) := toInt_in _
theorem lenJ_lt : ∀ i, i < 18 → lenJ.getD i 0 < 1000 := by decide +kernel
theorem lenJ_in {i : Nat} (h : i < 18) : inr ((lenJ.getD i 0 : Nat) : Int) := by
  have := lenJ_lt i h
  exact ⟨by omega, by omega⟩
theorem nat_in {n : Nat} (h : n < 1000000) : inr (n : Int) := ⟨by omega, by omega⟩
theorem nar_c {v : Int} (h : 0 ≤ v ∧ v < 65536) : narrow .char (.int (iv v)) = .int (iv v) := by
  have e : v = ((v.toNat : Nat) : Int) := by omega
  have h2 : v.toNat < 65536 := by omega
  rw [e]
  generalize v.toNat = n at h2
  show Value.int _ = Value.int _
  congr 1
  rw [← nI_iv (by omega)]
  unfold nI
  refine Int32.toInt_inj.mp ?_
  rw [show (Int32.ofNat n).toInt = (n : Int) from nI_toInt (by omega)]
  show ((Int32.ofNat n).toUInt32 % 65536).toInt32.toInt = _
  have h3 : ((Int32.ofNat n).toUInt32 % 65536) = UInt32.ofNat n := by
    apply UInt32.toNat_inj.mp
    rw [UInt32.toNat_mod]
    have h4 : (Int32.ofNat n).toUInt32.toNat = n := by
      show (BitVec.ofNat 32 n).toNat = n
      rw [BitVec.toNat_ofNat]; omega
    rw [h4]
    show n % 65536 = (BitVec.ofNat 32 n).toNat
    rw [BitVec.toNat_ofNat]; omega
  rw [h3]
  show (Int32.ofNat n).toInt = _
  exact nI_toInt (by omega)
theorem i64_ne {c : Int} (hc : inr c) (h : c ≠ 0) : ¬ (iv c).toInt64 = 0 := by
  intro e
  apply h
  have h1 : (iv c).toInt64.toInt = (0 : Int64).toInt := by rw [e]
  rw [Int32.toInt_toInt64, iv_toInt hc] at h1
  exact h1
section AST
variable {l : Launch} {b : PB} {R : Room} {y : MI} {K : Kont} {lf sf : Nat} {m : Mem} {pc : Nat} {lv st : List Value}
theorem aw_weakB {lv2 : List Value} (hw : ∀ (i : Nat) (v : Value), lv2[i]? = some v → (kn v = false ∧ v.category = 1) ∨ lv[i]? = some v) (k : AW l b R y K lf sf m pc lv2 st) (hl : lv2.length = lv.length := by rfl) : AW l b R y K lf sf m pc lv st := aw_weak hl hw k
theorem aw_aload_nv {j : Fin 4} {i : Nat} {v : Value} (hi : (j : Nat) = i) (hl : lv[i]? = some v) (hv : isrf v) (hd : decode y.2.1 pc = .ok (.aload_n j, 1)) (k : AW l b R y K lf sf m (pc + 1) lv (v :: st)) : AW l b R y K lf sf m pc lv st := by
  refine aw_step (st := st) (st2 := (v :: st)) (fun p e s mm args below meth c Q n0 H locs cells slots ls C hP hS hL kk => ?_) k
  rcases hv with rfl | ⟨k, rfl⟩
  · exact lv_aload_nN C.1.1 C.1.2.1 hd hi (hL.get hl rfl) kk
  · exact lv_aload_n C.1.1 C.1.2.1 hd hi (hL.get hl rfl) kk
theorem aw_ldcS {i idx : Nat} (hi : i < 18) (ho : stI i = (y.1.cls, idx, (stI i).2.2)) (hd : decode y.2.1 pc = .ok (.ldc idx, 2)) (k : AW l b R y K lf sf m (pc + 2) lv (.ref (1003 + i) :: st)) : AW l b R y K lf sf m pc lv st := by
  refine aw_step (st := st) (st2 := (.ref (1003 + i) :: st)) (fun p e s mm args below meth c Q n0 H locs cells slots ls C hP hS hL kk => ?_) k
  have h := C.2.2.2.2.1.2.2.2 i hi
  rw [ho] at h
  have h1 : tau b (.ref (1003 + i)) = .ref (b.2.1 (3 + i)) := congrArg Value.ref (by rw [show 1003 + i = 1000 + (3 + i) by omega]; exact adr_ext b (3 + i))
  rw [List.map_cons, h1] at kk
  exact va_ldcS C.1.1 C.1.2.1 C.1.2.2.2.1 h hd kk
theorem aw_strV {i idx : Nat} (hi : i < 18) (hw : Cond.fieldLink y.1.cls idx "java/lang/String" "value" "[B" ∈ TW) (hd : decode y.2.1 pc = .ok (.getfield idx, 3)) (k : AW l b R y K lf sf m (pc + 3) lv (.ref (1021 + i) :: st)) : AW l b R y K lf sf m pc lv (.ref (1003 + i) :: st) := by
  refine aw_step (st := (.ref (1003 + i) :: st)) (st2 := (.ref (1021 + i) :: st)) (fun p e s mm args below meth c Q n0 H locs cells slots ls C hP hS hL kk => ?_) k
  have h0 : tau b (.ref (1003 + i)) = .ref (b.2.1 (3 + i)) := congrArg Value.ref (by rw [show 1003 + i = 1000 + (3 + i) by omega]; exact adr_ext b (3 + i))
  have h1 : tau b (.ref (1021 + i)) = .ref (b.2.1 (21 + i)) := congrArg Value.ref (by rw [show 1021 + i = 1000 + (21 + i) by omega]; exact adr_ext b (21 + i))
  rw [List.map_cons, h1] at kk
  rw [List.map_cons, h0]
  have hS1 := C.2.2.2.2.2.1.2.2.2.2.2.2.2.1
  exact vk_getf C.1.1 C.1.2.1 (hS1.1 i hi).2.2.1 hS C.1.2.2.2.1 (C.1.2.2.2.2 _ hw) (fun _ h => h) hd kk
theorem aw_strC {i idx : Nat} (hi : i < 18) (hw : Cond.fieldLink y.1.cls idx "java/lang/String" "coder" "B" ∈ TW) (hd : decode y.2.1 pc = .ok (.getfield idx, 3)) (k : AW l b R y K lf sf m (pc + 3) lv (.int (iv 0) :: st)) : AW l b R y K lf sf m pc lv (.ref (1003 + i) :: st) := by
  refine aw_step (st := (.ref (1003 + i) :: st)) (st2 := (.int (iv 0) :: st)) (fun p e s mm args below meth c Q n0 H locs cells slots ls C hP hS hL kk => ?_) k
  have h0 : tau b (.ref (1003 + i)) = .ref (b.2.1 (3 + i)) := congrArg Value.ref (by rw [show 1003 + i = 1000 + (3 + i) by omega]; exact adr_ext b (3 + i))
  rw [List.map_cons, h0]
  have hS1 := C.2.2.2.2.2.1.2.2.2.2.2.2.2.1
  exact vk_getf C.1.1 C.1.2.1 (hS1.1 i hi).2.1 hS C.1.2.2.2.1 (C.1.2.2.2.2 _ hw) (fun _ h => h) hd kk
theorem aw_bytL {i : Nat} (hi : i < 18) (hd : decode y.2.1 pc = .ok (.arraylength, 1)) (k : AW l b R y K lf sf m (pc + 1) lv (.int (nI (lenJ.getD i 0)) :: st)) : AW l b R y K lf sf m pc lv (.ref (1021 + i) :: st) := by
  refine aw_step (st := (.ref (1021 + i) :: st)) (st2 := (.int (nI (lenJ.getD i 0)) :: st)) (fun p e s mm args below meth c Q n0 H locs cells slots ls C hP hS hL kk => ?_) k
  have h0 : tau b (.ref (1021 + i)) = .ref (b.2.1 (21 + i)) := congrArg Value.ref (by rw [show 1021 + i = 1000 + (21 + i) by omega]; exact adr_ext b (21 + i))
  rw [List.map_cons, h0]
  have hS1 := C.2.2.2.2.2.1.2.2.2.2.2.2.2.1
  exact va_tlen C.1.1 C.1.2.1 (hS1.1 i hi).2.2.2 hS rfl hd kk
theorem aw_bytA {i : Nat} {x : Int32} (hi : i < 18) (hin : vp_in x (lenJ.getD i 0)) (hd : decode y.2.1 pc = .ok (.baload, 1)) (k : AW l b R y K lf sf m (pc + 1) lv (.int ((bytJ.getD i []).getD x.toNatClampNeg 0) :: st)) : AW l b R y K lf sf m pc lv (.int x :: .ref (1021 + i) :: st) := by
  refine aw_step (st := (.int x :: .ref (1021 + i) :: st)) (st2 := (.int ((bytJ.getD i []).getD x.toNatClampNeg 0) :: st)) (fun p e s mm args below meth c Q n0 H locs cells slots ls C hP hS hL kk => ?_) k
  have h0 : tau b (.ref (1021 + i)) = .ref (b.2.1 (21 + i)) := congrArg Value.ref (by rw [show 1021 + i = 1000 + (21 + i) by omega]; exact adr_ext b (21 + i))
  rw [List.map_cons, List.map_cons, h0]
  have hS1 := C.2.2.2.2.2.1.2.2.2.2.2.2.2.1
  exact va_tb C.1.1 C.1.2.1 (hS1.1 i hi).2.2.2 hS hin rfl hd kk
theorem aw_compact {idx : Nat} (hw : Cond.fieldLink y.1.cls idx "java/lang/String" "COMPACT_STRINGS" "Z" ∈ TW) (hd : decode y.2.1 pc = .ok (.getstatic idx, 3)) (k : AW l b R y K lf sf m (pc + 3) lv (.int (iv 1) :: st)) : AW l b R y K lf sf m pc lv st := by
  refine aw_step (st := st) (st2 := (.int (iv 1) :: st)) (fun p e s mm args below meth c Q n0 H locs cells slots ls C hP hS hL kk => ?_) k
  exact va_gets (v := .int 1) C.1.1 C.1.2.1 C.2.2.2.2.2.1.2.2.2.2.2.2.2.2.1 hS C.1.2.2.2.1 (C.1.2.2.2.2 _ hw) (fun _ h => h) hd kk
theorem aw_sioobe {idx : Nat} (hw : Cond.fieldLink y.1.cls idx "jdk/internal/util/Preconditions" "SIOOBE_FORMATTER" "Ljava/util/function/BiFunction;" ∈ TW) (hd : decode y.2.1 pc = .ok (.getstatic idx, 3)) (k : ∀ v, isrf v → AW l b R y K lf sf m (pc + 3) lv (v :: st)) : AW l b R y K lf sf m pc lv st := by
  intro p e s mm args below meth c Q n0 s0 C h1 h2 hF H locs cells slots ls hP hS hc hs hN hL
  rcases C.2.2.2.2.2.1.2.2.2.2.2.2.2.2.2 with hZ | hZ
  · exact va_gets (v := .null) C.1.1 C.1.2.1 hZ hS C.1.2.2.2.1 (C.1.2.2.2.2 _ hw) (fun _ h => h) hd (k .null (Or.inl rfl) p e s mm args below meth c Q n0 s0 C h1 h2 hF H locs cells slots ls hP hS hc hs hN hL)
  · have kk := k (.ref 1050) (Or.inr ⟨_, rfl⟩) p e s mm args below meth c Q n0 s0 C h1 h2 hF H locs cells slots ls hP hS hc hs hN hL
    have h0 : tau b (.ref 1050) = .ref (b.2.1 50) := congrArg Value.ref (adr_ext b 50)
    rw [List.map_cons, h0] at kk
    exact va_gets (v := .ref (b.2.1 50)) C.1.1 C.1.2.1 hZ hS C.1.2.2.2.1 (C.1.2.2.2.2 _ hw) (fun _ h => h) hd kk
/-- a call whose receiver is a String constant -/
theorem aw_callVS {R' : Room} {y' : MI} {as : List Value} {K' : Kont} {idx i n : Nat} (hm : MOk y' n) (hlk : LkV y.1.cls idx y') (hn : as.length = n) (hi : i < 18) (hq : "java/lang/String" = y'.1.cls) (hR : RoomOk R R' y') (hw : (st.map fun v => v.category).sum ≤ 8) (hcat : ∀ v ∈ as, v.category = 1) (hle : n + 1 ≤ y'.2.2.1) (hg : gp b = 0 ∨ R'.cells = 0) (hcap : R'.cells + m.1.length ≤ lf ∧ R'.slots + sl m.1 ≤ sf)
    (hd : decode y.2.1 pc = .ok (.invokevirtual idx, 3)) (hs : Sp l b R' y' (.ref (1003 + i) :: as) m K')
    (hk : ∀ (v : Option Value) (m' : Mem), K' v m' → m'.1.length = R'.cells + m.1.length ∧ sl m'.1 = R'.slots + sl m.1 ∧ lenOk b m'.1.length ∧ AW l b R y K lf sf m' (pc + 3) lv (v.toList ++ st)) : AW l b R y K lf sf m pc lv (as.reverse ++ .ref (1003 + i) :: st) := by
  refine aw_run (as := .ref (1003 + i) :: as) (st0 := as.reverse ++ .ref (1003 + i) :: st) (st := st) (R' := R') (y' := y') (K' := K') hg hcap (fun p e s mm args below meth c n0 H locs cells slots ls C hP hL hN hPc hcp => ?_) hk
  have hcat' : ∀ v ∈ Value.ref (1003 + i) :: as, v.category = 1 := fun v hv => by
    rcases List.mem_cons.mp hv with rfl | hv
    · rfl
    · exact hcat v hv
  have hmet := hs.met (y := y') hm.1 hcat' (by show as.length + 1 ≤ _; omega) hN
  have hts := C.1.2.2.2.2
  have h0 : adr b (1003 + i) = b.2.1 (3 + i) := by rw [show 1003 + i = 1000 + (3 + i) by omega]; exact adr_ext b (3 + i)
  have hst : (as.reverse ++ Value.ref (1003 + i) :: st).map (tau b) = (as.map (tau b)).reverse ++ .ref (adr b (1003 + i)) :: st.map (tau b) := by rw [List.map_append, List.map_reverse]; rfl
  obtain ⟨-, -, hE, -, -⟩ := hPc { s with heap := H } rfl (State.WarmedH.refl s)
  have hS1 : SX b { s with heap := H } H := hE.2.2.2.2.2.2.2
  have hr : ∃ cell : Cell, H[adr b (1003 + i)]? = some cell ∧ cell.vm.isStatics = false ∧ s.vm.findClass "java/lang/String" = some cell.cls := by
    obtain ⟨cell, g1, g2, g3, -⟩ := (hS1.1.1 i hi).1
    rw [h0]
    exact ⟨cell, g1, g2, g3⟩
  have hp : PreV s H y'.1.cls (adr b (1003 + i)) (PcA b (.ref (1003 + i) :: as) m) (as.map (tau b)) := ⟨PcA.blind b _ m, by rw [← hq]; exact hr, hPc⟩
  refine ⟨(Value.ref (adr b (1003 + i)) :: as.map (tau b)).toArray, ?_⟩
  rcases hlk.2.2 with hlk2 | ⟨host, hlk2⟩
  · exact va_runV (As := as.map (tau b)) (rest := st.map (tau b)) (n := n) C.1 hmet ⟨callB_of n hts (tw_cons hm.2.1) rfl rfl rfl (hts _ hm.2.2.1) (hts _ hlk2) hm.2.2.2 hR, hts _ hlk.1, hts _ hlk.2.1⟩ hp rfl (by rw [List.length_map]; exact hn) hL.1 hst (lv_room (by rw [cat_tau]; exact hw)) hd hcp
  · exact va_runVN (As := as.map (tau b)) (rest := st.map (tau b)) (n := n) C.1 hmet ⟨va_cnB n hts (tw_cons hm.2.1) rfl rfl rfl (C.2.2.2.2.1.2.1 _ hlk2) (hts _ hm.2.2.1) hm.2.2.2 hR, hts _ hlk.1, hts _ hlk.2.1⟩ hp rfl (by rw [List.length_map]; exact hn) hL.1 hst (lv_room (by rw [cat_tau]; exact hw)) hd hcp
theorem aw_ldcw {i : Nat} {v : Int32} (hw : Cond.constant y.1.cls i v ∈ TW) (hd : decode y.2.1 pc = .ok (.ldc_w i, 3)) (k : AW l b R y K lf sf m (pc + 3) lv (.int v :: st)) : AW l b R y K lf sf m pc lv st := aw_step (st := st) (st2 := (.int v :: st)) (fun p e s mm args below meth c Q n0 H locs cells slots ls C hP hS hL kk => lv_ldcw C.1.1 C.1.2.1 C.1.2.2.2.1 (C.1.2.2.2.2 _ hw) hd kk) k
end AST
section AIS
variable {l : Launch} {b : PB} {d : Nat} {y : MI} {Ks : List (Nat × Nat)} {G : Nat → Nat → Option Nat} {K2 : K2T} {pc : Nat} {lv st : List Value} {I : IMem} {r : Int × IMem}
theorem ai_ldcw {i : Nat} {v : Int32} {n : Int} (e : v = iv n) (hw : Cond.constant y.1.cls i v ∈ TW) (hd : decode y.2.1 pc = .ok (.ldc_w i, 3)) (k : Ai l b d y Ks G K2 I (pc + 3) lv (.int (iv n) :: st)) : Ai l b d y Ks G K2 I pc lv st := aw_ldcw hw hd (aw_top e k)
theorem ai_nameU {v : Int} {w : Value} {k : Int → Res} (hf : zl v k = some r) (hv : inr v) (h : ∀ x, inr x → k x = some r → Ai l b d y Ks G K2 I pc lv (w :: .int (iv x) :: st)) : Ai l b d y Ks G K2 I pc lv (w :: .int (iv v) :: st) := h v hv hf
theorem ai_bytL {i : Nat} (hi : i < 18) (hd : decode y.2.1 pc = .ok (.arraylength, 1)) (k : Ai l b d y Ks G K2 I (pc + 1) lv (.int (iv ((lenJ.getD i 0 : Nat) : Int)) :: st)) : Ai l b d y Ks G K2 I pc lv (.ref (1021 + i) :: st) := aw_bytL hi hd (aw_top (nI_iv (by have := lenJ_lt i hi; omega)) k)
theorem ai_bytA {i : Nat} {x : Int} {k0 : Res} (hi : i < 18) (hx : inr x) (h : zg (0 ≤ x ∧ x < (lenJ.getD i 0 : Nat)) k0 = some r) (hd : decode y.2.1 pc = .ok (.baload, 1)) (kk : 0 ≤ x ∧ x < (lenJ.getD i 0 : Nat) → k0 = some r → Ai l b d y Ks G K2 I (pc + 1) lv (.int (iv (bytZ i x.toNat)) :: st)) : Ai l b d y Ks G K2 I pc lv (.int (iv x) :: .ref (1021 + i) :: st) :=
  aw_bytA hi (iv_vp hx (of_zg h).1) hd (aw_top (by rw [iv_clamp hx]; exact (iv_of _).symm) (kk (of_zg h).1 (of_zg h).2))
theorem as_callVS {y' : MI} {K2 : K2T} {I : Nat → Nat → Int32} {as : List Value} {idx i n d' : Nat} (hm : MOk y' n) (hlk : LkV y.1.cls idx y') (hi : i < 18) (hq : "java/lang/String" = y'.1.cls) (hn : as.length = n) (hR : RoomOk (rmm d 0 0) (rmm d' 0 0) y') (hw : Nat.ble ((st.map fun v => v.category).sum) 8 = true) (hcat : as.all (fun v => v.category == 1) = true) (hle : n + 1 ≤ y'.2.2.1)
    (hd : decode y.2.1 pc = .ok (.invokevirtual idx, 3)) (hs : Ss l b d' y' Ks G (.ref (1003 + i) :: as) I (fun v I' => As l b d y Ks G K2 I' (pc + 3) lv (v.toList ++ st))) : As l b d y Ks G K2 I pc lv (as.reverse ++ .ref (1003 + i) :: st) := by
  intro p e s mm args below meth c Q n0 s0 C h1 h2 hF H locs cells slots ls hP hS hcc hss hN hL
  exact aw_callVS (R' := rmm d' 0 0) hm hlk hn hi hq hR (Nat.le_of_ble_eq_true hw) (cat_all hcat) hle (Or.inr rfl) ⟨Nat.le_of_eq (Nat.zero_add _), Nat.le_of_eq (Nat.zero_add _)⟩ hd hs (fun v m' ⟨I', e1, q1⟩ => by subst e1; exact ⟨(Nat.zero_add _).symm, (Nat.zero_add _).symm, hN.1, q1⟩) p e s mm args below meth c Q n0 s0 C h1 h2 hF H locs cells slots ls hP hS hcc hss hN hL
theorem ai_callVS {y' : MI} {as : List Value} {idx i n d' : Nat} {v1 : Int} {I1 : IMem} (hm : MOk y' n) (hlk : LkV y.1.cls idx y') (hi : i < 18) (hq : "java/lang/String" = y'.1.cls) (hn : as.length = n) (hR : RoomOk (rmm d 0 0) (rmm d' 0 0) y') (hw : Nat.ble ((st.map fun v => v.category).sum) 8 = true) (hcat : as.all (fun v => v.category == 1) = true) (hle : n + 1 ≤ y'.2.2.1)
    (hd : decode y.2.1 pc = .ok (.invokevirtual idx, 3)) (hs : Ss l b d' y' Ks G (.ref (1003 + i) :: as) (ivm I) (Ps (v1, I1))) (kk : inr v1 → RG I1 → Ai l b d y Ks G K2 I1 (pc + 3) lv (.int (iv v1) :: st)) : Ai l b d y Ks G K2 I pc lv (as.reverse ++ .ref (1003 + i) :: st) :=
  as_callVS hm hlk hi hq hn hR hw hcat hle hd (hs.mono (fun v I' ⟨e1, e2, e3, e4⟩ => by subst e1; subst e2; exact kk e3 e4))
end AIS
