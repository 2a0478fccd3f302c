/-! CALLS: a method's spec is AW from its entry; by it the callers go on -/
section AMC
variable {l : Launch} {b : PB} {R : Room} {y : MI} {K : Kont} {lf sf : Nat} {pc : Nat} {lv st : List Value}
/-- the room of a method below which d - 1 more stand -/
abbrev rmm (d mc ms : Nat) : Room := { frames := d, cells := mc, slots := ms, locals := 40 * d }
/-- from the entry of y with the arguments as in the memory m: the method returns, and K holds of what it answers and leaves -/
def Sp (l : Launch) (b : PB) (R : Room) (y : MI) (as : List Value) (m : Mem) (K : Kont) : Prop := AW l b R y K (R.cells + m.1.length) (R.slots + sl m.1) m 0 (padl y.2.2.1 as) []
theorem metOfF {z : MethodName} {ws ws' : List Cond} {rm : Room} {Pc : Array Value → State → Prop} {Qc : Array Value → State → Outcome → State → Prop} {mc ms : Nat} {free : Addr → Prop} {cc : ByteArray} {maxL : Nat} {ret : Option FieldType}
    (hy : plainFor z = true) (hw : ws = Cond.code z cc maxL ret :: ws')
    (body : ∀ p e s m args below meth c s₁, BodyLoose p l z (headSpec ws rm) cc maxL ret e s m args below meth c s₁ → c.maxLocals = maxL → Pc args s → W p l e rm s m args below meth c s.heap [] 0 0 (MQ below Qc args s mc ms free) (entryFrame m args maxL)) : Met l z ws rm Pc Qc mc ms free :=
  MetFree.of_bodySF (code := cc) (maxLocals := maxL) (ret := ret) hy (fun args s m h hn => by
    obtain ⟨meth, c, h1, h2, h3, h4, h5, h6, -, -⟩ := Cond.code_spec hn (atoms_spec (ws := ws) h _ (hw ▸ List.mem_cons_self))
    exact ⟨meth, c, h1, h2, h3, h4, h5, h6⟩) (fun p e s m args below meth c s₁ B hml hP _ => by
    obtain ⟨t, a1, o, b1, b2, b3⟩ := body p e s m args below meth c s₁ B hml hP s₁ (by rw [B.state]; rfl) (Stand.of_body B)
    exact ⟨t, o, a1, b1, b2, b3⟩)
def PcA (b : PB) (as : List Value) (m : Mem) : Array Value → State → Prop := va_Pc (as.map (tau b)) (fun U => TB b U ∧ EX b U U.heap ∧ va_P b.2.2.1 clsT (wl b m) U.heap ∧ U.heap.size = b.1 + m.1.length + gp b)
def QcA (b : PB) (K : Kont) : Array Value → State → Outcome → State → Prop := fun _ st o t => (∃ (v : Option Value) (m' : Mem), o = .returned (v.map (tau b)) ∧ K v m' ∧ va_P b.2.2.1 clsT (wl b m') t.heap) ∧ va_F (Ab b) st t
abbrev wsM (y : MI) : List Cond := Cond.code y.1 y.2.1 y.2.2.1 y.2.2.2 :: TW
theorem PcA.blind (b : PB) (as : List Value) (m : Mem) : FrameBlind (PcA b as m) := by
  intro a U g mk h
  obtain ⟨h0, h1, h2, h3, h4⟩ := h
  exact ⟨h0, TB.same (u := U) (U := U.calling g mk a) rfl h1, EX.moved (u := U) (U := U.calling g mk a) (Vm.Alike.refl U.vm) h2, h3, h4⟩
/-- a method that the tables know -/
def MOk (y : MI) (n : Nat) : Prop := plainFor y.1 = true ∧ Cond.code y.1 y.2.1 y.2.2.1 y.2.2.2 ∈ TW ∧ Cond.initialized y.1.cls ∈ TW ∧ (y.1.cls ≠ "java/lang/invoke/MethodHandle" ∧ y.1.cls ≠ "java/lang/invoke/VarHandle" ∧ (parseMethodDescriptor y.1.desc).map (fun d => d.parameters.length) = some n)
theorem Sp.met {as : List Value} {m : Mem} (h : Sp l b R y as m K) (hy : plainFor y.1 = true) (hc : ∀ v ∈ as, v.category = 1) (hn : as.length ≤ y.2.2.1) (hl : lenOk b m.1.length) : Met l y.1 (wsM y) R (PcA b as m) (QcA b K) R.cells R.slots (Ab b) := by
  refine metOfF (cc := y.2.1) (maxL := y.2.2.1) (ret := y.2.2.2) hy rfl ?_
  intro p e s mm args below meth c s₁ B hml hv
  obtain ⟨rfl, h1, h2, h3, h4⟩ := hv
  have hts := atoms_spec (ws := wsM y) B.pre
  have hr := B.returns
  have hlocks := B.notSynchronized
  have hL := LH.entry b hn hc
  rw [lg_entry_eq]
  refine h p e s mm (as.map (tau b)).toArray below meth c (MQ below (QcA b K) (as.map (tau b)).toArray s R.cells R.slots (Ab b)) m.1.length (sl m.1) ⟨⟨B.exec, B.bytes, hml, findClass_of_methodNamed B.named, fun w hw => hts w (List.mem_cons_of_mem _ hw)⟩, hr, hlocks, fun hi => (name_of_methodNamed B.named B.method).1.trans hi, h1, h2, h4⟩ rfl rfl ?_ s.heap [] 0 0 _ h3 va_S.rf (Nat.zero_add _) (Nat.zero_add _) ⟨hl, Or.inr rfl⟩ hL
  intro H locs cells slots ls pc' v m' hK hP hS hc1 hc2 hra
  refine W.widen hc1 hc2 ?_
  have key : ∀ t : State, t.heap = H → s.WarmedH t.vm → QcA b K (as.map (tau b)).toArray s (.returned (v.map (tau b))) t := fun t ht _ => ⟨⟨v, m', rfl, hK, by rw [ht]; exact hP⟩, hS.F ht⟩
  match v, hra, key with
  | none, hra, key => exact W.vret B.exec B.bytes (hr.trans hra.1) key hS.2.2 hra.2
  | some (.int x), hra, key =>
    obtain ⟨⟨ty, g1, g2⟩, g3⟩ := hra
    exact W.zret B.exec B.bytes (hr.trans g1) g2 key hS.2.2 g3
  | some (.ref x), hra, key =>
    obtain ⟨⟨ty, g1, g2⟩, g3⟩ := hra
    exact W.aret B.exec B.bytes (hr.trans g1) g2 (Or.inr ⟨_, rfl⟩) key hS.2.2 g3
theorem heap_size {s : State} {H : Heap} {locs : List Loc} {n0 cells : Nat} {m : Mem} (hz : s.heap.size = b.1 + n0 + gp b) (hc : cells + n0 = m.1.length) (hN : lenOk b m.1.length ∧ (gp b = 0 ∨ cells = 0)) (hP : va_P b.2.2.1 clsT (wl b m) H) (hS : va_S (Ab b) s.heap H locs) (h1 : H.size ≤ s.heap.size + cells) : H.size = b.1 + m.1.length + gp b := by
  have h2 := hS.1
  obtain ⟨⟨hN1, hN2⟩, hN3⟩ := hN
  rcases Nat.eq_zero_or_pos m.1.length with h | h
  · omega
  · have hg : m.1[m.1.length - 1]? = some (m.1[m.1.length - 1]) := List.getElem?_eq_getElem (by omega)
    have h3 := (hP _ _ (wl_at b hg)).lt
    have h4 : adr b (m.1.length - 1) < H.size := h3
    rw [adr_own (by omega)] at h4
    omega
/-- the call's own road: 'run' is the kit's, by the kind of the call -/
theorem aw_run {R' : Room} {y' : MI} {as st0 : List Value} {m : Mem} {K' : Kont} (hg : gp b = 0 ∨ R'.cells = 0) (hcap : R'.cells + m.1.length ≤ lf ∧ R'.slots + sl m.1 ≤ sf)
    (hrun : ∀ (p : Program) (e : Env) (s : State) (mm : MethodId) (args : Array Value) (below : List Frame) (meth : Method) (c : Code) (n0 : Nat) (H : Heap) (locs : List Loc) (cells slots : Nat) (ls : Array Slot), Cx b y n0 p s mm args meth c → va_P b.2.2.1 clsT (wl b m) H → LH b ls y.2.2.1 lv → lenOk b m.1.length → (∀ U : State, U.heap = H → s.WarmedH U.vm → PcA b as m (as.map (tau b)).toArray U) → cells + R'.cells ≤ R.cells ∧ slots + R'.slots ≤ R.slots →
      ∃ a, va_Run p l e R s mm args below meth c H locs cells slots R'.cells R'.slots (F0 mm pc ls (st0.map (tau b))) (st.map (tau b)) (QcA b K' a) (Ab b))
    (hk : ∀ (v : Option Value) (m' : Mem), K' v m' → m'.1.length = R'.cells + m.1.length ∧ sl m'.1 = R'.slots + sl m.1 ∧ lenOk b m'.1.length ∧ AW l b R y K lf sf m' (pc + 3) lv (v.toList ++ st)) : AW l b R y K lf sf m pc lv st0 := by
  intro p e s mm args below meth c Q n0 s0 C h1 h2 hF H locs cells slots ls hP hS hc hs hN hL
  refine W.szi (fun hsz => ?_)
  have hz := heap_size C.2.2.2.2.2.2 hc hN hP hS hsz
  obtain ⟨a, hr⟩ := hrun p e s mm args below meth c n0 H locs cells slots ls C hP hL hN.1 (fun U hU hW => ⟨rfl, TB.warm hW C.2.2.2.2.1, by
    rw [hU]
    exact (EX.moved hW.alike C.2.2.2.2.2.1).kept hS.1 hS.2.1, by rw [hU]; exact hP, by rw [hU]; exact hz⟩) ⟨by omega, by omega⟩
  intro T hT X
  obtain ⟨v, st₀, t, T', L, g0, X', hL', e1, e2, ⟨⟨v', m', hv, hK, hP'⟩, hF'⟩, stp⟩ := hr T hT X
  cases hv
  obtain ⟨k1, k2, k3, k4⟩ := hk v' m' hK
  have hS' : va_S (Ab b) s.heap T'.heap (locs ++ L) := by
    refine ⟨?_, fun q q1 q2 => ?_, fun q hq => ?_⟩
    · have := hF'.1
      rw [g0] at this
      rw [e1]
      exact Nat.le_trans hS.1 this
    · rw [e1, hF'.2 q (by rw [g0]; exact Nat.lt_of_lt_of_le q1 hS.1) q2, g0]
      exact hS.2.1 q q1 q2
    · rcases List.mem_append.mp hq with h | h
      · exact hS.2.2 q h
      · exact hL' q h
  have hW := k4 p e s mm args below meth c Q n0 s0 C h1 h2 hF T'.heap (locs ++ L) (cells + R'.cells) (slots + R'.slots) ls (by rw [e1]; exact hP') hS' (by omega) (by omega) ⟨k3, by have := hN.2; omega⟩ hL
  obtain ⟨t2, a1, b1⟩ := hW T' rfl X'
  refine ⟨t2, stp t2 ?_, b1⟩
  cases v' with
  | none => exact a1
  | some v' => exact a1
theorem args_len (as : List Value) (b : PB) : (as.map (tau b)).length = as.length := List.length_map _
abbrev RoomOk (R R' : Room) (y' : MI) : Prop := R'.frames + 1 ≤ R.frames ∧ 8 + (y'.2.2.1 + 11) + R'.locals ≤ R.locals
/-- the call's link: as its class's file has it, or as a nest mate's -/
def LkV (own : String) (idx : Nat) (y' : MI) : Prop := Cond.instanceMethod y'.1 ∈ TW ∧ Cond.selects y'.1.cls y'.1 y'.1 ∈ TW ∧ (Cond.methodLink own idx y'.1 ∈ TW ∨ ∃ host, Cond.methodLinkNest own idx y'.1 host ∈ NW)
def LkS (own : String) (idx : Nat) (y' : MI) : Prop := Cond.static y'.1 ∈ TW ∧ (Cond.methodLink own idx y'.1 ∈ TW ∨ ∃ host, Cond.methodLinkNest own idx y'.1 host ∈ NW)
def LkI (own : String) (idx : Nat) (y' : MI) : Prop := y'.1.name = "<init>" ∧ y'.2.2.2 = none ∧ Cond.instanceMethod y'.1 ∈ TW ∧ (Cond.methodLink own idx y'.1 ∈ TW ∨ ∃ host, Cond.methodLinkNest own idx y'.1 host ∈ NW)
theorem aw_callV {R' : Room} {y' : MI} {as : List Value} {m : Mem} {K' : Kont} {idx o ci nf n : Nat} {q : vw_C} (hm : MOk y' n) (hlk : LkV y.1.cls idx y') (hn : as.length = n) (ho : m.1[o]? = some (ci + 3, nf)) (hc : clsT[ci]? = some q) (hq : q.1 = y'.1.cls) (hR : RoomOk R R' y') (hw : (st.map fun v => v.category).sum ≤ 8) (hcat : ∀ v ∈ as, v.category = 1) (hle : n + 1 ≤ y'.2.2.1) (hg : gp b = 0 ∨ R'.cells = 0) (hcap : R'.cells + m.1.length ≤ lf ∧ R'.slots + sl m.1 ≤ sf)
    (hd : decode y.2.1 pc = .ok (.invokevirtual idx, 3)) (hs : Sp l b R' y' (.ref o :: as) m K')
    (hk : ∀ (v : Option Value) (m' : Mem), K' v m' → m'.1.length = R'.cells + m.1.length ∧ sl m'.1 = R'.slots + sl m.1 ∧ lenOk b m'.1.length ∧ AW l b R y K lf sf m' (pc + 3) lv (v.toList ++ st)) : AW l b R y K lf sf m pc lv (as.reverse ++ .ref o :: st) := by
  refine aw_run (as := .ref o :: as) (st0 := as.reverse ++ .ref o :: st) (st := st) (R' := R') (y' := y') (K' := K') hg hcap (fun p e s mm args below meth c n0 H locs cells slots ls C hP hL hN hPc hcp => ?_) hk
  have hcat' : ∀ v ∈ Value.ref o :: as, v.category = 1 := fun v hv => by
    rcases List.mem_cons.mp hv with rfl | hv
    · rfl
    · exact hcat v hv
  have hmet := hs.met (y := y') hm.1 hcat' (by show as.length + 1 ≤ _; omega) hN
  have hts := C.1.2.2.2.2
  have hst : (as.reverse ++ Value.ref o :: st).map (tau b) = (as.map (tau b)).reverse ++ .ref (adr b o) :: st.map (tau b) := by rw [List.map_append, List.map_reverse]; rfl
  have he := wl_at b ho
  rw [ent_o] at he
  have hp : PreV s H y'.1.cls (adr b o) (PcA b (.ref o :: as) m) (as.map (tau b)) := ⟨PcA.blind b _ m, by rw [← hq]; exact va_recv C.2.2.2.2.1.1 hP hc he, hPc⟩
  refine ⟨(Value.ref (adr b o) :: as.map (tau b)).toArray, ?_⟩
  rcases hlk.2.2 with hlk2 | ⟨host, hlk2⟩
  · exact va_runV (As := as.map (tau b)) (rest := st.map (tau b)) (n := n) C.1 hmet ⟨callB_of n hts (tw_cons hm.2.1) rfl rfl rfl (hts _ hm.2.2.1) (hts _ hlk2) hm.2.2.2 hR, hts _ hlk.1, hts _ hlk.2.1⟩ hp rfl (by rw [List.length_map]; exact hn) hL.1 hst (lv_room (by rw [cat_tau]; exact hw)) hd hcp
  · exact va_runVN (As := as.map (tau b)) (rest := st.map (tau b)) (n := n) C.1 hmet ⟨va_cnB n hts (tw_cons hm.2.1) rfl rfl rfl (C.2.2.2.2.1.2.1 _ hlk2) (hts _ hm.2.2.1) hm.2.2.2 hR, hts _ hlk.1, hts _ hlk.2.1⟩ hp rfl (by rw [List.length_map]; exact hn) hL.1 hst (lv_room (by rw [cat_tau]; exact hw)) hd hcp
theorem aw_callS {R' : Room} {y' : MI} {as : List Value} {m : Mem} {K' : Kont} {idx n : Nat} (hm : MOk y' n) (hlk : LkS y.1.cls idx y') (hn : as.length = n) (hR : RoomOk R R' y') (hw : (st.map fun v => v.category).sum ≤ 8) (hcat : ∀ v ∈ as, v.category = 1) (hle : n ≤ y'.2.2.1) (hg : gp b = 0 ∨ R'.cells = 0) (hcap : R'.cells + m.1.length ≤ lf ∧ R'.slots + sl m.1 ≤ sf)
    (hd : decode y.2.1 pc = .ok (.invokestatic idx, 3)) (hs : Sp l b R' y' as m K')
    (hk : ∀ (v : Option Value) (m' : Mem), K' v m' → m'.1.length = R'.cells + m.1.length ∧ sl m'.1 = R'.slots + sl m.1 ∧ lenOk b m'.1.length ∧ AW l b R y K lf sf m' (pc + 3) lv (v.toList ++ st)) : AW l b R y K lf sf m pc lv (as.reverse ++ st) := by
  refine aw_run (as := as) (st0 := as.reverse ++ st) (st := st) (R' := R') (y' := y') (K' := K') hg hcap (fun p e s mm args below meth c n0 H locs cells slots ls C hP hL hN hPc hcp => ?_) hk
  have hmet := hs.met (y := y') hm.1 hcat (by omega) hN
  have hts := C.1.2.2.2.2
  have hst : (as.reverse ++ st).map (tau b) = (as.map (tau b)).reverse ++ st.map (tau b) := by rw [List.map_append, List.map_reverse]
  refine ⟨(as.map (tau b)).toArray, ?_⟩
  rcases hlk.2 with hlk2 | ⟨host, hlk2⟩
  · exact va_runS (As := as.map (tau b)) (rest := st.map (tau b)) (n := n) C.1 hmet ⟨callB_of n hts (tw_cons hm.2.1) rfl rfl rfl (hts _ hm.2.2.1) (hts _ hlk2) hm.2.2.2 hR, hts _ hlk.1⟩ ⟨PcA.blind b _ m, hPc⟩ rfl (by rw [List.length_map]; exact hn) hL.1 hst (lv_room (by rw [cat_tau]; exact hw)) hd hcp
  · exact va_runSN (As := as.map (tau b)) (rest := st.map (tau b)) (n := n) C.1 hmet ⟨va_cnB n hts (tw_cons hm.2.1) rfl rfl rfl (C.2.2.2.2.1.2.1 _ hlk2) (hts _ hm.2.2.1) hm.2.2.2 hR, hts _ hlk.1, trivial⟩ ⟨PcA.blind b _ m, hPc⟩ rfl (by rw [List.length_map]; exact hn) hL.1 hst (lv_room (by rw [cat_tau]; exact hw)) hd hcp
theorem aw_callI {R' : Room} {y' : MI} {as : List Value} {m : Mem} {K' : Kont} {idx o n : Nat} (hm : MOk y' n) (hlk : LkI y.1.cls idx y') (hn : as.length = n) (hR : RoomOk R R' y') (hw : (st.map fun v => v.category).sum ≤ 8) (hcat : ∀ v ∈ as, v.category = 1) (hle : n + 1 ≤ y'.2.2.1) (hg : gp b = 0 ∨ R'.cells = 0) (hcap : R'.cells + m.1.length ≤ lf ∧ R'.slots + sl m.1 ≤ sf)
    (hd : decode y.2.1 pc = .ok (.invokespecial idx, 3)) (hs : Sp l b R' y' (.ref o :: as) m K')
    (hk : ∀ (v : Option Value) (m' : Mem), K' v m' → m'.1.length = R'.cells + m.1.length ∧ sl m'.1 = R'.slots + sl m.1 ∧ lenOk b m'.1.length ∧ AW l b R y K lf sf m' (pc + 3) lv (v.toList ++ st)) : AW l b R y K lf sf m pc lv (as.reverse ++ .ref o :: st) := by
  refine aw_run (as := .ref o :: as) (st0 := as.reverse ++ .ref o :: st) (st := st) (R' := R') (y' := y') (K' := K') hg hcap (fun p e s mm args below meth c n0 H locs cells slots ls C hP hL hN hPc hcp => ?_) hk
  have hcat' : ∀ v ∈ Value.ref o :: as, v.category = 1 := fun v hv => by
    rcases List.mem_cons.mp hv with rfl | hv
    · rfl
    · exact hcat v hv
  have hmet := hs.met (y := y') hm.1 hcat' (by show as.length + 1 ≤ _; omega) hN
  have hts := C.1.2.2.2.2
  have hst : (as.reverse ++ Value.ref o :: st).map (tau b) = (as.map (tau b)).reverse ++ .ref (adr b o) :: st.map (tau b) := by rw [List.map_append, List.map_reverse]; rfl
  have hret : y'.2.2.2 = none := hlk.2.1
  have hcw : Cond.code y'.1 y'.2.1 y'.2.2.1 none ∈ TW := by rw [← hret]; exact hm.2.1
  refine ⟨(Value.ref (adr b o) :: as.map (tau b)).toArray, ?_⟩
  rcases hlk.2.2.2 with hlk2 | ⟨host, hlk2⟩
  · exact va_runI (As := as.map (tau b)) (rest := st.map (tau b)) (n := n) C.1 hmet ⟨callB_of (bytes := y'.2.1) (maxL := y'.2.2.1) (ret := none) n hts (tw_cons hm.2.1) (by show Cond.code _ _ _ _ :: TW = _; rw [hret]) rfl rfl (hts _ hm.2.2.1) (hts _ hlk2) hm.2.2.2 hR, hlk.1, hts _ hlk.2.2.1⟩ ⟨PcA.blind b _ m, hPc⟩ rfl (by rw [List.length_map]; exact hn) hL.1 hst (lv_room (by rw [cat_tau]; exact hw)) hd hcp
  · exact va_runIN (As := as.map (tau b)) (rest := st.map (tau b)) (n := n) C.1 hmet ⟨va_cnB (bytes := y'.2.1) (maxL := y'.2.2.1) (ret := none) n hts (tw_cons hm.2.1) (by show Cond.code _ _ _ _ :: TW = _; rw [hret]) rfl rfl (C.2.2.2.2.1.2.1 _ hlk2) (hts _ hm.2.2.1) hm.2.2.2 hR, hlk.1, hts _ hlk.2.2.1⟩ ⟨PcA.blind b _ m, hPc⟩ rfl (by rw [List.length_map]; exact hn) hL.1 hst (lv_room (by rw [cat_tau]; exact hw)) hd hcp
end AMC
