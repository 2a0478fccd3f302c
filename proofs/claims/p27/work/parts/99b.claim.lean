/-! THE CLAIM OUT OF ONE WALK OF THE LAW'S BODY. Your part is whole_start (and what it stands on); all else here is the same for every law, but numbers. -/
def R_law : String := "SinglesUpLaw"
def lw_P (b : Addr) (xs : List Int32) (args : Array Value) (s : State) : Prop := args = #[.ref b] ∧ s.IntsAt b xs ∧ xs.length ≤ 3072 ∧ (Jvm.Cond.and given_1 narrow_1).before args s = true
def lw_Q (_ : Array Value) (s : State) (o : Outcome) (t : State) : Prop := o = .returned (some (.int 1)) ∧ Framed s o t [] 600000 7302250
def lw_Z (below : List Frame) (a : Array Value) (s : State) : State → Prop := fun t => ∃ o, t.status = .running ∧ Ended t below o ∧ lw_Q a s o t
/-- the law's own end, with 1 on the stack, nothing written that was there before, its room as the claim has it -/
theorem lw_ret {p : Program} {l : Launch} {e : Env} {s : State} {m : MethodId} {below : List Frame} {meth : Method} {c : Code} {b : Nat} (hx : p.tables.exec = Jvm.exec) (hb : c.code = code) (hr : meth.sig.returnType = ret) (hlocks : meth.locks = false) {pc : Nat} {H : Heap} {ls : Array Slot} (hdg : decode code pc = .ok (.ireturn, 1)) : W p l e room_1 s m #[Value.ref b] below meth c H [] 600000 7302250 (lw_Z below #[Value.ref b] s) (F0 m pc ls [.int 1]) := by
  intro T hT X
  obtain ⟨fs, hret, hrun, hended, hW, hframe⟩ := X.leave (v := some (.int 1)) (hlocks := hlocks) (fun h => by rw [hr] at h; cases h)
  have hmeth' : T.vm.method? m = some meth := X.method'
  refine ⟨T.setFrames fs, ?_, .returned (some (.int 1)), hrun, hended, rfl, ⟨_, rfl⟩, hW, hframe⟩
  jvm_step X.here [X.here.top, hx, hb, hdg, hmeth', hr, ret, narrow_b1]
  (try refine ⟨rfl, ?_⟩); (try refine ⟨rfl, ?_⟩)
  first | (intro acts; rw [hret _ acts rfl rfl rfl]) | rw [hret _ _ rfl rfl rfl]
  exact Steps.refl _
/-- what holds at the law's entry: the machine, the code, the tables' words (any of lw_tbl by 'hts w (by decide +kernel)'), the script of L ints xs at the cell b, what the Statement gives of the start (any of its parts by flat_of_before) -/
def lw_At (p : Program) (s : State) (m : MethodId) (meth : Method) (c : Code) (b L : Nat) (xs : Nat → Int32) : Prop :=
  p.tables.exec = Jvm.exec ∧ c.code = code ∧ meth.sig.returnType = ret ∧ c.maxLocals = 4 ∧ s.vm.findClass R_law = some m.cls ∧ (∀ w ∈ lw_tbl, w.before #[Value.ref b] s = true) ∧ va_X b L xs s s.heap ∧ b < s.heap.size ∧ meth.locks = false ∧ (Jvm.Cond.and given_1 narrow_1).before #[Value.ref b] s = true
theorem whole_start {p : Program} {e : Env} {s : State} {m : MethodId} {below : List Frame} {meth : Method} {c : Code} (l : Launch) (hflags : l.flags = flags0) {b L : Nat} {xs : Nat → Int32} (hL : L ≤ 3072) (C0 : lw_At p s m meth c b L xs) : W p l e room_1 s m #[Value.ref b] below meth c s.heap [] 0 0 (lw_Z below #[Value.ref b] s) (entryFrame m ([Value.ref b] : List Value).toArray 4) := by
  obtain ⟨hx, hb, hr, hml, hown, hts, hX, hbl, hlocks, hgv⟩ := id C0
  have hs := flat_of_before _ hgv
  have hts' : ∀ w ∈ TW, w.before #[Value.ref b] s = true := fun w hw => hts w (List.mem_filter.mp hw).1
  obtain ⟨dC, dI, hKc⟩ := st_cls hts'
  obtain ⟨cI, iI1, iI2⟩ := st_arr (ty := .int) (hts' _ (tw_c1 58 (by decide +kernel) rfl))
  obtain ⟨cB, iB1, iB2⟩ := st_arr (ty := .boolean) (hts' _ (tw_c6 6 (by decide +kernel) rfl))
  have hAO : (Cond.arrayOver (.object "SinglesUp$Law")).before #[Value.ref b] s = true := hts _ (List.mem_of_getElem? (i := 130) (by decide +kernel))
  obtain ⟨cL, iL1, iL2⟩ := st_arq hAO
  obtain ⟨t1, hZ1, hT1⟩ := st_tab (n := "LEAST") (f := least_f) (A := fun q => s.heap.size ≤ q) (hts _ (List.mem_of_getElem? (i := 468) (by decide +kernel))) (hts _ (List.mem_of_getElem? (i := 97) (by decide +kernel))) (hs _ (by decide +kernel)) (hs _ (by decide +kernel)) (st_el (hs (Cond.eq (.elem (.static "SinglesUp" "LEAST" "[I") (.int 0)) (.int 2)) (by decide +kernel)) (hs (Cond.eq (.elem (.static "SinglesUp" "LEAST" "[I") (.int 1)) (.int 1)) (by decide +kernel)) (hs (Cond.eq (.elem (.static "SinglesUp" "LEAST" "[I") (.int 2)) (.int 0)) (by decide +kernel)) (hs (Cond.eq (.elem (.static "SinglesUp" "LEAST" "[I") (.int 3)) (.int 0)) (by decide +kernel)) (hs (Cond.eq (.elem (.static "SinglesUp" "LEAST" "[I") (.int 4)) (.int 0)) (by decide +kernel)) (hs (Cond.eq (.elem (.static "SinglesUp" "LEAST" "[I") (.int 5)) (.int 0)) (by decide +kernel))) (fun a h => Nat.not_le.mpr h)
  obtain ⟨t2, hZ2, hT2⟩ := st_tab (n := "MOST") (f := most_f) (A := fun q => s.heap.size ≤ q) (hts _ (List.mem_of_getElem? (i := 470) (by decide +kernel))) (hts _ (List.mem_of_getElem? (i := 97) (by decide +kernel))) (hs _ (by decide +kernel)) (hs _ (by decide +kernel)) (st_el (hs (Cond.eq (.elem (.static "SinglesUp" "MOST" "[I") (.int 0)) (.int 8)) (by decide +kernel)) (hs (Cond.eq (.elem (.static "SinglesUp" "MOST" "[I") (.int 1)) (.int 99)) (by decide +kernel)) (hs (Cond.eq (.elem (.static "SinglesUp" "MOST" "[I") (.int 2)) (.int 999)) (by decide +kernel)) (hs (Cond.eq (.elem (.static "SinglesUp" "MOST" "[I") (.int 3)) (.int 1000)) (by decide +kernel)) (hs (Cond.eq (.elem (.static "SinglesUp" "MOST" "[I") (.int 4)) (.int 99)) (by decide +kernel)) (hs (Cond.eq (.elem (.static "SinglesUp" "MOST" "[I") (.int 5)) (.int 3)) (by decide +kernel))) (fun a h => Nat.not_le.mpr h)
  have hA0 : ∀ a : Nat, a < s.heap.size → ¬ (fun q => s.heap.size ≤ q) a := fun a h => Nat.not_le.mpr h
  obtain ⟨adK, adV, hS1, hS2⟩ := st_str (A := fun q => s.heap.size ≤ q) hs hts hA0
  have hcs : va_Z "java/lang/String" "COMPACT_STRINGS" "Z" (.int 1) (fun q => s.heap.size ≤ q) s s.heap := va_Zof (hts _ (List.mem_of_getElem? (i := 551) (by decide +kernel))) (hts _ (List.mem_of_getElem? (i := 109) (by decide +kernel))) (va_eqt (hs (Cond.eq (.static "java/lang/String" "COMPACT_STRINGS" "Z") (.int 1)) (by decide +kernel))) hA0
  have hsi : va_Zq "jdk/internal/util/Preconditions" "SIOOBE_FORMATTER" "Ljava/util/function/BiFunction;" (fun q => s.heap.size ≤ q) s s.heap := va_Zqof (hts _ (List.mem_of_getElem? (i := 567) (by decide +kernel))) (hts _ (List.mem_of_getElem? (i := 111) (by decide +kernel))) (hs (Cond.isRef (.static "jdk/internal/util/Preconditions" "SIOOBE_FORMATTER" "Ljava/util/function/BiFunction;")) (by decide +kernel)) hA0
  obtain ⟨t3, hs3⟩ : ∃ t3 : Nat, va_Z "jdk/internal/util/Preconditions" "SIOOBE_FORMATTER" "Ljava/util/function/BiFunction;" .null (fun q => s.heap.size ≤ q) s s.heap ∨ va_Z "jdk/internal/util/Preconditions" "SIOOBE_FORMATTER" "Ljava/util/function/BiFunction;" (.ref t3) (fun q => s.heap.size ≤ q) s s.heap := by
    rcases hsi with h | ⟨t, h⟩
    · exact ⟨0, Or.inl h⟩
    · exact ⟨t, Or.inr h⟩
  have hz : ∃ B : PB, B = (s.heap.size, (fun k => if k = 0 then b else if k = 1 then t1 else if k = 2 then t2 else if k < 21 then adK (k - 3) else if k < 39 then adV (k - 21) else t3), (dC, dI), (fun k => if k = 0 then cI else if k = 1 then cB else cL), L, xs, 166, 0) := ⟨_, rfl⟩
  obtain ⟨B, hB⟩ := hz
  have hAb : ∀ q, Ab B q → s.heap.size ≤ q := fun q h => by
    subst hB
    exact h.1
  have hTB : TB B s := by
    subst hB
    refine ⟨⟨hKc, fun k q h => ?_⟩, st_nw hts, hAO, fun i hi => ?_⟩
    rotate_left
    · show vk_R _ _ _ (if 3 + i = 0 then b else if 3 + i = 1 then t1 else if 3 + i = 2 then t2 else if 3 + i < 21 then adK (3 + i - 3) else if 3 + i < 39 then adV (3 + i - 21) else t3) s
      rw [if_neg (by omega), if_neg (by omega), if_neg (by omega), if_pos (by omega), show 3 + i - 3 = i by omega]
      exact hS2 i hi
    match k, h with
    | 0, h => cases h; exact ⟨iI1, iI2⟩
    | 1, h => cases h; exact ⟨iB1, iB2⟩
    | 2, h => cases h; exact ⟨iL1, iL2⟩
    | k + 3, h => exact absurd h (by simp [tysB])
  have e0 : B.2.1 0 = b := by subst hB; rfl
  have e1 : B.2.1 1 = t1 := by subst hB; rfl
  have e2 : B.2.1 2 = t2 := by subst hB; rfl
  have e3 : ∀ i, i < 18 → B.2.1 (3 + i) = adK i := fun i hi => by
    subst hB
    show (if 3 + i = 0 then b else if 3 + i = 1 then t1 else if 3 + i = 2 then t2 else if 3 + i < 21 then adK (3 + i - 3) else if 3 + i < 39 then adV (3 + i - 21) else t3) = _
    rw [if_neg (by omega), if_neg (by omega), if_neg (by omega), if_pos (by omega), show 3 + i - 3 = i by omega]
  have e4 : ∀ i, i < 18 → B.2.1 (21 + i) = adV i := fun i hi => by
    subst hB
    show (if 21 + i = 0 then b else if 21 + i = 1 then t1 else if 21 + i = 2 then t2 else if 21 + i < 21 then adK (21 + i - 3) else if 21 + i < 39 then adV (21 + i - 21) else t3) = _
    rw [if_neg (by omega), if_neg (by omega), if_neg (by omega), if_neg (by omega), if_pos (by omega), show 21 + i - 21 = i by omega]
  have e5 : B.2.1 50 = t3 := by subst hB; rfl
  have hSX : SX B s s.heap := by
    unfold SX
    rw [e5]
    exact ⟨(vk_S.ext hS1 e3 e4).narrow hAb, hcs.narrow hAb, hs3.elim (fun q => Or.inl (q.narrow hAb)) (fun q => Or.inr (q.narrow hAb))⟩
  have hEX : EX B s s.heap := by
    unfold EX
    rw [e0, e1, e2]
    refine ⟨hZ1.narrow hAb, hT1.narrow hAb, hZ2.narrow hAb, hT2.narrow hAb, ?_, hbl, fun h => absurd (hAb _ h) (Nat.not_le.mpr hbl), hSX⟩
    subst hB
    exact hX
  have hC : Cx B y_law 0 p s m #[Value.ref b] meth c := ⟨⟨hx, hb, hml, hown, hts'⟩, hr, hlocks, fun h => absurd h (by decide), hTB, hEX, by subst hB; rfl⟩
  have hl := LH.entry B (as := [.ref 1000]) (n := 4) (by decide) (fun v hv => by
    rcases List.mem_cons.mp hv with rfl | hv
    · rfl
    · cases hv)
  have ha : ([.ref 1000] : List Value).map (tau B) = [Value.ref b] := by
    show [Value.ref (adr B 1000)] = _
    rw [show adr B 1000 = b from (adr_ext B 0).trans e0]
  rw [ha] at hl
  rw [lg_entry_eq]
  exact law_all (l := l) (b := B) (by subst hB; rfl) (by subst hB; rfl) (by subst hB; exact hL) p e s m #[Value.ref b] below meth c (lw_Z below #[Value.ref b] s) hC (fun H cells slots ls pc' h1 h2 h3 => W.widen (k := 600000) (n := 7302250) h1 h2 (lw_ret hx hb hr hlocks h3)) s.heap [] 0 0 _ (st_P (b := B) (I := ISx WIc 0) (G := GSx WGc 0)) (st_P (b := bM B) (I := ISx WIm 0) (G := GSx WGm 0)) va_S.rf rfl rfl hl
set_option maxHeartbeats 4000000 in
theorem lw_walk (l : Launch) (hflags : l.flags = flags0) (b : Addr) (xs : List Int32) : MetFree l x (headSpec (Jvm.Cond.code x code maxLocals ret :: tables_1) room_1) (lw_P b xs) (fun _ _ _ _ _ => True) lw_Q := by
  refine MetFree.of_bodyS (code := code) (maxLocals := maxLocals) (ret := ret) (by decide) ?_ ?_
  · intro args s m h hn
    obtain ⟨meth, c, h1, h2, h3, h4, h5, h6, -, -⟩ := Cond.code_spec hn (atoms_spec (ws := Jvm.Cond.code x code maxLocals ret :: tables_1) h _ List.mem_cons_self)
    exact ⟨meth, c, h1, h2, h3, h4, h5, h6⟩
  · intro p e s m args below meth c s₁ B hml0 hP _
    obtain ⟨rfl, hx, hbd, hgv⟩ := hP
    obtain ⟨scr, harrAt, hlist, hof, hsmall⟩ := hx
    obtain ⟨hcb, hkn, -, -⟩ := State.arrayAt?_spec harrAt
    have hown : s.vm.findClass R_law = some m.cls := findClass_of_methodNamed B.named
    have hts0 : ∀ c ∈ (Jvm.Cond.code x code maxLocals ret :: tables_1), c.before #[Value.ref b] s = true := atoms_spec (ws := Jvm.Cond.code x code maxLocals ret :: tables_1) B.pre
    have hts : ∀ w ∈ lw_tbl, w.before #[Value.ref b] s = true := k2_hts_sels lw_privs (fun w hw => hts0 w (List.mem_cons_of_mem _ hw)) lw_privs_ok
    have hml : c.maxLocals = 4 := B.maxLocals_eq (hts0 _ List.mem_cons_self)
    have X₀ : Stand p l e room_1 s m #[Value.ref b] below meth c s₁ [] 0 0 := Stand.of_body B
    have hh0 : s₁.heap = s.heap := by rw [B.state]; rfl
    have hsz : scr.slots.size = xs.length := by rw [← Array.length_toList, hlist, List.length_map]
    have hval : ∀ j : Nat, j < xs.length → scr.slots[j]? = some (.int (xs.getD j 0)) := fun j hj => by
      rw [← Array.getElem?_toList, hlist]
      simp [hj]
    have hbl : b < s.heap.size := (Array.getElem?_eq_some_iff.mp hcb).1
    have hX : va_X b xs.length (fun j => xs.getD j 0) s s.heap := ⟨scr, hcb, hof, hkn, hsz, hval⟩
    have K : W p l e room_1 s m #[Value.ref b] below meth c s₁.heap [] 0 0 (lw_Z below #[Value.ref b] s) (entryFrame m ([Value.ref b] : List Value).toArray 4) := by
      rw [hh0]
      exact whole_start l hflags hbd ⟨B.exec, B.bytes, B.returns, hml, hown, hts, hX, hbl, B.notSynchronized, hgv⟩
    obtain ⟨t, a1, o, b1, b2, b3⟩ := K s₁ rfl X₀
    exact ⟨t, o, a1, b1, b2, b3⟩
theorem lw_pre_spec {args : Array Value} {s : State} (h : (Jvm.Cond.and given_1 narrow_1).before args s = true) (hr : rest_1_c.before args s = true) : ∃ (b : Addr) (xs : List Int32), lw_P b xs args s := by
  have hs := flat_of_before _ h
  have hq := flat_of_before _ hr
  have hc : (Cond.count 1).before args s = true := hs _ (by decide +kernel)
  have harr : (Cond.arrayOf (.arg 0) .int).before args s = true := hs _ (by decide +kernel)
  have hle : (Cond.le (.length (.arg 0)) (.int 3072)).before args s = true := hs _ (by decide +kernel)
  have hlen : (Cond.isInt (.length (.arg 0))).before args s = true := hq _ (by decide +kernel)
  have hall : (Cond.all (.arg 0) (.isInt (.elem (.arg 0) (.index 0)))).before args s = true := hq _ (by decide +kernel)
  obtain ⟨b, xs, hb, hx⟩ := State.ints_of_pre rfl harr hlen hall
  have hsm : xs.length < 2 ^ 31 := hx.choose_spec.2.2.2
  have hev : (Term.length (.arg 0)).eval args s none [] s = some (.int xs.length.toInt32) := hx.length_eval hb
  have hv := Cond.le_ints hev (show (Term.int 3072).eval args s none [] s = some (.int 3072) from rfl)
  have hd : xs.length.toInt32 ≤ 3072 := by
    simpa [Cond.before, Cond.holds, hv] using hle
  have hN : xs.length ≤ 3072 := (Int32.ofNat_le_ofNat hsm (by decide)).mp (show Int32.ofNat xs.length ≤ Int32.ofNat 3072 from hd)
  exact ⟨b, xs, Cond.one_arg hc (show args[0]? = some (.ref b) from hb), hx, hN, h⟩
theorem lw_comes (l : Launch) (hflags : l.flags = flags0) : Comes l x (Jvm.Cond.code x code maxLocals ret :: tables_1) room_1 (fun tb e args s => Calls_1 tb e args s ∧ rest_1 tb e args s ∧ Pre_1 tb e args s)
    (fun _ _ args s o t => lw_Q args s o t) := by
  intro p e ha hc hk s m args below hf hfit hheap happ hpre
  obtain ⟨b, xs, hP⟩ := lw_pre_spec hpre.2.2 hpre.2.1
  obtain ⟨k, o, h1, h2, h3, hQ⟩ := lw_walk l hflags b xs p e ha hc hk s m args below hf ((Spec.applies_iff_loose hf).mp happ).1 hP trivial
  exact ⟨k, o, h1, h2, h3, hQ⟩
theorem lw_frame {s t : State} {o : Outcome} {args : Array Value} (h : Framed s o t [] 600000 7302250) :
    Framed s o t (fieldLocs frame_1_writes args s ++ arrayLocs frame_1_arrays args s ++ staticLocs frame_1_statics s) 600000 7302250 := h
theorem lw_limb (L : Cond) (hL : ∀ (args : Array Value) (s t : State), L.after args s (.returned (some (.int 1))) t = true) :
    ArmFor flags0 classFile x code maxLocals ret World_1 tables_1 room_1 Calls_1 rest_1 Pre_1
      (fun tb e a s o t => postC L tb e a s o t ∧ Framed s o t (fieldLocs frame_1_writes a s ++ arrayLocs frame_1_arrays a s ++ staticLocs frame_1_statics s) 600000 7302250) := by
  intro l hflags _ _ p e ha hc hk s m args below hf hfit hheap happ hpre
  obtain ⟨k, o, h1, h2, h3, rfl, hF⟩ := lw_comes l hflags p e ha hc hk s m args below hf hfit hheap happ hpre
  exact ⟨k, _, h1, h2, h3, hL args s _, lw_frame hF⟩
theorem i_vc : Claimed_1_1 ∧ Claimed_1_2 := ⟨lw_limb limb_1_1 (fun args s t => by simp [limb_1_1, Cond.after, Cond.holds, Cond.value]), lw_limb limb_1_2 (fun args s t => Cond.after_iff.mpr (by
  first | (rw [show limb_1_2 = Cond.eq .result (.int 1) from rfl, Cond.eq_ints (x := 1) (y := 1) rfl rfl]; simp; done) | (simp [limb_1_2, Cond.value, Term.eval]; done)))⟩
