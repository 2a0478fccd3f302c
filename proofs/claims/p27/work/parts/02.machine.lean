/-! THE ABSTRACT MACHINE: a world of numbered objects (kinds, ints, references) over the kit's worlds; AW: from here the method comes to its end with K -/
/-- base, addresses of what was there before, classes' places, array classes; the script's length and ints; so many objects, and behind them so many cells of somebody else -/
abbrev PB : Type := Nat × (Nat → Nat) × va_G × (Nat → ClassId) × Nat × (Nat → Int32) × Nat × Nat
abbrev scL (b : PB) : Nat := b.2.2.2.2.1
abbrev scX (b : PB) : Nat → Int32 := b.2.2.2.2.2.1
abbrev ct (b : PB) : Nat := b.2.2.2.2.2.2.1
abbrev gp (b : PB) : Nat := b.2.2.2.2.2.2.2
abbrev Mem : Type := List (Nat × Nat) × (Nat → Nat → Int32) × (Nat → Nat → Option Nat)
abbrev MI : Type := MethodName × ByteArray × Nat × Option FieldType
abbrev Kont : Type := Option Value → Mem → Prop
def adr (b : PB) (k : Nat) : Nat := if k < 1000 then b.1 + k else b.2.1 (k - 1000)
def tau (b : PB) : Value → Value
  | .ref k => .ref (adr b k)
  | v => v
theorem tau_int (b : PB) (x : Int32) : tau b (.int x) = .int x := rfl
theorem tau_ref (b : PB) (k : Nat) : tau b (.ref k) = .ref (adr b k) := rfl
theorem tau_cat (b : PB) (v : Value) : (tau b v).category = v.category := by cases v <;> rfl
theorem adr_own {b : PB} {k : Nat} (h : k < 1000) : adr b k = b.1 + k := by unfold adr; rw [if_pos h]
theorem adr_ext (b : PB) (k : Nat) : adr b (1000 + k) = b.2.1 k := by
  unfold adr
  rw [if_neg (by omega), Nat.add_sub_cancel_left]
def isRf (c j : Nat) : Bool := (rfm.getD c []).contains j
def ent (b : PB) (t : Nat × Nat) (f : Nat → Int32) (g : Nat → Option Nat) : va_E :=
  match t.1 with
  | 0 => .inl (b.2.2.2.1 0, t.2, .inl f)
  | 1 => .inl (b.2.2.2.1 1, t.2, .inl f)
  | 2 => .inl (b.2.2.2.1 2, t.2, .inr (.inr (.inr (.inr (fun j => (g j).map (adr b))))))
  | c + 3 => .inr (c, (List.range t.2).map (fun j => if isRf c j then va_rf ((g j).map (adr b)) else .int (f j)))
def wl (b : PB) (m : Mem) : va_W := (List.range m.1.length).map fun k => (adr b k, ent b (m.1.getD k (0, 0)) (m.2.1 k) (m.2.2 k))
def upd2 (I : Nat → Nat → Int32) (o j : Nat) (v : Int32) : Nat → Nat → Int32 := fun k => if k = o then upd (I k) j v else I k
def updA (I : Nat → Nat → Int32) (o : Nat) (f : Nat → Int32) : Nat → Nat → Int32 := fun k => if k = o then f else I k
def updR (R : Nat → Nat → Option Nat) (o j : Nat) (v : Option Nat) : Nat → Nat → Option Nat := fun k => if k = o then (fun i => if i = j then v else R k i) else R k
def sl (Ks : List (Nat × Nat)) : Nat := (Ks.map (·.2)).sum
theorem wl_len (b : PB) (m : Mem) : (wl b m).length = m.1.length := by simp [wl]
theorem wl_at (b : PB) {m : Mem} {o : Nat} {t : Nat × Nat} (h : m.1[o]? = some t) : (wl b m)[o]? = some (adr b o, ent b t (m.2.1 o) (m.2.2 o)) := by
  have hl : o < m.1.length := (List.getElem?_eq_some_iff.mp h).1
  have hg : m.1.getD o (0, 0) = t := by rw [List.getD_eq_getElem?_getD, h]; rfl
  unfold wl
  rw [List.getElem?_map, List.getElem?_range hl]
  simp only [Option.map_some]
  rw [hg]
theorem wl_inv {b : PB} {m : Mem} {k : Nat} {q : Nat × va_E} (h : (wl b m)[k]? = some q) : k < m.1.length ∧ q.1 = adr b k := by
  have hl : k < m.1.length := by rw [← wl_len b m]; exact (List.getElem?_eq_some_iff.mp h).1
  refine ⟨hl, ?_⟩
  unfold wl at h
  rw [List.getElem?_map, List.getElem?_range hl] at h
  simp only [Option.map_some] at h
  rw [← Option.some.inj h]
/-- one object's ints (references) renewed -/
theorem wl_set (b : PB) {Ks : List (Nat × Nat)} {I I' : Nat → Nat → Int32} {G G' : Nat → Nat → Option Nat} {o : Nat} {t : Nat × Nat} {e : va_E} (h : Ks[o]? = some t)
    (hI : ∀ k, k ≠ o → I' k = I k) (hG : ∀ k, k ≠ o → G' k = G k) (he : e = ent b t (I' o) (G' o)) : (wl b (Ks, I, G)).set o (adr b o, e) = wl b (Ks, I', G') := by
  apply List.ext_getElem?
  intro k
  have hl : o < Ks.length := (List.getElem?_eq_some_iff.mp h).1
  by_cases hk : k = o
  · subst hk
    rw [List.getElem?_set_self (by rw [wl_len]; exact hl), wl_at b (m := (Ks, I', G')) h, he]
  · rw [List.getElem?_set_ne (Ne.symm hk)]
    by_cases hl2 : k < Ks.length
    · rw [wl_at b (m := (Ks, I, G)) (List.getElem?_eq_getElem hl2), wl_at b (m := (Ks, I', G')) (List.getElem?_eq_getElem hl2)]
      dsimp only
      rw [hI k hk, hG k hk]
    · rw [List.getElem?_eq_none (by rw [wl_len]; exact Nat.not_lt.mp hl2), List.getElem?_eq_none (by rw [wl_len]; exact Nat.not_lt.mp hl2)]
theorem wl_push (b : PB) {Ks : List (Nat × Nat)} {I I' : Nat → Nat → Int32} {G G' : Nat → Nat → Option Nat} {t : Nat × Nat} {e : va_E}
    (hI : ∀ k, k ≠ Ks.length → I' k = I k) (hG : ∀ k, k ≠ Ks.length → G' k = G k) (he : e = ent b t (I' Ks.length) (G' Ks.length)) : wl b (Ks, I, G) ++ [(adr b Ks.length, e)] = wl b (Ks ++ [t], I', G') := by
  apply List.ext_getElem?
  intro k
  by_cases hl : k < Ks.length
  · rw [List.getElem?_append_left (by rw [wl_len]; exact hl), wl_at b (m := (Ks, I, G)) (List.getElem?_eq_getElem hl), wl_at b (m := (Ks ++ [t], I', G')) (t := Ks[k]) (by show (Ks ++ [t])[k]? = _; rw [List.getElem?_append_left hl]; exact List.getElem?_eq_getElem hl)]
    dsimp only
    rw [hI k (by omega), hG k (by omega)]
  · rw [List.getElem?_append_right (by rw [wl_len]; exact Nat.not_lt.mp hl), wl_len]
    by_cases hk : k = Ks.length
    · subst hk
      rw [Nat.sub_self, wl_at b (m := (Ks ++ [t], I', G')) (t := t) (by show (Ks ++ [t])[Ks.length]? = _; rw [List.getElem?_append_right (Nat.le_refl _), Nat.sub_self]; rfl), he]
      rfl
    · rw [List.getElem?_eq_none (by show 1 ≤ k - Ks.length; omega), List.getElem?_eq_none (by rw [wl_len]; show (Ks ++ [t]).length ≤ k; rw [List.length_append]; show Ks.length + 1 ≤ k; omega)]
def Ab (b : PB) : Nat → Prop := fun q => b.1 ≤ q ∧ (q < b.1 + ct b ∨ b.1 + ct b + gp b ≤ q)
abbrev lenOk (b : PB) (n : Nat) : Prop := n < 1000 ∧ (gp b = 0 ∨ n ≤ ct b)
theorem wl_D (b : PB) {m : Mem} (h0 : lenOk b m.1.length) : va_D (Ab b) (wl b m) := by
  have h := h0.1
  refine ⟨fun i j p q hi hj hpq => ?_, fun k q hk => ?_⟩
  · obtain ⟨h1, h2⟩ := wl_inv hi
    obtain ⟨h3, h4⟩ := wl_inv hj
    rw [h2, h4, adr_own (by omega), adr_own (by omega)] at hpq
    omega
  · obtain ⟨h1, h2⟩ := wl_inv hk
    rw [h2, adr_own (by omega)]
    have h3 := h0.2
    unfold Ab
    omega
def tysB (b : PB) : List (ClassId × FieldType) := [(b.2.2.2.1 0, .int), (b.2.2.2.1 1, .boolean), (b.2.2.2.1 2, .object "SinglesUp$Law")]
def TB (b : PB) (U : State) : Prop := va_K b.2.2.1 clsT (tysB b) U ∧ (∀ w ∈ NW, va_Nw w U) ∧ va_AO "SinglesUp$Law" U ∧ ∀ i, i < 18 → vk_R (stI i).1 (stI i).2.1 (stI i).2.2 (b.2.1 (3 + i)) U
def SX (b : PB) (U : State) (H : Heap) : Prop := vk_S 18 lenJ bytJ (fun i => b.2.1 (3 + i)) (fun i => b.2.1 (21 + i)) (Ab b) U H ∧ va_Z "java/lang/String" "COMPACT_STRINGS" "Z" (.int 1) (Ab b) U H ∧ (va_Z "jdk/internal/util/Preconditions" "SIOOBE_FORMATTER" "Ljava/util/function/BiFunction;" .null (Ab b) U H ∨ va_Z "jdk/internal/util/Preconditions" "SIOOBE_FORMATTER" "Ljava/util/function/BiFunction;" (.ref (b.2.1 50)) (Ab b) U H)
theorem SX.moved {b : PB} {u U : State} {H : Heap} (h : u.vm.Alike U.vm) (hE : SX b u H) : SX b U H :=
  ⟨vk_S.moved h hE.1, va_Z.moved h hE.2.1, hE.2.2.elim (fun q => Or.inl (va_Z.moved h q)) (fun q => Or.inr (va_Z.moved h q))⟩
theorem SX.kept {b : PB} {u : State} {H H1 : Heap} (hE : SX b u H) (hq : ∀ q : Nat, q < H.size → ¬ Ab b q → H1[q]? = H[q]?) : SX b u H1 :=
  ⟨hE.1.kept hq, hE.2.1.kept hq, hE.2.2.elim (fun q => Or.inl (q.kept hq)) (fun q => Or.inr (q.kept hq))⟩
def EX (b : PB) (U : State) (H : Heap) : Prop := va_Z "SinglesUp" "LEAST" "[I" (.ref (b.2.1 1)) (Ab b) U H ∧ va_T .int (b.2.1 1) 6 (fun j => .int (least_f j)) (Ab b) U H ∧ va_Z "SinglesUp" "MOST" "[I" (.ref (b.2.1 2)) (Ab b) U H ∧ va_T .int (b.2.1 2) 6 (fun j => .int (most_f j)) (Ab b) U H ∧ va_X (b.2.1 0) (scL b) (scX b) U H ∧ b.2.1 0 < H.size ∧ ¬ Ab b (b.2.1 0) ∧ SX b U H
theorem TB.same {b : PB} {u U : State} (h : u.vm = U.vm) (hT : TB b u) : TB b U := by
  have ha : u.vm.Alike U.vm := h ▸ Vm.Alike.refl u.vm
  refine ⟨va_K.moved ha hT.1, fun w hw => ?_, va_AO.moved ha hT.2.2.1, fun i hi => vk_R.same h.symm (hT.2.2.2 i hi)⟩
  have hn := (List.mem_filter.mp hw).2
  have h1 := hT.2.1 w hw
  cases w <;> first | (exact absurd (show false = true from hn) (by decide)) | (exact va_Nw.same rfl h h1)
theorem TB.warm {b : PB} {s U : State} (hW : s.WarmedH U.vm) (hT : TB b s) : TB b U := by
  refine ⟨va_K.moved hW.alike hT.1, fun w hw => ?_, va_AO.moved hW.alike hT.2.2.1, fun i hi => vk_R.warm hW (hT.2.2.2 i hi)⟩
  have hn := (List.mem_filter.mp hw).2
  have h1 := hT.2.1 w hw
  cases w <;> first | (exact absurd (show false = true from hn) (by decide)) | (exact va_Nw.warmF hW h1) | (exact va_Nw.warmM hW h1)
theorem EX.moved {b : PB} {u U : State} {H : Heap} (h : u.vm.Alike U.vm) (hE : EX b u H) : EX b U H :=
  ⟨va_Z.moved h hE.1, va_T.moved h hE.2.1, va_Z.moved h hE.2.2.1, va_T.moved h hE.2.2.2.1, va_X.moved h hE.2.2.2.2.1, hE.2.2.2.2.2.1, hE.2.2.2.2.2.2.1, SX.moved h hE.2.2.2.2.2.2.2⟩
theorem EX.kept {b : PB} {u : State} {H H1 : Heap} (hE : EX b u H) (hz : H.size ≤ H1.size) (hq : ∀ q : Nat, q < H.size → ¬ Ab b q → H1[q]? = H[q]?) : EX b u H1 :=
  ⟨hE.1.kept hq, hE.2.1.kept hq, hE.2.2.1.kept hq, hE.2.2.2.1.kept hq, hE.2.2.2.2.1.kept (hq _ hE.2.2.2.2.2.1 hE.2.2.2.2.2.2.1), Nat.lt_of_lt_of_le hE.2.2.2.2.2.1 hz, hE.2.2.2.2.2.2.1, hE.2.2.2.2.2.2.2.kept hq⟩
/-- the values of the frame; .float 0: nothing is known of that place -/
def kn : Value → Bool
  | .float _ => false
  | _ => true
abbrev uu : Value := .float 0
def LH (b : PB) (ls : Array Slot) (nL : Nat) (lv : List Value) : Prop := ls.size = nL ∧ lv_wf ls ∧ lv.length = nL ∧ ∀ (i : Nat) (v : Value), lv[i]? = some v → v.category = 1 ∧ (kn v = true → ls[i]? = some (.val (tau b v)))
def pr (b : PB) (lv : List Value) : List (Nat × Value) := (List.range lv.length).filterMap (fun i => match lv[i]? with | some v => if kn v then some (i, tau b v) else none | none => none)
theorem pr_mem {b : PB} {lv : List Value} {q : Nat × Value} : q ∈ pr b lv ↔ ∃ v, lv[q.1]? = some v ∧ kn v = true ∧ q.2 = tau b v := by
  unfold pr
  rw [List.mem_filterMap]
  constructor
  · rintro ⟨i, -, hi⟩
    cases hv : lv[i]? with
    | none => rw [hv] at hi; cases hi
    | some v =>
      rw [hv] at hi
      dsimp only at hi
      by_cases hk : kn v = true
      · rw [if_pos hk] at hi
        cases hi
        exact ⟨v, hv, hk, rfl⟩
      · rw [if_neg hk] at hi
        cases hi
  · rintro ⟨v, hv, hk, he⟩
    refine ⟨q.1, List.mem_range.mpr (List.getElem?_eq_some_iff.mp hv).1, ?_⟩
    rw [hv]
    dsimp only
    rw [if_pos hk, ← he]
theorem LH.has {b : PB} {ls : Array Slot} {nL : Nat} {lv : List Value} (h : LH b ls nL lv) : lv_has ls nL (pr b lv) := by
  refine ⟨h.1, h.2.1, fun q hq => ?_⟩
  obtain ⟨v, hv, hk, he⟩ := pr_mem.mp hq
  rw [he]
  exact (h.2.2.2 q.1 v hv).2 hk
theorem LH.get {b : PB} {ls : Array Slot} {nL : Nat} {lv : List Value} (h : LH b ls nL lv) {i : Nat} {v : Value} (hi : lv[i]? = some v) (hk : kn v = true) : ls[i]? = some (.val (tau b v)) := (h.2.2.2 i v hi).2 hk
theorem LH.set {b : PB} {ls ls' : Array Slot} {nL : Nat} {lv : List Value} (h : LH b ls nL lv) {i : Nat} {v : Value} (hi : i < nL) (hc : v.category = 1)
    (h' : lv_has ls' nL ((i, tau b v) :: (pr b lv).filter (fun q => !(q.1 == i) && !(q.1 + 1 == i && q.2.category == 2)))) : LH b ls' nL (lv.set i v) := by
  refine ⟨h'.1, h'.2.1, by rw [List.length_set]; exact h.2.2.1, fun j w hj => ?_⟩
  by_cases hji : j = i
  · subst hji
    rw [List.getElem?_set_self (by rw [h.2.2.1]; exact hi)] at hj
    cases hj
    exact ⟨hc, fun _ => h'.2.2 (j, tau b v) List.mem_cons_self⟩
  · rw [List.getElem?_set_ne (Ne.symm hji)] at hj
    refine ⟨(h.2.2.2 j w hj).1, fun hk => ?_⟩
    have hm : (j, tau b w) ∈ pr b lv := pr_mem.mpr ⟨w, hj, hk, rfl⟩
    refine h'.2.2 (j, tau b w) (List.mem_cons_of_mem _ (List.mem_filter.mpr ⟨hm, ?_⟩))
    have h1 : (tau b w).category = 1 := by rw [tau_cat]; exact (h.2.2.2 j w hj).1
    simp [hji, h1]
theorem LH.weak {b : PB} {ls : Array Slot} {nL : Nat} {lv lv' : List Value} (h : LH b ls nL lv) (hl : lv'.length = lv.length) (hw : ∀ (i : Nat) (v : Value), lv'[i]? = some v → kn v = false ∧ v.category = 1 ∨ lv[i]? = some v) : LH b ls nL lv' := by
  refine ⟨h.1, h.2.1, by rw [hl]; exact h.2.2.1, fun i v hv => ?_⟩
  rcases hw i v hv with ⟨h1, h2⟩ | h1
  · exact ⟨h2, fun hk => by rw [h1] at hk; cases hk⟩
  · exact h.2.2.2 i v h1
def padl (n : Nat) (as : List Value) : List Value := as ++ List.replicate (n - as.length) uu
theorem args_in (b : PB) : ∀ (as : List Value) (k : Nat), (∀ v ∈ as, v.category = 1) → ∀ (j : Nat) (v : Value), as[j]? = some v → (k + j, tau b v) ∈ lv_args k (as.map (tau b)) := by
  intro as
  induction as with
  | nil => intro k _ j v h; simp at h
  | cons a t ih =>
    intro k hc j v hj
    have hca : ¬ (tau b a).category = 2 := by rw [tau_cat, hc a List.mem_cons_self]; decide
    show (k + j, tau b v) ∈ (k, tau b a) :: lv_args (if (tau b a).category = 2 then k + 2 else k + 1) (t.map (tau b))
    rw [if_neg hca]
    cases j with
    | zero =>
      cases hj
      exact List.mem_cons_self
    | succ j =>
      have h1 := ih (k + 1) (fun w hw => hc w (List.mem_cons_of_mem _ hw)) j v (by simpa using hj)
      rw [show k + (j + 1) = k + 1 + j by omega]
      exact List.mem_cons_of_mem _ h1
theorem lg_sl_len (b : PB) : ∀ (as : List Value), (∀ v ∈ as, v.category = 1) → (lg_sl (as.map (tau b))).length = as.length := by
  intro as
  induction as with
  | nil => intro _; rfl
  | cons a t ih =>
    intro hc
    have hca : ¬ (tau b a).category = 2 := by rw [tau_cat, hc a List.mem_cons_self]; decide
    have h1 := ih (fun w hw => hc w (List.mem_cons_of_mem _ hw))
    show ((if (tau b a).category = 2 then [Slot.val (tau b a), Slot.second] else [Slot.val (tau b a)]) ++ lg_sl (t.map (tau b))).length = t.length + 1
    rw [if_neg hca, List.length_append, h1]
    show 1 + t.length = _
    omega
theorem LH.entry (b : PB) {as : List Value} {n : Nat} (hn : as.length ≤ n) (hc : ∀ v ∈ as, v.category = 1) : LH b ((lg_sl (as.map (tau b)) ++ List.replicate (n - (lg_sl (as.map (tau b))).length) Slot.unset).toArray) n (padl n as) := by
  obtain ⟨h1, h2, h3⟩ := lv_entry (as.map (tau b)) (n := n) (by rw [lg_sl_len b as hc]; exact hn)
  refine ⟨h1, h2, by unfold padl; rw [List.length_append, List.length_replicate]; omega, fun i v hv => ?_⟩
  unfold padl at hv
  by_cases hi : i < as.length
  · rw [List.getElem?_append_left hi] at hv
    refine ⟨hc v (List.mem_of_getElem? hv), fun _ => ?_⟩
    have h4 := args_in b as 0 hc i v hv
    rw [Nat.zero_add] at h4
    exact h3 _ h4
  · rw [List.getElem?_append_right (Nat.not_lt.mp hi), List.getElem?_replicate] at hv
    split at hv
    · cases hv
      exact ⟨rfl, fun h => by cases h⟩
    · cases hv
/-- what holds of the running method: y its name, bytes, size of its frame, what it answers -/
def Cx (b : PB) (y : MI) (n0 : Nat) (p : Program) (s : State) (mm : MethodId) (args : Array Value) (meth : Method) (c : Code) : Prop :=
  CallFix p mm c y.2.1 y.2.2.1 s args TW y.1.cls ∧ meth.sig.returnType = y.2.2.2 ∧ meth.locks = false ∧ (y.1.name = "<init>" → meth.name = "<init>") ∧ TB b s ∧ EX b s s.heap ∧ s.heap.size = b.1 + n0 + gp b
def RetAt (y : MI) (pc : Nat) : Option Value → Prop
  | none => y.2.2.2 = none ∧ decode y.2.1 pc = .ok (.return_, 1)
  | some (.int x) => (∃ ty, y.2.2.2 = some ty ∧ narrow ty (.int x) = .int x) ∧ decode y.2.1 pc = .ok (.ireturn, 1)
  | some (.ref _) => (∃ ty, y.2.2.2 = some ty ∧ ((∃ n, ty = .object n) ∨ ∃ t, ty = .array t)) ∧ decode y.2.1 pc = .ok (.areturn, 1)
  | _ => False
def AW (l : Launch) (b : PB) (R : Room) (y : MI) (K : Kont) (lf sf : Nat) (m : Mem) (pc : Nat) (lv st : List Value) : Prop :=
  ∀ (p : Program) (e : Env) (s : State) (mm : MethodId) (args : Array Value) (below : List Frame) (meth : Method) (c : Code) (Q : State → Prop) (n0 s0 : Nat),
    Cx b y n0 p s mm args meth c → R.cells + n0 = lf → R.slots + s0 = sf →
    (∀ (H : Heap) (locs : List Loc) (cells slots : Nat) (ls : Array Slot) (pc' : Nat) (v : Option Value) (m' : Mem), K v m' → va_P b.2.2.1 clsT (wl b m') H → va_S (Ab b) s.heap H locs → cells ≤ R.cells → slots ≤ R.slots → RetAt y pc' v →
      W p l e R s mm args below meth c H locs cells slots Q (F0 mm pc' ls (v.map (tau b)).toList)) →
    ∀ (H : Heap) (locs : List Loc) (cells slots : Nat) (ls : Array Slot), va_P b.2.2.1 clsT (wl b m) H → va_S (Ab b) s.heap H locs → cells + n0 = m.1.length → slots + s0 = sl m.1 → lenOk b m.1.length ∧ (gp b = 0 ∨ cells = 0) → LH b ls y.2.2.1 lv →
      W p l e R s mm args below meth c H locs cells slots Q (F0 mm pc ls (st.map (tau b)))
section AMR
variable {l : Launch} {b : PB} {R : Room} {y : MI} {K : Kont} {lf sf : Nat} {m : Mem} {pc : Nat} {lv st : List Value}
theorem W.szi {p : Program} {e : Env} {s : State} {mm : MethodId} {args : Array Value} {below : List Frame} {meth : Method} {c : Code} {H : Heap} {locs : List Loc} {cells slots : Nat} {Q : State → Prop} {g : JFrame} (k : H.size ≤ s.heap.size + cells → W p l e R s mm args below meth c H locs cells slots Q g) : W p l e R s mm args below meth c H locs cells slots Q g := fun T hT X => k (by rw [← hT]; exact X.heapSize) T hT X
theorem aw_step {pc2 : Nat} {st2 : List Value} (h : ∀ (p : Program) (e : Env) (s : State) (mm : MethodId) (args : Array Value) (below : List Frame) (meth : Method) (c : Code) (Q : State → Prop) (n0 : Nat) (H : Heap) (locs : List Loc) (cells slots : Nat) (ls : Array Slot), Cx b y n0 p s mm args meth c → va_P b.2.2.1 clsT (wl b m) H → va_S (Ab b) s.heap H locs → LH b ls y.2.2.1 lv →
      W p l e R s mm args below meth c H locs cells slots Q (F0 mm pc2 ls (st2.map (tau b))) → W p l e R s mm args below meth c H locs cells slots Q (F0 mm pc ls (st.map (tau b))))
    (k : AW l b R y K lf sf m pc2 lv st2) : AW l b R y K lf sf m pc lv st := by
  intro p e s mm args below meth c Q n0 s0 C h1 h2 hF H locs cells slots ls hP hS hc hs hN hL
  exact h p e s mm args below meth c Q n0 H locs cells slots ls C hP hS hL (k p e s mm args below meth c Q n0 s0 C h1 h2 hF H locs cells slots ls hP hS hc hs hN hL)
/-- a store into the frame -/
theorem aw_stl {pc2 : Nat} {st2 lv2 : List Value} (h : ∀ (p : Program) (e : Env) (s : State) (mm : MethodId) (args : Array Value) (below : List Frame) (meth : Method) (c : Code) (Q : State → Prop) (n0 : Nat) (H : Heap) (locs : List Loc) (cells slots : Nat) (ls : Array Slot), Cx b y n0 p s mm args meth c → LH b ls y.2.2.1 lv →
      (∀ ls2 : Array Slot, LH b ls2 y.2.2.1 lv2 → W p l e R s mm args below meth c H locs cells slots Q (F0 mm pc2 ls2 (st2.map (tau b)))) → W p l e R s mm args below meth c H locs cells slots Q (F0 mm pc ls (st.map (tau b))))
    (k : AW l b R y K lf sf m pc2 lv2 st2) : AW l b R y K lf sf m pc lv st := by
  intro p e s mm args below meth c Q n0 s0 C h1 h2 hF H locs cells slots ls hP hS hc hs hN hL
  exact h p e s mm args below meth c Q n0 H locs cells slots ls C hL (fun ls2 hL2 => k p e s mm args below meth c Q n0 s0 C h1 h2 hF H locs cells slots ls2 hP hS hc hs hN hL2)
theorem aw_mono {K2 : Kont} (k : AW l b R y K lf sf m pc lv st) (h : ∀ v m', K v m' → K2 v m') : AW l b R y K2 lf sf m pc lv st := by
  intro p e s mm args below meth c Q n0 s0 C h1 h2 hF
  exact k p e s mm args below meth c Q n0 s0 C h1 h2 (fun H locs cells slots ls pc' v m' hK => hF H locs cells slots ls pc' v m' (h v m' hK))
theorem aw_weak {lv2 : List Value} (hl : lv2.length = lv.length) (hw : ∀ (i : Nat) (v : Value), lv2[i]? = some v → kn v = false ∧ v.category = 1 ∨ lv[i]? = some v) (k : AW l b R y K lf sf m pc lv2 st) : AW l b R y K lf sf m pc lv st := by
  intro p e s mm args below meth c Q n0 s0 C h1 h2 hF H locs cells slots ls hP hS hc hs hN hL
  exact k p e s mm args below meth c Q n0 s0 C h1 h2 hF H locs cells slots ls hP hS hc hs hN (hL.weak hl hw)
theorem aw_iconst {n : Int} {v : Int32} (hv : Int32.ofInt n = v) (hd : decode y.2.1 pc = .ok (.iconst n, 1)) (k : AW l b R y K lf sf m (pc + 1) lv (.int v :: st)) : AW l b R y K lf sf m pc lv st := aw_step (st := st) (st2 := (.int v :: st)) (fun p e s mm args below meth c Q n0 H locs cells slots ls C hP hS hL kk => lv_iconst C.1.1 C.1.2.1 hd hv kk) k
theorem aw_bipush {n : Int} {v : Int32} (hv : (Int8.ofInt n).toInt32 = v) (hd : decode y.2.1 pc = .ok (.bipush n, 2)) (k : AW l b R y K lf sf m (pc + 2) lv (.int v :: st)) : AW l b R y K lf sf m pc lv st := aw_step (st := st) (st2 := (.int v :: st)) (fun p e s mm args below meth c Q n0 H locs cells slots ls C hP hS hL kk => lv_bipush C.1.1 C.1.2.1 hd hv kk) k
theorem aw_sipush {n : Int} {v : Int32} (hv : (Int16.ofInt n).toInt32 = v) (hd : decode y.2.1 pc = .ok (.sipush n, 3)) (k : AW l b R y K lf sf m (pc + 3) lv (.int v :: st)) : AW l b R y K lf sf m pc lv st := aw_step (st := st) (st2 := (.int v :: st)) (fun p e s mm args below meth c Q n0 H locs cells slots ls C hP hS hL kk => lv_sipush C.1.1 C.1.2.1 hd hv kk) k
theorem aw_ldc {i : Nat} {v : Int32} (hw : Cond.constant y.1.cls i v ∈ TW) (hd : decode y.2.1 pc = .ok (.ldc i, 2)) (k : AW l b R y K lf sf m (pc + 2) lv (.int v :: st)) : AW l b R y K lf sf m pc lv st := aw_step (st := st) (st2 := (.int v :: st)) (fun p e s mm args below meth c Q n0 H locs cells slots ls C hP hS hL kk => lv_ldc C.1.1 C.1.2.1 C.1.2.2.2.1 (C.1.2.2.2.2 _ hw) hd kk) k
theorem aw_ldc2 {i : Nat} {v : Int64} (hw : Cond.constantLong y.1.cls i v ∈ TW) (hd : decode y.2.1 pc = .ok (.ldc2_w i, 3)) (k : AW l b R y K lf sf m (pc + 3) lv (.long v :: st)) : AW l b R y K lf sf m pc lv st := aw_step (st := st) (st2 := (.long v :: st)) (fun p e s mm args below meth c Q n0 H locs cells slots ls C hP hS hL kk => lv_ldc2 C.1.1 C.1.2.1 C.1.2.2.2.1 (C.1.2.2.2.2 _ hw) hd kk) k
theorem aw_iload_n {j : Fin 4} {i : Nat} {x : Int32} (hi : (j : Nat) = i) (hl : lv[i]? = some (.int x)) (hd : decode y.2.1 pc = .ok (.iload_n j, 1)) (k : AW l b R y K lf sf m (pc + 1) lv (.int x :: st)) : AW l b R y K lf sf m pc lv st := aw_step (st := st) (st2 := (.int x :: st)) (fun p e s mm args below meth c Q n0 H locs cells slots ls C hP hS hL kk => lv_iload_n C.1.1 C.1.2.1 hd hi (hL.get hl rfl) kk) k
theorem aw_iload {i : Nat} {x : Int32} (hl : lv[i]? = some (.int x)) (hd : decode y.2.1 pc = .ok (.iload i, 2)) (k : AW l b R y K lf sf m (pc + 2) lv (.int x :: st)) : AW l b R y K lf sf m pc lv st := aw_step (st := st) (st2 := (.int x :: st)) (fun p e s mm args below meth c Q n0 H locs cells slots ls C hP hS hL kk => lv_iload C.1.1 C.1.2.1 hd (hL.get hl rfl) kk) k
theorem aw_aload_n {j : Fin 4} {i o : Nat} (hi : (j : Nat) = i) (hl : lv[i]? = some (.ref o)) (hd : decode y.2.1 pc = .ok (.aload_n j, 1)) (k : AW l b R y K lf sf m (pc + 1) lv (.ref o :: st)) : AW l b R y K lf sf m pc lv st := aw_step (st := st) (st2 := (.ref o :: st)) (fun p e s mm args below meth c Q n0 H locs cells slots ls C hP hS hL kk => lv_aload_n C.1.1 C.1.2.1 hd hi (hL.get hl rfl) kk) k
theorem aw_aload {i o : Nat} (hl : lv[i]? = some (.ref o)) (hd : decode y.2.1 pc = .ok (.aload i, 2)) (k : AW l b R y K lf sf m (pc + 2) lv (.ref o :: st)) : AW l b R y K lf sf m pc lv st := aw_step (st := st) (st2 := (.ref o :: st)) (fun p e s mm args below meth c Q n0 H locs cells slots ls C hP hS hL kk => lv_aload C.1.1 C.1.2.1 hd (hL.get hl rfl) kk) k
theorem aw_istore_n {j : Fin 4} {i : Nat} {x : Int32} (hj : (j : Nat) = i) {lv2 : List Value} (hi : i < y.2.2.1) (hl : lv.set i (.int x) = lv2) (hd : decode y.2.1 pc = .ok (.istore_n j, 1)) (k : AW l b R y K lf sf m (pc + 1) lv2 st) : AW l b R y K lf sf m pc lv (.int x :: st) := aw_stl (st := (.int x :: st)) (st2 := st) (lv2 := lv2) (fun p e s mm args below meth c Q n0 H locs cells slots ls C hL kk => lv_istore_n C.1.1 C.1.2.1 hd hj hL.has hi rfl (fun ls2 h2 => kk ls2 (hl ▸ hL.set hi rfl h2))) k
theorem aw_istore {i : Nat} {x : Int32} {lv2 : List Value} (hi : i < y.2.2.1) (hl : lv.set i (.int x) = lv2) (hd : decode y.2.1 pc = .ok (.istore i, 2)) (k : AW l b R y K lf sf m (pc + 2) lv2 st) : AW l b R y K lf sf m pc lv (.int x :: st) := aw_stl (st := (.int x :: st)) (st2 := st) (lv2 := lv2) (fun p e s mm args below meth c Q n0 H locs cells slots ls C hL kk => lv_istore C.1.1 C.1.2.1 hd hL.has hi rfl (fun ls2 h2 => kk ls2 (hl ▸ hL.set hi rfl h2))) k
theorem aw_astore_n {j : Fin 4} {i : Nat} {x : Nat} (hj : (j : Nat) = i) {lv2 : List Value} (hi : i < y.2.2.1) (hl : lv.set i (.ref x) = lv2) (hd : decode y.2.1 pc = .ok (.astore_n j, 1)) (k : AW l b R y K lf sf m (pc + 1) lv2 st) : AW l b R y K lf sf m pc lv (.ref x :: st) := aw_stl (st := (.ref x :: st)) (st2 := st) (lv2 := lv2) (fun p e s mm args below meth c Q n0 H locs cells slots ls C hL kk => lv_astore_n C.1.1 C.1.2.1 hd hj hL.has hi rfl (fun ls2 h2 => kk ls2 (hl ▸ hL.set hi rfl h2))) k
theorem aw_astore {i : Nat} {x : Nat} {lv2 : List Value} (hi : i < y.2.2.1) (hl : lv.set i (.ref x) = lv2) (hd : decode y.2.1 pc = .ok (.astore i, 2)) (k : AW l b R y K lf sf m (pc + 2) lv2 st) : AW l b R y K lf sf m pc lv (.ref x :: st) := aw_stl (st := (.ref x :: st)) (st2 := st) (lv2 := lv2) (fun p e s mm args below meth c Q n0 H locs cells slots ls C hL kk => lv_astore C.1.1 C.1.2.1 hd hL.has hi rfl (fun ls2 h2 => kk ls2 (hl ▸ hL.set hi rfl h2))) k
theorem pr_at {i : Nat} {v : Value} (h : lv[i]? = some v) (hk : kn v = true) : ∃ k : Nat, (pr b lv)[k]? = some (i, tau b v) := List.getElem?_of_mem (pr_mem.mpr ⟨v, h, hk, rfl⟩)
theorem aw_iinc {i : Nat} {n : Int} {x v : Int32} {lv2 : List Value} (hx : lv[i]? = some (.int x)) (hv : x + Int32.ofInt n = v) (hi : i < y.2.2.1) (hl : lv.set i (.int v) = lv2) (hd : decode y.2.1 pc = .ok (.iinc i n, 3)) (k : AW l b R y K lf sf m (pc + 3) lv2 st) : AW l b R y K lf sf m pc lv st := aw_stl (st := st) (st2 := st) (lv2 := lv2) (fun p e s mm args below meth c Q n0 H locs cells slots ls C hL kk => by
  obtain ⟨j, hj⟩ := pr_at (b := b) hx rfl
  exact lv_iinc C.1.1 C.1.2.1 hd hL.has hj hv hi rfl (fun ls2 h2 => kk ls2 (hl ▸ hL.set hi rfl h2))) k
theorem aw_iadd {x z : Int32} (hd : decode y.2.1 pc = .ok (.iadd, 1)) (k : AW l b R y K lf sf m (pc + 1) lv (.int (x + z) :: st)) : AW l b R y K lf sf m pc lv (.int z :: .int x :: st) := aw_step (st := (.int z :: .int x :: st)) (st2 := (.int (x + z) :: st)) (fun p e s mm args below meth c Q n0 H locs cells slots ls C hP hS hL kk => lv_iadd C.1.1 C.1.2.1 hd kk) k
theorem aw_isub {x z : Int32} (hd : decode y.2.1 pc = .ok (.isub, 1)) (k : AW l b R y K lf sf m (pc + 1) lv (.int (x - z) :: st)) : AW l b R y K lf sf m pc lv (.int z :: .int x :: st) := aw_step (st := (.int z :: .int x :: st)) (st2 := (.int (x - z) :: st)) (fun p e s mm args below meth c Q n0 H locs cells slots ls C hP hS hL kk => lv_isub C.1.1 C.1.2.1 hd kk) k
theorem aw_imul {x z : Int32} (hd : decode y.2.1 pc = .ok (.imul, 1)) (k : AW l b R y K lf sf m (pc + 1) lv (.int (x * z) :: st)) : AW l b R y K lf sf m pc lv (.int z :: .int x :: st) := aw_step (st := (.int z :: .int x :: st)) (st2 := (.int (x * z) :: st)) (fun p e s mm args below meth c Q n0 H locs cells slots ls C hP hS hL kk => lv_imul C.1.1 C.1.2.1 hd kk) k
theorem aw_iand {x z : Int32} (hd : decode y.2.1 pc = .ok (.iand, 1)) (k : AW l b R y K lf sf m (pc + 1) lv (.int (x &&& z) :: st)) : AW l b R y K lf sf m pc lv (.int z :: .int x :: st) := aw_step (st := (.int z :: .int x :: st)) (st2 := (.int (x &&& z) :: st)) (fun p e s mm args below meth c Q n0 H locs cells slots ls C hP hS hL kk => lv_iand C.1.1 C.1.2.1 hd kk) k
theorem aw_ior {x z : Int32} (hd : decode y.2.1 pc = .ok (.ior, 1)) (k : AW l b R y K lf sf m (pc + 1) lv (.int (x ||| z) :: st)) : AW l b R y K lf sf m pc lv (.int z :: .int x :: st) := aw_step (st := (.int z :: .int x :: st)) (st2 := (.int (x ||| z) :: st)) (fun p e s mm args below meth c Q n0 H locs cells slots ls C hP hS hL kk => lv_ior C.1.1 C.1.2.1 hd kk) k
theorem aw_ixor {x z : Int32} (hd : decode y.2.1 pc = .ok (.ixor, 1)) (k : AW l b R y K lf sf m (pc + 1) lv (.int (x ^^^ z) :: st)) : AW l b R y K lf sf m pc lv (.int z :: .int x :: st) := aw_step (st := (.int z :: .int x :: st)) (st2 := (.int (x ^^^ z) :: st)) (fun p e s mm args below meth c Q n0 H locs cells slots ls C hP hS hL kk => lv_ixor C.1.1 C.1.2.1 hd kk) k
theorem aw_ishl {x z : Int32} (hd : decode y.2.1 pc = .ok (.ishl, 1)) (k : AW l b R y K lf sf m (pc + 1) lv (.int (x <<< (z &&& 31)) :: st)) : AW l b R y K lf sf m pc lv (.int z :: .int x :: st) := aw_step (st := (.int z :: .int x :: st)) (st2 := (.int (x <<< (z &&& 31)) :: st)) (fun p e s mm args below meth c Q n0 H locs cells slots ls C hP hS hL kk => lv_ishl C.1.1 C.1.2.1 hd kk) k
theorem aw_ishr {x z : Int32} (hd : decode y.2.1 pc = .ok (.ishr, 1)) (k : AW l b R y K lf sf m (pc + 1) lv (.int (x >>> (z &&& 31)) :: st)) : AW l b R y K lf sf m pc lv (.int z :: .int x :: st) := aw_step (st := (.int z :: .int x :: st)) (st2 := (.int (x >>> (z &&& 31)) :: st)) (fun p e s mm args below meth c Q n0 H locs cells slots ls C hP hS hL kk => lv_ishr C.1.1 C.1.2.1 hd kk) k
theorem aw_iushr {x z v : Int32} (hv : (x.toUInt32 >>> (z.toUInt32 &&& Int32.toUInt32 31)).toInt32 = v) (hd : decode y.2.1 pc = .ok (.iushr, 1)) (k : AW l b R y K lf sf m (pc + 1) lv (.int v :: st)) : AW l b R y K lf sf m pc lv (.int z :: .int x :: st) := aw_step (st := (.int z :: .int x :: st)) (st2 := (.int v :: st)) (fun p e s mm args below meth c Q n0 H locs cells slots ls C hP hS hL kk => lv_iushr C.1.1 C.1.2.1 hd hv kk) k
theorem aw_idiv {x z : Int32} (hne : ¬ z = 0) (hd : decode y.2.1 pc = .ok (.idiv, 1)) (k : AW l b R y K lf sf m (pc + 1) lv (.int (x / z) :: st)) : AW l b R y K lf sf m pc lv (.int z :: .int x :: st) := aw_step (st := (.int z :: .int x :: st)) (st2 := (.int (x / z) :: st)) (fun p e s mm args below meth c Q n0 H locs cells slots ls C hP hS hL kk => lv_idiv C.1.1 C.1.2.1 hd hne kk) k
theorem aw_irem {x z : Int32} (hne : ¬ z = 0) (hd : decode y.2.1 pc = .ok (.irem, 1)) (k : AW l b R y K lf sf m (pc + 1) lv (.int (x - x / z * z) :: st)) : AW l b R y K lf sf m pc lv (.int z :: .int x :: st) := aw_step (st := (.int z :: .int x :: st)) (st2 := (.int (x - x / z * z) :: st)) (fun p e s mm args below meth c Q n0 H locs cells slots ls C hP hS hL kk => lv_irem C.1.1 C.1.2.1 hd hne kk) k
theorem aw_i2l {x : Int32} {v : Int64} (hv : x.toInt64 = v) (hd : decode y.2.1 pc = .ok (.i2l, 1)) (k : AW l b R y K lf sf m (pc + 1) lv (.long v :: st)) : AW l b R y K lf sf m pc lv (.int x :: st) := aw_step (st := (.int x :: st)) (st2 := (.long v :: st)) (fun p e s mm args below meth c Q n0 H locs cells slots ls C hP hS hL kk => lv_i2l C.1.1 C.1.2.1 hd hv kk) k
theorem aw_l2i {x : Int64} {v : Int32} (hv : x.toInt32 = v) (hd : decode y.2.1 pc = .ok (.l2i, 1)) (k : AW l b R y K lf sf m (pc + 1) lv (.int v :: st)) : AW l b R y K lf sf m pc lv (.long x :: st) := aw_step (st := (.long x :: st)) (st2 := (.int v :: st)) (fun p e s mm args below meth c Q n0 H locs cells slots ls C hP hS hL kk => lv_l2i C.1.1 C.1.2.1 hd hv kk) k
theorem aw_lmul {x z : Int64} (hd : decode y.2.1 pc = .ok (.lmul, 1)) (k : AW l b R y K lf sf m (pc + 1) lv (.long (x * z) :: st)) : AW l b R y K lf sf m pc lv (.long z :: .long x :: st) := aw_step (st := (.long z :: .long x :: st)) (st2 := (.long (x * z) :: st)) (fun p e s mm args below meth c Q n0 H locs cells slots ls C hP hS hL kk => lv_lmul C.1.1 C.1.2.1 hd kk) k
theorem aw_ldiv {x z : Int64} (hne : ¬ z = 0) (hd : decode y.2.1 pc = .ok (.ldiv, 1)) (k : AW l b R y K lf sf m (pc + 1) lv (.long (x / z) :: st)) : AW l b R y K lf sf m pc lv (.long z :: .long x :: st) := aw_step (st := (.long z :: .long x :: st)) (st2 := (.long (x / z) :: st)) (fun p e s mm args below meth c Q n0 H locs cells slots ls C hP hS hL kk => lv_ldiv C.1.1 C.1.2.1 hd hne kk) k
theorem aw_i2c {x v : Int32} (hv : (x.toUInt32 % 65536).toInt32 = v) (hd : decode y.2.1 pc = .ok (.i2c, 1)) (k : AW l b R y K lf sf m (pc + 1) lv (.int v :: st)) : AW l b R y K lf sf m pc lv (.int x :: st) := aw_step (st := (.int x :: st)) (st2 := (.int v :: st)) (fun p e s mm args below meth c Q n0 H locs cells slots ls C hP hS hL kk => lv_i2c C.1.1 C.1.2.1 hd hv kk) k
theorem aw_dup {v : Value} (hv : v.category = 1) (hd : decode y.2.1 pc = .ok (.dup, 1)) (k : AW l b R y K lf sf m (pc + 1) lv (v :: v :: st)) : AW l b R y K lf sf m pc lv (v :: st) := aw_step (st := (v :: st)) (st2 := (v :: v :: st)) (fun p e s mm args below meth c Q n0 H locs cells slots ls C hP hS hL kk => lv_dup C.1.1 C.1.2.1 hd (by rw [tau_cat]; exact hv) kk) k
theorem aw_pop {v : Value} (hv : v.category = 1) (hd : decode y.2.1 pc = .ok (.pop, 1)) (k : AW l b R y K lf sf m (pc + 1) lv st) : AW l b R y K lf sf m pc lv (v :: st) := aw_step (st := (v :: st)) (st2 := st) (fun p e s mm args below meth c Q n0 H locs cells slots ls C hP hS hL kk => lv_pop C.1.1 C.1.2.1 hd (by rw [tau_cat]; exact hv) kk) k
theorem aw_dup2 {v z : Value} (hv : v.category = 1) (hz : z.category = 1) (hd : decode y.2.1 pc = .ok (.dup2, 1)) (k : AW l b R y K lf sf m (pc + 1) lv (v :: z :: v :: z :: st)) : AW l b R y K lf sf m pc lv (v :: z :: st) := aw_step (st := (v :: z :: st)) (st2 := (v :: z :: v :: z :: st)) (fun p e s mm args below meth c Q n0 H locs cells slots ls C hP hS hL kk => lv_dup2_11 C.1.1 C.1.2.1 hd (by rw [tau_cat]; exact hv) (by rw [tau_cat]; exact hz) kk) k
theorem aw_goto {off : Int} {tgt : Nat} (ht : (pc : Int) + off = (tgt : Int)) (hd : decode y.2.1 pc = .ok (.goto off, 3)) (k : AW l b R y K lf sf m tgt lv st) : AW l b R y K lf sf m pc lv st := aw_step (fun p e s mm args below meth c Q n0 H locs cells slots ls C hP hS hL kk => lv_goto C.1.1 C.1.2.1 hd ht kk) k
theorem aw_if_eq {x : Int32} {off : Int} {tgt : Nat} (ht : (pc : Int) + off = (tgt : Int)) (hd : decode y.2.1 pc = .ok (.ifCond .eq off, 3)) (kt : x = 0 → AW l b R y K lf sf m tgt lv st) (kf : ¬ x = 0 → AW l b R y K lf sf m (pc + 3) lv st) : AW l b R y K lf sf m pc lv (.int x :: st) := by
  intro p e s mm args below meth c Q n0 s0 C h1 h2 hF H locs cells slots ls hP hS hc hs hN hL
  exact lv_if_eq C.1.1 C.1.2.1 hd ht (fun q => kt q p e s mm args below meth c Q n0 s0 C h1 h2 hF H locs cells slots ls hP hS hc hs hN hL) (fun q => kf q p e s mm args below meth c Q n0 s0 C h1 h2 hF H locs cells slots ls hP hS hc hs hN hL)
theorem aw_icmp_eq {x z : Int32} {off : Int} {tgt : Nat} (ht : (pc : Int) + off = (tgt : Int)) (hd : decode y.2.1 pc = .ok (.if_icmp .eq off, 3)) (kt : x = z → AW l b R y K lf sf m tgt lv st) (kf : ¬ x = z → AW l b R y K lf sf m (pc + 3) lv st) : AW l b R y K lf sf m pc lv (.int z :: .int x :: st) := by
  intro p e s mm args below meth c Q n0 s0 C h1 h2 hF H locs cells slots ls hP hS hc hs hN hL
  exact lv_icmp_eq C.1.1 C.1.2.1 hd ht (fun q => kt q p e s mm args below meth c Q n0 s0 C h1 h2 hF H locs cells slots ls hP hS hc hs hN hL) (fun q => kf q p e s mm args below meth c Q n0 s0 C h1 h2 hF H locs cells slots ls hP hS hc hs hN hL)
theorem aw_if_ne {x : Int32} {off : Int} {tgt : Nat} (ht : (pc : Int) + off = (tgt : Int)) (hd : decode y.2.1 pc = .ok (.ifCond .ne off, 3)) (kt : ¬ x = 0 → AW l b R y K lf sf m tgt lv st) (kf : x = 0 → AW l b R y K lf sf m (pc + 3) lv st) : AW l b R y K lf sf m pc lv (.int x :: st) := by
  intro p e s mm args below meth c Q n0 s0 C h1 h2 hF H locs cells slots ls hP hS hc hs hN hL
  exact lv_if_ne C.1.1 C.1.2.1 hd ht (fun q => kt q p e s mm args below meth c Q n0 s0 C h1 h2 hF H locs cells slots ls hP hS hc hs hN hL) (fun q => kf q p e s mm args below meth c Q n0 s0 C h1 h2 hF H locs cells slots ls hP hS hc hs hN hL)
theorem aw_icmp_ne {x z : Int32} {off : Int} {tgt : Nat} (ht : (pc : Int) + off = (tgt : Int)) (hd : decode y.2.1 pc = .ok (.if_icmp .ne off, 3)) (kt : ¬ x = z → AW l b R y K lf sf m tgt lv st) (kf : x = z → AW l b R y K lf sf m (pc + 3) lv st) : AW l b R y K lf sf m pc lv (.int z :: .int x :: st) := by
  intro p e s mm args below meth c Q n0 s0 C h1 h2 hF H locs cells slots ls hP hS hc hs hN hL
  exact lv_icmp_ne C.1.1 C.1.2.1 hd ht (fun q => kt q p e s mm args below meth c Q n0 s0 C h1 h2 hF H locs cells slots ls hP hS hc hs hN hL) (fun q => kf q p e s mm args below meth c Q n0 s0 C h1 h2 hF H locs cells slots ls hP hS hc hs hN hL)
theorem aw_if_lt {x : Int32} {off : Int} {tgt : Nat} (ht : (pc : Int) + off = (tgt : Int)) (hd : decode y.2.1 pc = .ok (.ifCond .lt off, 3)) (kt : x < 0 → AW l b R y K lf sf m tgt lv st) (kf : ¬ x < 0 → AW l b R y K lf sf m (pc + 3) lv st) : AW l b R y K lf sf m pc lv (.int x :: st) := by
  intro p e s mm args below meth c Q n0 s0 C h1 h2 hF H locs cells slots ls hP hS hc hs hN hL
  exact lv_if_lt C.1.1 C.1.2.1 hd ht (fun q => kt q p e s mm args below meth c Q n0 s0 C h1 h2 hF H locs cells slots ls hP hS hc hs hN hL) (fun q => kf q p e s mm args below meth c Q n0 s0 C h1 h2 hF H locs cells slots ls hP hS hc hs hN hL)
theorem aw_icmp_lt {x z : Int32} {off : Int} {tgt : Nat} (ht : (pc : Int) + off = (tgt : Int)) (hd : decode y.2.1 pc = .ok (.if_icmp .lt off, 3)) (kt : x < z → AW l b R y K lf sf m tgt lv st) (kf : ¬ x < z → AW l b R y K lf sf m (pc + 3) lv st) : AW l b R y K lf sf m pc lv (.int z :: .int x :: st) := by
  intro p e s mm args below meth c Q n0 s0 C h1 h2 hF H locs cells slots ls hP hS hc hs hN hL
  exact lv_icmp_lt C.1.1 C.1.2.1 hd ht (fun q => kt q p e s mm args below meth c Q n0 s0 C h1 h2 hF H locs cells slots ls hP hS hc hs hN hL) (fun q => kf q p e s mm args below meth c Q n0 s0 C h1 h2 hF H locs cells slots ls hP hS hc hs hN hL)
theorem aw_if_ge {x : Int32} {off : Int} {tgt : Nat} (ht : (pc : Int) + off = (tgt : Int)) (hd : decode y.2.1 pc = .ok (.ifCond .ge off, 3)) (kt : 0 ≤ x → AW l b R y K lf sf m tgt lv st) (kf : ¬ 0 ≤ x → AW l b R y K lf sf m (pc + 3) lv st) : AW l b R y K lf sf m pc lv (.int x :: st) := by
  intro p e s mm args below meth c Q n0 s0 C h1 h2 hF H locs cells slots ls hP hS hc hs hN hL
  exact lv_if_ge C.1.1 C.1.2.1 hd ht (fun q => kt q p e s mm args below meth c Q n0 s0 C h1 h2 hF H locs cells slots ls hP hS hc hs hN hL) (fun q => kf q p e s mm args below meth c Q n0 s0 C h1 h2 hF H locs cells slots ls hP hS hc hs hN hL)
theorem aw_icmp_ge {x z : Int32} {off : Int} {tgt : Nat} (ht : (pc : Int) + off = (tgt : Int)) (hd : decode y.2.1 pc = .ok (.if_icmp .ge off, 3)) (kt : z ≤ x → AW l b R y K lf sf m tgt lv st) (kf : ¬ z ≤ x → AW l b R y K lf sf m (pc + 3) lv st) : AW l b R y K lf sf m pc lv (.int z :: .int x :: st) := by
  intro p e s mm args below meth c Q n0 s0 C h1 h2 hF H locs cells slots ls hP hS hc hs hN hL
  exact lv_icmp_ge C.1.1 C.1.2.1 hd ht (fun q => kt q p e s mm args below meth c Q n0 s0 C h1 h2 hF H locs cells slots ls hP hS hc hs hN hL) (fun q => kf q p e s mm args below meth c Q n0 s0 C h1 h2 hF H locs cells slots ls hP hS hc hs hN hL)
theorem aw_if_gt {x : Int32} {off : Int} {tgt : Nat} (ht : (pc : Int) + off = (tgt : Int)) (hd : decode y.2.1 pc = .ok (.ifCond .gt off, 3)) (kt : 0 < x → AW l b R y K lf sf m tgt lv st) (kf : ¬ 0 < x → AW l b R y K lf sf m (pc + 3) lv st) : AW l b R y K lf sf m pc lv (.int x :: st) := by
  intro p e s mm args below meth c Q n0 s0 C h1 h2 hF H locs cells slots ls hP hS hc hs hN hL
  exact lv_if_gt C.1.1 C.1.2.1 hd ht (fun q => kt q p e s mm args below meth c Q n0 s0 C h1 h2 hF H locs cells slots ls hP hS hc hs hN hL) (fun q => kf q p e s mm args below meth c Q n0 s0 C h1 h2 hF H locs cells slots ls hP hS hc hs hN hL)
theorem aw_icmp_gt {x z : Int32} {off : Int} {tgt : Nat} (ht : (pc : Int) + off = (tgt : Int)) (hd : decode y.2.1 pc = .ok (.if_icmp .gt off, 3)) (kt : z < x → AW l b R y K lf sf m tgt lv st) (kf : ¬ z < x → AW l b R y K lf sf m (pc + 3) lv st) : AW l b R y K lf sf m pc lv (.int z :: .int x :: st) := by
  intro p e s mm args below meth c Q n0 s0 C h1 h2 hF H locs cells slots ls hP hS hc hs hN hL
  exact lv_icmp_gt C.1.1 C.1.2.1 hd ht (fun q => kt q p e s mm args below meth c Q n0 s0 C h1 h2 hF H locs cells slots ls hP hS hc hs hN hL) (fun q => kf q p e s mm args below meth c Q n0 s0 C h1 h2 hF H locs cells slots ls hP hS hc hs hN hL)
theorem aw_if_le {x : Int32} {off : Int} {tgt : Nat} (ht : (pc : Int) + off = (tgt : Int)) (hd : decode y.2.1 pc = .ok (.ifCond .le off, 3)) (kt : x ≤ 0 → AW l b R y K lf sf m tgt lv st) (kf : ¬ x ≤ 0 → AW l b R y K lf sf m (pc + 3) lv st) : AW l b R y K lf sf m pc lv (.int x :: st) := by
  intro p e s mm args below meth c Q n0 s0 C h1 h2 hF H locs cells slots ls hP hS hc hs hN hL
  exact lv_if_le C.1.1 C.1.2.1 hd ht (fun q => kt q p e s mm args below meth c Q n0 s0 C h1 h2 hF H locs cells slots ls hP hS hc hs hN hL) (fun q => kf q p e s mm args below meth c Q n0 s0 C h1 h2 hF H locs cells slots ls hP hS hc hs hN hL)
theorem aw_icmp_le {x z : Int32} {off : Int} {tgt : Nat} (ht : (pc : Int) + off = (tgt : Int)) (hd : decode y.2.1 pc = .ok (.if_icmp .le off, 3)) (kt : x ≤ z → AW l b R y K lf sf m tgt lv st) (kf : ¬ x ≤ z → AW l b R y K lf sf m (pc + 3) lv st) : AW l b R y K lf sf m pc lv (.int z :: .int x :: st) := by
  intro p e s mm args below meth c Q n0 s0 C h1 h2 hF H locs cells slots ls hP hS hc hs hN hL
  exact lv_icmp_le C.1.1 C.1.2.1 hd ht (fun q => kt q p e s mm args below meth c Q n0 s0 C h1 h2 hF H locs cells slots ls hP hS hc hs hN hL) (fun q => kf q p e s mm args below meth c Q n0 s0 C h1 h2 hF H locs cells slots ls hP hS hc hs hN hL)
theorem aw_tabOut {dflt lo hi : Int} {offs : Array Int} {len : Nat} {x : Int32} {tgt : Nat} (h : x.toInt < lo ∨ hi < x.toInt) (ht : (pc : Int) + dflt = (tgt : Int)) (hd : decode y.2.1 pc = .ok (.tableswitch dflt lo hi offs, len)) (k : AW l b R y K lf sf m tgt lv st) : AW l b R y K lf sf m pc lv (.int x :: st) := aw_step (st := .int x :: st) (fun p e s mm args below meth c Q n0 H locs cells slots ls C hP hS hL kk => lv_tableOut C.1.1 C.1.2.1 hd h ht kk) k
theorem aw_tabIn {dflt lo hi : Int} {offs : Array Int} {len : Nat} {x : Int32} {off : Int} {tgt : Nat} (h1 : ¬ x.toInt < lo) (h2 : ¬ hi < x.toInt) (ho : offs[(x.toInt - lo).toNat]? = some off) (ht : (pc : Int) + off = (tgt : Int)) (hd : decode y.2.1 pc = .ok (.tableswitch dflt lo hi offs, len)) (k : AW l b R y K lf sf m tgt lv st) : AW l b R y K lf sf m pc lv (.int x :: st) := aw_step (st := .int x :: st) (fun p e s mm args below meth c Q n0 H locs cells slots ls C hP hS hL kk => lv_tableIn C.1.1 C.1.2.1 hd h1 h2 ho ht kk) k
/-- a field of an object, by its class's place and its own -/
def FL (own : String) (idx ci k : Nat) : Prop := ∃ (C : String) (T : u_T) (N : Nat), clsT[ci]? = some (C, T, N) ∧ k < N ∧ (T k).1 = C ∧ (Cond.fieldLink own idx C (T k).2.1 (T k).2.2.1 ∈ TW ∨ ∃ host, Cond.fieldLinkNest own idx C (T k).2.1 (T k).2.2.1 host ∈ NW)
def FLp (own : String) (idx ci k : Nat) : Prop := ∃ (C : String) (T : u_T) (N : Nat), clsT[ci]? = some (C, T, N) ∧ k < N ∧ (T k).1 = C ∧ Cond.fieldLink own idx C (T k).2.1 (T k).2.2.1 ∈ TW
theorem FLp.fl {own : String} {idx ci k : Nat} (h : FLp own idx ci k) : FL own idx ci k := by
  obtain ⟨C, T, N, h1, h2, h3, h4⟩ := h
  exact ⟨C, T, N, h1, h2, h3, Or.inl h4⟩
theorem ent_o (b : PB) (c n : Nat) (f : Nat → Int32) (g : Nat → Option Nat) : ent b (c + 3, n) f g = .inr (c, (List.range n).map (fun j => if isRf c j then va_rf ((g j).map (adr b)) else .int (f j))) := rfl
theorem aw_get {idx ci n k o : Nat} {v : Value} (hf : FL y.1.cls idx ci k) (ho : m.1[o]? = some (ci + 3, n)) (hk : k < n) (hv : (if isRf ci k then va_rf ((m.2.2 o k).map (adr b)) else .int (m.2.1 o k)) = tau b v) (hd : decode y.2.1 pc = .ok (.getfield idx, 3)) (kk : AW l b R y K lf sf m (pc + 3) lv (v :: st)) : AW l b R y K lf sf m pc lv (.ref o :: st) := by
  refine aw_step (st := .ref o :: st) (st2 := v :: st) (fun p e s mm args below meth c Q n0 H locs cells slots ls C hP hS hL kk => ?_) kk
  obtain ⟨CC, T, N, hc, hkN, hdcl, hw⟩ := hf
  have he := wl_at b ho
  rw [ent_o] at he
  have hfs : ((List.range n).map (fun j => if isRf ci j then va_rf ((m.2.2 o j).map (adr b)) else .int (m.2.1 o j)))[k]? = some (tau b v) := by
    rw [List.getElem?_map, List.getElem?_range hk, ← hv]; rfl
  have hin := fun w hw' => cls_in ci _ hc w hw'
  rcases hw with hw | ⟨host, hw⟩
  · exact va_get C.1.1 C.1.2.1 C.1.2.2.2.2 hin C.1.2.2.2.1 C.2.2.2.2.1.1 hP o he hc k hkN (C.1.2.2.2.2 _ hw) (fun x h => by rw [hdcl] at h; exact h) hfs hd kk
  · exact va_getN C.1.1 C.1.2.1 C.1.2.2.2.2 hin C.1.2.2.2.1 C.2.2.2.2.1.1 hP o he hc k hkN (va_Nw.use rfl (C.2.2.2.2.1.2.1 _ hw)) (fun x h => by rw [hdcl] at h; exact h) hfs hd kk
theorem aw_geti {idx ci n k o : Nat} {Ks : List (Nat × Nat)} {I : Nat → Nat → Int32} {G : Nat → Nat → Option Nat} (hf : FL y.1.cls idx ci k) (ho : Ks[o]? = some (ci + 3, n)) (hk : k < n) (hr : isRf ci k = false) (hd : decode y.2.1 pc = .ok (.getfield idx, 3)) (kk : AW l b R y K lf sf (Ks, I, G) (pc + 3) lv (.int (I o k) :: st)) : AW l b R y K lf sf (Ks, I, G) pc lv (.ref o :: st) :=
  aw_get hf ho hk (by rw [hr]; rfl) hd kk
theorem aw_getr {idx ci n k o r : Nat} {Ks : List (Nat × Nat)} {I : Nat → Nat → Int32} {G : Nat → Nat → Option Nat} (hf : FL y.1.cls idx ci k) (ho : Ks[o]? = some (ci + 3, n)) (hk : k < n) (hr : isRf ci k = true) (hg : G o k = some r) (hd : decode y.2.1 pc = .ok (.getfield idx, 3)) (kk : AW l b R y K lf sf (Ks, I, G) (pc + 3) lv (.ref r :: st)) : AW l b R y K lf sf (Ks, I, G) pc lv (.ref o :: st) :=
  aw_get hf ho hk (by rw [hr, if_pos rfl]; show va_rf ((G o k).map (adr b)) = _; rw [hg]; rfl) hd kk
theorem setmap {n k : Nat} (f g : Nat → Value) (v : Value) (hv : g k = v) (h : ∀ j, j ≠ k → g j = f j) : ((List.range n).map f).set k v = (List.range n).map g := by
  apply List.ext_getElem?
  intro i
  by_cases hik : i = k
  · subst hik
    by_cases hi : i < n
    · rw [List.getElem?_set_self (by simpa using hi), List.getElem?_map, List.getElem?_range hi, ← hv]; rfl
    · rw [List.getElem?_eq_none (by simpa using Nat.not_lt.mp hi), List.getElem?_eq_none (by simpa using Nat.not_lt.mp hi)]
  · rw [List.getElem?_set_ne (Ne.symm hik)]
    by_cases hi : i < n
    · rw [List.getElem?_map, List.getElem?_map, List.getElem?_range hi]
      show some _ = some _
      rw [h i hik]
    · rw [List.getElem?_eq_none (by simpa using Nat.not_lt.mp hi), List.getElem?_eq_none (by simpa using Nat.not_lt.mp hi)]
/-- a change of the memory by one cell's new contents -/
theorem aw_mem {pc2 : Nat} {st2 : List Value} {m2 : Mem} (hm : m2.1 = m.1) (h : ∀ (p : Program) (e : Env) (s : State) (mm : MethodId) (args : Array Value) (below : List Frame) (meth : Method) (c : Code) (Q : State → Prop) (n0 : Nat) (H : Heap) (locs : List Loc) (cells slots : Nat) (ls : Array Slot), Cx b y n0 p s mm args meth c → va_P b.2.2.1 clsT (wl b m) H → va_D (Ab b) (wl b m) → va_S (Ab b) s.heap H locs → LH b ls y.2.2.1 lv →
      (∀ (H1 : Heap) (locs1 : List Loc), va_P b.2.2.1 clsT (wl b m2) H1 → va_S (Ab b) s.heap H1 locs1 → W p l e R s mm args below meth c H1 locs1 cells slots Q (F0 mm pc2 ls (st2.map (tau b)))) → W p l e R s mm args below meth c H locs cells slots Q (F0 mm pc ls (st.map (tau b))))
    (k : AW l b R y K lf sf m2 pc2 lv st2) : AW l b R y K lf sf m pc lv st := by
  intro p e s mm args below meth c Q n0 s0 C h1 h2 hF H locs cells slots ls hP hS hc hs hN hL
  exact h p e s mm args below meth c Q n0 H locs cells slots ls C hP (wl_D b hN.1) hS hL (fun H1 locs1 hP1 hS1 => k p e s mm args below meth c Q n0 s0 C h1 h2 hF H1 locs1 cells slots ls hP1 hS1 (by rw [hm]; exact hc) (by rw [hm]; exact hs) (by rw [hm]; exact hN) hL)
theorem aw_put {idx ci n k o : Nat} {v : Value} {Ks : List (Nat × Nat)} {I I2 : Nat → Nat → Int32} {G G2 : Nat → Nat → Option Nat} (hf : FL y.1.cls idx ci k) (ho : Ks[o]? = some (ci + 3, n)) (hk : k < n)
    (hI : ∀ j, j ≠ o → I2 j = I j) (hG : ∀ j, j ≠ o → G2 j = G j) (hv : (if isRf ci k then va_rf ((G2 o k).map (adr b)) else .int (I2 o k)) = tau b v) (hI2 : ∀ j, j ≠ k → I2 o j = I o j) (hG2 : ∀ j, j ≠ k → G2 o j = G o j)
    (hn : narrow (fty ci k) (tau b v) = tau b v) (hfit : fits (fty ci k) (tau b v) = true) (hfin : ffin ci k = true → y.1.name = "<init>" ∧ clsN ci = y.1.cls ∧ FLp y.1.cls idx ci k)
    (hd : decode y.2.1 pc = .ok (.putfield idx, 3)) (kk : AW l b R y K lf sf (Ks, I2, G2) (pc + 3) lv st) : AW l b R y K lf sf (Ks, I, G) pc lv (v :: .ref o :: st) := by
  refine aw_mem (m2 := (Ks, I2, G2)) (st := v :: .ref o :: st) (st2 := st) rfl (fun p e s mm args below meth c Q n0 H locs cells slots ls C hP hD hS hL kk => ?_) kk
  obtain ⟨CC, T, N, hc, hkN, hdcl, hw⟩ := hf
  have he := wl_at b (m := (Ks, I, G)) ho
  rw [ent_o] at he
  dsimp only at he
  have hin := fun w hw' => cls_in ci _ hc w hw'
  have hty := cls_ty ci _ hc
  have hnm := cls_nm ci _ hc
  have hfn := cls_fin ci _ hc k hkN
  have hfn0 : ffin ci k = (T k).2.2.2 := hfn.1
  have hfn1 : clsN ci = CC := hfn.2
  have hl : k < ((List.range n).map (fun j => if isRf ci j then va_rf ((G o j).map (adr b)) else .int (I o j))).length := by simpa using hk
  have hset := wl_set b (e := .inr (ci, ((List.range n).map (fun j => if isRf ci j then va_rf ((G o j).map (adr b)) else .int (I o j))).set k (tau b v))) ho hI hG (by
    rw [ent_o, setmap _ (fun j => if isRf ci j then va_rf ((G2 o j).map (adr b)) else .int (I2 o j)) _ hv (fun j hj => by rw [hI2 j hj, hG2 j hj])])
  have kk2 : ∀ (H1 : Heap) (locs1 : List Loc), va_P b.2.2.1 clsT ((wl b (Ks, I, G)).set o (adr b o, .inr (ci, ((List.range n).map (fun j => if isRf ci j then va_rf ((G o j).map (adr b)) else .int (I o j))).set k (tau b v)))) H1 → va_D (Ab b) ((wl b (Ks, I, G)).set o (adr b o, .inr (ci, ((List.range n).map (fun j => if isRf ci j then va_rf ((G o j).map (adr b)) else .int (I o j))).set k (tau b v)))) → va_S (Ab b) s.heap H1 locs1 → W p l e R s mm args below meth c H1 locs1 cells slots Q (F0 mm (pc + 3) ls (st.map (tau b))) := fun H1 locs1 g1 _ g3 => kk H1 locs1 (by rw [hset] at g1; exact g1) g3
  by_cases hff : (T k).2.2.2 = true
  · obtain ⟨hi1, hi2, C1, T1, N1, hc1, -, -, hw1⟩ := hfin (by rw [hfn0]; exact hff)
    cases hc1.symm.trans hc
    exact va_putF C.1.1 C.1.2.1 C.1.2.2.2.2 hin _ hty hnm C.1.2.2.2.1 C.2.2.2.2.1.1 hP hD hS o he hc k hkN (C.1.2.2.2.2 _ hw1) (fun x h => by rw [hdcl] at h; exact h) hff (C.2.2.2.1 hi1) (by rw [hdcl, ← hfn1, hi2]) (hty k hkN) hn hfit hl hd kk2
  · have hff0 : (T k).2.2.2 = false := by simpa using hff
    rcases hw with hw | ⟨host, hw⟩
    · exact va_put C.1.1 C.1.2.1 C.1.2.2.2.2 hin _ hty hnm C.1.2.2.2.1 C.2.2.2.2.1.1 hP hD hS o he hc k hkN (C.1.2.2.2.2 _ hw) (fun x h => by rw [hdcl] at h; exact h) hff0 (hty k hkN) hn hfit hl hd kk2
    · exact va_putN C.1.1 C.1.2.1 C.1.2.2.2.2 hin _ hty hnm C.1.2.2.2.1 C.2.2.2.2.1.1 hP hD hS o he hc k hkN (va_Nw.use rfl (C.2.2.2.2.1.2.1 _ hw)) (fun x h => by rw [hdcl] at h; exact h) hff0 (hty k hkN) hn hfit hl hd kk2
theorem aw_puti {idx ci n k o : Nat} {x : Int32} {Ks : List (Nat × Nat)} {I : Nat → Nat → Int32} {G : Nat → Nat → Option Nat} (hf : FL y.1.cls idx ci k) (ho : Ks[o]? = some (ci + 3, n)) (hk : k < n) (hr : isRf ci k = false) (hn : narrow (fty ci k) (.int x) = .int x) (hfit : fits (fty ci k) (.int x) = true) (hfin : ffin ci k = false) (hd : decode y.2.1 pc = .ok (.putfield idx, 3)) (kk : AW l b R y K lf sf (Ks, upd2 I o k x, G) (pc + 3) lv st) : AW l b R y K lf sf (Ks, I, G) pc lv (.int x :: .ref o :: st) :=
  aw_put hf ho hk (fun j hj => by show (if j = o then _ else _) = _; rw [if_neg hj]) (fun _ _ => rfl) (by rw [hr]; show Value.int (upd2 I o k x o k) = .int x; simp [upd2, upd]) (fun j hj => by simp [upd2, upd, hj]) (fun _ _ => rfl) hn hfit (fun h => by rw [hfin] at h; cases h) hd kk
theorem aw_putr {idx ci n k o r : Nat} {Ks : List (Nat × Nat)} {I : Nat → Nat → Int32} {G : Nat → Nat → Option Nat} (hf : FLp y.1.cls idx ci k) (ho : Ks[o]? = some (ci + 3, n)) (hk : k < n) (hr : isRf ci k = true) (hn : ∀ a, narrow (fty ci k) (.ref a) = .ref a) (hfit : ∀ a, fits (fty ci k) (.ref a) = true) (hi : y.1.name = "<init>") (hc : clsN ci = y.1.cls) (hd : decode y.2.1 pc = .ok (.putfield idx, 3)) (kk : AW l b R y K lf sf (Ks, I, updR G o k (some r)) (pc + 3) lv st) : AW l b R y K lf sf (Ks, I, G) pc lv (.ref r :: .ref o :: st) :=
  aw_put hf.fl ho hk (fun _ _ => rfl) (fun j hj => by show (if j = o then _ else _) = _; rw [if_neg hj]) (by rw [hr, if_pos rfl]; simp [updR, va_rf, tau]) (fun _ _ => rfl) (fun j hj => by simp [updR, hj]) (hn _) (hfit _) (fun _ => ⟨hi, hc, hf⟩) hd kk
theorem aw_iald {o n j : Nat} {i : Int32} {Ks : List (Nat × Nat)} {I : Nat → Nat → Int32} {G : Nat → Nat → Option Nat} (ho : Ks[o]? = some (0, n)) (hin : vp_in i n) (hj : i.toNatClampNeg = j) (hd : decode y.2.1 pc = .ok (.iaload, 1)) (kk : AW l b R y K lf sf (Ks, I, G) (pc + 1) lv (.int (I o j) :: st)) : AW l b R y K lf sf (Ks, I, G) pc lv (.int i :: .ref o :: st) := by
  subst hj
  refine aw_step (st := .int i :: .ref o :: st) (st2 := .int (I o i.toNatClampNeg) :: st) (fun p e s mm args below meth c Q n0 H locs cells slots ls C hP hS hL kk => ?_) kk
  exact va_iald C.1.1 C.1.2.1 C.2.2.2.2.1.1 hP o 0 (wl_at b (m := (Ks, I, G)) ho) rfl hin hd kk
theorem aw_zald {o n j : Nat} {i : Int32} {Ks : List (Nat × Nat)} {I : Nat → Nat → Int32} {G : Nat → Nat → Option Nat} (ho : Ks[o]? = some (1, n)) (hin : vp_in i n) (hj : i.toNatClampNeg = j) (hd : decode y.2.1 pc = .ok (.baload, 1)) (kk : AW l b R y K lf sf (Ks, I, G) (pc + 1) lv (.int (I o j) :: st)) : AW l b R y K lf sf (Ks, I, G) pc lv (.int i :: .ref o :: st) := by
  subst hj
  refine aw_step (st := .int i :: .ref o :: st) (st2 := .int (I o i.toNatClampNeg) :: st) (fun p e s mm args below meth c Q n0 H locs cells slots ls C hP hS hL kk => ?_) kk
  exact va_zald C.1.1 C.1.2.1 C.2.2.2.2.1.1 hP o 1 (wl_at b (m := (Ks, I, G)) ho) rfl hin hd kk
theorem aw_aald {o n j r : Nat} {i : Int32} {Ks : List (Nat × Nat)} {I : Nat → Nat → Int32} {G : Nat → Nat → Option Nat} (ho : Ks[o]? = some (2, n)) (hin : vp_in i n) (hj : i.toNatClampNeg = j) (hg : G o j = some r) (hd : decode y.2.1 pc = .ok (.aaload, 1)) (kk : AW l b R y K lf sf (Ks, I, G) (pc + 1) lv (.ref r :: st)) : AW l b R y K lf sf (Ks, I, G) pc lv (.int i :: .ref o :: st) := by
  subst hj
  refine aw_step (st := .int i :: .ref o :: st) (st2 := .ref r :: st) (fun p e s mm args below meth c Q n0 H locs cells slots ls C hP hS hL kk => ?_) kk
  refine va_aldq C.1.1 C.1.2.1 C.2.2.2.2.1.1 hP o 2 (wl_at b (m := (Ks, I, G)) ho) rfl hin hd ?_
  dsimp only
  rw [hg]
  exact kk
theorem updA_upd {I : Nat → Nat → Int32} {o j : Nat} {x : Int32} : upd2 I o j x = updA I o (upd (I o) j x) := by
  funext k
  unfold upd2 updA
  by_cases h : k = o
  · rw [if_pos h, if_pos h, h]
  · rw [if_neg h, if_neg h]
theorem upd2_o {I : Nat → Nat → Int32} {o j : Nat} {x : Int32} : upd2 I o j x o = upd (I o) j x := by unfold upd2; rw [if_pos rfl]
theorem updA_o {I : Nat → Nat → Int32} {o : Nat} {f : Nat → Int32} : updA I o f o = f := by unfold updA; rw [if_pos rfl]
theorem aw_iast {o n j : Nat} {i x : Int32} {Ks : List (Nat × Nat)} {I : Nat → Nat → Int32} {G : Nat → Nat → Option Nat} (ho : Ks[o]? = some (0, n)) (hin : vp_in i n) (hj : i.toNatClampNeg = j) (hd : decode y.2.1 pc = .ok (.iastore, 1)) (kk : AW l b R y K lf sf (Ks, upd2 I o j x, G) (pc + 1) lv st) : AW l b R y K lf sf (Ks, I, G) pc lv (.int x :: .int i :: .ref o :: st) := by
  subst hj
  refine aw_mem (m2 := (Ks, upd2 I o i.toNatClampNeg x, G)) (st := .int x :: .int i :: .ref o :: st) (st2 := st) rfl (fun p e s mm args below meth c Q n0 H locs cells slots ls C hP hD hS hL kk => ?_) kk
  refine va_iast C.1.1 C.1.2.1 C.2.2.2.2.1.1 hP hD hS o 0 (wl_at b (m := (Ks, I, G)) ho) rfl hin hd (fun H1 locs1 g1 _ g3 => kk H1 locs1 ?_ g3)
  rw [wl_set b (I' := upd2 I o i.toNatClampNeg x) (G' := G) ho (fun k hk => by show (if k = o then _ else _) = _; rw [if_neg hk]) (fun _ _ => rfl) (by rw [upd2_o]; rfl)] at g1
  exact g1
theorem aw_zast {o n j : Nat} {i x : Int32} {Ks : List (Nat × Nat)} {I : Nat → Nat → Int32} {G : Nat → Nat → Option Nat} (ho : Ks[o]? = some (1, n)) (hin : vp_in i n) (hj : i.toNatClampNeg = j) (hx : vp_nar .boolean x = x) (hd : decode y.2.1 pc = .ok (.bastore, 1)) (kk : AW l b R y K lf sf (Ks, upd2 I o j x, G) (pc + 1) lv st) : AW l b R y K lf sf (Ks, I, G) pc lv (.int x :: .int i :: .ref o :: st) := by
  subst hj
  refine aw_mem (m2 := (Ks, upd2 I o i.toNatClampNeg x, G)) (st := .int x :: .int i :: .ref o :: st) (st2 := st) rfl (fun p e s mm args below meth c Q n0 H locs cells slots ls C hP hD hS hL kk => ?_) kk
  refine va_zast C.1.1 C.1.2.1 C.2.2.2.2.1.1 hP hD hS o 1 (wl_at b (m := (Ks, I, G)) ho) rfl hin hd (fun H1 locs1 g1 _ g3 => kk H1 locs1 ?_ g3)
  rw [wl_set b (I' := upd2 I o i.toNatClampNeg x) (G' := G) ho (fun k hk => by show (if k = o then _ else _) = _; rw [if_neg hk]) (fun _ _ => rfl) (by rw [upd2_o, hx]; rfl)] at g1
  exact g1
theorem aw_aast {o n j ci nf r : Nat} {i : Int32} {q : vw_C} {Ks : List (Nat × Nat)} {I : Nat → Nat → Int32} {G : Nat → Nat → Option Nat} (ho : Ks[o]? = some (2, n)) (hin : vp_in i n) (hj : i.toNatClampNeg = j) (hr : Ks[r]? = some (ci + 3, nf)) (hc : clsT[ci]? = some q) (hq : q.1 = "SinglesUp$Law") (hd : decode y.2.1 pc = .ok (.aastore, 1)) (kk : AW l b R y K lf sf (Ks, I, updR G o j (some r)) (pc + 1) lv st) : AW l b R y K lf sf (Ks, I, G) pc lv (.ref r :: .int i :: .ref o :: st) := by
  subst hj
  refine aw_mem (m2 := (Ks, I, updR G o i.toNatClampNeg (some r))) (st := .ref r :: .int i :: .ref o :: st) (st2 := st) rfl (fun p e s mm args below meth c Q n0 H locs cells slots ls C hP hD hS hL kk => ?_) kk
  have hv := wl_at b (m := (Ks, I, G)) hr
  rw [ent_o] at hv
  refine va_astq (r := q) C.1.1 C.1.2.1 C.2.2.2.2.1.1 hP hD hS o 2 r ci (wl_at b (m := (Ks, I, G)) ho) (by rw [hq]; rfl) hv hc hin hd (fun H1 locs1 g1 _ g3 => kk H1 locs1 ?_ g3)
  rw [wl_set b (I' := I) (G' := updR G o i.toNatClampNeg (some r)) ho (fun _ _ => rfl) (fun k hk => by show (if k = o then _ else _) = _; rw [if_neg hk]) ?_] at g1
  · exact g1
  · show _ = Sum.inl (_, _, Sum.inr (Sum.inr (Sum.inr (Sum.inr _))))
    congr
    funext k
    unfold updR va_up
    rw [if_pos rfl]
    by_cases hk : k = i.toNatClampNeg
    · rw [if_pos hk, if_pos hk]; rfl
    · rw [if_neg hk, if_neg hk]
theorem aw_alen {o n t : Nat} {Ks : List (Nat × Nat)} {I : Nat → Nat → Int32} {G : Nat → Nat → Option Nat} (ho : Ks[o]? = some (t, n)) (ht : t < 3) (hd : decode y.2.1 pc = .ok (.arraylength, 1)) (kk : AW l b R y K lf sf (Ks, I, G) (pc + 1) lv (.int (nI n) :: st)) : AW l b R y K lf sf (Ks, I, G) pc lv (.ref o :: st) := by
  refine aw_step (st := .ref o :: st) (st2 := .int (nI n) :: st) (fun p e s mm args below meth c Q n0 H locs cells slots ls C hP hS hL kk => ?_) kk
  have he := wl_at b (m := (Ks, I, G)) ho
  match t, ht with
  | 0, _ => exact va_alen C.1.1 C.1.2.1 C.2.2.2.2.1.1 hP o 0 he (ty := .int) rfl rfl hd kk
  | 1, _ => exact va_alen C.1.1 C.1.2.1 C.2.2.2.2.1.1 hP o 1 he (ty := .boolean) rfl rfl hd kk
  | 2, _ => exact va_alen C.1.1 C.1.2.1 C.2.2.2.2.1.1 hP o 2 he (ty := .object "SinglesUp$Law") rfl rfl hd kk
/-- the class's two tables, and the law's script -/
theorem aw_getsL {idx : Nat} (hw : Cond.fieldLink y.1.cls idx "SinglesUp" "LEAST" "[I" ∈ TW) (hd : decode y.2.1 pc = .ok (.getstatic idx, 3)) (kk : AW l b R y K lf sf m (pc + 3) lv (.ref 1001 :: st)) : AW l b R y K lf sf m pc lv st :=
  aw_step (st2 := .ref 1001 :: st) (fun p e s mm args below meth c Q n0 H locs cells slots ls C hP hS hL kk => va_gets (v := .ref (b.2.1 1)) C.1.1 C.1.2.1 C.2.2.2.2.2.1.1 hS C.1.2.2.2.1 (C.1.2.2.2.2 _ hw) (fun _ h => h) hd (by
    have h1 : tau b (.ref 1001) = .ref (b.2.1 1) := congrArg Value.ref (adr_ext b 1)
    rw [← h1]; exact kk)) kk
theorem aw_getsM {idx : Nat} (hw : Cond.fieldLink y.1.cls idx "SinglesUp" "MOST" "[I" ∈ TW) (hd : decode y.2.1 pc = .ok (.getstatic idx, 3)) (kk : AW l b R y K lf sf m (pc + 3) lv (.ref 1002 :: st)) : AW l b R y K lf sf m pc lv st :=
  aw_step (st2 := .ref 1002 :: st) (fun p e s mm args below meth c Q n0 H locs cells slots ls C hP hS hL kk => va_gets (v := .ref (b.2.1 2)) C.1.1 C.1.2.1 C.2.2.2.2.2.1.2.2.1 hS C.1.2.2.2.1 (C.1.2.2.2.2 _ hw) (fun _ h => h) hd (by
    have h1 : tau b (.ref 1002) = .ref (b.2.1 2) := congrArg Value.ref (adr_ext b 2)
    rw [← h1]; exact kk)) kk
theorem aw_ialdL {j : Nat} {i : Int32} (hin : vp_in i 6) (hj : i.toNatClampNeg = j) (hd : decode y.2.1 pc = .ok (.iaload, 1)) (kk : AW l b R y K lf sf m (pc + 1) lv (.int (least_f j) :: st)) : AW l b R y K lf sf m pc lv (.int i :: .ref 1001 :: st) := by
  subst hj
  refine aw_step (st := .int i :: .ref 1001 :: st) (st2 := .int (least_f i.toNatClampNeg) :: st) (fun p e s mm args below meth c Q n0 H locs cells slots ls C hP hS hL kk => ?_) kk
  have h1 : tau b (.ref 1001) = .ref (b.2.1 1) := congrArg Value.ref (adr_ext b 1)
  rw [List.map_cons, List.map_cons, h1]
  exact va_ti C.1.1 C.1.2.1 C.2.2.2.2.2.1.2.1 hS hin rfl hd kk
theorem aw_ialdM {j : Nat} {i : Int32} (hin : vp_in i 6) (hj : i.toNatClampNeg = j) (hd : decode y.2.1 pc = .ok (.iaload, 1)) (kk : AW l b R y K lf sf m (pc + 1) lv (.int (most_f j) :: st)) : AW l b R y K lf sf m pc lv (.int i :: .ref 1002 :: st) := by
  subst hj
  refine aw_step (st := .int i :: .ref 1002 :: st) (st2 := .int (most_f i.toNatClampNeg) :: st) (fun p e s mm args below meth c Q n0 H locs cells slots ls C hP hS hL kk => ?_) kk
  have h1 : tau b (.ref 1002) = .ref (b.2.1 2) := congrArg Value.ref (adr_ext b 2)
  rw [List.map_cons, List.map_cons, h1]
  exact va_ti C.1.1 C.1.2.1 C.2.2.2.2.2.1.2.2.2.1 hS hin rfl hd kk
theorem aw_ialdS {j : Nat} {i : Int32} (hin : vp_in i (scL b)) (hj : i.toNatClampNeg = j) (hd : decode y.2.1 pc = .ok (.iaload, 1)) (kk : AW l b R y K lf sf m (pc + 1) lv (.int (scX b j) :: st)) : AW l b R y K lf sf m pc lv (.int i :: .ref 1000 :: st) := by
  subst hj
  refine aw_step (st := .int i :: .ref 1000 :: st) (st2 := .int (scX b i.toNatClampNeg) :: st) (fun p e s mm args below meth c Q n0 H locs cells slots ls C hP hS hL kk => ?_) kk
  have h1 : tau b (.ref 1000) = .ref (b.2.1 0) := congrArg Value.ref (adr_ext b 0)
  rw [List.map_cons, List.map_cons, h1]
  exact va_sld C.1.1 C.1.2.1 C.2.2.2.2.2.1.2.2.2.2.1 C.2.2.2.2.2.1.2.2.2.2.2.1 C.2.2.2.2.2.1.2.2.2.2.2.2.1 hS hin hd kk
theorem aw_alenS (hd : decode y.2.1 pc = .ok (.arraylength, 1)) (kk : AW l b R y K lf sf m (pc + 1) lv (.int (nI (scL b)) :: st)) : AW l b R y K lf sf m pc lv (.ref 1000 :: st) := by
  refine aw_step (st := .ref 1000 :: st) (st2 := .int (nI (scL b)) :: st) (fun p e s mm args below meth c Q n0 H locs cells slots ls C hP hS hL kk => ?_) kk
  have h1 : tau b (.ref 1000) = .ref (b.2.1 0) := congrArg Value.ref (adr_ext b 0)
  rw [List.map_cons, h1]
  exact va_slen C.1.1 C.1.2.1 C.2.2.2.2.2.1.2.2.2.2.1 C.2.2.2.2.2.1.2.2.2.2.2.1 C.2.2.2.2.2.1.2.2.2.2.2.2.1 hS hd kk
theorem aw_ret {v : Option Value} (hK : K v m) (hr : RetAt y pc v) (h1 : m.1.length ≤ lf) (h2 : sl m.1 ≤ sf) : AW l b R y K lf sf m pc lv v.toList := by
  intro p e s mm args below meth c Q n0 s0 C g1 g2 hF H locs cells slots ls hP hS hc hs hN hL
  have h3 := hF H locs cells slots ls pc v m hK hP hS (by omega) (by omega) hr
  cases v with
  | none => exact h3
  | some v => exact h3
theorem aw_objInit {idx o : Nat} (h1 : Cond.methodLink y.1.cls idx Lib.objectInit ∈ TW) (h2 : Cond.instanceMethod Lib.objectInit ∈ TW) (h3 : Cond.code Lib.objectInit ⟨#[0xb1]⟩ 1 none ∈ TW) (hR : 1 ≤ R.frames ∧ 40 ≤ R.locals) (hw : (st.map fun v => v.category).sum ≤ 8) (hd : decode y.2.1 pc = .ok (.invokespecial idx, 3)) (kk : AW l b R y K lf sf m (pc + 3) lv st) : AW l b R y K lf sf m pc lv (.ref o :: st) := by
  refine aw_step (st := .ref o :: st) (st2 := st) (fun p e s mm args below meth c Q n0 H locs cells slots ls C hP hS hL kk => ?_) kk
  refine W.objInit C.1.1 C.1.2.1 C.1.2.2.2.1 (C.1.2.2.2.2 _ h1) (C.1.2.2.2.2 _ h2) (C.1.2.2.2.2 _ h3) rfl (by rw [C.1.2.2.1]; exact hL.1) rfl hd hR.1 (by
    have : (((st.map (tau b)).map fun v => v.category).sum) = (st.map fun v => v.category).sum := by rw [List.map_map]; congr 1; exact List.map_congr_left fun v _ => tau_cat b v
    rw [this]
    show 2 * 0 + _ + 12 ≤ _
    omega) kk
theorem cat_tau (st : List Value) : (((st.map (tau b)).map fun v => v.category).sum) = (st.map fun v => v.category).sum := by rw [List.map_map]; congr 1; exact List.map_congr_left fun v _ => tau_cat b v
theorem aw_copy {idx o1 o0 n0' n1' : Nat} {n dp sp : Int32} {Ks : List (Nat × Nat)} {I : Nat → Nat → Int32} {G : Nat → Nat → Option Nat} (g1 : Cond.methodLink y.1.cls idx arraycopyName ∈ TW) (g2 : Cond.native arraycopyName ∈ TW) (g3 : Cond.static arraycopyName ∈ TW) (g4 : Cond.initialized "java/lang/System" ∈ TW) (ho0 : Ks[o0]? = some (0, n0')) (ho1 : Ks[o1]? = some (0, n1'))
    (h1 : ¬ sp < 0) (h2 : ¬ dp < 0) (h3 : ¬ n < 0) (h4 : sp.toNatClampNeg + n.toNatClampNeg ≤ n0') (h5 : dp.toNatClampNeg + n.toNatClampNeg ≤ n1') (hR : 1 ≤ R.frames ∧ 40 ≤ R.locals) (hw : (st.map fun v => v.category).sum ≤ 8) (hd : decode y.2.1 pc = .ok (.invokestatic idx, 3))
    (kk : AW l b R y K lf sf (Ks, updA I o1 (va_cpy (I o0) (I o1) sp.toNatClampNeg dp.toNatClampNeg n.toNatClampNeg), G) (pc + 3) lv st) : AW l b R y K lf sf (Ks, I, G) pc lv (.int n :: .int dp :: .ref o1 :: .int sp :: .ref o0 :: st) := by
  refine aw_mem (m2 := (Ks, updA I o1 (va_cpy (I o0) (I o1) sp.toNatClampNeg dp.toNatClampNeg n.toNatClampNeg), G)) (st := .int n :: .int dp :: .ref o1 :: .int sp :: .ref o0 :: st) (st2 := st) rfl (fun p e s mm args below meth c Q n0 H locs cells slots ls C hP hD hS hL kk => ?_) kk
  have hnw : nativeFrameWords "java/lang/System" "arraycopy" 5 = 7 := by decide
  refine va_copyi C.1.1 C.1.2.1 (by rw [C.1.2.2.1]; exact hL.1.symm) C.1.2.2.2.1 (C.1.2.2.2.2 _ g1) (C.1.2.2.2.2 _ g2) (C.1.2.2.2.2 _ g3) (C.1.2.2.2.2 _ g4) C.2.2.2.2.1.1 hP hD hS o0 o1 0 0 (wl_at b (m := (Ks, I, G)) ho0) (wl_at b (m := (Ks, I, G)) ho1) (ty := .int) rfl rfl rfl h1 h2 h3 h4 h5 (fun _ _ => rfl) hR.1 (by rw [cat_tau, hnw]; omega) hd (fun H1 locs1 q1 _ q3 => kk H1 locs1 ?_ q3)
  rw [wl_set b (I' := updA I o1 (va_cpy (I o0) (I o1) sp.toNatClampNeg dp.toNatClampNeg n.toNatClampNeg)) (G' := G) ho1 (fun k hk => by show (if k = o1 then _ else _) = _; rw [if_neg hk]) (fun _ _ => rfl) (by rw [updA_o]; rfl)] at q1
  exact q1
/-- the address of what was made last -/
theorem push_addr {s : State} {H1 : Heap} {n0 cells q : Nat} {e : va_E} {Ks : List (Nat × Nat)} {I : Nat → Nat → Int32} {G : Nat → Nat → Option Nat} (hz : s.heap.size = b.1 + n0) (hc : cells + n0 = Ks.length) (hN : Ks.length < 1000) (hP : va_P b.2.2.1 clsT (wl b (Ks, I, G) ++ [(q, e)]) H1) (hD : va_D (Ab b) (wl b (Ks, I, G) ++ [(q, e)])) (h1 : H1.size ≤ s.heap.size + (cells + 1)) : q = adr b Ks.length := by
  have hlast : (wl b (Ks, I, G) ++ [(q, e)])[Ks.length]? = some (q, e) := by
    rw [List.getElem?_append_right (by rw [wl_len]; exact Nat.le_refl _), wl_len]
    show [(q, e)][Ks.length - Ks.length]? = _
    rw [Nat.sub_self]; rfl
  have hlt : q < H1.size := (hP _ _ hlast).lt
  have hge : b.1 ≤ q := (hD.2 _ _ hlast).1
  rw [adr_own hN]
  rcases Nat.lt_or_ge q (b.1 + Ks.length) with h | h
  · have hk : q - b.1 < Ks.length := by omega
    have h2 : (wl b (Ks, I, G) ++ [(q, e)])[q - b.1]? = some (adr b (q - b.1), ent b (Ks[q - b.1]) (I (q - b.1)) (G (q - b.1))) := by
      rw [List.getElem?_append_left (by rw [wl_len]; exact hk)]
      exact wl_at b (m := (Ks, I, G)) (List.getElem?_eq_getElem hk)
    have h3 := hD.1 _ _ _ _ h2 hlast (by show adr b (q - b.1) = q; rw [adr_own (by omega)]; omega)
    omega
  · omega
/-- something is made: the memory grows by one object -/
theorem aw_grow {pc2 : Nat} {st2 : List Value} {t : Nat × Nat} {Ks : List (Nat × Nat)} {I : Nat → Nat → Int32} {G : Nat → Nat → Option Nat} (hg : gp b = 0) (hl1 : Ks.length + 1 ≤ lf) (hl2 : sl Ks + t.2 ≤ sf) (hl3 : Ks.length + 1 < 1000)
    (h : ∀ (p : Program) (e : Env) (s : State) (mm : MethodId) (args : Array Value) (below : List Frame) (meth : Method) (c : Code) (Q : State → Prop) (n0 : Nat) (H : Heap) (locs : List Loc) (cells slots : Nat) (ls : Array Slot), Cx b y n0 p s mm args meth c → cells + 1 ≤ R.cells → slots + t.2 ≤ R.slots → va_P b.2.2.1 clsT (wl b (Ks, I, G)) H → va_D (Ab b) (wl b (Ks, I, G)) → va_S (Ab b) s.heap H locs → LH b ls y.2.2.1 lv → (∀ q : Nat, s.heap.size ≤ q → Ab b q) →
      (∀ (q : Nat) (H1 : Heap), va_P b.2.2.1 clsT (wl b (Ks, I, G) ++ [(q, ent b t (I Ks.length) (G Ks.length))]) H1 → va_D (Ab b) (wl b (Ks, I, G) ++ [(q, ent b t (I Ks.length) (G Ks.length))]) → va_S (Ab b) s.heap H1 locs → W p l e R s mm args below meth c H1 locs (cells + 1) (slots + t.2) Q (F0 mm pc2 ls (.ref q :: st2.map (tau b)))) → W p l e R s mm args below meth c H locs cells slots Q (F0 mm pc ls (st.map (tau b))))
    (k : AW l b R y K lf sf (Ks ++ [t], I, G) pc2 lv (.ref Ks.length :: st2)) : AW l b R y K lf sf (Ks, I, G) pc lv st := by
  intro p e s mm args below meth c Q n0 s0 C h1 h2 hF H locs cells slots ls hP hS hc hs hN hL
  have hc' : cells + n0 = Ks.length := hc
  have hs' : slots + s0 = sl Ks := hs
  have hN' : Ks.length < 1000 := hN.1.1
  have hz : s.heap.size = b.1 + n0 := by have := C.2.2.2.2.2.2; rw [hg] at this; exact this
  refine h p e s mm args below meth c Q n0 H locs cells slots ls C (by omega) (by omega) hP (wl_D b hN.1) hS hL (fun q hq => by unfold Ab; omega) (fun q H1 hP1 hD1 hS1 => ?_)
  refine W.szi (fun hsz => ?_)
  have hq := push_addr hz hc' hN' hP1 hD1 hsz
  subst hq
  rw [wl_push b (I' := I) (G' := G) (t := t) (fun _ _ => rfl) (fun _ _ => rfl) rfl] at hP1
  have hln : (Ks ++ [t]).length = Ks.length + 1 := by rw [List.length_append]; rfl
  have hsl : sl (Ks ++ [t]) = sl Ks + t.2 := by unfold sl; rw [List.map_append, List.sum_append]; show _ + (t.2 + 0) = _; omega
  exact k p e s mm args below meth c Q n0 s0 C h1 h2 hF H1 locs (cells + 1) (slots + t.2) ls hP1 hS1 (by show _ = (Ks ++ [t]).length; omega) (by show _ = sl (Ks ++ [t]); omega) ⟨⟨by show (Ks ++ [t]).length < 1000; omega, Or.inl hg⟩, Or.inl hg⟩ hL
theorem aw_new {idx ci N : Nat} {q : vw_C} {Ks : List (Nat × Nat)} {I : Nat → Nat → Int32} {G : Nat → Nat → Option Nat} (hc : clsT[ci]? = some q) (hN : q.2.2 = N) (g1 : Cond.classLink y.1.cls idx q.1 ∈ TW) (g2 : Cond.instantiable q.1 N ∈ TW) (g3 : Cond.initialized q.1 ∈ TW) (hI : ∀ j, I Ks.length j = 0) (hG : ∀ j, G Ks.length j = none) (hg : gp b = 0) (hl1 : Ks.length + 1 ≤ lf) (hl2 : sl Ks + N ≤ sf) (hl3 : Ks.length + 1 < 1000) (hd : decode y.2.1 pc = .ok (.new idx, 3))
    (kk : AW l b R y K lf sf (Ks ++ [(ci + 3, N)], I, G) (pc + 3) lv (.ref Ks.length :: st)) : AW l b R y K lf sf (Ks, I, G) pc lv st := by
  subst hN
  refine aw_grow (t := (ci + 3, q.2.2)) (st2 := st) hg hl1 hl2 hl3 (fun p e s mm args below meth c Q n0 H locs cells slots ls C hcl hsl hP hD hS hL hA kk => ?_) kk
  obtain ⟨CC, T, N⟩ := q
  have hin := fun w hw' => cls_in ci _ hc w hw'
  refine va_new C.1.1 C.1.2.1 C.1.2.2.2.2 hin (fty ci) (cls_ty ci _ hc) C.1.2.2.2.1 (C.1.2.2.2.2 _ g1) (C.1.2.2.2.2 _ g2) (C.1.2.2.2.2 _ g3) C.2.2.2.2.1.1 hP hD hS hA hc (fs := (List.range N).map (fun j => if isRf ci j then va_rf ((G Ks.length j).map (adr b)) else .int (I Ks.length j))) (fun j hj => ?_) hcl hsl hd kk
  have hdf := cls_df ci _ hc j hj
  unfold vp_V
  rw [List.getD_eq_getElem?_getD, List.getElem?_map, List.getElem?_range hj, hdf]
  simp only [Option.map_some, Option.getD_some]
  rw [hI, hG]
  rfl
theorem aw_newa {n : Nat} {v : Int32} {Ks : List (Nat × Nat)} {I : Nat → Nat → Int32} {G : Nat → Nat → Option Nat} (tg : Nat) (at0 : ArrayType) (htg : (tg = 0 ∧ at0 = .int) ∨ (tg = 1 ∧ at0 = .boolean)) (hv : v = nI n) (hn : n < 1000000) (g1 : Cond.arrayClass (newarray.typeOf at0) ∈ TW) (hI : ∀ j, I Ks.length j = 0) (hg : gp b = 0) (hl1 : Ks.length + 1 ≤ lf) (hl2 : sl Ks + n ≤ sf) (hl3 : Ks.length + 1 < 1000) (hd : decode y.2.1 pc = .ok (.newarray at0, 2))
    (kk : AW l b R y K lf sf (Ks ++ [(tg, n)], I, G) (pc + 2) lv (.ref Ks.length :: st)) : AW l b R y K lf sf (Ks, I, G) pc lv (.int v :: st) := by
  subst hv
  refine aw_grow (t := (tg, n)) (st := .int (nI n) :: st) (st2 := st) hg hl1 hl2 hl3 (fun p e s mm args below meth c Q n0 H locs cells slots ls C hcl hsl hP hD hS hL hA kk => ?_) kk
  have hI0 : I Ks.length = fun _ => 0 := funext hI
  have hK := C.2.2.2.2.1.1
  rcases htg with ⟨rfl, rfl⟩ | ⟨rfl, rfl⟩
  · refine va_newa (atype := .int) (ty := .int) C.1.1 C.1.2.1 (C.1.2.2.2.2 _ g1) rfl hK hP hD hS hA (a0 := (n, .inl (fun _ => 0))) (fun _ => rfl) (nI_pos (by omega)) (nI_clamp (by omega)) (by show n * 4 ≤ _; omega) hcl hsl hd (fun q cA H1 k1 p1 d1 s1 => kk q H1 ?_ ?_ s1)
    all_goals
      have e1 := (k1.2 3 (cA, .int) rfl).2
      have e2 := (hK.2 0 _ rfl).2
      have e3 : cA = b.2.2.2.1 0 := Option.some.inj ((va_nm_int e1).symm.trans (va_nm_int e2))
      subst e3
    · rw [show ent b (0, n) (I Ks.length) (G Ks.length) = .inl (b.2.2.2.1 0, n, .inl (I Ks.length)) from rfl, hI0]; exact p1
    · rw [show ent b (0, n) (I Ks.length) (G Ks.length) = .inl (b.2.2.2.1 0, n, .inl (I Ks.length)) from rfl, hI0]; exact d1
  · refine va_newa (atype := .boolean) (ty := .boolean) C.1.1 C.1.2.1 (C.1.2.2.2.2 _ g1) rfl hK hP hD hS hA (a0 := (n, .inl (fun _ => 0))) (fun _ => rfl) (nI_pos (by omega)) (nI_clamp (by omega)) (by show n * 1 ≤ _; omega) hcl hsl hd (fun q cA H1 k1 p1 d1 s1 => kk q H1 ?_ ?_ s1)
    all_goals
      have e1 := (k1.2 3 (cA, .boolean) rfl).2
      have e2 := (hK.2 1 _ rfl).2
      have e3 : cA = b.2.2.2.1 1 := Option.some.inj ((va_nm_boolean e1).symm.trans (va_nm_boolean e2))
      subst e3
    · rw [show ent b (1, n) (I Ks.length) (G Ks.length) = .inl (b.2.2.2.1 1, n, .inl (I Ks.length)) from rfl, hI0]; exact p1
    · rw [show ent b (1, n) (I Ks.length) (G Ks.length) = .inl (b.2.2.2.1 1, n, .inl (I Ks.length)) from rfl, hI0]; exact d1
theorem aw_newq {n idx : Nat} {v : Int32} {Ks : List (Nat × Nat)} {I : Nat → Nat → Int32} {G : Nat → Nat → Option Nat} (hv : v = nI n) (hn : n < 1000000) (g1 : Cond.classLink y.1.cls idx "SinglesUp$Law" ∈ TW) (hG : ∀ j, G Ks.length j = none) (hg : gp b = 0) (hl1 : Ks.length + 1 ≤ lf) (hl2 : sl Ks + n ≤ sf) (hl3 : Ks.length + 1 < 1000) (hd : decode y.2.1 pc = .ok (.anewarray idx, 3))
    (kk : AW l b R y K lf sf (Ks ++ [(2, n)], I, G) (pc + 3) lv (.ref Ks.length :: st)) : AW l b R y K lf sf (Ks, I, G) pc lv (.int v :: st) := by
  subst hv
  refine aw_grow (t := (2, n)) (st := .int (nI n) :: st) (st2 := st) hg hl1 hl2 hl3 (fun p e s mm args below meth c Q n0 H locs cells slots ls C hcl hsl hP hD hS hL hA kk => ?_) kk
  have hG0 : (fun j => (G Ks.length j).map (adr b)) = fun _ => none := funext fun j => by rw [hG]; rfl
  have hK := C.2.2.2.2.1.1
  refine va_newq C.1.1 C.1.2.1 C.1.2.2.2.1 (C.1.2.2.2.2 _ g1) C.2.2.2.2.1.2.2.1 hK hP hD hS hA (nI_pos (by omega)) (nI_clamp (by omega)) (by omega) hcl hsl hd (fun q cA H1 k1 p1 d1 s1 => kk q H1 ?_ ?_ s1)
  all_goals
    have e1 := (k1.2 3 (cA, .object "SinglesUp$Law") rfl).2
    have e2 := (hK.2 2 _ rfl).2
    obtain ⟨-, -, -, -, -, e1⟩ := e1
    obtain ⟨-, -, -, -, -, e2⟩ := e2
    have e3 : cA = b.2.2.2.1 2 := Option.some.inj (e1.symm.trans e2)
    subst e3
  · rw [show ent b (2, n) (I Ks.length) (G Ks.length) = .inl (b.2.2.2.1 2, n, .inr (.inr (.inr (.inr (fun j => (G Ks.length j).map (adr b)))))) from rfl, hG0]; exact p1
  · rw [show ent b (2, n) (I Ks.length) (G Ks.length) = .inl (b.2.2.2.1 2, n, .inr (.inr (.inr (.inr (fun j => (G Ks.length j).map (adr b)))))) from rfl, hG0]; exact d1
end AMR
