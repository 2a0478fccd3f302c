/-! the law's start -/
theorem cls_inst : ∀ (ci : Nat) (q : vw_C), clsT[ci]? = some q → Cond.instantiable q.1 q.2.2 ∈ TW := by
  intro ci q h
  match ci, h with
  | 0, h => cases h; exact tw_in 253 (by decide +kernel) rfl
  | 1, h => cases h; exact tw_in 361 (by decide +kernel) rfl
  | 2, h => cases h; exact tw_in 124 (by decide +kernel) rfl
  | 3, h => cases h; exact tw_in 155 (by decide +kernel) rfl
  | 4, h => cases h; exact tw_in 132 (by decide +kernel) rfl
  | 5, h => cases h; exact tw_in 245 (by decide +kernel) rfl
  | 6, h => cases h; exact tw_in 390 (by decide +kernel) rfl
  | 7, h => cases h; exact tw_in 309 (by decide +kernel) rfl
  | 8, h => cases h; exact tw_in 116 (by decide +kernel) rfl
  | 9, h => cases h; exact tw_in 1144 (by decide +kernel) rfl
  | k + 10, h => exact absurd h (by simp [clsT])
theorem st_cls {s : State} {args : Array Value} (hts : ∀ w ∈ TW, w.before args s = true) : ∃ (dC : Nat → ClassId) (dI : Nat → Nat → Nat), ∀ (k : Nat) (q : vw_C), clsT[k]? = some q → u_Kn s q.1 q.2.1 q.2.2 (dC k) (dI k) := by
  have h : ∀ k : Nat, ∃ (c : ClassId) (d : Nat → Nat), ∀ q : vw_C, clsT[k]? = some q → u_Kn s q.1 q.2.1 q.2.2 c d := by
    intro k
    cases hq : clsT[k]? with
    | none => exact ⟨(0 : Nat), fun _ => 0, fun q h => by cases h⟩
    | some q =>
      obtain ⟨c, d, h⟩ := u_known (C := q.1) (T := q.2.1) (N := q.2.2) (n := q.2.2) hts (cls_in k q hq) (hts _ (cls_inst k q hq))
      exact ⟨c, d, fun q' h' => by cases h'; exact h⟩
  exact ⟨fun k => Classical.choose (h k), fun k => Classical.choose (Classical.choose_spec (h k)), fun k => Classical.choose_spec (Classical.choose_spec (h k))⟩
theorem st_arr {s : State} {args : Array Value} {ty : FieldType} (h : (Cond.arrayClass ty).before args s = true) : ∃ cA : ClassId, ArrOfT s cA ty ∧ s.vm.findClass ("[" ++ ty.toString) = some cA := by
  obtain ⟨cA, kA, comp, h1, h2, h3⟩ := Cond.arrayClass_spec h
  exact ⟨cA, fun n z => ⟨(fun k h => by cases h), kA, h2, comp, h3⟩, h1⟩
theorem st_arq {s : State} {args : Array Value} {C : String} (h : (Cond.arrayOver (.object C)).before args s = true) : ∃ cA : ClassId, ArrOfT s cA (.object C) ∧ va_RA s cA (.object C) := by
  obtain ⟨comp, cA, kA, h1, h2, h3, h4, h5⟩ := Cond.arrayOver_spec h
  exact ⟨cA, fun n z => ⟨(fun k h => by cases h), kA, h3, comp, h4⟩, kA, comp, h3, h4, h1, h5⟩
theorem st_nw {s : State} {args : Array Value} (hts : ∀ w ∈ lw_tbl, w.before args s = true) : ∀ w ∈ NW, va_Nw w s := by
  intro w hw
  obtain ⟨h1, h2⟩ := List.mem_filter.mp hw
  have h3 := hts w (List.mem_append_right _ h1)
  cases w <;> first | (exact absurd (show false = true from h2) (by decide)) | (exact va_Nw.of rfl h3)
theorem st_P {b : PB} {I : Nat → Nat → Int32} {G : Nat → Nat → Option Nat} {H : Heap} : va_P b.2.2.1 clsT (wl b ([], I, G)) H := fun k q h => absurd (wl_inv h).1 (Nat.not_lt_zero k)
theorem st_tab {s : State} {args : Array Value} {n : String} {f : Nat → Int32} {A : Nat → Prop} (hl : (Cond.laysStatic "SinglesUp" n "[I").before args s = true) (hini : (Cond.initialized "SinglesUp").before args s = true) (harr : (Cond.arrayOf (.static "SinglesUp" n "[I") .int).before args s = true) (hlen : (Cond.eq (.length (.static "SinglesUp" n "[I")) (.int 6)).before args s = true) (hel : ∀ j : Nat, j < 6 → (Cond.eq (.elem (.static "SinglesUp" n "[I") (.int (Int32.ofNat j))) (.int (f j))).before args s = true) (hA : ∀ a : Nat, a < s.heap.size → ¬ A a) : ∃ t : Nat, va_Z "SinglesUp" n "[I" (.ref t) A s s.heap ∧ va_T .int t 6 (fun j => .int (f j)) A s s.heap := by
  obtain ⟨t, h1, h2⟩ := va_Tof (N := 6) (f := fun j => .int (f j)) (by decide) harr (va_eqt hlen) (fun j hj => va_eqt (hel j hj)) hA
  exact ⟨t, va_Zref hl hini h1 hA, h2⟩

theorem st_el {P : Nat → Prop} (h0 : P 0) (h1 : P 1) (h2 : P 2) (h3 : P 3) (h4 : P 4) (h5 : P 5) : ∀ j : Nat, j < 6 → P j := by
  intro j hj
  rcases (show j = 0 ∨ j = 1 ∨ j = 2 ∨ j = 3 ∨ j = 4 ∨ j = 5 by omega) with rfl | rfl | rfl | rfl | rfl | rfl
  · exact h0
  · exact h1
  · exact h2
  · exact h3
  · exact h4
  · exact h5
