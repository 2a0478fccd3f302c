/-! the law's start -/
theorem cls_inst : ∀ (ci : Nat) (q : vw_C), clsT[ci]? = some q → Cond.instantiable q.1 q.2.2 ∈ TW := by
  intro ci q h
  match ci, h with
  | 0, h => cases h; exact tw_c1 157 (by decide +kernel) rfl
  | 1, h => cases h; exact tw_c2 25 (by decide +kernel) rfl
  | 2, h => cases h; exact tw_c1 28 (by decide +kernel) rfl
  | 3, h => cases h; exact tw_c1 59 (by decide +kernel) rfl
  | 4, h => cases h; exact tw_c1 36 (by decide +kernel) rfl
  | 5, h => cases h; exact tw_c1 149 (by decide +kernel) rfl
  | 6, h => cases h; exact tw_c2 54 (by decide +kernel) rfl
  | 7, h => cases h; exact tw_c1 213 (by decide +kernel) rfl
  | 8, h => cases h; exact tw_c1 20 (by decide +kernel) rfl
  | 9, h => cases h; exact tw_c5 88 (by decide +kernel) rfl
  | k + 10, h => exact absurd h (by simp [clsT])
theorem st_cls {s : State} {args : Array Value} (hts : ∀ w ∈ TW, w.before args s = true) : ∃ (dC : Nat → ClassId) (dI : Nat → Nat → Nat), ∀ (k : Nat) (q : vw_C), clsT[k]? = some q → u_Kn s q.1 q.2.1 q.2.2 (dC k) (dI k) := by
  have h : ∀ k : Nat, ∃ (c : ClassId) (d : Nat → Nat), ∀ q : vw_C, clsT[k]? = some q → u_Kn s q.1 q.2.1 q.2.2 c d := by
    intro k
    cases hq : clsT[k]? with
    | none => exact ⟨(0 : Nat), fun _ => 0, fun q h => by cases h⟩
    | some q =>
      obtain ⟨c, d, h⟩ := u_known (C := q.1) (T := q.2.1) (N := q.2.2) (n := q.2.2) hts (cls_in k q hq) (hts _ (cls_inst k q hq))
      exact ⟨c, d, fun q' h' => by cases h'; exact h⟩
  exact ⟨fun k => Classical.choose (h k), fun k => Classical.choose (Classical.choose_spec (h k)), fun k => Classical.choose_spec (Classical.choose_spec (h k))⟩
theorem st_arr {s : State} {args : Array Value} {ty : FieldType} (h : (Cond.arrayClass ty).before args s = true) : ∃ cA : ClassId, ArrOfT s cA ty ∧ s.vm.findClass ("[" ++ ty.toString) = some cA := by
  obtain ⟨cA, kA, comp, h1, h2, h3⟩ := Cond.arrayClass_spec h
  exact ⟨cA, fun n z => ⟨(fun k h => by cases h), kA, h2, comp, h3⟩, h1⟩
theorem st_arq {s : State} {args : Array Value} {C : String} (h : (Cond.arrayOver (.object C)).before args s = true) : ∃ cA : ClassId, ArrOfT s cA (.object C) ∧ va_RA s cA (.object C) := by
  obtain ⟨comp, cA, kA, h1, h2, h3, h4, h5⟩ := Cond.arrayOver_spec h
  exact ⟨cA, fun n z => ⟨(fun k h => by cases h), kA, h3, comp, h4⟩, kA, comp, h3, h4, h1, h5⟩
theorem st_nw {s : State} {args : Array Value} (hts : ∀ w ∈ lw_tbl, w.before args s = true) : ∀ w ∈ NW, va_Nw w s := by
  intro w hw
  obtain ⟨h1, h2⟩ := List.mem_filter.mp hw
  have h3 := hts w (List.mem_append_right _ h1)
  cases w <;> first | (exact absurd (show false = true from h2) (by decide)) | (exact va_Nw.of rfl h3)
theorem st_P {b : PB} {I : Nat → Nat → Int32} {G : Nat → Nat → Option Nat} {H : Heap} : va_P b.2.2.1 clsT (wl b ([], I, G)) H := fun k q h => absurd (wl_inv h).1 (Nat.not_lt_zero k)
theorem st_tab {s : State} {args : Array Value} {n : String} {f : Nat → Int32} {A : Nat → Prop} (hl : (Cond.laysStatic "SinglesUp" n "[I").before args s = true) (hini : (Cond.initialized "SinglesUp").before args s = true) (harr : (Cond.arrayOf (.static "SinglesUp" n "[I") .int).before args s = true) (hlen : (Cond.eq (.length (.static "SinglesUp" n "[I")) (.int 6)).before args s = true) (hel : ∀ j : Nat, j < 6 → (Cond.eq (.elem (.static "SinglesUp" n "[I") (.int (Int32.ofNat j))) (.int (f j))).before args s = true) (hA : ∀ a : Nat, a < s.heap.size → ¬ A a) : ∃ t : Nat, va_Z "SinglesUp" n "[I" (.ref t) A s s.heap ∧ va_T .int t 6 (fun j => .int (f j)) A s s.heap := by
  obtain ⟨t, h1, h2⟩ := va_Tof (N := 6) (f := fun j => .int (f j)) (by decide) harr (va_eqt hlen) (fun j hj => va_eqt (hel j hj)) hA
  exact ⟨t, va_Zref hl hini h1 hA, h2⟩

theorem st_el {P : Nat → Prop} (h0 : P 0) (h1 : P 1) (h2 : P 2) (h3 : P 3) (h4 : P 4) (h5 : P 5) : ∀ j : Nat, j < 6 → P j := by
  intro j hj
  rcases (show j = 0 ∨ j = 1 ∨ j = 2 ∨ j = 3 ∨ j = 4 ∨ j = 5 by omega) with rfl | rfl | rfl | rfl | rfl | rfl
  · exact h0
  · exact h1
  · exact h2
  · exact h3
  · exact h4
  · exact h5

/-! the String constants at the law's start -/
def FLT : List Cond := flatC (Jvm.Cond.and given_1 narrow_1)
def tmS (i : Nat) : Term := .string (stI i).1 (stI i).2.1
def pE : List Nat := [27, 117, 132, 142, 151, 162, 174, 188, 203, 219, 237, 256, 275, 295, 317, 341, 366, 391]
def pCs : List Nat := [28, 118, 133, 143, 152, 163, 175, 189, 204, 220, 238, 257, 276, 296, 318, 342, 367, 392]
def pA : List Nat := [29, 119, 134, 144, 153, 164, 176, 190, 205, 221, 239, 258, 277, 297, 319, 343, 368, 393]
def pL : List Nat := [30, 120, 135, 145, 154, 165, 177, 191, 206, 222, 240, 259, 278, 298, 320, 344, 369, 394]
def pN : List (List Nat) := [[0, 131, 140, 148, 158, 169, 182, 196, 211, 228, 246, 264, 283, 304, 327, 351, 375, 401], [0, 0, 141, 149, 159, 170, 183, 197, 212, 229, 247, 265, 284, 305, 328, 352, 376, 402], [0, 0, 0, 150, 160, 171, 184, 198, 213, 230, 248, 266, 285, 306, 329, 353, 377, 403], [0, 0, 0, 0, 161, 172, 185, 199, 214, 231, 249, 267, 286, 307, 330, 354, 378, 404], [0, 0, 0, 0, 0, 173, 186, 200, 215, 232, 250, 268, 287, 308, 331, 355, 379, 405], [0, 0, 0, 0, 0, 0, 187, 201, 216, 233, 251, 269, 288, 309, 332, 356, 380, 406], [0, 0, 0, 0, 0, 0, 0, 202, 217, 234, 252, 270, 289, 310, 333, 357, 381, 407], [0, 0, 0, 0, 0, 0, 0, 0, 218, 235, 253, 271, 290, 311, 334, 358, 382, 408], [0, 0, 0, 0, 0, 0, 0, 0, 0, 236, 254, 272, 291, 312, 335, 359, 383, 409], [0, 0, 0, 0, 0, 0, 0, 0, 0, 0, 255, 273, 292, 313, 336, 360, 384, 410], [0, 0, 0, 0, 0, 0, 0, 0, 0, 0, 0, 274, 293, 314, 337, 361, 385, 411], [0, 0, 0, 0, 0, 0, 0, 0, 0, 0, 0, 0, 294, 315, 338, 362, 386, 412], [0, 0, 0, 0, 0, 0, 0, 0, 0, 0, 0, 0, 0, 316, 339, 363, 387, 413], [0, 0, 0, 0, 0, 0, 0, 0, 0, 0, 0, 0, 0, 0, 340, 364, 388, 414], [0, 0, 0, 0, 0, 0, 0, 0, 0, 0, 0, 0, 0, 0, 0, 365, 389, 415], [0, 0, 0, 0, 0, 0, 0, 0, 0, 0, 0, 0, 0, 0, 0, 0, 390, 416], [0, 0, 0, 0, 0, 0, 0, 0, 0, 0, 0, 0, 0, 0, 0, 0, 0, 417], [0, 0, 0, 0, 0, 0, 0, 0, 0, 0, 0, 0, 0, 0, 0, 0, 0, 0]]
def pR : List Nat := [541, 604, 1363, 1370, 1371, 1372, 1373, 1374, 1379, 1380, 1381, 1386, 1387, 1388, 1389, 1390, 1391, 1392]
theorem st_sE : ∀ i, i < 18 → FLT[pE.getD i 0]? = some (Cond.exactly (tmS i) "java/lang/String") := by decide +kernel
theorem st_sC : ∀ i, i < 18 → FLT[pCs.getD i 0]? = some (Cond.eq (.field (tmS i) "java/lang/String" "coder" "B") (.int 0)) := by decide +kernel
theorem st_sA : ∀ i, i < 18 → FLT[pA.getD i 0]? = some (Cond.arrayOf (.field (tmS i) "java/lang/String" "value" "[B") .byte) := by decide +kernel
theorem st_sL : ∀ i, i < 18 → FLT[pL.getD i 0]? = some (Cond.eq (.length (.field (tmS i) "java/lang/String" "value" "[B")) (.int (Int32.ofNat (lenJ.getD i 0)))) := by decide +kernel
theorem st_sB : ∀ i, i < 18 → ∀ j, j < lenJ.getD i 0 → FLT[pL.getD i 0 + 1 + j]? = some (Cond.eq (.elem (.field (tmS i) "java/lang/String" "value" "[B") (.int (Int32.ofNat j))) (.int ((bytJ.getD i []).getD j 0))) := by decide +kernel
theorem st_sN : ∀ i, i < 18 → ∀ j, j < 18 → i < j → FLT[(pN.getD i []).getD j 0]? = some (Cond.not (Cond.eq (tmS i) (tmS j))) := by decide +kernel
theorem st_sR : ∀ i, i < 18 → lw_tbl[pR.getD i 0]? = some (Cond.stringRef (stI i).1 (stI i).2.1 (stI i).2.2) := by decide +kernel
theorem st_sZ : ∀ i, i < 18 → lenJ.getD i 0 < 2 ^ 31 := by decide +kernel
theorem st_str {s : State} {args : Array Value} (hs : ∀ w ∈ FLT, w.before args s = true) (hts : ∀ w ∈ lw_tbl, w.before args s = true) {A : Nat → Prop} (hA : ∀ a : Nat, a < s.heap.size → ¬ A a) : ∃ adK adV : Nat → Nat, vk_S 18 lenJ bytJ adK adV A s s.heap ∧ ∀ i : Nat, i < 18 → vk_R (stI i).1 (stI i).2.1 (stI i).2.2 (adK i) s := by
  have hm : ∀ {k : Nat} {w : Cond}, FLT[k]? = some w → w.before args s = true := fun h => hs _ (List.mem_of_getElem? h)
  obtain ⟨adK, adV, h1, h2⟩ := vk_Sof (args := args) (s := s) (N := 18) (tm := tmS) (len := lenJ) (byt := bytJ) (A := A) st_sZ (fun i hi => hm (st_sE i hi)) (fun i hi => hm (st_sC i hi)) (fun i hi => hm (st_sA i hi)) (fun i hi => hm (st_sL i hi)) (fun i hi j hj => hm (st_sB i hi j hj)) (fun i j hi hj hne => by
    rcases Nat.lt_or_gt_of_ne hne with q | q
    · exact Or.inl (hm (st_sN i hi j hj q))
    · exact Or.inr (hm (st_sN j hj i hi q))) hA
  exact ⟨adK, adV, h1, fun i hi => vk_R.of (hts _ (List.mem_of_getElem? (st_sR i hi))) (h2 i hi)⟩
theorem vk_S.ext {adK adV aK aV : Nat → Nat} {A : Nat → Prop} {U : State} {H : Heap} (h : vk_S 18 lenJ bytJ adK adV A U H) (e1 : ∀ i, i < 18 → aK i = adK i) (e2 : ∀ i, i < 18 → aV i = adV i) : vk_S 18 lenJ bytJ aK aV A U H := by
  refine ⟨fun i hi => ?_, fun i j hi hj e => ?_⟩
  · rw [e1 i hi, e2 i hi]; exact h.1 i hi
  · rw [e1 i hi, e1 j hj] at e; exact h.2 i j hi hj e
