/-! how a TEXT's code is typed, piece by piece -/
/-- a piece leaves bs, whatever follows, if B more have room -/
def TYQ (B : Nat) (s : Int) (it : List (Int × Int)) (bs : List Bool) : Prop := ∀ (rest : List (Int × Int)) (st : List Bool) (n : Nat), st.length + B ≤ n → tyR n s (it ++ rest) st = tyR n s rest (bs ++ st)
theorem typ_of {B : Nat} {s : Int} {it : List (Int × Int)} {b : Bool} (h : TYQ B s it [b]) : TYP B s it b := by
  intro st
  have e := h [] st (st.length + B) (Nat.le_refl _)
  rw [List.append_nil] at e
  exact e
theorem tyq_mono {B B' : Nat} {s : Int} {it : List (Int × Int)} {bs : List Bool} (h : TYQ B s it bs) (hB : B ≤ B') : TYQ B' s it bs := fun rest st n hn => h rest st n (by omega)
theorem typ_mono {B B' : Nat} {s : Int} {it : List (Int × Int)} {b : Bool} (h : TYQ B s it [b]) (hB : B ≤ B') : TYP B' s it b := typ_of (tyq_mono h hB)
theorem ts_num {n : Nat} {s v : Int} {rest : List (Int × Int)} {st : List Bool} (hn : st.length < n) (hv : 0 ≤ v ∧ v ≤ 9999) : tyR n s ((0, v) :: rest) st = tyR n s rest (false :: st) := by
  show (if st.length < n then (if ((0 : Int), v).1 = 0 then (if 0 ≤ ((0 : Int), v).2 ∧ ((0 : Int), v).2 ≤ 9999 then tyR n s rest (false :: st) else none) else _) else none) = _
  rw [if_pos hn]
  exact (if_pos rfl).trans (if_pos hv)
theorem ts_unit {n : Nat} {s c v : Int} {rest : List (Int × Int)} {st : List Bool} (hn : st.length < n) (hc : 1 ≤ c ∧ c < 12) (hv : (s = 4 ∧ (c = 1 ∨ c = 7 ∨ c = 10 ∨ c = 11)) ∨ (s ≠ 4 ∧ c ≤ 9)) : tyR n s ((c, v) :: rest) st = tyR n s rest (false :: st) := by
  show (if st.length < n then (if (c, v).1 = 0 then _ else if (c, v).1 < 12 then (if 1 ≤ (c, v).1 ∧ ((s = 4 ∧ ((c, v).1 = 1 ∨ (c, v).1 = 7 ∨ (c, v).1 = 10 ∨ (c, v).1 = 11)) ∨ (s ≠ 4 ∧ (c, v).1 ≤ 9)) then tyR n s rest (false :: st) else none) else _) else none) = _
  rw [if_pos hn]
  exact (if_neg (show ¬ c = 0 by omega)).trans ((if_pos (show c < 12 from hc.2)).trans (if_pos ⟨hc.1, hv⟩))
theorem ts_div {n : Nat} {s v : Int} {rest : List (Int × Int)} {a : Bool} {st : List Bool} (hn : st.length + 1 < n) (hv : 1 ≤ v ∧ v ≤ 9999) : tyR n s ((15, v) :: rest) (a :: st) = tyR n s rest (false :: st) := by
  rw [tyR, if_pos (show (a :: st).length < n from hn), if_neg (show ¬ (15 : Int) = 0 by decide), if_neg (show ¬ (15 : Int) < 12 by decide), if_pos (show (15 : Int) = 15 from rfl)]
  show (if 1 ≤ v ∧ v ≤ 9999 then _ else none) = _
  rw [if_pos hv]
theorem ts_not {n : Nat} {s v : Int} {rest : List (Int × Int)} {st : List Bool} (hn : st.length + 1 < n) : tyR n s ((19, v) :: rest) (true :: st) = tyR n s rest (true :: st) := by
  rw [tyR, if_pos (show (true :: st).length < n from hn), if_neg (show ¬ (19 : Int) = 0 by decide), if_neg (show ¬ (19 : Int) < 12 by decide), if_neg (show ¬ (19 : Int) = 15 by decide), if_pos (show (19 : Int) = 19 from rfl)]
theorem ts_ar {n : Nat} {s c v : Int} {rest : List (Int × Int)} {a b : Bool} {st : List Bool} (hn : st.length + 2 < n) (hc : c = 12 ∨ c = 13 ∨ c = 14) : tyR n s ((c, v) :: rest) (a :: b :: st) = tyR n s rest (false :: st) := by
  rw [tyR, if_pos (show (a :: b :: st).length < n from hn), if_neg (show ¬ c = 0 by omega), if_neg (show ¬ c < 12 by omega), if_neg (show ¬ c = 15 by omega), if_neg (show ¬ c = 19 by omega), if_pos (show c ≤ 14 by omega)]
theorem ts_cmp {n : Nat} {s c v : Int} {rest : List (Int × Int)} {a b : Bool} {st : List Bool} (hn : st.length + 2 < n) (hc : c = 16 ∨ c = 17 ∨ c = 18) : tyR n s ((c, v) :: rest) (a :: b :: st) = tyR n s rest (true :: st) := by
  rw [tyR, if_pos (show (a :: b :: st).length < n from hn), if_neg (show ¬ c = 0 by omega), if_neg (show ¬ c < 12 by omega), if_neg (show ¬ c = 15 by omega), if_neg (show ¬ c = 19 by omega), if_neg (show ¬ c ≤ 14 by omega), if_pos (show c ≤ 18 by omega)]
theorem ts_log {n : Nat} {s c v : Int} {rest : List (Int × Int)} {st : List Bool} (hn : st.length + 2 < n) (hc : c = 20 ∨ c = 21) : tyR n s ((c, v) :: rest) (true :: true :: st) = tyR n s rest (true :: st) := by
  rw [tyR, if_pos (show (true :: true :: st).length < n from hn), if_neg (show ¬ c = 0 by omega), if_neg (show ¬ c < 12 by omega), if_neg (show ¬ c = 15 by omega), if_neg (show ¬ c = 19 by omega), if_neg (show ¬ c ≤ 14 by omega), if_neg (show ¬ c ≤ 18 by omega), if_pos hc]
theorem tq_num {s v : Int} (hv : 0 ≤ v ∧ v ≤ 9999) : TYQ 1 s [(0, v)] [false] := fun rest st n hn => ts_num (by omega) hv
theorem tq_unit {s c v : Int} (hc : 1 ≤ c ∧ c < 12) (hv : (s = 4 ∧ (c = 1 ∨ c = 7 ∨ c = 10 ∨ c = 11)) ∨ (s ≠ 4 ∧ c ≤ 9)) : TYQ 1 s [(c, v)] [false] := fun rest st n hn => ts_unit (by omega) hc hv
/-- times -/
theorem tq_times {s : Int} {it it2 : List (Int × Int)} {bs : List Bool} (hb : bs.length ≤ 1) (h : TYQ 4 s it (false :: bs)) (h2 : TYQ 1 s it2 [false]) : TYQ 4 s (it ++ (it2 ++ [(14, 0)])) (false :: bs) := by
  intro rest st n hn
  rw [List.append_assoc, List.append_assoc, h _ st n hn, h2 _ _ n (by rw [List.length_append, List.length_cons]; omega)]
  exact ts_ar (st := bs ++ st) (by rw [List.length_append]; omega) (Or.inr (Or.inr rfl))
/-- part -/
theorem tq_part {s v : Int} {it : List (Int × Int)} {bs : List Bool} (hb : bs.length ≤ 1) (h : TYQ 4 s it (false :: bs)) (hv : 1 ≤ v ∧ v ≤ 9999) : TYQ 4 s (it ++ [(15, v)]) (false :: bs) := by
  intro rest st n hn
  rw [List.append_assoc, h _ st n hn]
  exact ts_div (st := bs ++ st) (by rw [List.length_append]; omega) hv
/-- what waits is laid -/
theorem tq_lay {s c : Int} {it : List (Int × Int)} (hc : c = 12 ∨ c = 13 ∨ c = 14) (h : TYQ 4 s it [false, false]) : TYQ 4 s (it ++ [(c, 0)]) [false] := by
  intro rest st n hn
  rw [List.append_assoc, h _ st n hn]
  exact ts_ar (st := st) (by omega) hc
/-- one more product begins -/
theorem tq_more {s : Int} {it it2 : List (Int × Int)} (h : TYQ 4 s it [false]) (h2 : TYQ 1 s it2 [false]) : TYQ 4 s (it ++ it2) [false, false] := by
  intro rest st n hn
  rw [List.append_assoc, h _ st n hn, h2 _ _ n (by rw [List.length_append]; show 1 + st.length + 1 ≤ n; omega)]
  rfl
/-- a comparison -/
theorem tq_cmp {s c : Int} {it it2 : List (Int × Int)} (hc : c = 16 ∨ c = 17 ∨ c = 18) (h : TYQ 4 s it [false]) (h2 : TYQ 4 s it2 [false]) : TYQ 5 s (it ++ (it2 ++ [(c, 0)])) [true] := by
  intro rest st n hn
  rw [List.append_assoc, List.append_assoc, h _ st n (by omega), h2 _ _ n (by rw [List.length_append]; show 1 + st.length + 4 ≤ n; omega)]
  exact ts_cmp (st := st) (by omega) hc
theorem tq_not {B : Nat} {s : Int} {it : List (Int × Int)} (hB : 2 ≤ B) (h : TYQ B s it [true]) : TYQ B s (it ++ [(19, 0)]) [true] := by
  intro rest st n hn
  rw [List.append_assoc, h _ st n hn]
  exact ts_not (st := st) (by omega)
/-- and, or: with what waits below -/
theorem tq_log {B : Nat} {s c : Int} {it it2 : List (Int × Int)} {bs : List Bool} (hc : c = 20 ∨ c = 21) (hb : bs.length ≤ 1) (hB : 3 ≤ B) (h : TYQ (B + 2) s it (true :: bs)) (h2 : TYQ B s it2 [true]) : TYQ (B + 2) s (it ++ (it2 ++ [(c, 0)])) (true :: bs) := by
  intro rest st n hn
  rw [List.append_assoc, List.append_assoc, h _ st n hn, h2 _ _ n (by rw [List.length_append, List.length_cons]; omega)]
  exact ts_log (st := bs ++ st) (by rw [List.length_append]; omega) hc
theorem tq_lay2 {B : Nat} {s c : Int} {it : List (Int × Int)} (hc : c = 20 ∨ c = 21) (hB : 1 ≤ B) (h : TYQ (B + 2) s it [true, true]) : TYQ (B + 2) s (it ++ [(c, 0)]) [true] := by
  intro rest st n hn
  rw [List.append_assoc, h _ st n hn]
  exact ts_log (st := st) (by omega) hc
theorem tq_more2 {B : Nat} {s : Int} {it it2 : List (Int × Int)} (h : TYQ (B + 2) s it [true]) (h2 : TYQ B s it2 [true]) : TYQ (B + 2) s (it ++ it2) [true, true] := by
  intro rest st n hn
  rw [List.append_assoc, h _ st n hn, h2 _ _ n (by rw [List.length_append]; show 1 + st.length + B ≤ n; omega)]
  rfl
