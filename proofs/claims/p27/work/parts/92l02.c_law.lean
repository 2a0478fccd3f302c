/-! a TEXT's code at work on both sides -/
def op2 (x a c : Int) : Int := if x = 12 then wr32 (a + c) else if x = 13 then wr32 (a - c) else if x = 14 then wr32 (a * c) else if x = 16 then (if a < c then 1 else 0) else if x = 17 then (if a = c then 1 else 0) else if x = 18 then (if c < a then 1 else 0) else if x = 20 then wand a c else wor a c
/-- one item on a pile, the top first -/
def ev1 (F : Nat → Int) (x : Int × Int) (st : List Int) : List Int :=
  if x.1 = 0 then x.2 :: st
  else if x.1 < 12 then F x.1.toNat :: st
  else if x.1 = 15 then (match st with
    | a :: t => wdiv a x.2 :: t
    | [] => [])
  else if x.1 = 19 then (match st with
    | a :: t => wr32 (1 - a) :: t
    | [] => [])
  else (match st with
    | c :: a :: t => op2 x.1 a c :: t
    | _ => [])
def evL (F : Nat → Int) : List (Int × Int) → List Int → List Int
  | [], st => st
  | x :: t, st => evL F t (ev1 F x st)
def evV (F : Nat → Int) (it : List (Int × Int)) : Int := (evL F it []).headD 0
/-- the worth by a law -/
def lval (k : Int) (F : Nat → Int) : List LRec → Int
  | [] => 0
  | r :: t => if r.B = [] ∨ evV F r.B = 1 then (if k = 4 then r.v else evV F r.E) else lval k F t
/-- a pile in cells, its top last -/
def SK (c : Nat → Int) : List Int → Prop
  | [] => True
  | v :: t => c t.length = v ∧ SK c t
theorem sk_up {c d : Nat → Int} : ∀ (st : List Int) (n : Nat), st.length ≤ n → (∀ j, j < n → d j = c j) → SK c st → SK d st := by
  intro st
  induction st with
  | nil => intro _ _ _ _; trivial
  | cons v t ih =>
    intro n hn hd h
    simp only [List.length_cons] at hn
    exact ⟨(hd _ (by omega)).trans h.1, ih n (by omega) hd h.2⟩
/-- values of these types -/
def TV : List Int → List Bool → Prop
  | [], [] => True
  | v :: t, b :: u => (b = true → v = 0 ∨ v = 1) ∧ TV t u
  | _, _ => False
theorem tv_len : ∀ (st : List Int) (ty : List Bool), TV st ty → st.length = ty.length := by
  intro st
  induction st with
  | nil => intro ty h; cases ty with
    | nil => rfl
    | cons _ _ => exact h.elim
  | cons v t ih => intro ty h; cases ty with
    | nil => exact h.elim
    | cons b u => simp only [List.length_cons]; rw [ih u h.2]
theorem bit_and {a c : Int} (ha : a = 0 ∨ a = 1) (hc : c = 0 ∨ c = 1) : wand a c = 0 ∨ wand a c = 1 := by
  rcases ha with rfl | rfl <;> rcases hc with rfl | rfl <;> decide
theorem bit_or {a c : Int} (ha : a = 0 ∨ a = 1) (hc : c = 0 ∨ c = 1) : wor a c = 0 ∨ wor a c = 1 := by
  rcases ha with rfl | rfl <;> rcases hc with rfl | rfl <;> decide
/-- what an item's kind must be -/
def KND (s : Int) (x : Int × Int) : Prop := (x.1 = 0 ∧ 0 ≤ x.2 ∧ x.2 ≤ 9999) ∨ (1 ≤ x.1 ∧ x.1 < 12 ∧ ((s = 4 ∧ (x.1 = 1 ∨ x.1 = 7 ∨ x.1 = 10 ∨ x.1 = 11)) ∨ (s ≠ 4 ∧ x.1 ≤ 9))) ∨ (x.1 = 15 ∧ 1 ≤ x.2 ∧ x.2 ≤ 9999) ∨ x.1 = 19 ∨ x.1 = 12 ∨ x.1 = 13 ∨ x.1 = 14 ∨ x.1 = 16 ∨ x.1 = 17 ∨ x.1 = 18 ∨ x.1 = 20 ∨ x.1 = 21
/-- one item: its kind, the types behind it, the pile behind it -/
theorem ty_step {B : Nat} {s : Int} {x : Int × Int} {t : List (Int × Int)} {ty ty2 : List Bool} (h : tyR B s (x :: t) ty = some ty2) (F : Nat → Int) {st : List Int} (hv : TV st ty) : KND s x ∧ ty.length < B ∧ ∃ ty1, tyR B s t ty1 = some ty2 ∧ TV (ev1 F x st) ty1 ∧ (x.1 < 12 → True) ∧ (x.1 = 15 ∨ x.1 = 19 → ∃ a u, st = a :: u) ∧ (12 ≤ x.1 → x.1 ≠ 15 → x.1 ≠ 19 → ∃ c a u, st = c :: a :: u) := by
  unfold tyR at h
  unfold ev1 KND
  by_cases hB : ty.length < B
  · rw [if_pos hB] at h
    by_cases h0 : x.1 = 0
    · rw [if_pos h0] at h
      by_cases h1 : 0 ≤ x.2 ∧ x.2 ≤ 9999
      · rw [if_pos h1] at h
        rw [if_pos h0]
        exact ⟨Or.inl ⟨h0, h1⟩, hB, _, h, ⟨fun q => absurd q Bool.false_ne_true, hv⟩, fun _ => trivial, fun q => by omega, fun q => by omega⟩
      · rw [if_neg h1] at h; cases h
    · rw [if_neg h0] at h
      rw [if_neg h0]
      by_cases h2 : x.1 < 12
      · rw [if_pos h2] at h
        rw [if_pos h2]
        split at h
        · rename_i h3
          exact ⟨Or.inr (Or.inl ⟨h3.1, h2, h3.2⟩), hB, _, h, ⟨fun q => absurd q Bool.false_ne_true, hv⟩, fun _ => trivial, fun q => by omega, fun q => by omega⟩
        · cases h
      · rw [if_neg h2] at h
        rw [if_neg h2]
        by_cases h5 : x.1 = 15
        · rw [if_pos h5] at h
          rw [if_pos h5]
          cases ty with
          | nil => cases h
          | cons b u =>
            cases st with
            | nil => exact hv.elim
            | cons a v =>
              have h' : (if 1 ≤ x.2 ∧ x.2 ≤ 9999 then tyR B s t (false :: u) else none) = some ty2 := h
              by_cases h6 : 1 ≤ x.2 ∧ x.2 ≤ 9999
              · rw [if_pos h6] at h'
                exact ⟨Or.inr (Or.inr (Or.inl ⟨h5, h6⟩)), hB, _, h', ⟨fun q => absurd q Bool.false_ne_true, hv.2⟩, fun _ => trivial, fun _ => ⟨a, v, rfl⟩, fun _ q => absurd h5 q⟩
              · rw [if_neg h6] at h'; cases h'
        · rw [if_neg h5] at h
          rw [if_neg h5]
          by_cases h9 : x.1 = 19
          · rw [if_pos h9] at h
            rw [if_pos h9]
            cases ty with
            | nil => cases h
            | cons b u =>
              cases b with
              | false => cases h
              | true =>
                cases st with
                | nil => exact hv.elim
                | cons a v =>
                  have h' : tyR B s t (true :: u) = some ty2 := h
                  refine ⟨Or.inr (Or.inr (Or.inr (Or.inl h9))), hB, _, h', ⟨fun _ => ?_, hv.2⟩, fun _ => trivial, fun _ => ⟨a, v, rfl⟩, fun _ _ q => absurd h9 q⟩
                  rcases hv.1 rfl with rfl | rfl
                  · exact Or.inr rfl
                  · exact Or.inl rfl
          · rw [if_neg h9] at h
            rw [if_neg h9]
            cases ty with
            | nil =>
              exfalso
              split at h
              · cases h
              · split at h
                · cases h
                · split at h <;> cases h
            | cons b u =>
            cases u with
            | nil =>
              exfalso
              split at h
              · cases h
              · split at h
                · cases h
                · split at h
                  · cases b <;> cases h
                  · cases h
            | cons b2 u =>
            cases st with
            | nil => exact hv.elim
            | cons c v =>
            cases v with
            | nil => exact hv.2.elim
            | cons a v =>
            by_cases h14 : x.1 ≤ 14
            · rw [if_pos h14] at h
              have h' : tyR B s t (false :: u) = some ty2 := h
              exact ⟨by omega, hB, _, h', ⟨fun q => absurd q Bool.false_ne_true, hv.2.2⟩, fun _ => trivial, fun q => by omega, fun _ _ _ => ⟨c, a, v, rfl⟩⟩
            · rw [if_neg h14] at h
              by_cases h18 : x.1 ≤ 18
              · rw [if_pos h18] at h
                have h' : tyR B s t (true :: u) = some ty2 := h
                refine ⟨by omega, hB, _, h', ⟨fun _ => ?_, hv.2.2⟩, fun _ => trivial, fun q => by omega, fun _ _ _ => ⟨c, a, v, rfl⟩⟩
                show op2 x.1 a c = 0 ∨ op2 x.1 a c = 1
                unfold op2
                rcases (show x.1 = 16 ∨ x.1 = 17 ∨ x.1 = 18 by omega) with e | e | e <;> rw [e] <;> simp only [Int.reduceEq, if_false, if_true] <;> split <;> simp
              · rw [if_neg h18] at h
                by_cases h20 : x.1 = 20 ∨ x.1 = 21
                · rw [if_pos h20] at h
                  cases b with
                  | false => cases h
                  | true =>
                    cases b2 with
                    | false => cases h
                    | true =>
                      have h' : tyR B s t (true :: u) = some ty2 := h
                      refine ⟨by omega, hB, _, h', ⟨fun _ => ?_, hv.2.2⟩, fun _ => trivial, fun q => by omega, fun _ _ _ => ⟨c, a, v, rfl⟩⟩
                      show op2 x.1 a c = 0 ∨ op2 x.1 a c = 1
                      unfold op2
                      rcases h20 with e | e <;> rw [e] <;> simp only [Int.reduceEq, if_false, if_true]
                      · exact bit_and (hv.2.1 rfl) (hv.1 rfl)
                      · exact bit_or (hv.2.1 rfl) (hv.1 rfl)
                · rw [if_neg h20] at h; cases h
  · rw [if_neg hB] at h; cases h
