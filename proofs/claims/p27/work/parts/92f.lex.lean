/-! the two lexers and parsers: what a run that ends has done, and lexing on its own -/
def par (x : Res) (Q : Int → IMem → Prop) : Prop := ∀ v I, x = some (v, I) → Q v I
theorem par_zr {Q : Int → IMem → Prop} {v : Int} {I : IMem} (h : Q v I) : par (zr v I) Q := by
  intro v' I' e; cases e; exact h
theorem par_none {Q : Int → IMem → Prop} : par none Q := by intro v' I' e; cases e
theorem par_zl {Q : Int → IMem → Prop} {v : Int} {k : Int → Res} (h : par (k v) Q) : par (zl v k) Q := h
theorem par_zw {Q : Int → IMem → Prop} {I : IMem} {o j : Nat} {v : Int} {k : IMem → Res} (h : par (k (up I o j v)) Q) : par (zw I o j v k) Q := h
theorem par_zg {Q : Int → IMem → Prop} {c : Prop} [Decidable c] {k : Res} (h : c → par k Q) : par (zg c k) Q := by
  intro v I e
  obtain ⟨hc, e⟩ := of_zg e
  exact h hc v I e
theorem par_ite {Q : Int → IMem → Prop} {c : Prop} [Decidable c] {A B : Res} (h1 : c → par A Q) (h2 : ¬ c → par B Q) : par (if c then A else B) Q := by
  intro v I e
  rcases of_ite e with ⟨q, e⟩ | ⟨q, e⟩
  · exact h1 q v I e
  · exact h2 q v I e
theorem par_zb {Q1 Q : Int → IMem → Prop} {m : Res} {k : Int → IMem → Res} (h1 : par m Q1) (h2 : ∀ v I, Q1 v I → par (k v I) Q) : par (zb m k) Q := by
  intro v I e
  obtain ⟨v1, I1, e1, e2⟩ := of_zb e
  exact h2 v1 I1 (h1 v1 I1 e1) v I e2
theorem par_zj {Q : Int → IMem → Prop} {α : Type} {K : α} {M : α → Res} (h : ∀ k, k = K → par (M k) Q) : par (zj K M) Q := h K rfl
theorem par_sat {Q : Int → IMem → Prop} {m : Res} (h : sat m Q) : par m Q := by
  intro v I e
  obtain ⟨v1, I1, e1, q⟩ := h
  rw [e1] at e
  cases e
  exact q
theorem par_mono {Q1 Q : Int → IMem → Prop} {m : Res} (h1 : par m Q1) (h : ∀ v I, Q1 v I → Q v I) : par m Q := fun v I e => h v I (h1 v I e)
theorem par_and {Q1 Q2 : Int → IMem → Prop} {m : Res} (h1 : par m Q1) (h2 : par m Q2) : par m (fun v I => Q1 v I ∧ Q2 v I) := fun v I e => ⟨h1 v I e, h2 v I e⟩
theorem up_o {I : IMem} {o j p : Nat} {v : Int} (h : p ≠ o) (i : Nat) : up I o j v p i = I p i := if_neg (fun q => h q.1)
theorem up_j {I : IMem} {o j i : Nat} {v : Int} (h : i ≠ j) (p : Nat) : up I o j v p i = I p i := if_neg (fun q => h q.2)

/-! what a byte is -/
abbrev LT (c : Int) : Prop := (97 ≤ c ∧ c ≤ 122) ∨ (65 ≤ c ∧ c ≤ 90)
abbrev DG (c : Int) : Prop := 48 ≤ c ∧ c ≤ 57
abbrev WS (c : Int) : Prop := c = 32 ∨ c = 10
abbrev SG (c : Int) : Prop := c = 59 ∨ c = 43 ∨ c = 45 ∨ c = 42 ∨ c = 47 ∨ c = 40 ∨ c = 41 ∨ c = 60 ∨ c = 61 ∨ c = 62
/-- the bytes i .. i + n - 1 -/
def sg (b : Nat → Int) : Nat → Nat → List Int
  | _, 0 => []
  | i, n + 1 => b i :: sg b (i + 1) n
def nu (b : Nat → Int) : Nat → Nat → Int → Int
  | _, 0, a => a
  | i, n + 1, a => nu b (i + 1) n (10 * a + b i - 48)
theorem sg_congr {b c : Nat → Int} : ∀ (n i : Nat), (∀ j, i ≤ j → j < i + n → b j = c j) → sg b i n = sg c i n := by
  intro n
  induction n with
  | zero => intro i _; rfl
  | succ n ih =>
    intro i h
    show b i :: sg b (i + 1) n = c i :: sg c (i + 1) n
    rw [h i (Nat.le_refl _) (by omega), ih (i + 1) (fun j h1 h2 => h j (by omega) (by omega))]
theorem nu_congr {b c : Nat → Int} : ∀ (n i : Nat) (a : Int), (∀ j, i ≤ j → j < i + n → b j = c j) → nu b i n a = nu c i n a := by
  intro n
  induction n with
  | zero => intro i a _; rfl
  | succ n ih =>
    intro i a h
    show nu b (i + 1) n _ = nu c (i + 1) n _
    rw [h i (Nat.le_refl _) (by omega), ih (i + 1) _ (fun j h1 h2 => h j (by omega) (by omega))]
/-- which word of the class's list it is; 18: none -/
def wk (l : List Int) : Int :=
  if l = [116, 97, 107, 101] then 0 else if l = [119, 104, 101, 110] then 1 else if l = [111, 114] then 2 else if l = [97, 110, 100] then 3
  else if l = [110, 111, 116] then 4 else if l = [115, 104, 111, 114, 116] then 5 else if l = [102, 105, 114, 115, 116] then 6
  else if l = [115, 105, 122, 101] then 7 else if l = [115, 111, 114, 116] then 8 else if l = [108, 101, 102, 116] then 9
  else if l = [112, 108, 97, 99, 101] then 10 else if l = [108, 105, 110, 101] then 11 else if l = [112, 97, 115, 115, 101, 100] then 12
  else if l = [119, 97, 105, 116, 101, 100] then 13 else if l = [116, 97, 107, 101, 110] then 14 else if l = [98, 101, 104, 105, 110, 100] then 15 else 18
def RUN (P : Int → Prop) (b : Nat → Int) (L q e : Nat) : Prop := q < e ∧ e ≤ L ∧ (∀ i, q ≤ i → i < e → P (b i)) ∧ (e < L → ¬ P (b e))
theorem run_un {P : Int → Prop} {b : Nat → Int} {L q e f : Nat} (h : RUN P b L q e) (g : RUN P b L q f) : e = f := by
  obtain ⟨h1, h2, h3, h4⟩ := h
  obtain ⟨g1, g2, g3, g4⟩ := g
  rcases Nat.lt_trichotomy e f with c | c | c
  · exact absurd (g3 e (by omega) c) (h4 (by omega))
  · exact c
  · exact absurd (h3 f (by omega) c) (g4 (by omega))
/-- a token at q: kind, value, end -/
def TOK (b : Nat → Int) (L q : Nat) (k v : Int) (e : Nat) : Prop :=
  (q = L ∧ k = 17 ∧ e = L) ∨
  (q < L ∧ LT (b q) ∧ RUN LT b L q e ∧ k = wk (sg b q (e - q))) ∨
  (q < L ∧ DG (b q) ∧ RUN DG b L q e ∧ (e - q ≤ 4 → k = 16 ∧ v = nu b q (e - q) 0) ∧ (4 < e - q → k = 18)) ∨
  (q < L ∧ ¬ LT (b q) ∧ ¬ DG (b q) ∧ ¬ WS (b q) ∧ e = q + 1 ∧ (SG (b q) → k = b q) ∧ (¬ SG (b q) → k = 18))
def WSP (b : Nat → Int) (p q : Nat) : Prop := p ≤ q ∧ ∀ i, p ≤ i → i < q → WS (b i)
theorem wk_rng (l : List Int) : (0 ≤ wk l ∧ wk l ≤ 15) ∨ wk l = 18 := by
  unfold wk
  repeat' split
  all_goals omega

/-! the class's words -/
def chZ (s j : Nat) : Int := wi2c (wand (bytZ s j) 255)
def wordsZ : List Int := (List.range 86).map (chZ 0)
def au : List Int → List Int → Option (List Int) → Int → Int
  | [], _, _, _ => 18
  | c :: cs, l, r, w => if c = 32 then (if r = some [] then w else au cs l (some l) (w + 1)) else
    match r with
    | some (x :: xs) => if x = c then au cs l (some xs) w else au cs l none w
    | _ => au cs l none w
theorem au_cons (c : Int) (cs l : List Int) (r : Option (List Int)) (w : Int) : au (c :: cs) l r w = if c = 32 then (if r = some [] then w else au cs l (some l) (w + 1)) else
    match r with
    | some (x :: xs) => if x = c then au cs l (some xs) w else au cs l none w
    | _ => au cs l none w := rfl
theorem au_none (u cs l : List Int) (w : Int) (hu : ∀ c ∈ u, c ≠ 32) : au (u ++ 32 :: cs) l none w = au cs l (some l) (w + 1) := by
  induction u with
  | nil => rfl
  | cons c u ih =>
    have h1 : c ≠ 32 := hu c (List.mem_cons_self ..)
    rw [List.cons_append, au_cons, if_neg h1]
    exact ih (fun d hd => hu d (List.mem_cons_of_mem _ hd))
theorem au_some (u cs l : List Int) (w : Int) (hu : ∀ c ∈ u, c ≠ 32) : ∀ l', au (u ++ 32 :: cs) l (some l') w = if l' = u then w else au cs l (some l) (w + 1) := by
  induction u with
  | nil =>
    intro l'
    rw [List.nil_append, au_cons, if_pos rfl]
    by_cases h : l' = []
    · rw [if_pos (by rw [h]), if_pos h]
    · rw [if_neg (fun e => h (Option.some.inj e)), if_neg h]
  | cons c u ih =>
    intro l'
    have h1 : c ≠ 32 := hu c (List.mem_cons_self ..)
    have hu' : ∀ d ∈ u, d ≠ 32 := fun d hd => hu d (List.mem_cons_of_mem _ hd)
    rw [List.cons_append, au_cons, if_neg h1]
    match l' with
    | [] => exact (au_none u cs l w hu').trans (if_neg (fun e => by cases e)).symm
    | x :: xs =>
      show (if x = c then au (u ++ 32 :: cs) l (some xs) w else au (u ++ 32 :: cs) l none w) = _
      by_cases hx : x = c
      · rw [if_pos hx, ih hu' xs, hx]
        by_cases hy : xs = u
        · rw [if_pos hy, if_pos (by rw [hy])]
        · rw [if_neg hy, if_neg (fun e => hy (List.cons.inj e).2)]
      · rw [if_neg hx, au_none u cs l w hu', if_neg (fun e => hx (List.cons.inj e).1)]
theorem words_eq : wordsZ = [116, 97, 107, 101] ++ 32 :: ([119, 104, 101, 110] ++ 32 :: ([111, 114] ++ 32 :: ([97, 110, 100] ++ 32 :: ([110, 111, 116] ++ 32 :: ([115, 104, 111, 114, 116] ++ 32 :: ([102, 105, 114, 115, 116] ++ 32 :: ([115, 105, 122, 101] ++ 32 :: ([115, 111, 114, 116] ++ 32 :: ([108, 101, 102, 116] ++ 32 :: ([112, 108, 97, 99, 101] ++ 32 :: ([108, 105, 110, 101] ++ 32 :: ([112, 97, 115, 115, 101, 100] ++ 32 :: ([119, 97, 105, 116, 101, 100] ++ 32 :: ([116, 97, 107, 101, 110] ++ 32 :: ([98, 101, 104, 105, 110, 100] ++ 32 :: []))))))))))))))) := by decide +kernel
theorem au_wk (l : List Int) : au wordsZ l (some l) 0 = wk l := by
  rw [words_eq]
  rw [au_some _ _ _ _ (by decide), au_some _ _ _ _ (by decide), au_some _ _ _ _ (by decide), au_some _ _ _ _ (by decide), au_some _ _ _ _ (by decide), au_some _ _ _ _ (by decide), au_some _ _ _ _ (by decide), au_some _ _ _ _ (by decide), au_some _ _ _ _ (by decide), au_some _ _ _ _ (by decide), au_some _ _ _ _ (by decide), au_some _ _ _ _ (by decide), au_some _ _ _ _ (by decide), au_some _ _ _ _ (by decide), au_some _ _ _ _ (by decide), au_some _ _ _ _ (by decide)]
  rfl
theorem words_at {j : Nat} (h : j < 86) : wordsZ.drop j = chZ 0 j :: wordsZ.drop (j + 1) := by
  have hl : wordsZ.length = 86 := by decide +kernel
  rw [List.drop_eq_getElem_cons (by omega)]
  congr 1
  unfold wordsZ
  rw [List.getElem_map, List.getElem_range]
theorem words_end : wordsZ.drop 86 = [] := by decide +kernel
theorem par_len {Q : Int → IMem → Prop} {fu s : Nat} {I : IMem} {k : Int → IMem → Res} (hs : s < 18) (h : par (k ((lenJ.getD s 0 : Nat) : Int) I) Q) : par (zb (f_JS_length fu s I) k) Q := by
  have e : f_JS_length fu s I = zr ((lenJ.getD s 0 : Nat) : Int) I := by
    show zr (wshr ((lenJ.getD s 0 : Nat) : Int) 0) I = _
    congr 1
    have : ∀ s, s < 18 → wshr ((lenJ.getD s 0 : Nat) : Int) 0 = ((lenJ.getD s 0 : Nat) : Int) := by decide +kernel
    exact this s hs
  rw [e]
  exact h
theorem par_chr {Q : Int → IMem → Prop} {fu s : Nat} {a : Int} {I : IMem} {k : Int → IMem → Res} (h : 0 ≤ a → a < (lenJ.getD s 0 : Nat) → par (k (chZ s a.toNat) I) Q) : par (zb (f_JS_charAt fu s a I) k) Q := by
  refine par_zb (Q1 := fun v I' => v = chZ s a.toNat ∧ I' = I ∧ 0 ≤ a ∧ a < (lenJ.getD s 0 : Nat)) ?_ (fun v I' ⟨e1, e2, h1, h2⟩ => by subst e1; subst e2; exact h h1 h2)
  unfold f_JS_charAt f_JS_isLatin1
  refine par_zb (Q1 := fun v I' => v = 1 ∧ I' = I) (par_zr ⟨rfl, rfl⟩) (fun v I' ⟨e1, e2⟩ => ?_)
  subst e2; subst e1
  refine par_ite (fun q => par_none) (fun _ => ?_)
  unfold f_JL_charAt f_JS_checkIndex f_JP_checkIndex
  refine par_zb (Q1 := fun v I2 => v = chZ s a.toNat ∧ I2 = I' ∧ 0 ≤ a ∧ a < (lenJ.getD s 0 : Nat)) ?_ (fun v I2 h => par_zg (fun _ => par_zr h))
  refine par_zb (Q1 := fun v I2 => I2 = I') ?_ (fun v I2 e => ?_)
  · refine par_zb (Q1 := fun v I2 => I2 = I') ?_ (fun v I2 e => par_zr e)
    refine par_zj (fun k1 ek1 => ?_)
    subst ek1
    exact par_ite (fun _ => par_none) (fun _ => par_ite (fun _ => par_zr rfl) (fun _ => par_none))
  · subst e
    exact par_zg (fun h => par_zg (fun _ => par_zr ⟨rfl, rfl, h.1, h.2⟩))
/-! the class's lexer -/
theorem par_letter (fu : Nat) (c : Int) (I0 : IMem) : par (f_R_isLetter fu c I0) (fun v I => I = I0 ∧ (v = 0 ↔ ¬ LT c)) := by
  unfold f_R_isLetter LT
  refine par_zj (fun k1 ek1 => ?_)
  subst ek1
  refine par_ite (fun q => ?_) (fun q => par_ite (fun q2 => ?_) (fun q2 => ?_))
  · exact par_ite (fun q3 => par_zr ⟨rfl, by omega⟩) (fun q3 => par_ite (fun q4 => par_zr ⟨rfl, by omega⟩) (fun q4 => par_zr ⟨rfl, by omega⟩))
  · exact par_ite (fun q3 => par_zr ⟨rfl, by omega⟩) (fun q3 => par_ite (fun q4 => par_zr ⟨rfl, by omega⟩) (fun q4 => par_zr ⟨rfl, by omega⟩))
  · exact par_zr ⟨rfl, by omega⟩
theorem par_digit (fu : Nat) (c : Int) (I0 : IMem) : par (f_R_isDigit fu c I0) (fun v I => I = I0 ∧ (v = 0 ↔ ¬ DG c)) := by
  unfold f_R_isDigit DG
  exact par_ite (fun q3 => par_zr ⟨rfl, by omega⟩) (fun q3 => par_ite (fun q4 => par_zr ⟨rfl, by omega⟩) (fun q4 => par_zr ⟨rfl, by omega⟩))
theorem sg_cons {b : Nat → Int} {i e : Nat} (h : i < e) : sg b i (e - i) = b i :: sg b (i + 1) (e - (i + 1)) := by
  rw [show e - i = (e - (i + 1)) + 1 by omega]; rfl
theorem par_wordAt11 (fu : Nat) (I0 : IMem) (q e : Nat) (h1 : q ≤ e) (h2 : e ≤ 400) : ∀ (m : Nat) (w3 w4 w5 : Int) (j : Nat) (r : Option (List Int)), j ≤ 86 → 0 ≤ w3 → w3 ≤ j → ((w5 = 1 ∧ ∃ i : Nat, w4 = i ∧ q ≤ i ∧ i ≤ e ∧ r = some (sg (I0 145) i (e - i))) ∨ (w5 = 0 ∧ r = none)) → par (f_R_wordAt_11 fu 144 q e m w3 w4 w5 j I0) (fun v I => I = I0 ∧ v = au (wordsZ.drop j) (sg (I0 145) q (e - q)) r w3) := by
  intro m
  induction m with
  | zero => intro w3 w4 w5 j r _ _ _ _; exact par_none
  | succ m ih =>
    intro w3 w4 w5 j r hj hw0 hw1 hr
    show par (fb_R_wordAt_11 fu 144 q e (f_R_wordAt_11 fu 144 q e m) w3 w4 w5 j I0) _
    unfold fb_R_wordAt_11
    refine par_len (by decide) ?_
    refine par_ite (fun c => ?_) (fun c => ?_)
    · have c' : j < 86 := Int.ofNat_lt.mp c
      rw [words_at c', au_cons]
      refine par_chr (fun _ _ => ?_)
      rw [show ((j : Int)).toNat = j from rfl]
      refine par_zj (fun k7 ek7 => ?_)
      have hk7 : ∀ (x9 x10 x11 : Int) (r' : Option (List Int)), 0 ≤ x9 → x9 ≤ j + 1 → ((x11 = 1 ∧ ∃ i : Nat, x10 = i ∧ q ≤ i ∧ i ≤ e ∧ r' = some (sg (I0 145) i (e - i))) ∨ (x11 = 0 ∧ r' = none)) → par (k7 x9 x10 x11 I0) (fun v I => I = I0 ∧ v = au (wordsZ.drop (j + 1)) (sg (I0 145) q (e - q)) r' x9) := by
        intro x9 x10 x11 r' g0 g1 g2
        subst ek7
        refine par_zl ?_
        rw [wr32_i2 (by omega) (by omega)]
        exact ih x9 x10 x11 (j + 1) r' (by omega) g0 (by omega) g2
      clear ek7
      by_cases hc : chZ 0 j = 32
      · rw [if_pos hc, if_pos hc]
        refine par_zj (fun k14 ek14 => ?_)
        have hk14 : par (k14 I0) (fun v I => I = I0 ∧ v = au (wordsZ.drop (j + 1)) (sg (I0 145) q (e - q)) (some (sg (I0 145) q (e - q))) (w3 + 1)) := by
          subst ek14
          refine par_zl ?_
          rw [wr32_i2 (by omega) (by omega)]
          exact hk7 (w3 + 1) q 1 _ (by omega) (by omega) (Or.inl ⟨rfl, q, rfl, Nat.le_refl _, h1, rfl⟩)
        clear ek14
        rcases hr with ⟨e5, i, e4, hi1, hi2, er⟩ | ⟨e5, er⟩
        · rw [if_neg (by omega)]
          refine par_ite (fun c4 => ?_) (fun c4 => ?_)
          · have : i = e := by omega
            subst this
            rw [er, Nat.sub_self]
            exact par_zr ⟨rfl, rfl⟩
          · rw [er, sg_cons (by omega), if_neg (fun x => by cases x)]
            exact hk14
        · rw [if_pos e5, er, if_neg (fun x => by cases x)]
          exact hk14
      · rw [if_neg hc, if_neg hc]
        rcases hr with ⟨e5, i, e4, hi1, hi2, er⟩ | ⟨e5, er⟩
        · rw [if_neg (by omega), if_neg (by omega), er]
          refine par_ite (fun c4 => ?_) (fun c4 => ?_)
          · have hie : i < e := by omega
            rw [sg_cons hie]
            show par _ (fun v I => I = I0 ∧ v = if I0 145 i = chZ 0 j then au (wordsZ.drop (j + 1)) _ (some (sg (I0 145) (i + 1) (e - (i + 1)))) w3 else au (wordsZ.drop (j + 1)) _ none w3)
            rw [if_pos (by omega)]
            refine par_zg (fun _ => ?_)
            rw [show w4.toNat = i by omega]
            refine par_ite (fun cx => ?_) (fun cx => ?_)
            · rw [if_pos cx]
              refine par_zl ?_
              rw [wr32_i2 (by omega) (by omega)]
              exact hk7 w3 (w4 + 1) w5 _ hw0 (by omega) (Or.inl ⟨e5, i + 1, by omega, by omega, by omega, rfl⟩)
            · rw [if_neg cx]
              exact hk7 w3 w4 0 none hw0 (by omega) (Or.inr ⟨rfl, rfl⟩)
          · have : i = e := by omega
            subst this
            rw [Nat.sub_self]
            exact hk7 w3 w4 0 none hw0 (by omega) (Or.inr ⟨rfl, rfl⟩)
        · rw [if_pos e5, er]
          exact hk7 w3 w4 0 none hw0 (by omega) (Or.inr ⟨rfl, rfl⟩)
    · have c' : j = 86 := by
        have : ¬ ((j : Int) < ((86 : Nat) : Int)) := c
        omega
      subst c'
      rw [words_end]
      exact par_zr ⟨rfl, rfl⟩
theorem par_wordAt (fu : Nat) (I0 : IMem) (q e : Nat) (h1 : q ≤ e) (h2 : e ≤ 400) : par (f_R_wordAt fu 144 q e I0) (fun v I => I = I0 ∧ v = wk (sg (I0 145) q (e - q))) := by
  refine par_mono (par_wordAt11 fu I0 q e h1 h2 fu 0 q 1 0 (some (sg (I0 145) q (e - q))) (by omega) (by omega) (by omega) (Or.inl ⟨rfl, q, rfl, Nat.le_refl _, h1, rfl⟩)) (fun v I h => ⟨h.1, ?_⟩)
  rw [h.2, List.drop_zero, au_wk]
def NB (n : Nat) (w : Int) : Prop := 0 ≤ w ∧ n ≤ 4 ∧ (n = 4 → w < 1) ∧ (n = 3 → w < 10) ∧ (n = 2 → w < 100) ∧ (n = 1 → w < 1000)
theorem par_num9 (fu : Nat) (I0 : IMem) (e : Nat) (h2 : e ≤ 400) : ∀ (m i : Nat) (w3 : Int), i ≤ e → par (f_R_numberAt_9 fu 144 e m w3 i I0) (fun v I => I = I0 ∧ ((∀ j, i ≤ j → j < e → DG (I0 145 j)) → NB (e - i) w3 → v = nu (I0 145) i (e - i) w3)) := by
  intro m
  induction m with
  | zero => intro i w3 _; exact par_none
  | succ m ih =>
    intro i w3 hi
    show par (fb_R_numberAt_9 fu 144 e (f_R_numberAt_9 fu 144 e m) w3 i I0) _
    unfold fb_R_numberAt_9
    refine par_ite (fun q => ?_) (fun q => ?_)
    · have hie : i < e := by omega
      rw [if_pos (by omega)]
      refine par_zg (fun _ => ?_)
      refine par_zl (par_zl ?_)
      rw [show wr32 ((i : Int) + 1) = ((i + 1 : Nat) : Int) by rw [wr32_i2 (by omega) (by omega)]; rfl]
      refine par_mono (ih (i + 1) _ (by omega)) (fun v I h => ⟨h.1, fun hd hb => ?_⟩)
      have hdi := hd i (Nat.le_refl _) hie
      unfold DG at hdi
      unfold NB at hb
      rw [show (i : Int).toNat = i from rfl] at h
      have hw : wr32 (wr32 (wr32 (10 * w3) + I0 145 i) - 48) = 10 * w3 + I0 145 i - 48 := by
        rw [wr32_i2 (x := 10 * w3) (by omega) (by omega), wr32_i2 (x := 10 * w3 + I0 145 i) (by omega) (by omega), wr32_i2 (by omega) (by omega)]
      rw [hw] at h
      rw [h.2 (fun j h1 h2 => hd j (by omega) h2) (by unfold NB; omega)]
      rw [show e - i = (e - (i + 1)) + 1 by omega]
      rfl
    · have : i = e := by omega
      subst this
      rw [Nat.sub_self]
      exact par_zr ⟨rfl, fun _ _ => rfl⟩
theorem par_number (fu : Nat) (I0 : IMem) (q e : Nat) (h1 : q ≤ e) (h2 : e ≤ 400) : par (f_R_numberAt fu 144 q e I0) (fun v I => I = I0 ∧ ((∀ j, q ≤ j → j < e → DG (I0 145 j)) → e - q ≤ 4 → v = nu (I0 145) q (e - q) 0)) := by
  unfold f_R_numberAt f_JM_max
  refine par_zb (Q1 := fun v I => v = q ∧ I = I0) (par_ite (fun c => by omega) (fun c => par_zr ⟨rfl, rfl⟩)) (fun v I ⟨e1, e2⟩ => ?_)
  subst e1 e2
  exact par_mono (par_num9 fu I e h2 fu q 0 h1) (fun v I h => ⟨h.1, fun a b => h.2 a (by unfold NB; omega)⟩)
theorem signs_ok : ∀ x : Fin 256, (SG ((x.val : Nat) : Int) ↔ ∃ j : Fin 10, bytZ 1 j.val = wi2b (wi2c ((x.val : Nat) : Int))) ∧ wi2c ((x.val : Nat) : Int) = ((x.val : Nat) : Int) := by decide +kernel
theorem par_index7 (fu : Nat) (I0 : IMem) (c : Int) : ∀ (m j : Nat), j ≤ 10 → par (f_JL_indexOfChar_7 fu 1 10 c m j I0) (fun v I => I = I0 ∧ (v < 0 ↔ ∀ i, j ≤ i → i < 10 → bytZ 1 i ≠ c)) := by
  intro m
  induction m with
  | zero => intro j _; exact par_none
  | succ m ih =>
    intro j hj
    show par (fb_JL_indexOfChar_7 fu 1 10 c (f_JL_indexOfChar_7 fu 1 10 c m) j I0) _
    unfold fb_JL_indexOfChar_7
    refine par_ite (fun q => ?_) (fun q => ?_)
    · refine par_zg (fun _ => ?_)
      refine par_ite (fun g => ?_) (fun g => ?_)
      · exact par_zr ⟨rfl, fun h => by omega, fun h => absurd g (h j (Nat.le_refl _) (by omega))⟩
      · refine par_zl ?_
        rw [show wr32 ((j : Int) + 1) = ((j + 1 : Nat) : Int) by rw [wr32_i2 (by omega) (by omega)]; rfl]
        refine par_mono (ih (j + 1) (by omega)) (fun v I h => ⟨h.1, h.2.trans ⟨fun a i h1 h2 => ?_, fun a i h1 h2 => a i (by omega) h2⟩⟩)
        by_cases hij : i = j
        · subst hij; exact g
        · exact a i (by omega) h2
    · exact par_zr ⟨rfl, fun _ i h1 h2 => by omega, fun _ => by omega⟩
theorem par_index (fu : Nat) (I0 : IMem) (c : Int) (h : 0 ≤ c ∧ c < 256) : par (f_JS_indexOf fu 1 (wi2c c) I0) (fun v I => I = I0 ∧ (v < 0 ↔ ¬ SG c)) := by
  have hx := signs_ok ⟨c.toNat, by omega⟩
  have e : ((c.toNat : Nat) : Int) = c := by omega
  simp only [e] at hx
  unfold f_JS_indexOf
  refine par_zb (Q1 := fun v I => I = I0 ∧ (v < 0 ↔ ¬ SG c)) ?_ (fun v I h => par_zr h)
  unfold f_JS_indexOf_1 f_JS_isLatin1
  refine par_zb (Q1 := fun v I => I = I0 ∧ v = 1) (par_zr ⟨rfl, rfl⟩) (fun v I ⟨e1, e2⟩ => ?_)
  subst e1 e2
  rw [if_neg (by decide)]
  refine par_len (by decide) ?_
  refine par_zb (Q1 := fun v I' => I' = I ∧ (v < 0 ↔ ¬ SG c)) ?_ (fun v I h => par_zr h)
  unfold f_JL_indexOf f_JL_canEncode
  refine par_zb (Q1 := fun v I' => I' = I ∧ v = 1) (par_ite (fun q => by omega) (fun q => par_ite (fun q => by omega) (fun q => par_zr ⟨rfl, rfl⟩))) (fun v I' ⟨e1, e2⟩ => ?_)
  subst e1 e2
  rw [if_neg (by decide)]
  unfold f_JM_max f_JM_min
  refine par_zb (Q1 := fun v I2 => I2 = I' ∧ v = 0) (par_ite (fun q => by omega) (fun q => par_zr ⟨rfl, rfl⟩)) (fun v I2 ⟨e1, e2⟩ => ?_)
  subst e1 e2
  refine par_zb (Q1 := fun v I3 => I3 = I2 ∧ v = 10) (par_ite (fun q => by exact absurd q (by decide)) (fun q => par_zr ⟨rfl, rfl⟩)) (fun v I3 ⟨e1, e2⟩ => ?_)
  subst e1 e2
  rw [if_pos (by decide)]
  refine par_zb (Q1 := fun v I' => I' = I3 ∧ (v < 0 ↔ ¬ SG c)) ?_ (fun v I h => par_zr h)
  unfold f_JL_indexOfChar
  refine par_zl ?_
  refine par_mono (par_index7 fu I3 (wi2b (wi2c c)) fu 0 (by omega)) (fun v I h => ⟨h.1, h.2.trans ⟨fun a s => ?_, fun s i _ h2 g => s (hx.1.mpr ⟨⟨i, h2⟩, g⟩)⟩⟩)
  obtain ⟨j, hj⟩ := hx.1.mp s
  exact a j.val (by omega) j.isLt hj
/-! the class's tokens -/
theorem par_addTok (fu : Nat) (I0 : IMem) (t : Nat) (k q v : Int) (ht : I0 144 5 = t) (h4 : t ≤ 400) : par (f_R_addToken fu 144 k q v I0) (fun _ I => I 144 5 = (t + 1 : Nat) ∧ I 146 t = k ∧ I 147 t = q ∧ I 148 t = v ∧ ∀ p j, ¬ ((p = 146 ∨ p = 147 ∨ p = 148) ∧ j = t) → ¬ (p = 144 ∧ j = 5) → I p j = I0 p j) := by
  unfold f_R_addToken
  rw [if_neg (by omega), if_neg (by omega)]
  refine par_zl (par_zg fun _ => par_zw (par_zl (par_zg fun _ => par_zw (par_zl (par_zg fun _ => par_zw (par_zw (par_zr ?_)))))))
  have a2 : up I0 146 (I0 144 5).toNat k 144 5 = I0 144 5 := up_o (by omega) _
  have a3 : up (up I0 146 (I0 144 5).toNat k) 147 (up I0 146 (I0 144 5).toNat k 144 5).toNat q 144 5 = I0 144 5 := (up_o (by omega) _).trans a2
  simp only [Nat.reduceAdd]
  rw [a3, a2]
  have e : (I0 144 5).toNat = t := by omega
  rw [e]
  have a4 : up (up (up I0 146 t k) 147 t q) 148 t v 144 5 = t := (up_o (by omega) _).trans ((up_o (by omega) _).trans ((up_o (by omega) _).trans ht))
  refine ⟨?_, ?_, ?_, ?_, ?_⟩
  · rw [a4, wr32_i2 (by omega) (by omega)]
    exact if_pos ⟨rfl, rfl⟩
  · rw [up_o (by omega), up_o (by omega), up_o (by omega)]; exact if_pos ⟨rfl, rfl⟩
  · rw [up_o (by omega), up_o (by omega)]; exact if_pos ⟨rfl, rfl⟩
  · rw [up_o (by omega)]; exact if_pos ⟨rfl, rfl⟩
  · intro p j h1 h2
    show (if p = 144 ∧ j = 5 then _ else if p = 148 ∧ j = t then v else if p = 147 ∧ j = t then q else if p = 146 ∧ j = t then k else I0 p j) = _
    rw [if_neg h2, if_neg (by omega), if_neg (by omega), if_neg (by omega)]
theorem par_scan41 {Q : Int → IMem → Prop} (fu : Nat) (k : Int → IMem → Res) (p2 : Int) (L : Nat) (hL : L ≤ 400) (I : IMem) (h1 : I 144 1 = L) : ∀ (m i : Nat), i ≤ L → (∀ e : Nat, i ≤ e → e ≤ L → (∀ j, i ≤ j → j < e → LT (I 145 j)) → (e < L → ¬ LT (I 145 e)) → par (k e I) Q) → par (f_R_scan_41 fu k 144 p2 m i I) Q := by
  intro m
  induction m with
  | zero => intro i _ _; exact par_none
  | succ m ih =>
    intro i hi hk
    show par (fb_R_scan_41 fu k 144 p2 (f_R_scan_41 fu k 144 p2 m) i I) _
    unfold fb_R_scan_41
    rw [h1]
    refine par_ite (fun q => ?_) (fun q => hk i (Nat.le_refl _) hi (fun j _ _ => by omega) (fun _ => by omega))
    rw [if_pos (by omega)]
    refine par_zg (fun _ => ?_)
    rw [show (i : Int).toNat = i from rfl]
    refine par_zb (par_letter fu _ I) (fun y I' ⟨e, hy⟩ => ?_)
    subst e
    refine par_ite (fun g => hk i (Nat.le_refl _) hi (fun j _ _ => by omega) (fun _ => hy.mp g)) (fun g => ?_)
    refine par_zl ?_
    rw [show wr32 ((i : Int) + 1) = ((i + 1 : Nat) : Int) by rw [wr32_i2 (by omega) (by omega)]; rfl]
    refine ih (i + 1) (by omega) (fun e g1 g2 g3 g4 => hk e (by omega) g2 (fun j j1 j2 => ?_) g4)
    by_cases hij : j = i
    · subst hij; exact Classical.byContradiction fun x => g (hy.mpr x)
    · exact g3 j (by omega) j2
theorem par_scan96 {Q : Int → IMem → Prop} (fu : Nat) (k : Int → IMem → Res) (p2 : Int) (L : Nat) (hL : L ≤ 400) (I : IMem) (h1 : I 144 1 = L) : ∀ (m i : Nat), i ≤ L → (∀ e : Nat, i ≤ e → e ≤ L → (∀ j, i ≤ j → j < e → DG (I 145 j)) → (e < L → ¬ DG (I 145 e)) → par (k e I) Q) → par (f_R_scan_96 fu k 144 p2 m i I) Q := by
  intro m
  induction m with
  | zero => intro i _ _; exact par_none
  | succ m ih =>
    intro i hi hk
    show par (fb_R_scan_96 fu k 144 p2 (f_R_scan_96 fu k 144 p2 m) i I) _
    unfold fb_R_scan_96
    rw [h1]
    refine par_ite (fun q => ?_) (fun q => hk i (Nat.le_refl _) hi (fun j _ _ => by omega) (fun _ => by omega))
    rw [if_pos (by omega)]
    refine par_zg (fun _ => ?_)
    rw [show (i : Int).toNat = i from rfl]
    refine par_zb (par_digit fu _ I) (fun y I' ⟨e, hy⟩ => ?_)
    subst e
    refine par_ite (fun g => hk i (Nat.le_refl _) hi (fun j _ _ => by omega) (fun _ => hy.mp g)) (fun g => ?_)
    refine par_zl ?_
    rw [show wr32 ((i : Int) + 1) = ((i + 1 : Nat) : Int) by rw [wr32_i2 (by omega) (by omega)]; rfl]
    refine ih (i + 1) (by omega) (fun e g1 g2 g3 g4 => hk e (by omega) g2 (fun j j1 j2 => ?_) g4)
    by_cases hij : j = i
    · subst hij; exact Classical.byContradiction fun x => g (hy.mpr x)
    · exact g3 j (by omega) j2
/-- so far t tokens, and i is where the next is looked for -/
def SC (b : Nat → Int) (L : Nat) (I : IMem) (t i : Nat) : Prop := I 144 1 = L ∧ (∀ j, I 145 j = b j) ∧ I 144 5 = t ∧ i ≤ L ∧ ∃ E : Nat → Nat, E 0 = 0 ∧ (∀ s, s < t → ∃ q : Nat, I 147 s = q ∧ WSP b (E s) q ∧ q < L ∧ TOK b L q (I 146 s) (I 148 s) (E (s + 1)) ∧ I 146 s ≠ 17) ∧ WSP b (E t) i ∧ t ≤ E t
/-- the tokens of the bytes b 0 .. b (L - 1): kinds, places, values, ends -/
def LEXD (b : Nat → Int) (L n : Nat) (K P V : Nat → Int) (E : Nat → Nat) : Prop := E 0 = 0 ∧ n ≤ 400 ∧ ∀ s, s ≤ n → ∃ q : Nat, P s = q ∧ WSP b (E s) q ∧ q ≤ L ∧ TOK b L q (K s) (V s) (E (s + 1)) ∧ (K s = 17 ↔ s = n)
theorem tok_end {b : Nat → Int} {L q : Nat} {k v : Int} {e : Nat} (h : TOK b L q k v e) (hq : q < L) : q < e ∧ e ≤ L := by
  rcases h with h | h | h | h
  · omega
  · exact ⟨h.2.2.1.1, h.2.2.1.2.1⟩
  · exact ⟨h.2.2.1.1, h.2.2.1.2.1⟩
  · omega
theorem sc_push {b : Nat → Int} {L t q e : Nat} {k v : Int} {I I' : IMem} (h : SC b L I t q) (hq : q < L) (ht : TOK b L q k v e) (hk : k ≠ 17) (g : I' 144 5 = (t + 1 : Nat) ∧ I' 146 t = k ∧ I' 147 t = q ∧ I' 148 t = v ∧ ∀ p j, ¬ ((p = 146 ∨ p = 147 ∨ p = 148) ∧ j = t) → ¬ (p = 144 ∧ j = 5) → I' p j = I p j) : SC b L I' (t + 1) e := by
  obtain ⟨h1, h2, h3, h4, E, e0, h5, h6, h7⟩ := h
  obtain ⟨g1, g2, g3, g4, g5⟩ := g
  have te := tok_end ht hq
  have w := h6.1
  refine ⟨(g5 144 1 (by omega) (by omega)).trans h1, fun j => (g5 145 j (by omega) (by omega)).trans (h2 j), g1, te.2, fun s => if s ≤ t then E s else e, by show (if 0 ≤ t then E 0 else _) = 0; rw [if_pos (Nat.zero_le _)]; exact e0, fun s hs => ?_, ?_, ?_⟩
  · by_cases hst : s = t
    · subst hst
      refine ⟨q, g3, ?_, hq, ?_, by rw [g2]; exact hk⟩
      · show WSP b (if s ≤ s then E s else e) q
        rw [if_pos (Nat.le_refl _)]; exact h6
      · show TOK b L q (I' 146 s) (I' 148 s) (if s + 1 ≤ s then E (s + 1) else e)
        rw [if_neg (by omega), g2, g4]; exact ht
    · obtain ⟨q', a1, a2, a3, a4, a5⟩ := h5 s (by omega)
      rw [← g5 147 s (by omega) (by omega)] at a1
      rw [← g5 146 s (by omega) (by omega), ← g5 148 s (by omega) (by omega)] at a4
      rw [← g5 146 s (by omega) (by omega)] at a5
      refine ⟨q', a1, ?_, a3, ?_, a5⟩
      · show WSP b (if s ≤ t then E s else e) q'
        rw [if_pos (by omega)]; exact a2
      · show TOK b L q' (I' 146 s) (I' 148 s) (if s + 1 ≤ t then E (s + 1) else e)
        rw [if_pos (by omega)]; exact a4
  · show WSP b (if t + 1 ≤ t then E (t + 1) else e) e
    rw [if_neg (by omega)]
    exact ⟨Nat.le_refl _, fun i _ _ => by omega⟩
  · show t + 1 ≤ (if t + 1 ≤ t then E (t + 1) else e)
    rw [if_neg (by omega)]
    omega
theorem par_scan7 {Q : Int → IMem → Prop} (fu : Nat) (k : IMem → Res) (b : Nat → Int) (L : Nat) (hL : L ≤ 400) (hb : ∀ j, j < L → 0 ≤ b j ∧ b j < 256) (hk : ∀ (t : Nat) (I : IMem), SC b L I t L → par (k I) Q) : ∀ (m t i : Nat) (I : IMem), SC b L I t i → par (f_R_scan_7 fu k 144 m i I) Q := by
  intro m
  induction m with
  | zero => intro t i I _; exact par_none
  | succ m ih =>
    intro t i I h
    show par (fb_R_scan_7 fu k 144 (f_R_scan_7 fu k 144 m) i I) _
    unfold fb_R_scan_7
    have h0 := h
    obtain ⟨h1, h2, h3, h4, E, e0, h5, h6, h7⟩ := h0
    have w := h6.1
    rw [h1]
    refine par_ite (fun q => ?_) (fun q => hk t I (by have : i = L := by omega
                                                      subst this; exact h))
    have hi : i < L := by omega
    rw [if_pos (by omega)]
    refine par_zg (fun _ => ?_)
    rw [show (i : Int).toNat = i from rfl]
    refine par_zl (par_zl ?_)
    rw [show I (144 + 1) i = b i from h2 i]
    rw [show wr32 ((i : Int) + 1) = ((i + 1 : Nat) : Int) by rw [wr32_i2 (by omega) (by omega)]; rfl]
    have hbi := hb i hi
    refine par_zb (par_letter fu _ I) (fun y I' ⟨e, hy⟩ => ?_)
    subst e
    refine par_ite (fun g => ?_) (fun g => ?_)
    · have hnl := hy.mp g
      refine par_zb (par_digit fu _ I') (fun y2 I2 ⟨e, hy2⟩ => ?_)
      subst e
      refine par_ite (fun g2 => ?_) (fun g2 => ?_)
      · have hnd := hy2.mp g2
        have hws : WS (b i) → SC b L I2 t (i + 1) := fun x => ⟨h1, h2, h3, hi, E, e0, h5, ⟨by omega, fun j j1 j2 => by
          by_cases hij : j = i
          · subst hij; exact x
          · exact h6.2 j j1 (by omega)⟩, h7⟩
        refine par_ite (fun a => ih t (i + 1) I2 (hws (Or.inl a))) (fun a => ?_)
        refine par_ite (fun c => ih t (i + 1) I2 (hws (Or.inr c))) (fun c => ?_)
        refine par_zb (par_index fu I2 (b i) hbi) (fun y3 I3 ⟨e, hy3⟩ => ?_)
        subst e
        have hnw : ¬ WS (b i) := fun x => x.elim a c
        refine par_zj (fun k13 ek13 => ?_)
        have hk13 : ∀ x : Int, ((SG (b i) → x = b i) ∧ (¬ SG (b i) → x = 18)) → par (k13 x I3) Q := by
          intro x hx
          subst ek13
          refine par_zb (par_addTok fu I3 t x i 0 h3 (by omega)) (fun _ I4 g4 => ?_)
          refine ih (t + 1) (i + 1) I4 (sc_push h hi (e := i + 1) (Or.inr (Or.inr (Or.inr ⟨hi, hnl, hnd, hnw, rfl, hx.1, hx.2⟩))) ?_ g4)
          intro x17
          rcases Classical.em (SG (b i)) with s | s
          · have := hx.1 s
            unfold SG at s
            omega
          · have := hx.2 s
            omega
        clear ek13
        exact par_ite (fun c3 => hk13 18 ⟨fun s => absurd s (hy3.mp c3), fun _ => rfl⟩) (fun c3 => hk13 (b i) ⟨fun _ => rfl, fun s => absurd (hy3.mpr s) c3⟩)
      · have hdd : DG (b i) := Classical.byContradiction fun x => g2 (hy2.mpr x)
        refine par_scan96 fu _ i L hL I2 h1 fu (i + 1) hi (fun e a1 a2 a3 a4 => ?_)
        have hrun : RUN DG b L i e := ⟨by omega, a2, fun j j1 j2 => by
          by_cases hij : j = i
          · subst hij; exact hdd
          · rw [← h2 j]; exact a3 j (by omega) j2, fun x => by rw [← h2 e]; exact a4 x⟩
        refine par_zj (fun k25 ek25 => ?_)
        have hk25 : ∀ x : Int, ((e - i ≤ 4 → x = 16) ∧ (4 < e - i → x = 18)) → par (k25 x I2) Q := by
          intro x hx
          subst ek25
          refine par_zb (par_number fu I2 i e (by omega) (by omega)) (fun y28 I3 ⟨e3, hy3⟩ => ?_)
          subst e3
          refine par_zb (par_addTok fu I3 t x i y28 h3 (by omega)) (fun _ I4 g4 => ?_)
          refine ih (t + 1) e I4 (sc_push h hi (e := e) (Or.inr (Or.inr (Or.inl ⟨hi, hdd, hrun, fun x4 => ⟨hx.1 x4, ?_⟩, fun x4 => hx.2 x4⟩))) (by omega) g4)
          rw [hy3 (fun j j1 j2 => by rw [h2 j]; exact hrun.2.2.1 j j1 j2) x4]
          exact nu_congr _ _ _ (fun j _ _ => h2 j)
        clear ek25
        rw [wr32_i2 (by omega) (by omega)]
        exact par_ite (fun c3 => hk25 18 ⟨fun _ => by omega, fun _ => rfl⟩) (fun c3 => hk25 16 ⟨fun _ => rfl, fun _ => by omega⟩)
    · have hll : LT (b i) := Classical.byContradiction fun x => g (hy.mpr x)
      refine par_scan41 fu _ i L hL I' h1 fu (i + 1) hi (fun e a1 a2 a3 a4 => ?_)
      have hrun : RUN LT b L i e := ⟨by omega, a2, fun j j1 j2 => by
        by_cases hij : j = i
        · subst hij; exact hll
        · rw [← h2 j]; exact a3 j (by omega) j2, fun x => by rw [← h2 e]; exact a4 x⟩
      refine par_zb (par_wordAt fu I' i e (by omega) (by omega)) (fun y28 I3 ⟨e3, hy3⟩ => ?_)
      subst e3
      rw [sg_congr (e - i) i (fun j _ _ => h2 j)] at hy3
      refine par_zb (par_addTok fu I3 t y28 i 0 h3 (by omega)) (fun _ I4 g4 => ?_)
      refine ih (t + 1) e I4 (sc_push h hi (e := e) (Or.inr (Or.inl ⟨hi, hll, hrun, hy3⟩)) ?_ g4)
      have := wk_rng (sg b i (e - i))
      omega
theorem par_scan (fu : Nat) (I0 : IMem) (L : Nat) (hL : L ≤ 400) (h1 : I0 144 1 = L) (hb : ∀ j, j < L → 0 ≤ I0 145 j ∧ I0 145 j < 256) : par (f_R_scan fu 144 I0) (fun _ I => ∃ n E, I 144 5 = (n + 1 : Nat) ∧ LEXD (I0 145) L n (I 146) (I 147) (I 148) E) := by
  unfold f_R_scan
  refine par_zw ?_
  refine par_scan7 fu _ (I0 145) L hL hb (fun t I h => ?_) fu 0 0 (up I0 144 5 0) ⟨?_, fun j => ?_, ?_, Nat.zero_le _, fun _ => 0, rfl, fun s hs => absurd hs (Nat.not_lt_zero _), ⟨Nat.le_refl _, fun j _ _ => by omega⟩, Nat.le_refl _⟩
  · have h0 := h
    obtain ⟨g1, g2, g3, g4, E, e0, g5, g6, g7⟩ := h0
    have w := g6.1
    rw [g1]
    refine par_zb (par_addTok fu I t 17 L 0 g3 (by omega)) (fun _ I4 k4 => par_zr ?_)
    obtain ⟨k1, k2, k3, k5, k6⟩ := k4
    refine ⟨t, fun s => if s ≤ t then E s else L, k1, by show (if 0 ≤ t then E 0 else _) = 0; rw [if_pos (Nat.zero_le _)]; exact e0, by omega, fun s hs => ?_⟩
    by_cases hst : s = t
    · subst hst
      refine ⟨L, k3, ?_, Nat.le_refl _, Or.inl ⟨rfl, k2, ?_⟩, fun _ => rfl, fun _ => k2⟩
      · show WSP _ (if s ≤ s then E s else L) L
        rw [if_pos (Nat.le_refl _)]; exact g6
      · show (if s + 1 ≤ s then E (s + 1) else L) = L
        rw [if_neg (by omega)]
    · obtain ⟨q', a1, a2, a3, a4, a5⟩ := g5 s (by omega)
      rw [← k6 147 s (by omega) (by omega)] at a1
      rw [← k6 146 s (by omega) (by omega), ← k6 148 s (by omega) (by omega)] at a4
      rw [← k6 146 s (by omega) (by omega)] at a5
      refine ⟨q', a1, ?_, Nat.le_of_lt a3, ?_, fun x => absurd x a5, fun x => absurd x hst⟩
      · show WSP _ (if s ≤ t then E s else L) q'
        rw [if_pos (by omega)]; exact a2
      · show TOK _ L q' (I4 146 s) (I4 148 s) (if s + 1 ≤ t then E (s + 1) else L)
        rw [if_pos (by omega)]; exact a4
  · rw [up_j (by omega)]; exact h1
  · exact up_o (by omega) j
  · exact if_pos ⟨rfl, rfl⟩
/-! the reference's lexer -/
/-- the reference's token for the class's kind; s: the sort of the text -/
def tm (s k : Int) : Int :=
  if k = 0 then (if s = 4 then 1 else 7) else if k = 1 then 3 else if k = 2 then 4 else if k = 3 then 5 else if k = 4 then 6
  else if k = 5 then (if s = 4 then 50 else 1) else if k = 6 then (if s = 4 then 51 else 1) else if k = 7 then 41 else if k = 8 then 47
  else if k = 9 then (if s = 4 then 1 else 42) else if k = 10 then (if s = 4 then 1 else 43) else if k = 11 then (if s = 4 then 7 else 44)
  else if k = 12 then (if s = 4 then 1 else 45) else if k = 13 then (if s = 4 then 1 else 46) else if k = 14 then (if s = 4 then 1 else 48)
  else if k = 15 then (if s = 4 then 1 else 49) else if k = 16 then 2 else if k = 17 then 0 else if k = 18 then 1 else k + 100
def strZ (s : Nat) : List Int := (List.range (lenJ.getD s 0)).map (chZ s)
theorem str_len (s : Nat) : (strZ s).length = lenJ.getD s 0 := by
  unfold strZ
  rw [List.length_map, List.length_range]
theorem str_at {s j : Nat} (h : j < lenJ.getD s 0) : (strZ s).drop j = chZ s j :: (strZ s).drop (j + 1) := by
  rw [List.drop_eq_getElem_cons (by rw [str_len]; exact h)]
  congr 1
  unfold strZ
  rw [List.getElem_map, List.getElem_range]
theorem sg_len (b : Nat → Int) : ∀ (n i : Nat), (sg b i n).length = n := by
  intro n
  induction n with
  | zero => intro i; rfl
  | succ n ih => intro i; exact congrArg (· + 1) (ih (i + 1))
/-- the reference's word under way: its bytes from q to e -/
def WD (b : Nat → Int) (q e : Nat) (J : IMem) : Prop := J 0 13 = e ∧ J 0 15 = q ∧ q ≤ e ∧ e ≤ 400 ∧ ∀ j, j < e → J 6 j = b j
theorem par_is24 (fu s : Nat) (hs : s < 18) (b : Nat → Int) (q e : Nat) (J : IMem) (h : WD b q e J) (hl : e - q = lenJ.getD s 0) : ∀ (m : Nat) (w2 : Int) (j : Nat), j ≤ lenJ.getD s 0 → (w2 = 0 ∨ w2 = 1) → par (f_X_is_24 fu 0 s m w2 j J) (fun v I => I = J ∧ (v = 0 ∨ v = 1) ∧ (v = 1 ↔ w2 = 1 ∧ sg b (q + j) (e - (q + j)) = (strZ s).drop j)) := by
  intro m
  induction m with
  | zero => intro w2 j _ _; exact par_none
  | succ m ih =>
    intro w2 j hj hw
    show par (fb_X_is_24 fu 0 s (f_X_is_24 fu 0 s m) w2 j J) _
    unfold fb_X_is_24
    obtain ⟨h1, h2, h3, h4, h5⟩ := h
    refine par_len hs ?_
    refine par_ite (fun c => ?_) (fun c => ?_)
    · have hj' : j < lenJ.getD s 0 := Int.ofNat_lt.mp c
      refine par_ite (fun g => par_zg (fun _ => par_zr ⟨rfl, hw, fun x => by omega, fun x => by omega⟩)) (fun g => ?_)
      have hw1 : w2 = 1 := hw.resolve_left g
      refine par_zl (par_zg (fun _ => par_chr (fun _ _ => par_zj (fun k14 ek14 => ?_))))
      have hk14 : ∀ x : Int, (x = 0 ∨ x = 1) → par (k14 x J) (fun v I => I = J ∧ (v = 0 ∨ v = 1) ∧ (v = 1 ↔ x = 1 ∧ sg b (q + (j + 1)) (e - (q + (j + 1))) = (strZ s).drop (j + 1))) := by
        intro x hx
        subst ek14
        refine par_zl ?_
        have := lenJ_lt s hs
        rw [show wr32 ((j : Int) + 1) = ((j + 1 : Nat) : Int) by rw [wr32_i2 (by omega) (by omega)]; rfl]
        exact ih x (j + 1) hj' hx
      clear ek14
      have hx : (wr32 (J 0 15 + (j : Int))).toNat = q + j := by rw [h2, wr32_i2 (by omega) (by omega)]; omega
      rw [hx, show (j : Int).toNat = j from rfl, show J (0 + 6) (q + j) = b (q + j) from h5 _ (by omega)]
      rw [str_at hj', sg_cons (b := b) (i := q + j) (e := e) (by omega)]
      refine par_ite (fun y => par_mono (hk14 1 (Or.inr rfl)) (fun v I h => ⟨h.1, h.2.1, h.2.2.trans ⟨fun a => ⟨hw1, by rw [y]; exact congrArg _ a.2⟩, fun a => ⟨rfl, (List.cons.inj a.2).2⟩⟩⟩)) (fun y => par_mono (hk14 0 (Or.inl rfl)) (fun v I h => ⟨h.1, h.2.1, h.2.2.trans ⟨fun a => absurd a.1 (by decide), fun a => absurd (List.cons.inj a.2).1 y⟩⟩))
    · have hj' : j = lenJ.getD s 0 := by
        have : ¬ j < lenJ.getD s 0 := fun x => c (Int.ofNat_lt.mpr x)
        omega
      refine par_zg (fun _ => par_zr ⟨rfl, hw, fun x => ⟨x, ?_⟩, fun x => x.1⟩)
      rw [show e - (q + j) = 0 by omega, List.drop_eq_nil_of_le (by rw [str_len]; omega)]
      rfl
theorem par_is24f (fu s : Nat) (hs : s < 18) (J : IMem) : ∀ (m : Nat), par (f_X_is_24 fu 0 s m 0 0 J) (fun v I => I = J ∧ v = 0) := by
  intro m
  cases m with
  | zero => exact par_none
  | succ m =>
    show par (fb_X_is_24 fu 0 s (f_X_is_24 fu 0 s m) 0 0 J) _
    unfold fb_X_is_24
    refine par_len hs ?_
    refine par_ite (fun c => ?_) (fun c => par_zg (fun _ => par_zr ⟨rfl, rfl⟩))
    rw [if_pos rfl]
    exact par_zg (fun _ => par_zr ⟨rfl, rfl⟩)
theorem par_is (fu s : Nat) (hs : s < 18) (b : Nat → Int) (q e : Nat) (J : IMem) (h : WD b q e J) : par (f_X_is fu 0 s J) (fun v I => I = J ∧ (v = 0 ∨ v = 1) ∧ (v = 0 ↔ sg b q (e - q) ≠ strZ s)) := by
  unfold f_X_is
  refine par_len hs ?_
  refine par_zj (fun k4 ek4 => ?_)
  subst ek4
  have hl := lenJ_lt s hs
  have h0 := h
  obtain ⟨h1, h2, h3, h4, h5⟩ := h0
  rw [h1, h2, wr32_i2 (by omega) (by omega)]
  refine par_ite (fun c => ?_) (fun c => ?_)
  · refine par_mono (par_is24 fu s hs b q e J h (by omega) fu 1 0 (Nat.zero_le _) (Or.inr rfl)) (fun v I g => ⟨g.1, g.2.1, ?_⟩)
    have g3 := g.2.2
    rw [Nat.add_zero, List.drop_zero] at g3
    constructor
    · intro x y
      have := g3.mpr ⟨rfl, y⟩
      omega
    · intro x
      rcases g.2.1 with y | y
      · exact y
      · exact absurd (g3.mp y).2 x
  · refine par_mono (par_is24f fu s hs J fu) (fun v I g => ⟨g.1, Or.inl g.2, fun _ x => ?_, fun _ => g.2⟩)
    have := congrArg List.length x
    rw [sg_len, str_len] at this
    omega
theorem str_ok : strZ 2 = [119, 104, 101, 110] ∧ strZ 3 = [111, 114] ∧ strZ 4 = [97, 110, 100] ∧ strZ 5 = [110, 111, 116] ∧ strZ 6 = [115, 105, 122, 101] ∧ strZ 7 = [115, 111, 114, 116] ∧ strZ 8 = [108, 105, 110, 101] ∧ strZ 9 = [115, 104, 111, 114, 116] ∧ strZ 10 = [102, 105, 114, 115, 116] ∧ strZ 11 = [116, 97, 107, 101] ∧ strZ 12 = [108, 101, 102, 116] ∧ strZ 13 = [112, 108, 97, 99, 101] ∧ strZ 14 = [112, 97, 115, 115, 101, 100] ∧ strZ 15 = [119, 97, 105, 116, 101, 100] ∧ strZ 16 = [116, 97, 107, 101, 110] ∧ strZ 17 = [98, 101, 104, 105, 110, 100] := by decide +kernel
/-- the word's number by the reference's constants -/
theorem wk_str (l : List Int) : wk l = if l = strZ 11 then 0 else if l = strZ 2 then 1 else if l = strZ 3 then 2 else if l = strZ 4 then 3 else if l = strZ 5 then 4 else if l = strZ 9 then 5 else if l = strZ 10 then 6 else if l = strZ 6 then 7 else if l = strZ 7 then 8 else if l = strZ 12 then 9 else if l = strZ 13 then 10 else if l = strZ 8 then 11 else if l = strZ 14 then 12 else if l = strZ 15 then 13 else if l = strZ 16 then 14 else if l = strZ 17 then 15 else 18 := by
  obtain ⟨a2, a3, a4, a5, a6, a7, a8, a9, a10, a11, a12, a13, a14, a15, a16, a17⟩ := str_ok
  rw [a2, a3, a4, a5, a6, a7, a8, a9, a10, a11, a12, a13, a14, a15, a16, a17]
  rfl
theorem wk_at : wk (strZ 11) = 0 ∧ wk (strZ 2) = 1 ∧ wk (strZ 3) = 2 ∧ wk (strZ 4) = 3 ∧ wk (strZ 5) = 4 ∧ wk (strZ 9) = 5 ∧ wk (strZ 10) = 6 ∧ wk (strZ 6) = 7 ∧ wk (strZ 7) = 8 ∧ wk (strZ 12) = 9 ∧ wk (strZ 13) = 10 ∧ wk (strZ 8) = 11 ∧ wk (strZ 14) = 12 ∧ wk (strZ 15) = 13 ∧ wk (strZ 16) = 14 ∧ wk (strZ 17) = 15 := by decide +kernel
theorem par_isw {Q : Int → IMem → Prop} {fu s : Nat} (hs : s < 18) (b : Nat → Int) (q e : Nat) {J : IMem} (h : WD b q e J) {k : Int → IMem → Res} (h1 : ∀ v, v = 0 → sg b q (e - q) ≠ strZ s → par (k v J) Q) (h2 : ∀ v, v ≠ 0 → sg b q (e - q) = strZ s → par (k v J) Q) : par (zb (f_X_is fu 0 s J) k) Q := by
  refine par_zb (par_is fu s hs b q e J h) (fun v I ⟨e1, e2, e3⟩ => ?_)
  subst e1
  by_cases hv : v = 0
  · exact h1 v hv (e3.mp hv)
  · exact h2 v hv (Classical.byContradiction fun x => hv (e3.mpr x))
theorem tm_4 {k : Int} (h : k = 0 ∨ k = 9 ∨ k = 10 ∨ k = 12 ∨ k = 13 ∨ k = 14 ∨ k = 15 ∨ k = 18) : tm 4 k = 1 := by
  rcases h with rfl | rfl | rfl | rfl | rfl | rfl | rfl | rfl <;> rfl
theorem tm_n {s k : Int} (hs : s ≠ 4) (h : k = 5 ∨ k = 6 ∨ k = 18) : tm s k = 1 := by
  unfold tm
  rcases h with rfl | rfl | rfl <;> simp [hs]
theorem par_lineWord (fu : Nat) (b : Nat → Int) (q e : Nat) (J : IMem) (h : WD b q e J) (l : List Int) (hl : sg b q (e - q) = l) (n2 : l ≠ strZ 2) (n3 : l ≠ strZ 3) (n4 : l ≠ strZ 4) (n5 : l ≠ strZ 5) (n6 : l ≠ strZ 6) (n7 : l ≠ strZ 7) : par (f_X_lineWord fu 0 J) (fun v I => I = J ∧ v = tm 4 (wk l)) := by
  unfold f_X_lineWord
  obtain ⟨a11, a2, a3, a4, a5, a9, a10, a6, a7, a12, a13, a8, a14, a15, a16, a17⟩ := wk_at
  refine par_isw (by decide) b q e h (fun v hv n8 => ?_) (fun v hv m => ?_)
  · rw [if_pos hv]
    refine par_isw (by decide) b q e h (fun v hv n9 => ?_) (fun v hv m => ?_)
    · rw [if_pos hv]
      refine par_isw (by decide) b q e h (fun v hv n10 => ?_) (fun v hv m => ?_)
      · rw [if_pos hv]
        rw [hl] at n8 n9 n10
        refine par_zr ⟨rfl, (tm_4 ?_).symm⟩
        rw [wk_str]
        simp only [n2, n3, n4, n5, n6, n7, n8, n9, n10, if_false]
        repeat' split
        all_goals omega
      · rw [if_neg hv]
        rw [hl] at m
        exact par_zr ⟨rfl, by rw [m, a10]; rfl⟩
    · rw [if_neg hv]
      rw [hl] at m
      exact par_zr ⟨rfl, by rw [m, a9]; rfl⟩
  · rw [if_neg hv]
    rw [hl] at m
    exact par_zr ⟨rfl, by rw [m, a8]; rfl⟩
theorem tm_r {s k : Int} (hs : s ≠ 4) : tm s k = if k = 0 then 7 else if k = 1 then 3 else if k = 2 then 4 else if k = 3 then 5 else if k = 4 then 6
  else if k = 5 then 1 else if k = 6 then 1 else if k = 7 then 41 else if k = 8 then 47
  else if k = 9 then 42 else if k = 10 then 43 else if k = 11 then 44
  else if k = 12 then 45 else if k = 13 then 46 else if k = 14 then 48
  else if k = 15 then 49 else if k = 16 then 2 else if k = 17 then 0 else if k = 18 then 1 else k + 100 := by
  unfold tm
  simp only [hs, if_false]
theorem par_ruleWord (fu : Nat) (b : Nat → Int) (q e : Nat) (J : IMem) (h : WD b q e J) (s : Int) (hs : s ≠ 4) (l : List Int) (hl : sg b q (e - q) = l) (n2 : l ≠ strZ 2) (n3 : l ≠ strZ 3) (n4 : l ≠ strZ 4) (n5 : l ≠ strZ 5) (n6 : l ≠ strZ 6) (n7 : l ≠ strZ 7) : par (f_X_ruleWord fu 0 J) (fun v I => I = J ∧ v = tm s (wk l)) := by
  unfold f_X_ruleWord
  obtain ⟨a11, a2, a3, a4, a5, a9, a10, a6, a7, a12, a13, a8, a14, a15, a16, a17⟩ := wk_at
  refine par_isw (by decide) b q e h (fun v hv n11 => ?_) (fun v hv m => ?_)
  rotate_left
  · rw [if_neg hv]; rw [hl] at m; exact par_zr ⟨rfl, by rw [tm_r hs, m, a11]; rfl⟩
  rw [if_pos hv]
  refine par_isw (by decide) b q e h (fun v hv n12 => ?_) (fun v hv m => ?_)
  rotate_left
  · rw [if_neg hv]; rw [hl] at m; exact par_zr ⟨rfl, by rw [tm_r hs, m, a12]; rfl⟩
  rw [if_pos hv]
  refine par_isw (by decide) b q e h (fun v hv n13 => ?_) (fun v hv m => ?_)
  rotate_left
  · rw [if_neg hv]; rw [hl] at m; exact par_zr ⟨rfl, by rw [tm_r hs, m, a13]; rfl⟩
  rw [if_pos hv]
  refine par_isw (by decide) b q e h (fun v hv n8 => ?_) (fun v hv m => ?_)
  rotate_left
  · rw [if_neg hv]; rw [hl] at m; exact par_zr ⟨rfl, by rw [tm_r hs, m, a8]; rfl⟩
  rw [if_pos hv]
  refine par_isw (by decide) b q e h (fun v hv n14 => ?_) (fun v hv m => ?_)
  rotate_left
  · rw [if_neg hv]; rw [hl] at m; exact par_zr ⟨rfl, by rw [tm_r hs, m, a14]; rfl⟩
  rw [if_pos hv]
  refine par_isw (by decide) b q e h (fun v hv n15 => ?_) (fun v hv m => ?_)
  rotate_left
  · rw [if_neg hv]; rw [hl] at m; exact par_zr ⟨rfl, by rw [tm_r hs, m, a15]; rfl⟩
  rw [if_pos hv]
  refine par_isw (by decide) b q e h (fun v hv n16 => ?_) (fun v hv m => ?_)
  rotate_left
  · rw [if_neg hv]; rw [hl] at m; exact par_zr ⟨rfl, by rw [tm_r hs, m, a16]; rfl⟩
  rw [if_pos hv]
  refine par_isw (by decide) b q e h (fun v hv n17 => ?_) (fun v hv m => ?_)
  rotate_left
  · rw [if_neg hv]; rw [hl] at m; exact par_zr ⟨rfl, by rw [tm_r hs, m, a17]; rfl⟩
  rw [if_pos hv]
  rw [hl] at n8 n11 n12 n13 n14 n15 n16 n17
  refine par_zr ⟨rfl, (tm_n hs ?_).symm⟩
  rw [wk_str]
  simp only [n2, n3, n4, n5, n6, n7, n8, n11, n12, n13, n14, n15, n16, n17, if_false]
  repeat' split
  all_goals omega
theorem par_word (fu : Nat) (b : Nat → Int) (q e : Nat) (J : IMem) (h : WD b q e J) (l : List Int) (hl : sg b q (e - q) = l) : par (f_X_word fu 0 J) (fun v I => I = J ∧ v = tm (J 0 9) (wk l)) := by
  unfold f_X_word
  obtain ⟨a11, a2, a3, a4, a5, a9, a10, a6, a7, a12, a13, a8, a14, a15, a16, a17⟩ := wk_at
  refine par_isw (by decide) b q e h (fun v hv n2 => ?_) (fun v hv m => ?_)
  rotate_left
  · rw [if_neg hv]; rw [hl] at m; exact par_zr ⟨rfl, by rw [m, a2]; rfl⟩
  rw [if_pos hv]
  refine par_isw (by decide) b q e h (fun v hv n3 => ?_) (fun v hv m => ?_)
  rotate_left
  · rw [if_neg hv]; rw [hl] at m; exact par_zr ⟨rfl, by rw [m, a3]; rfl⟩
  rw [if_pos hv]
  refine par_isw (by decide) b q e h (fun v hv n4 => ?_) (fun v hv m => ?_)
  rotate_left
  · rw [if_neg hv]; rw [hl] at m; exact par_zr ⟨rfl, by rw [m, a4]; rfl⟩
  rw [if_pos hv]
  refine par_isw (by decide) b q e h (fun v hv n5 => ?_) (fun v hv m => ?_)
  rotate_left
  · rw [if_neg hv]; rw [hl] at m; exact par_zr ⟨rfl, by rw [m, a5]; rfl⟩
  rw [if_pos hv]
  refine par_isw (by decide) b q e h (fun v hv n6 => ?_) (fun v hv m => ?_)
  rotate_left
  · rw [if_neg hv]; rw [hl] at m; exact par_zr ⟨rfl, by rw [m, a6]; rfl⟩
  rw [if_pos hv]
  refine par_isw (by decide) b q e h (fun v hv n7 => ?_) (fun v hv m => ?_)
  rotate_left
  · rw [if_neg hv]; rw [hl] at m; exact par_zr ⟨rfl, by rw [m, a7]; rfl⟩
  rw [if_pos hv]
  rw [hl] at n2 n3 n4 n5 n6 n7
  refine par_ite (fun c => ?_) (fun c => ?_)
  · rw [c]
    exact par_zb (par_lineWord fu b q e J h l hl n2 n3 n4 n5 n6 n7) (fun v I g => par_zr g)
  · exact par_zb (par_ruleWord fu b q e J h (J 0 9) c l hl n2 n3 n4 n5 n6 n7) (fun v I g => par_zr g)
/-- only these fields of the reference change while it reads a token -/
def EXT (J J' : IMem) : Prop := ∀ q j, ¬ (q = 0 ∧ (j = 13 ∨ j = 14 ∨ j = 15 ∨ j = 16)) → J' q j = J q j
theorem ext_up {J J' : IMem} {j : Nat} {v : Int} (h : EXT J J') (hj : j = 13 ∨ j = 14 ∨ j = 15 ∨ j = 16) : EXT J (up J' 0 j v) := fun q i g => (if_neg (fun x => g ⟨x.1, by omega⟩)).trans (h q i g)
/-- the tape the reference reads from -/
def TP (b : Nat → Int) (L : Nat) (J : IMem) : Prop := J 0 12 = L ∧ L ≤ 400 ∧ (∀ j, j < L → J 6 j = b j) ∧ ∀ j, j < L → 0 ≤ b j ∧ b j < 256
theorem tp_ext {b : Nat → Int} {L : Nat} {J J' : IMem} (h : TP b L J) (g : EXT J J') : TP b L J' := ⟨(g 0 12 (by omega)).trans h.1, h.2.1, fun j hj => (g 6 j (by omega)).trans (h.2.2.1 j hj), h.2.2.2⟩
def at_ (b : Nat → Int) (L i : Nat) : Int := if i < L then b i else -1
theorem par_see {Q : Int → IMem → Prop} {fu : Nat} {b : Nat → Int} {L i : Nat} {J : IMem} {a : Int} {k : Int → IMem → Res} (h : TP b L J) (ha : a = i) (g : par (k (at_ b L i) J) Q) : par (zb (f_X_see fu 0 a J) k) Q := by
  refine par_zb (Q1 := fun v I => v = at_ b L i ∧ I = J) ?_ (fun v I ⟨e1, e2⟩ => by subst e1 e2; exact g)
  unfold f_X_see at_
  subst ha
  rw [h.1]
  refine par_ite (fun c => par_zg (fun _ => par_zr ⟨?_, rfl⟩)) (fun c => par_zr ⟨?_, rfl⟩)
  · rw [if_pos (by omega)]; exact h.2.2.1 i (by omega)
  · rw [if_neg (by omega)]
theorem par_isIn (fu : Nat) (v a c : Int) (J : IMem) : par (f_X_isIn fu v a c J) (fun y I => I = J ∧ (y = 0 ↔ ¬ (a ≤ v ∧ v ≤ c))) := by
  unfold f_X_isIn
  repeat' (first | refine par_ite (fun _ => ?_) (fun _ => ?_) | refine par_zr ⟨rfl, ?_⟩)
  all_goals omega
theorem par_xletter {Q : Int → IMem → Prop} {fu : Nat} {c : Int} {J : IMem} {k : Int → IMem → Res} (h : ∀ v, (v = 0 ↔ ¬ LT c) → par (k v J) Q) : par (zb (f_X_isLetter fu c J) k) Q := by
  refine par_zb (Q1 := fun v I => I = J ∧ (v = 0 ↔ ¬ LT c)) ?_ (fun v I ⟨e1, e2⟩ => by subst e1; exact h v e2)
  unfold f_X_isLetter LT
  refine par_zb (par_isIn fu c 97 122 J) (fun y I ⟨e, hy⟩ => ?_)
  subst e
  refine par_ite (fun g => ?_) (fun g => par_zr ⟨rfl, by omega⟩)
  refine par_zb (par_isIn fu c 65 90 I) (fun y2 I2 ⟨e, hy2⟩ => ?_)
  subst e
  exact par_ite (fun g => par_zr ⟨rfl, by omega⟩) (fun g => par_zr ⟨rfl, by omega⟩)
theorem par_xdigit {Q : Int → IMem → Prop} {fu : Nat} {c : Int} {J : IMem} {k : Int → IMem → Res} (h : ∀ v, (v = 0 ↔ ¬ DG c) → par (k v J) Q) : par (zb (f_X_isDigit fu c J) k) Q := by
  refine par_zb (Q1 := fun v I => I = J ∧ (v = 0 ↔ ¬ DG c)) ?_ (fun v I ⟨e1, e2⟩ => by subst e1; exact h v e2)
  unfold f_X_isDigit DG
  refine par_zb (par_isIn fu c 48 57 J) (fun y I ⟨e, hy⟩ => ?_)
  subst e
  exact par_zg (fun _ => par_zr ⟨rfl, hy⟩)
theorem par_nx0 {Q : Int → IMem → Prop} (fu : Nat) (k : IMem → Res) (b : Nat → Int) (L q : Nat) (Jb : IMem) (hT : TP b L Jb) (hq : q ≤ L) (hnw : q < L → ¬ WS (b q)) (hk : ∀ J, EXT Jb J → J 0 13 = q → par (k J) Q) : ∀ (m : Nat) (J : IMem) (p : Nat), EXT Jb J → J 0 13 = p → WSP b p q → par (f_X_next0_0 fu k 0 m J) Q := by
  intro m
  induction m with
  | zero => intro J p _ _ _; exact par_none
  | succ m ih =>
    intro J p hJ hp hw
    show par (fb_X_next0_0 fu k 0 (f_X_next0_0 fu k 0 m) J) _
    unfold fb_X_next0_0
    have hTJ := tp_ext hT hJ
    have hw1 := hw.1
    have hL := hT.2.1
    refine par_see hTJ hp (par_zj (fun k4 ek4 => ?_))
    have hk4 : p < q → par (k4 J) Q := by
      intro hpq
      subst ek4
      refine par_zw ?_
      rw [hp, wr32_i2 (by omega) (by omega)]
      exact ih _ (p + 1) (ext_up hJ (Or.inl rfl)) (if_pos ⟨rfl, rfl⟩) ⟨hpq, fun i h1 h2 => hw.2 i (by omega) h2⟩
    clear ek4
    have key : (at_ b L p = 32 ∨ at_ b L p = 10) ↔ p < q := by
      unfold at_
      constructor
      · intro x
        by_cases hpL : p < L
        · rw [if_pos hpL] at x
          rcases Nat.lt_or_ge p q with y | y
          · exact y
          · have : p = q := by omega
            subst this
            exact absurd x (hnw hpL)
        · rw [if_neg hpL] at x
          omega
      · intro x
        rw [if_pos (by omega)]
        exact hw.2 p (Nat.le_refl _) x
    refine par_ite (fun c => hk4 (key.mp (Or.inl c))) (fun c => par_see hTJ hp (par_ite (fun c2 => hk4 (key.mp (Or.inr c2))) (fun c2 => hk J hJ ?_)))
    have : ¬ p < q := fun x => (key.mpr x).elim c c2
    have : p = q := by omega
    subst this
    exact hp
theorem par_nx76 {Q : Int → IMem → Prop} (fu : Nat) (k : IMem → Res) (b : Nat → Int) (L e : Nat) (Jb : IMem) (hT : TP b L Jb) (he : e ≤ L) (hne : e < L → ¬ LT (b e)) (hk : ∀ J : IMem, (∀ q j, ¬ (q = 0 ∧ j = 13) → J q j = Jb q j) → J 0 13 = e → par (k J) Q) : ∀ (m : Nat) (J : IMem) (p : Nat), (∀ q j, ¬ (q = 0 ∧ j = 13) → J q j = Jb q j) → J 0 13 = p → p ≤ e → (∀ i, p ≤ i → i < e → LT (b i)) → par (f_X_next0_76 fu k 0 m J) Q := by
  intro m
  induction m with
  | zero => intro J p _ _ _ _; exact par_none
  | succ m ih =>
    intro J p hJ hp hw1 hw
    show par (fb_X_next0_76 fu k 0 (f_X_next0_76 fu k 0 m) J) _
    unfold fb_X_next0_76
    have hTJ := tp_ext hT (fun q j g => hJ q j (by omega))
    have hL := hT.2.1
    refine par_see hTJ hp (par_xletter (fun v hv => ?_))
    have key : LT (at_ b L p) ↔ p < e := by
      unfold at_
      constructor
      · intro x
        by_cases hpL : p < L
        · rw [if_pos hpL] at x
          rcases Nat.lt_or_ge p e with y | y
          · exact y
          · have : p = e := by omega
            subst this
            exact absurd x (hne hpL)
        · rw [if_neg hpL] at x
          unfold LT at x
          omega
      · intro x
        rw [if_pos (by omega)]
        exact hw p (Nat.le_refl _) x
    refine par_ite (fun c => hk J hJ ?_) (fun c => ?_)
    · have : ¬ p < e := fun x => (hv.mp c) (key.mpr x)
      have : p = e := by omega
      subst this
      exact hp
    · have hpe : p < e := key.mp (Classical.byContradiction fun x => c (hv.mpr x))
      refine par_zw ?_
      rw [hp, wr32_i2 (by omega) (by omega)]
      exact ih _ (p + 1) (fun q j g => (if_neg g).trans (hJ q j g)) (if_pos ⟨rfl, rfl⟩) hpe (fun i h1 h2 => hw i (by omega) h2)
theorem nu_snoc {b : Nat → Int} : ∀ (n i : Nat) (a : Int), nu b i (n + 1) a = 10 * nu b i n a + b (i + n) - 48 := by
  intro n
  induction n with
  | zero => intro i a; rfl
  | succ n ih =>
    intro i a
    have := ih (i + 1) (10 * a + b i - 48)
    rw [show i + 1 + n = i + (n + 1) by omega] at this
    exact this
theorem nu_rng {b : Nat → Int} {q n : Nat} (hn : n ≤ 4) (h : ∀ i, q ≤ i → i < q + n → DG (b i)) : 0 ≤ nu b q n 0 ∧ nu b q n 0 ≤ 9999 := by
  have h' : ∀ i, i < n → 48 ≤ b (q + i) ∧ b (q + i) ≤ 57 := fun i hi => h (q + i) (by omega) (by omega)
  match n, hn, h' with
  | 0, _, _ => show 0 ≤ (0 : Int) ∧ (0 : Int) ≤ 9999; omega
  | 1, _, h' => have a0 := h' 0 (by omega); rw [Nat.add_zero] at a0; show 0 ≤ 10 * 0 + b q - 48 ∧ 10 * 0 + b q - 48 ≤ 9999; omega
  | 2, _, h' => have a0 := h' 0 (by omega); have a1 := h' 1 (by omega); rw [Nat.add_zero] at a0; show 0 ≤ 10 * (10 * 0 + b q - 48) + b (q + 1) - 48 ∧ 10 * (10 * 0 + b q - 48) + b (q + 1) - 48 ≤ 9999; omega
  | 3, _, h' => have a0 := h' 0 (by omega); have a1 := h' 1 (by omega); have a2 := h' 2 (by omega); rw [Nat.add_zero] at a0; show 0 ≤ 10 * (10 * (10 * 0 + b q - 48) + b (q + 1) - 48) + b (q + 2) - 48 ∧ 10 * (10 * (10 * 0 + b q - 48) + b (q + 1) - 48) + b (q + 2) - 48 ≤ 9999; omega
  | 4, _, h' => have a0 := h' 0 (by omega); have a1 := h' 1 (by omega); have a2 := h' 2 (by omega); have a3 := h' 3 (by omega); rw [Nat.add_zero] at a0; show 0 ≤ 10 * (10 * (10 * (10 * 0 + b q - 48) + b (q + 1) - 48) + b (q + 2) - 48) + b (q + 3) - 48 ∧ 10 * (10 * (10 * (10 * 0 + b q - 48) + b (q + 1) - 48) + b (q + 2) - 48) + b (q + 3) - 48 ≤ 9999; omega
theorem par_nx126 {Q : Int → IMem → Prop} (fu : Nat) (k : IMem → Res) (b : Nat → Int) (L q e : Nat) (Jb : IMem) (hT : TP b L Jb) (he : e ≤ L) (hne : e < L → ¬ DG (b e)) (hd : ∀ i, q ≤ i → i < e → DG (b i)) (h15 : Jb 0 15 = q) (hk : ∀ J : IMem, (∀ q j, ¬ (q = 0 ∧ (j = 13 ∨ j = 16)) → J q j = Jb q j) → J 0 13 = e → (e - q ≤ 4 → J 0 16 = nu b q (e - q) 0) → par (k J) Q) : ∀ (m : Nat) (J : IMem) (p : Nat), (∀ q j, ¬ (q = 0 ∧ (j = 13 ∨ j = 16)) → J q j = Jb q j) → J 0 13 = p → q ≤ p → p ≤ e → (p - q ≤ 4 → J 0 16 = nu b q (p - q) 0) → par (f_X_next0_126 fu k 0 m J) Q := by
  intro m
  induction m with
  | zero => intro J p _ _ _ _ _; exact par_none
  | succ m ih =>
    intro J p hJ hp hqp hw1 hn
    show par (fb_X_next0_126 fu k 0 (f_X_next0_126 fu k 0 m) J) _
    unfold fb_X_next0_126
    have hTJ := tp_ext hT (fun q j g => hJ q j (by omega))
    have hL := hT.2.1
    refine par_see hTJ hp (par_xdigit (fun v hv => ?_))
    have key : DG (at_ b L p) ↔ p < e := by
      unfold at_
      constructor
      · intro x
        by_cases hpL : p < L
        · rw [if_pos hpL] at x
          rcases Nat.lt_or_ge p e with y | y
          · exact y
          · have : p = e := by omega
            subst this
            exact absurd x (hne hpL)
        · rw [if_neg hpL] at x
          unfold DG at x
          omega
      · intro x
        rw [if_pos (by omega)]
        exact hd p hqp x
    refine par_ite (fun c => ?_) (fun c => ?_)
    · have : ¬ p < e := fun x => (hv.mp c) (key.mpr x)
      have : p = e := by omega
      subst this
      exact hk J hJ hp hn
    · have hpe : p < e := key.mp (Classical.byContradiction fun x => c (hv.mpr x))
      refine par_zj (fun k36 ek36 => ?_)
      have hk36 : ∀ J' : IMem, (∀ q j, ¬ (q = 0 ∧ (j = 13 ∨ j = 16)) → J' q j = Jb q j) → J' 0 13 = p → (p + 1 - q ≤ 4 → J' 0 16 = nu b q (p + 1 - q) 0) → par (k36 J') Q := by
        intro J' g1 g2 g3
        subst ek36
        refine par_zw ?_
        rw [g2, wr32_i2 (by omega) (by omega)]
        refine ih _ (p + 1) (fun q j g => (if_neg (by omega)).trans (g1 q j g)) (if_pos ⟨rfl, rfl⟩) (by omega) hpe (fun x => ?_)
        rw [up_j (by omega)]
        exact g3 x
      clear ek36
      have h15J : J 0 15 = q := (hJ 0 15 (by omega)).trans h15
      rw [h15J, hp, wr32_i2 (x := (q : Int) + 4) (by omega) (by omega)]
      refine par_ite (fun c4 => ?_) (fun c4 => ?_)
      · refine par_see hTJ rfl (par_zw ?_)
        have h16 := hn (by omega)
        have hr := nu_rng (b := b) (q := q) (n := p - q) (by omega) (fun i h1 h2 => hd i h1 (by omega))
        have hbp := hd p hqp hpe
        unfold DG at hbp
        have ea : at_ b L p = b p := if_pos (by omega)
        rw [ea, h16]
        rw [wr32_i2 (x := 10 * nu b q (p - q) 0) (by omega) (by omega), wr32_i2 (x := 10 * nu b q (p - q) 0 + b p) (by omega) (by omega), wr32_i2 (by omega) (by omega)]
        refine hk36 _ (fun q j g => (if_neg (by omega)).trans (hJ q j g)) ((up_j (by omega) _).trans hp) (fun x => ?_)
        rw [show p + 1 - q = (p - q) + 1 by omega, nu_snoc, show q + (p - q) = p by omega]
        exact if_pos ⟨rfl, rfl⟩
      · exact hk36 J hJ hp (fun x => by omega)

/-- token s of a lexed tape, as the reference has it -/
theorem par_next0 (fu : Nat) (b : Nat → Int) (L p q e : Nat) (kd v : Int) (J : IMem) (hT : TP b L J) (hp : J 0 13 = p) (hw : WSP b p q) (hq : q ≤ L) (ht : TOK b L q kd v e) : par (f_X_next0 fu 0 J) (fun _ I => EXT J I ∧ I 0 15 = q ∧ I 0 13 = e ∧ I 0 14 = tm (J 0 9) kd ∧ (kd = 16 → I 0 16 = v)) := by
  have hL := hT.2.1
  have hnw : q < L → ¬ WS (b q) := by
    intro h x
    unfold WS at x
    rcases ht with t | t | t | t
    · omega
    · have := t.2.1; unfold LT at this; omega
    · have := t.2.1; unfold DG at this; omega
    · exact t.2.2.2.1 x
  unfold f_X_next0
  refine par_nx0 fu _ b L q J hT hq hnw (fun J1 e1 h13 => ?_) fu J p (fun _ _ _ => rfl) hp hw
  refine par_zw ?_
  rw [h13]
  have e2 : EXT J (up J1 0 15 (q : Int)) := ext_up e1 (by omega)
  have h13' : up J1 0 15 (q : Int) 0 13 = q := (up_j (by omega) _).trans h13
  have h15' : up J1 0 15 (q : Int) 0 15 = q := if_pos ⟨rfl, rfl⟩
  generalize up J1 0 15 (q : Int) = J2 at e2 h13' h15'
  have hT2 := tp_ext hT e2
  have h9 : J2 0 9 = J 0 9 := e2 0 9 (by omega)
  refine par_see hT2 h13' ?_
  by_cases hqL : q < L
  · have ea : at_ b L q = b q := if_pos hqL
    rw [ea]
    have hb := hT.2.2.2 q hqL
    rw [if_neg (by omega)]
    refine par_xletter (fun y hy => ?_)
    rcases ht with t | t | t | t
    · omega
    · obtain ⟨_, t1, t2, t3⟩ := t
      obtain ⟨r1, r2, r3, r4⟩ := t2
      rw [if_neg (fun x => hy.mp x t1)]
      refine par_nx76 fu _ b L e J2 hT2 r2 r4 (fun J3 g1 g2 => ?_) fu J2 q (fun _ _ _ => rfl) h13' (Nat.le_of_lt r1) r3
      refine par_zb (par_word fu b q e J3 ⟨g2, (g1 0 15 (by omega)).trans h15', Nat.le_of_lt r1, by omega, fun j hj => (g1 6 j (by omega)).trans (hT2.2.2.1 j (by omega))⟩ _ rfl) (fun y4 J4 ⟨e4, hy4⟩ => ?_)
      subst e4
      have e5 : EXT J J4 := fun o j g => (g1 o j (by omega)).trans (e2 o j g)
      refine par_zw (par_zr ⟨ext_up e5 (by omega), (up_j (by omega) _).trans ((g1 0 15 (by omega)).trans h15'), (up_j (by omega) _).trans g2, ?_, fun x => ?_⟩)
      · rw [t3, hy4, (e5 0 9 (by omega))]
        exact if_pos ⟨rfl, rfl⟩
      · have := wk_rng (sg b q (e - q))
        omega
    · obtain ⟨_, t1, t2, t3, t4⟩ := t
      obtain ⟨r1, r2, r3, r4⟩ := t2
      have hnl : ¬ LT (b q) := by unfold DG at t1; unfold LT; omega
      rw [if_pos (hy.mpr hnl)]
      refine par_xdigit (fun y2 hy2 => ?_)
      rw [if_neg (fun x => hy2.mp x t1)]
      refine par_zw ?_
      have e3 : EXT J (up J2 0 16 0) := ext_up e2 (by omega)
      have h13'' : up J2 0 16 0 0 13 = q := (up_j (by omega) _).trans h13'
      have h15'' : up J2 0 16 0 0 15 = q := (up_j (by omega) _).trans h15'
      have h16'' : up J2 0 16 0 0 16 = 0 := if_pos ⟨rfl, rfl⟩
      generalize up J2 0 16 0 = J3 at e3 h13'' h15'' h16''
      refine par_nx126 fu _ b L q e J3 (tp_ext hT e3) r2 r4 r3 h15'' (fun J4 g1 g2 g3 => ?_) fu J3 q (fun _ _ _ => rfl) h13'' (Nat.le_refl _) (Nat.le_of_lt r1) (fun _ => by rw [Nat.sub_self]; exact h16'')
      refine par_zj (fun k44 ek44 => ?_)
      have g15 : J4 0 15 = q := (g1 0 15 (by omega)).trans h15''
      have hk44 : ∀ x : Int, x = tm (J 0 9) kd → par (k44 x J4) (fun _ I => EXT J I ∧ I 0 15 = q ∧ I 0 13 = e ∧ I 0 14 = tm (J 0 9) kd ∧ (kd = 16 → I 0 16 = v)) := by
        intro x hx
        subst ek44
        refine par_zw (par_zr ⟨ext_up (fun o j g => (g1 o j (by omega)).trans (e3 o j g)) (by omega), (up_j (by omega) _).trans g15, (up_j (by omega) _).trans g2, ?_, fun k16 => (up_j (by omega) _).trans ?_⟩)
        · rw [← hx]; exact if_pos ⟨rfl, rfl⟩
        · have h4 : e - q ≤ 4 := by
            rcases Nat.lt_or_ge 4 (e - q) with y | y
            · have := t4 y; omega
            · exact y
          rw [g3 h4, (t3 h4).2]
      clear ek44
      rw [g2, g15, wr32_i2 (by omega) (by omega)]
      refine par_ite (fun c => hk44 2 ?_) (fun c => hk44 1 ?_)
      · rw [(t3 (by omega)).1]; rfl
      · rw [t4 (by omega)]; rfl
    · obtain ⟨_, t1, t2, t3, t4, t5, t6⟩ := t
      rw [if_pos (hy.mpr t1)]
      refine par_xdigit (fun y2 hy2 => ?_)
      rw [if_pos (hy2.mpr t2)]
      refine par_zw ?_
      rw [h13', wr32_i2 (x := (q : Int) + 1) (by omega) (by omega)]
      have e3 : EXT J (up J2 0 13 ((q : Int) + 1)) := ext_up e2 (by omega)
      have h13'' : up J2 0 13 ((q : Int) + 1) 0 13 = e := by rw [t4]; exact if_pos ⟨rfl, rfl⟩
      have h15'' : up J2 0 13 ((q : Int) + 1) 0 15 = q := (up_j (by omega) _).trans h15'
      generalize up J2 0 13 ((q : Int) + 1) = J3 at e3 h13'' h15''
      refine par_zj (fun k22 ek22 => ?_)
      have hk22 : ∀ x : Int, ((SG (b q) → x = 1) ∧ (¬ SG (b q) → x = 0)) → par (k22 x J3) (fun _ I => EXT J I ∧ I 0 15 = q ∧ I 0 13 = e ∧ I 0 14 = tm (J 0 9) kd ∧ (kd = 16 → I 0 16 = v)) := by
        intro x hx
        subst ek22
        refine par_zj (fun k25 ek25 => ?_)
        have hk25 : ∀ z : Int, z = tm (J 0 9) kd → par (k25 z J3) (fun _ I => EXT J I ∧ I 0 15 = q ∧ I 0 13 = e ∧ I 0 14 = tm (J 0 9) kd ∧ (kd = 16 → I 0 16 = v)) := by
          intro z hz
          subst ek25
          refine par_zw (par_zr ⟨ext_up e3 (by omega), (up_j (by omega) _).trans h15'', (up_j (by omega) _).trans h13'', ?_, fun k16 => ?_⟩)
          · rw [← hz]; exact if_pos ⟨rfl, rfl⟩
          · exfalso
            rcases Classical.em (SG (b q)) with y | y
            · have := t5 y; unfold SG at y; omega
            · have := t6 y; omega
        clear ek25
        refine par_ite (fun c => hk25 1 ?_) (fun c => hk25 _ ?_)
        · rw [t6 (fun y => by have := hx.1 y; omega)]; rfl
        · have y : SG (b q) := Classical.byContradiction fun y => c (hx.2 y)
          rw [t5 y, wr32_i2 (x := 100 + b q) (by omega) (by omega)]
          unfold SG at y
          rcases y with y | y | y | y | y | y | y | y | y | y <;> rw [y] <;> rfl
      clear ek22
      have y1 : SG (b q) → par (k22 1 J3) (fun _ I => EXT J I ∧ I 0 15 = q ∧ I 0 13 = e ∧ I 0 14 = tm (J 0 9) kd ∧ (kd = 16 → I 0 16 = v)) := fun y => hk22 1 ⟨fun _ => rfl, fun n => absurd y n⟩
      have y0 : ¬ SG (b q) → par (k22 0 J3) (fun _ I => EXT J I ∧ I 0 15 = q ∧ I 0 13 = e ∧ I 0 14 = tm (J 0 9) kd ∧ (kd = 16 → I 0 16 = v)) := fun y => hk22 0 ⟨fun n => absurd n y, fun _ => rfl⟩
      clear hk22
      refine par_ite (fun c => y1 (Or.inl c)) (fun c0 => ?_)
      refine par_ite (fun c => y1 (Or.inr (Or.inl c))) (fun c1 => ?_)
      refine par_ite (fun c => y1 (Or.inr (Or.inr (Or.inl c)))) (fun c2 => ?_)
      refine par_ite (fun c => y1 (Or.inr (Or.inr (Or.inr (Or.inl c))))) (fun c3 => ?_)
      refine par_ite (fun c => y1 (Or.inr (Or.inr (Or.inr (Or.inr (Or.inl c)))))) (fun c4 => ?_)
      refine par_ite (fun c => y1 (Or.inr (Or.inr (Or.inr (Or.inr (Or.inr (Or.inl c))))))) (fun c5 => ?_)
      refine par_ite (fun c => y1 (Or.inr (Or.inr (Or.inr (Or.inr (Or.inr (Or.inr (Or.inl c)))))))) (fun c6 => ?_)
      refine par_ite (fun c => y1 (Or.inr (Or.inr (Or.inr (Or.inr (Or.inr (Or.inr (Or.inr (Or.inl c))))))))) (fun c7 => ?_)
      refine par_ite (fun c => y1 (Or.inr (Or.inr (Or.inr (Or.inr (Or.inr (Or.inr (Or.inr (Or.inr (Or.inl c)))))))))) (fun c8 => ?_)
      refine par_ite (fun c => y1 (Or.inr (Or.inr (Or.inr (Or.inr (Or.inr (Or.inr (Or.inr (Or.inr (Or.inr (c))))))))))) (fun c9 => ?_)
      exact y0 (fun y => y.elim c0 (fun y => y.elim c1 (fun y => y.elim c2 (fun y => y.elim c3 (fun y => y.elim c4 (fun y => y.elim c5 (fun y => y.elim c6 (fun y => y.elim c7 (fun y => y.elim c8 c9)))))))))
  · have ea : at_ b L q = -1 := if_neg hqL
    rw [ea, if_pos rfl]
    have hkd : kd = 17 ∧ e = L := by
      rcases ht with t | t | t | t
      · exact t.2
      · omega
      · omega
      · omega
    have : q = e := by omega
    refine par_zw (par_zr ⟨ext_up e2 (by omega), (up_j (by omega) _).trans h15', (up_j (by omega) _).trans (by rw [h13', this]), ?_, fun x => by omega⟩)
    rw [hkd.1]
    exact if_pos ⟨rfl, rfl⟩
