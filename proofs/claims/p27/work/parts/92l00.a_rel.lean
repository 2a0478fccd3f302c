/-! the whole state on both sides -/
/-- two runs side by side, with both answers -/
def pq (m1 m2 : Res) (Q : Int → IMem → Int → IMem → Prop) : Prop := ∀ x I y J, m1 = some (x, I) → m2 = some (y, J) → Q x I y J
section
variable {Q : Int → IMem → Int → IMem → Prop}
theorem pq_end {x y : Int} {I J : IMem} (h : Q x I y J) : pq (zr x I) (zr y J) Q := by
  intro x' I' y' J' e1 e2; cases e1; cases e2; exact h
theorem pq_l {m : Res} {y : Int} {J : IMem} (h : par m (fun x I => Q x I y J)) : pq m (zr y J) Q := by
  intro x' I' y' J' e1 e2; cases e2; exact h _ _ e1
theorem pq_r {m : Res} {x : Int} {I : IMem} (h : par m (fun y J => Q x I y J)) : pq (zr x I) m Q := by
  intro x' I' y' J' e1 e2; cases e1; exact h _ _ e2
theorem pq_b {Q1 : Int → IMem → Int → IMem → Prop} {m1 m2 : Res} {k1 k2 : Int → IMem → Res} (h1 : pq m1 m2 Q1) (h2 : ∀ x I y J, m1 = some (x, I) → m2 = some (y, J) → Q1 x I y J → pq (k1 x I) (k2 y J) Q) : pq (zb m1 k1) (zb m2 k2) Q := by
  intro x I y J e1 e2
  obtain ⟨x1, I1, a1, a2⟩ := of_zb e1
  obtain ⟨y1, J1, b1, b2⟩ := of_zb e2
  exact h2 x1 I1 y1 J1 a1 b1 (h1 x1 I1 y1 J1 a1 b1) x I y J a2 b2
theorem pq_bl {P : Int → IMem → Prop} {m1 m2 : Res} {k1 : Int → IMem → Res} (h1 : par m1 P) (h2 : ∀ x I, m1 = some (x, I) → P x I → pq (k1 x I) m2 Q) : pq (zb m1 k1) m2 Q := by
  intro x I y J e1 e2
  obtain ⟨x1, I1, a1, a2⟩ := of_zb e1
  exact h2 x1 I1 a1 (h1 x1 I1 a1) x I y J a2 e2
theorem pq_br {P : Int → IMem → Prop} {m1 m2 : Res} {k2 : Int → IMem → Res} (h1 : par m2 P) (h2 : ∀ y J, m2 = some (y, J) → P y J → pq m1 (k2 y J) Q) : pq m1 (zb m2 k2) Q := by
  intro x I y J e1 e2
  obtain ⟨y1, J1, a1, a2⟩ := of_zb e2
  exact h2 y1 J1 a1 (h1 y1 J1 a1) x I y J e1 a2
theorem pq_gl {c : Prop} [Decidable c] {k m2 : Res} (h : c → pq k m2 Q) : pq (zg c k) m2 Q := by
  intro x I y J e1 e2
  obtain ⟨hc, e⟩ := of_zg e1
  exact h hc x I y J e e2
theorem pq_gr {c : Prop} [Decidable c] {k m1 : Res} (h : c → pq m1 k Q) : pq m1 (zg c k) Q := by
  intro x I y J e1 e2
  obtain ⟨hc, e⟩ := of_zg e2
  exact h hc x I y J e1 e
theorem pq_il {c : Prop} [Decidable c] {A B m2 : Res} (h1 : c → pq A m2 Q) (h2 : ¬ c → pq B m2 Q) : pq (if c then A else B) m2 Q := by
  by_cases h : c
  · rw [if_pos h]; exact h1 h
  · rw [if_neg h]; exact h2 h
theorem pq_ir {c : Prop} [Decidable c] {A B m1 : Res} (h1 : c → pq m1 A Q) (h2 : ¬ c → pq m1 B Q) : pq m1 (if c then A else B) Q := by
  by_cases h : c
  · rw [if_pos h]; exact h1 h
  · rw [if_neg h]; exact h2 h
/-- both sides ask the same -/
theorem pq_ii {c d : Prop} [Decidable c] [Decidable d] {A B C D : Res} (hcd : c ↔ d) (h1 : c → d → pq A C Q) (h2 : ¬ c → ¬ d → pq B D Q) : pq (if c then A else B) (if d then C else D) Q := by
  by_cases h : c
  · rw [if_pos h, if_pos (hcd.mp h)]; exact h1 h (hcd.mp h)
  · rw [if_neg h, if_neg (fun q => h (hcd.mpr q))]; exact h2 h (fun q => h (hcd.mpr q))
theorem pq_nl {m2 : Res} : pq none m2 Q := by intro x I y J e1 e2; cases e1
theorem pq_nr {m1 : Res} : pq m1 none Q := by intro x I y J e1 e2; cases e2
theorem pq_zlr {m1 : Res} {v : Int} {k : Int → Res} (h : pq m1 (k v) Q) : pq m1 (zl v k) Q := h
theorem pq_zll {m2 : Res} {v : Int} {k : Int → Res} (h : pq (k v) m2 Q) : pq (zl v k) m2 Q := h
theorem pq_zwr {m1 : Res} {I : IMem} {o j : Nat} {v : Int} {k : IMem → Res} (h : pq m1 (k (up I o j v)) Q) : pq m1 (zw I o j v k) Q := h
theorem pq_zwl {m2 : Res} {I : IMem} {o j : Nat} {v : Int} {k : IMem → Res} (h : pq (k (up I o j v)) m2 Q) : pq (zw I o j v k) m2 Q := h
/-- a write, known by its places alone -/
theorem pq_zwr' {m1 : Res} {I : IMem} {o j : Nat} {v : Int} {k : IMem → Res} (h : ∀ I1 : IMem, (∀ p i, I1 p i = if p = o ∧ i = j then v else I p i) → pq m1 (k I1) Q) : pq m1 (zw I o j v k) Q := h _ (fun _ _ => rfl)
theorem pq_zwl' {m2 : Res} {I : IMem} {o j : Nat} {v : Int} {k : IMem → Res} (h : ∀ I1 : IMem, (∀ p i, I1 p i = if p = o ∧ i = j then v else I p i) → pq (k I1) m2 Q) : pq (zw I o j v k) m2 Q := h _ (fun _ _ => rfl)
theorem pq_jl {m2 : Res} {α : Type} {K : α} {M : α → Res} (h : ∀ k, k = K → pq (M k) m2 Q) : pq (zj K M) m2 Q := h K rfl
theorem pq_jr {m1 : Res} {α : Type} {K : α} {M : α → Res} (h : ∀ k, k = K → pq m1 (M k) Q) : pq m1 (zj K M) Q := h K rfl
theorem pq_mono {Q1 : Int → IMem → Int → IMem → Prop} {m1 m2 : Res} (h1 : pq m1 m2 Q1) (h : ∀ x I y J, Q1 x I y J → Q x I y J) : pq m1 m2 Q := fun x I y J e1 e2 => h x I y J (h1 x I y J e1 e2)
theorem pq_of {P1 P2 : Int → IMem → Prop} {m1 m2 : Res} (h1 : par m1 P1) (h2 : par m2 P2) (h : ∀ x I y J, P1 x I → P2 y J → Q x I y J) : pq m1 m2 Q := fun x I y J e1 e2 => h x I y J (h1 x I e1) (h2 y J e2)
theorem pq_and {Q2 : Int → IMem → Int → IMem → Prop} {m1 m2 : Res} (h1 : pq m1 m2 Q) (h2 : pq m1 m2 Q2) : pq m1 m2 (fun x I y J => Q x I y J ∧ Q2 x I y J) := fun x I y J e1 e2 => ⟨h1 x I y J e1 e2, h2 x I y J e1 e2⟩
theorem pq_al {P : Int → IMem → Prop} {m1 m2 : Res} (h1 : pq m1 m2 Q) (h2 : par m1 P) : pq m1 m2 (fun x I y J => Q x I y J ∧ P x I) := fun x I y J e1 e2 => ⟨h1 x I y J e1 e2, h2 x I e1⟩
theorem pq_ar {P : Int → IMem → Prop} {m1 m2 : Res} (h1 : pq m1 m2 Q) (h2 : par m2 P) : pq m1 m2 (fun x I y J => Q x I y J ∧ P y J) := fun x I y J e1 e2 => ⟨h1 x I y J e1 e2, h2 y J e2⟩
end
theorem par_zw' {Q : Int → IMem → Prop} {I : IMem} {o j : Nat} {v : Int} {k : IMem → Res} (h : ∀ I1 : IMem, (∀ p i, I1 p i = if p = o ∧ i = j then v else I p i) → par (k I1) Q) : par (zw I o j v k) Q := h _ (fun _ _ => rfl)
theorem par_zc' {Q : Int → IMem → Prop} {I : IMem} {o0 o1 : Nat} {sp dp n : Int} {k : IMem → Res} (h : ∀ I1 : IMem, (∀ p i, I1 p i = if p = o1 ∧ dp.toNat ≤ i ∧ i < dp.toNat + n.toNat then I o0 (sp.toNat + (i - dp.toNat)) else I p i) → par (k I1) Q) : par (zc I o0 sp o1 dp n k) Q := h _ (fun _ _ => rfl)
theorem par_ex {Q : Int → IMem → Prop} {m : Res} {x : Int} {I : IMem} (h : par m Q) (e : m = some (x, I)) : Q x I := h x I e
/-- a run that gives this and leaves all -/
theorem par_eq {Q : Int → IMem → Prop} {m : Res} {v : Int} {I : IMem} {k : Int → IMem → Res} (e : m = zr v I) (h : par (k v I) Q) : par (zb m k) Q := by
  rw [e]; exact h
theorem zb_zr (v : Int) (I : IMem) (k : Int → IMem → Res) : zb (zr v I) k = k v I := rfl
/-- the types that a TEXT's code leaves on the pile: true is 0 or 1 -/
def tyR (B : Nat) (s : Int) : List (Int × Int) → List Bool → Option (List Bool)
  | [], st => some st
  | x :: t, st =>
    if st.length < B then
      (if x.1 = 0 then (if 0 ≤ x.2 ∧ x.2 ≤ 9999 then tyR B s t (false :: st) else none)
      else if x.1 < 12 then (if 1 ≤ x.1 ∧ ((s = 4 ∧ (x.1 = 1 ∨ x.1 = 7 ∨ x.1 = 10 ∨ x.1 = 11)) ∨ (s ≠ 4 ∧ x.1 ≤ 9)) then tyR B s t (false :: st) else none)
      else if x.1 = 15 then (match st with
        | _ :: st' => if 1 ≤ x.2 ∧ x.2 ≤ 9999 then tyR B s t (false :: st') else none
        | _ => none)
      else if x.1 = 19 then (match st with
        | true :: st' => tyR B s t (true :: st')
        | _ => none)
      else if x.1 ≤ 14 then (match st with
        | _ :: _ :: st' => tyR B s t (false :: st')
        | _ => none)
      else if x.1 ≤ 18 then (match st with
        | _ :: _ :: st' => tyR B s t (true :: st')
        | _ => none)
      else if x.1 = 20 ∨ x.1 = 21 then (match st with
        | true :: true :: st' => tyR B s t (true :: st')
        | _ => none)
      else none)
    else none
/-- a well made piece that leaves one b more -/
def TYP (B : Nat) (s : Int) (it : List (Int × Int)) (b : Bool) : Prop := ∀ st : List Bool, tyR (st.length + B) s it st = some (b :: st)
def GRL (s : Int) (r : LRec) : Prop := (s ≠ 4 → ∃ b, TYP 24 s r.E b) ∧ (r.B = [] ∨ TYP 24 s r.B true) ∧ (s = 4 → 0 ≤ r.v ∧ r.v ≤ 5)
/-- a law's lines in the class, in the reference -/
def LC (ol : Nat) (s : Int) (l : List LRec) (I : IMem) : Prop := I ol 4 = l.length ∧ (∀ i, i < (XS s l).length → I (ol + 1) i = (XS s l).getD i 0) ∧ I (ol + 2) 0 = 0 ∧ ∀ (i : Nat) (r : LRec), l[i]? = some r → I (ol + 2) (i + 1) = ((XS s (l.take (i + 1))).length : Nat) ∧ I (ol + 3) i = ((XS s (l.take i)).length + (ex s r).length : Nat)
def LX (wo k : Nat) (l : List LRec) (J : IMem) : Prop := J wo (1580 + k) = l.length ∧ (∀ i, i < (PX l).length → J wo (1910 + 820 * k + 2 * i) = ((PX l).getD i (0, 0)).1 ∧ J wo (1910 + 820 * k + 2 * i + 1) = ((PX l).getD i (0, 0)).2) ∧ ∀ (i : Nat) (r : LRec), l[i]? = some r → J wo (1670 + 16 * k + i) = ((PX (l.take i)).length : Nat) ∧ J wo (1750 + 16 * k + i) = ((PX (l.take i)).length + r.E.length : Nat) ∧ J wo (1830 + 16 * k + i) = ((PX (l.take (i + 1))).length : Nat) ∧ (k = 4 → r.E = [] ∧ J wo (1590 + 16 * k + i) = r.v)
def LOK (s : Int) (l : List LRec) : Prop := l.length ≤ 16 ∧ (XS s l).length ≤ 400 ∧ (PX l).length ≤ 400 ∧ ∀ (i : Nat) (r : LRec), l[i]? = some r → GRL s r
def LWR (hb wo k : Nat) (I J : IMem) : Prop := ∃ l : List LRec, LC (hb + 15 + 5 * k) k l I ∧ LX wo k l J ∧ LOK k l
def HS (hb wo : Nat) (I J : IMem) : Prop := (∀ k, k < 6 → I (hb + 1) k = J wo (1 + k)) ∧ I hb 6 = J wo 0 ∧ I hb 7 = J wo 7 ∧ (∀ l, l < 6 → I (hb + 9) l = J wo (10 + l)) ∧ (∀ s, 1 ≤ s → s ≤ 8 → I (hb + 3) s = J wo (16 + s)) ∧ (∀ k, k < 32 → I (hb + 4) k = J wo (26 + k)) ∧ (∀ s, 1 ≤ s → s ≤ 8 → I (hb + 5) s = J wo (60 + s))
def HY (hb wo : Nat) (I J : IMem) : Prop := (∀ k, k < 7 → I (hb + 10) k = J wo (70 + k)) ∧ ∀ s, 1 ≤ s → s ≤ 8 → I (hb + 10) (10 + s) = J wo (80 + s) ∧ I (hb + 10) (20 + s) = J wo (90 + s) ∧ I (hb + 10) (30 + s) = J wo (100 + s)
def HP (hb wo : Nat) (I J : IMem) : Prop := (J wo 110 = -1 ↔ J wo 70 = 0) ∧ (J wo 110 ≠ -1 → I (hb + 11) 0 = J wo 110) ∧ I (hb + 11) 1 = J wo 111 ∧ (∀ i, i < 8 → I (hb + 11) (10 + i) = J wo (112 + i) ∧ I (hb + 11) (20 + i) = J wo (120 + i)) ∧ ∀ k, k < 180 → I (hb + 12) k = J wo (6010 + k)
def HL (hb wo : Nat) (I J : IMem) : Prop := ∀ l, l < 6 → I (hb + 8) l = J wo (130 + l) ∧ (0 ≤ J wo (130 + l) ∧ J wo (130 + l) ≤ 40) ∧ ∀ p f : Nat, (p : Int) < J wo (130 + l) → f < 6 → I (hb + 7) (6 * (40 * l + p) + f) = J wo (140 + 6 * (40 * l + p) + f)
def HW (hb wo : Nat) (I J : IMem) : Prop := ∀ k, k < 5 → LWR hb wo k I J
def HR (hb wo : Nat) (I J : IMem) : Prop := HS hb wo I J ∧ HY hb wo I J ∧ HP hb wo I J ∧ HL hb wo I J ∧ HW hb wo I J
section
variable {hb wo hb2 wo2 : Nat} {I J I2 J2 : IMem}
theorem hs_mv (h : HS hb wo I J) (h1 : ∀ d j, ((d = 0 ∧ (j = 6 ∨ j = 7)) ∨ d = 1 ∨ d = 3 ∨ d = 4 ∨ d = 5 ∨ d = 9) → I2 (hb2 + d) j = I (hb + d) j) (h2 : ∀ j, j < 70 → J2 wo2 j = J wo j) : HS hb2 wo2 I2 J2 := by
  obtain ⟨a, b, c, d, e, f, g⟩ := h
  refine ⟨fun k hk => ?_, ?_, ?_, fun k hk => ?_, fun k h3 h4 => ?_, fun k hk => ?_, fun k h3 h4 => ?_⟩
  · rw [h1 1 k (by omega), h2 _ (by omega)]; exact a k hk
  · have := h1 0 6 (by omega); simp only [Nat.add_zero] at this; rw [this, h2 _ (by omega)]; exact b
  · have := h1 0 7 (by omega); simp only [Nat.add_zero] at this; rw [this, h2 _ (by omega)]; exact c
  · rw [h1 9 k (by omega), h2 _ (by omega)]; exact d k hk
  · rw [h1 3 k (by omega), h2 _ (by omega)]; exact e k h3 h4
  · rw [h1 4 k (by omega), h2 _ (by omega)]; exact f k hk
  · rw [h1 5 k (by omega), h2 _ (by omega)]; exact g k h3 h4
theorem hy_mv (h : HY hb wo I J) (h1 : ∀ j, I2 (hb2 + 10) j = I (hb + 10) j) (h2 : ∀ j, 70 ≤ j → j < 110 → J2 wo2 j = J wo j) : HY hb2 wo2 I2 J2 := by
  refine ⟨fun k hk => ?_, fun s h3 h4 => ⟨?_, ?_, ?_⟩⟩
  · rw [h1, h2 _ (by omega) (by omega)]; exact h.1 k hk
  · rw [h1, h2 _ (by omega) (by omega)]; exact (h.2 s h3 h4).1
  · rw [h1, h2 _ (by omega) (by omega)]; exact (h.2 s h3 h4).2.1
  · rw [h1, h2 _ (by omega) (by omega)]; exact (h.2 s h3 h4).2.2
theorem hp_mv (h : HP hb wo I J) (h1 : ∀ j, I2 (hb2 + 11) j = I (hb + 11) j ∧ I2 (hb2 + 12) j = I (hb + 12) j) (h2 : ∀ j, (j = 70 ∨ (110 ≤ j ∧ j < 130) ∨ (6010 ≤ j ∧ j < 6190)) → J2 wo2 j = J wo j) : HP hb2 wo2 I2 J2 := by
  obtain ⟨a, b, c, d, e⟩ := h
  refine ⟨?_, ?_, ?_, fun i hi => ⟨?_, ?_⟩, fun k hk => ?_⟩
  · rw [h2 110 (by omega), h2 70 (by omega)]; exact a
  · rw [h2 110 (by omega), (h1 _).1]; exact b
  · rw [h2 111 (by omega), (h1 _).1]; exact c
  · rw [h2 _ (by omega), (h1 _).1]; exact (d i hi).1
  · rw [h2 _ (by omega), (h1 _).1]; exact (d i hi).2
  · rw [h2 _ (by omega), (h1 _).2]; exact e k hk
theorem hl_mv (h : HL hb wo I J) (h1 : ∀ j, I2 (hb2 + 7) j = I (hb + 7) j ∧ I2 (hb2 + 8) j = I (hb + 8) j) (h2 : ∀ j, 130 ≤ j → j < 1580 → J2 wo2 j = J wo j) : HL hb2 wo2 I2 J2 := by
  intro l hl
  obtain ⟨a, b, c⟩ := h l hl
  refine ⟨?_, ?_, fun p f hp hf => ?_⟩
  · rw [(h1 _).2, h2 _ (by omega) (by omega)]; exact a
  · rw [h2 _ (by omega) (by omega)]; exact b
  · rw [h2 _ (by omega) (by omega)] at hp
    rw [(h1 _).1, h2 _ (by omega) (by omega)]; exact c p f hp hf
theorem lc_mv {ol ol2 : Nat} {s : Int} {l : List LRec} (h : LC ol s l I) (h1 : ∀ d j, d < 4 → I2 (ol2 + d) j = I (ol + d) j) : LC ol2 s l I2 := by
  obtain ⟨a1, a2, a3, a4⟩ := h
  refine ⟨?_, fun i hi => ?_, ?_, fun i r hr => ⟨?_, ?_⟩⟩
  · have := h1 0 4 (by omega); simp only [Nat.add_zero] at this; rw [this]; exact a1
  · rw [h1 1 i (by omega)]; exact a2 i hi
  · rw [h1 2 0 (by omega)]; exact a3
  · rw [h1 2 _ (by omega)]; exact (a4 i r hr).1
  · rw [h1 3 _ (by omega)]; exact (a4 i r hr).2
theorem lx_mv {k : Nat} {l : List LRec} (hk : k < 5) (ho : LOK k l) (h : LX wo k l J) (h2 : ∀ j, 1580 ≤ j → j < 6010 → J2 wo2 j = J wo j) : LX wo2 k l J2 := by
  obtain ⟨a1, a2, a3⟩ := h
  have o1 := ho.1
  have o3 := ho.2.2.1
  refine ⟨?_, fun i hi => ⟨?_, ?_⟩, fun i r hr => ?_⟩
  · rw [h2 _ (by omega) (by omega)]; exact a1
  · rw [h2 _ (by omega) (by omega)]; exact (a2 i hi).1
  · rw [h2 _ (by omega) (by omega)]; exact (a2 i hi).2
  · have hi := lt_of_get hr
    obtain ⟨c3, c4, c5, c6⟩ := a3 i r hr
    refine ⟨?_, ?_, ?_, fun q => ⟨(c6 q).1, ?_⟩⟩
    · rw [h2 _ (by omega) (by omega)]; exact c3
    · rw [h2 _ (by omega) (by omega)]; exact c4
    · rw [h2 _ (by omega) (by omega)]; exact c5
    · rw [h2 _ (by omega) (by omega)]; exact (c6 q).2
theorem lwr_mv {k : Nat} (hk : k < 5) (h : LWR hb wo k I J) (h1 : ∀ d j, d < 4 → I2 (hb2 + 15 + 5 * k + d) j = I (hb + 15 + 5 * k + d) j) (h2 : ∀ j, 1580 ≤ j → j < 6010 → J2 wo2 j = J wo j) : LWR hb2 wo2 k I2 J2 := by
  obtain ⟨l, a1, a2, a3⟩ := h
  exact ⟨l, lc_mv a1 h1, lx_mv hk a3 a2 h2, a3⟩
theorem hw_mv (h : HW hb wo I J) (h1 : ∀ d j, 15 ≤ d → d < 40 → d % 5 ≠ 4 → I2 (hb2 + d) j = I (hb + d) j) (h2 : ∀ j, 1580 ≤ j → j < 6010 → J2 wo2 j = J wo j) : HW hb2 wo2 I2 J2 := by
  intro k hk
  refine lwr_mv hk (h k hk) (fun d j hd => ?_) h2
  have := h1 (15 + 5 * k + d) j (by omega) (by omega) (by omega)
  rw [show hb2 + 15 + 5 * k + d = hb2 + (15 + 5 * k + d) by omega, show hb + 15 + 5 * k + d = hb + (15 + 5 * k + d) by omega]
  exact this
/-- the cells that the relation reads -/
def CH (d j : Nat) : Prop := (d = 0 ∧ (j = 6 ∨ j = 7)) ∨ d = 1 ∨ d = 3 ∨ d = 4 ∨ d = 5 ∨ (7 ≤ d ∧ d ≤ 12) ∨ (15 ≤ d ∧ d < 40 ∧ d % 5 ≠ 4)
theorem hr_mv (h : HR hb wo I J) (h1 : ∀ d j, CH d j → I2 (hb2 + d) j = I (hb + d) j) (h2 : ∀ j, j < 6190 → J2 wo2 j = J wo j) : HR hb2 wo2 I2 J2 :=
  ⟨hs_mv h.1 (fun d j q => h1 d j (by unfold CH; omega)) (fun j q => h2 j (by omega)), hy_mv h.2.1 (fun j => h1 _ j (by unfold CH; omega)) (fun j _ _ => h2 j (by omega)), hp_mv h.2.2.1 (fun j => ⟨h1 _ j (by unfold CH; omega), h1 _ j (by unfold CH; omega)⟩) (fun j _ => h2 j (by omega)), hl_mv h.2.2.2.1 (fun j => ⟨h1 _ j (by unfold CH; omega), h1 _ j (by unfold CH; omega)⟩) (fun j _ _ => h2 j (by omega)), hw_mv h.2.2.2.2 (fun d j a c e => h1 d j (by unfold CH; omega)) (fun j _ _ => h2 j (by omega))⟩
end
