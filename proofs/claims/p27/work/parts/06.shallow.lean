/-! THE SHALLOW SIDE: ints as integers; a method's text as a function of the memory's ints -/
abbrev IMem : Type := Nat → Nat → Int
abbrev Res : Type := Option (Int × IMem)
def wr32 (x : Int) : Int := (x + 2147483648) % 4294967296 - 2147483648
def inr (x : Int) : Prop := -2147483648 ≤ x ∧ x < 2147483648
def iv (x : Int) : Int32 := Int32.ofInt x
def ivm (I : IMem) : Nat → Nat → Int32 := fun o j => iv (I o j)
def RG (I : IMem) : Prop := ∀ o j, inr (I o j)
def up (I : IMem) (o j : Nat) (v : Int) : IMem := fun p i => if p = o ∧ i = j then v else I p i
def cpy (I : IMem) (o0 sp o1 dp n : Nat) : IMem := fun p i => if p = o1 ∧ dp ≤ i ∧ i < dp + n then I o0 (sp + (i - dp)) else I p i
def zl (v : Int) (k : Int → Res) : Res := k v
def zw (I : IMem) (o j : Nat) (v : Int) (k : IMem → Res) : Res := k (up I o j v)
def zc (I : IMem) (o0 : Nat) (sp : Int) (o1 : Nat) (dp n : Int) (k : IMem → Res) : Res := k (cpy I o0 sp.toNat o1 dp.toNat n.toNat)
def zg (c : Prop) [Decidable c] (k : Res) : Res := if c then k else none
def zb (m : Res) (k : Int → IMem → Res) : Res := match m with
  | none => none
  | some (v, I) => k v I
def zr (v : Int) (I : IMem) : Res := some (v, I)
def zj {α : Type} (K : α) (M : α → Res) : Res := M K
theorem of_zg {c : Prop} [Decidable c] {k : Res} {r : Int × IMem} (h : zg c k = some r) : c ∧ k = some r := by
  unfold zg at h
  by_cases q : c
  · rw [if_pos q] at h; exact ⟨q, h⟩
  · rw [if_neg q] at h; cases h
theorem of_zb {m : Res} {k : Int → IMem → Res} {r : Int × IMem} (h : zb m k = some r) : ∃ v I, m = some (v, I) ∧ k v I = some r := by
  unfold zb at h
  match m, h with
  | some (v, I), h => exact ⟨v, I, rfl, h⟩
theorem of_zj {α : Type} {K : α} {M : α → Res} {r : Int × IMem} (h : zj K M = some r) : ∃ k, k = K ∧ M k = some r := ⟨K, rfl, h⟩
theorem of_ite {c : Prop} [Decidable c] {A B : Res} {r : Int × IMem} (h : (if c then A else B) = some r) : (c ∧ A = some r) ∨ (¬ c ∧ B = some r) := by
  by_cases q : c
  · rw [if_pos q] at h; exact Or.inl ⟨q, h⟩
  · rw [if_neg q] at h; exact Or.inr ⟨q, h⟩
theorem wr32_in (x : Int) : inr (wr32 x) := by unfold inr wr32; omega
theorem wr32_id {x : Int} (h : inr x) : wr32 x = x := by unfold inr at h; unfold wr32; omega
theorem iv_toInt {x : Int} (h : inr x) : (iv x).toInt = x := by
  unfold inr at h
  unfold iv
  rw [Int32.toInt_ofInt]
  unfold Int.bmod
  simp only [Int32.size]
  omega
theorem iv_wr (x : Int) : iv (wr32 x) = iv x := by
  refine Int32.toInt_inj.mp ?_
  rw [iv_toInt (wr32_in x)]
  unfold iv wr32
  rw [Int32.toInt_ofInt]
  unfold Int.bmod
  simp only [Int32.size]
  omega
theorem toInt_in (x : Int32) : inr x.toInt := ⟨i32_lo x, i32_hi x⟩
theorem iv_of (x : Int32) : iv x.toInt = x := Int32.toInt_inj.mp (iv_toInt (toInt_in x))
theorem iv_inj {a c : Int} (ha : inr a) (hc : inr c) : iv a = iv c ↔ a = c :=
  ⟨fun h => by rw [← iv_toInt ha, ← iv_toInt hc, h], fun h => by rw [h]⟩
theorem iv_lt {a c : Int} (ha : inr a) (hc : inr c) : iv a < iv c ↔ a < c := by rw [Int32.lt_iff_toInt_lt, iv_toInt ha, iv_toInt hc]
theorem iv_le {a c : Int} (ha : inr a) (hc : inr c) : iv a ≤ iv c ↔ a ≤ c := by rw [Int32.le_iff_toInt_le, iv_toInt ha, iv_toInt hc]
theorem iv_add (a c : Int) : iv a + iv c = iv (wr32 (a + c)) := by rw [iv_wr]; exact (Int32.ofInt_add a c).symm
theorem iv_sub (a c : Int) : iv a - iv c = iv (wr32 (a - c)) := by rw [iv_wr]; exact (Int32.ofInt_sub a c).symm
theorem iv_mul (a c : Int) : iv a * iv c = iv (wr32 (a * c)) := by rw [iv_wr]; exact (Int32.ofInt_mul a c).symm
theorem iv_clamp {a : Int} (h : inr a) : (iv a).toNatClampNeg = a.toNat := by
  show (iv a).toInt.toNat = _
  rw [iv_toInt h]
theorem iv_vp {i : Int} {n : Nat} (hi : inr i) (h : 0 ≤ i ∧ i < (n : Int)) : vp_in (iv i) n := by
  rintro (q | q)
  · have h0 : iv i < iv 0 := q
    rw [iv_lt hi ⟨by decide, by decide⟩] at h0
    omega
  · rw [iv_clamp hi] at q
    omega
theorem nI_iv {n : Nat} (h : n < 2147483648) : nI n = iv (n : Int) := by
  refine Int32.toInt_inj.mp ?_
  rw [nI_toInt h, iv_toInt ⟨by omega, by omega⟩]
theorem ivm_up (I : IMem) (o j : Nat) (v : Int) : ivm (up I o j v) = upd2 (ivm I) o j (iv v) := by
  funext p i
  unfold ivm up upd2 upd
  by_cases h : p = o
  · by_cases h2 : i = j
    · rw [if_pos ⟨h, h2⟩, if_pos h, if_pos h2]
    · rw [if_neg (fun q => h2 q.2), if_pos h, if_neg h2]
  · rw [if_neg (fun q => h q.1), if_neg h]
theorem ivm_cpy (I : IMem) (o0 sp o1 dp n : Nat) : ivm (cpy I o0 sp o1 dp n) = updA (ivm I) o1 (va_cpy (ivm I o0) (ivm I o1) sp dp n) := by
  funext p i
  unfold ivm cpy updA va_cpy
  by_cases h : p = o1
  · by_cases h2 : dp ≤ i ∧ i < dp + n
    · rw [if_pos ⟨h, h2⟩, if_pos h, if_pos h2]
    · rw [if_neg (fun q => h2 q.2), if_pos h, if_neg h2, h]
  · rw [if_neg (fun q => h q.1), if_neg h]
theorem RG.up {I : IMem} {o j : Nat} {v : Int} (h : RG I) (hv : inr v) : RG (up I o j v) := by
  intro p i
  show inr (if p = o ∧ i = j then v else I p i)
  split
  · exact hv
  · exact h p i
theorem RG.cpy {I : IMem} {o0 sp o1 dp n : Nat} (h : RG I) : RG (cpy I o0 sp o1 dp n) := by
  intro p i
  show inr (if p = o1 ∧ dp ≤ i ∧ i < dp + n then I o0 (sp + (i - dp)) else I p i)
  split
  · exact h _ _
  · exact h p i
def wand (a c : Int) : Int := (iv a &&& iv c).toInt
def wor (a c : Int) : Int := (iv a ||| iv c).toInt
def wxor (a c : Int) : Int := (iv a ^^^ iv c).toInt
def wshl (a c : Int) : Int := (iv a <<< (iv c &&& 31)).toInt
def wshr (a c : Int) : Int := (iv a >>> (iv c &&& 31)).toInt
def wushr (a c : Int) : Int := ((iv a).toUInt32 >>> ((iv c).toUInt32 &&& Int32.toUInt32 31)).toInt32.toInt
def wdiv (a c : Int) : Int := (iv a / iv c).toInt
def wrem (a c : Int) : Int := (iv a - iv a / iv c * iv c).toInt
def wi2c (a : Int) : Int := ((iv a).toUInt32 % 65536).toInt32.toInt
def wi2b (a : Int) : Int := (iv a).toInt8.toInt32.toInt
def wmean (a c : Int) : Int := (((100 : Int64) * (iv a).toInt64) / (iv c).toInt64).toInt32.toInt
def leastZ (j : Nat) : Int := (least_f j).toInt
def mostZ (j : Nat) : Int := (most_f j).toInt
theorem wand_in (a c : Int) : inr (wand a c) := toInt_in _
theorem wor_in (a c : Int) : inr (wor a c) := toInt_in _
theorem wxor_in (a c : Int) : inr (wxor a c) := toInt_in _
theorem wshl_in (a c : Int) : inr (wshl a c) := toInt_in _
theorem wshr_in (a c : Int) : inr (wshr a c) := toInt_in _
theorem wushr_in (a c : Int) : inr (wushr a c) := toInt_in _
theorem wdiv_in (a c : Int) : inr (wdiv a c) := toInt_in _
theorem wrem_in (a c : Int) : inr (wrem a c) := toInt_in _
theorem wi2c_in (a : Int) : inr (wi2c a) := toInt_in _
theorem wi2b_in (a : Int) : inr (wi2b a) := toInt_in _
theorem wmean_in (a c : Int) : inr (wmean a c) := toInt_in _
theorem leastZ_in (j : Nat) : inr (leastZ j) := toInt_in _
theorem mostZ_in (j : Nat) : inr (mostZ j) := toInt_in _
theorem lit_in {n : Int} (h : (decide (-2147483648 ≤ n) && decide (n < 2147483648)) = true) : inr n := by
  rw [Bool.and_eq_true] at h
  exact ⟨of_decide_eq_true h.1, of_decide_eq_true h.2⟩
section AIR
variable {l : Launch} {b : PB} {d : Nat} {y : MI} {Ks : List (Nat × Nat)} {G : Nat → Nat → Option Nat} {K2 : K2T} {pc : Nat} {lv st : List Value} {I : IMem} {r : Int × IMem}
/-- what a method's end has to show: the answer and the memory of the shallow side -/
def Ps (r : Int × IMem) : K2T := fun v I' => v = some (.int (iv r.1)) ∧ I' = ivm r.2 ∧ inr r.1 ∧ RG r.2
def Pv (r : Int × IMem) : K2T := fun v I' => v = none ∧ I' = ivm r.2 ∧ RG r.2
def Pr (Ks : List (Nat × Nat)) (t : Nat × Nat) (r : Int × IMem) : K2T := fun v I' => v = some (.ref r.1.toNat) ∧ I' = ivm r.2 ∧ Ks[r.1.toNat]? = some t ∧ RG r.2
abbrev Ai (l : Launch) (b : PB) (d : Nat) (y : MI) (Ks : List (Nat × Nat)) (G : Nat → Nat → Option Nat) (K2 : K2T) (I : IMem) (pc : Nat) (lv st : List Value) : Prop := As l b d y Ks G K2 (ivm I) pc lv st
theorem ai_top {x x2 : Int32} (e : x = x2) (k : Ai l b d y Ks G K2 I pc lv (.int x2 :: st)) : Ai l b d y Ks G K2 I pc lv (.int x :: st) := e ▸ k
theorem ai_name {v : Int} {k : Int → Res} (hf : zl v k = some r) (hv : inr v) (h : ∀ x, inr x → k x = some r → Ai l b d y Ks G K2 I pc lv (.int (iv x) :: st)) : Ai l b d y Ks G K2 I pc lv (.int (iv v) :: st) := h v hv hf
theorem ai_ldc {i : Nat} {v : Int32} {n : Int} (e : v = iv n) (hw : Cond.constant y.1.cls i v ∈ TW) (hd : decode y.2.1 pc = .ok (.ldc i, 2)) (k : Ai l b d y Ks G K2 I (pc + 2) lv (.int (iv n) :: st)) : Ai l b d y Ks G K2 I pc lv st := aw_ldc hw hd (aw_top e k)
theorem ai_iadd {a c : Int} (hd : decode y.2.1 pc = .ok (.iadd, 1)) (k : Ai l b d y Ks G K2 I (pc + 1) lv (.int (iv (wr32 (a + c))) :: st)) : Ai l b d y Ks G K2 I pc lv (.int (iv c) :: .int (iv a) :: st) := aw_iadd hd (aw_top (iv_add a c) k)
theorem ai_isub {a c : Int} (hd : decode y.2.1 pc = .ok (.isub, 1)) (k : Ai l b d y Ks G K2 I (pc + 1) lv (.int (iv (wr32 (a - c))) :: st)) : Ai l b d y Ks G K2 I pc lv (.int (iv c) :: .int (iv a) :: st) := aw_isub hd (aw_top (iv_sub a c) k)
theorem ai_imul {a c : Int} (hd : decode y.2.1 pc = .ok (.imul, 1)) (k : Ai l b d y Ks G K2 I (pc + 1) lv (.int (iv (wr32 (a * c))) :: st)) : Ai l b d y Ks G K2 I pc lv (.int (iv c) :: .int (iv a) :: st) := aw_imul hd (aw_top (iv_mul a c) k)
theorem ai_iand {a c : Int} (hd : decode y.2.1 pc = .ok (.iand, 1)) (k : Ai l b d y Ks G K2 I (pc + 1) lv (.int (iv (wand a c)) :: st)) : Ai l b d y Ks G K2 I pc lv (.int (iv c) :: .int (iv a) :: st) := aw_iand hd (aw_top (iv_of _).symm k)
theorem ai_ior {a c : Int} (hd : decode y.2.1 pc = .ok (.ior, 1)) (k : Ai l b d y Ks G K2 I (pc + 1) lv (.int (iv (wor a c)) :: st)) : Ai l b d y Ks G K2 I pc lv (.int (iv c) :: .int (iv a) :: st) := aw_ior hd (aw_top (iv_of _).symm k)
theorem ai_ixor {a c : Int} (hd : decode y.2.1 pc = .ok (.ixor, 1)) (k : Ai l b d y Ks G K2 I (pc + 1) lv (.int (iv (wxor a c)) :: st)) : Ai l b d y Ks G K2 I pc lv (.int (iv c) :: .int (iv a) :: st) := aw_ixor hd (aw_top (iv_of _).symm k)
theorem ai_ishl {a c : Int} (hd : decode y.2.1 pc = .ok (.ishl, 1)) (k : Ai l b d y Ks G K2 I (pc + 1) lv (.int (iv (wshl a c)) :: st)) : Ai l b d y Ks G K2 I pc lv (.int (iv c) :: .int (iv a) :: st) := aw_ishl hd (aw_top (iv_of _).symm k)
theorem ai_ishr {a c : Int} (hd : decode y.2.1 pc = .ok (.ishr, 1)) (k : Ai l b d y Ks G K2 I (pc + 1) lv (.int (iv (wshr a c)) :: st)) : Ai l b d y Ks G K2 I pc lv (.int (iv c) :: .int (iv a) :: st) := aw_ishr hd (aw_top (iv_of _).symm k)
theorem ai_iushr {a c : Int} (hd : decode y.2.1 pc = .ok (.iushr, 1)) (k : Ai l b d y Ks G K2 I (pc + 1) lv (.int (iv (wushr a c)) :: st)) : Ai l b d y Ks G K2 I pc lv (.int (iv c) :: .int (iv a) :: st) := aw_iushr (v := iv (wushr a c)) (iv_of _).symm hd k
theorem ai_idiv {a c : Int} {k0 : Res} (hc : inr c) (hf : zg (c ≠ 0) k0 = some r) (hd : decode y.2.1 pc = .ok (.idiv, 1)) (k : c ≠ 0 → k0 = some r → Ai l b d y Ks G K2 I (pc + 1) lv (.int (iv (wdiv a c)) :: st)) : Ai l b d y Ks G K2 I pc lv (.int (iv c) :: .int (iv a) :: st) :=
  aw_idiv (fun e => (of_zg hf).1 ((iv_inj hc ⟨by decide, by decide⟩).mp e)) hd (aw_top (iv_of _).symm (k (of_zg hf).1 (of_zg hf).2))
theorem ai_irem {a c : Int} {k0 : Res} (hc : inr c) (hf : zg (c ≠ 0) k0 = some r) (hd : decode y.2.1 pc = .ok (.irem, 1)) (k : c ≠ 0 → k0 = some r → Ai l b d y Ks G K2 I (pc + 1) lv (.int (iv (wrem a c)) :: st)) : Ai l b d y Ks G K2 I pc lv (.int (iv c) :: .int (iv a) :: st) :=
  aw_irem (fun e => (of_zg hf).1 ((iv_inj hc ⟨by decide, by decide⟩).mp e)) hd (aw_top (iv_of _).symm (k (of_zg hf).1 (of_zg hf).2))
theorem ai_idivc {a c : Int} (hc : inr c) (h0 : c ≠ 0) (hd : decode y.2.1 pc = .ok (.idiv, 1)) (k : Ai l b d y Ks G K2 I (pc + 1) lv (.int (iv (wdiv a c)) :: st)) : Ai l b d y Ks G K2 I pc lv (.int (iv c) :: .int (iv a) :: st) :=
  aw_idiv (fun e => h0 ((iv_inj hc ⟨by decide, by decide⟩).mp e)) hd (aw_top (iv_of _).symm k)
theorem ai_iremc {a c : Int} (hc : inr c) (h0 : c ≠ 0) (hd : decode y.2.1 pc = .ok (.irem, 1)) (k : Ai l b d y Ks G K2 I (pc + 1) lv (.int (iv (wrem a c)) :: st)) : Ai l b d y Ks G K2 I pc lv (.int (iv c) :: .int (iv a) :: st) :=
  aw_irem (fun e => h0 ((iv_inj hc ⟨by decide, by decide⟩).mp e)) hd (aw_top (iv_of _).symm k)
theorem ai_i2c {a : Int} (hd : decode y.2.1 pc = .ok (.i2c, 1)) (k : Ai l b d y Ks G K2 I (pc + 1) lv (.int (iv (wi2c a)) :: st)) : Ai l b d y Ks G K2 I pc lv (.int (iv a) :: st) := aw_i2c (v := iv (wi2c a)) (iv_of _).symm hd k
theorem aw_i2b {R : Room} {K : Kont} {lf sf : Nat} {m : Mem} {x v : Int32} (hv : x.toInt8.toInt32 = v) (hd : decode y.2.1 pc = .ok (.i2b, 1)) (k : AW l b R y K lf sf m (pc + 1) lv (.int v :: st)) : AW l b R y K lf sf m pc lv (.int x :: st) := aw_step (st := (.int x :: st)) (st2 := (.int v :: st)) (fun p e s mm args below meth c Q n0 H locs cells slots ls C hP hS hL kk => lv_i2b C.1.1 C.1.2.1 hd hv kk) k
theorem ai_i2b {a : Int} (hd : decode y.2.1 pc = .ok (.i2b, 1)) (k : Ai l b d y Ks G K2 I (pc + 1) lv (.int (iv (wi2b a)) :: st)) : Ai l b d y Ks G K2 I pc lv (.int (iv a) :: st) := aw_i2b (v := iv (wi2b a)) (iv_of _).symm hd k
theorem ai_iinc {i : Nat} {n : Int} {a : Int} {k0 : Int → Res} {lv2 : Int → List Value} (hf : zl (wr32 (a + n)) k0 = some r) (hx : lv[i]? = some (.int (iv a))) (hi : i < y.2.2.1) (hl : ∀ v, lv.set i (.int (iv v)) = lv2 v) (hd : decode y.2.1 pc = .ok (.iinc i n, 3)) (k : ∀ v, inr v → k0 v = some r → Ai l b d y Ks G K2 I (pc + 3) (lv2 v) st) : Ai l b d y Ks G K2 I pc lv st :=
  aw_iinc (v := iv (wr32 (a + n))) hx (iv_add a n) hi (hl _) hd (k _ (wr32_in _) hf)
-- branches
theorem ai_icmp_eq {a c : Int} {A B : Res} {off : Int} {tgt : Nat} (ha : inr a) (hc : inr c) (hf : (if a = c then A else B) = some r) (ht : (pc : Int) + off = (tgt : Int)) (hd : decode y.2.1 pc = .ok (.if_icmp .eq off, 3)) (kt : A = some r → Ai l b d y Ks G K2 I tgt lv st) (kf : B = some r → Ai l b d y Ks G K2 I (pc + 3) lv st) : Ai l b d y Ks G K2 I pc lv (.int (iv c) :: .int (iv a) :: st) :=
  aw_icmp_eq ht hd (fun q => kt (by rw [if_pos ((iv_inj ha hc).mp q)] at hf; exact hf)) (fun q => kf (by rw [if_neg (fun e => q ((iv_inj ha hc).mpr e))] at hf; exact hf))
theorem ai_icmp_ne {a c : Int} {A B : Res} {off : Int} {tgt : Nat} (ha : inr a) (hc : inr c) (hf : (if a = c then B else A) = some r) (ht : (pc : Int) + off = (tgt : Int)) (hd : decode y.2.1 pc = .ok (.if_icmp .ne off, 3)) (kt : A = some r → Ai l b d y Ks G K2 I tgt lv st) (kf : B = some r → Ai l b d y Ks G K2 I (pc + 3) lv st) : Ai l b d y Ks G K2 I pc lv (.int (iv c) :: .int (iv a) :: st) :=
  aw_icmp_ne ht hd (fun q => kt (by rw [if_neg (fun e => q ((iv_inj ha hc).mpr e))] at hf; exact hf)) (fun q => kf (by rw [if_pos ((iv_inj ha hc).mp q)] at hf; exact hf))
theorem ai_icmp_lt {a c : Int} {A B : Res} {off : Int} {tgt : Nat} (ha : inr a) (hc : inr c) (hf : (if a < c then A else B) = some r) (ht : (pc : Int) + off = (tgt : Int)) (hd : decode y.2.1 pc = .ok (.if_icmp .lt off, 3)) (kt : A = some r → Ai l b d y Ks G K2 I tgt lv st) (kf : B = some r → Ai l b d y Ks G K2 I (pc + 3) lv st) : Ai l b d y Ks G K2 I pc lv (.int (iv c) :: .int (iv a) :: st) :=
  aw_icmp_lt ht hd (fun q => kt (by rw [if_pos ((iv_lt ha hc).mp q)] at hf; exact hf)) (fun q => kf (by rw [if_neg (fun e => q ((iv_lt ha hc).mpr e))] at hf; exact hf))
theorem ai_icmp_ge {a c : Int} {A B : Res} {off : Int} {tgt : Nat} (ha : inr a) (hc : inr c) (hf : (if a < c then B else A) = some r) (ht : (pc : Int) + off = (tgt : Int)) (hd : decode y.2.1 pc = .ok (.if_icmp .ge off, 3)) (kt : A = some r → Ai l b d y Ks G K2 I tgt lv st) (kf : B = some r → Ai l b d y Ks G K2 I (pc + 3) lv st) : Ai l b d y Ks G K2 I pc lv (.int (iv c) :: .int (iv a) :: st) :=
  aw_icmp_ge ht hd (fun q => kt (by rw [if_neg (Int.not_lt.mpr ((iv_le hc ha).mp q))] at hf; exact hf)) (fun q => kf (by rw [if_pos (Int.not_le.mp (fun e => q ((iv_le hc ha).mpr e)))] at hf; exact hf))
theorem ai_icmp_gt {a c : Int} {A B : Res} {off : Int} {tgt : Nat} (ha : inr a) (hc : inr c) (hf : (if c < a then A else B) = some r) (ht : (pc : Int) + off = (tgt : Int)) (hd : decode y.2.1 pc = .ok (.if_icmp .gt off, 3)) (kt : A = some r → Ai l b d y Ks G K2 I tgt lv st) (kf : B = some r → Ai l b d y Ks G K2 I (pc + 3) lv st) : Ai l b d y Ks G K2 I pc lv (.int (iv c) :: .int (iv a) :: st) :=
  aw_icmp_gt ht hd (fun q => kt (by rw [if_pos ((iv_lt hc ha).mp q)] at hf; exact hf)) (fun q => kf (by rw [if_neg (fun e => q ((iv_lt hc ha).mpr e))] at hf; exact hf))
theorem ai_icmp_le {a c : Int} {A B : Res} {off : Int} {tgt : Nat} (ha : inr a) (hc : inr c) (hf : (if c < a then B else A) = some r) (ht : (pc : Int) + off = (tgt : Int)) (hd : decode y.2.1 pc = .ok (.if_icmp .le off, 3)) (kt : A = some r → Ai l b d y Ks G K2 I tgt lv st) (kf : B = some r → Ai l b d y Ks G K2 I (pc + 3) lv st) : Ai l b d y Ks G K2 I pc lv (.int (iv c) :: .int (iv a) :: st) :=
  aw_icmp_le ht hd (fun q => kt (by rw [if_neg (Int.not_lt.mpr ((iv_le ha hc).mp q))] at hf; exact hf)) (fun q => kf (by rw [if_pos (Int.not_le.mp (fun e => q ((iv_le ha hc).mpr e)))] at hf; exact hf))
theorem in_0 : inr 0 := ⟨by decide, by decide⟩
theorem ai_if_eq {a : Int} {A B : Res} {off : Int} {tgt : Nat} (ha : inr a) (hf : (if a = 0 then A else B) = some r) (ht : (pc : Int) + off = (tgt : Int)) (hd : decode y.2.1 pc = .ok (.ifCond .eq off, 3)) (kt : A = some r → Ai l b d y Ks G K2 I tgt lv st) (kf : B = some r → Ai l b d y Ks G K2 I (pc + 3) lv st) : Ai l b d y Ks G K2 I pc lv (.int (iv a) :: st) :=
  aw_if_eq ht hd (fun q => kt (by rw [if_pos ((iv_inj ha in_0).mp q)] at hf; exact hf)) (fun q => kf (by rw [if_neg (fun e => q ((iv_inj ha in_0).mpr e))] at hf; exact hf))
theorem ai_if_ne {a : Int} {A B : Res} {off : Int} {tgt : Nat} (ha : inr a) (hf : (if a = 0 then B else A) = some r) (ht : (pc : Int) + off = (tgt : Int)) (hd : decode y.2.1 pc = .ok (.ifCond .ne off, 3)) (kt : A = some r → Ai l b d y Ks G K2 I tgt lv st) (kf : B = some r → Ai l b d y Ks G K2 I (pc + 3) lv st) : Ai l b d y Ks G K2 I pc lv (.int (iv a) :: st) :=
  aw_if_ne ht hd (fun q => kt (by rw [if_neg (fun e => q ((iv_inj ha in_0).mpr e))] at hf; exact hf)) (fun q => kf (by rw [if_pos ((iv_inj ha in_0).mp q)] at hf; exact hf))
theorem ai_if_lt {a : Int} {A B : Res} {off : Int} {tgt : Nat} (ha : inr a) (hf : (if a < 0 then A else B) = some r) (ht : (pc : Int) + off = (tgt : Int)) (hd : decode y.2.1 pc = .ok (.ifCond .lt off, 3)) (kt : A = some r → Ai l b d y Ks G K2 I tgt lv st) (kf : B = some r → Ai l b d y Ks G K2 I (pc + 3) lv st) : Ai l b d y Ks G K2 I pc lv (.int (iv a) :: st) :=
  aw_if_lt ht hd (fun q => kt (by rw [if_pos ((iv_lt ha in_0).mp q)] at hf; exact hf)) (fun q => kf (by rw [if_neg (fun e => q ((iv_lt ha in_0).mpr e))] at hf; exact hf))
theorem ai_if_ge {a : Int} {A B : Res} {off : Int} {tgt : Nat} (ha : inr a) (hf : (if a < 0 then B else A) = some r) (ht : (pc : Int) + off = (tgt : Int)) (hd : decode y.2.1 pc = .ok (.ifCond .ge off, 3)) (kt : A = some r → Ai l b d y Ks G K2 I tgt lv st) (kf : B = some r → Ai l b d y Ks G K2 I (pc + 3) lv st) : Ai l b d y Ks G K2 I pc lv (.int (iv a) :: st) :=
  aw_if_ge ht hd (fun q => kt (by rw [if_neg (Int.not_lt.mpr ((iv_le in_0 ha).mp q))] at hf; exact hf)) (fun q => kf (by rw [if_pos (Int.not_le.mp (fun e => q ((iv_le in_0 ha).mpr e)))] at hf; exact hf))
theorem ai_if_gt {a : Int} {A B : Res} {off : Int} {tgt : Nat} (ha : inr a) (hf : (if 0 < a then A else B) = some r) (ht : (pc : Int) + off = (tgt : Int)) (hd : decode y.2.1 pc = .ok (.ifCond .gt off, 3)) (kt : A = some r → Ai l b d y Ks G K2 I tgt lv st) (kf : B = some r → Ai l b d y Ks G K2 I (pc + 3) lv st) : Ai l b d y Ks G K2 I pc lv (.int (iv a) :: st) :=
  aw_if_gt ht hd (fun q => kt (by rw [if_pos ((iv_lt in_0 ha).mp q)] at hf; exact hf)) (fun q => kf (by rw [if_neg (fun e => q ((iv_lt in_0 ha).mpr e))] at hf; exact hf))
theorem ai_if_le {a : Int} {A B : Res} {off : Int} {tgt : Nat} (ha : inr a) (hf : (if 0 < a then B else A) = some r) (ht : (pc : Int) + off = (tgt : Int)) (hd : decode y.2.1 pc = .ok (.ifCond .le off, 3)) (kt : A = some r → Ai l b d y Ks G K2 I tgt lv st) (kf : B = some r → Ai l b d y Ks G K2 I (pc + 3) lv st) : Ai l b d y Ks G K2 I pc lv (.int (iv a) :: st) :=
  aw_if_le ht hd (fun q => kt (by rw [if_neg (Int.not_lt.mpr ((iv_le ha in_0).mp q))] at hf; exact hf)) (fun q => kf (by rw [if_pos (Int.not_le.mp (fun e => q ((iv_le ha in_0).mpr e)))] at hf; exact hf))
theorem ai_tabIn {dflt lo hi : Int} {offs : Array Int} {len : Nat} {x : Int} {off : Int} {tgt : Nat} (j : Nat) (hin : inr x) (hx : x = lo + (j : Int)) (hj : lo + (j : Int) ≤ hi) (ho : offs[j]? = some off) (ht : (pc : Int) + off = (tgt : Int)) (hd : decode y.2.1 pc = .ok (.tableswitch dflt lo hi offs, len)) (k : Ai l b d y Ks G K2 I tgt lv st) : Ai l b d y Ks G K2 I pc lv (.int (iv x) :: st) :=
  aw_tabInI j (by rw [iv_toInt hin]; exact hx) hj ho ht hd k
theorem ai_tabOut {dflt lo hi : Int} {offs : Array Int} {len : Nat} {x : Int} {tgt : Nat} (hin : inr x) (h : x < lo ∨ hi < x) (ht : (pc : Int) + dflt = (tgt : Int)) (hd : decode y.2.1 pc = .ok (.tableswitch dflt lo hi offs, len)) (k : Ai l b d y Ks G K2 I tgt lv st) : Ai l b d y Ks G K2 I pc lv (.int (iv x) :: st) :=
  aw_tabOut (by rw [iv_toInt hin]; exact h) ht hd k
-- fields and arrays
theorem ai_geti {idx ci n k o : Nat} (hf : FL y.1.cls idx ci k) (ho : Ks[o]? = some (ci + 3, n)) (hk : k < n) (hr : isRf ci k = false) (hd : decode y.2.1 pc = .ok (.getfield idx, 3)) (kk : Ai l b d y Ks G K2 I (pc + 3) lv (.int (iv (I o k)) :: st)) : Ai l b d y Ks G K2 I pc lv (.ref o :: st) := aw_geti hf ho hk hr hd kk
theorem ai_puti {idx ci n k o : Nat} {v : Int} {k0 : IMem → Res} (h : zw I o k v k0 = some r) (hI : RG I) (hv : inr v) (hf : FL y.1.cls idx ci k) (ho : Ks[o]? = some (ci + 3, n)) (hk : k < n) (hr : isRf ci k = false) (hn : narrow (fty ci k) (.int (iv v)) = .int (iv v)) (hfit : fits (fty ci k) (.int (iv v)) = true) (hfin : ffin ci k = false) (hd : decode y.2.1 pc = .ok (.putfield idx, 3))
    (kk : ∀ I1, RG I1 → k0 I1 = some r → Ai l b d y Ks G K2 I1 (pc + 3) lv st) : Ai l b d y Ks G K2 I pc lv (.int (iv v) :: .ref o :: st) :=
  aw_puti hf ho hk hr hn hfit hfin hd (by rw [← ivm_up]; exact kk _ (hI.up hv) h)
theorem nar_z {v : Int} (h : v = 0 ∨ v = 1) : narrow .boolean (.int (iv v)) = .int (iv v) := by rcases h with rfl | rfl <;> decide +kernel
theorem vnar_z {v : Int} (h : v = 0 ∨ v = 1) : vp_nar .boolean (iv v) = iv v := by rcases h with rfl | rfl <;> decide +kernel
theorem fit_z {v : Int} (h : v = 0 ∨ v = 1) : fits .boolean (.int (iv v)) = true := by rcases h with rfl | rfl <;> decide +kernel
theorem ai_iald {o n : Nat} {i N : Int} {k0 : Res} (ho : Ks[o]? = some (0, n)) (hN : N = (n : Int)) (hi : inr i) (h : zg (0 ≤ i ∧ i < N) k0 = some r) (hd : decode y.2.1 pc = .ok (.iaload, 1)) (kk : 0 ≤ i ∧ i < N → k0 = some r → Ai l b d y Ks G K2 I (pc + 1) lv (.int (iv (I o i.toNat)) :: st)) : Ai l b d y Ks G K2 I pc lv (.int (iv i) :: .ref o :: st) :=
  aw_iald ho (iv_vp hi (hN ▸ (of_zg h).1)) (iv_clamp hi) hd (kk (of_zg h).1 (of_zg h).2)
theorem ai_ialdc {o n j : Nat} (ho : Ks[o]? = some (0, n)) (hj : j < n) (hb : j < 2147483648) (hd : decode y.2.1 pc = .ok (.iaload, 1)) (kk : Ai l b d y Ks G K2 I (pc + 1) lv (.int (iv (I o j)) :: st)) : Ai l b d y Ks G K2 I pc lv (.int (iv (j : Int)) :: .ref o :: st) :=
  aw_iald ho (iv_vp ⟨by omega, by omega⟩ ⟨by omega, by omega⟩) (by rw [iv_clamp ⟨by omega, by omega⟩]; exact Int.toNat_natCast j) hd kk
theorem ai_zald {o n : Nat} {i N : Int} {k0 : Res} (ho : Ks[o]? = some (1, n)) (hN : N = (n : Int)) (hi : inr i) (h : zg (0 ≤ i ∧ i < N) k0 = some r) (hd : decode y.2.1 pc = .ok (.baload, 1)) (kk : 0 ≤ i ∧ i < N → k0 = some r → Ai l b d y Ks G K2 I (pc + 1) lv (.int (iv (I o i.toNat)) :: st)) : Ai l b d y Ks G K2 I pc lv (.int (iv i) :: .ref o :: st) :=
  aw_zald ho (iv_vp hi (hN ▸ (of_zg h).1)) (iv_clamp hi) hd (kk (of_zg h).1 (of_zg h).2)
theorem ai_iast {o n : Nat} {i N v : Int} {k0 : IMem → Res} (ho : Ks[o]? = some (0, n)) (hN : N = (n : Int)) (hi : inr i) (hv : inr v) (hI : RG I) (h : zg (0 ≤ i ∧ i < N) (zw I o i.toNat v k0) = some r) (hd : decode y.2.1 pc = .ok (.iastore, 1)) (kk : 0 ≤ i ∧ i < N → ∀ I1, RG I1 → k0 I1 = some r → Ai l b d y Ks G K2 I1 (pc + 1) lv st) : Ai l b d y Ks G K2 I pc lv (.int (iv v) :: .int (iv i) :: .ref o :: st) :=
  aw_iast ho (iv_vp hi (hN ▸ (of_zg h).1)) (iv_clamp hi) hd (by rw [← ivm_up]; exact kk (of_zg h).1 _ (hI.up hv) (of_zg h).2)
theorem ai_iastc {o n j : Nat} {v : Int} {k0 : IMem → Res} (ho : Ks[o]? = some (0, n)) (hj : j < n) (hb : j < 2147483648) (hv : inr v) (hI : RG I) (h : zw I o j v k0 = some r) (hd : decode y.2.1 pc = .ok (.iastore, 1)) (kk : ∀ I1, RG I1 → k0 I1 = some r → Ai l b d y Ks G K2 I1 (pc + 1) lv st) : Ai l b d y Ks G K2 I pc lv (.int (iv v) :: .int (iv (j : Int)) :: .ref o :: st) :=
  aw_iast ho (iv_vp ⟨by omega, by omega⟩ ⟨by omega, by omega⟩) (j := j) (by rw [iv_clamp ⟨by omega, by omega⟩]; exact Int.toNat_natCast j) hd (by rw [← ivm_up]; exact kk _ (hI.up hv) h)
theorem ai_zast {o n : Nat} {i N v : Int} {k0 : IMem → Res} (h01 : v = 0 ∨ v = 1) (ho : Ks[o]? = some (1, n)) (hN : N = (n : Int)) (hi : inr i) (hv : inr v) (hI : RG I) (h : zg (0 ≤ i ∧ i < N) (zw I o i.toNat v k0) = some r) (hd : decode y.2.1 pc = .ok (.bastore, 1)) (kk : 0 ≤ i ∧ i < N → ∀ I1, RG I1 → k0 I1 = some r → Ai l b d y Ks G K2 I1 (pc + 1) lv st) : Ai l b d y Ks G K2 I pc lv (.int (iv v) :: .int (iv i) :: .ref o :: st) :=
  aw_zast ho (iv_vp hi (hN ▸ (of_zg h).1)) (iv_clamp hi) (vnar_z h01) hd (by rw [← ivm_up]; exact kk (of_zg h).1 _ (hI.up hv) (of_zg h).2)
theorem ai_aald {o n q : Nat} {i N : Int} {k0 : Res} (ho : Ks[o]? = some (2, n)) (hN : N = (n : Int)) (hi : inr i) (h : zg (0 ≤ i ∧ i < N) k0 = some r) (hg : 0 ≤ i ∧ i < N → G o i.toNat = some q) (hd : decode y.2.1 pc = .ok (.aaload, 1)) (kk : 0 ≤ i ∧ i < N → k0 = some r → Ai l b d y Ks G K2 I (pc + 1) lv (.ref q :: st)) : Ai l b d y Ks G K2 I pc lv (.int (iv i) :: .ref o :: st) :=
  aw_aald ho (iv_vp hi (hN ▸ (of_zg h).1)) (iv_clamp hi) (hg (of_zg h).1) hd (kk (of_zg h).1 (of_zg h).2)
theorem ai_aaldc {o n q j : Nat} (ho : Ks[o]? = some (2, n)) (hj : j < n) (hb : j < 2147483648) (hg : G o j = some q) (hd : decode y.2.1 pc = .ok (.aaload, 1)) (kk : Ai l b d y Ks G K2 I (pc + 1) lv (.ref q :: st)) : Ai l b d y Ks G K2 I pc lv (.int (iv (j : Int)) :: .ref o :: st) :=
  aw_aald ho (iv_vp ⟨by omega, by omega⟩ ⟨by omega, by omega⟩) (by rw [iv_clamp ⟨by omega, by omega⟩]; exact Int.toNat_natCast j) hg hd kk
theorem ai_alen {o n t : Nat} {N : Int} (ho : Ks[o]? = some (t, n)) (ht : t < 3) (hN : N = (n : Int)) (hb : n < 1000000) (hd : decode y.2.1 pc = .ok (.arraylength, 1)) (kk : Ai l b d y Ks G K2 I (pc + 1) lv (.int (iv N) :: st)) : Ai l b d y Ks G K2 I pc lv (.ref o :: st) :=
  aw_alen ho ht hd (aw_top (by rw [hN]; exact nI_iv (by omega)) kk)
theorem ai_ialdL {i : Int} {k0 : Res} (hi : inr i) (h : zg (0 ≤ i ∧ i < 6) k0 = some r) (hd : decode y.2.1 pc = .ok (.iaload, 1)) (kk : 0 ≤ i ∧ i < 6 → k0 = some r → Ai l b d y Ks G K2 I (pc + 1) lv (.int (iv (leastZ i.toNat)) :: st)) : Ai l b d y Ks G K2 I pc lv (.int (iv i) :: .ref 1001 :: st) :=
  aw_ialdL (iv_vp hi (of_zg h).1) (iv_clamp hi) hd (aw_top (iv_of _).symm (kk (of_zg h).1 (of_zg h).2))
theorem ai_ialdM {i : Int} {k0 : Res} (hi : inr i) (h : zg (0 ≤ i ∧ i < 6) k0 = some r) (hd : decode y.2.1 pc = .ok (.iaload, 1)) (kk : 0 ≤ i ∧ i < 6 → k0 = some r → Ai l b d y Ks G K2 I (pc + 1) lv (.int (iv (mostZ i.toNat)) :: st)) : Ai l b d y Ks G K2 I pc lv (.int (iv i) :: .ref 1002 :: st) :=
  aw_ialdM (iv_vp hi (of_zg h).1) (iv_clamp hi) hd (aw_top (iv_of _).symm (kk (of_zg h).1 (of_zg h).2))
theorem ai_copy {idx o1 o0 n0' n1' : Nat} {sp dp n N0 N1 : Int} {k0 : IMem → Res} (g1 : Cond.methodLink y.1.cls idx arraycopyName ∈ TW) (g2 : Cond.native arraycopyName ∈ TW) (g3 : Cond.static arraycopyName ∈ TW) (g4 : Cond.initialized "java/lang/System" ∈ TW) (ho0 : Ks[o0]? = some (0, n0')) (ho1 : Ks[o1]? = some (0, n1')) (e0 : N0 = (n0' : Int)) (e1 : N1 = (n1' : Int)) (h1 : inr sp) (h2 : inr dp) (h3 : inr n) (hI : RG I) (hd1 : 1 ≤ d) (hw : Nat.ble ((st.map fun v => v.category).sum) 8 = true)
    (h : zg (0 ≤ sp ∧ 0 ≤ dp ∧ 0 ≤ n ∧ sp + n ≤ N0 ∧ dp + n ≤ N1) (zc I o0 sp o1 dp n k0) = some r) (hd : decode y.2.1 pc = .ok (.invokestatic idx, 3))
    (kk : ∀ I1, RG I1 → k0 I1 = some r → Ai l b d y Ks G K2 I1 (pc + 3) lv st) : Ai l b d y Ks G K2 I pc lv (.int (iv n) :: .int (iv dp) :: .ref o1 :: .int (iv sp) :: .ref o0 :: st) := by
  obtain ⟨⟨q1, q2, q3, q4, q5⟩, hf⟩ := of_zg h
  have nn : ∀ {z : Int}, inr z → 0 ≤ z → ¬ iv z < 0 := fun {z} hz h0 e => by
    have : iv z < iv 0 := e
    rw [iv_lt hz in_0] at this
    omega
  refine aw_copy g1 g2 g3 g4 ho0 ho1 (nn h1 q1) (nn h2 q2) (nn h3 q3) (by rw [iv_clamp h1, iv_clamp h3]; omega) (by rw [iv_clamp h2, iv_clamp h3]; omega) ⟨hd1, by show 40 ≤ 40 * d; omega⟩ (Nat.le_of_ble_eq_true hw) hd ?_
  rw [iv_clamp h1, iv_clamp h2, iv_clamp h3, ← ivm_cpy]
  exact kk _ hI.cpy hf
-- ends
theorem ai_reti {v : Int} (hy : y.2.2.2 = some .int) (hd : decode y.2.1 pc = .ok (.ireturn, 1)) (h : zr v I = some r) (hv : inr v) (hI : RG I) : Ai l b d y Ks G (Ps r) I pc lv [.int (iv v)] := by
  cases h
  exact as_reti hy hd ⟨rfl, rfl, hv, hI⟩
theorem ai_retn {v : Int} {ty : FieldType} (hy : y.2.2.2 = some ty) (hn : narrow ty (.int (iv v)) = .int (iv v)) (hd : decode y.2.1 pc = .ok (.ireturn, 1)) (h : zr v I = some r) (hv : inr v) (hI : RG I) : Ai l b d y Ks G (Ps r) I pc lv [.int (iv v)] := by
  cases h
  exact as_ret (v := some (.int (iv v))) ⟨⟨_, hy, hn⟩, hd⟩ ⟨rfl, rfl, hv, hI⟩
theorem ai_retv (hy : y.2.2.2 = none) (hd : decode y.2.1 pc = .ok (.return_, 1)) (h : zr 0 I = some r) (hI : RG I) : Ai l b d y Ks G (Pv r) I pc lv [] := by
  cases h
  exact as_retv hy hd ⟨rfl, rfl, hI⟩
theorem ai_reta {x : Nat} {C : String} {t : Nat × Nat} (hy : y.2.2.2 = some (.object C)) (hd : decode y.2.1 pc = .ok (.areturn, 1)) (ht : Ks[x]? = some t) (h : zr (x : Int) I = some r) (hI : RG I) : Ai l b d y Ks G (Pr Ks t r) I pc lv [.ref x] := by
  cases h
  exact as_reta hy hd ⟨rfl, rfl, ht, hI⟩
-- calls
theorem ai_callV {y' : MI} {as : List Value} {idx o ci nf n d' : Nat} {q : vw_C} {v1 : Int} {I1 : IMem} (hm : MOk y' n) (hlk : LkV y.1.cls idx y') (ho : Ks[o]? = some (ci + 3, nf)) (hc : clsT[ci]? = some q) (hq : q.1 = y'.1.cls) (hn : as.length = n) (hR : RoomOk (rmm d 0 0) (rmm d' 0 0) y') (hw : Nat.ble ((st.map fun v => v.category).sum) 8 = true) (hcat : as.all (fun v => v.category == 1) = true) (hle : n + 1 ≤ y'.2.2.1)
    (hd : decode y.2.1 pc = .ok (.invokevirtual idx, 3)) (hs : Ss l b d' y' Ks G (.ref o :: as) (ivm I) (Ps (v1, I1))) (kk : inr v1 → RG I1 → Ai l b d y Ks G K2 I1 (pc + 3) lv (.int (iv v1) :: st)) : Ai l b d y Ks G K2 I pc lv (as.reverse ++ .ref o :: st) :=
  as_callV hm hlk ho hc hq hn hR hw hcat hle hd (hs.mono (fun v I' ⟨e1, e2, e3, e4⟩ => by subst e1; subst e2; exact kk e3 e4))
theorem ai_callVv {y' : MI} {as : List Value} {idx o ci nf n d' : Nat} {q : vw_C} {v1 : Int} {I1 : IMem} (hm : MOk y' n) (hlk : LkV y.1.cls idx y') (ho : Ks[o]? = some (ci + 3, nf)) (hc : clsT[ci]? = some q) (hq : q.1 = y'.1.cls) (hn : as.length = n) (hR : RoomOk (rmm d 0 0) (rmm d' 0 0) y') (hw : Nat.ble ((st.map fun v => v.category).sum) 8 = true) (hcat : as.all (fun v => v.category == 1) = true) (hle : n + 1 ≤ y'.2.2.1)
    (hd : decode y.2.1 pc = .ok (.invokevirtual idx, 3)) (hs : Ss l b d' y' Ks G (.ref o :: as) (ivm I) (Pv (v1, I1))) (kk : RG I1 → Ai l b d y Ks G K2 I1 (pc + 3) lv st) : Ai l b d y Ks G K2 I pc lv (as.reverse ++ .ref o :: st) :=
  as_callV hm hlk ho hc hq hn hR hw hcat hle hd (hs.mono (fun v I' ⟨e1, e2, e3⟩ => by subst e1; subst e2; exact kk e3))
theorem ai_callVr {y' : MI} {as : List Value} {idx o ci nf n d' : Nat} {q : vw_C} {t : Nat × Nat} {v1 : Int} {I1 : IMem} (hm : MOk y' n) (hlk : LkV y.1.cls idx y') (ho : Ks[o]? = some (ci + 3, nf)) (hc : clsT[ci]? = some q) (hq : q.1 = y'.1.cls) (hn : as.length = n) (hR : RoomOk (rmm d 0 0) (rmm d' 0 0) y') (hw : Nat.ble ((st.map fun v => v.category).sum) 8 = true) (hcat : as.all (fun v => v.category == 1) = true) (hle : n + 1 ≤ y'.2.2.1)
    (hd : decode y.2.1 pc = .ok (.invokevirtual idx, 3)) (hs : Ss l b d' y' Ks G (.ref o :: as) (ivm I) (Pr Ks t (v1, I1))) (kk : Ks[v1.toNat]? = some t → RG I1 → Ai l b d y Ks G K2 I1 (pc + 3) lv (.ref v1.toNat :: st)) : Ai l b d y Ks G K2 I pc lv (as.reverse ++ .ref o :: st) :=
  as_callV hm hlk ho hc hq hn hR hw hcat hle hd (hs.mono (fun v I' ⟨e1, e2, e3, e4⟩ => by subst e1; subst e2; exact kk e3 e4))
theorem ai_callS {y' : MI} {as : List Value} {idx n d' : Nat} {v1 : Int} {I1 : IMem} (hm : MOk y' n) (hlk : LkS y.1.cls idx y') (hn : as.length = n) (hR : RoomOk (rmm d 0 0) (rmm d' 0 0) y') (hw : Nat.ble ((st.map fun v => v.category).sum) 8 = true) (hcat : as.all (fun v => v.category == 1) = true) (hle : n ≤ y'.2.2.1)
    (hd : decode y.2.1 pc = .ok (.invokestatic idx, 3)) (hs : Ss l b d' y' Ks G as (ivm I) (Ps (v1, I1))) (kk : inr v1 → RG I1 → Ai l b d y Ks G K2 I1 (pc + 3) lv (.int (iv v1) :: st)) : Ai l b d y Ks G K2 I pc lv (as.reverse ++ st) :=
  as_callS hm hlk hn hR hw hcat hle hd (hs.mono (fun v I' ⟨e1, e2, e3, e4⟩ => by subst e1; subst e2; exact kk e3 e4))
theorem ai_callSv {y' : MI} {as : List Value} {idx n d' : Nat} {v1 : Int} {I1 : IMem} (hm : MOk y' n) (hlk : LkS y.1.cls idx y') (hn : as.length = n) (hR : RoomOk (rmm d 0 0) (rmm d' 0 0) y') (hw : Nat.ble ((st.map fun v => v.category).sum) 8 = true) (hcat : as.all (fun v => v.category == 1) = true) (hle : n ≤ y'.2.2.1)
    (hd : decode y.2.1 pc = .ok (.invokestatic idx, 3)) (hs : Ss l b d' y' Ks G as (ivm I) (Pv (v1, I1))) (kk : RG I1 → Ai l b d y Ks G K2 I1 (pc + 3) lv st) : Ai l b d y Ks G K2 I pc lv (as.reverse ++ st) :=
  as_callS hm hlk hn hR hw hcat hle hd (hs.mono (fun v I' ⟨e1, e2, e3⟩ => by subst e1; subst e2; exact kk e3))
theorem ai_mean {a c : Int} {idx : Nat} {k0 : Res} (ha : inr a) (hc : inr c) (hw : Cond.constantLong y.1.cls idx 100 ∈ TW) : True := trivial
end AIR
