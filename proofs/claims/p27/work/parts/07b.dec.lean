/-! decode, byte by byte -/
def GB (c : ByteArray) (p : Nat) : Option UInt8 := c.data.toList[p]?
theorem gb_lt {c : ByteArray} {p : Nat} {b : UInt8} (h : GB c p = some b) : ∃ h2 : p < c.size, c[p] = b := by
  obtain ⟨h1, h2⟩ := List.getElem?_eq_some_iff.mp h
  refine ⟨h1, ?_⟩
  rw [← h2]
  exact (Array.getElem_toList h1).symm
theorem rd_u1 {c : ByteArray} {p : Nat} {b : UInt8} (h : GB c p = some b) : (Reader.u1 : Decoder Nat) c p = .ok (b.toNat, p + 1) := by
  obtain ⟨h1, h2⟩ := gb_lt h
  have e : (Reader.u1 : Decoder Nat) c p = (if h : p < c.size then (do set (p + 1); pure c[p].toNat : Decoder Nat) else throw (HasTruncated.truncated p)) c p := rfl
  rw [e, dif_pos h1, h2]
  rfl
theorem bd {α β : Type} {r : Decoder α} {f : α → Decoder β} {c : ByteArray} {p q : Nat} {v : α} (h : r c p = .ok (v, q)) : (r >>= f) c p = f v c q := by
  have e : (r >>= f) c p = Except.bind (r c p) (fun x => f x.1 c x.2) := rfl
  rw [e, h]
  rfl
theorem rd_u2 {c : ByteArray} {p : Nat} {a b : UInt8} (h1 : GB c p = some a) (h2 : GB c (p + 1) = some b) : (Reader.u2 : Decoder Nat) c p = .ok (a.toNat * 256 + b.toNat, p + 1 + 1) :=
  (bd (f := fun hi => (do let lo ← Reader.u1; pure (hi * 256 + lo) : Decoder Nat)) (rd_u1 h1)).trans (bd (rd_u1 h2))
theorem rd_s1 {c : ByteArray} {p : Nat} {b : UInt8} (h : GB c p = some b) : (Reader.s1 : Decoder Int) c p = .ok (Reader.signed 8 b.toNat, p + 1) := by
  have e : (Reader.s1 : Decoder Int) c p = (Reader.u1 >>= fun x => pure (Reader.signed 8 x) : Decoder Int) c p := rfl
  rw [e]
  exact bd (rd_u1 h)
theorem rd_s2 {c : ByteArray} {p : Nat} {a b : UInt8} (h1 : GB c p = some a) (h2 : GB c (p + 1) = some b) : (Reader.s2 : Decoder Int) c p = .ok (Reader.signed 16 (a.toNat * 256 + b.toNat), p + 1 + 1) := by
  have e : (Reader.s2 : Decoder Int) c p = (Reader.u2 >>= fun x => pure (Reader.signed 16 x) : Decoder Int) c p := rfl
  rw [e]
  exact bd (rd_u2 h1 h2)
theorem dc {c : ByteArray} {p q n : Nat} {i : Instr} (h : Decoder.instr p c p = .ok (i, q)) (hn : q - p = n) : decode c p = .ok (i, n) := by
  have e : decode c p = Except.bind (Decoder.instr p c p) (fun x => .ok (x.1, x.2 - p)) := rfl
  rw [e, h, ← hn]
  rfl
theorem gk {l : List UInt8} {k t : Nat} {w : List UInt8} {b : UInt8} (h : (l.drop k).take 32 = w) (hb : w[t]? = some b) : l[k + t]? = some b := by
  rw [← h] at hb
  have h1 : t < 32 := by
    have := (List.getElem?_eq_some_iff.mp hb).1
    rw [List.length_take] at this
    omega
  rw [List.getElem?_take_of_lt h1, List.getElem?_drop] at hb
  exact hb
theorem op_iload_n0 {c : ByteArray} {p : Nat} (h0 : GB c p = some 26) : decode c p = .ok (.iload_n 0, 1) := dc ((bd (rd_u1 h0)).trans rfl) (by omega)
theorem op_aload_n0 {c : ByteArray} {p : Nat} (h0 : GB c p = some 42) : decode c p = .ok (.aload_n 0, 1) := dc ((bd (rd_u1 h0)).trans rfl) (by omega)
theorem op_istore_n0 {c : ByteArray} {p : Nat} (h0 : GB c p = some 59) : decode c p = .ok (.istore_n 0, 1) := dc ((bd (rd_u1 h0)).trans rfl) (by omega)
theorem op_astore_n0 {c : ByteArray} {p : Nat} (h0 : GB c p = some 75) : decode c p = .ok (.astore_n 0, 1) := dc ((bd (rd_u1 h0)).trans rfl) (by omega)
theorem op_iload_n1 {c : ByteArray} {p : Nat} (h0 : GB c p = some 27) : decode c p = .ok (.iload_n 1, 1) := dc ((bd (rd_u1 h0)).trans rfl) (by omega)
theorem op_aload_n1 {c : ByteArray} {p : Nat} (h0 : GB c p = some 43) : decode c p = .ok (.aload_n 1, 1) := dc ((bd (rd_u1 h0)).trans rfl) (by omega)
theorem op_istore_n1 {c : ByteArray} {p : Nat} (h0 : GB c p = some 60) : decode c p = .ok (.istore_n 1, 1) := dc ((bd (rd_u1 h0)).trans rfl) (by omega)
theorem op_astore_n1 {c : ByteArray} {p : Nat} (h0 : GB c p = some 76) : decode c p = .ok (.astore_n 1, 1) := dc ((bd (rd_u1 h0)).trans rfl) (by omega)
theorem op_iload_n2 {c : ByteArray} {p : Nat} (h0 : GB c p = some 28) : decode c p = .ok (.iload_n 2, 1) := dc ((bd (rd_u1 h0)).trans rfl) (by omega)
theorem op_aload_n2 {c : ByteArray} {p : Nat} (h0 : GB c p = some 44) : decode c p = .ok (.aload_n 2, 1) := dc ((bd (rd_u1 h0)).trans rfl) (by omega)
theorem op_istore_n2 {c : ByteArray} {p : Nat} (h0 : GB c p = some 61) : decode c p = .ok (.istore_n 2, 1) := dc ((bd (rd_u1 h0)).trans rfl) (by omega)
theorem op_astore_n2 {c : ByteArray} {p : Nat} (h0 : GB c p = some 77) : decode c p = .ok (.astore_n 2, 1) := dc ((bd (rd_u1 h0)).trans rfl) (by omega)
theorem op_iload_n3 {c : ByteArray} {p : Nat} (h0 : GB c p = some 29) : decode c p = .ok (.iload_n 3, 1) := dc ((bd (rd_u1 h0)).trans rfl) (by omega)
theorem op_aload_n3 {c : ByteArray} {p : Nat} (h0 : GB c p = some 45) : decode c p = .ok (.aload_n 3, 1) := dc ((bd (rd_u1 h0)).trans rfl) (by omega)
theorem op_istore_n3 {c : ByteArray} {p : Nat} (h0 : GB c p = some 62) : decode c p = .ok (.istore_n 3, 1) := dc ((bd (rd_u1 h0)).trans rfl) (by omega)
theorem op_astore_n3 {c : ByteArray} {p : Nat} (h0 : GB c p = some 78) : decode c p = .ok (.astore_n 3, 1) := dc ((bd (rd_u1 h0)).trans rfl) (by omega)
theorem op_iconstm1 {c : ByteArray} {p : Nat} (h0 : GB c p = some 2) : decode c p = .ok (.iconst (-1), 1) := dc ((bd (rd_u1 h0)).trans rfl) (by omega)
theorem op_iconst0 {c : ByteArray} {p : Nat} (h0 : GB c p = some 3) : decode c p = .ok (.iconst 0, 1) := dc ((bd (rd_u1 h0)).trans rfl) (by omega)
theorem op_iconst1 {c : ByteArray} {p : Nat} (h0 : GB c p = some 4) : decode c p = .ok (.iconst 1, 1) := dc ((bd (rd_u1 h0)).trans rfl) (by omega)
theorem op_iconst2 {c : ByteArray} {p : Nat} (h0 : GB c p = some 5) : decode c p = .ok (.iconst 2, 1) := dc ((bd (rd_u1 h0)).trans rfl) (by omega)
theorem op_iconst3 {c : ByteArray} {p : Nat} (h0 : GB c p = some 6) : decode c p = .ok (.iconst 3, 1) := dc ((bd (rd_u1 h0)).trans rfl) (by omega)
theorem op_iconst4 {c : ByteArray} {p : Nat} (h0 : GB c p = some 7) : decode c p = .ok (.iconst 4, 1) := dc ((bd (rd_u1 h0)).trans rfl) (by omega)
theorem op_iconst5 {c : ByteArray} {p : Nat} (h0 : GB c p = some 8) : decode c p = .ok (.iconst 5, 1) := dc ((bd (rd_u1 h0)).trans rfl) (by omega)
theorem op_iaload {c : ByteArray} {p : Nat} (h0 : GB c p = some 46) : decode c p = .ok (.iaload, 1) := dc ((bd (rd_u1 h0)).trans rfl) (by omega)
theorem op_aaload {c : ByteArray} {p : Nat} (h0 : GB c p = some 50) : decode c p = .ok (.aaload, 1) := dc ((bd (rd_u1 h0)).trans rfl) (by omega)
theorem op_baload {c : ByteArray} {p : Nat} (h0 : GB c p = some 51) : decode c p = .ok (.baload, 1) := dc ((bd (rd_u1 h0)).trans rfl) (by omega)
theorem op_iastore {c : ByteArray} {p : Nat} (h0 : GB c p = some 79) : decode c p = .ok (.iastore, 1) := dc ((bd (rd_u1 h0)).trans rfl) (by omega)
theorem op_aastore {c : ByteArray} {p : Nat} (h0 : GB c p = some 83) : decode c p = .ok (.aastore, 1) := dc ((bd (rd_u1 h0)).trans rfl) (by omega)
theorem op_bastore {c : ByteArray} {p : Nat} (h0 : GB c p = some 84) : decode c p = .ok (.bastore, 1) := dc ((bd (rd_u1 h0)).trans rfl) (by omega)
theorem op_pop {c : ByteArray} {p : Nat} (h0 : GB c p = some 87) : decode c p = .ok (.pop, 1) := dc ((bd (rd_u1 h0)).trans rfl) (by omega)
theorem op_dup {c : ByteArray} {p : Nat} (h0 : GB c p = some 89) : decode c p = .ok (.dup, 1) := dc ((bd (rd_u1 h0)).trans rfl) (by omega)
theorem op_dup2 {c : ByteArray} {p : Nat} (h0 : GB c p = some 92) : decode c p = .ok (.dup2, 1) := dc ((bd (rd_u1 h0)).trans rfl) (by omega)
theorem op_iadd {c : ByteArray} {p : Nat} (h0 : GB c p = some 96) : decode c p = .ok (.iadd, 1) := dc ((bd (rd_u1 h0)).trans rfl) (by omega)
theorem op_isub {c : ByteArray} {p : Nat} (h0 : GB c p = some 100) : decode c p = .ok (.isub, 1) := dc ((bd (rd_u1 h0)).trans rfl) (by omega)
theorem op_imul {c : ByteArray} {p : Nat} (h0 : GB c p = some 104) : decode c p = .ok (.imul, 1) := dc ((bd (rd_u1 h0)).trans rfl) (by omega)
theorem op_idiv {c : ByteArray} {p : Nat} (h0 : GB c p = some 108) : decode c p = .ok (.idiv, 1) := dc ((bd (rd_u1 h0)).trans rfl) (by omega)
theorem op_irem {c : ByteArray} {p : Nat} (h0 : GB c p = some 112) : decode c p = .ok (.irem, 1) := dc ((bd (rd_u1 h0)).trans rfl) (by omega)
theorem op_ishl {c : ByteArray} {p : Nat} (h0 : GB c p = some 120) : decode c p = .ok (.ishl, 1) := dc ((bd (rd_u1 h0)).trans rfl) (by omega)
theorem op_ishr {c : ByteArray} {p : Nat} (h0 : GB c p = some 122) : decode c p = .ok (.ishr, 1) := dc ((bd (rd_u1 h0)).trans rfl) (by omega)
theorem op_iushr {c : ByteArray} {p : Nat} (h0 : GB c p = some 124) : decode c p = .ok (.iushr, 1) := dc ((bd (rd_u1 h0)).trans rfl) (by omega)
theorem op_iand {c : ByteArray} {p : Nat} (h0 : GB c p = some 126) : decode c p = .ok (.iand, 1) := dc ((bd (rd_u1 h0)).trans rfl) (by omega)
theorem op_ior {c : ByteArray} {p : Nat} (h0 : GB c p = some 128) : decode c p = .ok (.ior, 1) := dc ((bd (rd_u1 h0)).trans rfl) (by omega)
theorem op_ixor {c : ByteArray} {p : Nat} (h0 : GB c p = some 130) : decode c p = .ok (.ixor, 1) := dc ((bd (rd_u1 h0)).trans rfl) (by omega)
theorem op_ireturn {c : ByteArray} {p : Nat} (h0 : GB c p = some 172) : decode c p = .ok (.ireturn, 1) := dc ((bd (rd_u1 h0)).trans rfl) (by omega)
theorem op_areturn {c : ByteArray} {p : Nat} (h0 : GB c p = some 176) : decode c p = .ok (.areturn, 1) := dc ((bd (rd_u1 h0)).trans rfl) (by omega)
theorem op_return_ {c : ByteArray} {p : Nat} (h0 : GB c p = some 177) : decode c p = .ok (.return_, 1) := dc ((bd (rd_u1 h0)).trans rfl) (by omega)
theorem op_arraylength {c : ByteArray} {p : Nat} (h0 : GB c p = some 190) : decode c p = .ok (.arraylength, 1) := dc ((bd (rd_u1 h0)).trans rfl) (by omega)
theorem op_bipush {c : ByteArray} {p : Nat} {a : UInt8} {n : Int} (h0 : GB c p = some 16) (h1 : GB c (p + 1) = some a) (hn : Reader.signed 8 a.toNat = n) : decode c p = .ok (.bipush n, 2) := by
  subst hn
  exact dc ((bd (rd_u1 h0)).trans (bd (f := fun x => (pure (.bipush x) : Decoder Instr)) (rd_s1 h1))) (by omega)
theorem op_sipush {c : ByteArray} {p : Nat} {a b : UInt8} {n : Int} (h0 : GB c p = some 17) (h1 : GB c (p + 1) = some a) (h2 : GB c (p + 2) = some b) (hn : Reader.signed 16 (a.toNat * 256 + b.toNat) = n) : decode c p = .ok (.sipush n, 3) := by
  subst hn
  exact dc ((bd (rd_u1 h0)).trans (bd (f := fun x => (pure (.sipush x) : Decoder Instr)) (rd_s2 h1 h2))) (by omega)
theorem op_goto {c : ByteArray} {p : Nat} {a b : UInt8} {n : Int} (h0 : GB c p = some 167) (h1 : GB c (p + 1) = some a) (h2 : GB c (p + 2) = some b) (hn : Reader.signed 16 (a.toNat * 256 + b.toNat) = n) : decode c p = .ok (.goto n, 3) := by
  subst hn
  exact dc ((bd (rd_u1 h0)).trans (bd (f := fun x => (pure (.goto x) : Decoder Instr)) (rd_s2 h1 h2))) (by omega)
theorem op_ldc {c : ByteArray} {p : Nat} {a : UInt8} {n : Nat} (h0 : GB c p = some 18) (h1 : GB c (p + 1) = some a) (hn : a.toNat = n) : decode c p = .ok (.ldc n, 2) := by
  subst hn
  exact dc ((bd (rd_u1 h0)).trans (bd (f := fun x => (pure (.ldc x) : Decoder Instr)) (rd_u1 h1))) (by omega)
theorem op_iload {c : ByteArray} {p : Nat} {a : UInt8} {n : Nat} (h0 : GB c p = some 21) (h1 : GB c (p + 1) = some a) (hn : a.toNat = n) : decode c p = .ok (.iload n, 2) := by
  subst hn
  exact dc ((bd (rd_u1 h0)).trans (bd (f := fun x => (pure (.iload x) : Decoder Instr)) (rd_u1 h1))) (by omega)
theorem op_aload {c : ByteArray} {p : Nat} {a : UInt8} {n : Nat} (h0 : GB c p = some 25) (h1 : GB c (p + 1) = some a) (hn : a.toNat = n) : decode c p = .ok (.aload n, 2) := by
  subst hn
  exact dc ((bd (rd_u1 h0)).trans (bd (f := fun x => (pure (.aload x) : Decoder Instr)) (rd_u1 h1))) (by omega)
theorem op_istore {c : ByteArray} {p : Nat} {a : UInt8} {n : Nat} (h0 : GB c p = some 54) (h1 : GB c (p + 1) = some a) (hn : a.toNat = n) : decode c p = .ok (.istore n, 2) := by
  subst hn
  exact dc ((bd (rd_u1 h0)).trans (bd (f := fun x => (pure (.istore x) : Decoder Instr)) (rd_u1 h1))) (by omega)
theorem op_astore {c : ByteArray} {p : Nat} {a : UInt8} {n : Nat} (h0 : GB c p = some 58) (h1 : GB c (p + 1) = some a) (hn : a.toNat = n) : decode c p = .ok (.astore n, 2) := by
  subst hn
  exact dc ((bd (rd_u1 h0)).trans (bd (f := fun x => (pure (.astore x) : Decoder Instr)) (rd_u1 h1))) (by omega)
theorem op_getstatic {c : ByteArray} {p : Nat} {a b : UInt8} {n : Nat} (h0 : GB c p = some 178) (h1 : GB c (p + 1) = some a) (h2 : GB c (p + 2) = some b) (hn : a.toNat * 256 + b.toNat = n) : decode c p = .ok (.getstatic n, 3) := by
  subst hn
  exact dc ((bd (rd_u1 h0)).trans (bd (f := fun x => (pure (.getstatic x) : Decoder Instr)) (rd_u2 h1 h2))) (by omega)
theorem op_putstatic {c : ByteArray} {p : Nat} {a b : UInt8} {n : Nat} (h0 : GB c p = some 179) (h1 : GB c (p + 1) = some a) (h2 : GB c (p + 2) = some b) (hn : a.toNat * 256 + b.toNat = n) : decode c p = .ok (.putstatic n, 3) := by
  subst hn
  exact dc ((bd (rd_u1 h0)).trans (bd (f := fun x => (pure (.putstatic x) : Decoder Instr)) (rd_u2 h1 h2))) (by omega)
theorem op_getfield {c : ByteArray} {p : Nat} {a b : UInt8} {n : Nat} (h0 : GB c p = some 180) (h1 : GB c (p + 1) = some a) (h2 : GB c (p + 2) = some b) (hn : a.toNat * 256 + b.toNat = n) : decode c p = .ok (.getfield n, 3) := by
  subst hn
  exact dc ((bd (rd_u1 h0)).trans (bd (f := fun x => (pure (.getfield x) : Decoder Instr)) (rd_u2 h1 h2))) (by omega)
theorem op_putfield {c : ByteArray} {p : Nat} {a b : UInt8} {n : Nat} (h0 : GB c p = some 181) (h1 : GB c (p + 1) = some a) (h2 : GB c (p + 2) = some b) (hn : a.toNat * 256 + b.toNat = n) : decode c p = .ok (.putfield n, 3) := by
  subst hn
  exact dc ((bd (rd_u1 h0)).trans (bd (f := fun x => (pure (.putfield x) : Decoder Instr)) (rd_u2 h1 h2))) (by omega)
theorem op_invokevirtual {c : ByteArray} {p : Nat} {a b : UInt8} {n : Nat} (h0 : GB c p = some 182) (h1 : GB c (p + 1) = some a) (h2 : GB c (p + 2) = some b) (hn : a.toNat * 256 + b.toNat = n) : decode c p = .ok (.invokevirtual n, 3) := by
  subst hn
  exact dc ((bd (rd_u1 h0)).trans (bd (f := fun x => (pure (.invokevirtual x) : Decoder Instr)) (rd_u2 h1 h2))) (by omega)
theorem op_invokespecial {c : ByteArray} {p : Nat} {a b : UInt8} {n : Nat} (h0 : GB c p = some 183) (h1 : GB c (p + 1) = some a) (h2 : GB c (p + 2) = some b) (hn : a.toNat * 256 + b.toNat = n) : decode c p = .ok (.invokespecial n, 3) := by
  subst hn
  exact dc ((bd (rd_u1 h0)).trans (bd (f := fun x => (pure (.invokespecial x) : Decoder Instr)) (rd_u2 h1 h2))) (by omega)
theorem op_invokestatic {c : ByteArray} {p : Nat} {a b : UInt8} {n : Nat} (h0 : GB c p = some 184) (h1 : GB c (p + 1) = some a) (h2 : GB c (p + 2) = some b) (hn : a.toNat * 256 + b.toNat = n) : decode c p = .ok (.invokestatic n, 3) := by
  subst hn
  exact dc ((bd (rd_u1 h0)).trans (bd (f := fun x => (pure (.invokestatic x) : Decoder Instr)) (rd_u2 h1 h2))) (by omega)
theorem op_new {c : ByteArray} {p : Nat} {a b : UInt8} {n : Nat} (h0 : GB c p = some 187) (h1 : GB c (p + 1) = some a) (h2 : GB c (p + 2) = some b) (hn : a.toNat * 256 + b.toNat = n) : decode c p = .ok (.new n, 3) := by
  subst hn
  exact dc ((bd (rd_u1 h0)).trans (bd (f := fun x => (pure (.new x) : Decoder Instr)) (rd_u2 h1 h2))) (by omega)
theorem op_anewarray {c : ByteArray} {p : Nat} {a b : UInt8} {n : Nat} (h0 : GB c p = some 189) (h1 : GB c (p + 1) = some a) (h2 : GB c (p + 2) = some b) (hn : a.toNat * 256 + b.toNat = n) : decode c p = .ok (.anewarray n, 3) := by
  subst hn
  exact dc ((bd (rd_u1 h0)).trans (bd (f := fun x => (pure (.anewarray x) : Decoder Instr)) (rd_u2 h1 h2))) (by omega)
theorem op_if_eq {c : ByteArray} {p : Nat} {a b : UInt8} {n : Int} (h0 : GB c p = some 153) (h1 : GB c (p + 1) = some a) (h2 : GB c (p + 2) = some b) (hn : Reader.signed 16 (a.toNat * 256 + b.toNat) = n) : decode c p = .ok (.ifCond .eq n, 3) := by
  subst hn
  exact dc ((bd (rd_u1 h0)).trans (bd (f := fun x => (pure (.ifCond .eq x) : Decoder Instr)) (rd_s2 h1 h2))) (by omega)
theorem op_if_ne {c : ByteArray} {p : Nat} {a b : UInt8} {n : Int} (h0 : GB c p = some 154) (h1 : GB c (p + 1) = some a) (h2 : GB c (p + 2) = some b) (hn : Reader.signed 16 (a.toNat * 256 + b.toNat) = n) : decode c p = .ok (.ifCond .ne n, 3) := by
  subst hn
  exact dc ((bd (rd_u1 h0)).trans (bd (f := fun x => (pure (.ifCond .ne x) : Decoder Instr)) (rd_s2 h1 h2))) (by omega)
theorem op_if_lt {c : ByteArray} {p : Nat} {a b : UInt8} {n : Int} (h0 : GB c p = some 155) (h1 : GB c (p + 1) = some a) (h2 : GB c (p + 2) = some b) (hn : Reader.signed 16 (a.toNat * 256 + b.toNat) = n) : decode c p = .ok (.ifCond .lt n, 3) := by
  subst hn
  exact dc ((bd (rd_u1 h0)).trans (bd (f := fun x => (pure (.ifCond .lt x) : Decoder Instr)) (rd_s2 h1 h2))) (by omega)
theorem op_if_ge {c : ByteArray} {p : Nat} {a b : UInt8} {n : Int} (h0 : GB c p = some 156) (h1 : GB c (p + 1) = some a) (h2 : GB c (p + 2) = some b) (hn : Reader.signed 16 (a.toNat * 256 + b.toNat) = n) : decode c p = .ok (.ifCond .ge n, 3) := by
  subst hn
  exact dc ((bd (rd_u1 h0)).trans (bd (f := fun x => (pure (.ifCond .ge x) : Decoder Instr)) (rd_s2 h1 h2))) (by omega)
theorem op_if_gt {c : ByteArray} {p : Nat} {a b : UInt8} {n : Int} (h0 : GB c p = some 157) (h1 : GB c (p + 1) = some a) (h2 : GB c (p + 2) = some b) (hn : Reader.signed 16 (a.toNat * 256 + b.toNat) = n) : decode c p = .ok (.ifCond .gt n, 3) := by
  subst hn
  exact dc ((bd (rd_u1 h0)).trans (bd (f := fun x => (pure (.ifCond .gt x) : Decoder Instr)) (rd_s2 h1 h2))) (by omega)
theorem op_if_le {c : ByteArray} {p : Nat} {a b : UInt8} {n : Int} (h0 : GB c p = some 158) (h1 : GB c (p + 1) = some a) (h2 : GB c (p + 2) = some b) (hn : Reader.signed 16 (a.toNat * 256 + b.toNat) = n) : decode c p = .ok (.ifCond .le n, 3) := by
  subst hn
  exact dc ((bd (rd_u1 h0)).trans (bd (f := fun x => (pure (.ifCond .le x) : Decoder Instr)) (rd_s2 h1 h2))) (by omega)
theorem op_icmp_eq {c : ByteArray} {p : Nat} {a b : UInt8} {n : Int} (h0 : GB c p = some 159) (h1 : GB c (p + 1) = some a) (h2 : GB c (p + 2) = some b) (hn : Reader.signed 16 (a.toNat * 256 + b.toNat) = n) : decode c p = .ok (.if_icmp .eq n, 3) := by
  subst hn
  exact dc ((bd (rd_u1 h0)).trans (bd (f := fun x => (pure (.if_icmp .eq x) : Decoder Instr)) (rd_s2 h1 h2))) (by omega)
theorem op_icmp_ne {c : ByteArray} {p : Nat} {a b : UInt8} {n : Int} (h0 : GB c p = some 160) (h1 : GB c (p + 1) = some a) (h2 : GB c (p + 2) = some b) (hn : Reader.signed 16 (a.toNat * 256 + b.toNat) = n) : decode c p = .ok (.if_icmp .ne n, 3) := by
  subst hn
  exact dc ((bd (rd_u1 h0)).trans (bd (f := fun x => (pure (.if_icmp .ne x) : Decoder Instr)) (rd_s2 h1 h2))) (by omega)
theorem op_icmp_lt {c : ByteArray} {p : Nat} {a b : UInt8} {n : Int} (h0 : GB c p = some 161) (h1 : GB c (p + 1) = some a) (h2 : GB c (p + 2) = some b) (hn : Reader.signed 16 (a.toNat * 256 + b.toNat) = n) : decode c p = .ok (.if_icmp .lt n, 3) := by
  subst hn
  exact dc ((bd (rd_u1 h0)).trans (bd (f := fun x => (pure (.if_icmp .lt x) : Decoder Instr)) (rd_s2 h1 h2))) (by omega)
theorem op_icmp_ge {c : ByteArray} {p : Nat} {a b : UInt8} {n : Int} (h0 : GB c p = some 162) (h1 : GB c (p + 1) = some a) (h2 : GB c (p + 2) = some b) (hn : Reader.signed 16 (a.toNat * 256 + b.toNat) = n) : decode c p = .ok (.if_icmp .ge n, 3) := by
  subst hn
  exact dc ((bd (rd_u1 h0)).trans (bd (f := fun x => (pure (.if_icmp .ge x) : Decoder Instr)) (rd_s2 h1 h2))) (by omega)
theorem op_icmp_gt {c : ByteArray} {p : Nat} {a b : UInt8} {n : Int} (h0 : GB c p = some 163) (h1 : GB c (p + 1) = some a) (h2 : GB c (p + 2) = some b) (hn : Reader.signed 16 (a.toNat * 256 + b.toNat) = n) : decode c p = .ok (.if_icmp .gt n, 3) := by
  subst hn
  exact dc ((bd (rd_u1 h0)).trans (bd (f := fun x => (pure (.if_icmp .gt x) : Decoder Instr)) (rd_s2 h1 h2))) (by omega)
theorem op_icmp_le {c : ByteArray} {p : Nat} {a b : UInt8} {n : Int} (h0 : GB c p = some 164) (h1 : GB c (p + 1) = some a) (h2 : GB c (p + 2) = some b) (hn : Reader.signed 16 (a.toNat * 256 + b.toNat) = n) : decode c p = .ok (.if_icmp .le n, 3) := by
  subst hn
  exact dc ((bd (rd_u1 h0)).trans (bd (f := fun x => (pure (.if_icmp .le x) : Decoder Instr)) (rd_s2 h1 h2))) (by omega)
theorem op_iinc {c : ByteArray} {p : Nat} {a b : UInt8} {n : Nat} {z : Int} (h0 : GB c p = some 132) (h1 : GB c (p + 1) = some a) (h2 : GB c (p + 2) = some b) (hn : a.toNat = n) (hz : Reader.signed 8 b.toNat = z) : decode c p = .ok (.iinc n z, 3) := by
  subst hn hz
  exact dc ((bd (rd_u1 h0)).trans ((bd (f := fun x => (do let y ← Reader.s1; pure (.iinc x y) : Decoder Instr)) (rd_u1 h1)).trans (bd (rd_s1 h2)))) (by omega)
