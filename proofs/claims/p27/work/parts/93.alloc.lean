/-! ALLOC: rows for a constructor, whose run is known from the start: the objects' list, the writes of ints, the writes of references -/
def ISx (w : List (Nat × Nat × Int32)) : Nat → Nat → Nat → Int32
  | 0 => fun _ _ => 0
  | k + 1 => match w[k]? with
    | some x => upd2 (ISx w k) x.1 x.2.1 x.2.2
    | none => ISx w k
def GSx (w : List (Nat × Nat × Nat)) : Nat → Nat → Nat → Option Nat
  | 0 => fun _ _ => none
  | k + 1 => match w[k]? with
    | some x => updR (GSx w k) x.1 x.2.1 (some x.2.2)
    | none => GSx w k
def zI (w : List (Nat × Nat × Int32)) (n : Nat) : Nat → Bool
  | 0 => true
  | k + 1 => (match w[k]? with
    | some x => Nat.blt x.1 n
    | none => true) && zI w n k
def zG (w : List (Nat × Nat × Nat)) (n : Nat) : Nat → Bool
  | 0 => true
  | k + 1 => (match w[k]? with
    | some x => Nat.blt x.1 n
    | none => true) && zG w n k
theorem IS_s {w : List (Nat × Nat × Int32)} {k o j : Nat} {x : Int32} (h : w[k]? = some (o, j, x)) : upd2 (ISx w k) o j x = ISx w (k + 1) := by
  show _ = (match w[k]? with
    | some x => upd2 (ISx w k) x.1 x.2.1 x.2.2
    | none => ISx w k)
  rw [h]
theorem GS_s {w : List (Nat × Nat × Nat)} {k o j r : Nat} (h : w[k]? = some (o, j, r)) : updR (GSx w k) o j (some r) = GSx w (k + 1) := by
  show _ = (match w[k]? with
    | some x => updR (GSx w k) x.1 x.2.1 (some x.2.2)
    | none => GSx w k)
  rw [h]
theorem zI_ok {w : List (Nat × Nat × Int32)} {n : Nat} : ∀ {k : Nat}, zI w n k = true → ∀ o, n ≤ o → ∀ j, ISx w k o j = 0 := by
  intro k
  induction k with
  | zero => intro _ o _ j; rfl
  | succ k ih =>
    intro h o ho j
    have h1 := (Bool.and_eq_true _ _).mp h
    have h2 := ih h1.2 o ho j
    show (match w[k]? with
      | some x => upd2 (ISx w k) x.1 x.2.1 x.2.2
      | none => ISx w k) o j = 0
    cases hk : w[k]? with
    | none => exact h2
    | some x =>
      have h3 := h1.1
      rw [hk] at h3
      have h4 : x.1 < n := Nat.blt_eq.mp h3
      show upd2 (ISx w k) x.1 x.2.1 x.2.2 o j = 0
      unfold upd2
      rw [if_neg (by omega)]
      exact h2
theorem zG_ok {w : List (Nat × Nat × Nat)} {n : Nat} : ∀ {k : Nat}, zG w n k = true → ∀ o, n ≤ o → ∀ j, GSx w k o j = none := by
  intro k
  induction k with
  | zero => intro _ o _ j; rfl
  | succ k ih =>
    intro h o ho j
    have h1 := (Bool.and_eq_true _ _).mp h
    have h2 := ih h1.2 o ho j
    show (match w[k]? with
      | some x => updR (GSx w k) x.1 x.2.1 (some x.2.2)
      | none => GSx w k) o j = none
    cases hk : w[k]? with
    | none => exact h2
    | some x =>
      have h3 := h1.1
      rw [hk] at h3
      have h4 : x.1 < n := Nat.blt_eq.mp h3
      show updR (GSx w k) x.1 x.2.1 (some x.2.2) o j = none
      unfold updR
      rw [if_neg (by omega)]
      exact h2
/-- no reference lies beyond place c of an object -/
theorem GS_col {w : List (Nat × Nat × Nat)} {c : Nat} (h : ∀ x ∈ w, x.2.1 < c) : ∀ (k o j : Nat), c ≤ j → GSx w k o j = none := by
  intro k
  induction k with
  | zero => intro o j _; rfl
  | succ k ih =>
    intro o j hj
    show (match w[k]? with
      | some x => updR (GSx w k) x.1 x.2.1 (some x.2.2)
      | none => GSx w k) o j = none
    cases hk : w[k]? with
    | none => exact ih o j hj
    | some x =>
      have h4 : x.2.1 < c := h x (List.mem_of_getElem? hk)
      show updR (GSx w k) x.1 x.2.1 (some x.2.2) o j = none
      unfold updR
      by_cases ho : o = x.1
      · rw [if_pos ho]
        show (if j = x.2.1 then some x.2.2 else GSx w k o j) = none
        rw [if_neg (by omega)]
        exact ih o j hj
      · rw [if_neg ho]
        exact ih o j hj
theorem tk_at {Q : List (Nat × Nat)} {n o : Nat} {x : Nat × Nat} (h : Q[o]? = some x) (hn : o < n) : (Q.take n)[o]? = some x := by
  rw [List.getElem?_take, if_pos hn]
  exact h
theorem tk_s {Q : List (Nat × Nat)} {n : Nat} {x : Nat × Nat} (h : Q[n]? = some x) : Q.take n ++ [x] = Q.take (n + 1) := by
  rw [List.take_succ, h]
  rfl
theorem tk_len {Q : List (Nat × Nat)} {n : Nat} {x : Nat × Nat} (h : Q[n]? = some x) : (Q.take n).length = n := by
  have h1 : n < Q.length := (List.getElem?_eq_some_iff.mp h).1
  rw [List.length_take]
  omega
section AMA
variable {l : Launch} {b : PB} {R : Room} {y : MI} {K : Kont} {lf sf : Nat} {m : Mem} {pc : Nat} {lv st : List Value} {Q : List (Nat × Nat)} {wi : List (Nat × Nat × Int32)} {wg : List (Nat × Nat × Nat)} {n k g : Nat}
theorem cw_new {idx ci N : Nat} {q : vw_C} (hc : clsT[ci]? = some q) (hN : q.2.2 = N) (g1 : Cond.classLink y.1.cls idx q.1 ∈ TW) (g2 : Cond.instantiable q.1 N ∈ TW) (g3 : Cond.initialized q.1 ∈ TW) (hq : Q[n]? = some (ci + 3, N)) (hz : zI wi n k = true) (hy : zG wg n g = true) (hg : gp b = 0) (hl1 : n + 1 ≤ lf) (hl2 : sl (Q.take n) + N ≤ sf) (hl3 : n + 1 < 1000) (hd : decode y.2.1 pc = .ok (.new idx, 3)) (kk : AW l b R y K lf sf (Q.take (n + 1), ISx wi k, GSx wg g) (pc + 3) lv (.ref n :: st)) : AW l b R y K lf sf (Q.take n, ISx wi k, GSx wg g) pc lv st := by
  have h1 := tk_len hq
  refine aw_new hc hN g1 g2 g3 (by rw [h1]; exact zI_ok hz n (Nat.le_refl n)) (by rw [h1]; exact zG_ok hy n (Nat.le_refl n)) hg (by rw [h1]; exact hl1) hl2 (by rw [h1]; exact hl3) hd ?_
  rw [tk_s hq, h1]
  exact kk
theorem cw_newa {N : Nat} {v : Int32} (tg : Nat) (at0 : ArrayType) (htg : (tg = 0 ∧ at0 = .int) ∨ (tg = 1 ∧ at0 = .boolean)) (hv : v = nI N) (hn : N < 1000000) (g1 : Cond.arrayClass (newarray.typeOf at0) ∈ TW) (hq : Q[n]? = some (tg, N)) (hz : zI wi n k = true) (hg : gp b = 0) (hl1 : n + 1 ≤ lf) (hl2 : sl (Q.take n) + N ≤ sf) (hl3 : n + 1 < 1000) (hd : decode y.2.1 pc = .ok (.newarray at0, 2)) (kk : AW l b R y K lf sf (Q.take (n + 1), ISx wi k, GSx wg g) (pc + 2) lv (.ref n :: st)) : AW l b R y K lf sf (Q.take n, ISx wi k, GSx wg g) pc lv (.int v :: st) := by
  have h1 := tk_len hq
  refine aw_newa tg at0 htg hv hn g1 (by rw [h1]; exact zI_ok hz n (Nat.le_refl n)) hg (by rw [h1]; exact hl1) hl2 (by rw [h1]; exact hl3) hd ?_
  rw [tk_s hq, h1]
  exact kk
theorem cw_newq {N idx : Nat} {v : Int32} (hv : v = nI N) (hn : N < 1000000) (g1 : Cond.classLink y.1.cls idx "SinglesUp$Law" ∈ TW) (hq : Q[n]? = some (2, N)) (hy : zG wg n g = true) (hg : gp b = 0) (hl1 : n + 1 ≤ lf) (hl2 : sl (Q.take n) + N ≤ sf) (hl3 : n + 1 < 1000) (hd : decode y.2.1 pc = .ok (.anewarray idx, 3)) (kk : AW l b R y K lf sf (Q.take (n + 1), ISx wi k, GSx wg g) (pc + 3) lv (.ref n :: st)) : AW l b R y K lf sf (Q.take n, ISx wi k, GSx wg g) pc lv (.int v :: st) := by
  have h1 := tk_len hq
  refine aw_newq hv hn g1 (by rw [h1]; exact zG_ok hy n (Nat.le_refl n)) hg (by rw [h1]; exact hl1) hl2 (by rw [h1]; exact hl3) hd ?_
  rw [tk_s hq, h1]
  exact kk
theorem cw_I {Ks : List (Nat × Nat)} {G : Nat → Nat → Option Nat} {o j : Nat} {x : Int32} (h : wi[k]? = some (o, j, x)) (kk : AW l b R y K lf sf (Ks, ISx wi (k + 1), G) pc lv st) : AW l b R y K lf sf (Ks, upd2 (ISx wi k) o j x, G) pc lv st := by
  rw [IS_s h]
  exact kk
theorem cw_G {Ks : List (Nat × Nat)} {I : Nat → Nat → Int32} {o j r : Nat} (h : wg[g]? = some (o, j, r)) (kk : AW l b R y K lf sf (Ks, I, GSx wg (g + 1)) pc lv st) : AW l b R y K lf sf (Ks, I, updR (GSx wg g) o j (some r)) pc lv st := by
  rw [GS_s h]
  exact kk
theorem aw_retL {v : Option Value} (hK : lenOk b m.1.length → K v m) (hr : RetAt y pc v) (h1 : m.1.length ≤ lf) (h2 : sl m.1 ≤ sf) : AW l b R y K lf sf m pc lv v.toList := by
  intro p e s mm args below meth c Q n0 s0 C g1 g2 hF H locs cells slots ls hP hS hc hs hN hL
  exact aw_ret (hK hN.1) hr h1 h2 p e s mm args below meth c Q n0 s0 C g1 g2 hF H locs cells slots ls hP hS hc hs hN hL
/-- what is asked of a call that goes on in the caller -/
def goOn (l : Launch) (b : PB) (R : Room) (y : MI) (K : Kont) (lf sf pc2 : Nat) (lv st : List Value) (lf2 sf2 : Nat) : Kont := fun v m' => m'.1.length = lf2 ∧ sl m'.1 = sf2 ∧ lenOk b m'.1.length ∧ AW l b R y K lf sf m' pc2 lv (v.toList ++ st)
theorem cw_callI {y' : MI} {as : List Value} {idx o N d' lf2 sf2 : Nat} (mc ms : Nat) (hm : MOk y' N) (hlk : LkI y.1.cls idx y') (hn : as.length = N) (hR : RoomOk R (rmm d' mc ms) y') (hw : Nat.ble ((st.map fun v => v.category).sum) 8 = true) (hcat : as.all (fun v => v.category == 1) = true) (hle : N + 1 ≤ y'.2.2.1) (hg : gp b = 0) (hl : mc + m.1.length = lf2) (hs : ms + sl m.1 = sf2) (hcap : lf2 ≤ lf ∧ sf2 ≤ sf) (hd : decode y.2.1 pc = .ok (.invokespecial idx, 3))
    (kk : AW l b (rmm d' mc ms) y' (goOn l b R y K lf sf (pc + 3) lv st lf2 sf2) lf2 sf2 m 0 (padl y'.2.2.1 (.ref o :: as)) []) : AW l b R y K lf sf m pc lv (as.reverse ++ .ref o :: st) := by
  subst hl hs
  exact aw_callI (R' := rmm d' mc ms) hm hlk hn hR (Nat.le_of_ble_eq_true hw) (cat_all hcat) hle (Or.inl hg) hcap hd kk (fun v m' h => h)
theorem cw_callS {y' : MI} {as : List Value} {idx N d' lf2 sf2 : Nat} (mc ms : Nat) (hm : MOk y' N) (hlk : LkS y.1.cls idx y') (hn : as.length = N) (hR : RoomOk R (rmm d' mc ms) y') (hw : Nat.ble ((st.map fun v => v.category).sum) 8 = true) (hcat : as.all (fun v => v.category == 1) = true) (hle : N ≤ y'.2.2.1) (hg : gp b = 0) (hl : mc + m.1.length = lf2) (hs : ms + sl m.1 = sf2) (hcap : lf2 ≤ lf ∧ sf2 ≤ sf) (hd : decode y.2.1 pc = .ok (.invokestatic idx, 3))
    (kk : AW l b (rmm d' mc ms) y' (goOn l b R y K lf sf (pc + 3) lv st lf2 sf2) lf2 sf2 m 0 (padl y'.2.2.1 as) []) : AW l b R y K lf sf m pc lv (as.reverse ++ st) := by
  subst hl hs
  exact aw_callS (R' := rmm d' mc ms) hm hlk hn hR (Nat.le_of_ble_eq_true hw) (cat_all hcat) hle (Or.inl hg) hcap hd kk (fun v m' h => h)
/-- a call whose spec stands, in a graph that stays -/
theorem cw_callV {y' : MI} {as : List Value} {idx o ci nf N d' : Nat} {q : vw_C} {Ks : List (Nat × Nat)} {I : Nat → Nat → Int32} {G : Nat → Nat → Option Nat} (hm : MOk y' N) (hlk : LkV y.1.cls idx y') (ho : Ks[o]? = some (ci + 3, nf)) (hc : clsT[ci]? = some q) (hq : q.1 = y'.1.cls) (hn : as.length = N) (hR : RoomOk R (rmm d' 0 0) y') (hw : Nat.ble ((st.map fun v => v.category).sum) 8 = true) (hcat : as.all (fun v => v.category == 1) = true) (hle : N + 1 ≤ y'.2.2.1) (hg : gp b = 0) (hl1 : Ks.length ≤ lf) (hl2 : sl Ks ≤ sf) (hl3 : Ks.length < 1000)
    (hd : decode y.2.1 pc = .ok (.invokevirtual idx, 3)) (hs : Ss l b d' y' Ks G (.ref o :: as) I (fun v I' => AW l b R y K lf sf (Ks, I', G) (pc + 3) lv (v.toList ++ st))) : AW l b R y K lf sf (Ks, I, G) pc lv (as.reverse ++ .ref o :: st) :=
  aw_callV (R' := rmm d' 0 0) hm hlk hn ho hc hq hR (Nat.le_of_ble_eq_true hw) (cat_all hcat) hle (Or.inl hg) ⟨by show 0 + Ks.length ≤ lf; omega, by show 0 + sl Ks ≤ sf; omega⟩ hd hs (fun v m' ⟨I', e1, q1⟩ => by subst e1; exact ⟨(Nat.zero_add _).symm, (Nat.zero_add _).symm, ⟨hl3, Or.inl hg⟩, q1⟩)
theorem cw_retv {R' : Room} {y' : MI} {pc2 lf2 sf2 : Nat} {lv2 : List Value} (hr : y'.2.2.2 = none) (hd : decode y'.2.1 pc = .ok (.return_, 1)) (hl : m.1.length = lf2) (hs : sl m.1 = sf2) (kk : AW l b R y K lf sf m pc2 lv2 st) : AW l b R' y' (goOn l b R y K lf sf pc2 lv2 st lf2 sf2) lf2 sf2 m pc lv [] :=
  aw_retL (v := none) (fun h => ⟨hl, hs, h, kk⟩) ⟨hr, hd⟩ (Nat.le_of_eq hl) (Nat.le_of_eq hs)
end AMA
