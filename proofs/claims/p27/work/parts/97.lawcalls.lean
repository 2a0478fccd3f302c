/-! calls from the law's frame -/
theorem adr_bG (b : PB) (k : Nat) : adr (bG b) k = adr b k := rfl
theorem tau_bG (b : PB) (v : Value) : tau (bG b) v = tau b v := by cases v <;> rfl
theorem wl_bG (b : PB) (m : Mem) : wl (bG b) m = wl b m := by
  unfold wl
  congr 1
theorem Ab_bG {b : PB} (q : Nat) (h : Ab (bG b) q) (hc : ct b = 166) (hg : gp b = 0) : Ab b q := by
  obtain ⟨h1, h2⟩ := h
  have h1 : b.1 ≤ q := h1
  exact ⟨h1, by omega⟩
theorem Ab_bM {b : PB} (q : Nat) (h : Ab (bM b) q) (hc : ct b = 166) (hg : gp b = 0) : Ab b q := by
  obtain ⟨h1, h2⟩ := h
  have h1 : b.1 + 166 ≤ q := h1
  exact ⟨by omega, by omega⟩
/-- the cells of somebody else stay: from one heap to the next -/
theorem va_P_kept {b w : PB} {m : Mem} {H H1 : Heap} (hP : va_P b.2.2.1 clsT (wl w m) H) (hq : ∀ k, k < m.1.length → H1[adr w k]? = H[adr w k]?) : va_P b.2.2.1 clsT (wl w m) H1 :=
  hP.kept (fun k x hx => by
    obtain ⟨h1, h2⟩ := wl_inv hx
    rw [h2]
    exact hq k h1)
theorem EX.mono {b w : PB} {U : State} {H : Heap} (h : EX b U H) (h1 : w.2.1 = b.2.1) (h2 : scL w = scL b) (h3 : scX w = scX b) (hA : ∀ q, Ab w q → Ab b q) : EX w U H := by
  obtain ⟨e1, e2, e3, e4, e5, e6, e7, e8⟩ := h
  unfold EX SX at *
  rw [h1, h2, h3]
  exact ⟨e1.narrow hA, e2.narrow hA, e3.narrow hA, e4.narrow hA, e5, e6, fun q => e7 (hA _ q), e8.1.narrow hA, e8.2.1.narrow hA, e8.2.2.elim (fun q => Or.inl (q.narrow hA)) (fun q => Or.inr (q.narrow hA))⟩
theorem lw_run {p : Program} {l : Launch} {e : Env} {R : Room} {s : State} {mm : MethodId} {args : Array Value} {below : List Frame} {meth : Method} {c : Code} {H : Heap} {locs : List Loc} {cells slots mc ms pc : Nat} {Q : State → Prop} {b w : PB} {ls : Array Slot} {st0 rest : List Value} {a : Array Value} {K' : Kont}
    (hr : va_Run p l e R s mm args below meth c H locs cells slots mc ms (F0 mm pc ls st0) rest (QcA w K' a) (Ab w)) (hAb : ∀ q, Ab w q → Ab b q) (hS : va_S (Ab b) s.heap H locs)
    (k : ∀ (v : Option Value) (m' : Mem) (H1 : Heap) (locs1 : List Loc), K' v m' → va_P w.2.2.1 clsT (wl w m') H1 → H.size ≤ H1.size → (∀ q, q < H.size → ¬ Ab w q → H1[q]? = H[q]?) → va_S (Ab b) s.heap H1 locs1 → W p l e R s mm args below meth c H1 locs1 (cells + mc) (slots + ms) Q (F0 mm (pc + 3) ls ((v.map (tau w)).toList ++ rest))) : W p l e R s mm args below meth c H locs cells slots Q (F0 mm pc ls st0) := by
  intro T hT X
  obtain ⟨v, st₀, t, T', L, g0, X', hL', e1, e2, ⟨⟨v', m', hv, hK, hP'⟩, hF'⟩, stp⟩ := hr T hT X
  cases hv
  have hz : H.size ≤ T'.heap.size := by
    have := hF'.1
    rw [g0] at this
    rw [e1]
    exact this
  have hq : ∀ q, q < H.size → ¬ Ab w q → T'.heap[q]? = H[q]? := fun q q1 q2 => by
    rw [e1, hF'.2 q (by rw [g0]; exact q1) q2, g0]
  have hS' : va_S (Ab b) s.heap T'.heap (locs ++ L) := by
    refine ⟨Nat.le_trans hS.1 hz, fun q q1 q2 => ?_, fun q hq' => ?_⟩
    · rw [hq q (Nat.lt_of_lt_of_le q1 hS.1) (fun h => q2 (hAb q h))]
      exact hS.2.1 q q1 q2
    · rcases List.mem_append.mp hq' with h | h
      · exact hS.2.2 q h
      · exact hAb _ (hL' q h)
  obtain ⟨t2, a1, b1⟩ := k v' m' T'.heap (locs ++ L) hK (by rw [e1]; exact hP') hz hq hS' T' rfl X'
  exact ⟨t2, stp t2 a1, b1⟩
/-! the class's and the reference's methods, called by the law -/
section AMV
variable {l : Launch} {b : PB} {R : Room} {y : MI} {m1 m2 : Mem} {pc : Nat} {lv st : List Value}
theorem wl_last {w : PB} {D : va_G} {m : Mem} {H : Heap} {n : Nat} (hP : va_P D clsT (wl w m) H) (hn : m.1.length = n + 1) (h : n < 1000) : w.1 + n < H.size := by
  have hg : m.1[n]? = some (m.1[n]'(by omega)) := List.getElem?_eq_getElem (by omega)
  have h3 := (hP _ _ (wl_at w hg)).lt
  have h4 : adr w n < H.size := h3
  rw [adr_own h] at h4
  exact h4
theorem bw_callC {y' : MI} {as : List Value} {K' : Kont} {idx o ci nf n d' : Nat} {q : vw_C} (hg : gp b = 0) (hc0 : ct b = 166) (hl1 : m1.1.length = 166) (hl2 : m2.1.length = 26) (hm : MOk y' n) (hlk : LkV y.1.cls idx y') (hn : as.length = n) (ho : m1.1[o]? = some (ci + 3, nf)) (hc : clsT[ci]? = some q) (hq : q.1 = y'.1.cls) (hR : RoomOk R (rmm d' 0 0) y') (hw : (st.map fun v => v.category).sum ≤ 8) (hcat : ∀ v ∈ as, v.category = 1) (hle : n + 1 ≤ y'.2.2.1) (hb1 : m1.1.length + m2.1.length ≤ R.cells) (hb2 : sl m1.1 + sl m2.1 ≤ R.slots)
    (hd : decode y.2.1 pc = .ok (.invokevirtual idx, 3)) (hs : Sp l (bG b) (rmm d' 0 0) y' (.ref o :: as) m1 K')
    (hk : ∀ (v : Option Value) (m' : Mem), K' v m' → m'.1 = m1.1 ∧ BW l b R y m' m2 (pc + 3) lv (v.toList ++ st)) : BW l b R y m1 m2 pc lv (as.reverse ++ .ref o :: st) := by
  intro p e s mm args below meth c Q C hF H locs cells slots ls hP hP2 hS hcl hsl hL
  refine W.szi (fun hsz => ?_)
  have hz0 : s.heap.size = b.1 + 0 + gp b := C.2.2.2.2.2.2
  have hz1 := wl_last (n := 25) hP2 hl2 (by decide)
  have hz1 : b.1 + 166 + 25 < H.size := hz1
  have hz : H.size = (bG b).1 + m1.1.length + gp (bG b) := by
    show H.size = b.1 + m1.1.length + 26
    omega
  have ht : tau (bG b) = tau b := funext (tau_bG b)
  have hcat' : ∀ v ∈ Value.ref o :: as, v.category = 1 := fun v hv => by
    rcases List.mem_cons.mp hv with rfl | hv
    · rfl
    · exact hcat v hv
  have hmet := hs.met (y := y') hm.1 hcat' (by show as.length + 1 ≤ _; omega) ⟨by omega, Or.inr (by show m1.1.length ≤ 166; omega)⟩
  have hts := C.1.2.2.2.2
  have hP' : va_P (bG b).2.2.1 clsT (wl (bG b) m1) H := by rw [wl_bG]; exact hP
  have hst : (as.reverse ++ Value.ref o :: st).map (tau b) = (as.map (tau (bG b))).reverse ++ .ref (adr (bG b) o) :: st.map (tau b) := by rw [ht, List.map_append, List.map_reverse]; rfl
  have he := wl_at (bG b) ho
  rw [ent_o] at he
  have hAb : ∀ q, Ab (bG b) q → Ab b q := fun q h => Ab_bG q h hc0 hg
  have hPc : ∀ U : State, U.heap = H → s.WarmedH U.vm → PcA (bG b) (.ref o :: as) m1 ((Value.ref o :: as).map (tau (bG b))).toArray U := fun U hU hW => ⟨rfl, TB.warm hW C.2.2.2.2.1, by
    rw [hU]
    exact ((EX.moved hW.alike C.2.2.2.2.2.1).kept hS.1 hS.2.1).mono rfl rfl rfl hAb, by rw [hU]; exact hP', by rw [hU]; exact hz⟩
  have hp : PreV s H y'.1.cls (adr (bG b) o) (PcA (bG b) (.ref o :: as) m1) (as.map (tau (bG b))) := ⟨PcA.blind (bG b) _ m1, by rw [← hq]; exact va_recv C.2.2.2.2.1.1 hP' hc he, hPc⟩
  have hfin : ∀ (v : Option Value) (m' : Mem) (H1 : Heap) (locs1 : List Loc), K' v m' → va_P (bG b).2.2.1 clsT (wl (bG b) m') H1 → H.size ≤ H1.size → (∀ q, q < H.size → ¬ Ab (bG b) q → H1[q]? = H[q]?) → va_S (Ab b) s.heap H1 locs1 → W p l e R s mm args below meth c H1 locs1 (cells + 0) (slots + 0) Q (F0 mm (pc + 3) ls ((v.map (tau (bG b))).toList ++ st.map (tau b))) := by
    intro v m' H1 locs1 hK hP3 h4 h5 h6
    obtain ⟨k1, k2⟩ := hk v m' hK
    have k3 := k2 p e s mm args below meth c Q C hF H1 locs1 (cells + 0) (slots + 0) ls (by rw [wl_bG] at hP3; exact hP3) (va_P_kept (b := b) hP2 (fun k hk' => h5 _ (by rw [adr_own (by omega)]; show b.1 + 166 + k < H.size; omega) (fun hA => by
      rw [adr_own (by omega)] at hA
      have hA2 : b.1 + 166 + k < b.1 + 166 ∨ b.1 + 166 + 26 ≤ b.1 + 166 + k := hA.2
      omega))) h6 (by rw [k1]; exact hcl) (by rw [k1]; exact hsl) hL
    rw [ht]
    cases v with
    | none => exact k3
    | some v => exact k3
  rcases hlk.2.2 with hlk2 | ⟨host, hlk2⟩
  · exact lw_run (w := bG b) (va_runV (As := as.map (tau (bG b))) (rest := st.map (tau b)) (n := n) C.1 hmet ⟨callB_of n hts (tw_cons hm.2.1) rfl rfl rfl (hts _ hm.2.2.1) (hts _ hlk2) hm.2.2.2 hR, hts _ hlk.1, hts _ hlk.2.1⟩ hp rfl (by rw [List.length_map]; exact hn) hL.1 hst (lv_room (by rw [cat_tau]; exact hw)) hd ⟨by show cells + 0 ≤ R.cells; omega, by show slots + 0 ≤ R.slots; omega⟩) hAb hS hfin
  · exact lw_run (w := bG b) (va_runVN (As := as.map (tau (bG b))) (rest := st.map (tau b)) (n := n) C.1 hmet ⟨va_cnB n hts (tw_cons hm.2.1) rfl rfl rfl (C.2.2.2.2.1.2.1 _ hlk2) (hts _ hm.2.2.1) hm.2.2.2 hR, hts _ hlk.1, hts _ hlk.2.1⟩ hp rfl (by rw [List.length_map]; exact hn) hL.1 hst (lv_room (by rw [cat_tau]; exact hw)) hd ⟨by show cells + 0 ≤ R.cells; omega, by show slots + 0 ≤ R.slots; omega⟩) hAb hS hfin
theorem bw_callM {y' : MI} {as : List Value} {K' : Kont} {idx ci nf n d' : Nat} {q : vw_C} (hg : gp b = 0) (hc0 : ct b = 166) (hl1 : m1.1.length = 166) (hl2 : m2.1.length = 26) (hm : MOk y' n) (hlk : LkV y.1.cls idx y') (hn : as.length = n) (ho : m2.1[0]? = some (ci + 3, nf)) (hAs : as.map (tau (bM b)) = as.map (tau b)) (hc : clsT[ci]? = some q) (hq : q.1 = y'.1.cls) (hR : RoomOk R (rmm d' 0 0) y') (hw : (st.map fun v => v.category).sum ≤ 8) (hcat : ∀ v ∈ as, v.category = 1) (hle : n + 1 ≤ y'.2.2.1) (hb1 : m1.1.length + m2.1.length ≤ R.cells) (hb2 : sl m1.1 + sl m2.1 ≤ R.slots)
    (hd : decode y.2.1 pc = .ok (.invokevirtual idx, 3)) (hnr : ∀ (r : Nat) (m' : Mem), K' (some (.ref r)) m' → some (Value.ref r) ≠ some (Value.ref r)) (hs : Sp l (bM b) (rmm d' 0 0) y' (.ref 0 :: as) m2 K')
    (hk : ∀ (v : Option Value) (m' : Mem), K' v m' → m'.1 = m2.1 ∧ BW l b R y m1 m' (pc + 3) lv (v.toList ++ st)) : BW l b R y m1 m2 pc lv (as.reverse ++ .ref 166 :: st) := by
  intro p e s mm args below meth c Q C hF H locs cells slots ls hP hP2 hS hcl hsl hL
  refine W.szi (fun hsz => ?_)
  have hz0 : s.heap.size = b.1 + 0 + gp b := C.2.2.2.2.2.2
  have hz1 := wl_last (n := 25) hP2 hl2 (by decide)
  have hz1 : b.1 + 166 + 25 < H.size := hz1
  have hz : H.size = (bM b).1 + m2.1.length + gp (bM b) := by
    show H.size = b.1 + 166 + m2.1.length + 0
    omega
  have hcat' : ∀ v ∈ Value.ref 0 :: as, v.category = 1 := fun v hv => by
    rcases List.mem_cons.mp hv with rfl | hv
    · rfl
    · exact hcat v hv
  have hmet := hs.met (y := y') hm.1 hcat' (by show as.length + 1 ≤ _; omega) ⟨by omega, Or.inl rfl⟩
  have hts := C.1.2.2.2.2
  have hP' : va_P (bM b).2.2.1 clsT (wl (bM b) m2) H := hP2
  have hst : (as.reverse ++ Value.ref 166 :: st).map (tau b) = (as.map (tau (bM b))).reverse ++ .ref (adr (bM b) 0) :: st.map (tau b) := by rw [hAs, List.map_append, List.map_reverse]; rfl
  have he := wl_at (bM b) ho
  rw [ent_o] at he
  have hAb : ∀ q, Ab (bM b) q → Ab b q := fun q h => Ab_bM q h hc0 hg
  have hPc : ∀ U : State, U.heap = H → s.WarmedH U.vm → PcA (bM b) (.ref 0 :: as) m2 ((Value.ref 0 :: as).map (tau (bM b))).toArray U := fun U hU hW => ⟨rfl, TB.warm hW C.2.2.2.2.1, by
    rw [hU]
    exact ((EX.moved hW.alike C.2.2.2.2.2.1).kept hS.1 hS.2.1).mono rfl rfl rfl hAb, by rw [hU]; exact hP', by rw [hU]; exact hz⟩
  have hp : PreV s H y'.1.cls (adr (bM b) 0) (PcA (bM b) (.ref 0 :: as) m2) (as.map (tau (bM b))) := ⟨PcA.blind (bM b) _ m2, by rw [← hq]; exact va_recv C.2.2.2.2.1.1 hP' hc he, hPc⟩
  have hfin : ∀ (v : Option Value) (m' : Mem) (H1 : Heap) (locs1 : List Loc), K' v m' → va_P (bM b).2.2.1 clsT (wl (bM b) m') H1 → H.size ≤ H1.size → (∀ q, q < H.size → ¬ Ab (bM b) q → H1[q]? = H[q]?) → va_S (Ab b) s.heap H1 locs1 → W p l e R s mm args below meth c H1 locs1 (cells + 0) (slots + 0) Q (F0 mm (pc + 3) ls ((v.map (tau (bM b))).toList ++ st.map (tau b))) := by
    intro v m' H1 locs1 hK hP3 h4 h5 h6
    obtain ⟨k1, k2⟩ := hk v m' hK
    have k3 := k2 p e s mm args below meth c Q C hF H1 locs1 (cells + 0) (slots + 0) ls (va_P_kept (b := b) hP (fun k hk' => h5 _ (by rw [adr_own (by omega)]; omega) (fun hA => by
      rw [adr_own (by omega)] at hA
      have hA2 : b.1 + 166 ≤ b.1 + k := hA.1
      omega))) hP3 h6 (by rw [k1]; exact hcl) (by rw [k1]; exact hsl) hL
    cases v with
    | none => exact k3
    | some v =>
      cases v with
      | ref r => exact absurd rfl (hnr r m' hK)
      | _ => exact k3
  rcases hlk.2.2 with hlk2 | ⟨host, hlk2⟩
  · exact lw_run (w := bM b) (va_runV (As := as.map (tau (bM b))) (rest := st.map (tau b)) (n := n) C.1 hmet ⟨callB_of n hts (tw_cons hm.2.1) rfl rfl rfl (hts _ hm.2.2.1) (hts _ hlk2) hm.2.2.2 hR, hts _ hlk.1, hts _ hlk.2.1⟩ hp rfl (by rw [List.length_map]; exact hn) hL.1 hst (lv_room (by rw [cat_tau]; exact hw)) hd ⟨by show cells + 0 ≤ R.cells; omega, by show slots + 0 ≤ R.slots; omega⟩) hAb hS hfin
  · exact lw_run (w := bM b) (va_runVN (As := as.map (tau (bM b))) (rest := st.map (tau b)) (n := n) C.1 hmet ⟨va_cnB n hts (tw_cons hm.2.1) rfl rfl rfl (C.2.2.2.2.1.2.1 _ hlk2) (hts _ hm.2.2.1) hm.2.2.2 hR, hts _ hlk.1, hts _ hlk.2.1⟩ hp rfl (by rw [List.length_map]; exact hn) hL.1 hst (lv_room (by rw [cat_tau]; exact hw)) hd ⟨by show cells + 0 ≤ R.cells; omega, by show slots + 0 ≤ R.slots; omega⟩) hAb hS hfin
end AMV
/-! the two objects made by the law -/
section AMW
variable {l : Launch} {b : PB} {R : Room} {y : MI} {m2 : Mem} {pc : Nat} {lv st : List Value}
theorem bw_new1 {idx ci N : Nat} {q : vw_C} {I : Nat → Nat → Int32} {G : Nat → Nat → Option Nat} (hc : clsT[ci]? = some q) (hN : q.2.2 = N) (g1 : Cond.classLink y.1.cls idx q.1 ∈ TW) (g2 : Cond.instantiable q.1 N ∈ TW) (g3 : Cond.initialized q.1 ∈ TW) (hI : ∀ j, I 0 j = 0) (hG : ∀ j, G 0 j = none) (hg : gp b = 0) (hl2 : m2.1 = []) (hR1 : 1 ≤ R.cells) (hR2 : N ≤ R.slots) (hd : decode y.2.1 pc = .ok (.new idx, 3))
    (kk : BW l b R y ([(ci + 3, N)], I, G) m2 (pc + 3) lv (.ref 0 :: st)) : BW l b R y ([], I, G) m2 pc lv st := by
  subst hN
  intro p e s mm args below meth c Q C hF H locs cells slots ls hP hP2 hS hcl hsl hL
  obtain ⟨CC, T, N⟩ := q
  have hcl : cells = 0 := by rw [hcl, hl2]; rfl
  have hsl : slots = 0 := by rw [hsl, hl2]; rfl
  have hz : s.heap.size = b.1 + 0 := by have := C.2.2.2.2.2.2; rw [hg] at this; exact this
  have hin := fun w hw' => cls_in ci _ hc w hw'
  have hD0 : va_D (Ab b) (wl b ([], I, G)) := wl_D b ⟨show 0 < 1000 by decide, Or.inl hg⟩
  refine va_new C.1.1 C.1.2.1 C.1.2.2.2.2 hin (fty ci) (cls_ty ci _ hc) C.1.2.2.2.1 (C.1.2.2.2.2 _ g1) (C.1.2.2.2.2 _ g2) (C.1.2.2.2.2 _ g3) C.2.2.2.2.1.1 hP hD0 hS (fun q hq => by unfold Ab; omega) hc (fs := (List.range N).map (fun j => if isRf ci j then va_rf ((G 0 j).map (adr b)) else .int (I 0 j))) (fun j hj => ?_) (by omega) (by show slots + N ≤ R.slots; have : N ≤ R.slots := hR2; omega) hd (fun q H1 hP1 hD1 hS1 => ?_)
  · have hdf := cls_df ci _ hc j hj
    unfold vp_V
    rw [List.getD_eq_getElem?_getD, List.getElem?_map, List.getElem?_range hj, hdf]
    simp only [Option.map_some, Option.getD_some]
    rw [hI, hG]
    rfl
  · refine W.szi (fun hsz => ?_)
    have hq := push_addr (Ks := []) (I := I) (G := G) hz (show cells + 0 = 0 by omega) (by decide) hP1 hD1 hsz
    subst hq
    have hw := wl_push b (Ks := []) (I := I) (G := G) (I' := I) (G' := G) (t := (ci + 3, N)) (e := ent b (ci + 3, N) (I 0) (G 0)) (fun _ _ => rfl) (fun _ _ => rfl) rfl
    have hP1 : va_P b.2.2.1 clsT (wl b ([] ++ [(ci + 3, N)], I, G)) H1 := hw ▸ hP1
    exact kk p e s mm args below meth c Q C hF H1 locs (cells + 1) (slots + N) ls hP1 (fun k x hx => by
      have h1 := (wl_inv hx).1
      rw [hl2] at h1
      exact absurd h1 (Nat.not_lt_zero k)) hS1 (by rw [hcl, hl2]; rfl) (by rw [hsl, hl2]; show 0 + N = (N + 0) + 0; omega) hL
theorem bw_new2 {idx ci N : Nat} {q : vw_C} {Ks : List (Nat × Nat)} {J : Nat → Nat → Int32} {GJ : Nat → Nat → Option Nat} {I : Nat → Nat → Int32} {G : Nat → Nat → Option Nat} (hc : clsT[ci]? = some q) (hN : q.2.2 = N) (g1 : Cond.classLink y.1.cls idx q.1 ∈ TW) (g2 : Cond.instantiable q.1 N ∈ TW) (g3 : Cond.initialized q.1 ∈ TW) (hI : ∀ j, I 0 j = 0) (hG : ∀ j, G 0 j = none) (hg : gp b = 0) (hl1 : Ks.length = 166) (hR1 : 167 ≤ R.cells) (hR2 : sl Ks + N ≤ R.slots) (hd : decode y.2.1 pc = .ok (.new idx, 3))
    (kk : BW l b R y (Ks, J, GJ) ([(ci + 3, N)], I, G) (pc + 3) lv (.ref 166 :: st)) : BW l b R y (Ks, J, GJ) ([], I, G) pc lv st := by
  subst hN
  intro p e s mm args below meth c Q C hF H locs cells slots ls hP hP2 hS hcl hsl hL
  obtain ⟨CC, T, N⟩ := q
  have hcl : cells = Ks.length + 0 := hcl
  have hsl : slots = sl Ks + 0 := hsl
  have hR2 : sl Ks + N ≤ R.slots := hR2
  have hz : s.heap.size = b.1 + 0 := by have := C.2.2.2.2.2.2; rw [hg] at this; exact this
  have hin := fun w hw' => cls_in ci _ hc w hw'
  have hD0 : va_D (Ab b) (wl b (Ks, J, GJ)) := wl_D b ⟨show Ks.length < 1000 by omega, Or.inl hg⟩
  refine va_new C.1.1 C.1.2.1 C.1.2.2.2.2 hin (fty ci) (cls_ty ci _ hc) C.1.2.2.2.1 (C.1.2.2.2.2 _ g1) (C.1.2.2.2.2 _ g2) (C.1.2.2.2.2 _ g3) C.2.2.2.2.1.1 hP hD0 hS (fun q hq => by unfold Ab; omega) hc (fs := (List.range N).map (fun j => if isRf ci j then va_rf ((G 0 j).map (adr (bM b))) else .int (I 0 j))) (fun j hj => ?_) (by omega) (by show slots + N ≤ R.slots; omega) hd (fun q H1 hP1 hD1 hS1 => ?_)
  · have hdf := cls_df ci _ hc j hj
    unfold vp_V
    rw [List.getD_eq_getElem?_getD, List.getElem?_map, List.getElem?_range hj, hdf]
    simp only [Option.map_some, Option.getD_some]
    rw [hI, hG]
    rfl
  · refine W.szi (fun hsz => ?_)
    have hq := push_addr (Ks := Ks) (I := J) (G := GJ) hz (show cells + 0 = Ks.length by omega) (by omega) hP1 hD1 hsz
    rw [hl1] at hq
    subst hq
    have hwl : (wl b (Ks, J, GJ)).length = 166 := by rw [wl_len]; exact hl1
    refine kk p e s mm args below meth c Q C hF H1 locs (cells + 1) (slots + N) ls (fun k x hx => hP1 k x ?_) (fun k x hx => ?_) hS1 (by show cells + 1 = Ks.length + 1; omega) (by show slots + N = sl Ks + (N + 0); omega) hL
    · have h1 : k < 166 := by rw [← hwl]; exact (List.getElem?_eq_some_iff.mp hx).1
      rw [List.getElem?_append_left (by omega)]
      exact hx
    · have h1 := (wl_inv hx).1
      have h1 : k < 1 := h1
      have h0 : k = 0 := by omega
      subst h0
      have h2 := wl_at (bM b) (m := ([(ci + 3, N)], I, G)) (o := 0) rfl
      rw [h2] at hx
      cases hx
      refine hP1 166 _ ?_
      rw [List.getElem?_append_right (by omega), hwl]
      rfl
end AMW
/-! the constructors, called by the law -/
section AMX
variable {l : Launch} {b : PB} {R : Room} {y : MI} {m1 m2 : Mem} {pc : Nat} {lv st : List Value}
theorem bw_init1 {y' : MI} {K' : Kont} {idx d' mc ms : Nat} (hg : gp b = 0) (hl1 : m1.1.length = 1) (hl2 : m2.1 = []) (hm : MOk y' 0) (hlk : LkI y.1.cls idx y') (hlk3 : Cond.methodLink y.1.cls idx y'.1 ∈ TW) (hR : RoomOk R (rmm d' mc ms) y') (hw : (st.map fun v => v.category).sum ≤ 8) (hle : 1 ≤ y'.2.2.1) (hb1 : 1 + mc ≤ R.cells) (hb2 : sl m1.1 + ms ≤ R.slots)
    (hd : decode y.2.1 pc = .ok (.invokespecial idx, 3)) (hs : Sp l b (rmm d' mc ms) y' [.ref 0] m1 K')
    (hk : ∀ (v : Option Value) (m' : Mem), K' v m' → v = none ∧ m'.1.length = 1 + mc ∧ sl m'.1 = sl m1.1 + ms ∧ BW l b R y m' m2 (pc + 3) lv st) : BW l b R y m1 m2 pc lv (.ref 0 :: st) := by
  intro p e s mm args below meth c Q C hF H locs cells slots ls hP hP2 hS hcl hsl hL
  have hcl : cells = 1 := by rw [hcl, hl1, hl2]; rfl
  have hsl : slots = sl m1.1 := by rw [hsl, hl2]; rfl
  refine W.szi (fun hsz => ?_)
  have hz0 : s.heap.size = b.1 + 0 + gp b := C.2.2.2.2.2.2
  have hz1 : b.1 + 0 < H.size := wl_last (n := 0) hP hl1 (by decide)
  have hz : H.size = b.1 + m1.1.length + gp b := by omega
  have hcat' : ∀ v ∈ [Value.ref 0], v.category = 1 := fun v hv => by
    rcases List.mem_cons.mp hv with rfl | hv
    · rfl
    · cases hv
  have hmet := hs.met (y := y') hm.1 hcat' hle ⟨by omega, Or.inl hg⟩
  have hts := C.1.2.2.2.2
  have hPc : ∀ U : State, U.heap = H → s.WarmedH U.vm → PcA b [.ref 0] m1 (([Value.ref 0]).map (tau b)).toArray U := fun U hU hW => ⟨rfl, TB.warm hW C.2.2.2.2.1, by
    rw [hU]
    exact (EX.moved hW.alike C.2.2.2.2.2.1).kept hS.1 hS.2.1, by rw [hU]; exact hP, by rw [hU]; exact hz⟩
  have hfin : ∀ (v : Option Value) (m' : Mem) (H1 : Heap) (locs1 : List Loc), K' v m' → va_P b.2.2.1 clsT (wl b m') H1 → H.size ≤ H1.size → (∀ q, q < H.size → ¬ Ab b q → H1[q]? = H[q]?) → va_S (Ab b) s.heap H1 locs1 → W p l e R s mm args below meth c H1 locs1 (cells + mc) (slots + ms) Q (F0 mm (pc + 3) ls ((v.map (tau b)).toList ++ st.map (tau b))) := by
    intro v m' H1 locs1 hK hP3 h4 h5 h6
    obtain ⟨k0, k1, k2, k3⟩ := hk v m' hK
    subst k0
    exact k3 p e s mm args below meth c Q C hF H1 locs1 (cells + mc) (slots + ms) ls hP3 (fun k x hx => by
      have h1 := (wl_inv hx).1
      rw [hl2] at h1
      exact absurd h1 (Nat.not_lt_zero k)) h6 (by rw [k1, hl2, hcl]; rfl) (by rw [k2, hl2, hsl]; rfl) hL
  have hret : y'.2.2.2 = none := hlk.2.1
  have hcw : Cond.code y'.1 y'.2.1 y'.2.2.1 none ∈ TW := by rw [← hret]; exact hm.2.1
  exact lw_run (w := b) (va_runI (As := []) (rest := st.map (tau b)) (n := 0) C.1 hmet ⟨callB_of (bytes := y'.2.1) (maxL := y'.2.2.1) (ret := none) 0 hts (tw_cons hm.2.1) (by show Cond.code _ _ _ _ :: TW = _; rw [hret]) rfl rfl (hts _ hm.2.2.1) (hts _ hlk3) hm.2.2.2 hR, hlk.1, hts _ hlk.2.2.1⟩ ⟨PcA.blind b _ m1, hPc⟩ rfl rfl hL.1 rfl (lv_room (by rw [cat_tau]; exact hw)) hd ⟨by show cells + mc ≤ R.cells; omega, by show slots + ms ≤ R.slots; omega⟩) (fun q h => h) hS hfin
theorem bw_init2 {y' : MI} {K' : Kont} {idx d' mc ms : Nat} (hg : gp b = 0) (hc0 : ct b = 166) (hl1 : m1.1.length = 166) (hl2 : m2.1.length = 1) (hm : MOk y' 0) (hlk : LkI y.1.cls idx y') (hlk3 : Cond.methodLink y.1.cls idx y'.1 ∈ TW) (hR : RoomOk R (rmm d' mc ms) y') (hw : (st.map fun v => v.category).sum ≤ 8) (hle : 1 ≤ y'.2.2.1) (hb1 : 167 + mc ≤ R.cells) (hb2 : sl m1.1 + sl m2.1 + ms ≤ R.slots)
    (hd : decode y.2.1 pc = .ok (.invokespecial idx, 3)) (hs : Sp l (bM b) (rmm d' mc ms) y' [.ref 0] m2 K')
    (hk : ∀ (v : Option Value) (m' : Mem), K' v m' → v = none ∧ m'.1.length = 1 + mc ∧ sl m'.1 = sl m2.1 + ms ∧ BW l b R y m1 m' (pc + 3) lv st) : BW l b R y m1 m2 pc lv (.ref 166 :: st) := by
  intro p e s mm args below meth c Q C hF H locs cells slots ls hP hP2 hS hcl hsl hL
  have hcl : cells = 167 := by rw [hcl, hl1, hl2]
  have hsl : slots = sl m1.1 + sl m2.1 := hsl
  refine W.szi (fun hsz => ?_)
  have hz0 : s.heap.size = b.1 + 0 + gp b := C.2.2.2.2.2.2
  have hz1 : b.1 + 166 + 0 < H.size := wl_last (n := 0) hP2 hl2 (by decide)
  have hz : H.size = (bM b).1 + m2.1.length + gp (bM b) := by
    show H.size = b.1 + 166 + m2.1.length + 0
    omega
  have hAb : ∀ q, Ab (bM b) q → Ab b q := fun q h => Ab_bM q h hc0 hg
  have hcat' : ∀ v ∈ [Value.ref 0], v.category = 1 := fun v hv => by
    rcases List.mem_cons.mp hv with rfl | hv
    · rfl
    · cases hv
  have hmet := hs.met (y := y') hm.1 hcat' hle ⟨by omega, Or.inl rfl⟩
  have hts := C.1.2.2.2.2
  have hPc : ∀ U : State, U.heap = H → s.WarmedH U.vm → PcA (bM b) [.ref 0] m2 (([Value.ref 0]).map (tau (bM b))).toArray U := fun U hU hW => ⟨rfl, TB.warm hW C.2.2.2.2.1, by
    rw [hU]
    exact ((EX.moved hW.alike C.2.2.2.2.2.1).kept hS.1 hS.2.1).mono rfl rfl rfl hAb, by rw [hU]; exact hP2, by rw [hU]; exact hz⟩
  have hfin : ∀ (v : Option Value) (m' : Mem) (H1 : Heap) (locs1 : List Loc), K' v m' → va_P (bM b).2.2.1 clsT (wl (bM b) m') H1 → H.size ≤ H1.size → (∀ q, q < H.size → ¬ Ab (bM b) q → H1[q]? = H[q]?) → va_S (Ab b) s.heap H1 locs1 → W p l e R s mm args below meth c H1 locs1 (cells + mc) (slots + ms) Q (F0 mm (pc + 3) ls ((v.map (tau (bM b))).toList ++ st.map (tau b))) := by
    intro v m' H1 locs1 hK hP3 h4 h5 h6
    obtain ⟨k0, k1, k2, k3⟩ := hk v m' hK
    subst k0
    exact k3 p e s mm args below meth c Q C hF H1 locs1 (cells + mc) (slots + ms) ls (va_P_kept (b := b) hP (fun k hk' => h5 _ (by rw [adr_own (by omega)]; omega) (fun hA => by
      rw [adr_own (by omega)] at hA
      have hA2 : b.1 + 166 ≤ b.1 + k := hA.1
      omega))) hP3 h6 (by rw [k1, hcl, hl1]; omega) (by rw [k2, hsl]; omega) hL
  have hret : y'.2.2.2 = none := hlk.2.1
  have hcw : Cond.code y'.1 y'.2.1 y'.2.2.1 none ∈ TW := by rw [← hret]; exact hm.2.1
  exact lw_run (w := bM b) (va_runI (As := []) (rest := st.map (tau b)) (n := 0) C.1 hmet ⟨callB_of (bytes := y'.2.1) (maxL := y'.2.2.1) (ret := none) 0 hts (tw_cons hm.2.1) (by show Cond.code _ _ _ _ :: TW = _; rw [hret]) rfl rfl (hts _ hm.2.2.1) (hts _ hlk3) hm.2.2.2 hR, hlk.1, hts _ hlk.2.2.1⟩ ⟨PcA.blind (bM b) _ m2, hPc⟩ rfl rfl hL.1 rfl (lv_room (by rw [cat_tau]; exact hw)) hd ⟨by show cells + mc ≤ R.cells; omega, by show slots + ms ≤ R.slots; omega⟩) hAb hS hfin
end AMX
