/-! the class's and the reference's methods, called by the law -/
section AMV
variable {l : Launch} {b : PB} {R : Room} {y : MI} {m1 m2 : Mem} {pc : Nat} {lv st : List Value}
theorem wl_last {w : PB} {D : va_G} {m : Mem} {H : Heap} {n : Nat} (hP : va_P D clsT (wl w m) H) (hn : m.1.length = n + 1) (h : n < 1000) : w.1 + n < H.size := by
  have hg : m.1[n]? = some (m.1[n]'(by omega)) := List.getElem?_eq_getElem (by omega)
  have h3 := (hP _ _ (wl_at w hg)).lt
  have h4 : adr w n < H.size := h3
  rw [adr_own h] at h4
  exact h4
theorem bw_callC {y' : MI} {as : List Value} {K' : Kont} {idx o ci nf n d' : Nat} {q : vw_C} (hg : gp b = 0) (hc0 : ct b = 166) (hl1 : m1.1.length = 166) (hl2 : m2.1.length = 26) (hm : MOk y' n) (hlk : LkV y.1.cls idx y') (hn : as.length = n) (ho : m1.1[o]? = some (ci + 3, nf)) (hc : clsT[ci]? = some q) (hq : q.1 = y'.1.cls) (hR : RoomOk R (rmm d' 0 0) y') (hw : (st.map fun v => v.category).sum ≤ 8) (hcat : ∀ v ∈ as, v.category = 1) (hle : n + 1 ≤ y'.2.2.1) (hb1 : m1.1.length + m2.1.length ≤ R.cells) (hb2 : sl m1.1 + sl m2.1 ≤ R.slots)
    (hd : decode y.2.1 pc = .ok (.invokevirtual idx, 3)) (hs : Sp l (bG b) (rmm d' 0 0) y' (.ref o :: as) m1 K')
    (hk : ∀ (v : Option Value) (m' : Mem), K' v m' → m'.1 = m1.1 ∧ BW l b R y m' m2 (pc + 3) lv (v.toList ++ st)) : BW l b R y m1 m2 pc lv (as.reverse ++ .ref o :: st) := by
  intro p e s mm args below meth c Q C hF H locs cells slots ls hP hP2 hS hcl hsl hL
  refine W.szi (fun hsz => ?_)
  have hz0 : s.heap.size = b.1 + 0 + gp b := C.2.2.2.2.2.2
  have hz1 := wl_last (n := 25) hP2 hl2 (by decide)
  have hz1 : b.1 + 166 + 25 < H.size := hz1
  have hz : H.size = (bG b).1 + m1.1.length + gp (bG b) := by
    show H.size = b.1 + m1.1.length + 26
    omega
  have ht : tau (bG b) = tau b := funext (tau_bG b)
  have hcat' : ∀ v ∈ Value.ref o :: as, v.category = 1 := fun v hv => by
    rcases List.mem_cons.mp hv with rfl | hv
    · rfl
    · exact hcat v hv
  have hmet := hs.met (y := y') hm.1 hcat' (by show as.length + 1 ≤ _; omega) ⟨by omega, Or.inr (by show m1.1.length ≤ 166; omega)⟩
  have hts := C.1.2.2.2.2
  have hP' : va_P (bG b).2.2.1 clsT (wl (bG b) m1) H := by rw [wl_bG]; exact hP
  have hst : (as.reverse ++ Value.ref o :: st).map (tau b) = (as.map (tau (bG b))).reverse ++ .ref (adr (bG b) o) :: st.map (tau b) := by rw [ht, List.map_append, List.map_reverse]; rfl
  have he := wl_at (bG b) ho
  rw [ent_o] at he
  have hAb : ∀ q, Ab (bG b) q → Ab b q := fun q h => Ab_bG q h hc0 hg
  have hPc : ∀ U : State, U.heap = H → s.WarmedH U.vm → PcA (bG b) (.ref o :: as) m1 ((Value.ref o :: as).map (tau (bG b))).toArray U := fun U hU hW => ⟨rfl, TB.warm hW C.2.2.2.2.1, by
    rw [hU]
    exact ((EX.moved hW.alike C.2.2.2.2.2.1).kept hS.1 hS.2.1).mono rfl rfl rfl hAb, by rw [hU]; exact hP', by rw [hU]; exact hz⟩
  have hp : PreV s H y'.1.cls (adr (bG b) o) (PcA (bG b) (.ref o :: as) m1) (as.map (tau (bG b))) := ⟨PcA.blind (bG b) _ m1, by rw [← hq]; exact va_recv C.2.2.2.2.1.1 hP' hc he, hPc⟩
  have hfin : ∀ (v : Option Value) (m' : Mem) (H1 : Heap) (locs1 : List Loc), K' v m' → va_P (bG b).2.2.1 clsT (wl (bG b) m') H1 → H.size ≤ H1.size → (∀ q, q < H.size → ¬ Ab (bG b) q → H1[q]? = H[q]?) → va_S (Ab b) s.heap H1 locs1 → W p l e R s mm args below meth c H1 locs1 (cells + 0) (slots + 0) Q (F0 mm (pc + 3) ls ((v.map (tau (bG b))).toList ++ st.map (tau b))) := by
    intro v m' H1 locs1 hK hP3 h4 h5 h6
    obtain ⟨k1, k2⟩ := hk v m' hK
    have k3 := k2 p e s mm args below meth c Q C hF H1 locs1 (cells + 0) (slots + 0) ls (by rw [wl_bG] at hP3; exact hP3) (va_P_kept (b := b) hP2 (fun k hk' => h5 _ (by rw [adr_own (by omega)]; show b.1 + 166 + k < H.size; omega) (fun hA => by
      rw [adr_own (by omega)] at hA
      have hA2 : b.1 + 166 + k < b.1 + 166 ∨ b.1 + 166 + 26 ≤ b.1 + 166 + k := hA.2
      omega))) h6 (by rw [k1]; exact hcl) (by rw [k1]; exact hsl) hL
    rw [ht]
    cases v with
    | none => exact k3
    | some v => exact k3
  rcases hlk.2.2 with hlk2 | ⟨host, hlk2⟩
  · exact lw_run (w := bG b) (va_runV (As := as.map (tau (bG b))) (rest := st.map (tau b)) (n := n) C.1 hmet ⟨callB_of n hts (tw_cons hm.2.1) rfl rfl rfl (hts _ hm.2.2.1) (hts _ hlk2) hm.2.2.2 hR, hts _ hlk.1, hts _ hlk.2.1⟩ hp rfl (by rw [List.length_map]; exact hn) hL.1 hst (lv_room (by rw [cat_tau]; exact hw)) hd ⟨by show cells + 0 ≤ R.cells; omega, by show slots + 0 ≤ R.slots; omega⟩) hAb hS hfin
  · exact lw_run (w := bG b) (va_runVN (As := as.map (tau (bG b))) (rest := st.map (tau b)) (n := n) C.1 hmet ⟨va_cnB n hts (tw_cons hm.2.1) rfl rfl rfl (C.2.2.2.2.1.2.1 _ hlk2) (hts _ hm.2.2.1) hm.2.2.2 hR, hts _ hlk.1, hts _ hlk.2.1⟩ hp rfl (by rw [List.length_map]; exact hn) hL.1 hst (lv_room (by rw [cat_tau]; exact hw)) hd ⟨by show cells + 0 ≤ R.cells; omega, by show slots + 0 ≤ R.slots; omega⟩) hAb hS hfin
theorem bw_callM {y' : MI} {as : List Value} {K' : Kont} {idx ci nf n d' : Nat} {q : vw_C} (hg : gp b = 0) (hc0 : ct b = 166) (hl1 : m1.1.length = 166) (hl2 : m2.1.length = 26) (hm : MOk y' n) (hlk : LkV y.1.cls idx y') (hn : as.length = n) (ho : m2.1[0]? = some (ci + 3, nf)) (hAs : as.map (tau (bM b)) = as.map (tau b)) (hc : clsT[ci]? = some q) (hq : q.1 = y'.1.cls) (hR : RoomOk R (rmm d' 0 0) y') (hw : (st.map fun v => v.category).sum ≤ 8) (hcat : ∀ v ∈ as, v.category = 1) (hle : n + 1 ≤ y'.2.2.1) (hb1 : m1.1.length + m2.1.length ≤ R.cells) (hb2 : sl m1.1 + sl m2.1 ≤ R.slots)
    (hd : decode y.2.1 pc = .ok (.invokevirtual idx, 3)) (hnr : ∀ (r : Nat) (m' : Mem), K' (some (.ref r)) m' → some (Value.ref r) ≠ some (Value.ref r)) (hs : Sp l (bM b) (rmm d' 0 0) y' (.ref 0 :: as) m2 K')
    (hk : ∀ (v : Option Value) (m' : Mem), K' v m' → m'.1 = m2.1 ∧ BW l b R y m1 m' (pc + 3) lv (v.toList ++ st)) : BW l b R y m1 m2 pc lv (as.reverse ++ .ref 166 :: st) := by
  intro p e s mm args below meth c Q C hF H locs cells slots ls hP hP2 hS hcl hsl hL
  refine W.szi (fun hsz => ?_)
  have hz0 : s.heap.size = b.1 + 0 + gp b := C.2.2.2.2.2.2
  have hz1 := wl_last (n := 25) hP2 hl2 (by decide)
  have hz1 : b.1 + 166 + 25 < H.size := hz1
  have hz : H.size = (bM b).1 + m2.1.length + gp (bM b) := by
    show H.size = b.1 + 166 + m2.1.length + 0
    omega
  have hcat' : ∀ v ∈ Value.ref 0 :: as, v.category = 1 := fun v hv => by
    rcases List.mem_cons.mp hv with rfl | hv
    · rfl
    · exact hcat v hv
  have hmet := hs.met (y := y') hm.1 hcat' (by show as.length + 1 ≤ _; omega) ⟨by omega, Or.inl rfl⟩
  have hts := C.1.2.2.2.2
  have hP' : va_P (bM b).2.2.1 clsT (wl (bM b) m2) H := hP2
  have hst : (as.reverse ++ Value.ref 166 :: st).map (tau b) = (as.map (tau (bM b))).reverse ++ .ref (adr (bM b) 0) :: st.map (tau b) := by rw [hAs, List.map_append, List.map_reverse]; rfl
  have he := wl_at (bM b) ho
  rw [ent_o] at he
  have hAb : ∀ q, Ab (bM b) q → Ab b q := fun q h => Ab_bM q h hc0 hg
  have hPc : ∀ U : State, U.heap = H → s.WarmedH U.vm → PcA (bM b) (.ref 0 :: as) m2 ((Value.ref 0 :: as).map (tau (bM b))).toArray U := fun U hU hW => ⟨rfl, TB.warm hW C.2.2.2.2.1, by
    rw [hU]
    exact ((EX.moved hW.alike C.2.2.2.2.2.1).kept hS.1 hS.2.1).mono rfl rfl rfl hAb, by rw [hU]; exact hP', by rw [hU]; exact hz⟩
  have hp : PreV s H y'.1.cls (adr (bM b) 0) (PcA (bM b) (.ref 0 :: as) m2) (as.map (tau (bM b))) := ⟨PcA.blind (bM b) _ m2, by rw [← hq]; exact va_recv C.2.2.2.2.1.1 hP' hc he, hPc⟩
  have hfin : ∀ (v : Option Value) (m' : Mem) (H1 : Heap) (locs1 : List Loc), K' v m' → va_P (bM b).2.2.1 clsT (wl (bM b) m') H1 → H.size ≤ H1.size → (∀ q, q < H.size → ¬ Ab (bM b) q → H1[q]? = H[q]?) → va_S (Ab b) s.heap H1 locs1 → W p l e R s mm args below meth c H1 locs1 (cells + 0) (slots + 0) Q (F0 mm (pc + 3) ls ((v.map (tau (bM b))).toList ++ st.map (tau b))) := by
    intro v m' H1 locs1 hK hP3 h4 h5 h6
    obtain ⟨k1, k2⟩ := hk v m' hK
    have k3 := k2 p e s mm args below meth c Q C hF H1 locs1 (cells + 0) (slots + 0) ls (va_P_kept (b := b) hP (fun k hk' => h5 _ (by rw [adr_own (by omega)]; omega) (fun hA => by
      rw [adr_own (by omega)] at hA
      have hA2 : b.1 + 166 ≤ b.1 + k := hA.1
      omega))) hP3 h6 (by rw [k1]; exact hcl) (by rw [k1]; exact hsl) hL
    cases v with
    | none => exact k3
    | some v =>
      cases v with
      | ref r => exact absurd rfl (hnr r m' hK)
      | _ => exact k3
  rcases hlk.2.2 with hlk2 | ⟨host, hlk2⟩
  · exact lw_run (w := bM b) (va_runV (As := as.map (tau (bM b))) (rest := st.map (tau b)) (n := n) C.1 hmet ⟨callB_of n hts (tw_cons hm.2.1) rfl rfl rfl (hts _ hm.2.2.1) (hts _ hlk2) hm.2.2.2 hR, hts _ hlk.1, hts _ hlk.2.1⟩ hp rfl (by rw [List.length_map]; exact hn) hL.1 hst (lv_room (by rw [cat_tau]; exact hw)) hd ⟨by show cells + 0 ≤ R.cells; omega, by show slots + 0 ≤ R.slots; omega⟩) hAb hS hfin
  · exact lw_run (w := bM b) (va_runVN (As := as.map (tau (bM b))) (rest := st.map (tau b)) (n := n) C.1 hmet ⟨va_cnB n hts (tw_cons hm.2.1) rfl rfl rfl (C.2.2.2.2.1.2.1 _ hlk2) (hts _ hm.2.2.1) hm.2.2.2 hR, hts _ hlk.1, hts _ hlk.2.1⟩ hp rfl (by rw [List.length_map]; exact hn) hL.1 hst (lv_room (by rw [cat_tau]; exact hw)) hd ⟨by show cells + 0 ≤ R.cells; omega, by show slots + 0 ≤ R.slots; omega⟩) hAb hS hfin
end AMV
