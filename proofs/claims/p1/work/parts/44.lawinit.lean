/-! the constructors, called by the law -/
section AMX
variable {l : Launch} {b : PB} {R : Room} {y : MI} {m1 m2 : Mem} {pc : Nat} {lv st : List Value}
theorem bw_init1 {y' : MI} {K' : Kont} {idx d' mc ms : Nat} (hg : gp b = 0) (hl1 : m1.1.length = 1) (hl2 : m2.1 = []) (hm : MOk y' 0) (hlk : LkI y.1.cls idx y') (hlk3 : Cond.methodLink y.1.cls idx y'.1 ∈ TW) (hR : RoomOk R (rmm d' mc ms) y') (hw : (st.map fun v => v.category).sum ≤ 8) (hle : 1 ≤ y'.2.2.1) (hb1 : 1 + mc ≤ R.cells) (hb2 : sl m1.1 + ms ≤ R.slots)
    (hd : decode y.2.1 pc = .ok (.invokespecial idx, 3)) (hs : Sp l b (rmm d' mc ms) y' [.ref 0] m1 K')
    (hk : ∀ (v : Option Value) (m' : Mem), K' v m' → v = none ∧ m'.1.length = 1 + mc ∧ sl m'.1 = sl m1.1 + ms ∧ BW l b R y m' m2 (pc + 3) lv st) : BW l b R y m1 m2 pc lv (.ref 0 :: st) := by
  intro p e s mm args below meth c Q C hF H locs cells slots ls hP hP2 hS hcl hsl hL
  have hcl : cells = 1 := by rw [hcl, hl1, hl2]; rfl
  have hsl : slots = sl m1.1 := by rw [hsl, hl2]; rfl
  refine W.szi (fun hsz => ?_)
  have hz0 : s.heap.size = b.1 + 0 + gp b := C.2.2.2.2.2.2
  have hz1 : b.1 + 0 < H.size := wl_last (n := 0) hP hl1 (by decide)
  have hz : H.size = b.1 + m1.1.length + gp b := by omega
  have hcat' : ∀ v ∈ [Value.ref 0], v.category = 1 := fun v hv => by
    rcases List.mem_cons.mp hv with rfl | hv
    · rfl
    · cases hv
  have hmet := hs.met (y := y') hm.1 hcat' hle ⟨by omega, Or.inl hg⟩
  have hts := C.1.2.2.2.2
  have hPc : ∀ U : State, U.heap = H → s.WarmedH U.vm → PcA b [.ref 0] m1 (([Value.ref 0]).map (tau b)).toArray U := fun U hU hW => ⟨rfl, TB.warm hW C.2.2.2.2.1, by
    rw [hU]
    exact (EX.moved hW.alike C.2.2.2.2.2.1).kept hS.1 hS.2.1, by rw [hU]; exact hP, by rw [hU]; exact hz⟩
  have hfin : ∀ (v : Option Value) (m' : Mem) (H1 : Heap) (locs1 : List Loc), K' v m' → va_P b.2.2.1 clsT (wl b m') H1 → H.size ≤ H1.size → (∀ q, q < H.size → ¬ Ab b q → H1[q]? = H[q]?) → va_S (Ab b) s.heap H1 locs1 → W p l e R s mm args below meth c H1 locs1 (cells + mc) (slots + ms) Q (F0 mm (pc + 3) ls ((v.map (tau b)).toList ++ st.map (tau b))) := by
    intro v m' H1 locs1 hK hP3 h4 h5 h6
    obtain ⟨k0, k1, k2, k3⟩ := hk v m' hK
    subst k0
    exact k3 p e s mm args below meth c Q C hF H1 locs1 (cells + mc) (slots + ms) ls hP3 (fun k x hx => by
      have h1 := (wl_inv hx).1
      rw [hl2] at h1
      exact absurd h1 (Nat.not_lt_zero k)) h6 (by rw [k1, hl2, hcl]; rfl) (by rw [k2, hl2, hsl]; rfl) hL
  have hret : y'.2.2.2 = none := hlk.2.1
  have hcw : Cond.code y'.1 y'.2.1 y'.2.2.1 none ∈ TW := by rw [← hret]; exact hm.2.1
  exact lw_run (w := b) (va_runI (As := []) (rest := st.map (tau b)) (n := 0) C.1 hmet ⟨callB_of (bytes := y'.2.1) (maxL := y'.2.2.1) (ret := none) 0 hts (tw_cons hm.2.1) (by show Cond.code _ _ _ _ :: TW = _; rw [hret]) rfl rfl (hts _ hm.2.2.1) (hts _ hlk3) hm.2.2.2 hR, hlk.1, hts _ hlk.2.2.1⟩ ⟨PcA.blind b _ m1, hPc⟩ rfl rfl hL.1 rfl (lv_room (by rw [cat_tau]; exact hw)) hd ⟨by show cells + mc ≤ R.cells; omega, by show slots + ms ≤ R.slots; omega⟩) (fun q h => h) hS hfin
theorem bw_init2 {y' : MI} {K' : Kont} {idx d' mc ms : Nat} (hg : gp b = 0) (hc0 : ct b = 166) (hl1 : m1.1.length = 166) (hl2 : m2.1.length = 1) (hm : MOk y' 0) (hlk : LkI y.1.cls idx y') (hlk3 : Cond.methodLink y.1.cls idx y'.1 ∈ TW) (hR : RoomOk R (rmm d' mc ms) y') (hw : (st.map fun v => v.category).sum ≤ 8) (hle : 1 ≤ y'.2.2.1) (hb1 : 167 + mc ≤ R.cells) (hb2 : sl m1.1 + sl m2.1 + ms ≤ R.slots)
    (hd : decode y.2.1 pc = .ok (.invokespecial idx, 3)) (hs : Sp l (bM b) (rmm d' mc ms) y' [.ref 0] m2 K')
    (hk : ∀ (v : Option Value) (m' : Mem), K' v m' → v = none ∧ m'.1.length = 1 + mc ∧ sl m'.1 = sl m2.1 + ms ∧ BW l b R y m1 m' (pc + 3) lv st) : BW l b R y m1 m2 pc lv (.ref 166 :: st) := by
  intro p e s mm args below meth c Q C hF H locs cells slots ls hP hP2 hS hcl hsl hL
  have hcl : cells = 167 := by rw [hcl, hl1, hl2]
  have hsl : slots = sl m1.1 + sl m2.1 := hsl
  refine W.szi (fun hsz => ?_)
  have hz0 : s.heap.size = b.1 + 0 + gp b := C.2.2.2.2.2.2
  have hz1 : b.1 + 166 + 0 < H.size := wl_last (n := 0) hP2 hl2 (by decide)
  have hz : H.size = (bM b).1 + m2.1.length + gp (bM b) := by
    show H.size = b.1 + 166 + m2.1.length + 0
    omega
  have hAb : ∀ q, Ab (bM b) q → Ab b q := fun q h => Ab_bM q h hc0 hg
  have hcat' : ∀ v ∈ [Value.ref 0], v.category = 1 := fun v hv => by
    rcases List.mem_cons.mp hv with rfl | hv
    · rfl
    · cases hv
  have hmet := hs.met (y := y') hm.1 hcat' hle ⟨by omega, Or.inl rfl⟩
  have hts := C.1.2.2.2.2
  have hPc : ∀ U : State, U.heap = H → s.WarmedH U.vm → PcA (bM b) [.ref 0] m2 (([Value.ref 0]).map (tau (bM b))).toArray U := fun U hU hW => ⟨rfl, TB.warm hW C.2.2.2.2.1, by
    rw [hU]
    exact ((EX.moved hW.alike C.2.2.2.2.2.1).kept hS.1 hS.2.1).mono rfl rfl rfl hAb, by rw [hU]; exact hP2, by rw [hU]; exact hz⟩
  have hfin : ∀ (v : Option Value) (m' : Mem) (H1 : Heap) (locs1 : List Loc), K' v m' → va_P (bM b).2.2.1 clsT (wl (bM b) m') H1 → H.size ≤ H1.size → (∀ q, q < H.size → ¬ Ab (bM b) q → H1[q]? = H[q]?) → va_S (Ab b) s.heap H1 locs1 → W p l e R s mm args below meth c H1 locs1 (cells + mc) (slots + ms) Q (F0 mm (pc + 3) ls ((v.map (tau (bM b))).toList ++ st.map (tau b))) := by
    intro v m' H1 locs1 hK hP3 h4 h5 h6
    obtain ⟨k0, k1, k2, k3⟩ := hk v m' hK
    subst k0
    exact k3 p e s mm args below meth c Q C hF H1 locs1 (cells + mc) (slots + ms) ls (va_P_kept (b := b) hP (fun k hk' => h5 _ (by rw [adr_own (by omega)]; omega) (fun hA => by
      rw [adr_own (by omega)] at hA
      have hA2 : b.1 + 166 ≤ b.1 + k := hA.1
      omega))) hP3 h6 (by rw [k1, hcl, hl1]; omega) (by rw [k2, hsl]; omega) hL
  have hret : y'.2.2.2 = none := hlk.2.1
  have hcw : Cond.code y'.1 y'.2.1 y'.2.2.1 none ∈ TW := by rw [← hret]; exact hm.2.1
  exact lw_run (w := bM b) (va_runI (As := []) (rest := st.map (tau b)) (n := 0) C.1 hmet ⟨callB_of (bytes := y'.2.1) (maxL := y'.2.2.1) (ret := none) 0 hts (tw_cons hm.2.1) (by show Cond.code _ _ _ _ :: TW = _; rw [hret]) rfl rfl (hts _ hm.2.2.1) (hts _ hlk3) hm.2.2.2 hR, hlk.1, hts _ hlk.2.2.1⟩ ⟨PcA.blind (bM b) _ m2, hPc⟩ rfl rfl hL.1 rfl (lv_room (by rw [cat_tau]; exact hw)) hd ⟨by show cells + mc ≤ R.cells; omega, by show slots + ms ≤ R.slots; omega⟩) hAb hS hfin
end AMX
