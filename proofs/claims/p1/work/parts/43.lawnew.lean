/-! the two objects made by the law -/
section AMW
variable {l : Launch} {b : PB} {R : Room} {y : MI} {m2 : Mem} {pc : Nat} {lv st : List Value}
theorem bw_new1 {idx ci N : Nat} {q : vw_C} {I : Nat → Nat → Int32} {G : Nat → Nat → Option Nat} (hc : clsT[ci]? = some q) (hN : q.2.2 = N) (g1 : Cond.classLink y.1.cls idx q.1 ∈ TW) (g2 : Cond.instantiable q.1 N ∈ TW) (g3 : Cond.initialized q.1 ∈ TW) (hI : ∀ j, I 0 j = 0) (hG : ∀ j, G 0 j = none) (hg : gp b = 0) (hl2 : m2.1 = []) (hR1 : 1 ≤ R.cells) (hR2 : N ≤ R.slots) (hd : decode y.2.1 pc = .ok (.new idx, 3))
    (kk : BW l b R y ([(ci + 3, N)], I, G) m2 (pc + 3) lv (.ref 0 :: st)) : BW l b R y ([], I, G) m2 pc lv st := by
  subst hN
  intro p e s mm args below meth c Q C hF H locs cells slots ls hP hP2 hS hcl hsl hL
  obtain ⟨CC, T, N⟩ := q
  have hcl : cells = 0 := by rw [hcl, hl2]; rfl
  have hsl : slots = 0 := by rw [hsl, hl2]; rfl
  have hz : s.heap.size = b.1 + 0 := by have := C.2.2.2.2.2.2; rw [hg] at this; exact this
  have hin := fun w hw' => cls_in ci _ hc w hw'
  have hD0 : va_D (Ab b) (wl b ([], I, G)) := wl_D b ⟨show 0 < 1000 by decide, Or.inl hg⟩
  refine va_new C.1.1 C.1.2.1 C.1.2.2.2.2 hin (fty ci) (cls_ty ci _ hc) C.1.2.2.2.1 (C.1.2.2.2.2 _ g1) (C.1.2.2.2.2 _ g2) (C.1.2.2.2.2 _ g3) C.2.2.2.2.1.1 hP hD0 hS (fun q hq => by unfold Ab; omega) hc (fs := (List.range N).map (fun j => if isRf ci j then va_rf ((G 0 j).map (adr b)) else .int (I 0 j))) (fun j hj => ?_) (by omega) (by show slots + N ≤ R.slots; have : N ≤ R.slots := hR2; omega) hd (fun q H1 hP1 hD1 hS1 => ?_)
  · have hdf := cls_df ci _ hc j hj
    unfold vp_V
    rw [List.getD_eq_getElem?_getD, List.getElem?_map, List.getElem?_range hj, hdf]
    simp only [Option.map_some, Option.getD_some]
    rw [hI, hG]
    rfl
  · refine W.szi (fun hsz => ?_)
    have hq := push_addr (Ks := []) (I := I) (G := G) hz (show cells + 0 = 0 by omega) (by decide) hP1 hD1 hsz
    subst hq
    have hw := wl_push b (Ks := []) (I := I) (G := G) (I' := I) (G' := G) (t := (ci + 3, N)) (e := ent b (ci + 3, N) (I 0) (G 0)) (fun _ _ => rfl) (fun _ _ => rfl) rfl
    have hP1 : va_P b.2.2.1 clsT (wl b ([] ++ [(ci + 3, N)], I, G)) H1 := hw ▸ hP1
    exact kk p e s mm args below meth c Q C hF H1 locs (cells + 1) (slots + N) ls hP1 (fun k x hx => by
      have h1 := (wl_inv hx).1
      rw [hl2] at h1
      exact absurd h1 (Nat.not_lt_zero k)) hS1 (by rw [hcl, hl2]; rfl) (by rw [hsl, hl2]; show 0 + N = (N + 0) + 0; omega) hL
theorem bw_new2 {idx ci N : Nat} {q : vw_C} {Ks : List (Nat × Nat)} {J : Nat → Nat → Int32} {GJ : Nat → Nat → Option Nat} {I : Nat → Nat → Int32} {G : Nat → Nat → Option Nat} (hc : clsT[ci]? = some q) (hN : q.2.2 = N) (g1 : Cond.classLink y.1.cls idx q.1 ∈ TW) (g2 : Cond.instantiable q.1 N ∈ TW) (g3 : Cond.initialized q.1 ∈ TW) (hI : ∀ j, I 0 j = 0) (hG : ∀ j, G 0 j = none) (hg : gp b = 0) (hl1 : Ks.length = 166) (hR1 : 167 ≤ R.cells) (hR2 : sl Ks + N ≤ R.slots) (hd : decode y.2.1 pc = .ok (.new idx, 3))
    (kk : BW l b R y (Ks, J, GJ) ([(ci + 3, N)], I, G) (pc + 3) lv (.ref 166 :: st)) : BW l b R y (Ks, J, GJ) ([], I, G) pc lv st := by
  subst hN
  intro p e s mm args below meth c Q C hF H locs cells slots ls hP hP2 hS hcl hsl hL
  obtain ⟨CC, T, N⟩ := q
  have hcl : cells = Ks.length + 0 := hcl
  have hsl : slots = sl Ks + 0 := hsl
  have hR2 : sl Ks + N ≤ R.slots := hR2
  have hz : s.heap.size = b.1 + 0 := by have := C.2.2.2.2.2.2; rw [hg] at this; exact this
  have hin := fun w hw' => cls_in ci _ hc w hw'
  have hD0 : va_D (Ab b) (wl b (Ks, J, GJ)) := wl_D b ⟨show Ks.length < 1000 by omega, Or.inl hg⟩
  refine va_new C.1.1 C.1.2.1 C.1.2.2.2.2 hin (fty ci) (cls_ty ci _ hc) C.1.2.2.2.1 (C.1.2.2.2.2 _ g1) (C.1.2.2.2.2 _ g2) (C.1.2.2.2.2 _ g3) C.2.2.2.2.1.1 hP hD0 hS (fun q hq => by unfold Ab; omega) hc (fs := (List.range N).map (fun j => if isRf ci j then va_rf ((G 0 j).map (adr (bM b))) else .int (I 0 j))) (fun j hj => ?_) (by omega) (by show slots + N ≤ R.slots; omega) hd (fun q H1 hP1 hD1 hS1 => ?_)
  · have hdf := cls_df ci _ hc j hj
    unfold vp_V
    rw [List.getD_eq_getElem?_getD, List.getElem?_map, List.getElem?_range hj, hdf]
    simp only [Option.map_some, Option.getD_some]
    rw [hI, hG]
    rfl
  · refine W.szi (fun hsz => ?_)
    have hq := push_addr (Ks := Ks) (I := J) (G := GJ) hz (show cells + 0 = Ks.length by omega) (by omega) hP1 hD1 hsz
    rw [hl1] at hq
    subst hq
    have hwl : (wl b (Ks, J, GJ)).length = 166 := by rw [wl_len]; exact hl1
    refine kk p e s mm args below meth c Q C hF H1 locs (cells + 1) (slots + N) ls (fun k x hx => hP1 k x ?_) (fun k x hx => ?_) hS1 (by show cells + 1 = Ks.length + 1; omega) (by show slots + N = sl Ks + (N + 0); omega) hL
    · have h1 : k < 166 := by rw [← hwl]; exact (List.getElem?_eq_some_iff.mp hx).1
      rw [List.getElem?_append_left (by omega)]
      exact hx
    · have h1 := (wl_inv hx).1
      have h1 : k < 1 := h1
      have h0 : k = 0 := by omega
      subst h0
      have h2 := wl_at (bM b) (m := ([(ci + 3, N)], I, G)) (o := 0) rfl
      rw [h2] at hx
      cases hx
      refine hP1 166 _ ?_
      rw [List.getElem?_append_right (by omega), hwl]
      rfl
end AMW
