/-! calls from the law's frame -/
theorem adr_bG (b : PB) (k : Nat) : adr (bG b) k = adr b k := rfl
theorem tau_bG (b : PB) (v : Value) : tau (bG b) v = tau b v := by cases v <;> rfl
theorem wl_bG (b : PB) (m : Mem) : wl (bG b) m = wl b m := by
  unfold wl
  congr 1
theorem Ab_bG {b : PB} (q : Nat) (h : Ab (bG b) q) (hc : ct b = 166) (hg : gp b = 0) : Ab b q := by
  obtain ⟨h1, h2⟩ := h
  have h1 : b.1 ≤ q := h1
  exact ⟨h1, by omega⟩
theorem Ab_bM {b : PB} (q : Nat) (h : Ab (bM b) q) (hc : ct b = 166) (hg : gp b = 0) : Ab b q := by
  obtain ⟨h1, h2⟩ := h
  have h1 : b.1 + 166 ≤ q := h1
  exact ⟨by omega, by omega⟩
/-- the cells of somebody else stay: from one heap to the next -/
theorem va_P_kept {b w : PB} {m : Mem} {H H1 : Heap} (hP : va_P b.2.2.1 clsT (wl w m) H) (hq : ∀ k, k < m.1.length → H1[adr w k]? = H[adr w k]?) : va_P b.2.2.1 clsT (wl w m) H1 :=
  hP.kept (fun k x hx => by
    obtain ⟨h1, h2⟩ := wl_inv hx
    rw [h2]
    exact hq k h1)
theorem EX.mono {b w : PB} {U : State} {H : Heap} (h : EX b U H) (h1 : w.2.1 = b.2.1) (h2 : scL w = scL b) (h3 : scX w = scX b) (hA : ∀ q, Ab w q → Ab b q) : EX w U H := by
  obtain ⟨e1, e2, e3, e4, e5, e6, e7⟩ := h
  unfold EX
  rw [h1, h2, h3]
  exact ⟨e1.narrow hA, e2.narrow hA, e3.narrow hA, e4.narrow hA, e5, e6, fun q => e7 (hA _ q)⟩
theorem lw_run {p : Program} {l : Launch} {e : Env} {R : Room} {s : State} {mm : MethodId} {args : Array Value} {below : List Frame} {meth : Method} {c : Code} {H : Heap} {locs : List Loc} {cells slots mc ms pc : Nat} {Q : State → Prop} {b w : PB} {ls : Array Slot} {st0 rest : List Value} {a : Array Value} {K' : Kont}
    (hr : va_Run p l e R s mm args below meth c H locs cells slots mc ms (F0 mm pc ls st0) rest (QcA w K' a) (Ab w)) (hAb : ∀ q, Ab w q → Ab b q) (hS : va_S (Ab b) s.heap H locs)
    (k : ∀ (v : Option Value) (m' : Mem) (H1 : Heap) (locs1 : List Loc), K' v m' → va_P w.2.2.1 clsT (wl w m') H1 → H.size ≤ H1.size → (∀ q, q < H.size → ¬ Ab w q → H1[q]? = H[q]?) → va_S (Ab b) s.heap H1 locs1 → W p l e R s mm args below meth c H1 locs1 (cells + mc) (slots + ms) Q (F0 mm (pc + 3) ls ((v.map (tau w)).toList ++ rest))) : W p l e R s mm args below meth c H locs cells slots Q (F0 mm pc ls st0) := by
  intro T hT X
  obtain ⟨v, st₀, t, T', L, g0, X', hL', e1, e2, ⟨⟨v', m', hv, hK, hP'⟩, hF'⟩, stp⟩ := hr T hT X
  cases hv
  have hz : H.size ≤ T'.heap.size := by
    have := hF'.1
    rw [g0] at this
    rw [e1]
    exact this
  have hq : ∀ q, q < H.size → ¬ Ab w q → T'.heap[q]? = H[q]? := fun q q1 q2 => by
    rw [e1, hF'.2 q (by rw [g0]; exact q1) q2, g0]
  have hS' : va_S (Ab b) s.heap T'.heap (locs ++ L) := by
    refine ⟨Nat.le_trans hS.1 hz, fun q q1 q2 => ?_, fun q hq' => ?_⟩
    · rw [hq q (Nat.lt_of_lt_of_le q1 hS.1) (fun h => q2 (hAb q h))]
      exact hS.2.1 q q1 q2
    · rcases List.mem_append.mp hq' with h | h
      · exact hS.2.2 q h
      · exact hAb _ (hL' q h)
  obtain ⟨t2, a1, b1⟩ := k v' m' T'.heap (locs ++ L) hK (by rw [e1]; exact hP') hz hq hS' T' rfl X'
  exact ⟨t2, stp t2 a1, b1⟩
