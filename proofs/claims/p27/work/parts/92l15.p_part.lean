/-! one is parted, on both sides -/
/-- who may be parted, by the reference's memory -/
def pF (J : IMem) (kl : Nat) (law : List LRec) (k : Nat) : Prop := ((k % 40 : Nat) : Int) < J 1 (130 + k / 40) ∧ ¬ 0 < J 0 33 ∧ (((k % 40 : Nat) : Int) < J 1 (10 + k / 40) ∧ J 9 k = 0 ∧ J 12 k = 0) ∧ J 1 (140 + 6 * k + 3) = 0 ∧ J 1 (140 + 6 * k + 2) = J 1 (140 + 6 * k + 1) ∧ J 0 30 < J 1 (140 + 6 * k + 1) ∧ pz (J 1 (16 + J 1 (140 + 6 * k + 1)).toNat) (J 1 (140 + 6 * k + 1)) (J 0 30) ≠ 0 ∧ 1 ≤ lval kl (WF J (k / 40) (k % 40) (J 0 30) (J 0 31)) law
def pzF (J : IMem) (k : Nat) : Int := pz (J 1 (16 + J 1 (140 + 6 * k + 1)).toNat) (J 1 (140 + 6 * k + 1)) (J 0 30)
theorem pF_same {J J' : IMem} {kl : Nat} {law : List LRec} (h : ∀ q j, q ≠ 7 → q ≠ 8 → J' q j = J q j) (k : Nat) : pF J' kl law k ↔ pF J kl law k := by
  unfold pF
  rw [wf_same h]
  simp only [h 1 _ (by decide) (by decide), h 0 _ (by decide) (by decide), h 9 _ (by decide) (by decide), h 12 _ (by decide) (by decide)]
theorem ev_partOf (fu : Nat) (J : IMem) (z : Int) (h : 1 ≤ z ∧ z ≤ 8) (ha : 0 ≤ J 1 (16 + z).toNat ∧ J 1 (16 + z).toNat < z) : f_X_partOf fu 0 z J = zr (pz (J 1 (16 + z).toNat) z (J 0 30)) J := by
  unfold f_X_partOf pz
  simp only [zl_e, zj_e, Nat.zero_add]
  rw [wr32_i2 (x := 16 + z) (by omega) (by omega), zg_t (by omega), wr32_i2 (x := z - J 1 (16 + z).toNat) (by omega) (by omega)]
  generalize J 1 (16 + z).toNat = a at ha
  by_cases h0 : a = 0
  · rw [if_pos h0, if_pos h0]
  · rw [if_neg h0, if_neg h0]
    by_cases h1 : J 0 30 < a
    · rw [if_pos h1, if_neg (by omega : ¬ a ≤ J 0 30)]
      by_cases h2 : J 0 30 < z - a
      · rw [if_pos h2, if_neg (by omega : ¬ z - a ≤ J 0 30)]
      · rw [if_neg h2, if_pos (by omega : z - a ≤ J 0 30)]
        by_cases h3 : 0 < z - a
        · rw [if_pos h3, if_pos h3]
        · rw [if_neg h3, if_neg h3]
    · rw [if_neg h1, if_pos (by omega : a ≤ J 0 30)]
      by_cases h2 : J 0 30 < z - a
      · rw [if_pos h2, if_neg (by omega : ¬ z - a ≤ J 0 30)]
      · rw [if_neg h2, if_pos (by omega : z - a ≤ J 0 30)]
        by_cases h3 : a < z - a
        · rw [if_pos h3, if_pos h3]
        · rw [if_neg h3, if_neg h3]
section
variable {fu : Nat} {Q : Int → IMem → Prop}
theorem xv_part17 (kh : Int → Int → IMem → Res) (kn : IMem → Res) (J0 : IMem) {kl : Nat} {law : List LRec} (hw : LWX J0 kl law) (hz : ∀ k, INL J0 k → 1 ≤ J0 1 (141 + 6 * k) ∧ J0 1 (141 + 6 * k) ≤ 8) (hpt : PTS J0) (hd : ¬ 0 < J0 0 33) {l : Nat} (hl : l < 6) (hc : 0 ≤ J0 1 (130 + l) ∧ J0 1 (130 + l) ≤ 40) (hit : ∀ (J : IMem) (p : Nat), (∀ q j, q ≠ 7 → q ≠ 8 → J q j = J0 q j) → p < 40 → pF J0 kl law (40 * l + p) → (∀ k, k < 40 * l + p → ¬ pF J0 kl law k) → par (kh (p : Int) (J0 1 (140 + 6 * (40 * l + p) + 1)) J) Q) (non : ∀ (J : IMem), (∀ q j, q ≠ 7 → q ≠ 8 → J q j = J0 q j) → (∀ k, k < 40 * (l + 1) → ¬ pF J0 kl law k) → par (kn J) Q) : ∀ (m p : Nat) (J : IMem), (∀ q j, q ≠ 7 → q ≠ 8 → J q j = J0 q j) → (p : Int) ≤ J0 1 (130 + l) → (∀ k, k < 40 * l + p → ¬ pF J0 kl law k) → par (f_X_parts0_17 fu kh kn 0 (l : Int) m (p : Int) J) Q := by
  intro m
  induction m with
  | zero => intro _ _ _ _ _; exact par_none
  | succ m ih =>
    intro p J hJ hp hk
    show par (fb_X_parts0_17 fu kh kn 0 (l : Int) (f_X_parts0_17 fu kh kn 0 (l : Int) m) (p : Int) J) Q
    unfold fb_X_parts0_17
    have w1 : Wq (wr32 (130 + (l : Int))) (((130 + l : Nat) : Int)) := by show wr32 (130 + (l : Int)) = ((130 + l : Nat) : Int); rw [wr32_i2 (by omega) (by omega)]; omega
    have jw : ∀ j, J 1 j = J0 1 j := fun j => hJ _ _ (by decide) (by decide)
    have j0 : ∀ j, J 0 j = J0 0 j := fun j => hJ _ _ (by decide) (by decide)
    simp only [zl_e, zj_e]
    rw [w1.e]
    refine par_zg (fun _ => ?_)
    show par (if (p : Int) < J 1 (130 + l) then _ else _) _
    rw [jw]
    by_cases hpc : (p : Int) < J0 1 (130 + l)
    · rw [if_pos hpc]
      have hp4 : p < 40 := by omega
      have hin : INL J0 (40 * l + p) := ⟨by omega, by rw [show (40 * l + p) % 40 = p by omega, show (40 * l + p) / 40 = l by omega]; exact hpc⟩
      have wn : Wq (wr32 ((p : Int) + 1)) (((p + 1 : Nat) : Int)) := by show wr32 ((p : Int) + 1) = ((p + 1 : Nat) : Int); rw [wr32_i2 (by omega) (by omega)]; rfl
      rw [ev_of1 fu 0 l p J hl hp4, zb_zr, ev_isOpen fu l p J hl hp4, zb_zr, wn.e]
      have skip : ∀ J' : IMem, (∀ q j, q ≠ 7 → q ≠ 8 → J' q j = J0 q j) → ¬ pF J0 kl law (40 * l + p) → par (f_X_parts0_17 fu kh kn 0 (l : Int) m ((p + 1 : Nat) : Int) J') Q := fun J' h1 h2 => ih (p + 1) J' h1 (by omega) (fun k hk2 => by
        by_cases q : k = 40 * l + p
        · rw [q]; exact h2
        · exact hk k (by omega))
      have pf : pF J0 kl law (40 * l + p) ↔ ((p : Int) < J0 1 (130 + l) ∧ ¬ 0 < J0 0 33 ∧ ((p : Int) < J0 1 (10 + l) ∧ J0 9 (40 * l + p) = 0 ∧ J0 12 (40 * l + p) = 0) ∧ J0 1 (140 + 6 * (40 * l + p) + 3) = 0 ∧ J0 1 (140 + 6 * (40 * l + p) + 2) = J0 1 (140 + 6 * (40 * l + p) + 1) ∧ J0 0 30 < J0 1 (140 + 6 * (40 * l + p) + 1) ∧ pz (J0 1 (16 + J0 1 (140 + 6 * (40 * l + p) + 1)).toNat) (J0 1 (140 + 6 * (40 * l + p) + 1)) (J0 0 30) ≠ 0 ∧ 1 ≤ lval kl (WF J0 l p (J0 0 30) (J0 0 31)) law) := by
        unfold pF
        rw [show (40 * l + p) % 40 = p by omega, show (40 * l + p) / 40 = l by omega]
      have o1 : J (0 + 1) (140 + 6 * (40 * l + p) + 1) = J0 1 (140 + 6 * (40 * l + p) + 1) := jw _
      have z1 := hz _ hin
      rw [show 141 + 6 * (40 * l + p) = 140 + 6 * (40 * l + p) + 1 by omega] at z1
      rw [jw, hJ 9 _ (by decide) (by decide), hJ 12 _ (by decide) (by decide), o1]
      by_cases h1 : (p : Int) < J0 1 (10 + l) ∧ J0 9 (40 * l + p) = 0 ∧ J0 12 (40 * l + p) = 0
      · rw [if_pos h1, if_neg (by decide), ev_of3 fu 0 l p J hl hp4, zb_zr]
        show par (if J 1 (140 + 6 * (40 * l + p) + 3) = 0 then _ else _) _
        rw [jw]
        by_cases h2 : J0 1 (140 + 6 * (40 * l + p) + 3) = 0
        · rw [if_pos h2, ev_of2 fu 0 l p J hl hp4, zb_zr]
          show par (if J 1 (140 + 6 * (40 * l + p) + 2) = _ then _ else _) _
          rw [jw, j0]
          by_cases h3 : J0 1 (140 + 6 * (40 * l + p) + 2) = J0 1 (140 + 6 * (40 * l + p) + 1)
          · rw [if_pos h3]
            by_cases h4 : J0 0 30 < J0 1 (140 + 6 * (40 * l + p) + 1)
            · have pe := ev_partOf fu J (J0 1 (140 + 6 * (40 * l + p) + 1)) z1 (by rw [jw]; exact hpt _ z1.1 z1.2)
              rw [jw, j0] at pe
              rw [if_pos h4, pe, zb_zr]
              by_cases h5 : pz (J0 1 (16 + J0 1 (140 + 6 * (40 * l + p) + 1)).toNat) (J0 1 (140 + 6 * (40 * l + p) + 1)) (J0 0 30) = 0
              · rw [if_pos h5]; exact skip J hJ (fun z => (pf.mp z).2.2.2.2.2.2.1 h5)
              · rw [if_neg h5]
                have hw' := lwx_same (J' := J) hw (fun j _ => jw j)
                refine par_zb (xv_worth (fu := fu) (left := J 0 30) (taken := J 0 31) hl (by rw [jw]; exact hpc) (by rw [jw]; exact hc.2) hw'.1 hw'.2.1 hw'.2.2.1 hw'.2.2.2) (fun v J1 ⟨g1, g2⟩ => ?_)
                have hJ1 : ∀ q j, q ≠ 7 → q ≠ 8 → J1 q j = J0 q j := fun q j a c => (g2 q j a c).trans (hJ q j a c)
                rw [wf_same hJ, j0, j0] at g1
                refine par_ite (fun q => skip J1 hJ1 (fun z => by have := (pf.mp z).2.2.2.2.2.2.2; omega)) (fun q => ?_)
                exact hit J1 p hJ1 hp4 (pf.mpr ⟨hpc, hd, h1, h2, h3, h4, h5, by omega⟩) hk
            · rw [if_neg h4]; exact skip J hJ (fun z => h4 (pf.mp z).2.2.2.2.2.1)
          · rw [if_neg h3]; exact skip J hJ (fun z => h3 (pf.mp z).2.2.2.2.1)
        · rw [if_neg h2]; exact skip J hJ (fun z => h2 (pf.mp z).2.2.2.1)
      · rw [if_neg h1, if_pos rfl]; exact skip J hJ (fun z => h1 (pf.mp z).2.2.1)
    · rw [if_neg hpc]
      refine non J hJ (fun k hk2 => ?_)
      by_cases q : k < 40 * l + p
      · exact hk k q
      · intro z
        have := z.1
        rw [show k % 40 = k - 40 * l by omega, show k / 40 = l by omega] at this
        omega
theorem xv_part2 (kh : Int → Int → Int → IMem → Res) (J0 : IMem) {kl : Nat} {law : List LRec} (hw : LWX J0 kl law) (hz : ∀ k, INL J0 k → 1 ≤ J0 1 (141 + 6 * k) ∧ J0 1 (141 + 6 * k) ≤ 8) (hpt : PTS J0) (hc : ∀ l, l < 6 → 0 ≤ J0 1 (130 + l) ∧ J0 1 (130 + l) ≤ 40) (h33 : 0 ≤ J0 0 33) (hit : ∀ (J : IMem) (l p : Nat), (∀ q j, q ≠ 7 → q ≠ 8 → J q j = J0 q j) → l < 6 → p < 40 → pF J0 kl law (40 * l + p) → (∀ k, k < 40 * l + p → ¬ pF J0 kl law k) → par (kh (l : Int) (p : Int) (J0 1 (140 + 6 * (40 * l + p) + 1)) J) Q) (non : ∀ (J : IMem), (∀ q j, q ≠ 7 → q ≠ 8 → J q j = J0 q j) → (∀ k, k < 240 → ¬ pF J0 kl law k) → par (zr 0 J) Q) : ∀ (m l : Nat) (J : IMem), l ≤ 6 → (∀ q j, q ≠ 7 → q ≠ 8 → J q j = J0 q j) → (∀ k, k < 40 * l → ¬ pF J0 kl law k) → par (f_X_parts0_2 fu kh 0 m (l : Int) J) Q := by
  intro m
  induction m with
  | zero => intro _ _ _ _ _; exact par_none
  | succ m ih =>
    intro l J hl hJ hk
    show par (fb_X_parts0_2 fu kh 0 (f_X_parts0_2 fu kh 0 m) (l : Int) J) Q
    unfold fb_X_parts0_2
    have j0 : J 0 33 = J0 0 33 := hJ _ _ (by decide) (by decide)
    rw [j0]
    by_cases h6 : l < 6
    · rw [if_pos (by omega)]
      by_cases hd : J0 0 33 = 0
      · rw [if_pos hd]
        refine xv_part17 (fu := fu) _ _ J0 hw hz hpt (by omega) h6 (hc l h6) (fun J' p h1 h2 h3 h4 => hit J' l p h1 h6 h2 h3 h4) (fun J' h1 h2 => ?_) fu 0 J hJ (hc l h6).1 hk
        simp only [zl_e]
        have wn : Wq (wr32 ((l : Int) + 1)) (((l + 1 : Nat) : Int)) := by show wr32 ((l : Int) + 1) = ((l + 1 : Nat) : Int); rw [wr32_i2 (by omega) (by omega)]; rfl
        rw [wn.e]
        exact ih (l + 1) J' h6 h1 h2
      · rw [if_neg hd]
        exact non J hJ (fun k _ z => by have := z.2.1; omega)
    · rw [if_neg (by omega)]
      have : l = 6 := by omega
      subst this
      exact non J hJ hk
/-- parts0: nobody, or the first who may be parted -/
theorem xv_parts0 (J : IMem) {kl : Nat} {law : List LRec} (hw : LWX J kl law) (hz : ∀ k, INL J k → 1 ≤ J 1 (141 + 6 * k) ∧ J 1 (141 + 6 * k) ≤ 8) (hpt : PTS J) (hc : ∀ l, l < 6 → 0 ≤ J 1 (130 + l) ∧ J 1 (130 + l) ≤ 40) (h33 : 0 ≤ J 0 33) (h31 : 0 ≤ J 0 31 ∧ 0 ≤ J 0 30 ∧ J 0 30 + J 0 31 ≤ 8) : par (f_X_parts0 fu 0 J) (fun _ J' => ((∀ k, k < 240 → ¬ pF J kl law k) ∧ ∀ q j, q ≠ 7 → q ≠ 8 → J' q j = J q j) ∨ ∃ k, k < 240 ∧ pF J kl law k ∧ (∀ k', k' < k → ¬ pF J kl law k') ∧ (1 ≤ pzF J k ∧ pzF J k ≤ J 0 30 ∧ pzF J k < J 1 (141 + 6 * k)) ∧ ∀ q j, q ≠ 7 → q ≠ 8 → J' q j = if q = 0 ∧ j = 34 then wr32 (J 0 34 + (if (0 : Int) = 1 then 0 else 1)) else if q = 0 ∧ j = 33 then wr32 (J 0 33 + (if (0 : Int) = 2 then 1 else 0)) else if q = 0 ∧ j = 30 then wr32 (J 0 30 - pzF J k) else if q = 0 ∧ j = 31 then J 0 31 + 1 else if q = 11 ∧ j = (J 0 31).toNat then (k : Int) else if q = 9 ∧ j = k then pzF J k else J q j) := by
  unfold f_X_parts0
  refine xv_part2 (fu := fu) _ J hw hz hpt hc h33 (fun J1 l p h1 hl hp h2 h3 => ?_) (fun J1 h1 h2 => par_zr (Or.inl ⟨h2, h1⟩)) fu 0 J (by decide) (fun _ _ _ _ => rfl) (fun k hk => absurd hk (by omega))
  have jw : ∀ j, J1 1 j = J 1 j := fun j => h1 _ _ (by decide) (by decide)
  have j0 : ∀ j, J1 0 j = J 0 j := fun j => h1 _ _ (by decide) (by decide)
  have h2' := h2
  unfold pF at h2'
  obtain ⟨x1, x2, x3, x4, x5, x6, x7, x8⟩ := h2'
  have hin : INL J (40 * l + p) := ⟨by omega, x1⟩
  have z1 := hz _ hin
  rw [show 141 + 6 * (40 * l + p) = 140 + 6 * (40 * l + p) + 1 by omega] at z1
  have pt := hpt _ z1.1 z1.2
  have pe := ev_partOf fu J1 (J 1 (140 + 6 * (40 * l + p) + 1)) z1 (by rw [jw]; exact pt)
  rw [jw, j0] at pe
  rw [pe, zb_zr]
  have prg : 1 ≤ pzF J (40 * l + p) ∧ pzF J (40 * l + p) ≤ J 0 30 ∧ pzF J (40 * l + p) < J 1 (140 + 6 * (40 * l + p) + 1) := by
    unfold pzF
    unfold pz at x7 ⊢
    generalize J 1 (16 + J 1 (140 + 6 * (40 * l + p) + 1)).toNat = a at x7 pt ⊢
    by_cases c0 : a = 0
    · rw [if_pos c0] at x7; exact absurd rfl x7
    · rw [if_neg c0] at x7 ⊢
      split at x7 <;> rename_i c1
      · rw [if_pos c1]
        split <;> omega
      · rw [if_neg c1]
        split at x7 <;> rename_i c2
        · rw [if_pos c2]; omega
        · exact absurd rfl x7
  refine par_zb (xv_takes (fu := fu) l p (pzF J (40 * l + p)) J1 hl hp (by rw [j0]; omega)) (fun _ J2 g => par_zr (Or.inr ⟨40 * l + p, by omega, h2, h3, ⟨prg.1, prg.2.1, by rw [show 141 + 6 * (40 * l + p) = 140 + 6 * (40 * l + p) + 1 by omega]; exact prg.2.2⟩, fun q j h7 h8 => ?_⟩))
  rw [g, jw, x4, j0, j0, j0, j0, h1 q j h7 h8]
end
/-! one is parted: the class; a chair's filling, whole -/
theorem ev_plain (fu o k : Nat) (I : IMem) (hk : k < 240) : f_L_isPlainAndTrue fu o (k : Int) I = zr (if I (o + 1) (6 * k + 3) = 0 ∧ I (o + 1) (6 * k + 2) = I (o + 1) (6 * k + 1) then 1 else 0) I := by
  unfold f_L_isPlainAndTrue
  rw [ev_get3 fu o k I hk, zb_zr]
  by_cases h : I (o + 1) (6 * k + 3) = 0
  · rw [if_pos h, ev_get2 fu o k I hk, zb_zr, ev_get1 fu o k I hk, zb_zr]
    by_cases h2 : I (o + 1) (6 * k + 2) = I (o + 1) (6 * k + 1)
    · rw [if_pos h2, if_pos ⟨h, h2⟩]
    · rw [if_neg h2, if_neg (fun q => h2 q.2)]
  · rw [if_neg h, if_neg (fun q => h q.1)]
/-- the greater part that fits, in the class -/
theorem ev_cpart (fu oc hb k : Nat) (I : IMem) (hk : k < 240) (hz : 1 ≤ I (hb + 7) (6 * k + 1) ∧ I (hb + 7) (6 * k + 1) ≤ 8) (ha : 0 ≤ I (hb + 3) (I (hb + 7) (6 * k + 1)).toNat ∧ I (hb + 3) (I (hb + 7) (6 * k + 1)).toNat < I (hb + 7) (6 * k + 1)) : f_C_partThatFits fu oc hb (k : Int) I = zr (if I oc 7 < I (hb + 7) (6 * k + 1) ∧ I (oc + 1) k = 0 ∧ I (hb + 7) (6 * k + 3) = 0 ∧ I (hb + 7) (6 * k + 2) = I (hb + 7) (6 * k + 1) then pz (I (hb + 3) (I (hb + 7) (6 * k + 1)).toNat) (I (hb + 7) (6 * k + 1)) (I oc 7) else 0) I := by
  unfold f_C_partThatFits
  rw [ev_get1 fu (hb + 6) k I hk, zb_zr]
  show (if I oc 7 < I (hb + 7) (6 * k + 1) then _ else _) = _
  by_cases h1 : I oc 7 < I (hb + 7) (6 * k + 1)
  · rw [if_pos h1, ev_cstands fu oc k I hk, zb_zr]
    by_cases h2 : I (oc + 1) k = 0
    · rw [if_pos h2, if_neg (by decide), ev_plain fu (hb + 6) k I hk, zb_zr]
      by_cases h3 : I (hb + 7) (6 * k + 3) = 0 ∧ I (hb + 7) (6 * k + 2) = I (hb + 7) (6 * k + 1)
      · rw [if_pos h3, if_neg (by decide), if_pos ⟨h1, h2, h3⟩]
        simp only [zj_e]
        have e1 : I (hb + 6 + 1) (6 * k + 1) = I (hb + 7) (6 * k + 1) := rfl
        rw [e1, if_neg (by omega), if_neg (by omega), zg_t (by omega)]
        generalize I (hb + 7) (6 * k + 1) = z at hz ha h1
        generalize I (hb + 3) z.toNat = a at ha
        unfold pz
        by_cases h0 : a = 0
        · rw [if_pos h0, if_pos h0]
        · rw [if_neg h0, if_neg h0, wr32_i2 (x := z - a) (by omega) (by omega), ev_max, zb_zr]
          by_cases g : a < z - a
          · rw [if_pos g]
            by_cases g1 : I oc 7 < z - a
            · rw [if_pos g1, if_neg (by omega : ¬ z - a ≤ I oc 7), wr32_i2 (x := z - (z - a)) (by omega) (by omega)]
              by_cases g2 : I oc 7 < a
              · rw [if_pos (by omega : I oc 7 < z - (z - a)), if_neg (by omega : ¬ a ≤ I oc 7)]
              · rw [if_neg (by omega : ¬ I oc 7 < z - (z - a)), if_pos (by omega : a ≤ I oc 7)]
                congr 1
                omega
            · rw [if_neg g1, if_pos (by omega : z - a ≤ I oc 7), if_pos (by omega : a ≤ I oc 7), if_pos g]
          · rw [if_neg g]
            by_cases g1 : I oc 7 < a
            · rw [if_pos g1, wr32_i2 (x := z - a) (by omega) (by omega), if_neg (by omega : ¬ a ≤ I oc 7)]
              by_cases g2 : I oc 7 < z - a
              · rw [if_pos g2, if_neg (by omega : ¬ z - a ≤ I oc 7)]
              · rw [if_neg g2, if_pos (by omega : z - a ≤ I oc 7), if_pos (by omega)]
            · rw [if_neg g1, if_pos (by omega : a ≤ I oc 7)]
              by_cases g2 : z - a ≤ I oc 7
              · rw [if_pos g2, if_neg g]
              · rw [if_neg g2]
      · rw [if_neg h3, if_pos rfl, if_neg (fun q => h3 q.2.2)]
    · rw [if_neg h2, if_pos rfl, if_neg (fun q => h2 q.2.1)]
  · rw [if_neg h1, if_neg (fun q => h1 q.1)]
theorem pz_nn {a z l : Int} (ha : 0 ≤ a ∧ a < z) : 0 ≤ pz a z l := by
  unfold pz
  split
  · omega
  · split
    · split
      · split <;> omega
      · split <;> omega
    · split <;> omega
theorem pz_le {a z l : Int} (ha : 0 ≤ a ∧ a < z) : pz a z l ≤ z := by
  unfold pz
  split
  · omega
  · split
    · split
      · split <;> omega
      · split <;> omega
    · split <;> omega
theorem pz_left {a z l : Int} (h : 0 < pz a z l) : pz a z l ≤ l := by
  unfold pz at h ⊢
  by_cases h0 : a = 0
  · rw [if_pos h0] at h; omega
  · rw [if_neg h0] at h ⊢
    by_cases h1 : z - a ≤ l
    · rw [if_pos h1] at h ⊢
      by_cases h2 : a ≤ l
      · rw [if_pos h2] at h ⊢
        by_cases h3 : a < z - a
        · rw [if_pos h3]; exact h1
        · rw [if_neg h3]; exact h2
      · rw [if_neg h2] at h ⊢
        by_cases h3 : 0 < z - a
        · rw [if_pos h3]; exact h1
        · rw [if_neg h3] at h; omega
    · rw [if_neg h1] at h ⊢
      by_cases h2 : a ≤ l
      · rw [if_pos h2]; exact h2
      · rw [if_neg h2] at h; omega
section
variable {fu oc hb kl n : Nat} {law : List LRec} {Q : Int → IMem → Prop}
theorem pF_iff {I J : IMem} (h : FIV oc hb kl law n I J) (hpt : PTS J) {k : Nat} (hk : k < 240) (hs : SN (I (hb + 8)) (I (hb + 9)) (-1) k) : (pF J kl law k ↔ (I oc 10 = 0 ∧ (I oc 7 < I (hb + 7) (6 * k + 1) ∧ I (oc + 1) k = 0 ∧ I (hb + 7) (6 * k + 3) = 0 ∧ I (hb + 7) (6 * k + 2) = I (hb + 7) (6 * k + 1)) ∧ 0 < pz (I (hb + 3) (I (hb + 7) (6 * k + 1)).toNat) (I (hb + 7) (6 * k + 1)) (I oc 7) ∧ 0 < lval kl (WF J (k / 40) (k % 40) (J 0 30) (J 0 31)) law)) ∧ pzF J k = pz (I (hb + 3) (I (hb + 7) (6 * k + 1)).toNat) (I (hb + 7) (6 * k + 1)) (I oc 7) := by
  have s := (sn_iff h hk).mp hs
  have hin : INL J k := ⟨hk, s.1⟩
  have r1 := row_eq h hin (f := 1) (by decide)
  have r2 := row_eq h hin (f := 2) (by decide)
  have r3 := row_eq h hin (f := 3) (by decide)
  have z1 := h.2.2.2.2.2.1 k hin
  rw [show 141 + 6 * k = 140 + 6 * k + 1 by omega] at z1
  have hF := h.2.1
  have mk := hF.2.2.2.2.1 k hk
  have h33 := hF.2.2.1
  have pt := hpt _ z1.1 z1.2
  have p3 : I (hb + 3) (J 1 (140 + 6 * k + 1)).toNat = J 1 (16 + J 1 (140 + 6 * k + 1)).toNat := by
    rw [h.1.1.2.2.2.2.1 _ (by omega) (by omega)]
    congr 1
    omega
  have nn := pz_nn (l := J 0 30) pt
  rw [r1, r2, r3, p3, hF.1.1]
  unfold pzF pF
  unfold MKR at mk
  refine ⟨⟨fun ⟨x1, x2, x3, x4, x5, x6, x7, x8⟩ => ⟨by omega, ⟨x6, by omega, x4, x5⟩, by omega, by omega⟩, fun ⟨y1, ⟨y2, y3, y4, y5⟩, y6, y7⟩ => ⟨s.1, by omega, ⟨s.2, by omega, by omega⟩, y4, y5, y2, by omega, by omega⟩⟩, rfl⟩
/-- what the class writes when one is parted -/
def cPT (oc hb kl k : Nat) (part : Int) (I I' : IMem) : Prop := ∀ q j, q ≠ hb + 13 → q ≠ hb + 15 + 5 * kl + 4 → I' q j = if q = hb + 7 ∧ (j = 6 * k + 1 ∨ j = 6 * k + 2) then I (hb + 7) (6 * k + 1) - part else if q = oc ∧ j = 11 then (if I oc 11 = 0 then (if (0 : Int) = 1 then 0 else 1) else 1) else if q = oc ∧ j = 10 then (if I oc 10 = 0 then (if (0 : Int) = 2 then 1 else 0) else 1) else if q = oc ∧ j = 7 then wr32 (I oc 7 - part) else if q = oc ∧ j = 8 then I oc 8 + 1 else if q = oc + 3 ∧ j = (I oc 8).toNat then part else if q = oc + 2 ∧ j = (I oc 8).toNat then (k : Int) else if q = oc + 1 ∧ j = k then 3 else I q j
theorem ev_put (fu o k f : Nat) (v : Int) (I : IMem) (hk : k < 240) (hf : f < 6) : f_L_put fu o (k : Int) (f : Int) v I = zw I (o + 1) (6 * k + f) v fun I2 => zr 0 I2 := by
  unfold f_L_put
  have e : Wq (wr32 (wr32 ((k : Int) * 6) + (f : Int))) (((6 * k + f : Nat) : Int)) := by
    show (wr32 (wr32 ((k : Int) * 6) + (f : Int))) = (((6 * k + f : Nat) : Int))
    rw [wr32_i2 (x := (k : Int) * 6) (by omega) (by omega), wr32_i2 (by omega) (by omega)]; omega
  simp only [zl_e]
  rw [e.e, if_neg (by omega), if_pos (by omega), zg_t (by omega)]
  rfl
theorem ev_put1 (fu o k : Nat) (v : Int) (I : IMem) (hk : k < 240) : f_L_put fu o (k : Int) 1 v I = zw I (o + 1) (6 * k + 1) v fun I2 => zr 0 I2 := ev_put fu o k 1 v I hk (by decide)
theorem ev_put2 (fu o k : Nat) (v : Int) (I : IMem) (hk : k < 240) : f_L_put fu o (k : Int) 2 v I = zw I (o + 1) (6 * k + 2) v fun I2 => zr 0 I2 := ev_put fu o k 2 v I hk (by decide)
theorem ev_put4 (fu o k : Nat) (v : Int) (I : IMem) (hk : k < 240) : f_L_put fu o (k : Int) 4 v I = zw I (o + 1) (6 * k + 4) v fun I2 => zr 0 I2 := ev_put fu o k 4 v I hk (by decide)
theorem ev_put5 (fu o k : Nat) (v : Int) (I : IMem) (hk : k < 240) : f_L_put fu o (k : Int) 5 v I = zw I (o + 1) (6 * k + 5) v fun I2 => zr 0 I2 := ev_put fu o k 5 v I hk (by decide)
theorem zb_zw (I : IMem) (o j : Nat) (v : Int) (k1 : IMem → Res) (k : Int → IMem → Res) : zb (zw I o j v k1) k = zw I o j v fun I2 => zb (k1 I2) k := rfl
theorem cv_part2 (hd : hb + 40 ≤ oc) {I0 J : IMem} (h : FIV oc hb kl law n I0 J) (hpt : PTS J) : ∀ (m i : Nat) (I : IMem), i ≤ n → (∀ q j, q ≠ hb + 13 → q ≠ hb + 15 + 5 * kl + 4 → I q j = I0 q j) → (∀ i' k, i' < i → I0 (oc + 5) i' = ((k : Nat) : Int) → ¬ pF J kl law k) → par (f_C_partOne_2 fu (fun (x18 : Int) (x19 : Int) (I17 : IMem) => zb (f_L_get fu (hb + 6) x18 1 I17) fun y20 I21 => zl (wr32 (y20 - x19)) fun x23 => zb (f_C_sit fu oc x18 x19 0 3 I21) fun _ I25 => zb (f_L_put fu (hb + 6) x18 1 x23 I25) fun _ I28 => zb (f_L_put fu (hb + 6) x18 2 x23 I28) fun _ I31 => zr 0 I31) oc hb m (i : Int) I) (fun _ I' => ((∀ k, k < 240 → ¬ pF J kl law k) ∧ ∀ q j, q ≠ hb + 13 → q ≠ hb + 15 + 5 * kl + 4 → I' q j = I0 q j) ∨ ∃ k, k < 240 ∧ pF J kl law k ∧ (∀ k', k' < k → ¬ pF J kl law k') ∧ cPT oc hb kl k (pzF J k) I0 I') := by
  have hkl := h.2.2.1.1
  have hX := h.2.2.1
  have hS := h.2.2.2.2.1
  have hF := h.2.1
  have b5 : I0 (hb + 1) 5 = (kl : Int) := (h.1.1.1 5 (by decide)).trans hX.2.1
  have psn : ∀ k, k < 240 → pF J kl law k → SN (I0 (hb + 8)) (I0 (hb + 9)) (-1) k := fun k hk z => (sn_iff h hk).mpr ⟨z.1, z.2.2.1.1⟩
  intro m
  induction m with
  | zero => intro _ _ _ _ _; exact par_none
  | succ m ih =>
    intro i I hi hI hno
    show par (fb_C_partOne_2 fu _ oc hb (f_C_partOne_2 fu _ oc hb m) (i : Int) I) _
    unfold fb_C_partOne_2
    have i5 : I oc 5 = (n : Int) := (hI _ _ (by omega) (by omega)).trans hS.2.1
    have i10 : I oc 10 = I0 oc 10 := hI _ _ (by omega) (by omega)
    rw [i5, i10]
    by_cases hin : i < n
    · rw [if_pos (by omega), if_pos (by omega)]
      by_cases hdear : I0 oc 10 = 0
      · rw [if_pos hdear]
        obtain ⟨k, k1, k2, k3⟩ := hS.2.2.1 i hin
        have ik : I (oc + 5) i = (k : Int) := (hI _ _ (by omega) (by omega)).trans k2
        have hpf := pF_iff h hpt k1 k3
        have s := (sn_iff h k1).mp k3
        have hink : INL J k := ⟨k1, s.1⟩
        have r1 := row_eq h hink (f := 1) (by decide)
        have z1 := h.2.2.2.2.2.1 k hink
        rw [show 141 + 6 * k = 140 + 6 * k + 1 by omega] at z1
        have pt := hpt _ z1.1 z1.2
        have p3 : I0 (hb + 3) (I0 (hb + 7) (6 * k + 1)).toNat = J 1 (16 + J 1 (140 + 6 * k + 1)).toNat := by
          rw [r1, h.1.1.2.2.2.2.1 _ (by omega) (by omega)]
          congr 1
          omega
        refine par_zg (fun _ => ?_)
        simp only [zl_e, zj_e]
        have wn : Wq (wr32 ((i : Int) + 1)) (((i + 1 : Nat) : Int)) := by show wr32 ((i : Int) + 1) = ((i + 1 : Nat) : Int); rw [wr32_i2 (by omega) (by omega)]; rfl
        have t7 : ∀ j, I (hb + 7) j = I0 (hb + 7) j := fun j => hI _ _ (by omega) (by omega)
        have t3 : ∀ j, I (hb + 3) j = I0 (hb + 3) j := fun j => hI _ _ (by omega) (by omega)
        have ec := ev_cpart fu oc hb k I k1 (by rw [t7, r1]; exact z1) (by rw [t7, t3, p3, r1]; exact pt)
        rw [t7, t7, t7, t3, hI oc 7 (by omega) (by omega), hI (oc + 1) k (by omega) (by omega)] at ec
        rw [show ((i : Nat) : Int).toNat = i from rfl, ik, ec, zb_zr, wn.e]
        have skip : ∀ I' : IMem, (∀ q j, q ≠ hb + 13 → q ≠ hb + 15 + 5 * kl + 4 → I' q j = I0 q j) → ¬ pF J kl law k → par (f_C_partOne_2 fu (fun (x18 : Int) (x19 : Int) (I17 : IMem) => zb (f_L_get fu (hb + 6) x18 1 I17) fun y20 I21 => zb (f_C_sit fu oc x18 x19 0 3 I21) fun _ I25 => zb (f_L_put fu (hb + 6) x18 1 (wr32 (y20 - x19)) I25) fun _ I28 => zb (f_L_put fu (hb + 6) x18 2 (wr32 (y20 - x19)) I28) fun _ I31 => zr 0 I31) oc hb m ((i + 1 : Nat) : Int) I') (fun _ I' => ((∀ k, k < 240 → ¬ pF J kl law k) ∧ ∀ q j, q ≠ hb + 13 → q ≠ hb + 15 + 5 * kl + 4 → I' q j = I0 q j) ∨ ∃ k, k < 240 ∧ pF J kl law k ∧ (∀ k', k' < k → ¬ pF J kl law k') ∧ cPT oc hb kl k (pzF J k) I0 I') := fun I' h1 h2 => ih (i + 1) I' hin h1 (fun i' k' hi' hk' => by
          by_cases q : i' = i
          · subst q
            have : k' = k := by omega
            rw [this]; exact h2
          · exact hno i' k' (by omega) hk')
        generalize hv : (if I0 oc 7 < I0 (hb + 7) (6 * k + 1) ∧ I0 (oc + 1) k = 0 ∧ I0 (hb + 7) (6 * k + 3) = 0 ∧ I0 (hb + 7) (6 * k + 2) = I0 (hb + 7) (6 * k + 1) then pz (I0 (hb + 3) (I0 (hb + 7) (6 * k + 1)).toNat) (I0 (hb + 7) (6 * k + 1)) (I0 oc 7) else 0) = part
        by_cases hpos : 0 < part
        · rw [if_pos hpos]
          have hcond : I0 oc 7 < I0 (hb + 7) (6 * k + 1) ∧ I0 (oc + 1) k = 0 ∧ I0 (hb + 7) (6 * k + 3) = 0 ∧ I0 (hb + 7) (6 * k + 2) = I0 (hb + 7) (6 * k + 1) := by
            rcases Classical.em (I0 oc 7 < I0 (hb + 7) (6 * k + 1) ∧ I0 (oc + 1) k = 0 ∧ I0 (hb + 7) (6 * k + 3) = 0 ∧ I0 (hb + 7) (6 * k + 2) = I0 (hb + 7) (6 * k + 1)) with q | q
            · exact q
            · rw [if_neg q] at hv; omega
          rw [if_pos hcond] at hv
          have hL1 : HL hb 1 I J := hl_mv h.1.2.2.2.1 (fun j => ⟨t7 j, hI _ _ (by omega) (by omega)⟩) (fun _ _ _ => rfl)
          have ek : (k : Nat) = 40 * (k / 40) + k % 40 := by omega
          have gw := cv_facts (fu := fu) (hb := hb) (l := k / 40) (p := k % 40) (left := I0 oc 7) (taken := I0 oc 8) (s := (kl : Int)) (I := I) (J := J) (by omega) hL1 (by omega) s.1
          rw [← ek] at gw
          rw [hI oc 7 (by omega) (by omega), hI oc 8 (by omega) (by omega)]
          refine par_zb gw (fun _ I1 ⟨g1, g2⟩ => ?_)
          have hI1 : ∀ q j, q ≠ hb + 13 → q ≠ hb + 15 + 5 * kl + 4 → I1 q j = I0 q j := fun q j a b => (g1 q j a).trans (hI q j a b)
          have b51 : I1 (hb + 1) 5 = (kl : Int) := (hI1 _ _ (by omega) (by omega)).trans b5
          rw [ev_law fu hb I1 (by rw [b51]; omega), zb_zr, b51, show ((kl : Nat) : Int).toNat = kl from rfl, show ((hb + 15 + 5 * kl : Nat) : Int).toNat = hb + 15 + 5 * kl from rfl]
          have hlc1 : LC (hb + 15 + 5 * kl) kl law I1 := lc_mv h.2.2.2.1 (fun d j hd => hI1 _ _ (by omega) (by omega))
          refine par_zb (cv_value (F := WF J (k / 40) (k % 40) (I0 oc 7) (I0 oc 8)) (fun d hd => by omega) hX.2.2.1 I1 hlc1 g2) (fun y I2 ⟨g3, g4⟩ => ?_)
          have hI2 : ∀ q j, q ≠ hb + 13 → q ≠ hb + 15 + 5 * kl + 4 → I2 q j = I0 q j := fun q j a b => (g4 q j b).trans (hI1 q j a b)
          rw [hF.1.1, hF.1.2.1] at g3
          refine par_ite (fun q => ?_) (fun q => skip I2 hI2 (fun z => by have := (hpf.1.mp z).2.2.2; omega))
          have hpk : pF J kl law k := hpf.1.mpr ⟨hdear, hcond, by rw [hv]; exact hpos, by omega⟩
          have hpe : pzF J k = part := by rw [hpf.2]; exact hv
          have e21 : I2 (hb + 6 + 1) (6 * k + 1) = I0 (hb + 7) (6 * k + 1) := hI2 _ _ (by omega) (by omega)
          rw [ev_get1 fu (hb + 6) k I2 k1, zb_zr, e21]
          have za : 1 ≤ I0 (hb + 7) (6 * k + 1) ∧ I0 (hb + 7) (6 * k + 1) ≤ 8 := by rw [r1]; exact z1
          have aa : 0 ≤ I0 (hb + 3) (I0 (hb + 7) (6 * k + 1)).toNat ∧ I0 (hb + 3) (I0 (hb + 7) (6 * k + 1)).toNat < I0 (hb + 7) (6 * k + 1) := by rw [p3, r1]; exact pt
          have pub : part ≤ I0 (hb + 7) (6 * k + 1) := by rw [← hv]; exact pz_le aa
          have plf : part ≤ I0 oc 7 := by rw [← hv]; exact pz_left (by rw [hv]; exact hpos)
          have w5 : Wq (wr32 (I0 (hb + 7) (6 * k + 1) - part)) (I0 (hb + 7) (6 * k + 1) - part) := wr32_i2 (by omega) (by omega)
          rw [w5.e]
          have ht : 0 ≤ I2 oc 8 ∧ I2 oc 8 < 8 := by
            rw [hI2 oc 8 (by omega) (by omega), hF.1.2.1]
            have := hF.2.1
            have h7 := hF.1.1
            omega
          refine par_zb (cv_sit (fu := fu) oc k part 0 3 I2 k1 ht) (fun _ I3 g5 => ?_)
          rw [ev_put1 fu (hb + 6) k _ I3 k1, zb_zw]
          refine par_zw' (fun I4 e4 => ?_)
          rw [zb_zr, ev_put2 fu (hb + 6) k _ I4 k1, zb_zw]
          refine par_zw' (fun I5 e5 => par_zr (Or.inr ⟨k, k1, hpk, fun k' hk' z => ?_, fun q j a b => ?_⟩))
          · obtain ⟨i', j1, j2⟩ := hS.2.2.2.2 k' (by omega) (psn k' (by omega) z)
            have : i' < i := by
              rcases Nat.lt_trichotomy i' i with w | w | w
              · exact w
              · subst w; omega
              · have := hS.2.2.2.1 i i' w j1; omega
            exact hno i' k' this j2 z
          · rw [e5, e4, g5, hpe]
            rw [hI2 q j a b, hI2 oc 11 (by omega) (by omega), hI2 oc 10 (by omega) (by omega), hI2 oc 7 (by omega) (by omega), hI2 oc 8 (by omega) (by omega)]
            by_cases c2 : q = hb + 7 ∧ (j = 6 * k + 1 ∨ j = 6 * k + 2)
            · rw [if_pos c2]
              by_cases c3 : j = 6 * k + 2
              · rw [if_pos (by omega)]
              · rw [if_neg (by omega), if_pos (by omega)]
            · rw [if_neg c2, if_neg (by omega), if_neg (by omega)]
        · rw [if_neg hpos]
          refine skip I hI (fun z => ?_)
          have zz := hpf.1.mp z
          rw [if_pos zz.2.1] at hv
          have := zz.2.2.1
          omega
      · rw [if_neg hdear]
        refine par_zr (Or.inl ⟨fun k hk z => ?_, hI⟩)
        have := hF.2.2.1.1
        have := z.2.1
        omega
    · rw [if_neg (by omega)]
      refine par_zr (Or.inl ⟨fun k hk z => ?_, hI⟩)
      obtain ⟨i', j1, j2⟩ := hS.2.2.2.2 k hk (psn k hk z)
      exact hno i' k (by omega) j2 z
/-- partOne: nobody, or the first who may be parted -/
theorem cv_partOne (hd : hb + 40 ≤ oc) {I J : IMem} (h : FIV oc hb kl law n I J) (hpt : PTS J) : par (f_C_partOne fu oc hb I) (fun _ I' => ((∀ k, k < 240 → ¬ pF J kl law k) ∧ ∀ q j, q ≠ hb + 13 → q ≠ hb + 15 + 5 * kl + 4 → I' q j = I q j) ∨ ∃ k, k < 240 ∧ pF J kl law k ∧ (∀ k', k' < k → ¬ pF J kl law k') ∧ cPT oc hb kl k (pzF J k) I I') :=
  cv_part2 hd h hpt fu 0 I (Nat.zero_le _) (fun _ _ _ _ => rfl) (fun _ _ hi => absurd hi (Nat.not_lt_zero _))
end
/-! a chair's filling, from its start -/
section
variable {fu : Nat}
theorem cv_zero (o : Nat) : ∀ (m i : Nat) (I : IMem), i ≤ 240 → (∀ j, j < i → I o j = 0) → par (f_JA_fill_5 fu o 240 0 240 m (i : Int) I) (fun _ I' => (∀ j, j < 240 → I' o j = 0) ∧ ∀ q, q ≠ o → I' q = I q) := by
  intro m
  induction m with
  | zero => intro _ _ _ _; exact par_none
  | succ m ih =>
    intro i I hi hz
    show par (fb_JA_fill_5 fu o 240 0 240 (f_JA_fill_5 fu o 240 0 240 m) (i : Int) I) _
    unfold fb_JA_fill_5
    by_cases h : i < 240
    · rw [if_pos (by omega)]
      refine par_zg (fun _ => par_zw' (fun I1 e1 => ?_))
      rw [show ((i : Nat) : Int).toNat = i from rfl] at e1
      simp only [zl_e]
      have wn : Wq (wr32 ((i : Int) + 1)) (((i + 1 : Nat) : Int)) := by show wr32 ((i : Int) + 1) = ((i + 1 : Nat) : Int); rw [wr32_i2 (by omega) (by omega)]; rfl
      rw [wn.e]
      refine par_mono (ih (i + 1) I1 h (fun j hj => ?_)) (fun _ I2 ⟨g1, g2⟩ => ⟨g1, fun q hq => ?_⟩)
      · rw [e1]
        by_cases z : j = i
        · rw [if_pos ⟨rfl, z⟩]
        · rw [if_neg (fun y => z y.2)]; exact hz j (by omega)
      · rw [g2 q hq]
        funext j
        rw [e1, if_neg (fun y => hq y.1)]
    · rw [if_neg (by omega)]
      exact par_zr ⟨fun j hj => hz j (by omega), fun _ _ => rfl⟩
theorem cv_clear (oc : Nat) (a : Int) (I : IMem) : par (f_C_clear fu oc a I) (fun _ I' => (∀ j, j < 240 → I' (oc + 1) j = 0) ∧ (I' oc 7 = a ∧ I' oc 8 = 0 ∧ I' oc 9 = 0 ∧ I' oc 10 = 0 ∧ I' oc 11 = 0) ∧ ∀ q j, q ≠ oc + 1 → ¬ (q = oc ∧ 7 ≤ j ∧ j ≤ 11) → I' q j = I q j) := by
  unfold f_C_clear f_JA_fill
  simp only [zl_e]
  refine par_zb (cv_zero (oc + 1) fu 0 I (by decide) (fun j hj => absurd hj (Nat.not_lt_zero _))) (fun _ I1 ⟨g1, g2⟩ => ?_)
  refine par_zw' (fun I2 e2 => par_zw' (fun I3 e3 => par_zw' (fun I4 e4 => par_zw' (fun I5 e5 => par_zw' (fun I6 e6 => par_zr ⟨fun j hj => ?_, ⟨?_, ?_, ?_, ?_, ?_⟩, fun q j h1 h2 => ?_⟩)))))
  · rw [e6, if_neg (by omega), e5, if_neg (by omega), e4, if_neg (by omega), e3, if_neg (by omega), e2, if_neg (by omega)]; exact g1 j hj
  · rw [e6, if_neg (by omega), e5, if_neg (by omega), e4, if_neg (by omega), e3, if_neg (by omega), e2, if_pos ⟨rfl, rfl⟩]
  · rw [e6, if_neg (by omega), e5, if_neg (by omega), e4, if_neg (by omega), e3, if_pos ⟨rfl, rfl⟩]
  · rw [e6, if_neg (by omega), e5, if_neg (by omega), e4, if_pos ⟨rfl, rfl⟩]
  · rw [e6, if_neg (by omega), e5, if_pos ⟨rfl, rfl⟩]
  · rw [e6, if_pos ⟨rfl, rfl⟩]
  · rw [e6, if_neg (by omega), e5, if_neg (by omega), e4, if_neg (by omega), e3, if_neg (by omega), e2, if_neg (by omega), g2 q h1]
theorem xv_beg2 {Q : Int → IMem → Prop} (kk : IMem → Res) (J0 : IMem) (hk : ∀ J, (∀ j, j < 240 → J 9 j = 0 ∧ J 12 j = 0) → (∀ q j, q ≠ 9 → q ≠ 12 → J q j = J0 q j) → par (kk J) Q) : ∀ (m i : Nat) (J : IMem), i ≤ 240 → (∀ j, j < i → J 9 j = 0 ∧ J 12 j = 0) → (∀ q j, q ≠ 9 → q ≠ 12 → J q j = J0 q j) → par (f_X_begins_2 fu kk 0 m (i : Int) J) Q := by
  intro m
  induction m with
  | zero => intro _ _ _ _ _; exact par_none
  | succ m ih =>
    intro i J hi hz hf
    show par (fb_X_begins_2 fu kk 0 (f_X_begins_2 fu kk 0 m) (i : Int) J) _
    unfold fb_X_begins_2
    by_cases h : i < 240
    · rw [if_pos (by omega)]
      refine par_zg (fun _ => par_zw' (fun I1 e1 => par_zg (fun _ => par_zw' (fun I2 e2 => ?_))))
      rw [show ((i : Nat) : Int).toNat = i from rfl] at e1 e2
      simp only [zl_e]
      have wn : Wq (wr32 ((i : Int) + 1)) (((i + 1 : Nat) : Int)) := by show wr32 ((i : Int) + 1) = ((i + 1 : Nat) : Int); rw [wr32_i2 (by omega) (by omega)]; rfl
      rw [wn.e]
      refine ih (i + 1) I2 h (fun j hj => ⟨?_, ?_⟩) (fun q j h1 h2 => ?_)
      · rw [e2, if_neg (by omega), e1]
        by_cases z : j = i
        · rw [if_pos (by omega)]
        · rw [if_neg (by omega)]; exact (hz j (by omega)).1
      · rw [e2]
        by_cases z : j = i
        · rw [if_pos (by omega)]
        · rw [if_neg (by omega), e1, if_neg (by omega)]; exact (hz j (by omega)).2
      · rw [e2, if_neg (by omega), e1, if_neg (by omega)]; exact hf q j h1 h2
    · rw [if_neg (by omega)]
      exact hk J (fun j hj => hz j (by omega)) hf
theorem xv_begins (J : IMem) : par (f_X_begins fu 0 J) (fun _ J' => (∀ j, j < 240 → J' 9 j = 0 ∧ J' 12 j = 0) ∧ (J' 0 30 = J 1 1 ∧ J' 0 31 = 0 ∧ J' 0 32 = 0 ∧ J' 0 33 = 0 ∧ J' 0 34 = 0) ∧ ∀ q j, q ≠ 9 → q ≠ 12 → ¬ (q = 0 ∧ 30 ≤ j ∧ j ≤ 34) → J' q j = J q j) := by
  unfold f_X_begins
  refine xv_beg2 (fu := fu) _ J (fun J1 g1 g2 => ?_) fu 0 J (by decide) (fun j hj => absurd hj (Nat.not_lt_zero _)) (fun _ _ _ _ => rfl)
  refine par_zw' (fun I2 e2 => par_zw' (fun I3 e3 => par_zw' (fun I4 e4 => par_zw' (fun I5 e5 => par_zw' (fun I6 e6 => par_zr ⟨fun j hj => ⟨?_, ?_⟩, ⟨?_, ?_, ?_, ?_, ?_⟩, fun q j h1 h2 h3 => ?_⟩)))))
  · rw [e6, if_neg (by omega), e5, if_neg (by omega), e4, if_neg (by omega), e3, if_neg (by omega), e2, if_neg (by omega)]; exact (g1 j hj).1
  · rw [e6, if_neg (by omega), e5, if_neg (by omega), e4, if_neg (by omega), e3, if_neg (by omega), e2, if_neg (by omega)]; exact (g1 j hj).2
  · rw [e6, if_neg (by omega), e5, if_neg (by omega), e4, if_neg (by omega), e3, if_neg (by omega), e2, if_pos ⟨rfl, rfl⟩]; exact g2 1 1 (by decide) (by decide)
  · rw [e6, if_neg (by omega), e5, if_neg (by omega), e4, if_neg (by omega), e3, if_pos ⟨rfl, rfl⟩]
  · rw [e6, if_neg (by omega), e5, if_neg (by omega), e4, if_pos ⟨rfl, rfl⟩]
  · rw [e6, if_neg (by omega), e5, if_pos ⟨rfl, rfl⟩]
  · rw [e6, if_pos ⟨rfl, rfl⟩]
  · rw [e6, if_neg (by omega), e5, if_neg (by omega), e4, if_neg (by omega), e3, if_neg (by omega), e2, if_neg (by omega), g2 q j h1 h2]
end
/-- the rows once one is parted in the class -/
def HLP (oc hb : Nat) (I J : IMem) : Prop := ∀ l, l < 6 → I (hb + 8) l = J 1 (130 + l) ∧ (0 ≤ J 1 (130 + l) ∧ J 1 (130 + l) ≤ 40) ∧ ∀ p f : Nat, (p : Int) < J 1 (130 + l) → f < 6 → I (hb + 7) (6 * (40 * l + p) + f) = if I (oc + 1) (40 * l + p) = 3 ∧ (f = 1 ∨ f = 2) then J 1 (140 + 6 * (40 * l + p) + 1) - J 9 (40 * l + p) else J 1 (140 + 6 * (40 * l + p) + f)
/-- a chair ready to go -/
def FE (oc hb : Nat) (I J : IMem) : Prop := (HS hb 1 I J ∧ HY hb 1 I J ∧ HP hb 1 I J ∧ HW hb 1 I J) ∧ HLP oc hb I J ∧ FRl oc I J
section
variable {fu oc hb : Nat} {I J : IMem}
theorem gx_facts (hg : GX 0 J) : (2 ≤ J 1 1 ∧ J 1 1 ≤ 8) ∧ (0 ≤ J 1 6 ∧ J 1 6 ≤ 3) ∧ (∀ l : Nat, l < 6 → 1 ≤ J 1 (10 + l) ∧ J 1 (10 + l) ≤ 24) ∧ PTS J ∧ (∀ k, INL J k → 1 ≤ J 1 (141 + 6 * k) ∧ J 1 (141 + 6 * k) ≤ 8) ∧ inr (J 1 5) ∧ 0 ≤ J 1 70 := by
  obtain ⟨hr, hw, _⟩ := hg
  obtain ⟨a, b, c, d, e, f, g, s, t⟩ := hw
  refine ⟨⟨a.1, a.2.1⟩, ⟨a.2.2.1, a.2.2.2.1⟩, b, fun z z1 z2 => ?_, fun k hk => ?_, hr 1 5, a.2.2.2.2.1⟩
  · have := c z.toNat (by omega) (by omega)
    rw [show (16 + z).toNat = 16 + z.toNat by omega]
    show 0 ≤ J (0 + 1) (16 + z.toNat) ∧ J (0 + 1) (16 + z.toNat) < z
    omega
  · have hk1 := hk.1
    have := g (k / 40) (k % 40) (by omega) hk.2
    rw [show 40 * (k / 40) + k % 40 = k by omega] at this
    exact this
theorem fill2 (h : HR hb 1 I J) (hg : GX 0 J) (hd : hb + 40 ≤ oc) : pq (f_C_fill fu oc hb I) (f_X_fills fu 0 J) (fun _ I' _ J' => FE oc hb I' J' ∧ J' 0 32 ≤ 144) := by
  obtain ⟨⟨s1, s2⟩, ⟨f1, f2⟩, gs, gpt, gz, gb, _⟩ := gx_facts hg
  obtain ⟨hS, hY, hP, hL, hW⟩ := h
  obtain ⟨kl, hkl, hk6⟩ : ∃ kl : Nat, kl < 4 ∧ J 1 6 = (kl : Int) := ⟨(J 1 6).toNat, by omega, by omega⟩
  obtain ⟨law, lc, lx, lo⟩ := hW kl (by omega)
  have b0 : I (hb + 1) 0 = J 1 1 := hS.1 0 (by decide)
  have hc : ∀ l, l < 6 → 0 ≤ J 1 (130 + l) ∧ J 1 (130 + l) ≤ 40 := fun l hl => (hl_c hL hl).2
  unfold f_C_fill f_X_fills
  rw [b0]
  refine pq_br (xv_begins (fu := fu) J) (fun _ J1 _ ⟨b1, ⟨b30, b31, b32, b33, b34⟩, bf⟩ => pq_bl (cv_clear (fu := fu) oc (J 1 1) I) (fun _ I1 _ ⟨c1, ⟨c7, c8, c9, c10, c11⟩, cf⟩ => ?_))
  have jw : ∀ j, J1 1 j = J 1 j := fun j => bf _ _ (by decide) (by decide) (by omega)
  have ih : ∀ q j, q < oc → I1 q j = I q j := fun q j hq => cf _ _ (by omega) (by omega)
  have sg : ∀ l : Nat, l < 6 → 0 ≤ I1 (hb + 6 + 3) l + (if (l : Int) = -1 then 1 else 0) ∧ I1 (hb + 6 + 3) l + (if (l : Int) = -1 then 1 else 0) ≤ 24 := by
    intro l hl
    have : I1 (hb + 6 + 3) l = J 1 (10 + l) := (ih _ _ (by omega)).trans (hS.2.2.2.1 l hl)
    have := gs l hl
    rw [if_neg (by omega)]
    omega
  have cg : ∀ l, l < 6 → 0 ≤ I1 (hb + 6 + 2) l ∧ I1 (hb + 6 + 2) l ≤ 40 := by
    intro l hl
    have e : I1 (hb + 6 + 2) l = J 1 (130 + l) := (ih _ _ (by omega)).trans (hl_c hL hl).1
    rw [e]; exact hc l hl
  refine pq_bl (cv_seen (fu := fu) (hb + 6) (oc + 5) (-1) (by omega) I1 cg sg) (fun v I2 _ ⟨n, hv, hn, hsl, h2⟩ => ?_)
  refine pq_zwl' (fun I3 e3 => ?_)
  have i3 : ∀ q j, q ≠ oc + 5 → ¬ (q = oc ∧ j = 5) → I3 q j = I1 q j := fun q j a b => by rw [e3, if_neg b, h2 q a]
  have a5 : I3 (oc + 5) = I2 (oc + 5) := funext (fun j => by rw [e3, if_neg (by omega)])
  have fiv : FIV oc hb kl law n I3 J1 := by
    have io : ∀ q j, q < oc → I3 q j = I q j := fun q j hq => (i3 q j (by omega) (by omega)).trans (ih q j hq)
    refine ⟨⟨hs_mv hS (fun d j q => io _ _ (by omega)) (fun j _ => jw j), hy_mv hY (fun j => io _ _ (by omega)) (fun j _ _ => jw j), hp_mv hP (fun j => ⟨io _ _ (by omega), io _ _ (by omega)⟩) (fun j _ => jw j), hl_mv hL (fun j => ⟨io _ _ (by omega), io _ _ (by omega)⟩) (fun j _ _ => jw j), hw_mv hW (fun d j _ _ _ => io _ _ (by omega)) (fun j _ _ => jw j)⟩, ?_, ⟨hkl, by rw [jw]; exact hk6, lo, lx_mv (by omega) lo lx (fun j _ _ => jw j)⟩, lc_mv lc (fun d j _ => io _ _ (by omega)), ⟨hn, ?_, ?_⟩, fun k hk => ?_, fun k hk => ?_, ⟨by rw [jw]; exact gb, pts_mv gpt (fun j _ _ => jw j)⟩, ?_⟩
    · refine ⟨⟨?_, ?_, ?_⟩, ?_, ?_, ?_, fun k hk => ?_, fun i hi => ?_, fun i hi => ?_, ?_⟩
      · rw [i3 _ _ (by omega) (by omega), c7, b30]
      · rw [i3 _ _ (by omega) (by omega), c8, b31]
      · rw [i3 _ _ (by omega) (by omega), c9, b32]
      · rw [b30, b31, b32]; omega
      · rw [i3 _ _ (by omega) (by omega), c10, b33, b31]; exact ⟨Or.inl ⟨rfl, rfl⟩, Int.le_refl _⟩
      · rw [i3 _ _ (by omega) (by omega), c11, b34, b31]; exact ⟨Or.inl ⟨rfl, rfl⟩, Int.le_refl _⟩
      · rw [i3 _ _ (by omega) (by omega), c1 k hk, (b1 k hk).1, (b1 k hk).2]; exact Or.inl ⟨rfl, rfl, rfl⟩
      · rw [b31] at hi; omega
      · rw [b32] at hi; omega
      · rw [jw, b30, b31]
        show J 1 1 = J 1 1 + 0
        omega
    · rw [e3, if_pos ⟨rfl, rfl⟩, hv]
    · rw [a5, show I3 (hb + 8) = I1 (hb + 6 + 2) from funext (fun j => i3 _ _ (by omega) (by omega)), show I3 (hb + 9) = I1 (hb + 6 + 3) from funext (fun j => i3 _ _ (by omega) (by omega))]; exact hsl
    · rw [jw]; exact gz k ⟨hk.1, by have := hk.2; rw [jw] at this; exact this⟩
    · rw [i3 _ _ (by omega) (by omega), c1 k hk]; decide
    · rw [b31, b32]
      have : ∀ m : Nat, m ≤ n → cnt (fun i => I3 (oc + 1) (I3 (oc + 5) i).toNat) m = 0 := by
        intro m
        induction m with
        | zero => intro _; rfl
        | succ m ihm =>
          intro hm
          show cnt (fun i => I3 (oc + 1) (I3 (oc + 5) i).toNat) m + (if I3 (oc + 1) (I3 (oc + 5) m).toNat = 0 then 0 else 1) = 0
          obtain ⟨k, k1, k2, _⟩ := hsl.1 m (by omega)
          rw [ihm (by omega), if_pos (by rw [i3 _ _ (by omega) (by omega)]; exact c1 _ (by rw [a5, k2]; omega))]
          rfl
      rw [this n (Nat.le_refl _)]
      rfl
  refine fill_loop (fu := fu) (n := n) (kl := kl) (law := law) hd _ _ _ (fun I4 J4 f4 => ?_) fu fu 1 0 I3 J1 fiv (fun z => absurd z (by decide)) (by rw [b31, b32]; rfl)
  have f4' := f4
  obtain ⟨⟨qS, qY, qP, qL, qW⟩, qF, qX, qC, qn, qz, q3, ⟨q5, qpt⟩, qc⟩ := f4'
  have qn144 : J4 0 32 ≤ 144 := by
    have := (cnt_nn (fun i => I4 (oc + 1) (I4 (oc + 5) i).toNat) n).2
    have := qn.1
    have := qF.2.1
    omega
  have hc4 : ∀ l, l < 6 → 0 ≤ J4 1 (130 + l) ∧ J4 1 (130 + l) ≤ 40 := fun l hl => (hl_c qL hl).2
  refine pq_bl (cv_partOne (fu := fu) hd f4 qpt) (fun _ I5 _ g1 => pq_br (xv_parts0 (fu := fu) J4 qX qz qpt hc4 (by have := qF.2.2.1.1; omega) (by have := qF.2.1; omega)) (fun _ J5 _ g2 => pq_end ?_))
  rcases g1 with ⟨g1, g3⟩ | ⟨k, k1, k2, k3, k4⟩
  · rcases g2 with ⟨g2, g4⟩ | ⟨k', p1, p2, p3, p4, p5⟩
    · have io : ∀ q j, q ≠ hb + 13 → q ≠ hb + 15 + 5 * kl + 4 → q ≠ oc + 6 → I5 q j = I4 q j := fun q j a b _ => g3 q j a b
      have f5 := fiv_same f4 hd hkl io g4
      obtain ⟨⟨xS, xY, xP, xL, xW⟩, xF, xX, xC, xn, xz, x3, _⟩ := f5
      refine ⟨⟨⟨xS, xY, xP, xW⟩, fun l hl => ⟨(xL l hl).1, (xL l hl).2.1, fun p f hp hf => ?_⟩, xF⟩, by rw [g4 0 32 (by decide) (by decide)]; exact qn144⟩
      have hp4 := (xL l hl).2.1.2
      rw [if_neg (fun z => x3 (40 * l + p) (by omega) z.1)]
      exact (xL l hl).2.2 p f hp hf
    · exact absurd p2 (g1 k' p1)
  · rcases g2 with ⟨g2, g4⟩ | ⟨k', p1, p2, p3, p4, p5⟩
    · exact absurd k2 (g2 k k1)
    · have hkk : k' = k := by
        rcases Nat.lt_trichotomy k' k with w | w | w
        · exact absurd p2 (k3 k' w)
        · exact w
        · exact absurd k2 (p3 k w)
      subst hkk
      have hin : INL J4 k' := ⟨p1, p2.1⟩
      have hs := (sn_iff f4 p1).mpr ⟨p2.1, p2.2.2.1.1⟩
      have hpf := (pF_iff f4 qpt p1 hs).1.mp p2
      have r1 := row_eq f4 hin (f := 1) (by decide)
      have jw4 : ∀ j, J5 1 j = J4 1 j := fun j => by rw [p5 _ _ (by decide) (by decide), if_neg (by omega), if_neg (by omega), if_neg (by omega), if_neg (by omega), if_neg (by omega), if_neg (by omega)]
      have io : ∀ q j, q < oc → q ≠ hb + 13 → q ≠ hb + 15 + 5 * kl + 4 → q ≠ hb + 7 → I5 q j = I4 q j := fun q j a b c d => by rw [k4 q j b c, if_neg (by omega), if_neg (by omega), if_neg (by omega), if_neg (by omega), if_neg (by omega), if_neg (by omega), if_neg (by omega), if_neg (by omega)]
      have i1 : ∀ j, I5 (oc + 1) j = if j = k' then 3 else I4 (oc + 1) j := by
        intro j
        rw [k4 _ _ (by omega) (by omega), if_neg (by omega), if_neg (by omega), if_neg (by omega), if_neg (by omega), if_neg (by omega), if_neg (by omega), if_neg (by omega)]
        by_cases q : j = k'
        · rw [if_pos ⟨rfl, q⟩, if_pos q]
        · rw [if_neg (fun z => q z.2), if_neg q]
      have j9 : ∀ j, J5 9 j = if j = k' then pzF J4 k' else J4 9 j := by
        intro j
        rw [p5 _ _ (by decide) (by decide), if_neg (by omega), if_neg (by omega), if_neg (by omega), if_neg (by omega), if_neg (by omega)]
        by_cases q : j = k'
        · rw [if_pos ⟨rfl, q⟩, if_pos q]
        · rw [if_neg (fun z => q z.2), if_neg q]
      refine ⟨⟨⟨hs_mv qS (fun d j q => io _ _ (by omega) (by omega) (by omega) (by omega)) (fun j _ => jw4 j), hy_mv qY (fun j => io _ _ (by omega) (by omega) (by omega) (by omega)) (fun j _ _ => jw4 j), hp_mv qP (fun j => ⟨io _ _ (by omega) (by omega) (by omega) (by omega), io _ _ (by omega) (by omega) (by omega) (by omega)⟩) (fun j _ => jw4 j), hw_mv qW (fun d j _ _ _ => io _ _ (by omega) (by omega) (by omega) (by omega)) (fun j _ _ => jw4 j)⟩, fun l hl => ⟨?_, ?_, fun p f hp hf => ?_⟩, ?_⟩, ?_⟩
      · rw [io _ _ (by omega) (by omega) (by omega) (by omega), jw4]; exact (qL l hl).1
      · rw [jw4]; exact (qL l hl).2.1
      · rw [jw4] at hp
        have hp4 := (qL l hl).2.1.2
        rw [i1, j9, jw4, jw4, k4 _ _ (by omega) (by omega)]
        by_cases q : 40 * l + p = k'
        · rw [if_pos q, if_pos q]
          by_cases qf : f = 1 ∨ f = 2
          · rw [if_pos (by omega), if_pos ⟨rfl, qf⟩, r1, q]
          · rw [if_neg (by omega), if_neg (by omega), if_neg (by omega), if_neg (by omega), if_neg (by omega), if_neg (by omega), if_neg (by omega), if_neg (by omega), if_neg (fun z => qf z.2)]
            exact (qL l hl).2.2 p f hp hf
        · rw [if_neg q, if_neg q, if_neg (by omega), if_neg (by omega), if_neg (by omega), if_neg (by omega), if_neg (by omega), if_neg (by omega), if_neg (by omega), if_neg (by omega), if_neg (fun z => q3 (40 * l + p) (by omega) z.1)]
          exact (qL l hl).2.2 p f hp hf
      · refine frl_sit (oc := oc) (k := k') (size := pzF J4 k') (sort := 0) (mark := 3) qF hin hpf.2.1.2.1 ⟨p4.1, p4.2.1⟩ p2.2.2.2.1.symm (Or.inr ⟨rfl, p4.2.2⟩) (fun q j a => ?_) (fun q j a b => p5 q j a b)
        rw [k4 q j (by omega) (by omega), if_neg (by omega)]
      · rw [p5 0 32 (by decide) (by decide), if_neg (by omega), if_neg (by omega), if_neg (by omega), if_neg (by omega), if_neg (by omega), if_neg (by omega)]; exact qn144
end
/-! those who sit are noted, on both sides -/
theorem wr32_wl (x y : Int) : wr32 (wr32 x + y) = wr32 (x + y) := by unfold wr32; omega
section
variable {fu : Nat}
theorem cv_note (hb i k z : Nat) (I : IMem) (hi : i < 8) (hk : k < 240) (hz : 1 ≤ z ∧ z ≤ 8) : par (f_H_note fu hb (i : Int) (k : Int) (z : Int) I) (fun _ I' => ∀ q j, I' q j = if q = hb + 11 ∧ j = 20 + i then (z : Int) else if q = hb + 11 ∧ j = 10 + i then I (hb + 7) (6 * k + 0) else if q = hb + 10 ∧ j = 2 then wr32 (I (hb + 10) 2 + z) else if q = hb + 10 ∧ j = 30 + z then (if I (hb + 10) (30 + z) < I (hb + 7) (6 * k + 4) then I (hb + 7) (6 * k + 4) else I (hb + 10) (30 + z)) else if q = hb + 10 ∧ j = 20 + z then wr32 (I (hb + 10) (20 + z) + I (hb + 7) (6 * k + 4)) else if q = hb + 10 ∧ j = 10 + z then wr32 (I (hb + 10) (10 + z) + 1) else I q j) := by
  unfold f_H_note
  rw [if_neg (by omega), if_pos (by omega), if_neg (by omega), if_neg (by omega), ev_get4 fu (hb + 6) k I hk, zb_zr]
  have w1 : Wq (wr32 (10 + (z : Int))) (((10 + z : Nat) : Int)) := by show wr32 (10 + (z : Int)) = ((10 + z : Nat) : Int); rw [wr32_i2 (by omega) (by omega)]; omega
  have w2 : Wq (wr32 (20 + (z : Int))) (((20 + z : Nat) : Int)) := by show wr32 (20 + (z : Int)) = ((20 + z : Nat) : Int); rw [wr32_i2 (by omega) (by omega)]; omega
  have w3 : Wq (wr32 (30 + (z : Int))) (((30 + z : Nat) : Int)) := by show wr32 (30 + (z : Int)) = ((30 + z : Nat) : Int); rw [wr32_i2 (by omega) (by omega)]; omega
  have w4 : Wq (wr32 (10 + (i : Int))) (((10 + i : Nat) : Int)) := by show wr32 (10 + (i : Int)) = ((10 + i : Nat) : Int); rw [wr32_i2 (by omega) (by omega)]; omega
  have w5 : Wq (wr32 (20 + (i : Int))) (((20 + i : Nat) : Int)) := by show wr32 (20 + (i : Int)) = ((20 + i : Nat) : Int); rw [wr32_i2 (by omega) (by omega)]; omega
  simp only [zl_e]
  rw [w1.e, w2.e, w3.e, w4.e, w5.e]
  refine par_zg (fun _ => par_zg (fun _ => par_zw' (fun I1 e1 => par_zg (fun _ => par_zg (fun _ => par_zw' (fun I2 e2 => par_zg (fun _ => ?_)))))))
  rw [ev_max, zb_zr]
  refine par_zg (fun _ => par_zw' (fun I3 e3 => par_zw' (fun I4 e4 => ?_)))
  rw [ev_get0 fu (hb + 6) k I4 hk, zb_zr]
  refine par_zg (fun _ => par_zw' (fun I5 e5 => par_zg (fun _ => par_zw' (fun I6 e6 => par_zr (fun q j => ?_)))))
  have n1 : ((10 + z : Nat) : Int).toNat = 10 + z := rfl
  have n2 : ((20 + z : Nat) : Int).toNat = 20 + z := rfl
  have n3 : ((30 + z : Nat) : Int).toNat = 30 + z := rfl
  have n4 : ((10 + i : Nat) : Int).toNat = 10 + i := rfl
  have n5 : ((20 + i : Nat) : Int).toNat = 20 + i := rfl
  rw [n1] at e1
  rw [n2] at e2
  rw [n3] at e3
  rw [n4] at e5
  rw [n5] at e6
  have a2 : I1 (hb + 10) (20 + z) = I (hb + 10) (20 + z) := by rw [e1, if_neg (by omega)]
  have a3 : I2 (hb + 10) (30 + z) = I (hb + 10) (30 + z) := by rw [e2, if_neg (by omega), e1, if_neg (by omega)]
  have a4 : I3 (hb + 10) 2 = I (hb + 10) 2 := by rw [e3, if_neg (by omega), e2, if_neg (by omega), e1, if_neg (by omega)]
  have a5 : I4 (hb + 6 + 1) (6 * k + 0) = I (hb + 7) (6 * k + 0) := by rw [e4, if_neg (by omega), e3, if_neg (by omega), e2, if_neg (by omega), e1, if_neg (by omega)]
  rw [show I (hb + 6 + 1) (6 * k + 4) = I (hb + 7) (6 * k + 4) from rfl] at e2 e3
  rw [a2] at e2
  rw [a3] at e3
  rw [a4] at e4
  rw [a5] at e5
  rw [e6, e5, e4, e3, e2, e1]
end
def NRl (oc hb : Nat) (i : Nat) (I0 J0 I J : IMem) : Prop :=
  (∀ q j, ¬ ((q = hb + 10 ∧ (j = 2 ∨ (11 ≤ j ∧ j ≤ 38))) ∨ (q = hb + 11 ∧ 10 ≤ j ∧ j ≤ 27)) → I q j = I0 q j) ∧
  (∀ q j, ¬ (q = 1 ∧ ((81 ≤ j ∧ j ≤ 108) ∨ (112 ≤ j ∧ j ≤ 127))) → J q j = J0 q j) ∧
  (∀ s, 1 ≤ s → s ≤ 8 → I (hb + 10) (10 + s) = J 1 (80 + s) ∧ I (hb + 10) (20 + s) = J 1 (90 + s) ∧ I (hb + 10) (30 + s) = J 1 (100 + s)) ∧
  (∀ t, t < 8 → I (hb + 11) (10 + t) = J 1 (112 + t) ∧ I (hb + 11) (20 + t) = J 1 (120 + t)) ∧
  I (hb + 10) 2 = wr32 (I0 (hb + 10) 2 + sm (I0 (oc + 3)) i)
section
variable {fu oc hb : Nat} {Q : Int → IMem → Int → IMem → Prop}
theorem note2 (hd : hb + 40 ≤ oc) (kC kX : IMem → Res) (p1 p2 : Int) (I0 J0 : IMem) (hF : FRl oc I0 J0) (hL : HLP oc hb I0 J0) (hend : ∀ I J, NRl oc hb (J0 0 31).toNat I0 J0 I J → pq (kC I) (kX J) Q) : ∀ (m m2 i : Nat) (I J : IMem), (i : Int) ≤ J0 0 31 → NRl oc hb i I0 J0 I J → pq (f_C_leave_9 fu kC oc hb p2 m (i : Int) I) (f_X_goesOff_61 fu kX 0 p1 m2 (i : Int) J) Q := by
  intro m
  induction m with
  | zero => intro _ _ _ _ _ _; exact pq_nl
  | succ m ih =>
    intro m2 i I J hi hN
    cases m2 with
    | zero => exact pq_nr
    | succ m2 =>
    show pq (fb_C_leave_9 fu kC oc hb p2 (f_C_leave_9 fu kC oc hb p2 m) (i : Int) I) (fb_X_goesOff_61 fu kX 0 p1 (f_X_goesOff_61 fu kX 0 p1 m2) (i : Int) J) Q
    unfold fb_C_leave_9 fb_X_goesOff_61
    have hN' := hN
    obtain ⟨n1, n2, n3, n4, n5⟩ := hN'
    have hF' := hF
    obtain ⟨⟨a1, a2, a3⟩, ⟨b1, b2, b3, b4⟩, _, _, e, fo, g, s⟩ := hF'
    have i8 : I oc 8 = J0 0 31 := (n1 _ _ (by omega)).trans a2
    have j31 : J 0 31 = J0 0 31 := n2 _ _ (by omega)
    rw [i8, j31]
    by_cases h : (i : Int) < J0 0 31
    · rw [if_pos h, if_pos (by omega), if_pos h]
      obtain ⟨k, k1, k2, k3, k4, k5, k6⟩ := fo i h
      obtain ⟨z, hz⟩ : ∃ z : Nat, J0 9 k = (z : Int) := ⟨(J0 9 k).toNat, by omega⟩
      have hk := k1.1
      have r : ∀ f, f < 6 → ¬ (f = 1 ∨ f = 2) → I0 (hb + 7) (6 * k + f) = J0 1 (140 + 6 * k + f) := by
        intro f hf h12
        have := (hL (k / 40) (by omega)).2.2 (k % 40) f k1.2 hf
        rw [show 40 * (k / 40) + k % 40 = k by omega, if_neg (fun q => h12 q.2)] at this
        exact this
      have s1 : I (oc + 2) i = (k : Int) := (n1 _ _ (by omega)).trans k3
      have s2 : I (oc + 3) i = (z : Int) := (n1 _ _ (by omega)).trans (k4.trans hz)
      have t1 : J 11 i = (k : Int) := (n2 _ _ (by omega)).trans k2
      have t2 : J 9 k = (z : Int) := (n2 _ _ (by omega)).trans hz
      refine pq_gl (fun _ => pq_gl (fun _ => ?_))
      rw [show ((i : Nat) : Int).toNat = i from rfl, s1, s2]
      refine pq_bl (cv_note (fu := fu) hb i k z I (by omega) hk (by omega)) (fun _ I1 _ g1 => ?_)
      have wn : Wq (wr32 ((i : Int) + 1)) (((i + 1 : Nat) : Int)) := by show wr32 ((i : Int) + 1) = ((i + 1 : Nat) : Int); rw [wr32_i2 (by omega) (by omega)]; rfl
      simp only [zl_e, zj_e, Nat.zero_add]
      rw [wn.e, t1, wd40 k hk, wr40 k hk]
      refine pq_gr (fun _ => pq_gr (fun _ => pq_gr (fun _ => pq_gr (fun _ => ?_))))
      rw [show ((k : Nat) : Int).toNat = k from rfl, t2, ev_of4 fu 0 (k / 40) (k % 40) J (by omega) (by omega), zb_zr, ev_of0 fu 0 (k / 40) (k % 40) J (by omega) (by omega), zb_zr, show 40 * (k / 40) + k % 40 = k by omega]
      have w1 : Wq (wr32 (112 + (i : Int))) (((112 + i : Nat) : Int)) := by show wr32 (112 + (i : Int)) = ((112 + i : Nat) : Int); rw [wr32_i2 (by omega) (by omega)]; omega
      have w2 : Wq (wr32 (120 + (i : Int))) (((120 + i : Nat) : Int)) := by show wr32 (120 + (i : Int)) = ((120 + i : Nat) : Int); rw [wr32_i2 (by omega) (by omega)]; omega
      have w3 : Wq (wr32 (80 + (z : Int))) (((80 + z : Nat) : Int)) := by show wr32 (80 + (z : Int)) = ((80 + z : Nat) : Int); rw [wr32_i2 (by omega) (by omega)]; omega
      have w4 : Wq (wr32 (90 + (z : Int))) (((90 + z : Nat) : Int)) := by show wr32 (90 + (z : Int)) = ((90 + z : Nat) : Int); rw [wr32_i2 (by omega) (by omega)]; omega
      have w5 : Wq (wr32 (100 + (z : Int))) (((100 + z : Nat) : Int)) := by show wr32 (100 + (z : Int)) = ((100 + z : Nat) : Int); rw [wr32_i2 (by omega) (by omega)]; omega
      rw [w1.e, w2.e, w3.e, w4.e, w5.e]
      have y4 : J (0 + 1) (140 + 6 * k + 4) = J0 1 (140 + 6 * k + 4) := n2 _ _ (by omega)
      have y0 : J (0 + 1) (140 + 6 * k + 0) = J0 1 (140 + 6 * k + 0) := n2 _ _ (by omega)
      rw [y4, y0]
      refine pq_gr (fun _ => pq_zwr' (fun J1 e1 => pq_gr (fun _ => pq_zwr' (fun J2 e2 => pq_gr (fun _ => pq_gr (fun _ => pq_zwr' (fun J3 e3 => pq_gr (fun _ => pq_gr (fun _ => pq_zwr' (fun J4 e4 => pq_gr (fun _ => ?_)))))))))))
      rw [show ((112 + i : Nat) : Int).toNat = 112 + i from rfl] at e1
      rw [show ((120 + i : Nat) : Int).toNat = 120 + i from rfl] at e2
      rw [show ((80 + z : Nat) : Int).toNat = 80 + z from rfl] at e3
      rw [show ((90 + z : Nat) : Int).toNat = 90 + z from rfl] at e4
      have c3 : J2 1 (80 + z) = J 1 (80 + z) := by rw [e2, if_neg (by omega), e1, if_neg (by omega)]
      have c4 : J3 1 (90 + z) = J 1 (90 + z) := by rw [e3, if_neg (by omega), e2, if_neg (by omega), e1, if_neg (by omega)]
      have c5 : J4 1 (100 + z) = J 1 (100 + z) := by rw [e4, if_neg (by omega), e3, if_neg (by omega), e2, if_neg (by omega), e1, if_neg (by omega)]
      have b4' : ∀ q j, J4 q j = if q = 1 ∧ j = 90 + z then wr32 (J 1 (90 + z) + J0 1 (140 + 6 * k + 4)) else if q = 1 ∧ j = 80 + z then wr32 (J 1 (80 + z) + 1) else if q = 1 ∧ j = 120 + i then (z : Int) else if q = 1 ∧ j = 112 + i then J0 1 (140 + 6 * k + 0) else J q j := fun q j => by
        rw [c3] at e3
        rw [c4] at e4
        rw [e4, e3, e2, e1]
      clear e4 e3 e2 e1
      -- with the longest told
      have fin : ∀ J5 : IMem, (∀ q j, J5 q j = if q = 1 ∧ j = 100 + z then (if J 1 (100 + z) < J0 1 (140 + 6 * k + 4) then J0 1 (140 + 6 * k + 4) else J 1 (100 + z)) else J4 q j) → NRl oc hb (i + 1) I0 J0 I1 J5 := by
        intro J5 e5
        have x4 : I (hb + 7) (6 * k + 4) = J0 1 (140 + 6 * k + 4) := (n1 _ _ (by omega)).trans (r 4 (by decide) (by decide))
        have x0 : I (hb + 7) (6 * k + 0) = J0 1 (140 + 6 * k + 0) := (n1 _ _ (by omega)).trans (r 0 (by decide) (by decide))
        refine ⟨fun q j hq => ?_, fun q j hq => ?_, fun s h1 h2 => ?_, fun t ht => ?_, ?_⟩
        · rw [g1, if_neg (by omega), if_neg (by omega), if_neg (by omega), if_neg (by omega), if_neg (by omega), if_neg (by omega)]; exact n1 q j hq
        · rw [e5, if_neg (by omega), b4', if_neg (by omega), if_neg (by omega), if_neg (by omega), if_neg (by omega)]; exact n2 q j hq
        · have q1 := n3 s h1 h2
          rw [g1, g1, g1, e5, e5, e5, b4', b4', b4']
          by_cases hs : s = z
          · subst hs
            refine ⟨?_, ?_, ?_⟩
            · rw [if_neg (by omega), if_neg (by omega), if_neg (by omega), if_neg (by omega), if_neg (by omega), if_pos ⟨rfl, rfl⟩, if_neg (by omega), if_neg (by omega), if_pos ⟨rfl, rfl⟩, q1.1]
            · rw [if_neg (by omega), if_neg (by omega), if_neg (by omega), if_neg (by omega), if_pos ⟨rfl, rfl⟩, if_neg (by omega), if_pos ⟨rfl, rfl⟩, q1.2.1, x4]
            · rw [if_neg (by omega), if_neg (by omega), if_neg (by omega), if_pos ⟨rfl, rfl⟩, q1.2.2, x4]
              exact (if_pos ⟨rfl, rfl⟩).symm
          · refine ⟨?_, ?_, ?_⟩
            · rw [if_neg (by omega), if_neg (by omega), if_neg (by omega), if_neg (by omega), if_neg (by omega), if_neg (by omega), if_neg (by omega), if_neg (by omega), if_neg (by omega), if_neg (by omega), if_neg (by omega)]; exact q1.1
            · rw [if_neg (by omega), if_neg (by omega), if_neg (by omega), if_neg (by omega), if_neg (by omega), if_neg (by omega), if_neg (by omega), if_neg (by omega), if_neg (by omega), if_neg (by omega), if_neg (by omega)]; exact q1.2.1
            · rw [if_neg (by omega), if_neg (by omega), if_neg (by omega), if_neg (by omega), if_neg (by omega), if_neg (by omega), if_neg (by omega), if_neg (by omega), if_neg (by omega), if_neg (by omega), if_neg (by omega)]; exact q1.2.2
        · have q1 := n4 t ht
          rw [g1, g1, e5, e5, b4', b4']
          by_cases hs : t = i
          · subst hs
            refine ⟨?_, ?_⟩
            · rw [if_neg (by omega), if_pos ⟨rfl, rfl⟩, if_neg (by omega), if_neg (by omega), if_neg (by omega), if_neg (by omega), if_pos ⟨rfl, rfl⟩]; exact x0
            · rw [if_pos ⟨rfl, rfl⟩, if_neg (by omega), if_neg (by omega), if_neg (by omega), if_pos ⟨rfl, rfl⟩]
          · refine ⟨?_, ?_⟩
            · rw [if_neg (by omega), if_neg (by omega), if_neg (by omega), if_neg (by omega), if_neg (by omega), if_neg (by omega), if_neg (by omega), if_neg (by omega), if_neg (by omega), if_neg (by omega), if_neg (by omega)]; exact q1.1
            · rw [if_neg (by omega), if_neg (by omega), if_neg (by omega), if_neg (by omega), if_neg (by omega), if_neg (by omega), if_neg (by omega), if_neg (by omega), if_neg (by omega), if_neg (by omega), if_neg (by omega)]; exact q1.2
        · rw [g1, if_neg (by omega), if_neg (by omega), if_pos ⟨rfl, rfl⟩, n5, wr32_wl]
          show _ = wr32 (I0 (hb + 10) 2 + (sm (I0 (oc + 3)) i + I0 (oc + 3) i))
          rw [k4, hz]
          exact congrArg wr32 (by omega)
      rw [show ((100 + z : Nat) : Int).toNat = 100 + z from rfl, c5]
      by_cases hl : J 1 (100 + z) < J0 1 (140 + 6 * k + 4)
      · rw [if_pos hl]
        refine pq_gr (fun _ => pq_zwr' (fun J5 e5 => ih m2 (i + 1) I1 J5 (by omega) (fin J5 (fun q j => ?_))))
        rw [e5, if_pos hl]
      · rw [if_neg hl]
        refine ih m2 (i + 1) I1 J4 (by omega) (fin J4 (fun q j => ?_))
        by_cases hq : q = 1 ∧ j = 100 + z
        · rw [if_pos hq, if_neg hl, hq.1, hq.2, c5]
        · rw [if_neg hq]
    · rw [if_neg h, if_neg h]
      refine hend I J ?_
      rw [show (J0 0 31).toNat = i by omega]
      exact hN
end
/-! the lines move up, on both sides -/
section
variable {fu : Nat} {Q : Int → IMem → Prop}
/-- the rearmost of a line that sits -/
def REAR (mk : Nat → Int) (c : Int) (R : Int) : Prop := (R = -1 ∧ ∀ p : Nat, (p : Int) < c → ¬ (mk p = 1 ∨ mk p = 3)) ∨ ∃ r : Nat, R = (r : Int) ∧ (r : Int) < c ∧ (mk r = 1 ∨ mk r = 3) ∧ ∀ p : Nat, r < p → (p : Int) < c → ¬ (mk p = 1 ∨ mk p = 3)
theorem cv_rear9 (o1 l : Nat) (hl : l < 6) (c : Int) (hc : 0 ≤ c ∧ c ≤ 40) (I : IMem) : ∀ (m j : Nat), (j : Int) ≤ c → (∀ p : Nat, j ≤ p → (p : Int) < c → ¬ (I o1 (40 * l + p) = 1 ∨ I o1 (40 * l + p) = 3)) → par (f_L_rearmostSitting_9 fu o1 240 (l : Int) m ((j : Int) - 1) I) (fun v I' => I' = I ∧ REAR (fun p => I o1 (40 * l + p)) c v) := by
  intro m
  induction m with
  | zero => intro _ _ _; exact par_none
  | succ m ih =>
    intro j hj hn
    show par (fb_L_rearmostSitting_9 fu o1 240 (l : Int) (f_L_rearmostSitting_9 fu o1 240 (l : Int) m) ((j : Int) - 1) I) _
    unfold fb_L_rearmostSitting_9
    cases j with
    | zero =>
      rw [if_pos (by omega)]
      exact par_zr ⟨rfl, Or.inl ⟨rfl, fun p hp => hn p (Nat.zero_le _) hp⟩⟩
    | succ j =>
      have e1 : ((j + 1 : Nat) : Int) - 1 = (j : Int) := by omega
      rw [e1, if_neg (by omega)]
      have w1 : Wq (wr32 (wr32 ((l : Int) * 40) + (j : Int))) (((40 * l + j : Nat) : Int)) := by show wr32 (wr32 ((l : Int) * 40) + (j : Int)) = ((40 * l + j : Nat) : Int); rw [wr32_i2 (x := (l : Int) * 40) (by omega) (by omega), wr32_i2 (by omega) (by omega)]; omega
      have w2 : Wq (wr32 ((j : Int) + -1)) ((j : Int) - 1) := by show wr32 ((j : Int) + -1) = (j : Int) - 1; rw [wr32_i2 (by omega) (by omega)]; omega
      simp only [zl_e, zj_e]
      rw [w1.e, w2.e, if_pos (by omega)]
      refine par_zg (fun _ => ?_)
      show par (if I o1 (40 * l + j) = 1 then _ else _) _
      have yes : (I o1 (40 * l + j) = 1 ∨ I o1 (40 * l + j) = 3) → par (zr (j : Int) I) (fun v I' => I' = I ∧ REAR (fun p => I o1 (40 * l + p)) c v) := fun h => par_zr ⟨rfl, Or.inr ⟨j, rfl, by omega, h, fun p h1 h2 => hn p (by omega) h2⟩⟩
      refine par_ite (fun q => yes (Or.inl q)) (fun q => par_zg (fun _ => ?_))
      show par (if I o1 (40 * l + j) = 3 then _ else _) _
      refine par_ite (fun q2 => yes (Or.inr q2)) (fun q2 => ih j (by omega) (fun p h1 h2 => ?_))
      by_cases z : p = j
      · subst z; exact fun y => y.elim q q2
      · exact hn p (by omega) h2
theorem cv_rear (o o1 l : Nat) (hl : l < 6) (I : IMem) (hc : 0 ≤ I (o + 2) l ∧ I (o + 2) l ≤ 40) : par (f_L_rearmostSitting fu o o1 240 (l : Int) I) (fun v I' => I' = I ∧ REAR (fun p => I o1 (40 * l + p)) (I (o + 2) l) v) := by
  unfold f_L_rearmostSitting
  refine par_zg (fun _ => ?_)
  simp only [zl_e]
  rw [show ((l : Nat) : Int).toNat = l from rfl, wr32_i2 (x := I (o + 2) l - 1) (by omega) (by omega)]
  have e : I (o + 2) l - 1 = (((I (o + 2) l).toNat : Nat) : Int) - 1 := by omega
  have g := cv_rear9 (fu := fu) o1 l hl (I (o + 2) l) hc I fu (I (o + 2) l).toNat (by omega) (fun p h1 h2 => by omega)
  rw [← e] at g
  exact g
/-- how many sit behind -/
def sf (J : IMem) (l : Nat) : Nat → Int := fun p => if 0 < J 9 (40 * l + p) then 1 else 0
theorem xv_cnt16 (kk : Int → IMem → Res) (l : Nat) (hl : l < 6) (c : Nat) (hc : c ≤ 40) (J : IMem) (hk : par (kk (cnt (sf J l) c) J) Q) : ∀ (m p : Nat), p ≤ c → par (f_X_movesUp_16 fu kk 0 (l : Int) (c : Int) m (cnt (sf J l) p) (p : Int) J) Q := by
  intro m
  induction m with
  | zero => intro _ _; exact par_none
  | succ m ih =>
    intro p hp
    show par (fb_X_movesUp_16 fu kk 0 (l : Int) (c : Int) (f_X_movesUp_16 fu kk 0 (l : Int) (c : Int) m) (cnt (sf J l) p) (p : Int) J) Q
    unfold fb_X_movesUp_16
    have nn := cnt_nn (sf J l) p
    by_cases h : p < c
    · rw [if_pos (by omega)]
      have w1 : Wq (wr32 (wr32 (40 * (l : Int)) + (p : Int))) (((40 * l + p : Nat) : Int)) := by show wr32 (wr32 (40 * (l : Int)) + (p : Int)) = ((40 * l + p : Nat) : Int); rw [wr32_i2 (x := 40 * (l : Int)) (by omega) (by omega), wr32_i2 (by omega) (by omega)]; omega
      have wn : Wq (wr32 ((p : Int) + 1)) (((p + 1 : Nat) : Int)) := by show wr32 ((p : Int) + 1) = ((p + 1 : Nat) : Int); rw [wr32_i2 (by omega) (by omega)]; rfl
      simp only [zl_e, zj_e, Nat.zero_add]
      rw [w1.e, wn.e]
      refine par_zg (fun _ => ?_)
      rw [show ((40 * l + p : Nat) : Int).toNat = 40 * l + p from rfl]
      have g := ih (p + 1) h
      have e : cnt (sf J l) (p + 1) = cnt (sf J l) p + (if sf J l p = 0 then 0 else 1) := rfl
      rw [e] at g
      unfold sf at g
      refine par_ite (fun q => ?_) (fun q => ?_)
      · rw [if_pos q, if_neg (by decide)] at g
        rw [wr32_i2 (by omega) (by omega)]
        exact g
      · rw [if_neg q, if_pos rfl] at g
        rw [wr32_i2 (by omega) (by omega)]
        exact g
    · rw [if_neg (by omega)]
      have : p = c := by omega
      subst this
      exact hk
/-- a row is copied forward -/
theorem xv_copy (kk : IMem → Res) (l p t : Nat) (hl : l < 6) (hp : p < 40) (ht : t ≤ p) (p2 p3 p4 p6 : Int) (J0 : IMem) (hk : ∀ J : IMem, (∀ q j, J q j = if q = 1 ∧ 140 + 6 * (40 * l + t) ≤ j ∧ j < 140 + 6 * (40 * l + t) + 6 then J0 1 (140 + 6 * (40 * l + p) + (j - (140 + 6 * (40 * l + t)))) else J0 q j) → par (kk J) Q) : ∀ (m f : Nat) (J : IMem), f ≤ 6 → (∀ q j, J q j = if q = 1 ∧ 140 + 6 * (40 * l + t) ≤ j ∧ j < 140 + 6 * (40 * l + t) + f then J0 1 (140 + 6 * (40 * l + p) + (j - (140 + 6 * (40 * l + t)))) else J0 q j) → par (f_X_movesUp_132 fu kk 0 (l : Int) p2 p3 p4 (p : Int) p6 ((140 + 6 * (40 * l + t) : Nat) : Int) m (f : Int) J) Q := by
  intro m
  induction m with
  | zero => intro _ _ _ _; exact par_none
  | succ m ih =>
    intro f J hf hJ
    show par (fb_X_movesUp_132 fu kk 0 (l : Int) p2 p3 p4 (p : Int) p6 ((140 + 6 * (40 * l + t) : Nat) : Int) (f_X_movesUp_132 fu kk 0 (l : Int) p2 p3 p4 (p : Int) p6 ((140 + 6 * (40 * l + t) : Nat) : Int) m) (f : Int) J) Q
    unfold fb_X_movesUp_132
    by_cases h : f < 6
    · rw [if_pos (by omega), ev_of fu 0 l p f J hl hp h, zb_zr]
      have w1 : Wq (wr32 (((140 + 6 * (40 * l + t) : Nat) : Int) + (f : Int))) (((140 + 6 * (40 * l + t) + f : Nat) : Int)) := by show wr32 (((140 + 6 * (40 * l + t) : Nat) : Int) + (f : Int)) = ((140 + 6 * (40 * l + t) + f : Nat) : Int); rw [wr32_i2 (by omega) (by omega)]; omega
      have wn : Wq (wr32 ((f : Int) + 1)) (((f + 1 : Nat) : Int)) := by show wr32 ((f : Int) + 1) = ((f + 1 : Nat) : Int); rw [wr32_i2 (by omega) (by omega)]; rfl
      simp only [zl_e, Nat.zero_add]
      rw [w1.e, wn.e]
      refine par_zg (fun _ => par_zw' (fun J1 e1 => ih (f + 1) J1 h (fun q j => ?_)))
      rw [show ((140 + 6 * (40 * l + t) + f : Nat) : Int).toNat = 140 + 6 * (40 * l + t) + f from rfl] at e1
      rw [e1]
      by_cases z : q = 1 ∧ j = 140 + 6 * (40 * l + t) + f
      · rw [if_pos z, if_pos (by omega), hJ, if_neg (by omega), z.2]
        exact congrArg _ (by omega)
      · rw [if_neg z, hJ]
        by_cases y : q = 1 ∧ 140 + 6 * (40 * l + t) ≤ j ∧ j < 140 + 6 * (40 * l + t) + f
        · rw [if_pos y, if_pos (by omega)]
        · rw [if_neg y, if_neg (by omega)]
    · rw [if_neg (by omega)]
      have : f = 6 := by omega
      subst this
      exact hk J hJ
end
theorem pq_ofr {Q : Int → IMem → Int → IMem → Prop} {m1 m2 : Res} (h : ∀ x I, m1 = some (x, I) → par m2 (fun y J => Q x I y J)) : pq m1 m2 Q := fun x I y J e1 e2 => h x I e1 y J e2
theorem pq_tor {Q : Int → IMem → Int → IMem → Prop} {m1 m2 : Res} (h : pq m1 m2 Q) {x : Int} {I : IMem} (e : m1 = some (x, I)) : par m2 (fun y J => Q x I y J) := fun y J e2 => h x I y J e e2
theorem pq_ofl {Q : Int → IMem → Int → IMem → Prop} {m1 m2 : Res} (h : ∀ y J, m2 = some (y, J) → par m1 (fun x I => Q x I y J)) : pq m1 m2 Q := fun x I y J e1 e2 => h y J e2 x I e1
theorem pq_tol {Q : Int → IMem → Int → IMem → Prop} {m1 m2 : Res} (h : pq m1 m2 Q) {y : Int} {J : IMem} (e : m2 = some (y, J)) : par m1 (fun x I => Q x I y J) := fun x I e1 => h x I y J e1 e
/-- the reference's turn for a row that moves up -/
def xDD (x15 w4 w5 y23 : Int) (R_ : Int → Int → Int → IMem → Res) (I34 : IMem) : Res :=
                      zl (wr32 (y23 + 4)) fun x35 =>
                      zg (0 ≤ x35 ∧ x35 < 6190) (
                      zg (0 ≤ x35 ∧ x35 < 6190) (zw I34 (0 + 1) x35.toNat (wr32 ((I34 (0 + 1) x35.toNat) + 1)) fun I36 =>
                      zl (wr32 (y23 + 5)) fun x37 =>
                      zg (0 ≤ x37 ∧ x37 < 6190) (
                        if 0 < x15 then (
                          zg (0 ≤ x37 ∧ x37 < 6190) (zw I36 (0 + 1) x37.toNat (wr32 ((I36 (0 + 1) x37.toNat) + 1)) fun I41 =>
                          zl (wr32 (w4 + 1)) fun x42 =>
                          R_ x15 x42 (wr32 (w5 + 1)) I41))
                        else (
                          zg (0 ≤ x37 ∧ x37 < 6190) (zw I36 (0 + 1) x37.toNat (wr32 ((I36 (0 + 1) x37.toNat) + 0)) fun I41 =>
                          zl (wr32 (w4 + 1)) fun x42 =>
                          R_ x15 x42 (wr32 (w5 + 1)) I41)))))
def xDC (x11 x15 w4 w5 y23 : Int) (R_ : Int → Int → Int → IMem → Res) (I32 : IMem) : Res :=
                  zg (0 ≤ x11 ∧ x11 < 240) (
                    if 0 < I32 (0 + 9) x11.toNat then (
                      zl (wr32 (y23 + 1)) fun x43 =>
                      zg (0 ≤ x43 ∧ x43 < 6190) (
                      zg (0 ≤ x11 ∧ x11 < 240) (
                      zg (0 ≤ x43 ∧ x43 < 6190) (zw I32 (0 + 1) x43.toNat (wr32 ((I32 (0 + 1) x43.toNat) - (I32 (0 + 9) x11.toNat))) fun I44 =>
                      zl (wr32 (y23 + 1)) fun x45 =>
                      zg (0 ≤ x45 ∧ x45 < 6190) (
                      zl (wr32 (y23 + 2)) fun x47 =>
                      zg (0 ≤ x47 ∧ x47 < 6190) (zw I44 (0 + 1) x47.toNat (I44 (0 + 1) x45.toNat) fun I46 =>
                      xDD x15 w4 w5 y23 R_ I46))))))
                    else (
                      xDD x15 w4 w5 y23 R_ I32))
def xDB (fu : Nat) (p1 p2 x11 x15 w4 w5 : Int) (R_ : Int → Int → Int → IMem → Res) (I13 : IMem) : Res :=
          zg (0 ≤ x11 ∧ x11 < 240) (
            if I13 (0 + 12) x11.toNat = 0 then (
              zg (0 ≤ x11 ∧ x11 < 240) (
              zb (f_X_of fu 0 p1 w5 1 I13) fun y20 I21 =>
              if I13 (0 + 9) x11.toNat = y20 then (
                R_ x15 w4 (wr32 (w5 + 1)) I21)
              else (
                zb (f_X_cell fu p1 w4 I21) fun y23 I24 =>
                f_X_movesUp_132 fu (xDC x11 x15 w4 w5 y23 R_) 0 p1 p2 x15 w4 w5 x11 y23 fu 0 I24)))
            else (
              R_ x15 w4 (wr32 (w5 + 1)) I13))
theorem moves_eq (fu : Nat) (k_254 : Int → IMem → Res) (p1 p2 : Int) (R_ : Int → Int → Int → IMem → Res) (w3 w4 w5 : Int) (I0 : IMem) : fb_X_movesUp_57 fu k_254 0 p1 p2 R_ w3 w4 w5 I0 = if w5 < p2 then (zg (0 ≤ wr32 ((wr32 (40 * p1)) + w5) ∧ wr32 ((wr32 (40 * p1)) + w5) < 240) (if 0 < I0 (0 + 9) (wr32 ((wr32 (40 * p1)) + w5)).toNat then xDB fu p1 p2 (wr32 ((wr32 (40 * p1)) + w5)) (wr32 (w3 - 1)) w4 w5 R_ I0 else xDB fu p1 p2 (wr32 ((wr32 (40 * p1)) + w5)) (wr32 (w3 - 0)) w4 w5 R_ I0)) else k_254 w4 I0 := by
  unfold fb_X_movesUp_57 xDB xDC xDD
  simp only [zl_e, zj_e]
/-- the class's turn for a row that moves up -/
def cDK (fu o0 : Nat) (p2 p3 x4 w4 w5 : Int) (R_ : Int → Int → IMem → Res) (I13 : IMem) : Res :=
                  zl (wr32 ((wr32 (p2 * 40)) + w4)) fun x14 =>
                  zg ((0 : Int) ≤ wr32 (x4 * 6) ∧ (0 : Int) ≤ wr32 (x14 * 6) ∧ (0 : Int) ≤ 6 ∧ (wr32 (x4 * 6) : Int) + 6 ≤ 1440 ∧ (wr32 (x14 * 6) : Int) + 6 ≤ 1440) (zc I13 (o0 + 1) (wr32 (x4 * 6)) (o0 + 1) (wr32 (x14 * 6)) 6 fun I15 =>
                  zb (f_L_get fu o0 x14 4 I15) fun y16 I17 =>
                  zb (f_L_put fu o0 x14 4 (wr32 (y16 + 1)) I17) fun _ I20 =>
                  zb (f_L_get fu o0 x14 5 I20) fun y22 I23 =>
                    if w5 < p3 then (
                      zb (f_L_put fu o0 x14 5 (wr32 (y22 + 1)) I23) fun _ I29 =>
                      zl (wr32 (w4 + 1)) fun x31 =>
                      R_ x31 (wr32 (w5 + 1)) I29)
                    else (
                      zb (f_L_put fu o0 x14 5 (wr32 (y22 + 0)) I23) fun _ I29 =>
                      zl (wr32 (w4 + 1)) fun x31 =>
                      R_ x31 (wr32 (w5 + 1)) I29))
def cDM (fu o0 : Nat) (p2 p3 x4 w4 w5 : Int) (R_ : Int → Int → IMem → Res) (x7 : Int) (I6 : IMem) : Res :=
                if x7 = 0 then cDK fu o0 p2 p3 x4 w4 w5 R_ I6
                else (
                  if x7 = 3 then cDK fu o0 p2 p3 x4 w4 w5 R_ I6
                  else R_ w4 (wr32 (w5 + 1)) I6)
theorem depart_eq (fu : Nat) (k_159 : Int → IMem → Res) (o0 o1 n1 : Nat) (p2 p3 : Int) (R_ : Int → Int → IMem → Res) (w4 w5 : Int) (I0 : IMem) : fb_L_depart_21 fu k_159 o0 o1 n1 p2 p3 R_ w4 w5 I0 = zg (0 ≤ p2 ∧ p2 < 6) (if w5 < I0 (o0 + 2) p2.toNat then (if w5 < 40 then (if wr32 ((wr32 (p2 * 40)) + w5) < (n1 : Int) then zg (0 ≤ wr32 ((wr32 (p2 * 40)) + w5) ∧ wr32 ((wr32 (p2 * 40)) + w5) < n1) (cDM fu o0 p2 p3 (wr32 ((wr32 (p2 * 40)) + w5)) w4 w5 R_ (I0 o1 (wr32 ((wr32 (p2 * 40)) + w5)).toNat) I0) else cDM fu o0 p2 p3 (wr32 ((wr32 (p2 * 40)) + w5)) w4 w5 R_ 0 I0) else k_159 w4 I0) else k_159 w4 I0) := by
  unfold fb_L_depart_21 cDM cDK
  simp only [zl_e, zj_e]
section
variable {fu : Nat} {Q : Int → IMem → Prop}
/-- a row that moves up: the class -/
theorem cv_keep (o l p t : Nat) (hl : l < 6) (hp : p < 40) (ht : t ≤ p) (R : Int) (R_ : Int → Int → IMem → Res) (I0 : IMem) (hk : ∀ I : IMem, (∀ q j, I q j = if q = o + 1 ∧ j = 6 * (40 * l + t) + 5 then wr32 (I0 (o + 1) (6 * (40 * l + p) + 5) + (if (p : Int) < R then 1 else 0)) else if q = o + 1 ∧ j = 6 * (40 * l + t) + 4 then wr32 (I0 (o + 1) (6 * (40 * l + p) + 4) + 1) else if q = o + 1 ∧ 6 * (40 * l + t) ≤ j ∧ j < 6 * (40 * l + t) + 6 then I0 (o + 1) (6 * (40 * l + p) + (j - 6 * (40 * l + t))) else I0 q j) → par (R_ ((t + 1 : Nat) : Int) ((p + 1 : Nat) : Int) I) Q) : par (cDK fu o (l : Int) R ((40 * l + p : Nat) : Int) (t : Int) (p : Int) R_ I0) Q := by
  unfold cDK
  have w3 : Wq (wr32 (wr32 ((l : Int) * 40) + (t : Int))) (((40 * l + t : Nat) : Int)) := by show wr32 (wr32 ((l : Int) * 40) + (t : Int)) = ((40 * l + t : Nat) : Int); rw [wr32_i2 (x := (l : Int) * 40) (by omega) (by omega), wr32_i2 (by omega) (by omega)]; omega
  have wp : Wq (wr32 ((p : Int) + 1)) (((p + 1 : Nat) : Int)) := by show wr32 ((p : Int) + 1) = ((p + 1 : Nat) : Int); rw [wr32_i2 (by omega) (by omega)]; rfl
  have wt : Wq (wr32 ((t : Int) + 1)) (((t + 1 : Nat) : Int)) := by show wr32 ((t : Int) + 1) = ((t + 1 : Nat) : Int); rw [wr32_i2 (by omega) (by omega)]; rfl
  have w6 : Wq (wr32 (((40 * l + p : Nat) : Int) * 6)) (((6 * (40 * l + p) : Nat) : Int)) := by show wr32 (((40 * l + p : Nat) : Int) * 6) = ((6 * (40 * l + p) : Nat) : Int); rw [wr32_i2 (by omega) (by omega)]; omega
  have w7 : Wq (wr32 (((40 * l + t : Nat) : Int) * 6)) (((6 * (40 * l + t) : Nat) : Int)) := by show wr32 (((40 * l + t : Nat) : Int) * 6) = ((6 * (40 * l + t) : Nat) : Int); rw [wr32_i2 (by omega) (by omega)]; omega
  simp only [zl_e]
  rw [w3.e, wp.e, wt.e, w6.e, w7.e]
  refine par_zg (fun _ => par_zc' (fun I1 e1 => ?_))
  have n1 : ((6 * (40 * l + t) : Nat) : Int).toNat = 6 * (40 * l + t) := rfl
  have n2 : ((6 * (40 * l + p) : Nat) : Int).toNat = 6 * (40 * l + p) := rfl
  have n3 : (6 : Int).toNat = 6 := rfl
  rw [n1, n2, n3] at e1
  have r4 : I1 (o + 1) (6 * (40 * l + t) + 4) = I0 (o + 1) (6 * (40 * l + p) + 4) := by
    rw [e1, if_pos (by omega)]; exact congrArg _ (by omega)
  have r5 : I1 (o + 1) (6 * (40 * l + t) + 5) = I0 (o + 1) (6 * (40 * l + p) + 5) := by
    rw [e1, if_pos (by omega)]; exact congrArg _ (by omega)
  rw [ev_get4 fu o _ I1 (by omega), zb_zr, r4, ev_put4 fu o _ _ I1 (by omega), zb_zw]
  refine par_zw' (fun I2 e2 => ?_)
  have s5 : I2 (o + 1) (6 * (40 * l + t) + 5) = I0 (o + 1) (6 * (40 * l + p) + 5) := by rw [e2, if_neg (by omega)]; exact r5
  rw [zb_zr, ev_get5 fu o _ I2 (by omega), zb_zr, s5]
  refine par_ite (fun q => ?_) (fun q => ?_)
  · rw [ev_put5 fu o _ _ I2 (by omega), zb_zw]
    refine par_zw' (fun I3 e3 => hk I3 (fun q' j => ?_))
    rw [e3, e2, e1, if_pos q]
  · rw [ev_put5 fu o _ _ I2 (by omega), zb_zw]
    refine par_zw' (fun I3 e3 => hk I3 (fun q' j => ?_))
    rw [e3, e2, e1, if_neg q]
/-- a row that moves up: the reference -/
theorem xv_keep (l p t : Nat) (hl : l < 6) (hp : p < 40) (ht : t ≤ p) (x15 p2 : Int) (R_ : Int → Int → Int → IMem → Res) (J0 : IMem) (hf : J0 12 (40 * l + p) = 0) (hs : J0 9 (40 * l + p) ≠ J0 1 (140 + 6 * (40 * l + p) + 1)) (hb : 0 ≤ J0 9 (40 * l + p) ∧ J0 9 (40 * l + p) ≤ J0 1 (140 + 6 * (40 * l + p) + 1) ∧ J0 1 (140 + 6 * (40 * l + p) + 1) ≤ 8) (hk : ∀ J : IMem, (∀ q j, J q j = if q = 1 ∧ j = 140 + 6 * (40 * l + t) + 5 then wr32 (J0 1 (140 + 6 * (40 * l + p) + 5) + (if 0 < x15 then 1 else 0)) else if q = 1 ∧ j = 140 + 6 * (40 * l + t) + 4 then wr32 (J0 1 (140 + 6 * (40 * l + p) + 4) + 1) else if 0 < J0 9 (40 * l + p) ∧ q = 1 ∧ (j = 140 + 6 * (40 * l + t) + 1 ∨ j = 140 + 6 * (40 * l + t) + 2) then J0 1 (140 + 6 * (40 * l + p) + 1) - J0 9 (40 * l + p) else if q = 1 ∧ 140 + 6 * (40 * l + t) ≤ j ∧ j < 140 + 6 * (40 * l + t) + 6 then J0 1 (140 + 6 * (40 * l + p) + (j - (140 + 6 * (40 * l + t)))) else J0 q j) → par (R_ x15 ((t + 1 : Nat) : Int) ((p + 1 : Nat) : Int) J) Q) : par (xDB fu (l : Int) p2 ((40 * l + p : Nat) : Int) x15 (t : Int) (p : Int) R_ J0) Q := by
  unfold xDB
  refine par_zg (fun _ => ?_)
  show par (if J0 12 (40 * l + p) = 0 then _ else _) _
  rw [if_pos hf]
  refine par_zg (fun _ => ?_)
  rw [ev_of1 fu 0 l p J0 hl hp, zb_zr]
  show par (if J0 9 (40 * l + p) = J0 1 (140 + 6 * (40 * l + p) + 1) then _ else _) _
  rw [if_neg hs, ev_cell fu l t J0 hl (by omega), zb_zr]
  refine xv_copy (fu := fu) _ l p t hl hp ht p2 x15 (t : Int) ((40 * l + p : Nat) : Int) J0 (fun J1 e1 => ?_) fu 0 J0 (by decide) (fun q j => by rw [if_neg (by omega)])
  unfold xDC
  have m9 : J1 9 (40 * l + p) = J0 9 (40 * l + p) := by rw [e1, if_neg (by omega)]
  have wn : ∀ f : Nat, f < 6 → wr32 (((140 + 6 * (40 * l + t) : Nat) : Int) + (f : Int)) = ((140 + 6 * (40 * l + t) + f : Nat) : Int) := fun f hf => by rw [wr32_i2 (by omega) (by omega)]; omega
  have v1 : Wq (wr32 (((140 + 6 * (40 * l + t) : Nat) : Int) + 1)) (((140 + 6 * (40 * l + t) + 1 : Nat) : Int)) := wn 1 (by decide)
  have v2 : Wq (wr32 (((140 + 6 * (40 * l + t) : Nat) : Int) + 2)) (((140 + 6 * (40 * l + t) + 2 : Nat) : Int)) := wn 2 (by decide)
  have v4 : Wq (wr32 (((140 + 6 * (40 * l + t) : Nat) : Int) + 4)) (((140 + 6 * (40 * l + t) + 4 : Nat) : Int)) := wn 4 (by decide)
  have v5 : Wq (wr32 (((140 + 6 * (40 * l + t) : Nat) : Int) + 5)) (((140 + 6 * (40 * l + t) + 5 : Nat) : Int)) := wn 5 (by decide)
  have wp : Wq (wr32 ((p : Int) + 1)) (((p + 1 : Nat) : Int)) := by show wr32 ((p : Int) + 1) = ((p + 1 : Nat) : Int); rw [wr32_i2 (by omega) (by omega)]; rfl
  have wt : Wq (wr32 ((t : Int) + 1)) (((t + 1 : Nat) : Int)) := by show wr32 ((t : Int) + 1) = ((t + 1 : Nat) : Int); rw [wr32_i2 (by omega) (by omega)]; rfl
  have row : ∀ f, f < 6 → J1 1 (140 + 6 * (40 * l + t) + f) = J0 1 (140 + 6 * (40 * l + p) + f) := fun f hf => by
    rw [e1, if_pos (by omega)]; exact congrArg _ (by omega)
  -- waited and passed
  have last : ∀ J2 : IMem, (∀ q j, J2 q j = if 0 < J0 9 (40 * l + p) ∧ q = 1 ∧ (j = 140 + 6 * (40 * l + t) + 1 ∨ j = 140 + 6 * (40 * l + t) + 2) then J0 1 (140 + 6 * (40 * l + p) + 1) - J0 9 (40 * l + p) else J1 q j) → par (xDD x15 (t : Int) (p : Int) ((140 + 6 * (40 * l + t) : Nat) : Int) R_ J2) Q := by
    intro J2 e2
    unfold xDD
    simp only [zl_e, Nat.zero_add]
    rw [v4.e, v5.e, wp.e, wt.e]
    have a4 : J2 1 (140 + 6 * (40 * l + t) + 4) = J0 1 (140 + 6 * (40 * l + p) + 4) := by rw [e2, if_neg (by omega)]; exact row 4 (by decide)
    have a5 : J2 1 (140 + 6 * (40 * l + t) + 5) = J0 1 (140 + 6 * (40 * l + p) + 5) := by rw [e2, if_neg (by omega)]; exact row 5 (by decide)
    refine par_zg (fun _ => par_zg (fun _ => ?_))
    rw [show ((140 + 6 * (40 * l + t) + 4 : Nat) : Int).toNat = 140 + 6 * (40 * l + t) + 4 from rfl, a4]
    refine par_zw' (fun J3 e3 => par_zg (fun _ => ?_))
    have b5 : J3 1 (140 + 6 * (40 * l + t) + 5) = J0 1 (140 + 6 * (40 * l + p) + 5) := by rw [e3, if_neg (by omega)]; exact a5
    rw [show ((140 + 6 * (40 * l + t) + 5 : Nat) : Int).toNat = 140 + 6 * (40 * l + t) + 5 from rfl, b5]
    refine par_ite (fun q => par_zg (fun _ => par_zw' (fun J4 e4 => hk J4 (fun q' j => ?_)))) (fun q => par_zg (fun _ => par_zw' (fun J4 e4 => hk J4 (fun q' j => ?_))))
    · rw [e4, e3, e2, e1, if_pos q]
    · rw [e4, e3, e2, e1, if_neg q]
  refine par_zg (fun _ => ?_)
  show par (if 0 < J1 9 (40 * l + p) then _ else _) _
  rw [m9]
  refine par_ite (fun q => ?_) (fun q => last J1 (fun q' j => by rw [if_neg (fun z => q z.1)]))
  simp only [zl_e, Nat.zero_add]
  rw [v1.e, v2.e]
  refine par_zg (fun _ => par_zg (fun _ => par_zg (fun _ => ?_)))
  rw [show ((140 + 6 * (40 * l + t) + 1 : Nat) : Int).toNat = 140 + 6 * (40 * l + t) + 1 from rfl, row 1 (by decide)]
  have m9' : J1 9 ((40 * l + p : Nat) : Int).toNat = J0 9 (40 * l + p) := m9
  rw [m9', wr32_i2 (x := J0 1 (140 + 6 * (40 * l + p) + 1) - J0 9 (40 * l + p)) (by omega) (by omega)]
  refine par_zw' (fun J2 e2 => par_zg (fun _ => par_zg (fun _ => ?_)))
  have c1 : J2 1 (140 + 6 * (40 * l + t) + 1) = J0 1 (140 + 6 * (40 * l + p) + 1) - J0 9 (40 * l + p) := by rw [e2, if_pos ⟨rfl, rfl⟩]
  rw [show ((140 + 6 * (40 * l + t) + 2 : Nat) : Int).toNat = 140 + 6 * (40 * l + t) + 2 from rfl, c1]
  refine par_zw' (fun J3 e3 => last J3 (fun q' j => ?_))
  rw [e3, e2]
  by_cases y : 0 < J0 9 (40 * l + p) ∧ q' = 1 ∧ (j = 140 + 6 * (40 * l + t) + 1 ∨ j = 140 + 6 * (40 * l + t) + 2)
  · rw [if_pos y]
    by_cases y2 : q' = 1 ∧ j = 140 + 6 * (40 * l + t) + 2
    · rw [if_pos y2]
    · rw [if_neg y2, if_pos (by omega)]
  · rw [if_neg y, if_neg (fun z => y ⟨q, z.1, Or.inr z.2⟩), if_neg (fun z => y ⟨q, z.1, Or.inl z.2⟩)]
end
def DRl (hb l t : Nat) (I0 J0 I J : IMem) : Prop :=
  (∀ q j, ¬ (q = hb + 7 ∧ 240 * l ≤ j ∧ j < 240 * l + 6 * t) → I q j = I0 q j) ∧
  (∀ q j, ¬ (q = 1 ∧ 140 + 240 * l ≤ j ∧ j < 140 + 240 * l + 6 * t) → J q j = J0 q j) ∧
  ∀ t' f, t' < t → f < 6 → I (hb + 7) (6 * (40 * l + t') + f) = J 1 (140 + 6 * (40 * l + t') + f)
section
variable {fu oc hb : Nat} {Q : Int → IMem → Int → IMem → Prop}
theorem depart_in (hd : hb + 40 ≤ oc) (l : Nat) (hl : l < 6) (kC kX : Int → IMem → Res) (I0 J0 : IMem) (R : Int) (c : Nat) (hc40 : c ≤ 40) (hcI : I0 (hb + 8) l = c) (hrow : ∀ p f, p < c → f < 6 → I0 (hb + 7) (6 * (40 * l + p) + f) = if I0 (oc + 1) (40 * l + p) = 3 ∧ (f = 1 ∨ f = 2) then J0 1 (140 + 6 * (40 * l + p) + 1) - J0 9 (40 * l + p) else J0 1 (140 + 6 * (40 * l + p) + f)) (hmk : ∀ p, p < c → MKR (I0 (oc + 1) (40 * l + p)) (J0 9 (40 * l + p)) (J0 12 (40 * l + p)) (J0 1 (141 + 6 * (40 * l + p)))) (hz : ∀ p, p < c → 1 ≤ J0 1 (141 + 6 * (40 * l + p)) ∧ J0 1 (141 + 6 * (40 * l + p)) ≤ 8) (hR : REAR (fun p => I0 (oc + 1) (40 * l + p)) c R) (hend : ∀ (t : Nat) (I J : IMem), t ≤ c → DRl hb l t I0 J0 I J → pq (kC (t : Int) I) (kX (t : Int) J) Q) : ∀ (m m2 t p : Nat) (w3 : Int) (I J : IMem), t ≤ p → p ≤ c → w3 = cnt (sf J0 l) c - cnt (sf J0 l) p → DRl hb l t I0 J0 I J → pq (f_L_depart_21 fu kC (hb + 6) (oc + 1) 240 (l : Int) R m (t : Int) (p : Int) I) (f_X_movesUp_57 fu kX 0 (l : Int) (c : Int) m2 w3 (t : Int) (p : Int) J) Q := by
  intro m
  induction m with
  | zero => intro _ _ _ _ _ _ _ _ _ _; exact pq_nl
  | succ m ih =>
    intro m2 t p w3 I J htp hpc hw3 hD
    cases m2 with
    | zero => exact pq_nr
    | succ m2 =>
    show pq (fb_L_depart_21 fu kC (hb + 6) (oc + 1) 240 (l : Int) R (f_L_depart_21 fu kC (hb + 6) (oc + 1) 240 (l : Int) R m) (t : Int) (p : Int) I) (fb_X_movesUp_57 fu kX 0 (l : Int) (c : Int) (f_X_movesUp_57 fu kX 0 (l : Int) (c : Int) m2) w3 (t : Int) (p : Int) J) Q
    rw [depart_eq, moves_eq]
    have hD' := hD
    obtain ⟨d1, d2, d3⟩ := hD'
    have ci : I (hb + 6 + 2) (l : Int).toNat = (c : Int) := (d1 _ _ (by omega)).trans hcI
    refine pq_gl (fun _ => ?_)
    rw [ci]
    by_cases h : p < c
    · rw [if_pos (show (p : Int) < (c : Int) by omega), if_pos (show (p : Int) < 40 by omega), if_pos (show (p : Int) < (c : Int) by omega)]
      have hp4 : p < 40 := by omega
      have hk : 40 * l + p < 240 := by omega
      have mk := hmk p h
      have z1 := hz p h
      rw [show 141 + 6 * (40 * l + p) = 140 + 6 * (40 * l + p) + 1 by omega] at z1 mk
      have w1 : Wq (wr32 (wr32 ((l : Int) * 40) + (p : Int))) (((40 * l + p : Nat) : Int)) := by show wr32 (wr32 ((l : Int) * 40) + (p : Int)) = ((40 * l + p : Nat) : Int); rw [wr32_i2 (x := (l : Int) * 40) (by omega) (by omega), wr32_i2 (by omega) (by omega)]; omega
      have w2 : Wq (wr32 (wr32 (40 * (l : Int)) + (p : Int))) (((40 * l + p : Nat) : Int)) := by show wr32 (wr32 (40 * (l : Int)) + (p : Int)) = ((40 * l + p : Nat) : Int); rw [wr32_i2 (x := 40 * (l : Int)) (by omega) (by omega), wr32_i2 (by omega) (by omega)]; omega
      have wp : Wq (wr32 ((p : Int) + 1)) (((p + 1 : Nat) : Int)) := by show wr32 ((p : Int) + 1) = ((p + 1 : Nat) : Int); rw [wr32_i2 (by omega) (by omega)]; rfl
      have c0 := cnt_nn (sf J0 l) p
      have c1 := cnt_nn (sf J0 l) c
      have cs : cnt (sf J0 l) (p + 1) = cnt (sf J0 l) p + (if sf J0 l p = 0 then 0 else 1) := rfl
      have jm : J 9 (40 * l + p) = J0 9 (40 * l + p) := d2 _ _ (by omega)
      have jf : J 12 (40 * l + p) = J0 12 (40 * l + p) := d2 _ _ (by omega)
      have jr : ∀ f, f < 6 → J 1 (140 + 6 * (40 * l + p) + f) = J0 1 (140 + 6 * (40 * l + p) + f) := fun f _ => d2 _ _ (by omega)
      have ir : ∀ f, f < 6 → I (hb + 7) (6 * (40 * l + p) + f) = I0 (hb + 7) (6 * (40 * l + p) + f) := fun f _ => d1 _ _ (by omega)
      have im : I (oc + 1) (40 * l + p) = I0 (oc + 1) (40 * l + p) := d1 _ _ (by omega)
      rw [w1.e, w2.e, if_pos (by omega)]
      refine pq_gl (fun _ => pq_gr (fun _ => ?_))
      rw [show ((40 * l + p : Nat) : Int).toNat = 40 * l + p from rfl, im]
      show pq _ (if 0 < J 9 (40 * l + p) then _ else _) _
      rw [jm]
      -- how many sit behind, from here on
      have body : ∀ x15 : Int, x15 = cnt (sf J0 l) c - cnt (sf J0 l) (p + 1) → pq (cDM fu (hb + 6) (l : Int) R ((40 * l + p : Nat) : Int) (t : Int) (p : Int) (f_L_depart_21 fu kC (hb + 6) (oc + 1) 240 (l : Int) R m) (I0 (oc + 1) (40 * l + p)) I) (xDB fu (l : Int) (c : Int) ((40 * l + p : Nat) : Int) x15 (t : Int) (p : Int) (f_X_movesUp_57 fu kX 0 (l : Int) (c : Int) m2) J) Q := by
        intro x15 h15
        have beh : 0 < x15 ↔ (p : Int) < R := by
          have mono : ∀ a b : Nat, a ≤ b → cnt (sf J0 l) a ≤ cnt (sf J0 l) b := by
            intro a b hab
            induction b with
            | zero => rw [show a = 0 by omega]; exact Int.le_refl _
            | succ b ihb =>
              by_cases q : a = b + 1
              · rw [q]; exact Int.le_refl _
              · have := ihb (by omega)
                show _ ≤ cnt (sf J0 l) b + (if sf J0 l b = 0 then 0 else 1)
                split <;> omega
          have sfm : ∀ p', p' < c → (sf J0 l p' ≠ 0 ↔ (I0 (oc + 1) (40 * l + p') = 1 ∨ I0 (oc + 1) (40 * l + p') = 3)) := by
            intro p' hp'
            have mk' := hmk p' hp'
            unfold MKR at mk'
            unfold sf
            split
            · exact ⟨fun _ => by omega, fun _ => by decide⟩
            · exact ⟨fun x => absurd rfl x, fun x => by omega⟩
          rcases hR with ⟨r1, r2⟩ | ⟨r, r1, r2, r3, r4⟩
          · have : ∀ b : Nat, b ≤ c → cnt (sf J0 l) b = 0 := by
              intro b
              induction b with
              | zero => intro _; rfl
              | succ b ihb =>
                intro hb2
                show cnt (sf J0 l) b + (if sf J0 l b = 0 then 0 else 1) = 0
                rw [ihb (by omega)]
                have := r2 b (by omega)
                rw [← sfm b (by omega)] at this
                rw [if_pos (Classical.byContradiction this)]
                rfl
            rw [h15, this c (Nat.le_refl _), this (p + 1) (by omega), r1]
            omega
          · constructor
            · intro hx
              rcases Nat.lt_or_ge p r with q | q
              · omega
              · exfalso
                have : ∀ b : Nat, p + 1 ≤ b → b ≤ c → cnt (sf J0 l) b = cnt (sf J0 l) (p + 1) := by
                  intro b
                  induction b with
                  | zero => intro h1 _; omega
                  | succ b ihb =>
                    intro h1 h2
                    by_cases q2 : p + 1 = b + 1
                    · rw [q2]
                    · show cnt (sf J0 l) b + (if sf J0 l b = 0 then 0 else 1) = _
                      rw [ihb (by omega) (by omega)]
                      have := r4 b (by omega) (by omega)
                      rw [← sfm b (by omega)] at this
                      rw [if_pos (Classical.byContradiction this)]
                      omega
                have := this c (by omega) (Nat.le_refl _)
                omega
            · intro hx
              have hr : r < c := by omega
              have e1 : cnt (sf J0 l) (r + 1) = cnt (sf J0 l) r + 1 := by
                show cnt (sf J0 l) r + (if sf J0 l r = 0 then 0 else 1) = _
                rw [if_neg ((sfm r hr).mpr r3)]
              have := mono (p + 1) r (by omega)
              have := mono (r + 1) c (by omega)
              omega
        unfold cDM
        unfold MKR at mk
        -- one who goes
        have goes : (I0 (oc + 1) (40 * l + p) = 1 ∨ I0 (oc + 1) (40 * l + p) = 2) → pq (f_L_depart_21 fu kC (hb + 6) (oc + 1) 240 (l : Int) R m (t : Int) (wr32 ((p : Int) + 1)) I) (xDB fu (l : Int) (c : Int) ((40 * l + p : Nat) : Int) x15 (t : Int) (p : Int) (f_X_movesUp_57 fu kX 0 (l : Int) (c : Int) m2) J) Q := by
          intro hg
          unfold xDB
          rw [wp.e]
          refine pq_gr (fun _ => ?_)
          show pq _ (if J 12 (40 * l + p) = 0 then _ else _) _
          rw [jf]
          have nxt := ih m2 t (p + 1) x15 I J (by omega) h h15 hD
          by_cases q : J0 12 (40 * l + p) = 0
          · rw [if_pos q]
            refine pq_gr (fun _ => ?_)
            rw [ev_of1 fu 0 l p J hl hp4, zb_zr]
            show pq _ (if J 9 (40 * l + p) = J 1 (140 + 6 * (40 * l + p) + 1) then _ else _) _
            rw [jm, jr 1 (by decide), if_pos (by omega)]
            exact nxt
          · rw [if_neg q]
            exact nxt
        -- one who stays
        have stays : (I0 (oc + 1) (40 * l + p) = 0 ∨ I0 (oc + 1) (40 * l + p) = 3) → pq (cDK fu (hb + 6) (l : Int) R ((40 * l + p : Nat) : Int) (t : Int) (p : Int) (f_L_depart_21 fu kC (hb + 6) (oc + 1) 240 (l : Int) R m) I) (xDB fu (l : Int) (c : Int) ((40 * l + p : Nat) : Int) x15 (t : Int) (p : Int) (f_X_movesUp_57 fu kX 0 (l : Int) (c : Int) m2) J) Q := by
          intro hg
          refine pq_ofl (fun y J9 e9 => cv_keep (fu := fu) (hb + 6) l p t hl hp4 htp R _ I (fun I1 g1 => pq_tol (m2 := xDB fu (l : Int) (c : Int) ((40 * l + p : Nat) : Int) x15 (t : Int) (p : Int) (f_X_movesUp_57 fu kX 0 (l : Int) (c : Int) m2) J) (pq_ofr (fun x I9 e8 => xv_keep (fu := fu) l p t hl hp4 htp x15 (c : Int) _ J (by rw [jf]; omega) (by rw [jm, jr 1 (by decide)]; omega) (by rw [jm, jr 1 (by decide)]; omega) (fun J1 g2 => pq_tor (ih m2 (t + 1) (p + 1) x15 I1 J1 (by omega) h h15 ⟨fun q j hq => ?_, fun q j hq => ?_, fun t' f ht' hf => ?_⟩) e8))) e9))
          · rw [g1, if_neg (by omega), if_neg (by omega), if_neg (by omega)]; exact d1 q j (by omega)
          · rw [g2, if_neg (by omega), if_neg (by omega), if_neg (by omega), if_neg (by omega)]; exact d2 q j (by omega)
          · rw [g1, g2]
            by_cases q : t' = t
            · subst q
              rw [jm, jr 5 (by decide), jr 4 (by decide), jr 1 (by decide)]
              have i5 : I (hb + 6 + 1) (6 * (40 * l + p) + 5) = J0 1 (140 + 6 * (40 * l + p) + 5) := (ir 5 (by decide)).trans ((hrow p 5 h (by decide)).trans (if_neg (by omega)))
              have i4 : I (hb + 6 + 1) (6 * (40 * l + p) + 4) = J0 1 (140 + 6 * (40 * l + p) + 4) := (ir 4 (by decide)).trans ((hrow p 4 h (by decide)).trans (if_neg (by omega)))
              rw [i5, i4]
              have ebeh : (if (p : Int) < R then (1 : Int) else 0) = if 0 < x15 then 1 else 0 := by
                by_cases z : 0 < x15
                · rw [if_pos z, if_pos (beh.mp z)]
                · rw [if_neg z, if_neg (fun y => z (beh.mpr y))]
              rw [ebeh]
              by_cases f5 : f = 5
              · subst f5; exact (if_pos ⟨rfl, rfl⟩).trans (if_pos ⟨rfl, rfl⟩).symm
              · rw [if_neg (show ¬ (hb + 7 = hb + 6 + 1 ∧ 6 * (40 * l + t') + f = 6 * (40 * l + t') + 5) by omega), if_neg (show ¬ (1 = 1 ∧ 140 + 6 * (40 * l + t') + f = 140 + 6 * (40 * l + t') + 5) by omega)]
                by_cases f4 : f = 4
                · subst f4; exact (if_pos ⟨rfl, rfl⟩).trans (if_pos ⟨rfl, rfl⟩).symm
                · rw [if_neg (show ¬ (hb + 7 = hb + 6 + 1 ∧ 6 * (40 * l + t') + f = 6 * (40 * l + t') + 4) by omega), if_neg (show ¬ (1 = 1 ∧ 140 + 6 * (40 * l + t') + f = 140 + 6 * (40 * l + t') + 4) by omega), if_pos (show hb + 7 = hb + 6 + 1 ∧ 6 * (40 * l + t') ≤ 6 * (40 * l + t') + f ∧ 6 * (40 * l + t') + f < 6 * (40 * l + t') + 6 by omega)]
                  have ei : I (hb + 6 + 1) (6 * (40 * l + p) + (6 * (40 * l + t') + f - 6 * (40 * l + t'))) = I0 (hb + 7) (6 * (40 * l + p) + f) := by
                    rw [show 6 * (40 * l + t') + f - 6 * (40 * l + t') = f by omega]; exact ir f hf
                  rw [ei, hrow p f h hf]
                  by_cases q3 : 0 < J0 9 (40 * l + p) ∧ (f = 1 ∨ f = 2)
                  · rw [if_pos (by omega), if_pos (by omega)]
                  · rw [if_neg (by omega), if_neg (by omega), if_pos (by omega), show 140 + 6 * (40 * l + t') + f - (140 + 6 * (40 * l + t')) = f by omega, jr f hf]
            · rw [if_neg (by omega), if_neg (by omega), if_neg (by omega), if_neg (by omega), if_neg (by omega), if_neg (by omega), if_neg (by omega)]
              exact d3 t' f (by omega) hf
        by_cases q0 : I0 (oc + 1) (40 * l + p) = 0
        · rw [if_pos q0]; exact stays (Or.inl q0)
        · rw [if_neg q0]
          by_cases q3 : I0 (oc + 1) (40 * l + p) = 3
          · rw [if_pos q3]; exact stays (Or.inr q3)
          · rw [if_neg q3]; exact goes (by omega)
      have sfp : sf J0 l p = if 0 < J0 9 (40 * l + p) then 1 else 0 := rfl
      refine pq_ir (fun q => body _ ?_) (fun q => body _ ?_)
      · rw [sfp, if_pos q, if_neg (by decide)] at cs
        have c2 := cnt_nn (sf J0 l) (p + 1)
        rw [wr32_i2 (by omega) (by omega)]; omega
      · rw [sfp, if_neg q, if_pos rfl] at cs
        rw [wr32_i2 (by omega) (by omega)]; omega
    · rw [if_neg (by omega), if_neg (by omega)]
      have : p = c := by omega
      exact hend t I J (by omega) hD
end
/-! the chair goes, on both sides -/
/-- lines up to l are moved up; the others as before -/
def MLl (oc hb l : Nat) (I0 J0 I J : IMem) : Prop :=
  (∀ q j, ¬ (q = hb + 8 ∧ j < l) → ¬ (q = hb + 7 ∧ j < 240 * l) → I q j = I0 q j) ∧
  (∀ q j, ¬ (q = 1 ∧ ((130 ≤ j ∧ j < 130 + l) ∨ (140 ≤ j ∧ j < 140 + 240 * l))) → J q j = J0 q j) ∧
  ∀ l', l' < l → I (hb + 8) l' = J 1 (130 + l') ∧ (0 ≤ J 1 (130 + l') ∧ J 1 (130 + l') ≤ 40) ∧ ∀ p f : Nat, (p : Int) < J 1 (130 + l') → f < 6 → I (hb + 7) (6 * (40 * l' + p) + f) = J 1 (140 + 6 * (40 * l' + p) + f)
section
variable {fu oc hb : Nat} {Q : Int → IMem → Int → IMem → Prop}
theorem depart6 (hd : hb + 40 ≤ oc) (kX : IMem → Res) (p1 : Int) (I0 J0 : IMem) (hF : FRl oc I0 J0) (hL : HLP oc hb I0 J0) (hz : ∀ k, INL J0 k → 1 ≤ J0 1 (141 + 6 * k) ∧ J0 1 (141 + 6 * k) ≤ 8) (hend : ∀ I J, MLl oc hb 6 I0 J0 I J → pq (zr 0 I) (kX J) Q) : ∀ (m m2 l : Nat) (I J : IMem), l ≤ 6 → MLl oc hb l I0 J0 I J → pq (f_L_depart_2 fu (hb + 6) (oc + 1) 240 m (l : Int) I) (f_X_goesOff_266 fu kX 0 p1 m2 (l : Int) J) Q := by
  intro m
  induction m with
  | zero => intro _ _ _ _ _ _; exact pq_nl
  | succ m ih =>
    intro m2 l I J hl hM
    cases m2 with
    | zero => exact pq_nr
    | succ m2 =>
    show pq (fb_L_depart_2 fu (hb + 6) (oc + 1) 240 (f_L_depart_2 fu (hb + 6) (oc + 1) 240 m) (l : Int) I) (fb_X_goesOff_266 fu kX 0 p1 (f_X_goesOff_266 fu kX 0 p1 m2) (l : Int) J) Q
    unfold fb_L_depart_2 fb_X_goesOff_266
    have hM' := hM
    obtain ⟨m1, m2', m3⟩ := hM'
    by_cases h6 : l < 6
    · rw [if_pos (by omega), if_pos (by omega)]
      obtain ⟨c1, c2, c3⟩ := hL l h6
      have ic : I (hb + 6 + 2) l = J0 1 (130 + l) := (m1 _ _ (by omega) (by omega)).trans c1
      have jc : J 1 (130 + l) = J0 1 (130 + l) := m2' _ _ (by omega)
      refine pq_bl (cv_rear (fu := fu) (hb + 6) (oc + 1) l h6 I (by rw [ic]; exact c2)) (fun R I1 _ ⟨g1, g2⟩ => ?_)
      have g1' := g1.symm
      subst g1'
      unfold f_X_movesUp
      have w1 : Wq (wr32 (130 + (l : Int))) (((130 + l : Nat) : Int)) := by show wr32 (130 + (l : Int)) = ((130 + l : Nat) : Int); rw [wr32_i2 (by omega) (by omega)]; omega
      obtain ⟨c, hc⟩ : ∃ c : Nat, J0 1 (130 + l) = (c : Int) := ⟨(J0 1 (130 + l)).toNat, by omega⟩
      have e2 : ∀ k : Int → IMem → Res, zb (zl (wr32 (130 + (l : Int))) fun x1 => zg (0 ≤ x1 ∧ x1 < 6190) (zl (J (0 + 1) x1.toNat) fun x2 => f_X_movesUp_16 fu (fun (x10 : Int) (I9 : IMem) => f_X_movesUp_57 fu (fun (x49 : Int) (I48 : IMem) => zl (wr32 (130 + (l : Int))) fun x51 => zg (0 ≤ x51 ∧ x51 < 6190) (zw I48 (0 + 1) x51.toNat x49 fun I50 => zr 0 I50)) 0 (l : Int) x2 fu x10 0 0 I9) 0 (l : Int) x2 fu 0 0 J)) k = zb (f_X_movesUp_16 fu (fun (x10 : Int) (I9 : IMem) => f_X_movesUp_57 fu (fun (x49 : Int) (I48 : IMem) => zw I48 1 (130 + l) x49 fun I50 => zr 0 I50) 0 (l : Int) (c : Int) fu x10 0 0 I9) 0 (l : Int) (c : Int) fu 0 0 J) k := by
        intro k
        simp only [zl_e, Nat.zero_add]
        rw [w1.e, tn, zg_t (by omega), jc, hc]
        have ek : (fun (x49 : Int) (I48 : IMem) => zg (0 ≤ ((130 + l : Nat) : Int) ∧ ((130 + l : Nat) : Int) < 6190) (zw I48 1 (130 + l) x49 fun I50 => zr 0 I50)) = (fun (x49 : Int) (I48 : IMem) => zw I48 1 (130 + l) x49 fun I50 => zr 0 I50) := by
          funext x49 I48
          exact zg_t (by omega)
        rw [ek]
      rw [e2]
      have hcn : c ≤ 40 := by omega
      have dr0 : DRl hb l 0 I J I J := ⟨fun _ _ _ => rfl, fun _ _ _ => rfl, fun t' f ht => absurd ht (Nat.not_lt_zero _)⟩
      -- the class's inner loop against the reference's, its count first
      intro x I9 y J9 e8 e9
      obtain ⟨y1, J1, f1, f2⟩ := of_zb e9
      have key : par (f_X_movesUp_16 fu (fun (x10 : Int) (I9 : IMem) => f_X_movesUp_57 fu (fun (x49 : Int) (I48 : IMem) => zw I48 1 (130 + l) x49 fun I50 => zr 0 I50) 0 (l : Int) (c : Int) fu x10 0 0 I9) 0 (l : Int) (c : Int) fu 0 0 J) (fun y1 J1 => ∀ (y : Int) (J9 : IMem), (zl (wr32 ((l : Int) + 1)) fun x41 => f_X_goesOff_266 fu kX 0 p1 m2 x41 J1) = some (y, J9) → Q x I9 y J9) := by
        have jr : ∀ p f : Nat, p < c → f < 6 → J 1 (140 + 6 * (40 * l + p) + f) = J0 1 (140 + 6 * (40 * l + p) + f) := fun p f _ _ => m2' _ _ (by omega)
        have ir : ∀ p f : Nat, p < c → f < 6 → I (hb + 7) (6 * (40 * l + p) + f) = I0 (hb + 7) (6 * (40 * l + p) + f) := fun p f _ _ => m1 _ _ (by omega) (by omega)
        refine xv_cnt16 (fu := fu) _ l h6 c hcn J ?_ fu 0 (Nat.zero_le _)
        refine pq_tor (Q := fun x I9 y1 J1 => ∀ (y : Int) (J9 : IMem), (zl (wr32 ((l : Int) + 1)) fun x41 => f_X_goesOff_266 fu kX 0 p1 m2 x41 J1) = some (y, J9) → Q x I9 y J9) (depart_in (fu := fu) (oc := oc) (hb := hb) hd l h6 _ _ I J R c hcn (ic.trans hc) (fun p f hp hf => ?_) (fun p hp => ?_) (fun p hp => ?_) (by rw [← hc, ← ic]; exact g2) (fun t I2 J2 ht hD => ?_) fu fu 0 0 (cnt (sf J l) c) I J (Nat.le_refl _) (Nat.zero_le _) (by show _ = cnt (sf J l) c - 0; omega) dr0) e8
        · have := c3 p f (by omega) hf
          rw [ir p f hp hf, this, jr p 1 hp (by decide), jr p f hp hf, m1 _ _ (by omega) (by omega), m2' 9 _ (by omega)]
        · rw [m1 _ _ (by omega) (by omega), m2' 9 _ (by omega), m2' 12 _ (by omega), m2' 1 _ (by omega)]
          exact hF.2.2.2.2.1 (40 * l + p) (by omega)
        · rw [show 141 + 6 * (40 * l + p) = 140 + 6 * (40 * l + p) + 1 by omega, jr p 1 hp (by decide)]
          have := hz (40 * l + p) ⟨by omega, by rw [show (40 * l + p) % 40 = p by omega, show (40 * l + p) / 40 = l by omega]; omega⟩
          rw [show 141 + 6 * (40 * l + p) = 140 + 6 * (40 * l + p) + 1 by omega] at this
          exact this
        · show pq (zg (0 ≤ (l : Int) ∧ (l : Int) < 6) (zw I2 (hb + 6 + 2) (l : Int).toNat (t : Int) fun I34 => zl (wr32 ((l : Int) + 1)) fun x35 => f_L_depart_2 fu (hb + 6) (oc + 1) 240 m x35 I34)) _ _
          obtain ⟨d1, d2, d3⟩ := hD
          have wn : Wq (wr32 ((l : Int) + 1)) (((l + 1 : Nat) : Int)) := by show wr32 ((l : Int) + 1) = ((l + 1 : Nat) : Int); rw [wr32_i2 (by omega) (by omega)]; rfl
          rw [tn, wn.e]
          refine pq_gl (fun _ => pq_zwl' (fun I3 e3 => pq_zwr' (fun J3 e3' => pq_l (fun x' I' ex y' J' ey => ?_))))
          refine ih m2 (l + 1) I3 J3 h6 ⟨fun q j h1 h2 => ?_, fun q j h1 => ?_, fun l' hl' => ?_⟩ x' I' y' J' ex ey
          · rw [e3, if_neg (by omega), d1 q j (by omega)]; exact m1 q j (by omega) (by omega)
          · rw [e3', if_neg (by omega), d2 q j (by omega)]; exact m2' q j (by omega)
          · by_cases q : l' = l
            · have a1 : I3 (hb + 8) l' = (t : Int) := by rw [e3, if_pos (by omega)]
              have a2 : J3 1 (130 + l') = (t : Int) := by rw [e3', if_pos (by omega)]
              rw [a1, a2]
              refine ⟨rfl, by omega, fun p f hp hf => ?_⟩
              rw [e3, if_neg (by omega), e3', if_neg (by omega), q]
              exact d3 p f (by omega) hf
            · obtain ⟨x1, x2, x3⟩ := m3 l' (by omega)
              have a1 : I3 (hb + 8) l' = I (hb + 8) l' := by rw [e3, if_neg (by omega)]; exact d1 _ _ (by omega)
              have a2 : J3 1 (130 + l') = J 1 (130 + l') := by rw [e3', if_neg (by omega)]; exact d2 _ _ (by omega)
              rw [a1, a2]
              refine ⟨x1, x2, fun p f hp hf => ?_⟩
              rw [e3, if_neg (by omega), e3', if_neg (by omega), d1 _ _ (by omega), d2 _ _ (by omega)]
              exact x3 p f hp hf
      exact key y1 J1 f1 y J9 f2
    · rw [if_neg (by omega), if_neg (by omega)]
      have : l = 6 := by omega
      subst this
      exact hend I J hM
end
/-! those found out come behind, the chair's numbers: both sides -/
section
variable {fu : Nat} {Q : Int → IMem → Prop}
theorem xv_out1 (kk : IMem → Res) (i k : Nat) (hi : i < 240) (hk : k < 240) (p1 : Int) (J0 : IMem) (h10 : J0 10 i = (k : Int)) (hkk : ∀ J : IMem, (∀ q j, J q j = if q = 14 ∧ 6 * i ≤ j ∧ j < 6 * i + 6 then J0 1 (140 + 6 * k + (j - 6 * i)) else J0 q j) → par (kk J) Q) : ∀ (m f : Nat) (J : IMem), f ≤ 6 → (∀ q j, J q j = if q = 14 ∧ 6 * i ≤ j ∧ j < 6 * i + f then J0 1 (140 + 6 * k + (j - 6 * i)) else J0 q j) → par (f_X_goesOff_215 fu kk 0 p1 (i : Int) m (f : Int) J) Q := by
  intro m
  induction m with
  | zero => intro _ _ _ _; exact par_none
  | succ m ih =>
    intro f J hf hJ
    show par (fb_X_goesOff_215 fu kk 0 p1 (i : Int) (f_X_goesOff_215 fu kk 0 p1 (i : Int) m) (f : Int) J) Q
    unfold fb_X_goesOff_215
    by_cases h : f < 6
    · rw [if_pos (by omega)]
      have a10 : J (0 + 10) (i : Int).toNat = (k : Int) := by rw [tn, hJ, if_neg (by omega)]; exact h10
      rw [a10]
      have w1 : Wq (wr32 (wr32 (140 + wr32 (6 * (k : Int))) + (f : Int))) (((140 + 6 * k + f : Nat) : Int)) := by show wr32 (wr32 (140 + wr32 (6 * (k : Int))) + (f : Int)) = ((140 + 6 * k + f : Nat) : Int); rw [wr32_i2 (x := 6 * (k : Int)) (by omega) (by omega), wr32_i2 (x := 140 + 6 * (k : Int)) (by omega) (by omega), wr32_i2 (by omega) (by omega)]; omega
      have w2 : Wq (wr32 (wr32 (6 * (i : Int)) + (f : Int))) (((6 * i + f : Nat) : Int)) := by show wr32 (wr32 (6 * (i : Int)) + (f : Int)) = ((6 * i + f : Nat) : Int); rw [wr32_i2 (x := 6 * (i : Int)) (by omega) (by omega), wr32_i2 (by omega) (by omega)]; omega
      have wn : Wq (wr32 ((f : Int) + 1)) (((f + 1 : Nat) : Int)) := by show wr32 ((f : Int) + 1) = ((f + 1 : Nat) : Int); rw [wr32_i2 (by omega) (by omega)]; rfl
      refine par_zg (fun _ => ?_)
      simp only [zl_e, Nat.zero_add]
      rw [w1.e, w2.e, wn.e, tn, tn]
      clear w1 w2 wn
      refine par_zg (fun _ => par_zg (fun _ => par_zw' (fun J1 e1 => ih (f + 1) J1 h (fun q j => ?_))))
      rw [e1]
      by_cases z : q = 14 ∧ j = 6 * i + f
      · rw [if_pos z, if_pos (by omega), hJ, if_neg (by omega), z.2]
        congr 1
        omega
      · rw [if_neg z, hJ]
        by_cases y : q = 14 ∧ 6 * i ≤ j ∧ j < 6 * i + f
        · rw [if_pos y, if_pos (by omega)]
        · rw [if_neg y, if_neg (by omega)]
    · rw [if_neg (by omega)]
      have : f = 6 := by omega
      subst this
      exact hkk J hJ
theorem xv_outs (kk : IMem → Res) (p1 : Int) (J0 : IMem) (n : Nat) (hn : J0 0 32 = (n : Int)) (hn2 : n ≤ 240) (h10 : ∀ i : Nat, i < n → ∃ k : Nat, k < 240 ∧ J0 10 i = (k : Int)) (hkk : ∀ J : IMem, (∀ q j, q ≠ 14 → J q j = J0 q j) → (∀ i k f : Nat, i < n → J0 10 i = (k : Int) → f < 6 → J 14 (6 * i + f) = J0 1 (140 + 6 * k + f)) → par (kk J) Q) : ∀ (m i : Nat) (J : IMem), i ≤ n → (∀ q j, q ≠ 14 → J q j = J0 q j) → (∀ i' k f : Nat, i' < i → J0 10 i' = (k : Int) → f < 6 → J 14 (6 * i' + f) = J0 1 (140 + 6 * k + f)) → par (f_X_goesOff_205 fu kk 0 p1 m (i : Int) J) Q := by
  intro m
  induction m with
  | zero => intro _ _ _ _ _; exact par_none
  | succ m ih =>
    intro i J hi hJ hr
    show par (fb_X_goesOff_205 fu kk 0 p1 (f_X_goesOff_205 fu kk 0 p1 m) (i : Int) J) Q
    unfold fb_X_goesOff_205
    have j32 : J 0 32 = (n : Int) := (hJ _ _ (by decide)).trans hn
    rw [j32]
    by_cases h : i < n
    · rw [if_pos (by omega)]
      obtain ⟨k, k1, k2⟩ := h10 i h
      refine xv_out1 (fu := fu) _ i k (by omega) k1 p1 J ((hJ _ _ (by decide)).trans k2) (fun J1 e1 => ?_) fu 0 J (by decide) (fun q j => by rw [if_neg (by omega)])
      simp only [zl_e]
      have wn : Wq (wr32 ((i : Int) + 1)) (((i + 1 : Nat) : Int)) := by show wr32 ((i : Int) + 1) = ((i + 1 : Nat) : Int); rw [wr32_i2 (by omega) (by omega)]; rfl
      rw [wn.e]
      clear wn
      refine ih (i + 1) J1 h (fun q j hq => by rw [e1, if_neg (by omega)]; exact hJ q j hq) (fun i' k' f hi' hk' hf => ?_)
      rw [e1]
      by_cases q : i' = i
      · subst q
        have : k' = k := by omega
        subst this
        rw [if_pos (by omega), show 6 * i' + f - 6 * i' = f by omega]
        exact hJ 1 _ (by decide)
      · rw [if_neg (by omega)]
        exact hr i' k' f (by omega) hk' hf
    · rw [if_neg (by omega)]
      have : i = n := by omega
      subst this
      exact hkk J hJ hr
end
/-- while those found out come behind -/
def GRl (hb : Nat) (I0 J0 I J : IMem) : Prop := (∀ q j, q ≠ hb + 7 → q ≠ hb + 8 → ¬ (q = hb + 10 ∧ j = 6) → I q j = I0 q j) ∧ (∀ q j, ¬ (q = 1 ∧ (j = 76 ∨ (130 ≤ j ∧ j < 1580))) → ¬ (q = 0 ∧ j = 24) → J q j = J0 q j) ∧ HL hb 1 I J ∧ I (hb + 10) 6 = J 1 76
section
variable {fu oc hb : Nat} {Q : Int → IMem → Int → IMem → Prop}
theorem gone2 (hd : hb + 40 ≤ oc) (kC kX : IMem → Res) (p1 p2 : Int) (I0 J0 : IMem) (n : Nat) (hn : n ≤ 144) (hnI : I0 oc 9 = (n : Int)) (hnJ : J0 0 32 = (n : Int)) (hro : ∀ i : Nat, i < n → ∀ f, f < 6 → I0 (oc + 4) (6 * i + f) = RWc (J0 14 (6 * i + 0)) (J0 14 (6 * i + 1)) (J0 14 (6 * i + 1)) (J0 14 (6 * i + 3)) (J0 14 (6 * i + 4)) (J0 14 (6 * i + 5)) f) (hend : ∀ I J, GRl hb I0 J0 I J → pq (kC I) (kX J) Q) : ∀ (m m2 i : Nat) (I J : IMem), i ≤ n → GRl hb I0 J0 I J → pq (f_C_leave_59 fu kC oc hb p2 m (i : Int) I) (f_X_goesOff_285 fu kX 0 p1 m2 (i : Int) J) Q := by
  intro m
  induction m with
  | zero => intro _ _ _ _ _ _; exact pq_nl
  | succ m ih =>
    intro m2 i I J hi hG
    cases m2 with
    | zero => exact pq_nr
    | succ m2 =>
    show pq (fb_C_leave_59 fu kC oc hb p2 (f_C_leave_59 fu kC oc hb p2 m) (i : Int) I) (fb_X_goesOff_285 fu kX 0 p1 (f_X_goesOff_285 fu kX 0 p1 m2) (i : Int) J) Q
    unfold fb_C_leave_59 fb_X_goesOff_285
    have hG' := hG
    obtain ⟨g1, g2, g3, g4⟩ := hG'
    have i9 : I oc 9 = (n : Int) := (g1 _ _ (by omega) (by omega) (by omega)).trans hnI
    have j32 : J 0 32 = (n : Int) := (g2 _ _ (by omega) (by omega)).trans hnJ
    rw [i9, j32]
    by_cases h : i < n
    · rw [if_pos (by omega), if_pos (by omega)]
      obtain ⟨c1, c2, c3⟩ := hl_c g3 (show 0 < 6 by decide)
      have w0 : Wq (wr32 ((i : Int) * 6)) (((6 * i : Nat) : Int)) := by show wr32 ((i : Int) * 6) = ((6 * i : Nat) : Int); rw [wr32_i2 (by omega) (by omega)]; omega
      have w1 : Wq (wr32 (6 * (i : Int))) (((6 * i : Nat) : Int)) := by show wr32 (6 * (i : Int)) = ((6 * i : Nat) : Int); rw [wr32_i2 (by omega) (by omega)]; omega
      have v1 : Wq (wr32 (((6 * i : Nat) : Int) + 1)) (((6 * i + 1 : Nat) : Int)) := by show wr32 (((6 * i : Nat) : Int) + 1) = ((6 * i + 1 : Nat) : Int); rw [wr32_i2 (by omega) (by omega)]; omega
      have v3 : Wq (wr32 (((6 * i : Nat) : Int) + 3)) (((6 * i + 3 : Nat) : Int)) := by show wr32 (((6 * i : Nat) : Int) + 3) = ((6 * i + 3 : Nat) : Int); rw [wr32_i2 (by omega) (by omega)]; omega
      have v4 : Wq (wr32 (((6 * i : Nat) : Int) + 4)) (((6 * i + 4 : Nat) : Int)) := by show wr32 (((6 * i : Nat) : Int) + 4) = ((6 * i + 4 : Nat) : Int); rw [wr32_i2 (by omega) (by omega)]; omega
      have v5 : Wq (wr32 (((6 * i : Nat) : Int) + 5)) (((6 * i + 5 : Nat) : Int)) := by show wr32 (((6 * i : Nat) : Int) + 5) = ((6 * i + 5 : Nat) : Int); rw [wr32_i2 (by omega) (by omega)]; omega
      have wn : Wq (wr32 ((i : Int) + 1)) (((i + 1 : Nat) : Int)) := by show wr32 ((i : Int) + 1) = ((i + 1 : Nat) : Int); rw [wr32_i2 (by omega) (by omega)]; rfl
      simp only [zl_e, zj_e, Nat.zero_add]
      rw [w0.e, w1.e, v1.e, v3.e, v4.e, v5.e, wn.e, tn, tn, tn, tn, tn]
      clear w0 w1 v1 v3 v4 v5 wn
      have j14 : ∀ j, J 14 j = J0 14 j := fun j => g2 _ _ (by omega) (by omega)
      rw [j14, j14, j14, j14, j14]
      have ap := cv_append (fu := fu) (hb := hb) (l := 0) (o2 := oc + 4) (n2 := 864) (a := 6 * i) (I := I) (by decide) (by omega) (by omega) (by decide)
      have st := xv_stands (fu := fu) (l := 0) (a2 := J0 14 (6 * i)) (a3 := J0 14 (6 * i + 1)) (a4 := J0 14 (6 * i + 1)) (a5 := J0 14 (6 * i + 3)) (a6 := J0 14 (6 * i + 4)) (a7 := J0 14 (6 * i + 5)) (J := J) (by decide) ⟨c2, c3⟩
      refine pq_bl ap (fun x1 I1 _ hx => pq_gr (fun _ => pq_gr (fun _ => pq_gr (fun _ => pq_gr (fun _ => pq_gr (fun _ => pq_gr (fun _ => pq_br st (fun y1 J1 _ hy => ?_))))))))
      rcases hx with ⟨rfl, x2, rfl⟩ | ⟨rfl, x2, x3⟩
      · rcases hy with ⟨rfl, y2, y3, y4, y5⟩ | ⟨rfl, y2, y3⟩
        · rw [if_pos rfl]
          refine pq_zwl' (fun I2 e2 => ih m2 (i + 1) I2 J1 h ⟨fun q j a b c => ?_, fun q j a b => ?_, ?_, ?_⟩)
          · rw [e2, if_neg (by omega)]; exact g1 q j a b c
          · rw [y3 q j (by omega) b]; exact g2 q j a b
          · exact hl_mv g3 (fun j => ⟨by rw [e2, if_neg (by omega)], by rw [e2, if_neg (by omega)]⟩) (fun j a b => y3 _ _ (by omega) (by omega))
          · rw [e2, if_pos ⟨rfl, rfl⟩, y4, g4]
        · omega
      · rcases hy with ⟨rfl, y2, y3, y4, y5⟩ | ⟨rfl, y2, y3⟩
        · omega
        · rw [if_neg (by decide)]
          refine ih m2 (i + 1) I1 J1 h ⟨fun q j a b c => ?_, fun q j a b => ?_, ?_, ?_⟩
          · rw [x3, if_neg (by omega), if_neg (by omega)]; exact g1 q j a b c
          · rw [y3, if_neg (by omega), if_neg (by omega)]; exact g2 q j a b
          · refine hl_add (l := 0) (R := RWc (J0 14 (6 * i)) (J0 14 (6 * i + 1)) (J0 14 (6 * i + 1)) (J0 14 (6 * i + 3)) (J0 14 (6 * i + 4)) (J0 14 (6 * i + 5))) g3 (by decide) y2 (fun j => ?_) (fun j => ?_) (fun j a b => ?_)
            · rw [x3]
              by_cases z : j = 0
              · rw [if_pos ⟨rfl, z⟩, if_pos z]
              · rw [if_neg (fun q => z q.2), if_neg z, if_neg (by omega)]
            · rw [x3, if_neg (by omega), c1]
              by_cases z : 6 * (40 * 0 + (J 1 (130 + 0)).toNat) ≤ j ∧ j < 6 * (40 * 0 + (J 1 (130 + 0)).toNat) + 6
              · rw [if_pos ⟨rfl, z⟩, if_pos z, g1 _ _ (by omega) (by omega) (by omega)]
                exact hro i h _ (by omega)
              · rw [if_neg (fun q => z q.2), if_neg z]
            · rw [y3]
              by_cases z : j = 130 + 0
              · rw [if_pos ⟨rfl, z⟩, if_pos z]
              · rw [if_neg (fun q => z q.2), if_neg z]
                by_cases z2 : 140 + 6 * (40 * 0 + (J 1 (130 + 0)).toNat) ≤ j ∧ j < 140 + 6 * (40 * 0 + (J 1 (130 + 0)).toNat) + 6
                · rw [if_pos ⟨rfl, z2⟩, if_pos z2]
                · rw [if_neg (fun q => z2 q.2), if_neg z2]
          · rw [x3, if_neg (by omega), if_neg (by omega), y3, if_neg (by omega), if_neg (by omega)]; exact g4
    · rw [if_neg (by omega), if_neg (by omega)]
      exact hend I J hG
end
/-- the time, the stops and the state of draws once a chair goes -/
def fallF (s t p sec halt falls : Int) : Int × Int × Int := if 0 < falls then (if wrem (wushr (wr32 (wr32 (s * 1664525) + 1013904223)) 8) 1000 < falls then (wr32 (wr32 (s * 1664525) + 1013904223), wr32 (wr32 (t + sec) + halt), wr32 (p + 1)) else (wr32 (wr32 (s * 1664525) + 1013904223), wr32 (t + sec), p)) else (s, wr32 (t + sec), p)
section
variable {fu : Nat}
theorem cv_pastAt (c : Int) (hc : 0 ≤ c ∧ c < 2147483647) (I : IMem) : par (f_H_pastAt fu c I) (fun v I' => I' = I ∧ (v = 3 * (c % 60) ∨ 180 ≤ v)) := by
  unfold f_H_pastAt f_JM_floorMod
  simp only [zl_e]
  rw [zg_t (by decide), wrem_i2 (a := c) (c := 60) (by omega) (by omega) (by decide) (by decide)]
  refine par_zb (Q1 := fun v I' => I' = I ∧ (v = c % 60 ∨ v = c % 60 + 60)) ?_ (fun v I' ⟨g1, g2⟩ => par_zr ⟨g1, ?_⟩)
  · refine par_ite (fun _ => par_ite (fun _ => par_zr ⟨rfl, Or.inl rfl⟩) (fun _ => par_zr ⟨rfl, Or.inr ?_⟩)) (fun _ => par_zr ⟨rfl, Or.inl rfl⟩)
    exact wr32_i2 (by omega) (by omega)
  · rcases g2 with g2 | g2
    · left; rw [g2, wr32_i2 (by omega) (by omega)]; omega
    · right; rw [g2, wr32_i2 (by omega) (by omega)]; omega
theorem cv_close (hb : Nat) (left taken : Int) (I : IMem) (c : Nat) (hc : I (hb + 10) 0 = (c : Int)) (hc2 : c < 2000000000) : par (f_H_close fu hb left taken I) (fun _ I' => ∀ q j, I' q j = if q = hb + 10 ∧ j = 0 then (c : Int) + 1 else if q = hb + 12 ∧ j = 3 * (c % 60) + 2 then (fallF (I hb 6) (I (hb + 10) 3) (I (hb + 10) 4) (I (hb + 1) 1) (I (hb + 1) 2) (I (hb + 1) 3)).2.1 else if q = hb + 12 ∧ j = 3 * (c % 60) + 1 then taken else if q = hb + 12 ∧ j = 3 * (c % 60) then left else if q = hb + 11 ∧ j = 1 then left else if q = hb + 11 ∧ j = 0 then taken else if q = hb + 10 ∧ j = 4 then (fallF (I hb 6) (I (hb + 10) 3) (I (hb + 10) 4) (I (hb + 1) 1) (I (hb + 1) 2) (I (hb + 1) 3)).2.2 else if q = hb + 10 ∧ j = 3 then (fallF (I hb 6) (I (hb + 10) 3) (I (hb + 10) 4) (I (hb + 1) 1) (I (hb + 1) 2) (I (hb + 1) 3)).2.1 else if q = hb ∧ j = 6 then (fallF (I hb 6) (I (hb + 10) 3) (I (hb + 10) 4) (I (hb + 1) 1) (I (hb + 1) 2) (I (hb + 1) 3)).1 else if q = hb + 10 ∧ j = 1 then wr32 (I (hb + 10) 1 + left) else I q j) := by
  unfold f_H_close
  refine par_zw' (fun I1 e1 => ?_)
  have a3 : I1 (hb + 10) 3 = I (hb + 10) 3 := by rw [e1, if_neg (by omega)]
  have t1 : I1 (hb + 1) 1 = I (hb + 1) 1 := by rw [e1, if_neg (by omega)]
  rw [a3, t1]
  refine par_zw' (fun I2 e2 => ?_)
  refine par_zj (fun k3 ek3 => ?_)
  -- from the fall on
  have hk3 : ∀ (I4 : IMem) (F : Int × Int × Int), F = fallF (I hb 6) (I (hb + 10) 3) (I (hb + 10) 4) (I (hb + 1) 1) (I (hb + 1) 2) (I (hb + 1) 3) → (∀ q j, I4 q j = if q = hb + 10 ∧ j = 4 then F.2.2 else if q = hb + 10 ∧ j = 3 then F.2.1 else if q = hb ∧ j = 6 then F.1 else if q = hb + 10 ∧ j = 1 then wr32 (I (hb + 10) 1 + left) else I q j) → par (k3 I4) (fun _ I' => ∀ q j, I' q j = if q = hb + 10 ∧ j = 0 then (c : Int) + 1 else if q = hb + 12 ∧ j = 3 * (c % 60) + 2 then (fallF (I hb 6) (I (hb + 10) 3) (I (hb + 10) 4) (I (hb + 1) 1) (I (hb + 1) 2) (I (hb + 1) 3)).2.1 else if q = hb + 12 ∧ j = 3 * (c % 60) + 1 then taken else if q = hb + 12 ∧ j = 3 * (c % 60) then left else if q = hb + 11 ∧ j = 1 then left else if q = hb + 11 ∧ j = 0 then taken else if q = hb + 10 ∧ j = 4 then (fallF (I hb 6) (I (hb + 10) 3) (I (hb + 10) 4) (I (hb + 1) 1) (I (hb + 1) 2) (I (hb + 1) 3)).2.2 else if q = hb + 10 ∧ j = 3 then (fallF (I hb 6) (I (hb + 10) 3) (I (hb + 10) 4) (I (hb + 1) 1) (I (hb + 1) 2) (I (hb + 1) 3)).2.1 else if q = hb ∧ j = 6 then (fallF (I hb 6) (I (hb + 10) 3) (I (hb + 10) 4) (I (hb + 1) 1) (I (hb + 1) 2) (I (hb + 1) 3)).1 else if q = hb + 10 ∧ j = 1 then wr32 (I (hb + 10) 1 + left) else I q j) := by
    intro I4 F hF e4
    subst ek3
    rw [← hF]
    clear hF
    refine par_zw' (fun I5 e5 => par_zw' (fun I6 e6 => ?_))
    have c6 : I6 (hb + 10) 0 = (c : Int) := by rw [e6, if_neg (by omega), e5, if_neg (by omega), e4, if_neg (by omega), if_neg (by omega), if_neg (by omega), if_neg (by omega)]; exact hc
    rw [c6]
    refine par_zb (cv_pastAt (fu := fu) (c : Int) (by omega) I6) (fun v I7 ⟨g1, g2⟩ => ?_)
    have g1' := g1.symm
    subst g1'
    refine par_zg (fun gv => ?_)
    have hv : v = ((3 * (c % 60) : Nat) : Int) := by
      rcases g2 with g2 | g2
      · omega
      · omega
    have w1 : Wq (wr32 (v + 1)) (((3 * (c % 60) + 1 : Nat) : Int)) := by show wr32 (v + 1) = ((3 * (c % 60) + 1 : Nat) : Int); rw [wr32_i2 (by omega) (by omega)]; omega
    have w2 : Wq (wr32 (v + 2)) (((3 * (c % 60) + 2 : Nat) : Int)) := by show wr32 (v + 2) = ((3 * (c % 60) + 2 : Nat) : Int); rw [wr32_i2 (by omega) (by omega)]; omega
    simp only [zl_e]
    rw [w1.e, w2.e, hv, tn, tn, tn]
    clear w1 w2
    refine par_zw' (fun I8 e8 => par_zg (fun _ => par_zw' (fun I9 e9 => par_zg (fun _ => ?_))))
    have t9 : I9 (hb + 10) 3 = F.2.1 := by rw [e9, if_neg (by omega), e8, if_neg (by omega), e6, if_neg (by omega), e5, if_neg (by omega), e4, if_neg (by omega), if_pos ⟨rfl, rfl⟩]
    rw [t9]
    refine par_zw' (fun I10 e10 => ?_)
    have c10 : I10 (hb + 10) 0 = (c : Int) := by rw [e10, if_neg (by omega), e9, if_neg (by omega), e8, if_neg (by omega)]; exact c6
    rw [c10, wr32_i2 (x := (c : Int) + 1) (by omega) (by omega)]
    refine par_zw' (fun I11 e11 => par_zr (fun q j => ?_))
    rw [e11, e10, e9, e8, e6, e5, e4]
  clear ek3
  have b3 : I2 (hb + 1) 3 = I (hb + 1) 3 := by rw [e2, if_neg (by omega), e1, if_neg (by omega)]
  rw [b3]
  have i4 : I (hb + 10) 4 = I2 (hb + 10) 4 := by rw [e2, if_neg (by omega), e1, if_neg (by omega)]
  refine par_ite (fun q => ?_) (fun q => ?_)
  · unfold f_H_draw
    have b6 : I2 hb 6 = I hb 6 := by rw [e2, if_neg (by omega), e1, if_neg (by omega)]
    rw [b6, zb_zw]
    refine par_zw' (fun I3 e3 => ?_)
    rw [if_pos (by decide), zg_t (by decide), zb_zr, (e3 hb 6).trans (if_pos ⟨rfl, rfl⟩)]
    have d3 : I3 (hb + 1) 3 = I (hb + 1) 3 := by rw [e3, if_neg (by omega)]; exact b3
    rw [d3]
    refine par_ite (fun q2 => ?_) (fun q2 => ?_)
    · have d33 : I3 (hb + 10) 3 = wr32 (I (hb + 10) 3 + I (hb + 1) 1) := by rw [e3, if_neg (by omega), e2, if_pos ⟨rfl, rfl⟩]
      have d12 : I3 (hb + 1) 2 = I (hb + 1) 2 := by rw [e3, if_neg (by omega), e2, if_neg (by omega), e1, if_neg (by omega)]
      rw [d33, d12]
      refine par_zw' (fun I4 e4 => ?_)
      have d44 : I4 (hb + 10) 4 = I (hb + 10) 4 := by rw [e4, if_neg (by omega), e3, if_neg (by omega), ← i4]
      rw [d44]
      refine par_zw' (fun I5 e5 => hk3 I5 _ rfl (fun q' j => ?_))
      have hF : fallF (I hb 6) (I (hb + 10) 3) (I (hb + 10) 4) (I (hb + 1) 1) (I (hb + 1) 2) (I (hb + 1) 3) = (wr32 (wr32 (I hb 6 * 1664525) + 1013904223), wr32 (wr32 (I (hb + 10) 3 + I (hb + 1) 1) + I (hb + 1) 2), wr32 (I (hb + 10) 4 + 1)) := by
        unfold fallF; rw [if_pos q, if_pos q2]
      rw [hF, e5, e4, e3, e2, e1]
      by_cases z : q' = hb + 10 ∧ j = 3
      · rw [if_neg (by omega), if_pos z, if_neg (by omega), if_pos z]
      · rw [if_neg z]
        by_cases z4 : q' = hb + 10 ∧ j = 4
        · rw [if_pos z4, if_pos z4]
        · rw [if_neg z4, if_neg z4, if_neg z, if_neg z]
    · refine hk3 I3 _ rfl (fun q' j => ?_)
      have hF : fallF (I hb 6) (I (hb + 10) 3) (I (hb + 10) 4) (I (hb + 1) 1) (I (hb + 1) 2) (I (hb + 1) 3) = (wr32 (wr32 (I hb 6 * 1664525) + 1013904223), wr32 (I (hb + 10) 3 + I (hb + 1) 1), I (hb + 10) 4) := by
        unfold fallF; rw [if_pos q, if_neg q2]
      rw [hF, e3, e2, e1]
      by_cases z4 : q' = hb + 10 ∧ j = 4
      · rw [if_pos z4, if_neg (by omega), if_neg (by omega), if_neg (by omega), z4.1, z4.2]
      · rw [if_neg z4]
        by_cases z : q' = hb + 10 ∧ j = 3
        · rw [if_neg (by omega), if_pos z, if_pos z]
        · rw [if_neg z, if_neg z]
  · refine hk3 I2 _ rfl (fun q' j => ?_)
    have hF : fallF (I hb 6) (I (hb + 10) 3) (I (hb + 10) 4) (I (hb + 1) 1) (I (hb + 1) 2) (I (hb + 1) 3) = (I hb 6, wr32 (I (hb + 10) 3 + I (hb + 1) 1), I (hb + 10) 4) := by
      unfold fallF; rw [if_neg q]
    rw [hF, e2, e1]
    by_cases z4 : q' = hb + 10 ∧ j = 4
    · rw [if_pos z4, if_neg (by omega), if_neg (by omega), z4.1, z4.2]
    · rw [if_neg z4]
      by_cases z : q' = hb + 10 ∧ j = 3
      · rw [if_pos z, if_pos z]
      · rw [if_neg z, if_neg z]
        by_cases z6 : q' = hb ∧ j = 6
        · rw [if_neg (by omega), if_pos z6, z6.1, z6.2]
        · rw [if_neg z6]
end
