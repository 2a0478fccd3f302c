/-! one is parted, on both sides -/
/-- who may be parted, by the reference's memory -/
def pF (J : IMem) (kl : Nat) (law : List LRec) (k : Nat) : Prop := ((k % 40 : Nat) : Int) < J 1 (130 + k / 40) ∧ ¬ 0 < J 0 33 ∧ (((k % 40 : Nat) : Int) < J 1 (10 + k / 40) ∧ J 9 k = 0 ∧ J 12 k = 0) ∧ J 1 (140 + 6 * k + 3) = 0 ∧ J 1 (140 + 6 * k + 2) = J 1 (140 + 6 * k + 1) ∧ J 0 30 < J 1 (140 + 6 * k + 1) ∧ pz (J 1 (16 + J 1 (140 + 6 * k + 1)).toNat) (J 1 (140 + 6 * k + 1)) (J 0 30) ≠ 0 ∧ 1 ≤ lval kl (WF J (k / 40) (k % 40) (J 0 30) (J 0 31)) law
def pzF (J : IMem) (k : Nat) : Int := pz (J 1 (16 + J 1 (140 + 6 * k + 1)).toNat) (J 1 (140 + 6 * k + 1)) (J 0 30)
theorem pF_same {J J' : IMem} {kl : Nat} {law : List LRec} (h : ∀ q j, q ≠ 7 → q ≠ 8 → J' q j = J q j) (k : Nat) : pF J' kl law k ↔ pF J kl law k := by
  unfold pF
  rw [wf_same h]
  simp only [h 1 _ (by decide) (by decide), h 0 _ (by decide) (by decide), h 9 _ (by decide) (by decide), h 12 _ (by decide) (by decide)]
theorem ev_partOf (fu : Nat) (J : IMem) (z : Int) (h : 1 ≤ z ∧ z ≤ 8) (ha : 0 ≤ J 1 (16 + z).toNat ∧ J 1 (16 + z).toNat < z) : f_X_partOf fu 0 z J = zr (pz (J 1 (16 + z).toNat) z (J 0 30)) J := by
  unfold f_X_partOf pz
  simp only [zl_e, zj_e, Nat.zero_add]
  rw [wr32_i2 (x := 16 + z) (by omega) (by omega), zg_t (by omega), wr32_i2 (x := z - J 1 (16 + z).toNat) (by omega) (by omega)]
  generalize J 1 (16 + z).toNat = a at ha
  by_cases h0 : a = 0
  · rw [if_pos h0, if_pos h0]
  · rw [if_neg h0, if_neg h0]
    by_cases h1 : J 0 30 < a
    · rw [if_pos h1, if_neg (by omega : ¬ a ≤ J 0 30)]
      by_cases h2 : J 0 30 < z - a
      · rw [if_pos h2, if_neg (by omega : ¬ z - a ≤ J 0 30)]
      · rw [if_neg h2, if_pos (by omega : z - a ≤ J 0 30)]
        by_cases h3 : 0 < z - a
        · rw [if_pos h3, if_pos h3]
        · rw [if_neg h3, if_neg h3]
    · rw [if_neg h1, if_pos (by omega : a ≤ J 0 30)]
      by_cases h2 : J 0 30 < z - a
      · rw [if_pos h2, if_neg (by omega : ¬ z - a ≤ J 0 30)]
      · rw [if_neg h2, if_pos (by omega : z - a ≤ J 0 30)]
        by_cases h3 : a < z - a
        · rw [if_pos h3, if_pos h3]
        · rw [if_neg h3, if_neg h3]
section
variable {fu : Nat} {Q : Int → IMem → Prop}
theorem xv_part17 (kh : Int → Int → IMem → Res) (kn : IMem → Res) (J0 : IMem) {kl : Nat} {law : List LRec} (hw : LWX J0 kl law) (hz : ∀ k, INL J0 k → 1 ≤ J0 1 (141 + 6 * k) ∧ J0 1 (141 + 6 * k) ≤ 8) (hpt : PTS J0) (hd : ¬ 0 < J0 0 33) {l : Nat} (hl : l < 6) (hc : 0 ≤ J0 1 (130 + l) ∧ J0 1 (130 + l) ≤ 40) (hit : ∀ (J : IMem) (p : Nat), (∀ q j, q ≠ 7 → q ≠ 8 → J q j = J0 q j) → p < 40 → pF J0 kl law (40 * l + p) → (∀ k, k < 40 * l + p → ¬ pF J0 kl law k) → par (kh (p : Int) (J0 1 (140 + 6 * (40 * l + p) + 1)) J) Q) (non : ∀ (J : IMem), (∀ q j, q ≠ 7 → q ≠ 8 → J q j = J0 q j) → (∀ k, k < 40 * (l + 1) → ¬ pF J0 kl law k) → par (kn J) Q) : ∀ (m p : Nat) (J : IMem), (∀ q j, q ≠ 7 → q ≠ 8 → J q j = J0 q j) → (p : Int) ≤ J0 1 (130 + l) → (∀ k, k < 40 * l + p → ¬ pF J0 kl law k) → par (f_X_parts0_17 fu kh kn 0 (l : Int) m (p : Int) J) Q := by
  intro m
  induction m with
  | zero => intro _ _ _ _ _; exact par_none
  | succ m ih =>
    intro p J hJ hp hk
    show par (fb_X_parts0_17 fu kh kn 0 (l : Int) (f_X_parts0_17 fu kh kn 0 (l : Int) m) (p : Int) J) Q
    unfold fb_X_parts0_17
    have w1 : Wq (wr32 (130 + (l : Int))) (((130 + l : Nat) : Int)) := by show wr32 (130 + (l : Int)) = ((130 + l : Nat) : Int); rw [wr32_i2 (by omega) (by omega)]; omega
    have jw : ∀ j, J 1 j = J0 1 j := fun j => hJ _ _ (by decide) (by decide)
    have j0 : ∀ j, J 0 j = J0 0 j := fun j => hJ _ _ (by decide) (by decide)
    simp only [zl_e, zj_e]
    rw [w1.e]
    refine par_zg (fun _ => ?_)
    show par (if (p : Int) < J 1 (130 + l) then _ else _) _
    rw [jw]
    by_cases hpc : (p : Int) < J0 1 (130 + l)
    · rw [if_pos hpc]
      have hp4 : p < 40 := by omega
      have hin : INL J0 (40 * l + p) := ⟨by omega, by rw [show (40 * l + p) % 40 = p by omega, show (40 * l + p) / 40 = l by omega]; exact hpc⟩
      have wn : Wq (wr32 ((p : Int) + 1)) (((p + 1 : Nat) : Int)) := by show wr32 ((p : Int) + 1) = ((p + 1 : Nat) : Int); rw [wr32_i2 (by omega) (by omega)]; rfl
      rw [ev_of1 fu 0 l p J hl hp4, zb_zr, ev_isOpen fu l p J hl hp4, zb_zr, wn.e]
      have skip : ∀ J' : IMem, (∀ q j, q ≠ 7 → q ≠ 8 → J' q j = J0 q j) → ¬ pF J0 kl law (40 * l + p) → par (f_X_parts0_17 fu kh kn 0 (l : Int) m ((p + 1 : Nat) : Int) J') Q := fun J' h1 h2 => ih (p + 1) J' h1 (by omega) (fun k hk2 => by
        by_cases q : k = 40 * l + p
        · rw [q]; exact h2
        · exact hk k (by omega))
      have pf : pF J0 kl law (40 * l + p) ↔ ((p : Int) < J0 1 (130 + l) ∧ ¬ 0 < J0 0 33 ∧ ((p : Int) < J0 1 (10 + l) ∧ J0 9 (40 * l + p) = 0 ∧ J0 12 (40 * l + p) = 0) ∧ J0 1 (140 + 6 * (40 * l + p) + 3) = 0 ∧ J0 1 (140 + 6 * (40 * l + p) + 2) = J0 1 (140 + 6 * (40 * l + p) + 1) ∧ J0 0 30 < J0 1 (140 + 6 * (40 * l + p) + 1) ∧ pz (J0 1 (16 + J0 1 (140 + 6 * (40 * l + p) + 1)).toNat) (J0 1 (140 + 6 * (40 * l + p) + 1)) (J0 0 30) ≠ 0 ∧ 1 ≤ lval kl (WF J0 l p (J0 0 30) (J0 0 31)) law) := by
        unfold pF
        rw [show (40 * l + p) % 40 = p by omega, show (40 * l + p) / 40 = l by omega]
      have o1 : J (0 + 1) (140 + 6 * (40 * l + p) + 1) = J0 1 (140 + 6 * (40 * l + p) + 1) := jw _
      have z1 := hz _ hin
      rw [show 141 + 6 * (40 * l + p) = 140 + 6 * (40 * l + p) + 1 by omega] at z1
      rw [jw, hJ 9 _ (by decide) (by decide), hJ 12 _ (by decide) (by decide), o1]
      by_cases h1 : (p : Int) < J0 1 (10 + l) ∧ J0 9 (40 * l + p) = 0 ∧ J0 12 (40 * l + p) = 0
      · rw [if_pos h1, if_neg (by decide), ev_of3 fu 0 l p J hl hp4, zb_zr]
        show par (if J 1 (140 + 6 * (40 * l + p) + 3) = 0 then _ else _) _
        rw [jw]
        by_cases h2 : J0 1 (140 + 6 * (40 * l + p) + 3) = 0
        · rw [if_pos h2, ev_of2 fu 0 l p J hl hp4, zb_zr]
          show par (if J 1 (140 + 6 * (40 * l + p) + 2) = _ then _ else _) _
          rw [jw, j0]
          by_cases h3 : J0 1 (140 + 6 * (40 * l + p) + 2) = J0 1 (140 + 6 * (40 * l + p) + 1)
          · rw [if_pos h3]
            by_cases h4 : J0 0 30 < J0 1 (140 + 6 * (40 * l + p) + 1)
            · have pe := ev_partOf fu J (J0 1 (140 + 6 * (40 * l + p) + 1)) z1 (by rw [jw]; exact hpt _ z1.1 z1.2)
              rw [jw, j0] at pe
              rw [if_pos h4, pe, zb_zr]
              by_cases h5 : pz (J0 1 (16 + J0 1 (140 + 6 * (40 * l + p) + 1)).toNat) (J0 1 (140 + 6 * (40 * l + p) + 1)) (J0 0 30) = 0
              · rw [if_pos h5]; exact skip J hJ (fun z => (pf.mp z).2.2.2.2.2.2.1 h5)
              · rw [if_neg h5]
                have hw' := lwx_same (J' := J) hw (fun j _ => jw j)
                refine par_zb (xv_worth (fu := fu) (left := J 0 30) (taken := J 0 31) hl (by rw [jw]; exact hpc) (by rw [jw]; exact hc.2) hw'.1 hw'.2.1 hw'.2.2.1 hw'.2.2.2) (fun v J1 ⟨g1, g2⟩ => ?_)
                have hJ1 : ∀ q j, q ≠ 7 → q ≠ 8 → J1 q j = J0 q j := fun q j a c => (g2 q j a c).trans (hJ q j a c)
                rw [wf_same hJ, j0, j0] at g1
                refine par_ite (fun q => skip J1 hJ1 (fun z => by have := (pf.mp z).2.2.2.2.2.2.2; omega)) (fun q => ?_)
                exact hit J1 p hJ1 hp4 (pf.mpr ⟨hpc, hd, h1, h2, h3, h4, h5, by omega⟩) hk
            · rw [if_neg h4]; exact skip J hJ (fun z => h4 (pf.mp z).2.2.2.2.2.1)
          · rw [if_neg h3]; exact skip J hJ (fun z => h3 (pf.mp z).2.2.2.2.1)
        · rw [if_neg h2]; exact skip J hJ (fun z => h2 (pf.mp z).2.2.2.1)
      · rw [if_neg h1, if_pos rfl]; exact skip J hJ (fun z => h1 (pf.mp z).2.2.1)
    · rw [if_neg hpc]
      refine non J hJ (fun k hk2 => ?_)
      by_cases q : k < 40 * l + p
      · exact hk k q
      · intro z
        have := z.1
        rw [show k % 40 = k - 40 * l by omega, show k / 40 = l by omega] at this
        omega
theorem xv_part2 (kh : Int → Int → Int → IMem → Res) (J0 : IMem) {kl : Nat} {law : List LRec} (hw : LWX J0 kl law) (hz : ∀ k, INL J0 k → 1 ≤ J0 1 (141 + 6 * k) ∧ J0 1 (141 + 6 * k) ≤ 8) (hpt : PTS J0) (hc : ∀ l, l < 6 → 0 ≤ J0 1 (130 + l) ∧ J0 1 (130 + l) ≤ 40) (h33 : 0 ≤ J0 0 33) (hit : ∀ (J : IMem) (l p : Nat), (∀ q j, q ≠ 7 → q ≠ 8 → J q j = J0 q j) → l < 6 → p < 40 → pF J0 kl law (40 * l + p) → (∀ k, k < 40 * l + p → ¬ pF J0 kl law k) → par (kh (l : Int) (p : Int) (J0 1 (140 + 6 * (40 * l + p) + 1)) J) Q) (non : ∀ (J : IMem), (∀ q j, q ≠ 7 → q ≠ 8 → J q j = J0 q j) → (∀ k, k < 240 → ¬ pF J0 kl law k) → par (zr 0 J) Q) : ∀ (m l : Nat) (J : IMem), l ≤ 6 → (∀ q j, q ≠ 7 → q ≠ 8 → J q j = J0 q j) → (∀ k, k < 40 * l → ¬ pF J0 kl law k) → par (f_X_parts0_2 fu kh 0 m (l : Int) J) Q := by
  intro m
  induction m with
  | zero => intro _ _ _ _ _; exact par_none
  | succ m ih =>
    intro l J hl hJ hk
    show par (fb_X_parts0_2 fu kh 0 (f_X_parts0_2 fu kh 0 m) (l : Int) J) Q
    unfold fb_X_parts0_2
    have j0 : J 0 33 = J0 0 33 := hJ _ _ (by decide) (by decide)
    rw [j0]
    by_cases h6 : l < 6
    · rw [if_pos (by omega)]
      by_cases hd : J0 0 33 = 0
      · rw [if_pos hd]
        refine xv_part17 (fu := fu) _ _ J0 hw hz hpt (by omega) h6 (hc l h6) (fun J' p h1 h2 h3 h4 => hit J' l p h1 h6 h2 h3 h4) (fun J' h1 h2 => ?_) fu 0 J hJ (hc l h6).1 hk
        simp only [zl_e]
        have wn : Wq (wr32 ((l : Int) + 1)) (((l + 1 : Nat) : Int)) := by show wr32 ((l : Int) + 1) = ((l + 1 : Nat) : Int); rw [wr32_i2 (by omega) (by omega)]; rfl
        rw [wn.e]
        exact ih (l + 1) J' h6 h1 h2
      · rw [if_neg hd]
        exact non J hJ (fun k _ z => by have := z.2.1; omega)
    · rw [if_neg (by omega)]
      have : l = 6 := by omega
      subst this
      exact non J hJ hk
/-- parts0: nobody, or the first who may be parted -/
theorem xv_parts0 (J : IMem) {kl : Nat} {law : List LRec} (hw : LWX J kl law) (hz : ∀ k, INL J k → 1 ≤ J 1 (141 + 6 * k) ∧ J 1 (141 + 6 * k) ≤ 8) (hpt : PTS J) (hc : ∀ l, l < 6 → 0 ≤ J 1 (130 + l) ∧ J 1 (130 + l) ≤ 40) (h33 : 0 ≤ J 0 33) (h31 : 0 ≤ J 0 31 ∧ 0 ≤ J 0 30 ∧ J 0 30 + J 0 31 ≤ 8) : par (f_X_parts0 fu 0 J) (fun _ J' => ((∀ k, k < 240 → ¬ pF J kl law k) ∧ ∀ q j, q ≠ 7 → q ≠ 8 → J' q j = J q j) ∨ ∃ k, k < 240 ∧ pF J kl law k ∧ (∀ k', k' < k → ¬ pF J kl law k') ∧ (1 ≤ pzF J k ∧ pzF J k ≤ J 0 30 ∧ pzF J k < J 1 (141 + 6 * k)) ∧ ∀ q j, q ≠ 7 → q ≠ 8 → J' q j = if q = 0 ∧ j = 34 then wr32 (J 0 34 + (if (0 : Int) = 1 then 0 else 1)) else if q = 0 ∧ j = 33 then wr32 (J 0 33 + (if (0 : Int) = 2 then 1 else 0)) else if q = 0 ∧ j = 30 then wr32 (J 0 30 - pzF J k) else if q = 0 ∧ j = 31 then J 0 31 + 1 else if q = 11 ∧ j = (J 0 31).toNat then (k : Int) else if q = 9 ∧ j = k then pzF J k else J q j) := by
  unfold f_X_parts0
  refine xv_part2 (fu := fu) _ J hw hz hpt hc h33 (fun J1 l p h1 hl hp h2 h3 => ?_) (fun J1 h1 h2 => par_zr (Or.inl ⟨h2, h1⟩)) fu 0 J (by decide) (fun _ _ _ _ => rfl) (fun k hk => absurd hk (by omega))
  have jw : ∀ j, J1 1 j = J 1 j := fun j => h1 _ _ (by decide) (by decide)
  have j0 : ∀ j, J1 0 j = J 0 j := fun j => h1 _ _ (by decide) (by decide)
  have h2' := h2
  unfold pF at h2'
  obtain ⟨x1, x2, x3, x4, x5, x6, x7, x8⟩ := h2'
  have hin : INL J (40 * l + p) := ⟨by omega, x1⟩
  have z1 := hz _ hin
  rw [show 141 + 6 * (40 * l + p) = 140 + 6 * (40 * l + p) + 1 by omega] at z1
  have pt := hpt _ z1.1 z1.2
  have pe := ev_partOf fu J1 (J 1 (140 + 6 * (40 * l + p) + 1)) z1 (by rw [jw]; exact pt)
  rw [jw, j0] at pe
  rw [pe, zb_zr]
  have prg : 1 ≤ pzF J (40 * l + p) ∧ pzF J (40 * l + p) ≤ J 0 30 ∧ pzF J (40 * l + p) < J 1 (140 + 6 * (40 * l + p) + 1) := by
    unfold pzF
    unfold pz at x7 ⊢
    generalize J 1 (16 + J 1 (140 + 6 * (40 * l + p) + 1)).toNat = a at x7 pt ⊢
    by_cases c0 : a = 0
    · rw [if_pos c0] at x7; exact absurd rfl x7
    · rw [if_neg c0] at x7 ⊢
      split at x7 <;> rename_i c1
      · rw [if_pos c1]
        split <;> omega
      · rw [if_neg c1]
        split at x7 <;> rename_i c2
        · rw [if_pos c2]; omega
        · exact absurd rfl x7
  refine par_zb (xv_takes (fu := fu) l p (pzF J (40 * l + p)) J1 hl hp (by rw [j0]; omega)) (fun _ J2 g => par_zr (Or.inr ⟨40 * l + p, by omega, h2, h3, ⟨prg.1, prg.2.1, by rw [show 141 + 6 * (40 * l + p) = 140 + 6 * (40 * l + p) + 1 by omega]; exact prg.2.2⟩, fun q j h7 h8 => ?_⟩))
  rw [g, jw, x4, j0, j0, j0, j0, h1 q j h7 h8]
end
