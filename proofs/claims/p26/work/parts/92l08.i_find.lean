/-! who is found for the chair: the best of those that fit, on both sides -/
/-- the first best of the spots below n: which, how much -/
def amF (e : Nat → Bool) (v : Nat → Int) (lo : Int) : Nat → Int × Int
  | 0 => (-1, lo)
  | k + 1 => if e k = true ∧ (amF e v lo k).2 < v k then ((k : Int), v k) else amF e v lo k
theorem amF_gap {e : Nat → Bool} {v : Nat → Int} {lo : Int} {a : Nat} : ∀ b : Nat, a ≤ b → (∀ k, a ≤ k → k < b → e k = false) → amF e v lo b = amF e v lo a := by
  intro b
  induction b with
  | zero => intro h _; rw [show a = 0 by omega]
  | succ b ih =>
    intro h hk
    by_cases e1 : a = b + 1
    · rw [e1]
    · show (if e b = true ∧ (amF e v lo b).2 < v b then ((b : Int), v b) else amF e v lo b) = _
      rw [if_neg (fun q => by rw [hk b (by omega) (by omega)] at q; exact absurd q.1 (by decide))]
      exact ih (by omega) (fun k h1 h2 => hk k h1 (by omega))
theorem amF_eq {e e2 : Nat → Bool} {v v2 : Nat → Int} {lo : Int} : ∀ n : Nat, (∀ k, k < n → e2 k = e k) → (∀ k, k < n → e k = true → v2 k = v k) → amF e2 v2 lo n = amF e v lo n := by
  intro n
  induction n with
  | zero => intro _ _; rfl
  | succ n ih =>
    intro h1 h2
    show (if e2 n = true ∧ (amF e2 v2 lo n).2 < v2 n then ((n : Int), v2 n) else amF e2 v2 lo n) = (if e n = true ∧ (amF e v lo n).2 < v n then ((n : Int), v n) else amF e v lo n)
    rw [ih (fun k hk => h1 k (by omega)) (fun k hk => h2 k (by omega)), h1 n (by omega)]
    by_cases q : e n = true
    · rw [h2 n (by omega) q]
    · rw [if_neg (fun z => q z.1), if_neg (fun z => q z.1)]
theorem amF_rng {e : Nat → Bool} {v : Nat → Int} {lo : Int} : ∀ n : Nat, (amF e v lo n = (-1, lo)) ∨ ∃ k : Nat, k < n ∧ e k = true ∧ (amF e v lo n).1 = (k : Int) ∧ (amF e v lo n).2 = v k ∧ lo < v k := by
  intro n
  induction n with
  | zero => exact Or.inl rfl
  | succ n ih =>
    show ((if e n = true ∧ (amF e v lo n).2 < v n then ((n : Int), v n) else amF e v lo n) = (-1, lo)) ∨ ∃ k : Nat, k < n + 1 ∧ e k = true ∧ (if e n = true ∧ (amF e v lo n).2 < v n then ((n : Int), v n) else amF e v lo n).1 = (k : Int) ∧ (if e n = true ∧ (amF e v lo n).2 < v n then ((n : Int), v n) else amF e v lo n).2 = v k ∧ lo < v k
    by_cases q : e n = true ∧ (amF e v lo n).2 < v n
    · rw [if_pos q]
      refine Or.inr ⟨n, by omega, q.1, rfl, rfl, ?_⟩
      rcases ih with h | ⟨k, h1, h2, h3, h4, h5⟩
      · rw [h] at q; exact q.2
      · rw [h4] at q; omega
    · rw [if_neg q]
      rcases ih with h | ⟨k, h1, h2, h3, h4, h5⟩
      · exact Or.inl h
      · exact Or.inr ⟨k, by omega, h2, h3, h4, h5⟩
/-- who fits, by the reference's memory -/
def eF (J : IMem) (k : Nat) : Bool := decide (((k % 40 : Nat) : Int) < J 1 (130 + k / 40) ∧ ((k % 40 : Nat) : Int) < J 1 (10 + k / 40) ∧ J 9 k = 0 ∧ J 12 k = 0 ∧ J 1 (140 + 6 * k + 2) ≤ J 0 30 ∧ ¬ 0 < J 0 33 ∧ (J 1 (140 + 6 * k + 3) = 1 → 0 < J 0 34) ∧ (J 1 (140 + 6 * k + 3) = 2 → J 0 31 = 0))
theorem ef_iff (J : IMem) {l p : Nat} (hp : p < 40) : eF J (40 * l + p) = true ↔ ((p : Int) < J 1 (130 + l) ∧ (p : Int) < J 1 (10 + l) ∧ J 9 (40 * l + p) = 0 ∧ J 12 (40 * l + p) = 0 ∧ J 1 (140 + 6 * (40 * l + p) + 2) ≤ J 0 30 ∧ ¬ 0 < J 0 33 ∧ (J 1 (140 + 6 * (40 * l + p) + 3) = 1 → 0 < J 0 34) ∧ (J 1 (140 + 6 * (40 * l + p) + 3) = 2 → J 0 31 = 0)) := by
  unfold eF
  rw [decide_eq_true_iff, show (40 * l + p) % 40 = p by omega, show (40 * l + p) / 40 = l by omega]
theorem ef_same {J J' : IMem} (h : ∀ q j, q ≠ 7 → q ≠ 8 → J' q j = J q j) : eF J' = eF J := by
  funext k
  unfold eF
  rw [h 1 _ (by decide) (by decide), h 1 _ (by decide) (by decide), h 9 _ (by decide) (by decide), h 12 _ (by decide) (by decide), h 1 _ (by decide) (by decide), h 0 _ (by decide) (by decide), h 0 _ (by decide) (by decide), h 1 _ (by decide) (by decide), h 0 _ (by decide) (by decide), h 0 _ (by decide) (by decide)]
theorem ev_isOpen (fu l p : Nat) (J : IMem) (hl : l < 6) (hp : p < 40) : f_X_isOpen fu 0 (l : Int) (p : Int) J = zr (if (p : Int) < J 1 (10 + l) ∧ J 9 (40 * l + p) = 0 ∧ J 12 (40 * l + p) = 0 then 1 else 0) J := by
  unfold f_X_isOpen
  have w1 : Wq (wr32 (10 + (l : Int))) (((10 + l : Nat) : Int)) := by show wr32 (10 + (l : Int)) = ((10 + l : Nat) : Int); rw [wr32_i2 (by omega) (by omega)]; omega
  have w2 : Wq (wr32 (wr32 (40 * (l : Int)) + (p : Int))) (((40 * l + p : Nat) : Int)) := by show wr32 (wr32 (40 * (l : Int)) + (p : Int)) = ((40 * l + p : Nat) : Int); rw [wr32_i2 (x := 40 * (l : Int)) (by omega) (by omega), wr32_i2 (by omega) (by omega)]; omega
  simp only [zl_e]
  rw [w1.e, w2.e, zg_t (by omega)]
  show (if (p : Int) < J 1 (10 + l) then _ else _) = _
  by_cases h1 : (p : Int) < J 1 (10 + l)
  · rw [if_pos h1, zg_t (by omega)]
    show (if J 9 (40 * l + p) = 0 then _ else _) = _
    by_cases h2 : J 9 (40 * l + p) = 0
    · rw [if_pos h2, zg_t (by omega)]
      show (if J 12 (40 * l + p) = 0 then _ else _) = _
      by_cases h3 : J 12 (40 * l + p) = 0
      · rw [if_pos h3, if_pos ⟨h1, h2, h3⟩]
      · rw [if_neg h3, if_neg (fun q => h3 q.2.2)]
    · rw [if_neg h2, if_neg (fun q => h2 q.2.1)]
  · rw [if_neg h1, if_neg (fun q => h1 q.1)]
theorem ev_xfits (fu l p : Nat) (J : IMem) (hl : l < 6) (hp : (p : Int) < J 1 (130 + l)) (hp4 : p < 40) : f_X_fits fu 0 (l : Int) (p : Int) J = zr (if eF J (40 * l + p) = true then 1 else 0) J := by
  unfold f_X_fits
  have key : ∀ v : Bool, v = eF J (40 * l + p) → (if eF J (40 * l + p) = true then (1 : Int) else 0) = (if v = true then 1 else 0) := fun v hv => by rw [hv]
  have yes : ((p : Int) < J 1 (130 + l) ∧ (p : Int) < J 1 (10 + l) ∧ J 9 (40 * l + p) = 0 ∧ J 12 (40 * l + p) = 0 ∧ J 1 (140 + 6 * (40 * l + p) + 2) ≤ J 0 30 ∧ ¬ 0 < J 0 33 ∧ (J 1 (140 + 6 * (40 * l + p) + 3) = 1 → 0 < J 0 34) ∧ (J 1 (140 + 6 * (40 * l + p) + 3) = 2 → J 0 31 = 0)) → zr (if eF J (40 * l + p) = true then 1 else 0) J = zr 1 J := fun h => by rw [if_pos ((ef_iff J hp4).mpr h)]
  have no : ¬ ((p : Int) < J 1 (130 + l) ∧ (p : Int) < J 1 (10 + l) ∧ J 9 (40 * l + p) = 0 ∧ J 12 (40 * l + p) = 0 ∧ J 1 (140 + 6 * (40 * l + p) + 2) ≤ J 0 30 ∧ ¬ 0 < J 0 33 ∧ (J 1 (140 + 6 * (40 * l + p) + 3) = 1 → 0 < J 0 34) ∧ (J 1 (140 + 6 * (40 * l + p) + 3) = 2 → J 0 31 = 0)) → zr (if eF J (40 * l + p) = true then 1 else 0) J = zr 0 J := fun h => by rw [if_neg (fun q => h ((ef_iff J hp4).mp q))]
  rw [ev_isOpen fu l p J hl hp4, zb_zr]
  by_cases h1 : (p : Int) < J 1 (10 + l) ∧ J 9 (40 * l + p) = 0 ∧ J 12 (40 * l + p) = 0
  · rw [if_pos h1, if_neg (by decide), ev_of2 fu 0 l p J hl hp4, zb_zr]
    show (if J 0 30 < J 1 (140 + 6 * (40 * l + p) + 2) then _ else _) = _
    by_cases h2 : J 0 30 < J 1 (140 + 6 * (40 * l + p) + 2)
    · rw [if_pos h2, no (fun q => by have := q.2.2.2.2.1; omega)]
    · rw [if_neg h2]
      by_cases h3 : 0 < J 0 33
      · rw [if_pos h3, no (fun q => q.2.2.2.2.2.1 h3)]
      · rw [if_neg h3, ev_of3 fu 0 l p J hl hp4, zb_zr]
        show (if J 1 (140 + 6 * (40 * l + p) + 3) = 1 then _ else _) = _
        by_cases h4 : J 1 (140 + 6 * (40 * l + p) + 3) = 1
        · rw [if_pos h4]
          by_cases h5 : 0 < J 0 34
          · rw [if_pos h5, yes ⟨hp, h1.1, h1.2.1, h1.2.2, by omega, h3, fun _ => h5, fun q => by omega⟩]
          · rw [if_neg h5, no (fun q => h5 (q.2.2.2.2.2.2.1 h4))]
        · rw [if_neg h4]
          by_cases h6 : J 1 (140 + 6 * (40 * l + p) + 3) = 2
          · rw [if_pos h6]
            by_cases h5 : J 0 31 = 0
            · rw [if_pos h5, yes ⟨hp, h1.1, h1.2.1, h1.2.2, by omega, h3, fun q => absurd q h4, fun _ => h5⟩]
            · rw [if_neg h5, no (fun q => h5 (q.2.2.2.2.2.2.2 h6))]
          · rw [if_neg h6, yes ⟨hp, h1.1, h1.2.1, h1.2.2, by omega, h3, fun q => absurd q h4, fun q => absurd q h6⟩]
  · rw [if_neg h1, if_pos rfl, no (fun q => h1 ⟨q.2.1, q.2.2.1, q.2.2.2.1⟩)]
/-- the law in force, as the reference has it -/
def LWX (J : IMem) (k : Nat) (law : List LRec) : Prop := k < 4 ∧ J 1 6 = k ∧ LOK k law ∧ LX 1 k law J
/-- what is compared: how often passed, or the worth -/
def vF (J : IMem) (by1 : Bool) (k : Nat) (law : List LRec) (s : Nat) : Int := if by1 then J 1 (140 + 6 * s + 5) else lval k (WF J (s / 40) (s % 40) (J 0 30) (J 0 31)) law
def loF (J : IMem) (by1 : Bool) : Int := if by1 then J 1 5 - 1 else 0
/-- the reference's two values against the fold's -/
def ST2 (s : Int × Int) (w2 w3 lo : Int) : Prop := w2 = s.1 ∧ (w2 = -1 → s.2 = lo) ∧ (w2 ≠ -1 → w3 = s.2 ∧ lo < s.2)
theorem wf_same {J J' : IMem} (h : ∀ q j, q ≠ 7 → q ≠ 8 → J' q j = J q j) (l p : Nat) (a c : Int) : WF J' l p a c = WF J l p a c := by
  funext y
  unfold WF
  rw [h 1 _ (by decide) (by decide), h 1 _ (by decide) (by decide), h 1 _ (by decide) (by decide), h 1 _ (by decide) (by decide), h 1 _ (by decide) (by decide)]
theorem lwx_same {J J' : IMem} {k : Nat} {law : List LRec} (h : LWX J k law) (g : ∀ j, (j = 6 ∨ (1580 ≤ j ∧ j < 6010)) → J' 1 j = J 1 j) : LWX J' k law :=
  ⟨h.1, (g 6 (Or.inl rfl)).trans h.2.1, h.2.2.1, lx_mv (by have := h.1; omega) h.2.2.1 h.2.2.2 (fun j a c => g j (Or.inr ⟨a, c⟩))⟩
section
variable {fu : Nat} {Q : Int → IMem → Prop}
theorem xv_find17 (by1 : Bool) (b : Int) (hb : b = if by1 then 1 else 0) (kk : Int → Int → IMem → Res) (J0 : IMem) {k : Nat} {law : List LRec} (hw : LWX J0 k law) {l : Nat} (hl : l < 6) (hc : 0 ≤ J0 1 (130 + l) ∧ J0 1 (130 + l) ≤ 40) (hbd : inr (J0 1 5)) : ∀ (m p : Nat) (w2 w3 : Int) (J : IMem), (∀ q j, q ≠ 7 → q ≠ 8 → J q j = J0 q j) → (p : Int) ≤ J0 1 (130 + l) → ST2 (amF (eF J0) (vF J0 by1 k law) (loF J0 by1) (40 * l + p)) w2 w3 (loF J0 by1) →
    (∀ (w2 w3 : Int) (J' : IMem), (∀ q j, q ≠ 7 → q ≠ 8 → J' q j = J0 q j) → ST2 (amF (eF J0) (vF J0 by1 k law) (loF J0 by1) (40 * (l + 1))) w2 w3 (loF J0 by1) → par (kk w2 w3 J') Q) → par (f_X_finds_17 fu kk 0 b (l : Int) m w2 w3 (p : Int) J) Q := by
  intro m
  induction m with
  | zero => intro _ _ _ _ _ _ _ _; exact par_none
  | succ m ih =>
    intro p w2 w3 J hJ hp hs hk
    show par (fb_X_finds_17 fu kk 0 b (l : Int) (f_X_finds_17 fu kk 0 b (l : Int) m) w2 w3 (p : Int) J) Q
    unfold fb_X_finds_17
    have w1 : Wq (wr32 (130 + (l : Int))) (((130 + l : Nat) : Int)) := by show wr32 (130 + (l : Int)) = ((130 + l : Nat) : Int); rw [wr32_i2 (by omega) (by omega)]; omega
    have hm : J 1 (130 + l) = J0 1 (130 + l) := hJ _ _ (by decide) (by decide)
    simp only [zl_e, zj_e]
    rw [w1.e]
    refine par_zg (fun _ => ?_)
    show par (if (p : Int) < J 1 (130 + l) then _ else _) _
    rw [hm]
    by_cases hpc : (p : Int) < J0 1 (130 + l)
    · rw [if_pos hpc]
      have hp4 : p < 40 := by omega
      have wn : Wq (wr32 ((p : Int) + 1)) (((p + 1 : Nat) : Int)) := by show wr32 ((p : Int) + 1) = ((p + 1 : Nat) : Int); rw [wr32_i2 (by omega) (by omega)]; rfl
      have wk : Wq (wr32 (wr32 (40 * (l : Int)) + (p : Int))) (((40 * l + p : Nat) : Int)) := by show wr32 (wr32 (40 * (l : Int)) + (p : Int)) = ((40 * l + p : Nat) : Int); rw [wr32_i2 (x := 40 * (l : Int)) (by omega) (by omega), wr32_i2 (by omega) (by omega)]; omega
      rw [ev_xfits fu l p J hl (by rw [hm]; exact hpc) hp4, zb_zr, ef_same hJ, wn.e, wk.e]
      have stp : amF (eF J0) (vF J0 by1 k law) (loF J0 by1) (40 * l + (p + 1)) = if eF J0 (40 * l + p) = true ∧ (amF (eF J0) (vF J0 by1 k law) (loF J0 by1) (40 * l + p)).2 < vF J0 by1 k law (40 * l + p) then (((40 * l + p : Nat) : Int), vF J0 by1 k law (40 * l + p)) else amF (eF J0) (vF J0 by1 k law) (loF J0 by1) (40 * l + p) := rfl
      have skip : ∀ J' : IMem, (∀ q j, q ≠ 7 → q ≠ 8 → J' q j = J0 q j) → ¬ (eF J0 (40 * l + p) = true ∧ (amF (eF J0) (vF J0 by1 k law) (loF J0 by1) (40 * l + p)).2 < vF J0 by1 k law (40 * l + p)) → par (f_X_finds_17 fu kk 0 b (l : Int) m w2 w3 ((p + 1 : Nat) : Int) J') Q := by
        intro J' h1 h2
        rw [if_neg h2] at stp
        exact ih (p + 1) w2 w3 J' h1 (by omega) (by rw [stp]; exact hs) hk
      have take : ∀ (J' : IMem) (v : Int), (∀ q j, q ≠ 7 → q ≠ 8 → J' q j = J0 q j) → v = vF J0 by1 k law (40 * l + p) → eF J0 (40 * l + p) = true → (amF (eF J0) (vF J0 by1 k law) (loF J0 by1) (40 * l + p)).2 < v → loF J0 by1 < v → par (f_X_finds_17 fu kk 0 b (l : Int) m ((40 * l + p : Nat) : Int) v ((p + 1 : Nat) : Int) J') Q := by
        intro J' v h1 hv h2 h3 h4
        rw [if_pos ⟨h2, by rw [← hv]; exact h3⟩] at stp
        refine ih (p + 1) _ v J' h1 (by omega) ?_ hk
        rw [stp]
        exact ⟨rfl, fun q => by omega, fun _ => ⟨hv, by rw [← hv]; exact h4⟩⟩
      by_cases he : eF J0 (40 * l + p) = true
      · rw [if_pos he, if_neg (by decide)]
        obtain ⟨s1, s2, s3⟩ := hs
        -- behind the value
        have dec : ∀ (J' : IMem) (v : Int), (∀ q j, q ≠ 7 → q ≠ 8 → J' q j = J0 q j) → v = vF J0 by1 k law (40 * l + p) → loF J0 by1 < v → par (if w2 = -1 then f_X_finds_17 fu kk 0 b (l : Int) m ((40 * l + p : Nat) : Int) v ((p + 1 : Nat) : Int) J' else if w3 < v then f_X_finds_17 fu kk 0 b (l : Int) m ((40 * l + p : Nat) : Int) v ((p + 1 : Nat) : Int) J' else f_X_finds_17 fu kk 0 b (l : Int) m w2 w3 ((p + 1 : Nat) : Int) J') Q := by
          intro J' v h1 hv h4
          refine par_ite (fun q => take J' v h1 hv he (by rw [s2 q]; exact h4) h4) (fun q => par_ite (fun q2 => take J' v h1 hv he (by rw [← (s3 q).1]; exact q2) h4) (fun q2 => skip J' h1 (fun z => by rw [← hv, ← (s3 q).1] at z; exact q2 z.2)))
        cases by1 with
        | false =>
          have hb0 : b = 0 := hb
          rw [if_pos hb0]
          have h30 : J 0 30 = J0 0 30 := hJ _ _ (by decide) (by decide)
          have h31 : J 0 31 = J0 0 31 := hJ _ _ (by decide) (by decide)
          have hw' := lwx_same (J' := J) hw (fun j _ => hJ _ _ (by decide) (by decide))
          refine par_zb (xv_worth (fu := fu) hl (by rw [hm]; exact hpc) (by rw [hm]; exact hc.2) hw'.1 hw'.2.1 hw'.2.2.1 hw'.2.2.2) (fun v J1 ⟨g1, g2⟩ => ?_)
          have hJ1 : ∀ q j, q ≠ 7 → q ≠ 8 → J1 q j = J0 q j := fun q j a c => (g2 q j a c).trans (hJ q j a c)
          have hv : v = vF J0 false k law (40 * l + p) := by
            rw [g1]
            show _ = lval k (WF J0 ((40 * l + p) / 40) ((40 * l + p) % 40) (J0 0 30) (J0 0 31)) law
            rw [show (40 * l + p) / 40 = l by omega, show (40 * l + p) % 40 = p by omega, wf_same hJ, h30, h31]
          rw [if_pos hb0]
          refine par_ite (fun q => skip J1 hJ1 (fun z => ?_)) (fun q => dec J1 v hJ1 hv (by show (0 : Int) < v; omega))
          have z2 := z.2
          rw [← hv] at z2
          by_cases hw2 : w2 = -1
          · rw [s2 hw2] at z2; have : loF J0 false = 0 := rfl; omega
          · have := (s3 hw2).2; have h0 : loF J0 false = 0 := rfl; omega
        | true =>
          have hb1 : b = 1 := hb
          rw [if_neg (by omega), ev_of5 fu 0 l p J hl hp4, zb_zr, if_neg (by omega)]
          have hv : J (0 + 1) (140 + 6 * (40 * l + p) + 5) = vF J0 true k law (40 * l + p) := hJ _ _ (by decide) (by decide)
          have h5 : J (0 + 1) 5 = J0 1 5 := hJ _ _ (by decide) (by decide)
          rw [h5]
          have hlo : loF J0 true = J0 1 5 - 1 := rfl
          refine par_ite (fun q => skip J hJ (fun z => ?_)) (fun q => dec J _ hJ hv (by rw [hlo]; omega))
          have z2 := z.2
          rw [← hv] at z2
          by_cases hw2 : w2 = -1
          · rw [s2 hw2] at z2; omega
          · have := (s3 hw2).2; omega
      · rw [if_neg he, if_pos rfl]
        exact skip J hJ (fun z => he z.1)
    · rw [if_neg hpc]
      refine hk w2 w3 J hJ ?_
      have g : amF (eF J0) (vF J0 by1 k law) (loF J0 by1) (40 * (l + 1)) = amF (eF J0) (vF J0 by1 k law) (loF J0 by1) (40 * l + p) := by
        refine amF_gap (40 * (l + 1)) (by omega) (fun s h1 h2 => ?_)
        obtain ⟨p', hp', rfl⟩ : ∃ p', p' < 40 ∧ s = 40 * l + p' := ⟨s - 40 * l, by omega, by omega⟩
        cases h : eF J0 (40 * l + p') with
        | false => rfl
        | true => have := ((ef_iff J0 hp').mp h).1; omega
      rw [g]; exact hs
theorem xv_find7 (by1 : Bool) (b : Int) (hb : b = if by1 then 1 else 0) (J0 : IMem) {k : Nat} {law : List LRec} (hw : LWX J0 k law) (hc : ∀ l, l < 6 → 0 ≤ J0 1 (130 + l) ∧ J0 1 (130 + l) ≤ 40) (hbd : inr (J0 1 5)) : ∀ (m l : Nat) (w2 w3 : Int) (J : IMem), l ≤ 6 → (∀ q j, q ≠ 7 → q ≠ 8 → J q j = J0 q j) → ST2 (amF (eF J0) (vF J0 by1 k law) (loF J0 by1) (40 * l)) w2 w3 (loF J0 by1) → par (f_X_finds_7 fu 0 b m w2 w3 (l : Int) J) (fun y J' => y = (amF (eF J0) (vF J0 by1 k law) (loF J0 by1) 240).1 ∧ ∀ q j, q ≠ 7 → q ≠ 8 → J' q j = J0 q j) := by
  intro m
  induction m with
  | zero => intro _ _ _ _ _ _ _; exact par_none
  | succ m ih =>
    intro l w2 w3 J hl hJ hs
    show par (fb_X_finds_7 fu 0 b (f_X_finds_7 fu 0 b m) w2 w3 (l : Int) J) _
    unfold fb_X_finds_7
    by_cases h6 : l < 6
    · rw [if_pos (by omega)]
      refine xv_find17 by1 b hb _ J0 hw h6 (hc l h6) hbd fu 0 w2 w3 J hJ (hc l h6).1 hs (fun w2' w3' J' h1 h2 => ?_)
      simp only [zl_e]
      have wn : Wq (wr32 ((l : Int) + 1)) (((l + 1 : Nat) : Int)) := by show wr32 ((l : Int) + 1) = ((l + 1 : Nat) : Int); rw [wr32_i2 (by omega) (by omega)]; rfl
      rw [wn.e]
      exact ih (l + 1) w2' w3' J' h6 h1 h2
    · rw [if_neg (by omega)]
      have : l = 6 := by omega
      subst this
      exact par_zr ⟨hs.1, hJ⟩
theorem xv_finds (by1 : Bool) (b : Int) (hb : b = if by1 then 1 else 0) (J : IMem) {k : Nat} {law : List LRec} (hw : LWX J k law) (hc : ∀ l, l < 6 → 0 ≤ J 1 (130 + l) ∧ J 1 (130 + l) ≤ 40) (hbd : inr (J 1 5)) : par (f_X_finds fu 0 b J) (fun y J' => y = (amF (eF J) (vF J by1 k law) (loF J by1) 240).1 ∧ ∀ q j, q ≠ 7 → q ≠ 8 → J' q j = J q j) :=
  xv_find7 by1 b hb J hw hc hbd fu 0 (-1) 0 J (by decide) (fun _ _ _ _ => rfl) ⟨rfl, fun _ => rfl, fun q => absurd rfl q⟩
end
