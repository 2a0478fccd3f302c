/-! the class's search by worth -/
section
variable {fu : Nat}
theorem cv_worthy (oc hb kl : Nat) (hd : hb + 40 ≤ oc) (hkl : kl < 4) (I0 J : IMem) {law : List LRec} (hL : HL hb 1 I0 J) (ho : LOK kl law) (hlc : LC (hb + 15 + 5 * kl) kl law I0) {n : Nat} (hn : n ≤ 144) (h5 : I0 oc 5 = n) (hS : SLI (I0 (oc + 5)) (I0 (hb + 8)) (I0 (hb + 9)) (-1) 240 n) {e : Nat → Bool} {v : Nat → Int} (he : ∀ k, k < 240 → e k = true → SN (I0 (hb + 8)) (I0 (hb + 9)) (-1) k) (hf : ∀ k, k < 240 → SN (I0 (hb + 8)) (I0 (hb + 9)) (-1) k → (e k = true ↔ (I0 (oc + 1) k = 0 ∧ I0 oc 10 = 0 ∧ I0 (hb + 7) (6 * k + 2) ≤ I0 oc 7 ∧ (I0 (hb + 7) (6 * k + 3) = 1 → I0 oc 11 ≠ 0) ∧ (I0 (hb + 7) (6 * k + 3) = 2 → I0 oc 8 = 0)))) (hv : ∀ k, k < 240 → v k = lval kl (WF J (k / 40) (k % 40) (I0 oc 7) (I0 oc 8)) law) (p2 : Int)
    (hp2 : p2 = 0 → ∀ i k, i < n → I0 (oc + 5) i = ((k : Nat) : Int) → e k = true → I0 (oc + 6) i = v k) : ∀ (m i : Nat) (w4 w5 : Int) (I : IMem), i ≤ n → (∀ q j, q ≠ hb + 13 → q ≠ hb + 15 + 5 * kl + 4 → q ≠ oc + 6 → I q j = I0 q j) → (∀ i' k, (i' < i ∨ p2 = 0) → i' < n → I0 (oc + 5) i' = ((k : Nat) : Int) → e k = true → I (oc + 6) i' = v k) → amF e v 0 (nxS (I0 (oc + 5)) n i) = (w5, w4) → par (f_C_worthiest_14 fu oc hb p2 (hb + 15 + 5 * kl) m w4 w5 (i : Int) I) (fun x I' => x = (amF e v 0 240).1 ∧ (∀ q j, q ≠ hb + 13 → q ≠ hb + 15 + 5 * kl + 4 → q ≠ oc + 6 → I' q j = I0 q j) ∧ ∀ i k, i < n → I0 (oc + 5) i = ((k : Nat) : Int) → e k = true → I' (oc + 6) i = v k) := by
  intro m
  induction m with
  | zero => intro _ _ _ _ _ _ _ _; exact par_none
  | succ m ih =>
    intro i w4 w5 I hi hI hwo hw
    show par (fb_C_worthiest_14 fu oc hb p2 (hb + 15 + 5 * kl) (f_C_worthiest_14 fu oc hb p2 (hb + 15 + 5 * kl) m) w4 w5 (i : Int) I) _
    unfold fb_C_worthiest_14
    have g5 : I oc 5 = n := (hI _ _ (by omega) (by omega) (by omega)).trans h5
    have ga : ∀ j, I (oc + 5) j = I0 (oc + 5) j := fun j => hI _ _ (by omega) (by omega) (by omega)
    rw [g5]
    by_cases hin : i < n
    · rw [if_pos (by omega), if_pos (by omega)]
      refine par_zg (fun _ => ?_)
      obtain ⟨k, k1, k2, k3⟩ := hS.1 i hin
      have stp := nxS_s hS he v 0 hin k2
      have f1 := hf k k1 k3
      rw [hw] at stp
      have wn : Wq (wr32 ((i : Int) + 1)) (((i + 1 : Nat) : Int)) := by show wr32 ((i : Int) + 1) = ((i + 1 : Nat) : Int); rw [wr32_i2 (by omega) (by omega)]; rfl
      simp only [zl_e, zj_e]
      rw [show ((i : Nat) : Int).toNat = i from rfl, ga, k2, ev_cfits fu oc hb k I k1, zb_zr, wn.e]
      have t1 : I (oc + 1) k = I0 (oc + 1) k := hI _ _ (by omega) (by omega) (by omega)
      have t2 : ∀ j, I oc j = I0 oc j := fun j => hI _ _ (by omega) (by omega) (by omega)
      have t3 : ∀ j, I (hb + 7) j = I0 (hb + 7) j := fun j => hI _ _ (by omega) (by omega) (by omega)
      rw [t1, t2, t2, t2, t2, t3, t3]
      have skip : ∀ I1 : IMem, (∀ q j, q ≠ hb + 13 → q ≠ hb + 15 + 5 * kl + 4 → q ≠ oc + 6 → I1 q j = I0 q j) → (∀ i' k, (i' < i + 1 ∨ p2 = 0) → i' < n → I0 (oc + 5) i' = ((k : Nat) : Int) → e k = true → I1 (oc + 6) i' = v k) → ¬ (e k = true ∧ w4 < v k) → par (f_C_worthiest_14 fu oc hb p2 (hb + 15 + 5 * kl) m w4 w5 ((i + 1 : Nat) : Int) I1) (fun x I' => x = (amF e v 0 240).1 ∧ (∀ q j, q ≠ hb + 13 → q ≠ hb + 15 + 5 * kl + 4 → q ≠ oc + 6 → I' q j = I0 q j) ∧ ∀ i k, i < n → I0 (oc + 5) i = ((k : Nat) : Int) → e k = true → I' (oc + 6) i = v k) := fun I1 a b z => ih (i + 1) w4 w5 I1 hin a b (by rw [stp, if_neg z])
      by_cases hek : e k = true
      · rw [if_pos (f1.mp hek), if_neg (by decide)]
        -- with the worth in its place
        have dec : ∀ I1 : IMem, (∀ q j, q ≠ hb + 13 → q ≠ hb + 15 + 5 * kl + 4 → q ≠ oc + 6 → I1 q j = I0 q j) → (∀ i' k, (i' < i + 1 ∨ p2 = 0) → i' < n → I0 (oc + 5) i' = ((k : Nat) : Int) → e k = true → I1 (oc + 6) i' = v k) → par (zg (0 ≤ (i : Int) ∧ (i : Int) < 144) (if w4 < I1 (oc + 6) i then zg (0 ≤ (i : Int) ∧ (i : Int) < 144) (zg (0 ≤ (i : Int) ∧ (i : Int) < 144) (f_C_worthiest_14 fu oc hb p2 (hb + 15 + 5 * kl) m (I1 (oc + 6) i) (I1 (oc + 5) i) ((i + 1 : Nat) : Int) I1)) else f_C_worthiest_14 fu oc hb p2 (hb + 15 + 5 * kl) m w4 w5 ((i + 1 : Nat) : Int) I1)) (fun x I' => x = (amF e v 0 240).1 ∧ (∀ q j, q ≠ hb + 13 → q ≠ hb + 15 + 5 * kl + 4 → q ≠ oc + 6 → I' q j = I0 q j) ∧ ∀ i k, i < n → I0 (oc + 5) i = ((k : Nat) : Int) → e k = true → I' (oc + 6) i = v k) := by
          intro I1 a b
          have ew : I1 (oc + 6) i = v k := b i k (Or.inl (by omega)) hin k2 hek
          have es : I1 (oc + 5) i = (k : Int) := (a _ _ (by omega) (by omega) (by omega)).trans k2
          rw [ew, es]
          refine par_zg (fun _ => par_ite (fun q => par_zg (fun _ => par_zg (fun _ => ih (i + 1) (v k) (k : Int) I1 hin a b (by rw [stp, if_pos ⟨hek, q⟩])))) (fun q => skip I1 a b (fun z => q z.2)))
        refine par_ite (fun q => ?_) (fun q => ?_)
        · exact dec I hI (fun i' k' hh => hwo i' k' (Or.inr q))
        · refine par_zg (fun _ => ?_)
          have kc : (((k % 40 : Nat) : Int) < J 1 (130 + k / 40)) := by
            have := k3.1
            rw [(hl_c hL (by omega)).1] at this
            exact this
          have hL1 : HL hb 1 I J := hl_mv hL (fun j => ⟨t3 j, hI _ _ (by omega) (by omega) (by omega)⟩) (fun _ _ _ => rfl)
          have ek : (k : Nat) = 40 * (k / 40) + k % 40 := by omega
          have gw := cv_facts (fu := fu) (hb := hb) (l := k / 40) (p := k % 40) (left := I0 oc 7) (taken := I0 oc 8) (s := (kl : Int)) (I := I) (J := J) (by omega) hL1 (by omega) kc
          rw [← ek] at gw
          rw [ga, k2]
          refine par_zb gw (fun _ I1 ⟨g1, g2⟩ => ?_)
          have hlc1 : LC (hb + 15 + 5 * kl) kl law I1 := lc_mv hlc (fun d j hd => by rw [g1 _ _ (by omega)]; exact hI _ _ (by omega) (by omega) (by omega))
          refine par_zb (cv_value (F := WF J (k / 40) (k % 40) (I0 oc 7) (I0 oc 8)) (fun d hd => by omega) ho I1 hlc1 g2) (fun y I2 ⟨g3, g4⟩ => ?_)
          refine par_zg (fun _ => par_zw' (fun I3 e3 => ?_))
          have hI3 : ∀ q j, q ≠ hb + 13 → q ≠ hb + 15 + 5 * kl + 4 → q ≠ oc + 6 → I3 q j = I0 q j := fun q j a b c => by rw [e3, if_neg (by omega), g4 _ _ (by omega), g1 _ _ a]; exact hI q j a b c
          refine dec I3 hI3 (fun i' k' hh hin' hk' hek' => ?_)
          rw [e3]
          by_cases q2 : i' = i
          · subst q2
            rw [if_pos ⟨rfl, rfl⟩, g3]
            have : k' = k := by omega
            subst this
            exact (hv k' k1).symm
          · rw [if_neg (fun z => q2 z.2), g4 _ _ (by omega), g1 _ _ (by omega)]
            exact hwo i' k' (by omega) hin' hk' hek'
      · rw [if_neg (fun z => hek (f1.mpr z)), if_pos rfl]
        refine skip I hI (fun i' k' hh hin' hk' hek' => ?_) (fun z => hek z.1)
        by_cases q2 : i' = i
        · subst q2
          have : k' = k := by omega
          subst this
          exact absurd hek' hek
        · exact hwo i' k' (by omega) hin' hk' hek'
    · rw [if_neg (by omega)]
      have : i = n := by omega
      subst this
      rw [nxS_n] at hw
      exact par_zr ⟨by rw [hw], hI, fun i' k' hi' hk' hek' => hwo i' k' (Or.inl hi') hi' hk' hek'⟩
end
