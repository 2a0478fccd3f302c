/-! as before -/
def SA (o : Nat) (I0 I3 : IMem) : Prop := (∀ j, j < 6190 → I3 (o + 1) j = I0 (o + 1) j) ∧ (∀ k, k < 240 → I3 (o + 13) k = I0 (o + 13) k) ∧ (∀ k, k < 8 → I3 (o + 15) k = I0 (o + 15) k) ∧ I3 o 35 = I0 o 35
theorem sa_rfl {o : Nat} {I : IMem} : SA o I I := ⟨fun _ _ => rfl, fun _ _ => rfl, fun _ _ => rfl, rfl⟩
theorem sa_t {o : Nat} {I0 I1 I2 : IMem} (a : SA o I0 I1) (b : SA o I1 I2) : SA o I0 I2 := ⟨fun j h => (b.1 j h).trans (a.1 j h), fun j h => (b.2.1 j h).trans (a.2.1 j h), fun j h => (b.2.2.1 j h).trans (a.2.2.1 j h), b.2.2.2.trans a.2.2.2⟩
theorem sa_fr {o : Nat} {I0 I1 I2 : IMem} (a : SA o I0 I1) (hf : ∀ q j, (q = o + 1 ∨ q = o + 13 ∨ q = o + 15 ∨ (q = o ∧ j = 35)) → I2 q j = I1 q j) : SA o I0 I2 := sa_t a ⟨fun _ _ => hf _ _ (by omega), fun _ _ => hf _ _ (by omega), fun _ _ => hf _ _ (by omega), hf _ _ (by omega)⟩
theorem sa_so {o : Nat} {I0 I1 I2 I3 : IMem} (h1 : SO o I0 I1) (hf : ∀ q j, (q = o + 3 ∨ q = o + 23 ∨ q = o + 24 ∨ (q = o ∧ j = 50)) → I2 q j = I1 q j) (h3 : CB o I2 I3) : SA o I0 I3 := cb_so h1 (fun _ => ⟨fun _ _ => hf _ _ (by omega), hf _ _ (by omega), hf _ _ (by omega), hf _ _ (by omega)⟩) h3
theorem wx_so {o : Nat} {I0 I1 I2 : IMem} (hg : GX o I0) (h1 : SO o I0 I1) (hf : ∀ q j, (q = o + 3 ∨ q = o + 23 ∨ q = o + 24 ∨ (q = o ∧ j = 50)) → I2 q j = I1 q j) : WX I2 (o + 3) := WX_eq (fun j hj => (hf _ _ (by omega)).trans (h1.1 j hj)) hg.2.1
theorem pc_sa {o : Nat} {I0 I : IMem} (h : PC o I0) (hs : SA o I0 I) : PC o I := by
  refine ⟨fun k hk hn => ?_, ?_⟩
  · rw [hs.1 _ (by omega)]; rw [hs.2.1 k hk] at hn; exact h.1 k hk hn
  · rw [hs.2.2.2, cnt_eq (f := I (o + 13)) (g := I0 (o + 13)) 240 (fun k hk => hs.2.1 k hk)]; exact h.2
