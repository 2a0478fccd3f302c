/-! the reference's calls, for the law -/
def XC (o n : Nat) (I : IMem) : Prop := GX o I ∧ PC o I ∧ I (o + 1) 70 ≤ 60 * (n : Int) ∧ (I o 3 ≠ 0 → I (o + 2) 70 ≤ 60 * (n : Int))
def KM2 (o q j : Nat) : Prop := ¬ (q = o + 2 ∨ (q = o ∧ j = 3))
def KM3 (o q j : Nat) : Prop := ¬ (q = o + 2 ∨ q = o + 13 ∨ (q = o ∧ (j = 3 ∨ j = 35)) ∨ (q = o + 1 ∧ j ≠ 0))
def KM4 (o q j : Nat) : Prop := ¬ (q = o + 2 ∨ q = o + 13 ∨ (q = o ∧ (j = 3 ∨ j = 35)))
theorem xc_k {o n : Nat} {I0 I : IMem} (hX : XC o n I0) (hI : GX o I) (hP : PC o I) (h70 : I (o + 1) 70 ≤ I0 (o + 1) 70 + 60) (h3 : I o 3 = I0 o 3) (h2 : I (o + 2) 70 = I0 (o + 2) 70) : XC o (n + 1) I := by
  obtain ⟨_, _, a, b⟩ := hX
  refine ⟨hI, hP, by omega, fun q => ?_⟩
  rw [h3] at q
  have := b q
  omega
theorem xc_s {o n : Nat} {I : IMem} (hX : XC o n I) : XC o (n + 1) I := xc_k hX hX.1 hX.2.1 (by omega) rfl rfl
theorem pc_keep {o : Nat} {I0 I : IMem} (h : PC o I0) (h13 : ∀ k, k < 240 → I (o + 13) k = I0 (o + 13) k) (hr : ∀ k : Nat, k < 240 → 1 ≤ I0 (o + 1) (141 + 6 * k) → 1 ≤ I (o + 1) (141 + 6 * k)) (h35 : I o 35 = I0 o 35) : PC o I := by
  refine ⟨fun k hk hn => ?_, ?_⟩
  · rw [h13 k hk] at hn
    exact hr k hk (h.1 k hk hn)
  · rw [h35, cnt_eq (f := I (o + 13)) (g := I0 (o + 13)) 240 h13]; exact h.2
theorem pc_zero {o : Nat} {I : IMem} (h13 : ∀ k, k < 240 → I (o + 13) k = 0) (h35 : I o 35 = 0) : PC o I := ⟨fun k hk hn => absurd (h13 k hk) hn, by rw [h35]; exact (cnt_nn _ _).1⟩
theorem xc_3 {o n : Nat} {I0 I : IMem} (hX : XC o n I0) (hI : GX o I) (hf : ∀ q j, ¬ KM3 o q j → I q j = I0 q j) : XC o (n + 1) I :=
  xc_k hX hI (pc_keep hX.2.1 (fun k _ => hf _ _ (by unfold KM3; omega)) (fun k _ => by rw [hf _ _ (by unfold KM3; omega)]; exact id) (hf _ _ (by unfold KM3; omega))) (by rw [hf (o + 1) 70 (by unfold KM3; omega)]; omega) (hf _ _ (by unfold KM3; omega)) (hf _ _ (by unfold KM3; omega))
theorem xc_4 {o n : Nat} {I0 I : IMem} (hX : XC o n I0) (hI : GX o I) (hk : KO o I0 I) (hf : ∀ q j, ¬ KM4 o q j → I q j = I0 q j) : XC o (n + 1) I :=
  xc_k hX hI (pc_keep hX.2.1 (fun k _ => hf _ _ (by unfold KM4; omega)) (fun k _ => by rw [hk.1 _ (by omega)]; exact id) (hf _ _ (by unfold KM4; omega))) (by rw [hk.2]; omega) (hf _ _ (by unfold KM4; omega)) (hf _ _ (by unfold KM4; omega))
theorem xc_sa {o n : Nat} {I0 I : IMem} (hX : XC o n I0) (hI : GX o I) (hk : SA o I0 I) (hf : ∀ q j, ¬ KM2 o q j → I q j = I0 q j) : XC o (n + 1) I :=
  xc_k hX hI (pc_sa hX.2.1 hk) (by rw [hk.1 70 (by decide)]; omega) (hf _ _ (by unfold KM2; omega)) (hf _ _ (by unfold KM2; omega))
theorem lx_state (fu n o0 : Nat) (a1 : Int) (I0 : IMem) (hfu : 5000000000 < fu) (hn : n < 512) (hX : XC o0 n I0) (qa1 : inr a1) : sat (f_X_state fu o0 a1 I0) (fun v I => inr v ∧ XC o0 (n + 1) I) := by
  have h70 := hX.2.2.1
  obtain ⟨v, I, e, qv, hI, p⟩ := ok_X_state fu o0 a1 I0 hfu hX.1 qa1 
  exact ⟨v, I, e, qv, xc_3 hX hI (fc_X_state (KM3 o0) fu o0 a1 I0 (by unfold KM3; omega) e)⟩
theorem lx_set (fu n o0 : Nat) (a1 a2 : Int) (I0 : IMem) (hfu : 5000000000 < fu) (hn : n < 512) (hX : XC o0 n I0) (qa1 : inr a1) (qa2 : inr a2) : sat (f_X_set fu o0 a1 a2 I0) (fun v I => inr v ∧ XC o0 (n + 1) I) := by
  have h70 := hX.2.2.1
  obtain ⟨v, I, e, qv, hI, p⟩ := kp_X_set fu o0 a1 a2 I0 hfu hX.1 qa1 qa2 
  have hf : ∀ q j, ¬ KM2 o0 q j → I q j = I0 q j := fc_X_set (KM2 o0) fu o0 a1 a2 I0 (fun _ => by unfold KM2; omega) (fun _ => by unfold KM2; omega) (by unfold KM2; omega) e
  refine ⟨v, I, e, qv, xc_k hX hI ?_ (by rw [p.1.2]; omega) (hf _ _ (by unfold KM2; omega)) (hf _ _ (by unfold KM2; omega))⟩
  rcases p.2.1 with z | z
  · exact pc_zero z.2 z.1
  · exact pc_keep hX.2.1 (fun k _ => z.2 k) (fun k _ => by rw [p.1.1 _ (by omega)]; exact id) z.1
theorem lx_seen (fu n o0 : Nat) (a1 a2 : Int) (I0 : IMem) (hfu : 5000000000 < fu) (hn : n < 512) (hX : XC o0 n I0) (qa1 : inr a1) (qa2 : inr a2) : sat (f_X_seen fu o0 a1 a2 I0) (fun v I => inr v ∧ XC o0 (n + 1) I) := by
  have h70 := hX.2.2.1
  obtain ⟨v, I, e, qv, hI, p⟩ := kp_X_seen fu o0 a1 a2 I0 hfu hX.1 qa1 qa2 
  exact ⟨v, I, e, qv, xc_4 hX hI p.1 (fc_X_seen (KM4 o0) fu o0 a1 a2 I0 (fun _ => by unfold KM4; omega) e)⟩
theorem lx_parts (fu n o0 : Nat) (a1 a2 : Int) (I0 : IMem) (hfu : 5000000000 < fu) (hn : n < 512) (hX : XC o0 n I0) (qa1 : inr a1) (qa2 : inr a2) : sat (f_X_parts fu o0 a1 a2 I0) (fun v I => inr v ∧ XC o0 (n + 1) I) := by
  have h70 := hX.2.2.1
  obtain ⟨v, I, e, qv, hI, p⟩ := kp_X_parts fu o0 a1 a2 I0 hfu hX.1 qa1 qa2 
  exact ⟨v, I, e, qv, xc_4 hX hI p.1 (fc_X_parts (KM4 o0) fu o0 a1 a2 I0 (fun _ => by unfold KM4; omega) e)⟩
theorem lx_comer (fu n o0 : Nat) (a1 a2 a3 a4 a5 : Int) (I0 : IMem) (hfu : 5000000000 < fu) (hn : n < 512) (hX : XC o0 n I0) (qa1 : inr a1) (qa2 : inr a2) (qa3 : inr a3) (qa4 : inr a4) (qa5 : inr a5) : sat (f_X_comer fu o0 a1 a2 a3 a4 a5 I0) (fun v I => inr v ∧ XC o0 (n + 1) I) := by
  have h70 := hX.2.2.1
  obtain ⟨v, I, e, qv, hI, p⟩ := kp_X_comer fu o0 a1 a2 a3 a4 a5 I0 hfu hX.1 qa1 qa2 qa3 qa4 qa5 
  exact ⟨v, I, e, qv, xc_4 hX hI p.1 (fc_X_comer (KM4 o0) fu o0 a1 a2 a3 a4 a5 I0 (fun _ => by unfold KM4; omega) e)⟩
theorem lx_feed (fu n o0 : Nat) (a1 a2 a3 a4 a5 : Int) (I0 : IMem) (hfu : 5000000000 < fu) (hn : n < 512) (hX : XC o0 n I0) (qa1 : inr a1) (qa2 : inr a2) (qa3 : inr a3) (qa4 : inr a4) (qa5 : inr a5) : sat (f_X_feed fu o0 a1 a2 a3 a4 a5 I0) (fun v I => inr v ∧ XC o0 (n + 1) I) := by
  have h70 := hX.2.2.1
  obtain ⟨v, I, e, qv, hI, p⟩ := ok_X_feed fu o0 a1 a2 a3 a4 a5 I0 hfu hX.1 qa1 qa2 qa3 qa4 qa5 
  exact ⟨v, I, e, qv, xc_3 hX hI (fc_X_feed (KM3 o0) fu o0 a1 a2 a3 a4 a5 I0 (fun _ => by unfold KM3; omega) (by unfold KM3; omega) e)⟩
theorem lx_end (fu n o0 : Nat) (a1 : Int) (I0 : IMem) (hfu : 5000000000 < fu) (hn : n < 512) (hX : XC o0 n I0) (qa1 : inr a1) : sat (f_X_end fu o0 a1 I0) (fun v I => inr v ∧ XC o0 (n + 1) I) := by
  have h70 := hX.2.2.1
  obtain ⟨v, I, e, qv, hI, p⟩ := ok_X_end fu o0 a1 I0 hfu hX.1 qa1 
  exact ⟨v, I, e, qv, xc_3 hX hI (fc_X_end (KM3 o0) fu o0 a1 I0 (by unfold KM3; omega) e)⟩
theorem lx_text (fu n o0 : Nat) (a1 : Int) (I0 : IMem) (hfu : 5000000000 < fu) (hn : n < 512) (hX : XC o0 n I0) (qa1 : inr a1) : sat (f_X_text fu o0 a1 I0) (fun v I => inr v ∧ XC o0 (n + 1) I) := by
  have h70 := hX.2.2.1
  obtain ⟨v, I, e, qv, hI, p⟩ := ok_X_text fu o0 a1 I0 hfu hX.1 qa1 
  have hf : ∀ q j, ¬ KM4 o0 q j → I q j = I0 q j := fc_X_text (KM4 o0) fu o0 a1 I0 (fun _ => by unfold KM4; omega) (fun _ => by unfold KM4; omega) (fun _ => by unfold KM4; omega) (by unfold KM4; omega) (by unfold KM4; omega) (by unfold KM4; omega) (by unfold KM4; omega) (by unfold KM4; omega) (by unfold KM4; omega) (by unfold KM4; omega) (by unfold KM4; omega) (by unfold KM4; omega) (by unfold KM4; omega) (by unfold KM4; omega) (by unfold KM4; omega) (by unfold KM4; omega) e
  exact ⟨v, I, e, qv, xc_k hX hI (pc_keep hX.2.1 (fun k _ => hf _ _ (by unfold KM4; omega)) (fun k _ => by rw [p _ (by omega)]; exact id) (hf _ _ (by unfold KM4; omega))) (by rw [p 70 (by decide)]; omega) (hf _ _ (by unfold KM4; omega)) (hf _ _ (by unfold KM4; omega))⟩
theorem lx_fault (fu n o0 : Nat) (a1 : Int) (I0 : IMem) (hfu : 5000000000 < fu) (hn : n < 512) (hX : XC o0 n I0) (qa1 : inr a1) : sat (f_X_fault fu o0 a1 I0) (fun v I => inr v ∧ XC o0 (n + 1) I) := by
  have h70 := hX.2.2.1
  obtain ⟨v, I, e, qv, hI, p⟩ := ok_X_fault fu o0 a1 I0 hfu hX.1 qa1 
  refine ⟨v, I, e, qv, ?_⟩
  rw [p.1]
  exact xc_s hX
theorem lx_come (fu n o0 : Nat) (a1 a2 a3 : Int) (I0 : IMem) (hfu : 5000000000 < fu) (hn : n < 512) (hX : XC o0 n I0) (qa1 : inr a1) (qa2 : inr a2) (qa3 : inr a3) : sat (f_X_come fu o0 a1 a2 a3 I0) (fun v I => inr v ∧ XC o0 (n + 1) I) := by
  have h70 := hX.2.2.1
  obtain ⟨v, I, e, qv, hI, p⟩ := ok_X_come fu o0 a1 a2 a3 I0 hfu hX.1 qa1 qa2 qa3 
  have hf : ∀ q j, ¬ KM4 o0 q j → I q j = I0 q j := fc_X_come (KM4 o0) fu o0 a1 a2 a3 I0 (fun _ => by unfold KM4; omega) (fun _ => by unfold KM4; omega) (by unfold KM4; omega) (by unfold KM4; omega) (by unfold KM4; omega) (by unfold KM4; omega) (by unfold KM4; omega) e
  exact ⟨v, I, e, qv, xc_k hX hI (pc_keep hX.2.1 (fun k _ => hf _ _ (by unfold KM4; omega)) (fun k hk h => p.2 k hk h) (hf _ _ (by unfold KM4; omega))) (by rw [p.1 70 (by decide) (by decide)]; omega) (hf _ _ (by unfold KM4; omega)) (hf _ _ (by unfold KM4; omega))⟩
theorem lx_group (fu n o0 : Nat) (a1 a2 a3 : Int) (I0 : IMem) (hfu : 5000000000 < fu) (hn : n < 512) (hX : XC o0 n I0) (qa1 : inr a1) (qa2 : inr a2) (qa3 : inr a3) : sat (f_X_group fu o0 a1 a2 a3 I0) (fun v I => inr v ∧ XC o0 (n + 1) I) := by
  have h70 := hX.2.2.1
  obtain ⟨v, I, e, qv, hI, p⟩ := ok_X_group fu o0 a1 a2 a3 I0 hfu hX.1 qa1 qa2 qa3 
  exact ⟨v, I, e, qv, xc_3 hX hI (fc_X_group (KM3 o0) fu o0 a1 a2 a3 I0 (fun _ => by unfold KM3; omega) (by unfold KM3; omega) (by unfold KM3; omega) (by unfold KM3; omega) (by unfold KM3; omega) (by unfold KM3; omega) (by unfold KM3; omega) (by unfold KM3; omega) (by unfold KM3; omega) (by unfold KM3; omega) e)⟩
theorem lx_line (fu n o0 : Nat) (a1 a2 : Int) (I0 : IMem) (hfu : 5000000000 < fu) (hn : n < 512) (hX : XC o0 n I0) (qa1 : inr a1) (qa2 : inr a2) : sat (f_X_line fu o0 a1 a2 I0) (fun v I => inr v ∧ XC o0 (n + 1) I) := by
  have h70 := hX.2.2.1
  obtain ⟨v, I, e, qv, hI, p⟩ := ok_X_line fu o0 a1 a2 I0 hfu hX.1 qa1 qa2 
  refine ⟨v, I, e, qv, ?_⟩
  rw [p.1]
  exact xc_s hX
theorem lx_pick (fu n o0 : Nat) (a1 a2 : Int) (I0 : IMem) (hfu : 5000000000 < fu) (hn : n < 512) (hX : XC o0 n I0) (qa1 : inr a1) (qa2 : inr a2) : sat (f_X_pick fu o0 a1 a2 I0) (fun v I => inr v ∧ XC o0 (n + 1) I) := by
  have h70 := hX.2.2.1
  obtain ⟨v, I, e, qv, hI, p⟩ := ok_X_pick fu o0 a1 a2 I0 hfu hX.1 qa1 qa2 hX.2.1
  have hf : ∀ q j, ¬ KM2 o0 q j → I q j = I0 q j := fc_X_pick (KM2 o0) fu o0 a1 a2 I0 (fun _ => by unfold KM2; omega) (fun _ => by unfold KM2; omega) (by unfold KM2; omega) e
  have hf1 : ∀ q j, ¬ q ≠ o0 + 1 → I q j = I0 q j := fc_X_pick (fun q _ => q ≠ o0 + 1) fu o0 a1 a2 I0 (fun _ => by simp) (fun _ => by simp) (by simp) e
  exact ⟨v, I, e, qv, xc_k hX hI p (by rw [hf1 (o0 + 1) 70 (by simp)]; omega) (hf _ _ (by unfold KM2; omega)) (hf _ _ (by unfold KM2; omega))⟩
theorem lx_send (fu n o0 : Nat) (I0 : IMem) (hfu : 5000000000 < fu) (hn : n < 512) (hX : XC o0 n I0)  : sat (f_X_send fu o0 I0) (fun v I => inr v ∧ XC o0 (n + 1) I) := by
  have h70 := hX.2.2.1
  obtain ⟨v, I, e, qv, hI, p⟩ := kp_X_send fu o0 I0 hfu hX.1  (by omega)
  have hf : ∀ q j, ¬ KM2 o0 q j → I q j = I0 q j := fc_X_send (KM2 o0) fu o0 I0 (fun _ => by unfold KM2; omega) (fun _ => by unfold KM2; omega) (fun _ => by unfold KM2; omega) (fun _ => by unfold KM2; omega) (fun _ => by unfold KM2; omega) (fun _ => by unfold KM2; omega) (by unfold KM2; omega) (by unfold KM2; omega) (by unfold KM2; omega) (by unfold KM2; omega) (by unfold KM2; omega) (by unfold KM2; omega) (by unfold KM2; omega) e
  exact ⟨v, I, e, qv, xc_k hX hI (pc_zero p.2.2 p.1) (by rw [p.2.1]; omega) (hf _ _ (by unfold KM2; omega)) (hf _ _ (by unfold KM2; omega))⟩
theorem lx_chair (fu n o0 : Nat) (I0 : IMem) (hfu : 5000000000 < fu) (hn : n < 512) (hX : XC o0 n I0)  : sat (f_X_chair fu o0 I0) (fun v I => inr v ∧ XC o0 (n + 1) I) := by
  have h70 := hX.2.2.1
  obtain ⟨v, I, e, qv, hI, p⟩ := ok_X_chair fu o0 I0 hfu hX.1  (by omega)
  have hf : ∀ q j, ¬ KM2 o0 q j → I q j = I0 q j := fc_X_chair (KM2 o0) fu o0 I0 (fun _ => by unfold KM2; omega) (fun _ => by unfold KM2; omega) (fun _ => by unfold KM2; omega) (fun _ => by unfold KM2; omega) (fun _ => by unfold KM2; omega) (fun _ => by unfold KM2; omega) (fun _ => by unfold KM2; omega) (fun _ => by unfold KM2; omega) (by unfold KM2; omega) (by unfold KM2; omega) (by unfold KM2; omega) (by unfold KM2; omega) (by unfold KM2; omega) (by unfold KM2; omega) (by unfold KM2; omega) (by unfold KM2; omega) (by unfold KM2; omega) (by unfold KM2; omega) (by unfold KM2; omega) (by unfold KM2; omega) (by unfold KM2; omega) (by unfold KM2; omega) (by unfold KM2; omega) (by unfold KM2; omega) e
  exact ⟨v, I, e, qv, xc_k hX hI (pc_zero p.2.2 p.1) (by rw [p.2.1]; omega) (hf _ _ (by unfold KM2; omega)) (hf _ _ (by unfold KM2; omega))⟩
theorem lx_run (fu n o0 : Nat) (a1 : Int) (I0 : IMem) (hfu : 5000000000 < fu) (hn : n < 512) (hX : XC o0 n I0) (qa1 : inr a1) : sat (f_X_run fu o0 a1 I0) (fun v I => inr v ∧ XC o0 (n + 1) I) := by
  have h70 := hX.2.2.1
  obtain ⟨v, I, e, qv, hI, p⟩ := ok_X_run fu o0 a1 I0 hfu hX.1 qa1 (by omega)
  have hf : ∀ q j, ¬ KM2 o0 q j → I q j = I0 q j := fc_X_run (KM2 o0) fu o0 a1 I0 (fun _ => by unfold KM2; omega) (fun _ => by unfold KM2; omega) (fun _ => by unfold KM2; omega) (fun _ => by unfold KM2; omega) (fun _ => by unfold KM2; omega) (fun _ => by unfold KM2; omega) (fun _ => by unfold KM2; omega) (fun _ => by unfold KM2; omega) (by unfold KM2; omega) (by unfold KM2; omega) (by unfold KM2; omega) (by unfold KM2; omega) (by unfold KM2; omega) (by unfold KM2; omega) (by unfold KM2; omega) (by unfold KM2; omega) (by unfold KM2; omega) (by unfold KM2; omega) (by unfold KM2; omega) (by unfold KM2; omega) (by unfold KM2; omega) (by unfold KM2; omega) (by unfold KM2; omega) (by unfold KM2; omega) (by unfold KM2; omega) (by unfold KM2; omega) e
  refine ⟨v, I, e, qv, xc_k hX hI ?_ p.1 (hf _ _ (by unfold KM2; omega)) (hf _ _ (by unfold KM2; omega))⟩
  rcases p.2 with z | z
  · exact pc_zero z.2 z.1
  · rw [z]; exact hX.2.1
theorem lx_last (fu n o0 : Nat) (a1 : Int) (I0 : IMem) (hfu : 5000000000 < fu) (hn : n < 512) (hX : XC o0 n I0) (qa1 : inr a1) : sat (f_X_last fu o0 a1 I0) (fun v I => inr v ∧ XC o0 (n + 1) I) := by
  have h70 := hX.2.2.1
  obtain ⟨v, I, e, qv, hI, p⟩ := ok_X_last fu o0 a1 I0 hfu hX.1 qa1 
  refine ⟨v, I, e, qv, ?_⟩
  rw [p.1]
  exact xc_s hX
theorem lx_count (fu n o0 : Nat) (a1 : Int) (I0 : IMem) (hfu : 5000000000 < fu) (hn : n < 512) (hX : XC o0 n I0) (qa1 : inr a1) : sat (f_X_count fu o0 a1 I0) (fun v I => inr v ∧ XC o0 (n + 1) I) := by
  have h70 := hX.2.2.1
  obtain ⟨v, I, e, qv, hI, p⟩ := ok_X_count fu o0 a1 I0 hfu hX.1 qa1 
  refine ⟨v, I, e, qv, ?_⟩
  rw [p.1]
  exact xc_s hX
theorem lx_best (fu n o0 : Nat) (a1 : Int) (I0 : IMem) (hfu : 5000000000 < fu) (hn : n < 512) (hX : XC o0 n I0) (qa1 : inr a1) : sat (f_X_best fu o0 a1 I0) (fun v I => inr v ∧ XC o0 (n + 1) I) := by
  have h70 := hX.2.2.1
  obtain ⟨v, I, e, qv, hI, p⟩ := ok_X_best fu o0 a1 I0 hfu hX.1 qa1 
  exact ⟨v, I, e, qv, xc_3 hX hI (fc_X_best (KM3 o0) fu o0 a1 I0 (fun _ => by unfold KM3; omega) (fun _ => by unfold KM3; omega) (by unfold KM3; omega) e)⟩
theorem lx_look (fu n o0 : Nat) (a1 : Int) (I0 : IMem) (hfu : 5000000000 < fu) (hn : n < 512) (hX : XC o0 n I0) (qa1 : inr a1) : sat (f_X_look fu o0 a1 I0) (fun v I => inr v ∧ XC o0 (n + 1) I) := by
  have h70 := hX.2.2.1
  obtain ⟨v, I, e, qv, hI, p⟩ := kp_X_look fu o0 a1 I0 hfu hX.1 qa1 
  exact ⟨v, I, e, qv, xc_4 hX hI p (fc_X_look (KM4 o0) fu o0 a1 I0 (fun _ => by unfold KM4; omega) (fun _ => by unfold KM4; omega) (fun _ => by unfold KM4; omega) (by unfold KM4; omega) e)⟩
theorem lx_heap (fu n o0 : Nat) (a1 a2 : Int) (I0 : IMem) (hfu : 5000000000 < fu) (hn : n < 512) (hX : XC o0 n I0) (qa1 : inr a1) (qa2 : inr a2) : sat (f_X_heap fu o0 a1 a2 I0) (fun v I => inr v ∧ XC o0 (n + 1) I) := by
  have h70 := hX.2.2.1
  obtain ⟨v, I, e, qv, hI, p⟩ := kp_X_heap fu o0 a1 a2 I0 hfu hX.1 qa1 qa2 
  exact ⟨v, I, e, qv, xc_4 hX hI p (fc_X_heap (KM4 o0) fu o0 a1 a2 I0 (fun _ => by unfold KM4; omega) e)⟩
theorem lx_fewest (fu n o0 : Nat) (a1 : Int) (I0 : IMem) (hfu : 5000000000 < fu) (hn : n < 512) (hX : XC o0 n I0) (qa1 : inr a1) : sat (f_X_fewest fu o0 a1 I0) (fun v I => inr v ∧ XC o0 (n + 1) I) := by
  have h70 := hX.2.2.1
  obtain ⟨v, I, e, qv, hI, p⟩ := ok_X_fewest fu o0 a1 I0 hfu hX.1 qa1 
  exact ⟨v, I, e, qv, xc_3 hX hI (fc_X_fewest (KM3 o0) fu o0 a1 I0 (fun _ => by unfold KM3; omega) (fun _ => by unfold KM3; omega) (fun _ => by unfold KM3; omega) (fun _ => by unfold KM3; omega) e)⟩
theorem lx_thought (fu n o0 : Nat) (a1 a2 a3 a4 a5 : Int) (I0 : IMem) (hfu : 5000000000 < fu) (hn : n < 512) (hX : XC o0 n I0) (qa1 : inr a1) (qa2 : inr a2) (qa3 : inr a3) (qa4 : inr a4) (qa5 : inr a5) : sat (f_X_thought fu o0 a1 a2 a3 a4 a5 I0) (fun v I => inr v ∧ XC o0 (n + 1) I) := by
  have h70 := hX.2.2.1
  obtain ⟨v, I, e, qv, hI, p⟩ := ok_X_thought fu o0 a1 a2 a3 a4 a5 I0 hfu hX.1 qa1 qa2 qa3 qa4 qa5 (by omega)
  exact ⟨v, I, e, qv, xc_sa hX hI p (fc_X_thought (KM2 o0) fu o0 a1 a2 a3 a4 a5 I0 (fun _ => by unfold KM2; omega) (fun _ => by unfold KM2; omega) (fun _ => by unfold KM2; omega) (fun _ => by unfold KM2; omega) (fun _ => by unfold KM2; omega) (fun _ => by unfold KM2; omega) (fun _ => by unfold KM2; omega) (fun _ => by unfold KM2; omega) (fun _ => by unfold KM2; omega) (fun _ => by unfold KM2; omega) (fun _ => by unfold KM2; omega) (fun _ => by unfold KM2; omega) (by unfold KM2; omega) (by unfold KM2; omega) (by unfold KM2; omega) (by unfold KM2; omega) (by unfold KM2; omega) (by unfold KM2; omega) (by unfold KM2; omega) (by unfold KM2; omega) (by unfold KM2; omega) (by unfold KM2; omega) (by unfold KM2; omega) (by unfold KM2; omega) (by unfold KM2; omega) (by unfold KM2; omega) (by unfold KM2; omega) (by unfold KM2; omega) (by unfold KM2; omega) (by unfold KM2; omega) (by unfold KM2; omega) (by unfold KM2; omega) (by unfold KM2; omega) (by unfold KM2; omega) (by unfold KM2; omega) (by unfold KM2; omega) (by unfold KM2; omega) e)⟩
theorem lx_price (fu n o0 : Nat) (a1 a2 : Int) (I0 : IMem) (hfu : 5000000000 < fu) (hn : n < 512) (hX : XC o0 n I0) (qa1 : inr a1) (qa2 : inr a2) : sat (f_X_price fu o0 a1 a2 I0) (fun v I => inr v ∧ XC o0 (n + 1) I) := by
  have h70 := hX.2.2.1
  obtain ⟨v, I, e, qv, hI, p⟩ := ok_X_price fu o0 a1 a2 I0 hfu hX.1 qa1 qa2 (by omega)
  exact ⟨v, I, e, qv, xc_sa hX hI p (fc_X_price (KM2 o0) fu o0 a1 a2 I0 (fun _ => by unfold KM2; omega) (fun _ => by unfold KM2; omega) (fun _ => by unfold KM2; omega) (fun _ => by unfold KM2; omega) (fun _ => by unfold KM2; omega) (fun _ => by unfold KM2; omega) (fun _ => by unfold KM2; omega) (fun _ => by unfold KM2; omega) (fun _ => by unfold KM2; omega) (fun _ => by unfold KM2; omega) (fun _ => by unfold KM2; omega) (fun _ => by unfold KM2; omega) (by unfold KM2; omega) (by unfold KM2; omega) (by unfold KM2; omega) (by unfold KM2; omega) (by unfold KM2; omega) (by unfold KM2; omega) (by unfold KM2; omega) (by unfold KM2; omega) (by unfold KM2; omega) (by unfold KM2; omega) (by unfold KM2; omega) (by unfold KM2; omega) (by unfold KM2; omega) (by unfold KM2; omega) (by unfold KM2; omega) (by unfold KM2; omega) (by unfold KM2; omega) (by unfold KM2; omega) (by unfold KM2; omega) (by unfold KM2; omega) (by unfold KM2; omega) (by unfold KM2; omega) (by unfold KM2; omega) (by unfold KM2; omega) (by unfold KM2; omega) e)⟩
theorem lx_till (fu n o0 : Nat) (a1 a2 : Int) (I0 : IMem) (hfu : 5000000000 < fu) (hn : n < 512) (hX : XC o0 n I0) (qa1 : inr a1) (qa2 : inr a2) : sat (f_X_till fu o0 a1 a2 I0) (fun v I => inr v ∧ XC o0 (n + 1) I) := by
  have h70 := hX.2.2.1
  obtain ⟨v, I, e, qv, hI, p⟩ := ok_X_till fu o0 a1 a2 I0 hfu hX.1 qa1 qa2 (by omega)
  exact ⟨v, I, e, qv, xc_sa hX hI p (fc_X_till (KM2 o0) fu o0 a1 a2 I0 (fun _ => by unfold KM2; omega) (fun _ => by unfold KM2; omega) (fun _ => by unfold KM2; omega) (fun _ => by unfold KM2; omega) (fun _ => by unfold KM2; omega) (fun _ => by unfold KM2; omega) (fun _ => by unfold KM2; omega) (fun _ => by unfold KM2; omega) (fun _ => by unfold KM2; omega) (fun _ => by unfold KM2; omega) (fun _ => by unfold KM2; omega) (fun _ => by unfold KM2; omega) (by unfold KM2; omega) (by unfold KM2; omega) (by unfold KM2; omega) (by unfold KM2; omega) (by unfold KM2; omega) (by unfold KM2; omega) (by unfold KM2; omega) (by unfold KM2; omega) (by unfold KM2; omega) (by unfold KM2; omega) (by unfold KM2; omega) (by unfold KM2; omega) (by unfold KM2; omega) (by unfold KM2; omega) (by unfold KM2; omega) (by unfold KM2; omega) (by unfold KM2; omega) (by unfold KM2; omega) e)⟩
theorem lx_together (fu n o0 : Nat) (a1 a2 a3 a4 a5 : Int) (I0 : IMem) (hfu : 5000000000 < fu) (hn : n < 512) (hX : XC o0 n I0) (qa1 : inr a1) (qa2 : inr a2) (qa3 : inr a3) (qa4 : inr a4) (qa5 : inr a5) : sat (f_X_together fu o0 a1 a2 a3 a4 a5 I0) (fun v I => inr v ∧ XC o0 (n + 1) I) := by
  have h70 := hX.2.2.1
  obtain ⟨v, I, e, qv, hI, p⟩ := ok_X_together fu o0 a1 a2 a3 a4 a5 I0 hfu hX.1 qa1 qa2 qa3 qa4 qa5 (by omega)
  exact ⟨v, I, e, qv, xc_sa hX hI p (fc_X_together (KM2 o0) fu o0 a1 a2 a3 a4 a5 I0 (fun _ => by unfold KM2; omega) (fun _ => by unfold KM2; omega) (fun _ => by unfold KM2; omega) (fun _ => by unfold KM2; omega) (fun _ => by unfold KM2; omega) (fun _ => by unfold KM2; omega) (fun _ => by unfold KM2; omega) (fun _ => by unfold KM2; omega) (fun _ => by unfold KM2; omega) (fun _ => by unfold KM2; omega) (fun _ => by unfold KM2; omega) (fun _ => by unfold KM2; omega) (by unfold KM2; omega) (by unfold KM2; omega) (by unfold KM2; omega) (by unfold KM2; omega) (by unfold KM2; omega) (by unfold KM2; omega) (by unfold KM2; omega) (by unfold KM2; omega) (by unfold KM2; omega) (by unfold KM2; omega) (by unfold KM2; omega) (by unfold KM2; omega) (by unfold KM2; omega) (by unfold KM2; omega) (by unfold KM2; omega) (by unfold KM2; omega) (by unfold KM2; omega) (by unfold KM2; omega) e)⟩
theorem lx_needed (fu n o0 : Nat) (a1 : Int) (I0 : IMem) (hfu : 5000000000 < fu) (hn : n < 512) (hX : XC o0 n I0) (qa1 : inr a1) : sat (f_X_needed fu o0 a1 I0) (fun v I => inr v ∧ XC o0 (n + 1) I) := by
  have h70 := hX.2.2.1
  obtain ⟨v, I, e, qv, hI, p⟩ := ok_X_needed fu o0 a1 I0 hfu hX.1 qa1 (by omega)
  exact ⟨v, I, e, qv, xc_sa hX hI p (fc_X_needed (KM2 o0) fu o0 a1 I0 (fun _ => by unfold KM2; omega) (fun _ => by unfold KM2; omega) (fun _ => by unfold KM2; omega) (fun _ => by unfold KM2; omega) (fun _ => by unfold KM2; omega) (fun _ => by unfold KM2; omega) (fun _ => by unfold KM2; omega) (fun _ => by unfold KM2; omega) (fun _ => by unfold KM2; omega) (fun _ => by unfold KM2; omega) (fun _ => by unfold KM2; omega) (fun _ => by unfold KM2; omega) (by unfold KM2; omega) (by unfold KM2; omega) (by unfold KM2; omega) (by unfold KM2; omega) (by unfold KM2; omega) (by unfold KM2; omega) (by unfold KM2; omega) (by unfold KM2; omega) (by unfold KM2; omega) (by unfold KM2; omega) (by unfold KM2; omega) (by unfold KM2; omega) (by unfold KM2; omega) (by unfold KM2; omega) (by unfold KM2; omega) (by unfold KM2; omega) (by unfold KM2; omega) e)⟩
theorem lx_past (fu n o0 : Nat) (a1 a2 : Int) (I0 : IMem) (hfu : 5000000000 < fu) (hn : n < 512) (hX : XC o0 n I0) (qa1 : inr a1) (qa2 : inr a2) : sat (f_X_past fu o0 a1 a2 I0) (fun v I => inr v ∧ XC o0 (n + 1) I) := by
  have h70 := hX.2.2.1
  obtain ⟨v, I, e, qv, hI, p⟩ := ok_X_past fu o0 a1 a2 I0 hfu hX.1 qa1 qa2 
  refine ⟨v, I, e, qv, ?_⟩
  rw [p.1]
  exact xc_s hX
theorem lx_which (fu n o0 : Nat) (a1 a2 : Int) (I0 : IMem) (hfu : 5000000000 < fu) (hn : n < 512) (hX : XC o0 n I0) (qa1 : inr a1) (qa2 : inr a2) : sat (f_X_which fu o0 a1 a2 I0) (fun v I => inr v ∧ XC o0 (n + 1) I) := by
  have h70 := hX.2.2.1
  obtain ⟨v, I, e, qv, hI, p⟩ := ok_X_which fu o0 a1 a2 I0 hfu hX.1 qa1 qa2 (by omega)
  exact ⟨v, I, e, qv, xc_sa hX hI p (fc_X_which (KM2 o0) fu o0 a1 a2 I0 (fun _ => by unfold KM2; omega) (fun _ => by unfold KM2; omega) (fun _ => by unfold KM2; omega) (fun _ => by unfold KM2; omega) (fun _ => by unfold KM2; omega) (fun _ => by unfold KM2; omega) (fun _ => by unfold KM2; omega) (fun _ => by unfold KM2; omega) (fun _ => by unfold KM2; omega) (fun _ => by unfold KM2; omega) (fun _ => by unfold KM2; omega) (fun _ => by unfold KM2; omega) (by unfold KM2; omega) (by unfold KM2; omega) (by unfold KM2; omega) (by unfold KM2; omega) (by unfold KM2; omega) (by unfold KM2; omega) (by unfold KM2; omega) (by unfold KM2; omega) (by unfold KM2; omega) (by unfold KM2; omega) (by unfold KM2; omega) (by unfold KM2; omega) (by unfold KM2; omega) (by unfold KM2; omega) (by unfold KM2; omega) (by unfold KM2; omega) (by unfold KM2; omega) (by unfold KM2; omega) (by unfold KM2; omega) (by unfold KM2; omega) (by unfold KM2; omega) (by unfold KM2; omega) (by unfold KM2; omega) (by unfold KM2; omega) (by unfold KM2; omega) (by unfold KM2; omega) e)⟩
theorem lx_folded (fu n o0 : Nat) (a1 a2 a3 : Int) (I0 : IMem) (hfu : 5000000000 < fu) (hn : n < 512) (hX : XC o0 n I0) (qa1 : inr a1) (qa2 : inr a2) (qa3 : inr a3) : sat (f_X_folded fu o0 a1 a2 a3 I0) (fun v I => inr v ∧ XC o0 (n + 1) I) := by
  have h70 := hX.2.2.1
  obtain ⟨v, I, e, qv, hI, p⟩ := ok_X_folded fu o0 a1 a2 a3 I0 hfu hX.1 qa1 qa2 qa3 
  refine ⟨v, I, e, qv, ?_⟩
  rw [p.1]
  exact xc_s hX
theorem lx_image (fu n o0 : Nat) (a1 : Int) (I0 : IMem) (hfu : 5000000000 < fu) (hn : n < 512) (hX : XC o0 n I0) (qa1 : inr a1) : sat (f_X_image fu o0 a1 I0) (fun v I => inr v ∧ XC o0 (n + 1) I) := by
  have h70 := hX.2.2.1
  obtain ⟨v, I, e, qv, hI, p⟩ := ok_X_image fu o0 a1 I0 hfu hX.1 qa1 
  refine ⟨v, I, e, qv, ?_⟩
  have h72 := hX.2.2.2
  rcases p with z | ⟨z0, z1, z2, z3, z4, z5, z6⟩ | ⟨z0, z1, z2, z3⟩
  · rw [z]; exact xc_s hX
  · have := h72 z1
    have e1 := z5 70 (by decide)
    have e2 := z6 70 (by decide)
    exact ⟨hI, pc_zero z4 z3, by omega, fun _ => by omega⟩
  · have e1 := z2 70 (by decide)
    have e2 := z3.1 70 (by decide)
    exact ⟨hI, pc_sa hX.2.1 z3, by omega, fun _ => by omega⟩
theorem lx_told (fu n o0 : Nat) (a1 : Int) (I0 : IMem) (hfu : 5000000000 < fu) (hn : n < 512) (hX : XC o0 n I0) (qa1 : inr a1) : sat (f_X_told fu o0 a1 I0) (fun v I => inr v ∧ XC o0 (n + 1) I) := by
  have h70 := hX.2.2.1
  obtain ⟨v, I, e, qv, hI, p⟩ := ok_X_told fu o0 a1 I0 hfu hX.1 qa1 
  refine ⟨v, I, e, qv, ?_⟩
  rw [p.1]
  exact xc_s hX
