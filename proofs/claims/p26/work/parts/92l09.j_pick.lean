/-! what is seen, who is found: the class -/
def SN (c s : Nat → Int) (lg : Int) (k : Nat) : Prop := ((k % 40 : Nat) : Int) < c (k / 40) ∧ ((k % 40 : Nat) : Int) < s (k / 40) + (if ((k / 40 : Nat) : Int) = lg then 1 else 0)
/-- the spots below K that are seen, in their order -/
def SLI (a c s : Nat → Int) (lg : Int) (K n : Nat) : Prop := (∀ i, i < n → ∃ k : Nat, k < K ∧ a i = (k : Int) ∧ SN c s lg k) ∧ (∀ i j, i < j → j < n → a i < a j) ∧ ∀ k, k < K → SN c s lg k → ∃ i, i < n ∧ a i = (k : Int)
section
variable {fu : Nat} {Q : Int → IMem → Prop}
theorem cv_seen46 (kk : Int → IMem → Res) (o o1 : Nat) (p2 : Int) (c s : Nat → Int) {l : Nat} (hl : l < 6) (hc : 0 ≤ c l ∧ c l ≤ 40) (hs : 0 ≤ s l + (if (l : Int) = p2 then 1 else 0) ∧ s l + (if (l : Int) = p2 then 1 else 0) ≤ 24) (p5 : Int) (h5 : p5 = if s l + (if (l : Int) = p2 then 1 else 0) < c l then s l + (if (l : Int) = p2 then 1 else 0) else c l) (I0 : IMem) : ∀ (m n p : Nat) (I : IMem), (∀ q, q ≠ o1 → I q = I0 q) → (p : Int) ≤ p5 → n ≤ 24 * l + p → SLI (I o1) c s p2 (40 * l + p) n →
    (∀ (n : Nat) (I' : IMem), (∀ q, q ≠ o1 → I' q = I0 q) → n ≤ 24 * (l + 1) → SLI (I' o1) c s p2 (40 * (l + 1)) n → par (kk (n : Int) I') Q) → par (f_L_listSeen_46 fu kk o o1 144 p2 (l : Int) p5 m (n : Int) (p : Int) I) Q := by
  intro m
  induction m with
  | zero => intro _ _ _ _ _ _ _ _; exact par_none
  | succ m ih =>
    intro n p I hI hp hn hS hk
    show par (fb_L_listSeen_46 fu kk o o1 144 p2 (l : Int) p5 (f_L_listSeen_46 fu kk o o1 144 p2 (l : Int) p5 m) (n : Int) (p : Int) I) Q
    unfold fb_L_listSeen_46
    have d5 : p5 ≤ 24 ∧ p5 ≤ c l ∧ p5 ≤ s l + (if (l : Int) = p2 then 1 else 0) := by
      rw [h5]
      split <;> omega
    have e5 : p5 = c l ∨ p5 = s l + (if (l : Int) = p2 then 1 else 0) := by
      rw [h5]
      by_cases z5 : s l + (if (l : Int) = p2 then 1 else 0) < c l
      · rw [if_pos z5]; exact Or.inr rfl
      · rw [if_neg z5]; exact Or.inl rfl
    by_cases h : (p : Int) < p5
    · rw [if_pos h]
      simp only [zl_e, zj_e]
      rw [if_pos (by omega)]
      have w1 : Wq (wr32 (wr32 ((l : Int) * 40) + (p : Int))) (((40 * l + p : Nat) : Int)) := by show wr32 (wr32 ((l : Int) * 40) + (p : Int)) = ((40 * l + p : Nat) : Int); rw [wr32_i2 (x := (l : Int) * 40) (by omega) (by omega), wr32_i2 (by omega) (by omega)]; omega
      have w2 : Wq (wr32 ((n : Int) + 1)) (((n + 1 : Nat) : Int)) := by show wr32 ((n : Int) + 1) = ((n + 1 : Nat) : Int); rw [wr32_i2 (by omega) (by omega)]; rfl
      have w3 : Wq (wr32 ((p : Int) + 1)) (((p + 1 : Nat) : Int)) := by show wr32 ((p : Int) + 1) = ((p + 1 : Nat) : Int); rw [wr32_i2 (by omega) (by omega)]; rfl
      rw [w1.e, w2.e, w3.e]
      refine par_zg (fun _ => par_zw' (fun I1 e1 => ?_))
      rw [show ((n : Nat) : Int).toNat = n from rfl] at e1
      have a1 : ∀ i, I1 o1 i = if i = n then ((40 * l + p : Nat) : Int) else I o1 i := by
        intro i
        rw [e1]
        by_cases q : i = n
        · rw [if_pos ⟨rfl, q⟩, if_pos q]
        · rw [if_neg (fun z => q z.2), if_neg q]
      obtain ⟨s1, s2, s3⟩ := hS
      refine ih (n + 1) (p + 1) I1 (fun q hq => ?_) (by omega) (by omega) ⟨fun i hi => ?_, fun i j hij hj => ?_, fun k hk1 hk2 => ?_⟩ hk
      · rw [← hI q hq]; funext i; rw [e1, if_neg (fun z => hq z.1)]
      · rw [a1]
        by_cases q : i = n
        · rw [if_pos q]
          refine ⟨40 * l + p, by omega, rfl, ?_⟩
          unfold SN
          rw [show (40 * l + p) % 40 = p by omega, show (40 * l + p) / 40 = l by omega]
          exact ⟨by omega, by omega⟩
        · rw [if_neg q]
          obtain ⟨k, k1, k2, k3⟩ := s1 i (by omega)
          exact ⟨k, by omega, k2, k3⟩
      · rw [a1, a1, if_neg (by omega)]
        by_cases q : j = n
        · rw [if_pos q]
          obtain ⟨k, k1, k2, k3⟩ := s1 i (by omega)
          omega
        · rw [if_neg q]; exact s2 i j hij (by omega)
      · by_cases q : k = 40 * l + p
        · exact ⟨n, by omega, by rw [a1, if_pos rfl, q]⟩
        · obtain ⟨i, i1, i2⟩ := s3 k (by omega) hk2
          exact ⟨i, by omega, by rw [a1, if_neg (by omega)]; exact i2⟩
    · rw [if_neg h]
      obtain ⟨s1, s2, s3⟩ := hS
      refine hk n I hI (by omega) ⟨fun i hi => ?_, s2, fun k hk1 hk2 => ?_⟩
      · obtain ⟨k, k1, k2, k3⟩ := s1 i hi
        exact ⟨k, by omega, k2, k3⟩
      · by_cases q : k < 40 * l + p
        · exact s3 k q hk2
        · exfalso
          obtain ⟨p', hp', rfl⟩ : ∃ p', p' < 40 ∧ k = 40 * l + p' := ⟨k - 40 * l, by omega, by omega⟩
          unfold SN at hk2
          rw [show (40 * l + p') % 40 = p' by omega, show (40 * l + p') / 40 = l by omega] at hk2
          omega
theorem cv_seen5 (o o1 : Nat) (p2 : Int) (h1 : o1 ≠ o + 2 ∧ o1 ≠ o + 3) (I0 : IMem) (hc : ∀ l, l < 6 → 0 ≤ I0 (o + 2) l ∧ I0 (o + 2) l ≤ 40) (hs : ∀ l : Nat, l < 6 → 0 ≤ I0 (o + 3) l + (if (l : Int) = p2 then 1 else 0) ∧ I0 (o + 3) l + (if (l : Int) = p2 then 1 else 0) ≤ 24) : ∀ (m n l : Nat) (I : IMem), (∀ q, q ≠ o1 → I q = I0 q) → l ≤ 6 → n ≤ 24 * l → SLI (I o1) (I0 (o + 2)) (I0 (o + 3)) p2 (40 * l) n → par (f_L_listSeen_5 fu o o1 144 p2 m (n : Int) (l : Int) I) (fun v I' => ∃ n : Nat, v = n ∧ n ≤ 144 ∧ SLI (I' o1) (I0 (o + 2)) (I0 (o + 3)) p2 240 n ∧ ∀ q, q ≠ o1 → I' q = I0 q) := by
  intro m
  induction m with
  | zero => intro _ _ _ _ _ _ _; exact par_none
  | succ m ih =>
    intro n l I hI hl hn hS
    show par (fb_L_listSeen_5 fu o o1 144 p2 (f_L_listSeen_5 fu o o1 144 p2 m) (n : Int) (l : Int) I) _
    unfold fb_L_listSeen_5
    by_cases h6 : l < 6
    · rw [if_pos (by omega)]
      refine par_zg (fun _ => par_zg (fun _ => ?_))
      have g : ∀ x : Int, x = (if (l : Int) = p2 then 1 else 0) → par (zb (f_JM_min fu (I (o + 2) (l : Int).toNat) (wr32 ((I (o + 3) (l : Int).toNat) + x)) I) fun y4 I5 => f_L_listSeen_46 fu (fun (x14 : Int) (I13 : IMem) => zl (wr32 ((l : Int) + 1)) fun x15 => f_L_listSeen_5 fu o o1 144 p2 m x14 x15 I13) o o1 144 p2 (l : Int) y4 fu (n : Int) 0 I5) (fun v I' => ∃ n : Nat, v = n ∧ n ≤ 144 ∧ SLI (I' o1) (I0 (o + 2)) (I0 (o + 3)) p2 240 n ∧ ∀ q, q ≠ o1 → I' q = I0 q) := by
        intro x hx
        rw [ev_min, zb_zr, show ((l : Nat) : Int).toNat = l from rfl, hI _ (fun z => h1.1 z.symm), hI _ (fun z => h1.2 z.symm)]
        have a1 := hc l h6
        have a2 := hs l h6
        rw [← hx] at a2
        rw [wr32_i2 (x := I0 (o + 3) l + x) (by omega) (by omega)]
        refine cv_seen46 _ o o1 p2 (I0 (o + 2)) (I0 (o + 3)) h6 a1 (by rw [← hx]; exact a2) _ (by rw [← hx]) I0 fu n 0 I hI ?_ (by omega) hS (fun n' I' f1 f2 f3 => ?_)
        · split <;> omega
        · simp only [zl_e]
          have wn : Wq (wr32 ((l : Int) + 1)) (((l + 1 : Nat) : Int)) := by show wr32 ((l : Int) + 1) = ((l + 1 : Nat) : Int); rw [wr32_i2 (by omega) (by omega)]; rfl
          rw [wn.e]
          exact ih n' (l + 1) I' f1 h6 f2 f3
      simp only [zj_e]
      refine par_ite (fun q => ?_) (fun q => ?_)
      · exact g 1 (by rw [if_pos q])
      · exact g 0 (by rw [if_neg q])
    · rw [if_neg (by omega)]
      have : l = 6 := by omega
      subst this
      exact par_zr ⟨n, rfl, hn, hS, hI⟩
theorem cv_seen (o o1 : Nat) (p2 : Int) (h1 : o1 ≠ o + 2 ∧ o1 ≠ o + 3) (I : IMem) (hc : ∀ l, l < 6 → 0 ≤ I (o + 2) l ∧ I (o + 2) l ≤ 40) (hs : ∀ l : Nat, l < 6 → 0 ≤ I (o + 3) l + (if (l : Int) = p2 then 1 else 0) ∧ I (o + 3) l + (if (l : Int) = p2 then 1 else 0) ≤ 24) : par (f_L_listSeen fu o o1 144 p2 I) (fun v I' => ∃ n : Nat, v = n ∧ n ≤ 144 ∧ SLI (I' o1) (I (o + 2)) (I (o + 3)) p2 240 n ∧ ∀ q, q ≠ o1 → I' q = I q) :=
  cv_seen5 o o1 p2 h1 I hc hs fu 0 0 I (fun _ _ => rfl) (by decide) (by decide) ⟨fun i hi => absurd hi (Nat.not_lt_zero _), fun i j _ hj => absurd hj (Nat.not_lt_zero _), fun k hk => absurd hk (Nat.not_lt_zero _)⟩
theorem ev_cstands (fu oc k : Nat) (I : IMem) (hk : k < 240) : f_C_stands fu oc (k : Int) I = zr (if I (oc + 1) k = 0 then 1 else 0) I := by
  unfold f_C_stands
  rw [if_neg (by omega), if_pos (by omega), zg_t (by omega)]
  show (if I (oc + 1) k = 0 then _ else _) = _
  by_cases h : I (oc + 1) k = 0
  · rw [if_pos h, if_pos h]
  · rw [if_neg h, if_neg h]
theorem ev_cfits (fu oc hb k : Nat) (I : IMem) (hk : k < 240) : f_C_fits fu oc hb (k : Int) I = zr (if I (oc + 1) k = 0 ∧ I oc 10 = 0 ∧ I (hb + 7) (6 * k + 2) ≤ I oc 7 ∧ (I (hb + 7) (6 * k + 3) = 1 → I oc 11 ≠ 0) ∧ (I (hb + 7) (6 * k + 3) = 2 → I oc 8 = 0) then 1 else 0) I := by
  unfold f_C_fits
  rw [ev_cstands fu oc k I hk, zb_zr]
  by_cases h1 : I (oc + 1) k = 0
  · rw [if_pos h1, if_neg (by decide)]
    by_cases h2 : I oc 10 = 0
    · rw [if_pos h2, ev_get2 fu (hb + 6) k I hk, zb_zr]
      show (if I oc 7 < I (hb + 7) (6 * k + 2) then _ else _) = _
      by_cases h3 : I oc 7 < I (hb + 7) (6 * k + 2)
      · rw [if_pos h3, if_neg (fun q => by have := q.2.2.1; omega)]
      · rw [if_neg h3, ev_get3 fu (hb + 6) k I hk, zb_zr]
        simp only [zj_e]
        show (if I (hb + 7) (6 * k + 3) = 1 then (if I oc 11 = 0 then _ else (if I (hb + 7) (6 * k + 3) = 2 then _ else _)) else (if I (hb + 7) (6 * k + 3) = 2 then _ else _)) = _
        by_cases h4 : I (hb + 7) (6 * k + 3) = 1
        · rw [if_pos h4]
          by_cases h5 : I oc 11 = 0
          · rw [if_pos h5, if_neg (fun q => q.2.2.2.1 h4 h5)]
          · rw [if_neg h5, if_neg (by omega), if_pos ⟨h1, h2, by omega, fun _ => h5, fun q => by omega⟩]
        · rw [if_neg h4]
          by_cases h6 : I (hb + 7) (6 * k + 3) = 2
          · rw [if_pos h6]
            by_cases h5 : I oc 8 = 0
            · rw [if_pos h5, if_pos ⟨h1, h2, by omega, fun q => absurd q h4, fun _ => h5⟩]
            · rw [if_neg h5, if_neg (fun q => h5 (q.2.2.2.2 h6))]
          · rw [if_neg h6, if_pos ⟨h1, h2, by omega, fun q => absurd q h4, fun q => absurd q h6⟩]
    · rw [if_neg h2, if_neg (fun q => h2 q.2.1)]
  · rw [if_neg h1, if_pos rfl, if_neg (fun q => h1 q.1)]
/-- the spot at which the i-th turn of the class's loop looks -/
def nxS (a : Nat → Int) (n i : Nat) : Nat := if i < n then (a i).toNat else 240
theorem nxS_0 {a c s : Nat → Int} {lg : Int} {n : Nat} (h : SLI a c s lg 240 n) {e : Nat → Bool} (he : ∀ k, k < 240 → e k = true → SN c s lg k) (v : Nat → Int) (lo : Int) : amF e v lo (nxS a n 0) = (-1, lo) := by
  have : amF e v lo (nxS a n 0) = amF e v lo 0 := by
    refine amF_gap _ (Nat.zero_le _) (fun k _ hk => ?_)
    cases hek : e k with
    | false => rfl
    | true =>
      exfalso
      unfold nxS at hk
      by_cases hn : 0 < n
      · rw [if_pos hn] at hk
        obtain ⟨k0, q1, q2, _⟩ := h.1 0 hn
        obtain ⟨i, i1, i2⟩ := h.2.2 k (by omega) (he k (by omega) hek)
        by_cases hi0 : i = 0
        · subst hi0; omega
        · have := h.2.1 0 i (by omega) i1; omega
      · rw [if_neg hn] at hk
        obtain ⟨i, i1, i2⟩ := h.2.2 k hk (he k hk hek)
        omega
  rw [this]; rfl
theorem nxS_s {a c s : Nat → Int} {lg : Int} {n i k : Nat} (h : SLI a c s lg 240 n) {e : Nat → Bool} (he : ∀ k, k < 240 → e k = true → SN c s lg k) (v : Nat → Int) (lo : Int) (hi : i < n) (hk : a i = (k : Int)) : amF e v lo (nxS a n (i + 1)) = if e k = true ∧ (amF e v lo (nxS a n i)).2 < v k then ((k : Int), v k) else amF e v lo (nxS a n i) := by
  have e0 : nxS a n i = k := by unfold nxS; rw [if_pos hi, hk]; rfl
  obtain ⟨k0, q1, q2, q3⟩ := h.1 i hi
  rw [e0]
  show _ = amF e v lo (k + 1)
  have hb : k + 1 ≤ nxS a n (i + 1) ∧ nxS a n (i + 1) ≤ 240 := by
    unfold nxS
    by_cases hn : i + 1 < n
    · rw [if_pos hn]
      have := h.2.1 i (i + 1) (by omega) hn
      obtain ⟨k1, p1, p2, _⟩ := h.1 (i + 1) hn
      omega
    · rw [if_neg hn]; omega
  refine amF_gap _ hb.1 (fun k2 h1 h2 => ?_)
  cases hek : e k2 with
  | false => rfl
  | true =>
    exfalso
    obtain ⟨i2, j1, j2⟩ := h.2.2 k2 (by omega) (he k2 (by omega) hek)
    have a1 : i < i2 := by
      rcases Nat.lt_trichotomy i i2 with x | x | x
      · exact x
      · subst x; omega
      · have := h.2.1 i2 i x hi; omega
    unfold nxS at h2
    by_cases hn : i + 1 < n
    · rw [if_pos hn] at h2
      obtain ⟨k1, p1, p2, _⟩ := h.1 (i + 1) hn
      by_cases hx : i2 = i + 1
      · subst hx; omega
      · have := h.2.1 (i + 1) i2 (by omega) j1; omega
    · omega
theorem nxS_n {a : Nat → Int} {n : Nat} : nxS a n n = 240 := by unfold nxS; rw [if_neg (Nat.lt_irrefl _)]
/-- the class's search by how often passed -/
theorem cv_most (oc hb : Nat) (I : IMem) {c s : Nat → Int} {n : Nat} (hn : n ≤ 144) (h5 : I oc 5 = n) (hS : SLI (I (oc + 5)) c s (-1) 240 n) {e : Nat → Bool} {v : Nat → Int} (he : ∀ k, k < 240 → e k = true → SN c s (-1) k) (hf : ∀ k, k < 240 → SN c s (-1) k → (e k = true ↔ (I (oc + 1) k = 0 ∧ I oc 10 = 0 ∧ I (hb + 7) (6 * k + 2) ≤ I oc 7 ∧ (I (hb + 7) (6 * k + 3) = 1 → I oc 11 ≠ 0) ∧ (I (hb + 7) (6 * k + 3) = 2 → I oc 8 = 0))) ∧ I (hb + 7) (6 * k + 5) = v k) (bd lo : Int) (hbd : 0 < bd) : ∀ (m i : Nat) (w3 w4 : Int), i ≤ n → amF e v lo (nxS (I (oc + 5)) n i) = (w4, w3) → par (f_C_mostPassed_17 fu oc hb bd m w3 w4 (i : Int) I) (fun x I' => I' = I ∧ x = (amF e v lo 240).1) := by
  intro m
  induction m with
  | zero => intro _ _ _ _ _; exact par_none
  | succ m ih =>
    intro i w3 w4 hi hw
    show par (fb_C_mostPassed_17 fu oc hb bd (f_C_mostPassed_17 fu oc hb bd m) w3 w4 (i : Int) I) _
    unfold fb_C_mostPassed_17
    rw [h5]
    by_cases hin : i < n
    · rw [if_pos (by omega), if_pos (by omega), if_pos hbd]
      refine par_zg (fun _ => ?_)
      obtain ⟨k, k1, k2, k3⟩ := hS.1 i hin
      have stp := nxS_s hS he v lo hin k2
      obtain ⟨f1, f2⟩ := hf k k1 k3
      simp only [zl_e, zj_e]
      have wn : Wq (wr32 ((i : Int) + 1)) (((i + 1 : Nat) : Int)) := by show wr32 ((i : Int) + 1) = ((i + 1 : Nat) : Int); rw [wr32_i2 (by omega) (by omega)]; rfl
      rw [show ((i : Nat) : Int).toNat = i from rfl, k2, ev_get5 fu (hb + 6) k I k1, zb_zr, wn.e]
      rw [hw] at stp
      have f2' : I (hb + 6 + 1) (6 * k + 5) = v k := f2
      rw [f2']
      refine par_ite (fun q => par_zg (fun _ => ?_)) (fun q => ?_)
      · rw [k2, ev_cfits fu oc hb k I k1, zb_zr]
        by_cases hek : e k = true
        · rw [if_pos (f1.mp hek), if_neg (by decide)]
          refine par_zg (fun _ => ?_)
          rw [k2]
          refine ih (i + 1) (v k) (k : Int) hin ?_
          rw [stp, if_pos ⟨hek, q⟩]
        · rw [if_neg (fun z => hek (f1.mpr z)), if_pos rfl]
          refine ih (i + 1) w3 w4 hin ?_
          rw [stp, if_neg (fun z => hek z.1)]
      · refine ih (i + 1) w3 w4 hin ?_
        rw [stp, if_neg (fun z => q z.2)]
    · rw [if_neg (by omega)]
      have : i = n := by omega
      subst this
      rw [nxS_n] at hw
      exact par_zr ⟨rfl, by rw [hw]⟩
end
