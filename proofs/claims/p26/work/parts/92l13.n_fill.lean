/-! the chair is filled, on both sides -/
def cBODY (fu oc hb : Nat) (k_66 : IMem → Res) (R_ : Int → Int → IMem → Res) (w3 : Int) (x13 x14 : Int) (I12 : IMem) : Res :=
          if x14 = (-1) then (
            k_66 I12)
          else (
            zb (f_L_get fu (hb + 6) x14 1 I12) fun y15 I16 =>
              if I16 oc 7 < y15 then (
                zb (f_C_findOut fu oc hb x14 I16) fun _ I29 =>
                R_ x13 (wr32 (w3 + 1)) I29)
              else (
                zb (f_L_get fu (hb + 6) x14 3 I16) fun y22 I23 =>
                zb (f_C_sit fu oc x14 y15 y22 1 I23) fun _ I26 =>
                R_ 1 (wr32 (w3 + 1)) I26))
theorem fill_eq (fu oc hb : Nat) (k_66 k_127 : IMem → Res) (R_ : Int → Int → IMem → Res) (w2 w3 : Int) (I0 : IMem) : fb_C_fill_30 fu k_66 k_127 oc hb R_ w2 w3 I0 = if 144 < w3 then k_127 I0 else zb (f_C_mostPassed fu oc hb I0) fun y8 I9 => if y8 = (-1) then (zb (f_C_worthiest fu oc hb w2 I9) fun y31 I32 => cBODY fu oc hb k_66 R_ w3 0 y31 I32) else cBODY fu oc hb k_66 R_ w3 w2 y8 I9 := rfl
def xB7 (fu : Nat) (k_39 R_ : IMem → Res) (x9 : Int) (I8 : IMem) : Res :=
            if x9 = (-1) then (
              k_39 I8)
            else (
              zb (f_X_of fu 0 (wdiv x9 40) (wrem x9 40) 1 I8) fun y12 I13 =>
              if I13 0 30 < y12 then (
                zg (0 ≤ x9 ∧ x9 < 240) (zw I13 (0 + 12) x9.toNat 1 fun I21 =>
                zl (I21 0 32) fun x23 =>
                zg (0 ≤ x23 ∧ x23 < 240) (zw I21 (0 + 10) x23.toNat x9 fun I22 =>
                zw I22 0 32 (wr32 ((I22 0 32) + 1)) fun I24 =>
                zw I24 (0 + 1) 75 (wr32 ((I24 (0 + 1) 75) + 1)) fun I25 =>
                R_ I25)))
              else (
                zb (f_X_of fu 0 (wdiv x9 40) (wrem x9 40) 1 I13) fun y15 I16 =>
                zb (f_X_takes fu 0 (wdiv x9 40) (wrem x9 40) y15 I16) fun _ I19 =>
                R_ I19))
def xB4 (fu : Nat) (k_39 R_ : IMem → Res) (x6 : Int) (I5 : IMem) : Res :=
          if x6 = (-1) then (
            zb (f_X_finds fu 0 0 I5) fun y26 I27 =>
            xB7 fu k_39 R_ y26 I27)
          else (
            xB7 fu k_39 R_ x6 I5)
theorem fills_eq (fu : Nat) (k_39 R_ : IMem → Res) (J : IMem) : fb_X_fills_4 fu k_39 0 R_ J = if 0 < J 1 5 then (zb (f_X_finds fu 0 1 J) fun y29 I30 => xB4 fu k_39 R_ y29 I30) else xB4 fu k_39 R_ (-1) J := by
  unfold fb_X_fills_4 xB4 xB7
  simp only [zl_e, zj_e, Nat.zero_add]
def FIV (oc hb kl : Nat) (law : List LRec) (n : Nat) (I J : IMem) : Prop :=
  (HS hb 1 I J ∧ HY hb 1 I J ∧ HP hb 1 I J ∧ HL hb 1 I J ∧ HW hb 1 I J) ∧ FRl oc I J ∧ LWX J kl law ∧ LC (hb + 15 + 5 * kl) kl law I ∧
  (n ≤ 144 ∧ I oc 5 = n ∧ SLI (I (oc + 5)) (I (hb + 8)) (I (hb + 9)) (-1) 240 n) ∧ (∀ k, INL J k → 1 ≤ J 1 (141 + 6 * k) ∧ J 1 (141 + 6 * k) ≤ 8) ∧
  (∀ k, k < 240 → I (oc + 1) k ≠ 3) ∧ (inr (J 1 5) ∧ PTS J) ∧
  J 0 31 + J 0 32 = cnt (fun i => I (oc + 1) (I (oc + 5) i).toNat) n
section
variable {fu oc hb kl n : Nat} {law : List LRec} {I J : IMem}
theorem sn_iff (h : FIV oc hb kl law n I J) {k : Nat} (hk : k < 240) : SN (I (hb + 8)) (I (hb + 9)) (-1) k ↔ (((k % 40 : Nat) : Int) < J 1 (130 + k / 40) ∧ ((k % 40 : Nat) : Int) < J 1 (10 + k / 40)) := by
  obtain ⟨⟨hS, _, _, hL, _⟩, _⟩ := h
  unfold SN
  rw [(hl_c hL (by omega)).1, hS.2.2.2.1 (k / 40) (by omega), if_neg (by omega)]
  constructor
  · rintro ⟨a, b⟩; exact ⟨a, by omega⟩
  · rintro ⟨a, b⟩; exact ⟨a, by omega⟩
theorem ef_sn (h : FIV oc hb kl law n I J) : ∀ k, k < 240 → eF J k = true → SN (I (hb + 8)) (I (hb + 9)) (-1) k := by
  intro k hk he
  unfold eF at he
  rw [decide_eq_true_iff] at he
  exact (sn_iff h hk).mpr ⟨he.1, he.2.1⟩
theorem row_eq (h : FIV oc hb kl law n I J) {k f : Nat} (hk : INL J k) (hf : f < 6) : I (hb + 7) (6 * k + f) = J 1 (140 + 6 * k + f) := by
  obtain ⟨⟨_, _, _, hL, _⟩, _⟩ := h
  have := hl_r hL (l := k / 40) (p := k % 40) (f := f) (by have := hk.1; omega) hk.2 hf
  rw [show 40 * (k / 40) + k % 40 = k by omega] at this
  exact this
theorem fit_iff (h : FIV oc hb kl law n I J) : ∀ k, k < 240 → SN (I (hb + 8)) (I (hb + 9)) (-1) k → (eF J k = true ↔ (I (oc + 1) k = 0 ∧ I oc 10 = 0 ∧ I (hb + 7) (6 * k + 2) ≤ I oc 7 ∧ (I (hb + 7) (6 * k + 3) = 1 → I oc 11 ≠ 0) ∧ (I (hb + 7) (6 * k + 3) = 2 → I oc 8 = 0))) := by
  intro k hk hs
  have s := (sn_iff h hk).mp hs
  have hin : INL J k := ⟨hk, s.1⟩
  have r2 := row_eq h hin (f := 2) (by decide)
  have r3 := row_eq h hin (f := 3) (by decide)
  obtain ⟨_, hF, _⟩ := h
  obtain ⟨⟨a1, a2, a3⟩, _, ⟨c, _⟩, ⟨d, _⟩, e, _⟩ := hF
  have mk := e k hk
  unfold eF
  rw [decide_eq_true_iff, r2, r3, a1, a2]
  unfold MKR at mk
  constructor
  · rintro ⟨_, _, x3, x4, x5, x6, x7, x8⟩
    exact ⟨by omega, by omega, x5, fun z => by have := x7 z; omega, x8⟩
  · rintro ⟨x1, x2, x3, x4, x5⟩
    exact ⟨s.1, s.2, by omega, by omega, x3, by omega, fun z => by have := x4 z; omega, x5⟩
/-- the other parts of the state, while the chair is filled -/
theorem hr_fill {I' J' : IMem} (h : HS hb 1 I J ∧ HY hb 1 I J ∧ HP hb 1 I J ∧ HL hb 1 I J ∧ HW hb 1 I J) (hkl : kl < 5) (h1 : ∀ q j, hb ≤ q → q < hb + 40 → q ≠ hb + 13 → q ≠ hb + 15 + 5 * kl + 4 → q ≠ hb + 10 → I' q j = I q j) (h10 : ∀ j, j ≠ 5 → I' (hb + 10) j = I (hb + 10) j) (h2 : ∀ j, j ≠ 75 → J' 1 j = J 1 j) (h5 : I' (hb + 10) 5 = J' 1 75) : HS hb 1 I' J' ∧ HY hb 1 I' J' ∧ HP hb 1 I' J' ∧ HL hb 1 I' J' ∧ HW hb 1 I' J' := by
  obtain ⟨hS, hY, hP, hL, hW⟩ := h
  refine ⟨hs_mv hS (fun d j q => h1 _ _ (by omega) (by omega) (by omega) (by omega) (by omega)) (fun j q => h2 j (by omega)), ⟨fun k hk => ?_, fun s h3 h4 => ⟨?_, ?_, ?_⟩⟩, hp_mv hP (fun j => ⟨h1 _ _ (by omega) (by omega) (by omega) (by omega) (by omega), h1 _ _ (by omega) (by omega) (by omega) (by omega) (by omega)⟩) (fun j q => h2 j (by omega)), hl_mv hL (fun j => ⟨h1 _ _ (by omega) (by omega) (by omega) (by omega) (by omega), h1 _ _ (by omega) (by omega) (by omega) (by omega) (by omega)⟩) (fun j _ _ => h2 j (by omega)), hw_mv hW (fun d j a b c => h1 _ _ (by omega) (by omega) (by omega) (by omega) (by omega)) (fun j _ _ => h2 j (by omega))⟩
  · by_cases q : k = 5
    · subst q; exact h5
    · rw [h10 _ q, h2 _ (by omega)]; exact hY.1 k hk
  · rw [h10 _ (by omega), h2 _ (by omega)]; exact (hY.2 s h3 h4).1
  · rw [h10 _ (by omega), h2 _ (by omega)]; exact (hY.2 s h3 h4).2.1
  · rw [h10 _ (by omega), h2 _ (by omega)]; exact (hY.2 s h3 h4).2.2
/-- the searches change nothing that counts -/
theorem fiv_same {I' J' : IMem} (h : FIV oc hb kl law n I J) (hd : hb + 40 ≤ oc) (hkl : kl < 4) (h1 : ∀ q j, q ≠ hb + 13 → q ≠ hb + 15 + 5 * kl + 4 → q ≠ oc + 6 → I' q j = I q j) (h2 : ∀ q j, q ≠ 7 → q ≠ 8 → J' q j = J q j) : FIV oc hb kl law n I' J' := by
  obtain ⟨hr, hF, hX, hC, ⟨n1, n2, n3⟩, hz, h3, hb5, hc⟩ := h
  have e5 : I' (oc + 5) = I (oc + 5) := funext (fun j => h1 _ _ (by omega) (by omega) (by omega))
  have e8 : I' (hb + 8) = I (hb + 8) := funext (fun j => h1 _ _ (by omega) (by omega) (by omega))
  have e9 : I' (hb + 9) = I (hb + 9) := funext (fun j => h1 _ _ (by omega) (by omega) (by omega))
  have e1 : I' (oc + 1) = I (oc + 1) := funext (fun j => h1 _ _ (by omega) (by omega) (by omega))
  refine ⟨hr_fill (kl := kl) hr (by omega) (fun q j _ _ a b _ => h1 q j a b (by omega)) (fun j _ => h1 _ _ (by omega) (by omega) (by omega)) (fun j _ => h2 _ _ (by decide) (by decide)) ?_, frl_fr hF (fun q j a => h1 _ _ (by omega) (by omega) (by omega)) (fun q j a => h2 _ _ (by omega) (by omega)), lwx_same hX (fun j _ => h2 _ _ (by decide) (by decide)), lc_mv hC (fun d j a => h1 _ _ (by omega) (by omega) (by omega)), ⟨n1, ?_, ?_⟩, fun k hk => ?_, fun k hk => ?_, ?_, ?_⟩
  · rw [h1 _ _ (by omega) (by omega) (by omega), h2 _ _ (by decide) (by decide)]; exact hr.2.1.1 5 (by decide)
  · rw [h1 _ _ (by omega) (by omega) (by omega)]; exact n2
  · rw [e5, e8, e9]; exact n3
  · rw [h2 1 _ (by decide) (by decide)]
    exact hz k ⟨hk.1, by have := hk.2; rw [h2 1 _ (by decide) (by decide)] at this; exact this⟩
  · rw [e1]; exact h3 k hk
  · exact ⟨by rw [h2 1 _ (by decide) (by decide)]; exact hb5.1, pts_mv hb5.2 (fun j _ _ => h2 _ _ (by decide) (by decide))⟩
  · rw [h2 0 _ (by decide) (by decide), h2 0 _ (by decide) (by decide), e1, e5]; exact hc
/-- the class's worths are those that the reference would reckon -/
def WOK (oc kl : Nat) (law : List LRec) (n : Nat) (I J : IMem) : Prop := ∀ i k, i < n → I (oc + 5) i = ((k : Nat) : Int) → eF J k = true → I (oc + 6) i = vF J false kl law k
theorem cnt_seen (h : FIV oc hb kl law n I J) {k : Nat} (hk : k < 240) (hs : SN (I (hb + 8)) (I (hb + 9)) (-1) k) (hm : I (oc + 1) k = 0) {f : Nat → Int} (hf : ∀ j, f j = if j = k then f k else I (oc + 1) j) (hne : f k ≠ 0) : cnt (fun i => f (I (oc + 5) i).toNat) n = cnt (fun i => I (oc + 1) (I (oc + 5) i).toNat) n + 1 ∧ cnt (fun i => I (oc + 1) (I (oc + 5) i).toNat) n + 1 ≤ n := by
  obtain ⟨_, _, _, _, ⟨n1, n2, n3⟩, _⟩ := h
  obtain ⟨i, hi, e⟩ := n3.2.2 k hk hs
  have h0 : (fun i => I (oc + 1) (I (oc + 5) i).toNat) i = 0 := by
    show I (oc + 1) (I (oc + 5) i).toNat = 0
    rw [e]; exact hm
  have h1 : (fun i => f (I (oc + 5) i).toNat) i ≠ 0 := by
    show f (I (oc + 5) i).toNat ≠ 0
    rw [e]; exact hne
  refine ⟨?_, cnt_lt (f := fun i => I (oc + 1) (I (oc + 5) i).toNat) (i := i) h0 n hi⟩
  have key : ∀ m : Nat, m ≤ n → cnt (fun i => f (I (oc + 5) i).toNat) m = cnt (fun i => I (oc + 1) (I (oc + 5) i).toNat) m + (if i < m then 1 else 0) := by
    intro m
    induction m with
    | zero => intro _; rfl
    | succ m ih =>
      intro hm'
      have ihm := ih (by omega)
      show cnt (fun i => f (I (oc + 5) i).toNat) m + (if f (I (oc + 5) m).toNat = 0 then 0 else 1) = cnt (fun i => I (oc + 1) (I (oc + 5) i).toNat) m + (if I (oc + 1) (I (oc + 5) m).toNat = 0 then 0 else 1) + _
      rw [ihm]
      by_cases q : m = i
      · subst q
        have ek : (I (oc + 5) m).toNat = k := by rw [e]; rfl
        rw [ek, if_neg (by omega), if_neg hne, if_pos hm, if_pos (by omega)]
      · have hne2 : (I (oc + 5) m).toNat ≠ k := by
          obtain ⟨k2, q1, q2, _⟩ := n3.1 m (by omega)
          intro z
          rcases Nat.lt_or_ge m i with x | x
          · have := n3.2.1 m i x hi; omega
          · have := n3.2.1 i m (by omega) (by omega); omega
        rw [hf (I (oc + 5) m).toNat, if_neg hne2]
        have : (if i < m then (1 : Int) else 0) = if i < m + 1 then 1 else 0 := by
          by_cases w : i < m
          · rw [if_pos w, if_pos (by omega)]
          · rw [if_neg w, if_neg (by omega)]
        rw [this]
        omega
  have := key n (Nat.le_refl _)
  rw [if_pos hi] at this
  exact this
/-- a filling that sat one -/
theorem fiv_sit {I' J' : IMem} {k : Nat} (h : FIV oc hb kl law n I J) (hd : hb + 40 ≤ oc) (hkl : kl < 4) (he : eF J k = true) (hk : k < 240) (hz : J 1 (141 + 6 * k) ≤ J 0 30)
    (h1 : ∀ q j, I' q j = if q = oc ∧ j = 11 then (if I oc 11 = 0 then (if J 1 (140 + 6 * k + 3) = 1 then 0 else 1) else 1) else if q = oc ∧ j = 10 then (if I oc 10 = 0 then (if J 1 (140 + 6 * k + 3) = 2 then 1 else 0) else 1) else if q = oc ∧ j = 7 then wr32 (I oc 7 - J 1 (141 + 6 * k)) else if q = oc ∧ j = 8 then I oc 8 + 1 else if q = oc + 3 ∧ j = (I oc 8).toNat then J 1 (141 + 6 * k) else if q = oc + 2 ∧ j = (I oc 8).toNat then (k : Int) else if q = oc + 1 ∧ j = k then 1 else I q j)
    (h2 : ∀ q j, J' q j = if q = 0 ∧ j = 34 then wr32 (J 0 34 + (if J 1 (140 + 6 * k + 3) = 1 then 0 else 1)) else if q = 0 ∧ j = 33 then wr32 (J 0 33 + (if J 1 (140 + 6 * k + 3) = 2 then 1 else 0)) else if q = 0 ∧ j = 30 then wr32 (J 0 30 - J 1 (141 + 6 * k)) else if q = 0 ∧ j = 31 then J 0 31 + 1 else if q = 11 ∧ j = (J 0 31).toNat then (k : Int) else if q = 9 ∧ j = k then J 1 (141 + 6 * k) else J q j) : FIV oc hb kl law n I' J' := by
  have hs := ef_sn h k hk he
  have s := (sn_iff h hk).mp hs
  have hin : INL J k := ⟨hk, s.1⟩
  have hm := ((fit_iff h k hk hs).mp he).1
  have hcs := @cnt_seen oc hb kl n law I J h k hk hs hm
  obtain ⟨hr, hF, hX, hC, ⟨n1, n2, n3⟩, hzz, h3, hb5, hc⟩ := h
  have z1 := hzz k hin
  have fo : ∀ q j, q < oc → I' q j = I q j := fun q j hq => by rw [h1, if_neg (by omega), if_neg (by omega), if_neg (by omega), if_neg (by omega), if_neg (by omega), if_neg (by omega), if_neg (by omega)]
  have f5 : ∀ j, I' (oc + 5) j = I (oc + 5) j := fun j => by rw [h1, if_neg (by omega), if_neg (by omega), if_neg (by omega), if_neg (by omega), if_neg (by omega), if_neg (by omega), if_neg (by omega)]
  have jw : ∀ j, J' 1 j = J 1 j := fun j => by rw [h2, if_neg (by omega), if_neg (by omega), if_neg (by omega), if_neg (by omega), if_neg (by omega), if_neg (by omega)]
  have i1 : ∀ j, I' (oc + 1) j = if j = k then 1 else I (oc + 1) j := by
    intro j
    rw [h1, if_neg (by omega), if_neg (by omega), if_neg (by omega), if_neg (by omega), if_neg (by omega), if_neg (by omega)]
    by_cases q : j = k
    · rw [if_pos ⟨rfl, q⟩, if_pos q]
    · rw [if_neg (fun z => q z.2), if_neg q]
  refine ⟨hr_fill (kl := kl) hr (by omega) (fun q j _ a _ _ _ => fo q j (by omega)) (fun j _ => fo _ _ (by omega)) (fun j _ => jw j) ?_, ?_, lwx_same hX (fun j _ => jw j), lc_mv hC (fun d j a => fo _ _ (by omega)), ⟨n1, ?_, ?_⟩, fun k2 hk2 => ?_, fun k2 hk2 => ?_, ⟨by rw [jw]; exact hb5.1, pts_mv hb5.2 (fun j _ _ => jw j)⟩, ?_⟩
  · rw [fo _ _ (by omega), jw]; exact hr.2.1.1 5 (by decide)
  · exact frl_sit (size := J 1 (141 + 6 * k)) (sort := J 1 (140 + 6 * k + 3)) (mark := 1) hF hin hm ⟨z1.1, hz⟩ rfl (Or.inl ⟨rfl, rfl⟩) (fun q j _ => h1 q j) (fun q j _ _ => h2 q j)
  · rw [h1, if_neg (by omega), if_neg (by omega), if_neg (by omega), if_neg (by omega), if_neg (by omega), if_neg (by omega), if_neg (by omega)]; exact n2
  · rw [show I' (oc + 5) = I (oc + 5) from funext f5, show I' (hb + 8) = I (hb + 8) from funext (fun j => fo _ _ (by omega)), show I' (hb + 9) = I (hb + 9) from funext (fun j => fo _ _ (by omega))]; exact n3
  · rw [jw]; exact hzz k2 ⟨hk2.1, by have := hk2.2; rw [jw] at this; exact this⟩
  · rw [i1]
    split
    · decide
    · exact h3 k2 hk2
  · have j31 : J' 0 31 = J 0 31 + 1 := by rw [h2, if_neg (by omega), if_neg (by omega), if_neg (by omega), if_pos (by omega)]
    have j32 : J' 0 32 = J 0 32 := by rw [h2, if_neg (by omega), if_neg (by omega), if_neg (by omega), if_neg (by omega), if_neg (by omega), if_neg (by omega)]
    have g := (hcs (f := I' (oc + 1)) (fun j => by rw [i1 j, i1 k, if_pos rfl]) (by rw [i1, if_pos rfl]; decide)).1
    rw [j31, j32, show I' (oc + 5) = I (oc + 5) from funext f5, g]
    omega
theorem fiv_found {I' J' : IMem} {k : Nat} (h : FIV oc hb kl law n I J) (hd : hb + 40 ≤ oc) (hkl : kl < 4) (he : eF J k = true) (hk : k < 240)
    (h1 : ∀ q j, I' q j = if q = hb + 10 ∧ j = 5 then wr32 (I (hb + 10) 5 + 1) else if q = oc ∧ j = 9 then I oc 9 + 1 else if q = oc + 4 ∧ 6 * (I oc 9).toNat ≤ j ∧ j < 6 * (I oc 9).toNat + 6 then (if j - 6 * (I oc 9).toNat = 2 then I (hb + 7) (6 * k + 1) else I (hb + 7) (6 * k + (j - 6 * (I oc 9).toNat))) else if q = oc + 1 ∧ j = k then 2 else I q j)
    (h2 : ∀ q j, J' q j = if q = 1 ∧ j = 75 then wr32 (J 1 75 + 1) else if q = 0 ∧ j = 32 then J 0 32 + 1 else if q = 10 ∧ j = (J 0 32).toNat then (k : Int) else if q = 12 ∧ j = k then 1 else J q j) : FIV oc hb kl law n I' J' ∧ (∀ k2, k2 < 240 → eF J' k2 = true → k2 ≠ k ∧ eF J k2 = true) := by
  have hs := ef_sn h k hk he
  have s := (sn_iff h hk).mp hs
  have hin : INL J k := ⟨hk, s.1⟩
  have hm := ((fit_iff h k hk hs).mp he).1
  have hcs := @cnt_seen oc hb kl n law I J h k hk hs hm
  have hro : ∀ f, f < 6 → I (hb + 7) (6 * k + f) = J 1 (140 + 6 * k + f) := fun f hf => row_eq h hin hf
  obtain ⟨hr, hF, hX, hC, ⟨n1, n2, n3⟩, hzz, h3, hb5, hc⟩ := h
  have a9 := hF.1.2.2
  have b4 := hF.2.1
  have fo : ∀ q j, q < oc → ¬ (q = hb + 10 ∧ j = 5) → I' q j = I q j := fun q j hq h5 => by rw [h1, if_neg h5, if_neg (by omega), if_neg (by omega), if_neg (by omega)]
  have f5 : ∀ j, I' (oc + 5) j = I (oc + 5) j := fun j => by rw [h1, if_neg (by omega), if_neg (by omega), if_neg (by omega), if_neg (by omega)]
  have jw : ∀ j, j ≠ 75 → J' 1 j = J 1 j := fun j hj => by rw [h2, if_neg (by omega), if_neg (by omega), if_neg (by omega), if_neg (by omega)]
  have j0 : ∀ j, j ≠ 32 → J' 0 j = J 0 j := fun j hj => by rw [h2, if_neg (by omega), if_neg (by omega), if_neg (by omega), if_neg (by omega)]
  have j9 : ∀ j, J' 9 j = J 9 j := fun j => by rw [h2, if_neg (by omega), if_neg (by omega), if_neg (by omega), if_neg (by omega)]
  have j12 : ∀ j, J' 12 j = if j = k then 1 else J 12 j := by
    intro j
    rw [h2, if_neg (by omega), if_neg (by omega), if_neg (by omega)]
    by_cases q : j = k
    · rw [if_pos ⟨rfl, q⟩, if_pos q]
    · rw [if_neg (fun z => q z.2), if_neg q]
  have i1 : ∀ j, I' (oc + 1) j = if j = k then 2 else I (oc + 1) j := by
    intro j
    rw [h1, if_neg (by omega), if_neg (by omega), if_neg (by omega)]
    by_cases q : j = k
    · rw [if_pos ⟨rfl, q⟩, if_pos q]
    · rw [if_neg (fun z => q z.2), if_neg q]
  have g := hcs (f := I' (oc + 1)) (fun j => by rw [i1 j, i1 k, if_pos rfl]) (by rw [i1, if_pos rfl]; decide)
  refine ⟨⟨hr_fill (kl := kl) hr (by omega) (fun q j _ a _ _ b => fo q j (by omega) (by omega)) (fun j hj => fo _ _ (by omega) (by omega)) jw ?_, ?_, lwx_same hX (fun j hj => jw j (by omega)), lc_mv hC (fun d j a => fo _ _ (by omega) (by omega)), ⟨n1, ?_, ?_⟩, fun k2 hk2 => ?_, fun k2 hk2 => ?_, ⟨by rw [jw 5 (by decide)]; exact hb5.1, pts_mv hb5.2 (fun j a b => jw j (by omega))⟩, ?_⟩, fun k2 hk2 he2 => ?_⟩
  · rw [h1, if_pos ⟨rfl, rfl⟩, h2, if_pos ⟨rfl, rfl⟩, hr.2.1.1 5 (by decide)]
  · refine frl_found hF hin hm (by omega) (fun f hf => ?_) (fun q j a b => ?_) h2
    · rw [h1, if_neg (by omega), if_neg (by omega), a9, if_pos (by omega), show 6 * (J 0 32).toNat + f - 6 * (J 0 32).toNat = f by omega]
      split
      · exact hro 1 (by decide)
      · exact hro f hf
    · rw [h1, if_neg (by omega), a9]
      by_cases c : q = oc ∧ j = 9
      · rw [if_pos c, if_pos c]
      · rw [if_neg c, if_neg c, if_neg b]
  · rw [h1, if_neg (by omega), if_neg (by omega), if_neg (by omega), if_neg (by omega)]; exact n2
  · rw [show I' (oc + 5) = I (oc + 5) from funext f5, show I' (hb + 8) = I (hb + 8) from funext (fun j => fo _ _ (by omega) (by omega)), show I' (hb + 9) = I (hb + 9) from funext (fun j => fo _ _ (by omega) (by omega))]; exact n3
  · have kk := hk2.1
    rw [jw _ (by omega)]; exact hzz k2 ⟨hk2.1, by have := hk2.2; rw [jw _ (by omega)] at this; exact this⟩
  · rw [i1]
    split
    · decide
    · exact h3 k2 hk2
  · have j32 : J' 0 32 = J 0 32 + 1 := by rw [h2, if_neg (by omega), if_pos (by omega)]
    rw [j0 31 (by decide), j32, show I' (oc + 5) = I (oc + 5) from funext f5, g.1]
    omega
  · unfold eF at he2 ⊢
    rw [decide_eq_true_iff] at he2 ⊢
    obtain ⟨x1, x2, x3, x4, x5, x6, x7, x8⟩ := he2
    rw [j12] at x4
    have hne : k2 ≠ k := fun z => by rw [if_pos z] at x4; exact absurd x4 (by decide)
    rw [if_neg hne] at x4
    rw [jw _ (by omega)] at x1 x2 x5 x7 x8
    rw [j9] at x3
    rw [j0 _ (by decide)] at x5 x6 x7 x8
    exact ⟨hne, x1, x2, x3, x4, x5, x6, x7, x8⟩
end
