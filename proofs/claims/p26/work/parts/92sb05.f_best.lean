/-! BEST filling: who is in it; both sides -/
theorem par_zbw {Q : Int → IMem → Prop} {I : IMem} {o j : Nat} {v : Int} {k : IMem → Res} {k2 : Int → IMem → Res} (h : ∀ I1 : IMem, (∀ p i, I1 p i = if p = o ∧ i = j then v else I p i) → par (zb (k I1) k2) Q) : par (zb (zw I o j v k) k2) Q := h _ (fun _ _ => rfl)
/-- those in it, from the i-th on -/
def chL (z s : Nat → Int) : Nat → Nat → Int → Int → List Nat
  | 0, _, _, _ => []
  | d + 1, i, t, x => if wB z s d i t x ≠ -1 ∧ wB z s d i t x = mB z s (d + 1) i t x then i :: chL z s d (i + 1) (tw (s i) t) (x - z i) else chL z s d (i + 1) t x
theorem chL_len {z s : Nat → Int} : ∀ (d i : Nat) (t x : Int), (∀ j, i ≤ j → j < i + d → 1 ≤ z j) → 0 ≤ x → ((chL z s d i t x).length : Int) ≤ x := by
  intro d
  induction d with
  | zero => intro i t x _ hx; exact hx
  | succ d ih =>
    intro i t x hz hx
    have hz' : ∀ j, i + 1 ≤ j → j < i + 1 + d → 1 ≤ z j := fun j h1 h2 => hz j (by omega) (by omega)
    show ((if wB z s d i t x ≠ -1 ∧ wB z s d i t x = mB z s (d + 1) i t x then i :: chL z s d (i + 1) (tw (s i) t) (x - z i) else chL z s d (i + 1) t x).length : Int) ≤ x
    by_cases h : wB z s d i t x ≠ -1 ∧ wB z s d i t x = mB z s (d + 1) i t x
    · rw [if_pos h]
      have h1 : ¬ x < z i := fun q => h.1 (by unfold wB; rw [if_pos q])
      have := ih (i + 1) (tw (s i) t) (x - z i) hz' (by omega)
      have z1 := hz i (Nat.le_refl _) (by omega)
      rw [List.length_cons]
      omega
    · rw [if_neg h]
      exact ih (i + 1) t x hz' hx
def fKq (v : Int) : Int := wr32 (wr32 (100 * (wdiv v 40)) + wrem v 40)
/-- what best answers, c of them being told before -/
def RESq (a : Nat → Int) (p1 : Int) (c : Nat) (L : List Nat) : Int := if 10 + (c : Int) ≤ p1 ∧ p1 < 10 + (c : Int) + (L.length : Int) then fKq (a (L.getD (p1 - 10 - (c : Int)).toNat 0)) else if p1 = 1 then ((c + L.length : Nat) : Int) else -1
theorem res_nil (a : Nat → Int) (p1 : Int) (c : Nat) : RESq a p1 c [] = if p1 = 1 then (c : Int) else -1 := by
  unfold RESq
  rw [if_neg (by show ¬ (10 + (c : Int) ≤ p1 ∧ p1 < 10 + (c : Int) + ((0 : Nat) : Int)); omega)]
  rfl
theorem res_at (a : Nat → Int) (c i : Nat) (L : List Nat) : RESq a (10 + (c : Int)) c (i :: L) = fKq (a i) := by
  unfold RESq
  rw [List.length_cons, if_pos (by omega), show (10 + (c : Int) - 10 - (c : Int)).toNat = 0 by omega]
  rfl
theorem res_on (a : Nat → Int) (p1 : Int) (c i : Nat) (L : List Nat) (h : p1 ≠ 10 + (c : Int)) : RESq a p1 c (i :: L) = RESq a p1 (c + 1) L := by
  unfold RESq
  rw [List.length_cons]
  by_cases h1 : 10 + ((c + 1 : Nat) : Int) ≤ p1 ∧ p1 < 10 + ((c + 1 : Nat) : Int) + (L.length : Int)
  · rw [if_pos h1, if_pos (by omega)]
    obtain ⟨e, he⟩ : ∃ e : Nat, p1 - 10 - ((c + 1 : Nat) : Int) = (e : Int) := ⟨(p1 - 10 - ((c + 1 : Nat) : Int)).toNat, by omega⟩
    rw [show (p1 - 10 - (c : Int)).toNat = e + 1 by omega, show (p1 - 10 - ((c + 1 : Nat) : Int)).toNat = e by omega]
    rfl
  · rw [if_neg h1, if_neg (by omega)]
    by_cases h2 : p1 = 1
    · rw [if_pos h2, if_pos h2]; omega
    · rw [if_neg h2, if_neg h2]
section
variable {fu : Nat} {Q : Int → IMem → Prop} {I J : IMem}
/-- the class's choice -/
theorem cc_12 (z s : Nat → Int) {n : Nat} (I0 : IMem) (hG : GRc z s n I0) (hT : TBc z s n 0 I0) : ∀ (m i t x c : Nat) (I : IMem), i ≤ n → t < 3 → x + c ≤ 8 → I 154 6 = (c : Int) → (∀ q j, q ≠ 159 → ¬ (q = 154 ∧ j = 6) → I q j = I0 q j) → par (f_F_choose_12 fu 154 m (t : Int) (x : Int) (i : Int) I) (fun _ I' => I' 154 6 = ((c + (chL z s (n - i) i (t : Int) (x : Int)).length : Nat) : Int) ∧ (∀ j, j < (chL z s (n - i) i (t : Int) (x : Int)).length → I' 159 (c + j) = I0 155 ((chL z s (n - i) i (t : Int) (x : Int)).getD j 0)) ∧ (∀ j, j < c → I' 159 j = I 159 j) ∧ ∀ q j, q ≠ 159 → ¬ (q = 154 ∧ j = 6) → I' q j = I0 q j) := by
  intro m
  induction m with
  | zero => intro _ _ _ _ _ _ _ _ _ _; exact par_none
  | succ m ih =>
    intro i t x c I hi ht hx hc hf
    have hn := hG.1
    have h3 : I 154 3 = (n : Int) := (hf 154 3 (by decide) (by omega)).trans hG.2.1
    show par (fb_F_choose_12 fu 154 (f_F_choose_12 fu 154 m) (t : Int) (x : Int) (i : Int) I) _
    unfold fb_F_choose_12
    rw [h3, hc]
    by_cases hin : i < n
    · rw [if_pos (show (i : Int) < (n : Int) by omega), if_pos (show (i : Int) < 144 by omega)]
      have en : n - i = n - (i + 1) + 1 := by omega
      have hz : ∀ j, i ≤ j → j < i + (n - i) → 1 ≤ z j := fun j h1 h2 => (hG.2.2 j (by omega)).2.2.1
      have hlen := chL_len (z := z) (s := s) (n - i) i (t : Int) (x : Int) hz (by omega)
      by_cases c8 : c < 8
      · rw [if_pos (show (c : Int) < 8 by omega)]
        have hG' : GRc z s n I := ⟨hn, h3, fun j hj => ⟨(hf _ _ (by decide) (by omega)).trans (hG.2.2 j hj).1, (hf _ _ (by decide) (by omega)).trans (hG.2.2 j hj).2.1, (hG.2.2 j hj).2.2⟩⟩
        have hT' : ∀ K, TBc z s n K I := fun K i2 t2 x2 _ h2 h4 h5 => (hf _ _ (by decide) (by omega)).trans (hT i2 t2 x2 (Nat.zero_le _) h2 h4 h5)
        have w1 : Wq (wr32 ((i : Int) + 1)) (((i + 1 : Nat) : Int)) := by show wr32 ((i : Int) + 1) = ((i + 1 : Nat) : Int); rw [wr32_i2 (by omega) (by omega)]; rfl
        rw [ev_mw z s hG' hin ht (by omega) (hT' (i + 1)), zb_zr]
        simp only [zl_e, zj_e]
        rw [w1.e]
        have skip : chL z s (n - i) i (t : Int) (x : Int) = chL z s (n - (i + 1)) (i + 1) (t : Int) (x : Int) → par (f_F_choose_12 fu 154 m (t : Int) (x : Int) ((i + 1 : Nat) : Int) I) (fun _ I' => I' 154 6 = ((c + (chL z s (n - i) i (t : Int) (x : Int)).length : Nat) : Int) ∧ (∀ j, j < (chL z s (n - i) i (t : Int) (x : Int)).length → I' 159 (c + j) = I0 155 ((chL z s (n - i) i (t : Int) (x : Int)).getD j 0)) ∧ (∀ j, j < c → I' 159 j = I 159 j) ∧ ∀ q j, q ≠ 159 → ¬ (q = 154 ∧ j = 6) → I' q j = I0 q j) := by
          intro e
          rw [e]
          exact ih (i + 1) t x c I (by omega) ht hx hc hf
        have open1 : chL z s (n - i) i (t : Int) (x : Int) = if wB z s (n - (i + 1)) i (t : Int) (x : Int) ≠ -1 ∧ wB z s (n - (i + 1)) i (t : Int) (x : Int) = mB z s (n - i) i (t : Int) (x : Int) then i :: chL z s (n - (i + 1)) (i + 1) (tw (s i) (t : Int)) ((x : Int) - z i) else chL z s (n - (i + 1)) (i + 1) (t : Int) (x : Int) := by
          rw [en]; rfl
        by_cases h1 : wB z s (n - (i + 1)) i (t : Int) (x : Int) = -1
        · rw [if_pos h1]
          exact skip (open1.trans (if_neg (fun q => q.1 h1)))
        · rw [if_neg h1, ev_fat i t x I (by omega) ht (by omega), zb_zr]
          refine par_zg (fun _ => ?_)
          have e := hT' 0 i t x (Nat.zero_le _) hi ht (by omega)
          have e' : I (154 + 4) ((27 * i + 9 * t + x : Nat) : Int).toNat = mB z s (n - i) i (t : Int) (x : Int) := e
          rw [e']
          by_cases h2 : wB z s (n - (i + 1)) i (t : Int) (x : Int) = mB z s (n - i) i (t : Int) (x : Int)
          · rw [if_pos h2]
            have op := open1.trans (if_pos ⟨h1, h2⟩)
            rw [op]
            have zx : z i ≤ (x : Int) := by
              rcases Int.lt_or_le (x : Int) (z i) with q | q
              · exact absurd (show wB z s (n - (i + 1)) i (t : Int) (x : Int) = -1 by unfold wB; rw [if_pos q]) h1
              · exact q
            obtain ⟨g1, g2, g3, g4⟩ := hG.2.2 i hin
            have tr := tw_rng (s := s i) (t := (t : Int)) ⟨by omega, by omega⟩
            obtain ⟨t2, ht2⟩ : ∃ t2 : Nat, tw (s i) (t : Int) = (t2 : Int) := ⟨(tw (s i) (t : Int)).toNat, by omega⟩
            obtain ⟨x2, hx2⟩ : ∃ x2 : Nat, (x : Int) - z i = (x2 : Int) := ⟨((x : Int) - z i).toNat, by omega⟩
            rw [ht2, hx2]
            have ct : (I 154 6).toNat = c := by rw [hc]; rfl
            rw [ct]
            refine par_zg (fun _ => par_zg (fun _ => par_zw' (fun I1 e1 => par_zw' (fun I2 e2 => ?_))))
            have sp : I (154 + 1) (i : Int).toNat = I0 155 i := hf 155 i (by decide) (by omega)
            rw [sp] at e1
            have c1 : I1 154 6 = (c : Int) := by rw [e1, if_neg (by omega)]; exact hc
            rw [c1, wr32_i2 (x := (c : Int) + 1) (by omega) (by omega)] at e2
            have f2 : ∀ q j, q ≠ 159 → ¬ (q = 154 ∧ j = 6) → I2 q j = I0 q j := fun q j a b => by rw [e2, if_neg b, e1, if_neg (by omega)]; exact hf q j a b
            have hG2 : GRc z s n I2 := ⟨hn, (f2 _ _ (by decide) (by omega)).trans hG.2.1, fun j hj => ⟨(f2 _ _ (by decide) (by omega)).trans (hG.2.2 j hj).1, (f2 _ _ (by decide) (by omega)).trans (hG.2.2 j hj).2.1, (hG.2.2 j hj).2.2⟩⟩
            rw [ev_there z s (t : Int) hG2 hin, zb_zr, ht2]
            refine par_zg (fun _ => ?_)
            have ez : I2 (154 + 2) (i : Int).toNat = z i := (hG2.2.2 i hin).1
            have w2 : Wq (wr32 ((x : Int) - z i)) ((x2 : Int)) := by show wr32 ((x : Int) - z i) = (x2 : Int); rw [wr32_i2 (by omega) (by omega)]; exact hx2
            rw [ez, w2.e]
            refine par_mono (ih (i + 1) t2 x2 (c + 1) I2 (by omega) (by omega) (by omega) ?_ f2) (fun _ I' ⟨k1, k2, k3, k4⟩ => ⟨?_, fun j hj => ?_, fun j hj => ?_, k4⟩)
            · rw [e2, if_pos ⟨rfl, rfl⟩]; rfl
            · rw [k1, List.length_cons]
              omega
            · rw [List.length_cons] at hj
              cases j with
              | zero =>
                rw [show c + 0 = c by omega, k3 c (by omega), e2, if_neg (by omega), e1, if_pos ⟨rfl, rfl⟩]
                rfl
              | succ j =>
                rw [show c + (j + 1) = c + 1 + j by omega, k2 j (by omega)]
                rfl
            · rw [k3 j (by omega), e2, if_neg (by omega), e1, if_neg (by omega)]
          · rw [if_neg h2]
            exact skip (open1.trans (if_neg (fun q => h2 q.2)))
      · rw [if_neg (show ¬ (c : Int) < 8 by omega)]
        have l0 : (chL z s (n - i) i (t : Int) (x : Int)).length = 0 := by omega
        refine par_zr ⟨?_, fun j hj => ?_, fun _ _ => rfl, hf⟩
        · rw [l0]; exact hc
        · rw [l0] at hj; exact absurd hj (Nat.not_lt_zero _)
    · rw [if_neg (show ¬ (i : Int) < (n : Int) by omega)]
      have e0 : n - i = 0 := by omega
      rw [e0]
      exact par_zr ⟨hc, fun j hj => absurd hj (Nat.not_lt_zero _), fun _ _ => rfl, hf⟩
/-- the reference's choice -/
theorem xc_35 (z s : Nat → Int) {n : Nat} (J0 : IMem) (hG : GRx z s n J0) (hT : TBx z s n 0 J0) (p1 : Int) : ∀ (m i x w c : Nat), i ≤ n → x < 9 → w < 4 → c ≤ i → par (f_X_best_35 fu (fun (x24 : Int) (I23 : IMem) => zg (0 ≤ x24 ∧ x24 < 150) (zg (0 ≤ x24 ∧ x24 < 150) (zr (wr32 ((wr32 (100 * (wdiv (I23 (0 + 16) x24.toNat) 40))) + (wrem (I23 (0 + 16) x24.toNat) 40))) I23))) (fun (x26 : Int) (I25 : IMem) => if p1 = 1 then (zr x26 I25) else (zr ((-1)) I25)) 0 p1 m (x : Int) (w : Int) (c : Int) (i : Int) J0) (fun v _ => v = RESq (J0 16) p1 c (chL z s (n - i) i (cwh w) (x : Int))) := by
  intro m
  induction m with
  | zero => intro _ _ _ _ _ _ _ _; exact par_none
  | succ m ih =>
    intro i x w c hi hx hw hci
    have hn := hG.1
    show par (fb_X_best_35 fu _ _ 0 p1 (f_X_best_35 fu _ _ 0 p1 m) (x : Int) (w : Int) (c : Int) (i : Int) J0) _
    unfold fb_X_best_35
    rw [hG.2.1]
    by_cases hin : i < n
    · rw [if_pos (show (i : Int) < (n : Int) by omega)]
      have en : n - i = n - (i + 1) + 1 := by omega
      have w1 : Wq (wr32 ((i : Int) + 1)) (((i + 1 : Nat) : Int)) := by show wr32 ((i : Int) + 1) = ((i + 1 : Nat) : Int); rw [wr32_i2 (by omega) (by omega)]; rfl
      have hT' : TBx z s n (i + 1) J0 := fun i2 x2 w2 _ h2 h4 h5 => hT i2 x2 w2 (Nat.zero_le _) h2 h4 h5
      obtain ⟨v, ev, v1, v2⟩ := ev_tk (fu := fu) z s hG hin hx hw hT'
      rw [ev, zb_zr]
      simp only [zl_e, zj_e]
      rw [w1.e]
      have open1 : chL z s (n - i) i (cwh w) (x : Int) = if wB z s (n - (i + 1)) i (cwh w) (x : Int) ≠ -1 ∧ wB z s (n - (i + 1)) i (cwh w) (x : Int) = mB z s (n - i) i (cwh w) (x : Int) then i :: chL z s (n - (i + 1)) (i + 1) (tw (s i) (cwh w)) ((x : Int) - z i) else chL z s (n - (i + 1)) (i + 1) (cwh w) (x : Int) := by
        rw [en]; rfl
      obtain ⟨r1, r2⟩ := hT i x w (Nat.zero_le _) hi hx hw
      have big : wB z s (n - (i + 1)) i (cwh w) (x : Int) ≤ mB z s (n - i) i (cwh w) (x : Int) := by
        rw [en, mB_s]
        split <;> omega
      unfold XVq at v1 r1
      unfold cut at v2 r2
      by_cases h1 : v < 0
      · rw [if_pos h1]
        rw [if_pos h1] at v2
        rw [open1, if_neg (fun q => q.1 v2.symm)]
        exact ih (i + 1) x w c (by omega) hx hw (by omega)
      · rw [if_neg h1, ev_spot i x w J0 (by omega) hx hw, zb_zr]
        rw [if_neg h1] at v2
        refine par_zg (fun _ => ?_)
        have e5 : J0 (0 + 17) ((36 * i + 4 * x + w : Nat) : Int).toNat = J0 17 (36 * i + 4 * x + w) := rfl
        rw [e5]
        generalize J0 17 (36 * i + 4 * x + w) = u at r1 r2 ⊢
        have r2' : u = mB z s (n - i) i (cwh w) (x : Int) := by
          by_cases u0 : u < 0
          · rw [if_pos u0] at r2; omega
          · rw [if_neg u0] at r2; exact r2
        by_cases h2 : v < u
        · rw [if_pos h2, open1, if_neg (fun q => by have := q.2; omega)]
          exact ih (i + 1) x w c (by omega) hx hw (by omega)
        · have w2 : Wq (wr32 (10 + (c : Int))) (10 + (c : Int)) := wr32_i2 (by omega) (by omega)
          have w3 : Wq (wr32 ((c : Int) + 1)) (((c + 1 : Nat) : Int)) := by show wr32 ((c : Int) + 1) = ((c + 1 : Nat) : Int); rw [wr32_i2 (by omega) (by omega)]; rfl
          rw [if_neg h2, w2.e, w3.e, open1, if_pos (c := _ ∧ _) ⟨by omega, by omega⟩]
          by_cases h3 : p1 = 10 + (c : Int)
          · rw [if_pos h3, h3, res_at]
            exact par_zg (fun _ => par_zg (fun _ => par_zr rfl))
          · rw [if_neg h3, res_on _ _ _ _ _ h3]
            obtain ⟨k, k1, k2, k3, k4, k5, k6⟩ := hG.2.2 i hin
            have ek : J0 (0 + 16) (i : Int).toNat = (k : Int) := k2
            have zx : z i ≤ (x : Int) := by
              rcases Int.lt_or_le (x : Int) (z i) with q | q
              · exact absurd (show wB z s (n - (i + 1)) i (cwh w) (x : Int) = -1 by unfold wB; rw [if_pos q]) (by omega)
              · exact q
            obtain ⟨x2, hx2⟩ : ∃ x2 : Nat, (x : Int) - z i = (x2 : Int) := ⟨((x : Int) - z i).toNat, by omega⟩
            have e1 : Wq (wr32 (6 * (k : Int))) (6 * (k : Int)) := wr32_i2 (by omega) (by omega)
            have e2 : Wq (wr32 (140 + 6 * (k : Int))) (140 + 6 * (k : Int)) := wr32_i2 (by omega) (by omega)
            have e3 : Wq (wr32 (140 + 6 * (k : Int) + 1)) (((140 + 6 * k + 1 : Nat) : Int)) := by show wr32 (140 + 6 * (k : Int) + 1) = ((140 + 6 * k + 1 : Nat) : Int); rw [wr32_i2 (by omega) (by omega)]; omega
            have e4 : J0 (0 + 1) ((140 + 6 * k + 1 : Nat) : Int).toNat = z i := k3
            have w5 : Wq (wr32 ((x : Int) - z i)) ((x2 : Int)) := by show wr32 ((x : Int) - z i) = (x2 : Int); rw [wr32_i2 (by omega) (by omega)]; exact hx2
            rw [ek]
            refine par_zg (fun _ => ?_)
            rw [ev_with k w J0 k1 hw, zb_zr, k4]
            refine par_zg (fun _ => ?_)
            rw [ek, e1.e, e2.e, e3.e]
            refine par_zg (fun _ => ?_)
            rw [e4, w5.e, ← cwh_wow, hx2]
            exact ih (i + 1) x2 (wow (s i) w) (c + 1) (by omega) (by omega) (wow_lt _ _) (by omega)
    · rw [if_neg (show ¬ (i : Int) < (n : Int) by omega)]
      have e0 : n - i = 0 := by omega
      rw [e0]
      show par _ (fun v _ => v = RESq (J0 16) p1 c [])
      rw [res_nil]
      by_cases h1 : p1 = 1
      · rw [if_pos h1]; show par (if p1 = 1 then zr (c : Int) J0 else zr (-1) J0) _; rw [if_pos h1]; exact par_zr rfl
      · rw [if_neg h1]; show par (if p1 = 1 then zr (c : Int) J0 else zr (-1) J0) _; rw [if_neg h1]; exact par_zr rfl
/-- the i-th of those that are so -/
def nB (P : Nat → Bool) : Nat → Nat → Nat
  | 0, _ => 0
  | K + 1, i => if P K = true ∧ cnB P K = i then K else nB P K i
theorem nB_at {P : Nat → Bool} : ∀ (K k : Nat), k < K → P k = true → nB P K (cnB P k) = k := by
  intro K
  induction K with
  | zero => intro k h _; exact absurd h (Nat.not_lt_zero _)
  | succ K ih =>
    intro k hk hp
    show (if P K = true ∧ cnB P K = cnB P k then K else nB P K (cnB P k)) = k
    by_cases y : k = K
    · rw [y, if_pos ⟨by rw [← y]; exact hp, rfl⟩]
    · have := cnB_lt (P := P) (show k < K by omega) hp
      rw [if_neg (fun q => by have := q.2; omega)]
      exact ih k (by omega) hp
/-- the groups of a row: their sizes, sorts -/
def zP (P : Nat → Bool) (sz : Nat → Int) (i : Nat) : Int := sz (nB P 240 i)
theorem zP_at {P : Nat → Bool} {sz : Nat → Int} {k : Nat} (hk : k < 240) (hp : P k = true) : zP P sz (cnB P k) = sz k := by
  unfold zP
  rw [nB_at 240 k hk hp]
/-- fillMost -/
theorem cf_most {P : Nat → Bool} {sz so : Nat → Int} {x : Nat} (lg : Int) (I : IMem) (hx : I 2 0 = (x : Int)) (x8 : x ≤ 8) (hc : ∀ l, l < 6 → 0 ≤ I 9 l ∧ I 9 l ≤ 40) (hs : ∀ l : Nat, l < 6 → 0 ≤ I 10 l + (if (l : Int) = lg then 1 else 0) ∧ I 10 l + (if (l : Int) = lg then 1 else 0) ≤ 24) (hP : ∀ k, k < 240 → (P k = true ↔ SN (I 9) (I 10) lg k ∧ I 8 (6 * k + 3) ≠ 2)) (hR : ∀ k, k < 240 → P k = true → I 8 (6 * k + 1) = sz k ∧ I 8 (6 * k + 3) = so k ∧ 1 ≤ sz k ∧ sz k ≤ 8) : par (f_F_fillMost fu 154 1 lg I) (fun v I' => v = mB (zP P sz) (zP P so) (cnB P 240) 0 0 (x : Int) ∧ cnB P 240 ≤ 144 ∧ LSB P (I' 155) (cnB P 240) 240 ∧ I' 154 6 = ((chL (zP P sz) (zP P so) (cnB P 240) 0 0 (x : Int)).length : Nat) ∧ (∀ j, j < (chL (zP P sz) (zP P so) (cnB P 240) 0 0 (x : Int)).length → I' 159 j = I' 155 ((chL (zP P sz) (zP P so) (cnB P 240) 0 0 (x : Int)).getD j 0)) ∧ (∀ j, 1 ≤ zP P sz j ∨ cnB P 240 ≤ j) ∧ ∀ q j, ¬ (154 ≤ q ∧ q ≤ 159) → I' q j = I q j) := by
  unfold f_F_fillMost
  have hx' : I (1 + 1) 0 = (x : Int) := hx
  rw [ev_min, zb_zr, hx', if_neg (show ¬ 8 < (x : Int) by omega)]
  refine par_zb (cg_row (fu := fu) (P := P) lg I hc hs hP) (fun _ I1 ⟨g, g1, g2, g3, g4, g5⟩ => ?_)
  have gn : g = cnB P 240 := g3.1
  subst gn
  generalize hnn : cnB P 240 = n at *
  have zz : ∀ i, i < n → I1 156 i = zP P sz i ∧ I1 157 i = zP P so i ∧ 1 ≤ zP P sz i ∧ zP P sz i ≤ 8 := by
    intro i hi
    obtain ⟨k, k1, k2, k3⟩ := cnB_at (P := P) 240 i (by rw [hnn]; exact hi)
    obtain ⟨a1, a2⟩ := g4 k k1 k2
    obtain ⟨b1, b2, b3, b4⟩ := hR k k1 k2
    have e1 := zP_at (sz := sz) k1 k2
    have e2 := zP_at (sz := so) k1 k2
    rw [k3] at a1 a2 e1 e2
    rw [e1, e2, a1, a2]
    exact ⟨b1, b2, b3, b4⟩
  have hG1 : GRc (zP P sz) (zP P so) n I1 := ⟨g1, g2, zz⟩
  refine cbx_24 (zP P sz) (zP P so) _ (x : Int) I1 g1 g2 (fun I2 hT2 f2 => ?_) fu 0 I1 (by decide) (fun t x2 _ h2 => absurd h2 (Nat.not_lt_zero _)) (fun _ _ _ => rfl)
  have h23 : I2 154 3 = (n : Int) := (f2 _ _ (by decide)).trans g2
  have w1 : Wq (wr32 (I2 154 3 - 1)) ((n : Int) - 1) := by show wr32 (I2 154 3 - 1) = (n : Int) - 1; rw [h23, wr32_i2 (by omega) (by omega)]
  simp only [zl_e]
  rw [w1.e]
  refine cb_93 (zP P sz) (zP P so) _ (x : Int) I1 hG1 (fun I3 hT3 f3 => ?_) fu n I2 (Nat.le_refl _) hT2 f2
  unfold f_F_choose
  have hG3 : GRc (zP P sz) (zP P so) n I3 := grc_fr hG1 f3
  refine par_zbw (fun I4 e4 => ?_)
  have hG4 : GRc (zP P sz) (zP P so) n I4 := ⟨g1, by rw [e4, if_neg (by omega)]; exact hG3.2.1, fun i hi => ⟨by rw [e4, if_neg (by omega)]; exact (hG3.2.2 i hi).1, by rw [e4, if_neg (by omega)]; exact (hG3.2.2 i hi).2.1, (hG3.2.2 i hi).2.2⟩⟩
  have hT4 : TBc (zP P sz) (zP P so) n 0 I4 := fun i t x2 h1 h2 h3 h4 => by rw [e4, if_neg (by omega)]; exact hT3 i t x2 h1 h2 h3 h4
  refine par_zb (cc_12 (fu := fu) (zP P sz) (zP P so) I4 hG4 hT4 fu 0 0 x 0 I4 (Nat.zero_le _) (by decide) (by omega) (by rw [e4, if_pos ⟨rfl, rfl⟩]; rfl) (fun _ _ _ _ => rfl)) (fun _ I5 ⟨k1, k2, k3, k4⟩ => ?_)
  have a0 : f_F_at fu 0 0 (x : Int) I5 = zr ((27 * 0 + 9 * 0 + x : Nat) : Int) I5 := ev_fat 0 0 x I5 (by decide) (by decide) (by omega)
  rw [a0, zb_zr]
  have s5 : ∀ j, I5 155 j = I1 155 j := fun j => (k4 _ _ (by decide) (by omega)).trans (by rw [e4, if_neg (by omega)]; exact f3 _ _ (by decide))
  have s45 : ∀ j, I4 155 j = I5 155 j := fun j => (k4 155 j (by decide) (by omega)).symm
  refine par_zg (fun _ => par_zr ⟨?_, g1, ⟨g3.1, fun k hk hp => by rw [s5]; exact g3.2 k hk hp⟩, ?_, fun j hj => ?_, fun j => ?_, fun q j hq => ?_⟩)
  · have e := hT4 0 0 x (Nat.zero_le _) (Nat.zero_le _) (by decide) (by omega)
    have e' : I5 (154 + 4) ((27 * 0 + 9 * 0 + x : Nat) : Int).toNat = I4 158 (27 * 0 + 9 * 0 + x) := k4 158 _ (by decide) (by omega)
    rw [e', e]
    rfl
  · rw [k1, Nat.zero_add]; rfl
  · have := k2 j hj
    rw [Nat.zero_add] at this
    rw [this, s45]
    rfl
  · by_cases y : j < n
    · exact Or.inl (zz j y).2.2.1
    · exact Or.inr (by omega)
  · rw [k4 q j (by omega) (by omega), e4, if_neg (by omega), f3 q j (by omega)]
    exact g5 q j (by omega) (by omega) (by omega) (by omega)
/-- reckons, best -/
theorem xf_best {P : Nat → Bool} {sz so : Nat → Int} {x : Nat} (p1 : Int) (J : IMem) (hx : J 1 1 = (x : Int)) (x8 : x ≤ 8) (hn : cnB P 240 ≤ 144) (hc : ∀ l, l < 6 → J 1 (130 + l) ≤ 40) (hP : ∀ k, k < 240 → (P k = true ↔ ((k % 40 : Nat) : Int) < J 1 (130 + k / 40) ∧ ((k % 40 : Nat) : Int) < J 1 (10 + k / 40) ∧ J 1 (140 + 6 * k + 3) ≠ 2)) (hR : ∀ k, k < 240 → P k = true → J 1 (140 + 6 * k + 1) = sz k ∧ J 1 (140 + 6 * k + 3) = so k ∧ 1 ≤ sz k ∧ sz k ≤ 8) : par (f_X_best fu 0 p1 J) (fun v J' => (p1 = 0 → v = mB (zP P sz) (zP P so) (cnB P 240) 0 0 (x : Int)) ∧ (p1 ≠ 0 → ∃ a, LSB P a (cnB P 240) 240 ∧ v = RESq a p1 0 (chL (zP P sz) (zP P so) (cnB P 240) 0 0 (x : Int)))) := by
  unfold f_X_best f_X_reckons
  rw [zb_assoc]
  refine par_zb (xr_row (fu := fu) (P := P) J hc hP) (fun _ J1 ⟨g, h1, h2, h3⟩ => ?_)
  have gn : g = cnB P 240 := h2.1
  subst gn
  generalize hnn : cnB P 240 = n at *
  have zz : ∀ i, i < n → ∃ k : Nat, k < 240 ∧ J1 16 i = (k : Int) ∧ J1 1 (140 + 6 * k + 1) = zP P sz i ∧ J1 1 (140 + 6 * k + 3) = zP P so i ∧ 1 ≤ zP P sz i ∧ zP P sz i ≤ 8 := by
    intro i hi
    obtain ⟨k, k1, k2, k3⟩ := cnB_at (P := P) 240 i (by rw [hnn]; exact hi)
    obtain ⟨b1, b2, b3, b4⟩ := hR k k1 k2
    have e1 := zP_at (sz := sz) k1 k2
    have e2 := zP_at (sz := so) k1 k2
    have e3 := h2.2 k k1 k2
    rw [k3] at e1 e2 e3
    refine ⟨k, k1, e3, ?_, ?_, ?_, ?_⟩
    · rw [h3 _ _ (by decide) (by omega), e1]; exact b1
    · rw [h3 _ _ (by decide) (by omega), e2]; exact b2
    · rw [e1]; exact b3
    · rw [e1]; exact b4
  have hG1 : GRx (zP P sz) (zP P so) n J1 := ⟨hn, h1, zz⟩
  -- the table first
  have tab : par (f_X_reckons_6 fu (fun (I14 : IMem) => zl (wr32 ((I14 0 40) - 1)) fun x15 => f_X_reckons_63 fu 0 fu x15 I14) 0 fu 0 J1) (fun _ J' => TBx (zP P sz) (zP P so) n 0 J' ∧ ∀ q j, q ≠ 17 → J' q j = J1 q j) := by
    refine xt_6 (zP P sz) (zP P so) _ J1 hn h1 (fun J2 hT2 f2 => ?_) fu 0 J1 (by decide) (fun x2 w2 h _ => absurd h (Nat.not_lt_zero _)) (fun _ _ _ => rfl)
    have h40 : J2 0 40 = (n : Int) := (f2 _ _ (by decide)).trans h1
    have w1 : Wq (wr32 (J2 0 40 - 1)) ((n : Int) - 1) := by show wr32 (J2 0 40 - 1) = (n : Int) - 1; rw [h40, wr32_i2 (by omega) (by omega)]
    simp only [zl_e]
    rw [w1.e]
    exact xt_63 (zP P sz) (zP P so) J1 hG1 fu n J2 (Nat.le_refl _) hT2 f2
  refine par_zb tab (fun _ J3 ⟨hT3, f3⟩ => ?_)
  have hG3 : GRx (zP P sz) (zP P so) n J3 := grx_fr hG1 f3
  have x3 : J3 (0 + 1) 1 = (x : Int) := (f3 1 1 (by decide)).trans ((h3 1 1 (by decide) (by omega)).trans hx)
  simp only [zl_e]
  rw [x3]
  by_cases p0 : p1 = 0
  · rw [if_pos p0]
    have a0 : f_X_spot fu 0 (x : Int) 0 J3 = zr ((36 * 0 + 4 * x + 0 : Nat) : Int) J3 := ev_spot 0 x 0 J3 (by decide) (by omega) (by decide)
    rw [a0, zb_zr]
    refine par_zg (fun _ => par_zr ⟨fun _ => ?_, fun q => absurd p0 q⟩)
    obtain ⟨r1, r2⟩ := hT3 0 x 0 (Nat.zero_le _) (Nat.zero_le _) (by omega) (by decide)
    have e5 : J3 (0 + 17) ((36 * 0 + 4 * x + 0 : Nat) : Int).toNat = J3 17 (36 * 0 + 4 * x + 0) := rfl
    rw [e5]
    have pos := mB_pos (z := zP P sz) (s := zP P so) (n - 0) 0 (cwh 0) (x : Int) (by decide)
    have r3 : J3 17 (36 * 0 + 4 * x + 0) = mB (zP P sz) (zP P so) (n - 0) 0 (cwh 0) (x : Int) := by
      unfold cut at r2
      by_cases u0 : J3 17 (36 * 0 + 4 * x + 0) < 0
      · rw [if_pos u0] at r2; omega
      · rw [if_neg u0] at r2; exact r2
    rw [r3]
    rfl
  · rw [if_neg p0]
    refine par_mono (xc_35 (fu := fu) (zP P sz) (zP P so) J3 hG3 hT3 p1 fu 0 x 0 0 (Nat.zero_le _) (by omega) (by decide) (Nat.le_refl _)) (fun v J' e => ⟨fun q => absurd q p0, fun _ => ⟨J3 16, ⟨h2.1, fun k hk hp => ?_⟩, e⟩⟩)
    rw [f3 16 _ (by decide)]
    exact h2.2 k hk hp
/-- two rows of one kind are the same -/
theorem lsb_eq {P : Nat → Bool} {a b : Nat → Int} {n K : Nat} (h : LSB P a n K) (h2 : LSB P b n K) {i : Nat} (hi : i < n) : a i = b i := by
  obtain ⟨k, k1, k2, k3⟩ := cnB_at (P := P) K i (by rw [← h.1]; exact hi)
  have e1 := h.2 k k1 k2
  have e2 := h2.2 k k1 k2
  rw [k3] at e1 e2
  rw [e1, e2]
theorem chL_in {z s : Nat → Int} : ∀ (d i : Nat) (t x : Int) (j : Nat), j < (chL z s d i t x).length → (chL z s d i t x).getD j 0 < i + d := by
  intro d
  induction d with
  | zero => intro i t x j h; exact absurd h (Nat.not_lt_zero _)
  | succ d ih =>
    intro i t x j
    show j < (if wB z s d i t x ≠ -1 ∧ wB z s d i t x = mB z s (d + 1) i t x then i :: chL z s d (i + 1) (tw (s i) t) (x - z i) else chL z s d (i + 1) t x).length → (if wB z s d i t x ≠ -1 ∧ wB z s d i t x = mB z s (d + 1) i t x then i :: chL z s d (i + 1) (tw (s i) t) (x - z i) else chL z s d (i + 1) t x).getD j 0 < i + (d + 1)
    by_cases h : wB z s d i t x ≠ -1 ∧ wB z s d i t x = mB z s (d + 1) i t x
    · rw [if_pos h]
      intro hj
      cases j with
      | zero => show i < _; omega
      | succ j =>
        have := ih (i + 1) (tw (s i) t) (x - z i) j (by rw [List.length_cons] at hj; omega)
        show (chL z s d (i + 1) (tw (s i) t) (x - z i)).getD j 0 < _
        omega
    · rw [if_neg h]
      intro hj
      have := ih (i + 1) t x j hj
      omega
/-- who is seen, by the reference's memory; with one more of a line -/
def PBj (J : IMem) (lg : Int) : Nat → Bool := PBb (fun l => J 1 (130 + l)) (fun l => J 1 (10 + l) + (if (l : Int) = lg then 1 else 0)) (fun k => J 1 (140 + 6 * k + 3))
theorem pbj_c (h : RJ I J) (lg : Int) : ∀ k, k < 240 → (PBj J lg k = true ↔ SN (I 9) (I 10) lg k ∧ I 8 (6 * k + 3) ≠ 2) := by
  intro k hk
  obtain ⟨hS, _, _, hL, _⟩ := h.1.1
  have c : I 9 (k / 40) = J 1 (130 + k / 40) := (hL (k / 40) (by omega)).1
  have s : I 10 (k / 40) = J 1 (10 + k / 40) := hS.2.2.2.1 (k / 40) (by omega)
  have r : ((k % 40 : Nat) : Int) < J 1 (130 + k / 40) → I 8 (6 * k + 3) = J 1 (140 + 6 * k + 3) := fun q => by
    have := (hL (k / 40) (by omega)).2.2 (k % 40) 3 q (by decide)
    rw [show 40 * (k / 40) + k % 40 = k by omega] at this
    exact this
  unfold PBj SN
  rw [pb_iff, c, s]
  constructor
  · intro ⟨a, b, d⟩
    exact ⟨⟨a, b⟩, by rw [r a]; exact d⟩
  · intro ⟨⟨a, b⟩, d⟩
    exact ⟨a, b, by rw [← r a]; exact d⟩
theorem pbj_r (h : RJ I J) (hg : GX 0 J) (lg : Int) : ∀ k, k < 240 → PBj J lg k = true → I 8 (6 * k + 1) = J 1 (140 + 6 * k + 1) ∧ I 8 (6 * k + 3) = J 1 (140 + 6 * k + 3) ∧ 1 ≤ J 1 (140 + 6 * k + 1) ∧ J 1 (140 + 6 * k + 1) ≤ 8 := by
  intro k hk hp
  unfold PBj at hp
  have q := (pb_iff.mp hp).1
  have r : ∀ f, f < 6 → I 8 (6 * k + f) = J 1 (140 + 6 * k + f) := fun f hf => by
    have := (h.1.1.2.2.2.1 (k / 40) (by omega)).2.2 (k % 40) f q hf
    rw [show 40 * (k / 40) + k % 40 = k by omega] at this
    exact this
  have g := (gx_facts hg).2.2.2.2.1 k ⟨hk, q⟩
  rw [show 141 + 6 * k = 140 + 6 * k + 1 by omega] at g
  exact ⟨r 1 (by decide), r 3 (by decide), g⟩
theorem cnB_144 {P : Nat → Bool} (h : ∀ k, k < 240 → P k = true → k % 40 < 24) : ∀ K : Nat, K ≤ 240 → cnB P K ≤ 24 * (K / 40) + K % 40 ∧ cnB P K ≤ 24 * (K / 40) + 24 := by
  intro K
  induction K with
  | zero => intro _; exact ⟨Nat.zero_le _, Nat.zero_le _⟩
  | succ K ih =>
    intro hK
    obtain ⟨a, b⟩ := ih (by omega)
    cases hp : P K with
    | false =>
      rw [cnB_n hp]
      omega
    | true =>
      have := h K (by omega) hp
      rw [cnB_y hp]
      omega
theorem pbj_144 (hg : GX 0 J) (lg : Int) (hl : ∀ l : Nat, l < 6 → (l : Int) = lg → J 1 (10 + l) < 24) : cnB (PBj J lg) 240 ≤ 144 := by
  have gs := (gx_facts hg).2.2.1
  have := cnB_144 (P := PBj J lg) (fun k hk hp => by
    unfold PBj at hp
    have q := (pb_iff.mp hp).2.1
    have g := gs (k / 40) (by omega)
    by_cases y : ((k / 40 : Nat) : Int) = lg
    · have := hl (k / 40) (by omega) y
      rw [if_pos y] at q; omega
    · rw [if_neg y] at q; omega) 240 (Nat.le_refl _)
  omega
/-- fillMost of the hill -/
theorem cf_hill {I5 : IMem} {x : Nat} (lg : Int) (h : RJ I J) (hg : GX 0 J) (hC : GC I) (fr : ∀ q j, q < 100 → I5 q j = I q j) (hx : J 1 1 = (x : Int)) (hl : ∀ l : Nat, l < 6 → (l : Int) = lg → J 1 (10 + l) < 24) : par (f_F_fillMost fu 154 1 lg I5) (fun v I' => v = mB (zP (PBj J lg) (fun k => J 1 (140 + 6 * k + 1))) (zP (PBj J lg) (fun k => J 1 (140 + 6 * k + 3))) (cnB (PBj J lg) 240) 0 0 (x : Int) ∧ cnB (PBj J lg) 240 ≤ 144 ∧ LSB (PBj J lg) (I' 155) (cnB (PBj J lg) 240) 240 ∧ I' 154 6 = ((chL (zP (PBj J lg) (fun k => J 1 (140 + 6 * k + 1))) (zP (PBj J lg) (fun k => J 1 (140 + 6 * k + 3))) (cnB (PBj J lg) 240) 0 0 (x : Int)).length : Nat) ∧ (∀ j, j < (chL (zP (PBj J lg) (fun k => J 1 (140 + 6 * k + 1))) (zP (PBj J lg) (fun k => J 1 (140 + 6 * k + 3))) (cnB (PBj J lg) 240) 0 0 (x : Int)).length → I' 159 j = I' 155 ((chL (zP (PBj J lg) (fun k => J 1 (140 + 6 * k + 1))) (zP (PBj J lg) (fun k => J 1 (140 + 6 * k + 3))) (cnB (PBj J lg) 240) 0 0 (x : Int)).getD j 0)) ∧ (∀ j, 1 ≤ zP (PBj J lg) (fun k => J 1 (140 + 6 * k + 1)) j ∨ cnB (PBj J lg) 240 ≤ j) ∧ ∀ q j, ¬ (154 ≤ q ∧ q ≤ 159) → I' q j = I5 q j) := by
  obtain ⟨⟨s1, s2⟩, _, gs, _⟩ := gx_facts hg
  have e9 : I5 9 = I 9 := funext (fun j => fr 9 j (by decide))
  have e10 : I5 10 = I 10 := funext (fun j => fr 10 j (by decide))
  have e8 : I5 8 = I 8 := funext (fun j => fr 8 j (by decide))
  refine cf_most lg I5 ((fr 2 0 (by decide)).trans ((h.1.1.1.1 0 (by decide)).trans hx)) (by omega) (fun l hl => by rw [e9]; exact hC.2.1 l hl) (fun l hl6 => ?_) (fun k hk => by rw [e9, e10, e8]; exact pbj_c h lg k hk) (fun k hk hp => by rw [e8]; exact pbj_r h hg lg k hk hp)
  have e : I5 10 l = J 1 (10 + l) := (fr 10 l (by decide)).trans (h.1.1.1.2.2.2.1 l hl6)
  have g := gs l hl6
  rw [e]
  by_cases y : (l : Int) = lg
  · have := hl l hl6 y
    rw [if_pos y]; omega
  · rw [if_neg y]; omega
theorem pbj_x (lg : Int) {J1 : IMem} (f1 : ∀ j, 130 ≤ j → j < 1580 → J1 1 j = J 1 j) (f2 : ∀ l : Nat, l < 6 → J1 1 (10 + l) = J 1 (10 + l) + (if (l : Int) = lg then 1 else 0)) : ∀ k, k < 240 → (PBj J lg k = true ↔ ((k % 40 : Nat) : Int) < J1 1 (130 + k / 40) ∧ ((k % 40 : Nat) : Int) < J1 1 (10 + k / 40) ∧ J1 1 (140 + 6 * k + 3) ≠ 2) := by
  intro k hk
  unfold PBj
  rw [pb_iff, f1 _ (by omega) (by omega), f2 _ (by omega), f1 _ (by omega) (by omega)]
theorem pj_best (a : Int) (ha : inr a) (h : RJ I J) (hg : GX 0 J) (hC : GC I) : pq (f_S_best fu 0 a I) (f_X_best fu 0 a J) (fun x _ y _ => x = y) := by
  obtain ⟨⟨s1, s2⟩, _, gs, _, gz, _⟩ := gx_facts hg
  obtain ⟨x, hx⟩ : ∃ x : Nat, J 1 1 = (x : Int) := ⟨(J 1 1).toNat, by omega⟩
  have hP := pbj_x (J := J) (J1 := J) (-1) (fun _ _ _ => rfl) (fun l _ => by rw [if_neg (by omega), Int.add_zero])
  have hn := pbj_144 hg (-1) (fun l _ q => by omega)
  have cl := cf_hill (fu := fu) (I5 := I) (x := x) (-1) h hg hC (fun _ _ _ => rfl) hx (fun l _ q => by omega)
  have xl := xf_best (fu := fu) (P := PBj J (-1)) (sz := fun k => J 1 (140 + 6 * k + 1)) (so := fun k => J 1 (140 + 6 * k + 3)) (x := x) a J hx (by omega) hn (fun l hl => (h.1.1.2.2.2.1 l hl).2.1.2) hP (fun k hk hp => ⟨rfl, rfl, (pbj_r h hg (-1) k hk hp).2.2⟩)
  unfold f_S_best
  unfold inr at ha
  by_cases a0 : a < 0
  · rw [if_pos a0]
    refine pq_r (par_mono xl (fun y J1 ⟨_, q2⟩ => ?_))
    obtain ⟨b, _, hb⟩ := q2 (by omega)
    rw [hb]
    unfold RESq
    rw [if_neg (by omega), if_neg (by omega)]
  · rw [if_neg a0]
    refine pq_bl cl (fun v I1 _ ⟨g1, g2, g3, g4, g5, g6, g7⟩ => ?_)
    by_cases a10 : a < 10
    · rw [if_pos a10]
      by_cases e0 : a = 0
      · rw [if_pos e0]
        exact pq_r (par_mono xl (fun y J1 ⟨q1, _⟩ => g1.trans (q1 e0).symm))
      · rw [if_neg e0]
        by_cases e1 : a = 1
        · rw [if_pos e1]
          refine pq_r (par_mono xl (fun y J1 ⟨_, q2⟩ => ?_))
          obtain ⟨b, _, hb⟩ := q2 e0
          rw [hb]
          unfold RESq
          rw [if_neg (by omega), if_pos e1, Nat.zero_add]
          exact g4.trans (congrArg (fun t : Nat => (t : Int)) (Nat.zero_add _).symm)
        · rw [if_neg e1]
          refine pq_r (par_mono xl (fun y J1 ⟨_, q2⟩ => ?_))
          obtain ⟨b, _, hb⟩ := q2 e0
          rw [hb]
          unfold RESq
          rw [if_neg (by omega), if_neg e1]
    · rw [if_neg a10, zb_idq]
      obtain ⟨e, he⟩ : ∃ e : Nat, a - 10 = (e : Int) := ⟨(a - 10).toNat, by omega⟩
      have w1 : Wq (wr32 (a - 10)) ((e : Int)) := by show wr32 (a - 10) = (e : Int); rw [wr32_i2 (by omega) (by omega)]; exact he
      rw [w1.e]
      unfold f_F_chosenAt
      have g4' : I1 (0 + 154) 6 = ((chL (zP (PBj J (-1)) (fun k => J 1 (140 + 6 * k + 1))) (zP (PBj J (-1)) (fun k => J 1 (140 + 6 * k + 3))) (cnB (PBj J (-1)) 240) 0 0 (x : Int)).length : Nat) := g4
      have hlen := chL_len (z := zP (PBj J (-1)) (fun k => J 1 (140 + 6 * k + 1))) (s := zP (PBj J (-1)) (fun k => J 1 (140 + 6 * k + 3))) (cnB (PBj J (-1)) 240) 0 0 (x : Int) (fun j _ h2 => (g6 j).resolve_right (by omega)) (by omega)
      have hin := chL_in (z := zP (PBj J (-1)) (fun k => J 1 (140 + 6 * k + 1))) (s := zP (PBj J (-1)) (fun k => J 1 (140 + 6 * k + 3))) (cnB (PBj J (-1)) 240) 0 0 (x : Int)
      rw [g4']
      generalize chL (zP (PBj J (-1)) (fun k => J 1 (140 + 6 * k + 1))) (zP (PBj J (-1)) (fun k => J 1 (140 + 6 * k + 3))) (cnB (PBj J (-1)) 240) 0 0 (x : Int) = L at g5 hlen hin xl ⊢
      rw [if_neg (show ¬ (e : Int) < 0 by omega)]
      by_cases y : e < L.length
      · rw [if_pos (show (e : Int) < ((L.length : Nat) : Int) by omega), if_pos (show (e : Int) < 8 by omega)]
        refine pq_gl (fun _ => pq_gl (fun _ => ?_))
        refine pq_r (par_mono xl (fun y1 J1 ⟨_, q2⟩ => ?_))
        obtain ⟨b, b1, hb⟩ := q2 (by omega)
        rw [hb]
        unfold RESq
        rw [if_pos (by omega), show (a - 10 - ((0 : Nat) : Int)).toNat = e by omega]
        have v1 : I1 (0 + 154 + 5) (e : Int).toNat = I1 155 (L.getD e 0) := g5 e y
        have v2 : I1 155 (L.getD e 0) = b (L.getD e 0) := lsb_eq g3 b1 (by have := hin e y; omega)
        rw [v1, v2]
        rfl
      · rw [if_neg (show ¬ (e : Int) < ((L.length : Nat) : Int) by omega)]
        refine pq_r (par_mono xl (fun y1 J1 ⟨_, q2⟩ => ?_))
        obtain ⟨b, b1, hb⟩ := q2 (by omega)
        rw [hb]
        unfold RESq
        rw [if_neg (by omega), if_neg (by omega)]
theorem pj_look (a : Int) (h : RJ I J) (hg : GX 0 J) (hC : GC I) : pq (f_S_look fu 0 a I) (f_X_look fu 0 a J) (fun x _ y _ => x = y) := by
  obtain ⟨⟨s1, s2⟩, _, gs, _, gz, _⟩ := gx_facts hg
  obtain ⟨x, hx⟩ : ∃ x : Nat, J 1 1 = (x : Int) := ⟨(J 1 1).toNat, by omega⟩
  unfold f_S_look f_X_look
  rw [ev_isLine, ev_xLine, zb_zr, zb_zr]
  by_cases h1 : 0 ≤ a ∧ a < 6
  · rw [if_pos h1, if_neg ne10, if_neg ne10]
    obtain ⟨l, rfl⟩ : ∃ l : Nat, a = (l : Int) := ⟨a.toNat, by omega⟩
    have l6 : l < 6 := by omega
    have w10 : Wq (wr32 (10 + (l : Int))) (((10 + l : Nat) : Int)) := by show wr32 (10 + (l : Int)) = ((10 + l : Nat) : Int); rw [wr32_i2 (by omega) (by omega)]; omega
    have gl := gs l l6
    have il : I (0 + 10) (l : Int).toNat = J 1 (10 + l) := h.1.1.1.2.2.2.1 l l6
    have jl : J (0 + 1) ((10 + l : Nat) : Int).toNat = J 1 (10 + l) := rfl
    simp only [zl_e]
    rw [w10.e, il]
    refine pq_gl (fun _ => pq_gr (fun _ => ?_))
    rw [jl]
    by_cases h2 : J 1 (10 + l) < 24
    · rw [if_pos h2, if_neg (show ¬ J 1 (10 + l) = 24 by omega)]
      have hl1 : ∀ l2 : Nat, l2 < 6 → (l2 : Int) = (l : Int) → J 1 (10 + l2) < 24 := fun l2 _ q => by
        have : l2 = l := by omega
        rw [this]; exact h2
      have hl0 : ∀ l2 : Nat, l2 < 6 → (l2 : Int) = -1 → J 1 (10 + l2) < 24 := fun l2 _ q => by omega
      refine pq_bl (cf_hill (fu := fu) (I5 := I) (x := x) (l : Int) h hg hC (fun _ _ _ => rfl) hx hl1) (fun v1 I1 _ ⟨g1, _, _, _, _, _, g7⟩ => ?_)
      refine pq_bl (cf_hill (fu := fu) (I5 := I1) (x := x) (-1) h hg hC (fun q j hq => g7 q j (by omega)) hx hl0) (fun v2 I2 _ ⟨k1, _⟩ => ?_)
      have hP0 := pbj_x (J := J) (J1 := J) (-1) (fun _ _ _ => rfl) (fun l _ => by rw [if_neg (by omega), Int.add_zero])
      refine pq_br (xf_best (fu := fu) (P := PBj J (-1)) (sz := fun k => J 1 (140 + 6 * k + 1)) (so := fun k => J 1 (140 + 6 * k + 3)) (x := x) 0 J hx (by omega) (pbj_144 hg (-1) hl0) (fun l hl => (h.1.1.2.2.2.1 l hl).2.1.2) hP0 (fun k hk hp => ⟨rfl, rfl, (pbj_r h hg (-1) k hk hp).2.2⟩)) (fun y1 J1 e1 ⟨q1, _⟩ => ?_)
      have f1 : ∀ q j, q = 1 → J1 q j = J q j := fun q j hq => fc_X_best (fun q j => q ≠ 1) fu 0 0 J (fun _ => by omega) (fun _ => by omega) (by omega) e1 q j (by omega)
      refine pq_gr (fun _ => pq_gr (fun _ => pq_zwr' (fun J2 e2 => ?_)))
      have u1 : J1 (0 + 1) ((10 + l : Nat) : Int).toNat = J 1 (10 + l) := f1 1 (10 + l) rfl
      rw [u1, wr32_i2 (x := J 1 (10 + l) + 1) (by omega) (by omega)] at e2
      have f2 : ∀ j, j ≠ 10 + l → J2 1 j = J 1 j := fun j hj => by
        rw [e2, if_neg (fun q => hj q.2)]; exact f1 1 j rfl
      have f2' : J2 1 (10 + l) = J 1 (10 + l) + 1 := by rw [e2, if_pos ⟨rfl, rfl⟩]
      have hP1 := pbj_x (J := J) (J1 := J2) (l : Int) (fun j b1 b2 => f2 j (by omega)) (fun l2 hl2 => by
        by_cases y : l2 = l
        · rw [y, if_pos rfl]; exact f2'
        · rw [if_neg (by omega), Int.add_zero]; exact f2 _ (by omega))
      refine pq_br (xf_best (fu := fu) (P := PBj J (l : Int)) (sz := fun k => J 1 (140 + 6 * k + 1)) (so := fun k => J 1 (140 + 6 * k + 3)) (x := x) 0 J2 ((f2 1 (by omega)).trans hx) (by omega) (pbj_144 hg (l : Int) hl1) (fun l hl => by rw [f2 _ (by omega)]; exact (h.1.1.2.2.2.1 l hl).2.1.2) hP1 (fun k hk hp => ⟨f2 _ (by omega), f2 _ (by omega), (pbj_r h hg (l : Int) k hk hp).2.2⟩)) (fun y3 J3 e3 ⟨q3, _⟩ => ?_)
      refine pq_gr (fun _ => pq_gr (fun _ => pq_zwr' (fun J4 e4 => pq_end ?_)))
      rw [g1, k1, q1 rfl, q3 rfl]
    · rw [if_neg h2, if_pos (show J 1 (10 + l) = 24 by omega)]
      exact pq_end rfl
  · rw [if_neg h1, if_pos eq00, if_pos eq00]
    exact pq_end rfl
end
