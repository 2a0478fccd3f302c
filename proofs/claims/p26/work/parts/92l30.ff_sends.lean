/-! the pick's judge, sending, chairs, runs: both sides -/
theorem pq_par {Q : Int → IMem → Int → IMem → Prop} {m1 m2 m3 : Res} (h : par m2 (fun y J => m3 = some (y, J))) (k : pq m1 m3 Q) : pq m1 m2 Q := fun x I y J e1 e2 => k x I y J e1 (h y J e2)
section
variable {fu : Nat} {I J : IMem}
theorem pick_fin {l p : Nat} (h : RJ I J) (hg : GX 0 J) (hl : l < 6) (hp : (p : Int) < J 1 (130 + l)) (p40 : p < 40) (z13 : J 13 (40 * l + p) = 0) (hfit : J 1 (141 + 6 * (40 * l + p)) ≤ I 137 7) : pq (zb (f_C_sit fu 137 ((40 * l + p : Nat) : Int) (J 1 (141 + 6 * (40 * l + p))) (J 1 (140 + 6 * (40 * l + p) + 3)) 1 I) fun _ I22 => zr 0 I22) (zg (0 ≤ ((40 * l + p : Nat) : Int) ∧ ((40 * l + p : Nat) : Int) < 240) (zw J (0 + 13) ((40 * l + p : Nat) : Int).toNat 1 fun I44 => zg (0 ≤ I44 0 35 ∧ I44 0 35 < 8) (zw I44 (0 + 15) (I44 0 35).toNat ((40 * l + p : Nat) : Int) fun I46 => zw I46 0 35 (wr32 (I46 0 35 + 1)) fun I48 => zr 0 I48))) EQJ := by
  have hP : PKR I J := h.2.2.2.2.2.1
  have hk : INL J (40 * l + p) := ⟨by omega, by rw [show (40 * l + p) / 40 = l by omega, show (40 * l + p) % 40 = p by omega]; exact hp⟩
  have gf := (gx_facts hg).2.2.2.2.1 _ hk
  obtain ⟨n, hn⟩ : ∃ n : Nat, J 0 35 = (n : Int) := ⟨(J 0 35).toNat, by have := hP.1.2.2.1; omega⟩
  refine pq_gr (fun _ => pq_zwr' (fun J1 e1 => ?_))
  have j1 : J1 0 35 = (n : Int) := by rw [e1, if_neg (by omega)]; exact hn
  rw [j1]
  refine pq_gr (fun hx => pq_zwr' (fun J2 e2 => ?_))
  have j2 : J2 0 35 = (n : Int) := by rw [e2, if_neg (by omega)]; exact j1
  rw [j2, wr32_i2 (x := (n : Int) + 1) (by omega) (by omega)]
  refine pq_zwr' (fun J3 e3 => ?_)
  have i8 : I 137 8 = (n : Int) := hP.1.2.1.trans hn
  refine pq_bl (cv_sit (fu := fu) 137 (40 * l + p) (J 1 (141 + 6 * (40 * l + p))) (J 1 (140 + 6 * (40 * l + p) + 3)) 1 I hk.1 (by rw [i8]; omega)) (fun _ I1 _ g => pq_end ⟨?_, rfl⟩)
  have hI : ∀ q j, I1 q j = if q = 137 ∧ j = 11 then (if I 137 11 = 0 then (if J 1 (140 + 6 * (40 * l + p) + 3) = 1 then 0 else 1) else 1) else if q = 137 ∧ j = 10 then (if I 137 10 = 0 then (if J 1 (140 + 6 * (40 * l + p) + 3) = 2 then 1 else 0) else 1) else if q = 137 ∧ j = 7 then wr32 (I 137 7 - J 1 (141 + 6 * (40 * l + p))) else if q = 137 ∧ j = 8 then I 137 8 + 1 else if q = 140 ∧ j = n then J 1 (141 + 6 * (40 * l + p)) else if q = 139 ∧ j = n then ((40 * l + p : Nat) : Int) else if q = 138 ∧ j = 40 * l + p then 1 else I q j := by
    intro q j
    rw [g q j, i8]
    rfl
  have hJ : ∀ q j, J3 q j = if q = 0 ∧ j = 35 then (n : Int) + 1 else if q = 15 ∧ j = n then ((40 * l + p : Nat) : Int) else if q = 13 ∧ j = 40 * l + p then 1 else J q j := by
    intro q j
    rw [e3, e2, e1]
    rfl
  have io : ∀ q j, q < 137 ∨ 140 < q → I1 q j = I q j := fun q j hq => by rw [hI, if_neg (by omega), if_neg (by omega), if_neg (by omega), if_neg (by omega), if_neg (by omega), if_neg (by omega), if_neg (by omega)]
  have jo : ∀ q j, q ≠ 13 → q ≠ 15 → ¬ (q = 0 ∧ j = 35) → J3 q j = J q j := fun q j a1 a2 a3 => by rw [hJ, if_neg a3, if_neg (by omega), if_neg (by omega)]
  have h' := h
  obtain ⟨⟨hR, hz, hA⟩, a, b, c, d, e, ⟨L, t1, t2, t3, t4⟩, f⟩ := h'
  refine rj_mv h ⟨hr_mv hR (fun d j q => io _ _ (by unfold CH at q; omega)) (fun j _ => jo _ _ (by omega) (by omega) (by omega)), ?_, ?_, ?_⟩ (io _ _ (by omega)) (fun q j q => io _ _ (by omega)) (fun q j q => jo _ _ (by omega) (by omega) (by omega)) (pk_add hP hk z13 hn (by omega) rfl rfl gf hfit hI hJ) ⟨L, t1, ?_, ?_, fun j hj => ?_⟩ ⟨?_, ?_⟩
  · rw [io _ _ (by omega), jo _ _ (by omega) (by omega) (by omega)]; exact hz
  · rw [io _ _ (by omega)]; exact hA.1
  · rw [io _ _ (by omega)]; exact hA.2
  · rw [io _ _ (by omega)]; exact t2
  · rw [jo _ _ (by omega) (by omega) (by omega)]; exact t3
  · rw [io _ _ (by omega), jo _ _ (by omega) (by omega) (by omega)]; exact t4 j hj
  · rw [io _ _ (by omega), jo _ _ (by omega) (by omega) (by omega)]; exact f.1
  · rw [io _ _ (by omega), jo _ _ (by omega) (by omega) (by omega)]; exact f.2
theorem ev_isSeen (o l p : Nat) (I : IMem) (hl : l < 6) (hp : (p : Int) < I (o + 2) l) : f_L_isSeen fu o (l : Int) (p : Int) I = zr (if (p : Int) < I (o + 3) l then 1 else 0) I := by
  unfold f_L_isSeen
  rw [ev_has fu o l p I hl, if_pos (show 0 ≤ (p : Int) ∧ (p : Int) < I (o + 2) l by omega), zb_zr, if_neg ne10, zg_t (show 0 ≤ (l : Int) ∧ (l : Int) < 6 by omega), show ((l : Nat) : Int).toNat = l from rfl]
  by_cases q : (p : Int) < I (o + 3) l
  · rw [if_pos q, if_pos q]
  · rw [if_neg q, if_neg q]
theorem judge2 (a b : Int) (h : RJ I J) (hg : GX 0 J) : pq (f_C_judge fu 137 1 a b I) (f_X_pick fu 0 a b J) EQJ := by
  obtain ⟨hS, hY, hH, hL, hW⟩ : HR 1 1 I J := h.1.1
  have hP : PKR I J := h.2.2.2.2.2.1
  have gs := (gx_facts hg).1
  unfold f_C_judge f_X_pick
  simp only [zl_e, zj_e]
  rw [ev_xLine, zb_zr]
  by_cases h1 : 0 ≤ a ∧ a < 6
  · rw [if_pos h1, if_neg ne10]
    obtain ⟨l, rfl⟩ : ∃ l : Nat, a = (l : Int) := ⟨a.toNat, by omega⟩
    have hl : l < 6 := by omega
    obtain ⟨c1, c2, c3⟩ := hl_c hL hl
    rw [w_130 l hl, ev_has fu (1 + 6) l b I hl, zb_zr, show I (1 + 6 + 2) l = J 1 (130 + l) from c1]
    refine pq_gr (fun _ => ?_)
    rw [show J (0 + 1) ((130 + l : Nat) : Int).toNat = J 1 (130 + l) from rfl, wr32_i2 (x := J 1 (130 + l) - 1) (by omega) (by omega), ev_isIn, zb_zr]
    by_cases h2 : 0 ≤ b ∧ b < J 1 (130 + l)
    · rw [if_pos h2, if_neg ne10, if_pos (show 0 ≤ b ∧ b ≤ J 1 (130 + l) - 1 by omega), if_neg ne10]
      obtain ⟨p, rfl⟩ : ∃ p : Nat, b = (p : Int) := ⟨b.toNat, by omega⟩
      have hp := h2.2
      have p40 : p < 40 := by omega
      have hk : INL J (40 * l + p) := ⟨by omega, by rw [show (40 * l + p) / 40 = l by omega, show (40 * l + p) % 40 = p by omega]; exact hp⟩
      have gz := (gx_facts hg).2.2.2.2.1 _ hk
      have wk : Wq (wr32 (wr32 (40 * (l : Int)) + (p : Int))) (((40 * l + p : Nat) : Int)) := by show wr32 (wr32 (40 * (l : Int)) + (p : Int)) = ((40 * l + p : Nat) : Int); rw [wr32_i2 (x := 40 * (l : Int)) (by omega) (by omega), wr32_i2 (by omega) (by omega)]; omega
      have w10 : Wq (wr32 (10 + (l : Int))) (((10 + l : Nat) : Int)) := by show wr32 (10 + (l : Int)) = ((10 + l : Nat) : Int); rw [wr32_i2 (by omega) (by omega)]; omega
      rw [w_row l p hl (by omega), wk.e, w10.e, ev_cstands fu 137 (40 * l + p) I (by omega), zb_zr]
      refine pq_gr (fun _ => ?_)
      rw [show J (0 + 13) ((40 * l + p : Nat) : Int).toNat = J 13 (40 * l + p) from rfl, show I (137 + 1) (40 * l + p) = I 138 (40 * l + p) from rfl]
      rcases hP.2.1 (40 * l + p) (by omega) with ⟨m1, m2⟩ | ⟨m1, m2, _, _, _⟩
      · rw [m1, if_pos eq00, if_neg ne10, m2, if_pos eq00, ev_get1 fu (1 + 6) _ I (by omega), zb_zr, ev_get3 fu (1 + 6) _ I (by omega), zb_zr, ev_isSeen (1 + 6) l p I hl (show (p : Int) < I 9 l by have : I 9 l = J 1 (130 + l) := c1; omega), zb_zr]
        have r1 : I (1 + 6 + 1) (6 * (40 * l + p) + 1) = J 1 (141 + 6 * (40 * l + p)) := (hl_r hL hl hp (show 1 < 6 by decide)).trans (congrArg (J 1) (by omega))
        have r3 : I (1 + 6 + 1) (6 * (40 * l + p) + 3) = J 1 (140 + 6 * (40 * l + p) + 3) := hl_r hL hl hp (show 3 < 6 by decide)
        have r9 : I (1 + 6 + 3) l = J 1 (10 + l) := hS.2.2.2.1 l hl
        rw [r1, r3, r9]
        refine pq_gr (fun _ => ?_)
        rw [show J (0 + 1) ((10 + l : Nat) : Int).toNat = J 1 (10 + l) from rfl]
        by_cases h4 : (p : Int) < J 1 (10 + l)
        · rw [if_pos h4, if_neg ne10, if_pos h4]
          have hb : ∀ k, k < 240 → J 13 k ≠ 0 → 1 ≤ J 1 (141 + 6 * k) ∧ J 1 (141 + 6 * k) ≤ 8 := by
            intro k hk q
            rcases hP.2.1 k hk with ⟨_, y⟩ | ⟨_, _, _, y⟩
            · exact absurd y q
            · exact y
          have c7 : J 1 1 - pS J 240 = I 137 7 := by have := hP.2.2.2.2.2.1.2; omega
          have q74 := fun (kk : Int → Int → Int → IMem → Res) => xv_pick74 (fu := fu) (J := J) (Q := fun y J' => kk (J 1 1 - pS J 240) (pD J 240) (pC J 240) J = some (y, J')) kk (l : Int) (p : Int) (J 1 1) (by omega) hb (fun y J' e => e) fu 0 (by decide)
          rw [show J (0 + 1) 1 = J 1 1 - pS J 0 from (Int.sub_zero (J 1 1)).symm]
          refine pq_par (q74 _) ?_
          try dsimp only
          rw [c7, ev_of1 fu 0 l p J hl p40, zb_zr, show J (0 + 1) (140 + 6 * (40 * l + p) + 1) = J 1 (141 + 6 * (40 * l + p)) from congrArg (J 1) (by omega)]
          refine pq_ii Iff.rfl (fun _ _ => pq_end ⟨h, rfl⟩) (fun hf _ => ?_)
          rw [ev_of3 fu 0 l p J hl p40, zb_zr, ev_of3 fu 0 l p J hl p40, zb_zr, show J (0 + 1) (140 + 6 * (40 * l + p) + 3) = J 1 (140 + 6 * (40 * l + p) + 3) from rfl]
          have fin := pick_fin (fu := fu) h hg hl hp p40 m2 (by omega)
          have tail : pq (if I 137 10 = 0 then (if J 1 (140 + 6 * (40 * l + p) + 3) = 2 then (if 0 < I 137 8 then zr 5 I else zb (f_C_sit fu 137 ((40 * l + p : Nat) : Int) (J 1 (141 + 6 * (40 * l + p))) (J 1 (140 + 6 * (40 * l + p) + 3)) 1 I) fun _ I22 => zr 0 I22) else zb (f_C_sit fu 137 ((40 * l + p : Nat) : Int) (J 1 (141 + 6 * (40 * l + p))) (J 1 (140 + 6 * (40 * l + p) + 3)) 1 I) fun _ I22 => zr 0 I22) else zr 5 I) (if 0 < pD J 240 then zr 5 J else (if J 1 (140 + 6 * (40 * l + p) + 3) = 2 then (if 0 < J 0 35 then zr 5 J else zg (0 ≤ ((40 * l + p : Nat) : Int) ∧ ((40 * l + p : Nat) : Int) < 240) (zw J (0 + 13) ((40 * l + p : Nat) : Int).toNat 1 fun I44 => zg (0 ≤ I44 0 35 ∧ I44 0 35 < 8) (zw I44 (0 + 15) (I44 0 35).toNat ((40 * l + p : Nat) : Int) fun I46 => zw I46 0 35 (wr32 (I46 0 35 + 1)) fun I48 => zr 0 I48))) else zg (0 ≤ ((40 * l + p : Nat) : Int) ∧ ((40 * l + p : Nat) : Int) < 240) (zw J (0 + 13) ((40 * l + p : Nat) : Int).toNat 1 fun I44 => zg (0 ≤ I44 0 35 ∧ I44 0 35 < 8) (zw I44 (0 + 15) (I44 0 35).toNat ((40 * l + p : Nat) : Int) fun I46 => zw I46 0 35 (wr32 (I46 0 35 + 1)) fun I48 => zr 0 I48)))) EQJ := by
            rcases hP.2.2.2.2.2.2.1 with ⟨x1, x2⟩ | ⟨x1, x2⟩
            · rw [x1, if_pos eq00, x2, if_neg (show ¬ (0 : Int) < 0 by decide)]
              refine pq_ii Iff.rfl (fun _ _ => pq_ii (by rw [hP.1.2.1]) (fun _ _ => pq_end ⟨h, rfl⟩) (fun _ _ => fin)) (fun _ _ => fin)
            · rw [x1, if_neg ne10, if_pos x2]
              exact pq_end ⟨h, rfl⟩
          refine pq_ii Iff.rfl (fun _ _ => ?_) (fun _ _ => tail)
          refine pq_ii ?_ (fun _ _ => pq_end ⟨h, rfl⟩) (fun _ _ => tail)
          rcases hP.2.2.2.2.2.2.2 with ⟨x1, x2⟩ | ⟨x1, x2⟩
          · rw [x1, x2]
          · rw [x1]; exact ⟨fun z => absurd z ne10, fun z => by omega⟩
        · rw [if_neg h4, if_pos eq00, if_neg h4]
          exact pq_end ⟨h, rfl⟩
      · rw [m1, if_neg ne10, if_pos eq00, m2, if_neg ne10]
        exact pq_end ⟨h, rfl⟩
    · rw [if_neg h2, if_pos eq00, if_neg (show ¬ (0 ≤ b ∧ b ≤ J 1 (130 + l) - 1) by omega), if_pos eq00]
      exact pq_end ⟨h, rfl⟩
  · have e0 : f_L_has fu (1 + 6) a b I = zr 0 I := by
      unfold f_L_has
      rw [ev_isLine, if_neg h1, zb_zr, if_pos eq00]
    rw [if_neg h1, if_pos eq00, e0, zb_zr, if_pos eq00]
    exact pq_end ⟨h, rfl⟩
theorem pj_pick (a b : Int) (h : RJ I J) (hg : GX 0 J) : pq (f_S_pick fu 0 a b I) (f_X_pick fu 0 a b J) EQJ := by
  intro x I' y J' e1 e2
  obtain ⟨x1, I1, a1, a2⟩ := of_zb (show zb (f_C_judge fu 137 1 a b I) (fun y1 I2 => zr y1 I2) = some (x, I') from e1)
  cases a2
  exact judge2 a b h hg _ _ _ _ a1 e2
/-! the hand goes off -/
def dS (J : IMem) : Nat → Int
  | 0 => 0
  | i + 1 => dS J i + if J 1 (140 + 6 * (J 15 i).toNat + 3) = 2 then 1 else 0
def cS (J : IMem) : Nat → Int
  | 0 => 0
  | i + 1 => cS J i + if J 1 (140 + 6 * (J 15 i).toNat + 3) = 1 then 0 else 1
theorem dS_b (J : IMem) : ∀ n : Nat, (0 ≤ dS J n ∧ dS J n ≤ (n : Int)) ∧ (0 ≤ cS J n ∧ cS J n ≤ (n : Int)) ∧ (0 < dS J n ↔ ∃ i, i < n ∧ J 1 (140 + 6 * (J 15 i).toNat + 3) = 2) ∧ (0 < cS J n ↔ ∃ i, i < n ∧ J 1 (140 + 6 * (J 15 i).toNat + 3) ≠ 1) := by
  intro n
  induction n with
  | zero =>
    refine ⟨⟨Int.le_refl _, Int.le_refl _⟩, ⟨Int.le_refl _, Int.le_refl _⟩, ⟨fun h => absurd h (Int.lt_irrefl _), fun ⟨i, h, _⟩ => absurd h (Nat.not_lt_zero _)⟩, ⟨fun h => absurd h (Int.lt_irrefl _), fun ⟨i, h, _⟩ => absurd h (Nat.not_lt_zero _)⟩⟩
  | succ n ih =>
    obtain ⟨⟨a1, a2⟩, ⟨b1, b2⟩, c, d⟩ := ih
    have t1 : dS J (n + 1) = dS J n + if J 1 (140 + 6 * (J 15 n).toNat + 3) = 2 then 1 else 0 := rfl
    have t2 : cS J (n + 1) = cS J n + if J 1 (140 + 6 * (J 15 n).toNat + 3) = 1 then 0 else 1 := rfl
    rw [t1, t2]
    generalize hs : J 1 (140 + 6 * (J 15 n).toNat + 3) = s
    have up : ∀ P : Nat → Prop, (∃ i, i < n + 1 ∧ P i) ↔ (P n ∨ ∃ i, i < n ∧ P i) := by
      intro P
      constructor
      · intro ⟨i, h1, h2⟩
        by_cases q : i = n
        · left; rw [← q]; exact h2
        · right; exact ⟨i, by omega, h2⟩
      · intro h
        rcases h with h | ⟨i, h1, h2⟩
        · exact ⟨n, by omega, h⟩
        · exact ⟨i, by omega, h2⟩
    rw [up, up, ← c, ← d, hs]
    by_cases q : s = 2
    · rw [if_pos q, if_neg (show ¬ s = 1 by omega)]
      refine ⟨⟨by omega, by omega⟩, ⟨by omega, by omega⟩, ⟨fun _ => Or.inl q, fun _ => by omega⟩, ⟨fun _ => Or.inl (by omega), fun _ => by omega⟩⟩
    · rw [if_neg q]
      by_cases q2 : s = 1
      · rw [if_pos q2]
        refine ⟨⟨by omega, by omega⟩, ⟨by omega, by omega⟩, ⟨fun z => Or.inr (by omega), fun z => by rcases z with z | z <;> omega⟩, ⟨fun z => Or.inr (by omega), fun z => by rcases z with z | z <;> omega⟩⟩
      · rw [if_neg q2]
        refine ⟨⟨by omega, by omega⟩, ⟨by omega, by omega⟩, ⟨fun z => Or.inr (by omega), fun z => by rcases z with z | z <;> omega⟩, ⟨fun _ => Or.inl q2, fun _ => by omega⟩⟩
theorem pD_b (J : IMem) : ∀ n : Nat, 0 ≤ pD J n ∧ 0 ≤ pC J n ∧ (0 < pD J n ↔ ∃ k, k < n ∧ J 13 k ≠ 0 ∧ J 1 (140 + 6 * k + 3) = 2) ∧ (0 < pC J n ↔ ∃ k, k < n ∧ J 13 k ≠ 0 ∧ J 1 (140 + 6 * k + 3) ≠ 1) := by
  intro n
  induction n with
  | zero =>
    refine ⟨Int.le_refl _, Int.le_refl _, ⟨fun h => absurd h (Int.lt_irrefl _), fun ⟨i, h, _⟩ => absurd h (Nat.not_lt_zero _)⟩, ⟨fun h => absurd h (Int.lt_irrefl _), fun ⟨i, h, _⟩ => absurd h (Nat.not_lt_zero _)⟩⟩
  | succ n ih =>
    obtain ⟨a1, b1, c, d⟩ := ih
    have t2 : pD J (n + 1) = pD J n + (if J 13 n = 0 then 0 else if J 1 (140 + 6 * n + 3) = 2 then 1 else 0) := rfl
    have t3 : pC J (n + 1) = pC J n + (if J 13 n = 0 then 0 else if J 1 (140 + 6 * n + 3) = 1 then 0 else 1) := rfl
    rw [t2, t3]
    have up : ∀ P : Nat → Prop, (∃ i, i < n + 1 ∧ P i) ↔ (P n ∨ ∃ i, i < n ∧ P i) := by
      intro P
      constructor
      · intro ⟨i, h1, h2⟩
        by_cases q : i = n
        · left; rw [← q]; exact h2
        · right; exact ⟨i, by omega, h2⟩
      · intro h
        rcases h with h | ⟨i, h1, h2⟩
        · exact ⟨n, by omega, h⟩
        · exact ⟨i, by omega, h2⟩
    rw [up (fun k => J 13 k ≠ 0 ∧ J 1 (140 + 6 * k + 3) = 2), up (fun k => J 13 k ≠ 0 ∧ J 1 (140 + 6 * k + 3) ≠ 1), ← c, ← d]
    generalize J 1 (140 + 6 * n + 3) = s
    by_cases z : J 13 n = 0
    · rw [if_pos z, if_pos z]
      refine ⟨by omega, by omega, ⟨fun y => Or.inr (by omega), fun y => ?_⟩, ⟨fun y => Or.inr (by omega), fun y => ?_⟩⟩
      · rcases y with y | y
        · exact absurd z y.1
        · omega
      · rcases y with y | y
        · exact absurd z y.1
        · omega
    · rw [if_neg z, if_neg z]
      by_cases q : s = 2
      · rw [if_pos q, if_neg (show ¬ s = 1 by omega)]
        exact ⟨by omega, by omega, ⟨fun _ => Or.inl ⟨z, q⟩, fun _ => by omega⟩, ⟨fun _ => Or.inl ⟨z, by omega⟩, fun _ => by omega⟩⟩
      · rw [if_neg q]
        by_cases q2 : s = 1
        · rw [if_pos q2]
          refine ⟨by omega, by omega, ⟨fun y => Or.inr (by omega), fun y => ?_⟩, ⟨fun y => Or.inr (by omega), fun y => ?_⟩⟩
          · rcases y with y | y
            · exact absurd y.2 q
            · omega
          · rcases y with y | y
            · exact absurd q2 y.2
            · omega
        · rw [if_neg q2]
          refine ⟨by omega, by omega, ⟨fun y => Or.inr (by omega), fun y => ?_⟩, ⟨fun _ => Or.inl ⟨z, q2⟩, fun _ => by omega⟩⟩
          rcases y with y | y
          · exact absurd y.2 q
          · omega
/-- the first i of the hand sit -/
def TKR (I J0 : IMem) (i : Nat) (J : IMem) : Prop :=
  (J 0 30 = J0 1 1 - sm (I 140) i ∧ J 0 31 = (i : Int) ∧ J 0 32 = 0 ∧ J 0 33 = dS J0 i ∧ J 0 34 = cS J0 i) ∧
  (∀ i' : Nat, i' < i → J 11 i' = J0 15 i') ∧
  (∀ k : Nat, k < 240 → ((∃ i' : Nat, i' < i ∧ J0 15 i' = (k : Int)) → J 9 k = J0 1 (141 + 6 * k)) ∧ ((∀ i' : Nat, i' < i → J0 15 i' ≠ (k : Int)) → J 9 k = 0)) ∧
  (∀ k, k < 240 → J 12 k = 0) ∧
  ∀ q j, q ≠ 9 → q ≠ 11 → q ≠ 12 → ¬ (q = 0 ∧ 30 ≤ j ∧ j ≤ 34) → J q j = J0 q j
theorem xv_send6 {Q : Int → IMem → Int → IMem → Prop} (kk : IMem → Res) (m1 : Res) (I J0 : IMem) {n : Nat} (h : PKR I J0) (hn : J0 0 35 = (n : Int)) (n8 : n ≤ 8) (hs : 2 ≤ J0 1 1 ∧ J0 1 1 ≤ 8) (hz : ∀ k, INL J0 k → 1 ≤ J0 1 (141 + 6 * k) ∧ J0 1 (141 + 6 * k) ≤ 8) (hend : ∀ J, TKR I J0 n J → pq m1 (kk J) Q) : ∀ (m i : Nat) (J : IMem), i ≤ n → TKR I J0 i J → pq m1 (f_X_send_6 fu kk 0 m (i : Int) J) Q := by
  intro m
  induction m with
  | zero => intro _ _ _ _; exact pq_nr
  | succ m ih =>
    intro i J hi hT
    have hT' := hT
    obtain ⟨⟨r1, r2, r3, r4, r5⟩, b, c, d, e⟩ := hT'
    show pq m1 (fb_X_send_6 fu kk 0 (f_X_send_6 fu kk 0 m) (i : Int) J) Q
    unfold fb_X_send_6
    rw [e 0 35 (by omega) (by omega) (by omega) (by omega), hn]
    by_cases q : i < n
    · rw [if_pos (show (i : Int) < (n : Int) by omega)]
      refine pq_gr (fun _ => pq_gr (fun _ => pq_gr (fun _ => ?_)))
      obtain ⟨k, k1, k2, k3, k4, k5⟩ := h.2.2.1 i (by omega)
      have k240 := k1.1
      obtain ⟨z1, z2⟩ := hz k k1
      rw [show J (0 + 15) ((i : Nat) : Int).toNat = (k : Int) from (e 15 i (by omega) (by omega) (by omega) (by omega)).trans k2]
      have u0 : Wq (wr32 (6 * (k : Int))) (((6 * k : Nat) : Int)) := by show wr32 (6 * (k : Int)) = ((6 * k : Nat) : Int); rw [wr32_i2 (by omega) (by omega)]; omega
      have u1 : Wq (wr32 (140 + ((6 * k : Nat) : Int))) (((140 + 6 * k : Nat) : Int)) := by show wr32 (140 + ((6 * k : Nat) : Int)) = ((140 + 6 * k : Nat) : Int); rw [wr32_i2 (by omega) (by omega)]; omega
      have u2 : Wq (wr32 (((140 + 6 * k : Nat) : Int) + 1)) (((141 + 6 * k : Nat) : Int)) := by show wr32 (((140 + 6 * k : Nat) : Int) + 1) = ((141 + 6 * k : Nat) : Int); rw [wr32_i2 (by omega) (by omega)]; omega
      simp only [zl_e]
      rw [u0.e, u1.e, u2.e, wd40 k k240, wr40 k k240, w_nx i (by omega)]
      refine pq_gr (fun _ => ?_)
      rw [show J (0 + 1) ((141 + 6 * k : Nat) : Int).toNat = J0 1 (141 + 6 * k) from e 1 _ (by omega) (by omega) (by omega) (by omega)]
      refine pq_br (xv_takes (fu := fu) (k / 40) (k % 40) (J0 1 (141 + 6 * k)) J (by omega) (by omega) (by rw [r2]; omega)) (fun _ J1 _ g => ?_)
      have so : J 1 (140 + 6 * (40 * (k / 40) + k % 40) + 3) = J0 1 (140 + 6 * k + 3) := by
        rw [e 1 _ (by omega) (by omega) (by omega) (by omega), show 40 * (k / 40) + k % 40 = k by omega]
      have kt : (J0 15 i).toNat = k := by rw [k2]; rfl
      obtain ⟨⟨d1, d2⟩, ⟨d3, d4⟩, _, _⟩ := dS_b J0 i
      have s1 : sm (I 140) (i + 1) = sm (I 140) i + I 140 i := rfl
      have sb : 0 ≤ sm (I 140) i ∧ sm (I 140) i ≤ 8 * (i : Int) := by
        have : ∀ j : Nat, j ≤ i → 0 ≤ sm (I 140) j ∧ sm (I 140) j ≤ 8 * (j : Int) := by
          intro j
          induction j with
          | zero => intro _; exact ⟨Int.le_refl _, Int.le_refl _⟩
          | succ j ihj =>
            intro hj
            obtain ⟨y1, y2⟩ := ihj (by omega)
            obtain ⟨k', x1, x2, x3, x4, x5⟩ := h.2.2.1 j (by omega)
            have := hz k' x1
            have s2 : sm (I 140) (j + 1) = sm (I 140) j + I 140 j := rfl
            omega
        exact this i (Nat.le_refl _)
      refine ih (i + 1) J1 q ⟨⟨?_, ?_, ?_, ?_, ?_⟩, fun i' hi' => ?_, fun k' hk' => ⟨fun ⟨i', x1, x2⟩ => ?_, fun x => ?_⟩, fun k' hk' => ?_, fun q' j a1 a2 a3 a4 => ?_⟩
      · rw [g, if_neg (by omega), if_neg (by omega), if_pos ⟨rfl, rfl⟩, r1, wr32_i2 (by omega) (by omega), s1, k4]; omega
      · rw [g, if_neg (by omega), if_neg (by omega), if_neg (by omega), if_pos ⟨rfl, rfl⟩, r2]; omega
      · rw [g, if_neg (by omega), if_neg (by omega), if_neg (by omega), if_neg (by omega), if_neg (by omega), if_neg (by omega)]; exact r3
      · have t : dS J0 (i + 1) = dS J0 i + if J0 1 (140 + 6 * (J0 15 i).toNat + 3) = 2 then 1 else 0 := rfl
        rw [g, if_neg (by omega), if_pos ⟨rfl, rfl⟩, so, r4, t, kt]
        by_cases y : J0 1 (140 + 6 * k + 3) = 2
        · rw [if_pos y, wr32_i2 (by omega) (by omega)]
        · rw [if_neg y, wr32_i2 (by omega) (by omega)]
      · have t : cS J0 (i + 1) = cS J0 i + if J0 1 (140 + 6 * (J0 15 i).toNat + 3) = 1 then 0 else 1 := rfl
        rw [g, if_pos ⟨rfl, rfl⟩, so, r5, t, kt]
        by_cases y : J0 1 (140 + 6 * k + 3) = 1
        · rw [if_pos y, wr32_i2 (by omega) (by omega)]
        · rw [if_neg y, wr32_i2 (by omega) (by omega)]
      · rw [g, if_neg (by omega), if_neg (by omega), if_neg (by omega), if_neg (by omega), r2]
        by_cases y : i' = i
        · rw [if_pos ⟨rfl, y⟩, y, k2]; omega
        · rw [if_neg (fun z => y z.2), if_neg (by omega)]; exact b i' (by omega)
      · rw [g, if_neg (by omega), if_neg (by omega), if_neg (by omega), if_neg (by omega), if_neg (by omega)]
        by_cases y : k' = 40 * (k / 40) + k % 40
        · rw [if_pos ⟨rfl, y⟩, show k' = k by omega]
        · rw [if_neg (fun z => y z.2)]
          refine (c k' hk').1 ⟨i', ?_, x2⟩
          by_cases y2 : i' = i
          · rw [y2, k2] at x2
            omega
          · omega
      · rw [g, if_neg (by omega), if_neg (by omega), if_neg (by omega), if_neg (by omega), if_neg (by omega)]
        have nk : ¬ k' = 40 * (k / 40) + k % 40 := fun z => x i (by omega) (by rw [k2]; omega)
        rw [if_neg (fun z => nk z.2)]
        exact (c k' hk').2 (fun i' hi' => x i' (by omega))
      · rw [g, if_neg (by omega), if_neg (by omega), if_neg (by omega), if_neg (by omega), if_neg (by omega), if_neg (by omega)]; exact d k' hk'
      · rw [g, if_neg (by omega), if_neg (by omega), if_neg (by omega), if_neg (by omega), if_neg (by omega), if_neg (by omega)]; exact e q' j a1 a2 a3 a4
    · rw [if_neg (show ¬ (i : Int) < (n : Int) by omega)]
      have : i = n := by omega
      subst this
      exact hend J hT
/-- so the hand is as a filled chair -/
theorem fe_hand {J2 : IMem} {n : Nat} (h : RJ I J) (hg : GX 0 J) (hn : J 0 35 = (n : Int)) (hT : TKR I J n J2) : FE 137 1 I J2 ∧ J2 0 32 = 0 ∧ (∀ k, INL J2 k ↔ INL J k) ∧ (∀ j, J2 1 j = J 1 j) := by
  obtain ⟨hS, hY, hH, hL, hW⟩ : HR 1 1 I J := h.1.1
  have hP : PKR I J := h.2.2.2.2.2.1
  obtain ⟨⟨a1, a2, a3, a4, a5⟩, b, c, d, e, ⟨f1, f2⟩, g, hh⟩ := hP
  obtain ⟨⟨r1, r2, r3, r4, r5⟩, tb, tc, td, te⟩ := hT
  have gs := gx_facts hg
  have j1 : ∀ j, J2 1 j = J 1 j := fun j => te 1 j (by omega) (by omega) (by omega) (by omega)
  have inl : ∀ k, INL J2 k ↔ INL J k := fun k => by unfold INL; rw [j1]
  rw [hn] at a2 a3 a5 c d f1
  have f1' : J 1 1 = I 137 7 + sm (I 140) n := f1
  obtain ⟨⟨d1, d2⟩, ⟨d3, d4⟩, d5, d6⟩ := dS_b J n
  obtain ⟨p1, p2, p3, p4⟩ := pD_b J 240
  have kof : ∀ k, k < 240 → J 13 k ≠ 0 → ∃ i : Nat, i < n ∧ J 15 i = (k : Int) := by
    intro k hk q
    rcases b k hk with ⟨_, x⟩ | ⟨_, x, _⟩
    · exact absurd x q
    · obtain ⟨i, i1, i2⟩ := e k hk x
      rw [hn] at i1
      exact ⟨i, by omega, i2⟩
  have eqD : 0 < dS J n ↔ 0 < pD J 240 := by
    rw [d5, p3]
    constructor
    · intro ⟨i, i1, i2⟩
      obtain ⟨k, k1, k2, _, _, k5⟩ := c i (by omega)
      refine ⟨k, k1.1, by rw [k5]; decide, ?_⟩
      rw [k2] at i2
      exact i2
    · intro ⟨k, k1, k2, k3⟩
      obtain ⟨i, i1, i2⟩ := kof k k1 k2
      exact ⟨i, i1, by rw [i2]; exact k3⟩
  have eqC : 0 < cS J n ↔ 0 < pC J 240 := by
    rw [d6, p4]
    constructor
    · intro ⟨i, i1, i2⟩
      obtain ⟨k, k1, k2, _, _, k5⟩ := c i (by omega)
      refine ⟨k, k1.1, by rw [k5]; decide, ?_⟩
      rw [k2] at i2
      exact i2
    · intro ⟨k, k1, k2, k3⟩
      obtain ⟨i, i1, i2⟩ := kof k k1 k2
      exact ⟨i, i1, by rw [i2]; exact k3⟩
  refine ⟨⟨⟨hs_mv hS (fun _ _ _ => rfl) (fun j _ => j1 j), hy_mv hY (fun _ => rfl) (fun j _ _ => j1 j), hp_mv hH (fun _ => ⟨rfl, rfl⟩) (fun j _ => j1 j), hw_mv hW (fun _ _ _ _ _ => rfl) (fun j _ _ => j1 j)⟩, fun l hl => ?_, ⟨?_, ?_, ?_⟩, ⟨?_, ?_, ?_, ?_⟩, ⟨?_, ?_⟩, ⟨?_, ?_⟩, fun k hk => ?_, fun i hi => ?_, fun i hi => ?_, ?_⟩, r3, inl, j1⟩
  · obtain ⟨x1, x2, x3⟩ := hL l hl
    refine ⟨by rw [j1]; exact x1, by rw [j1]; exact x2, fun p f hp hf => ?_⟩
    rw [j1] at hp
    have n3 : ¬ (I (137 + 1) (40 * l + p) = 3 ∧ (f = 1 ∨ f = 2)) := by
      intro z
      rcases b (40 * l + p) (by omega) with ⟨y, _⟩ | ⟨y, _⟩
      · have := z.1.symm.trans y; omega
      · have := z.1.symm.trans y; omega
    rw [if_neg n3, j1]
    exact x3 p f hp hf
  · rw [r1]; omega
  · rw [r2]; exact a2
  · rw [r3]; exact a1
  · rw [r1]; omega
  · rw [r2]; omega
  · rw [r1, r2]; omega
  · rw [r3]; decide
  · rw [r4]
    rcases g with ⟨x1, x2⟩ | ⟨x1, x2⟩
    · left; exact ⟨x1, by omega⟩
    · right; exact ⟨x1, eqD.mpr x2⟩
  · rw [r4, r2]; exact d2
  · rw [r5]
    rcases hh with ⟨x1, x2⟩ | ⟨x1, x2⟩
    · left; exact ⟨x1, by omega⟩
    · right; exact ⟨x1, eqC.mpr x2⟩
  · rw [r5, r2]; exact d4
  · rw [td k hk, j1]
    rcases b k hk with ⟨x1, x2⟩ | ⟨x1, x2, x3, x4, x5⟩
    · left
      refine ⟨x1, (tc k hk).2 (fun i' hi' z => ?_), rfl⟩
      obtain ⟨k', y1, y2, _, _, y5⟩ := c i' (by omega)
      have : k' = k := by omega
      rw [this, x2] at y5
      exact absurd y5 (by decide)
    · right; left
      obtain ⟨i, i1, i2⟩ := kof k hk (by rw [x2]; decide)
      have y9 := (tc k hk).1 ⟨i, i1, i2⟩
      exact ⟨x1, y9, by rw [y9]; exact x4, rfl⟩
  · rw [r2] at hi
    obtain ⟨k, k1, k2, k3, k4, k5⟩ := c i (by omega)
    have y9 := (tc k k1.1).1 ⟨i, by omega, k2⟩
    have z := gs.2.2.2.2.1 k k1
    refine ⟨k, (inl k).mpr k1, ?_, k3, ?_, ?_, ?_⟩
    · rw [tb i (by omega)]; exact k2
    · rw [y9]; exact k4
    · rw [y9]; exact z.1
    · rw [y9]; exact z.2
  · rw [r3] at hi; omega
  · rw [j1, r1, r2]
    show J 1 1 = J 1 1 - sm (I 140) n + sm (I 140) n
    omega
theorem pj_send (h : RJ I J) (hg : GX 0 J) (hrg : RG I) (hc : J 1 70 < 2000000000) : pq (f_S_send fu 0 I) (f_X_send fu 0 J) EQJ := by
  have gs := gx_facts hg
  have hP : PKR I J := h.2.2.2.2.2.1
  obtain ⟨n, hn⟩ : ∃ n : Nat, J 0 35 = (n : Int) := ⟨(J 0 35).toNat, by have := hP.1.2.2.1; omega⟩
  unfold f_S_send f_X_send
  refine pq_br (xv_begins (fu := fu) J) (fun _ J1 _ ⟨g1, ⟨g2, g3, g4, g5, g6⟩, g7⟩ => ?_)
  have hn8 : n ≤ 8 := by have := hP.1; omega
  have hT0 : TKR I J 0 J1 := ⟨⟨by rw [g2]; exact (Int.sub_zero _).symm, g3, g4, g5, g6⟩, fun i' hi' => absurd hi' (Nat.not_lt_zero _), fun k hk => ⟨fun ⟨i', x, _⟩ => absurd x (Nat.not_lt_zero _), fun _ => (g1 k hk).1⟩, fun k hk => (g1 k hk).2, fun q j b1 b2 b3 b4 => g7 q j b1 b3 b4⟩
  refine xv_send6 _ _ I J hP hn hn8 gs.1 gs.2.2.2.2.1 (fun J2 hT => ?_) fu 0 J1 (Nat.zero_le _) hT0
  obtain ⟨hF, f32, inl, j1⟩ := fe_hand h hg hn hT
  have h70 : 0 ≤ J 1 70 := gs.2.2.2.2.2.2
  have j22 : J2 0 22 = J 0 22 := hT.2.2.2.2 0 22 (by omega) (by omega) (by omega) (by omega)
  intro x I' y J' e1 e2
  obtain ⟨x1, I1, a1, a2⟩ := of_zb e1
  obtain ⟨y1, J3, b1, b2⟩ := of_zb e2
  cases b2
  obtain ⟨k1, k2, k3, k4, k5, k6, k7, _⟩ := leave2 (fu := fu) hF (by decide) (fun k hk => by rw [j1]; exact gs.2.2.2.2.1 k ((inl k).mp hk)) (by rw [f32]; decide) ⟨by rw [j1]; exact h70, by rw [j1]; exact hc⟩ (by rw [j1]; exact gs.1) hrg x1 I1 y J' a1 b1
  obtain ⟨x2, I2, c1, c2⟩ := of_zb a2
  cases c2
  have c1' : zb (f_C_clear fu (0 + 137) (I1 (0 + 2) 0) I1) (fun _ I2 => zr 0 I2) = some (x2, I') := c1
  obtain ⟨x3, I3, d1, d2⟩ := of_zb c1'
  cases d2
  obtain ⟨w1, w2, w3⟩ := cv_clear (fu := fu) (0 + 137) (I1 (0 + 2) 0) I1 x3 I' d1
  have fI : ∀ q j, ¬ (q = 1 ∨ q = 8 ∨ q = 9 ∨ q = 11 ∨ q = 12 ∨ q = 13) → I1 q j = I q j := fun q j hq => congrFun (fr_C_leave (fun q => q = 1 ∨ q = 8 ∨ q = 9 ∨ q = 11 ∨ q = 12 ∨ q = 13) fu (0 + 137) (0 + 1) I (by omega) (by omega) (by omega) (by omega) (by omega) (by omega) a1 q hq) j
  have fJ : ∀ q j, ¬ (q = 1 ∨ q = 13 ∨ q = 14 ∨ (q = 0 ∧ (j = 24 ∨ j = 35))) → J' q j = J2 q j := fc_X_goesOff (fun q j => q = 1 ∨ q = 13 ∨ q = 14 ∨ (q = 0 ∧ (j = 24 ∨ j = 35))) fu 0 J2 (fun _ => by omega) (fun _ => by omega) (fun _ => by omega) (by omega) (by omega) b1
  have fJ0 : ∀ q j, (q = 0 ∧ (j = 3 ∨ j = 12 ∨ j = 19 ∨ j = 21)) ∨ q = 2 ∨ q = 6 → J' q j = J q j := fun q j hq => (fJ q j (by omega)).trans (hT.2.2.2.2 q j (by omega) (by omega) (by omega) (by omega))
  have i20 : I1 2 0 = J' 1 1 := k2.1.1 0 (by decide)
  have i20' : I1 2 0 = J 1 1 := (fI 2 0 (by omega)).trans (h.1.1.1.1 0 (by decide))
  have fI' : ∀ q j, ¬ (q = 1 ∨ q = 8 ∨ q = 9 ∨ q = 11 ∨ q = 12 ∨ q = 13 ∨ q = 138 ∨ (q = 137 ∧ 7 ≤ j ∧ j ≤ 11)) → I' q j = I q j := fun q j hq => (w3 q j (by omega) (by omega)).trans (fI q j (by omega))
  have z11 : I' 1 11 = I 1 11 := (w3 1 11 (by omega) (by omega)).trans k6
  have h' := h
  obtain ⟨_, a2', _, _, _, e, ⟨L, t1, t2, t3, t4⟩, f⟩ := h'
  refine ⟨rj_mv h ⟨hr_mv k2 (fun d j q => w3 _ _ (by unfold CH at q; omega) (by unfold CH at q; omega)) (fun _ _ => rfl), ?_, ?_, ?_⟩ z11 (fun q j hq => fI' _ _ (by omega)) (fun q j hq => fJ0 q j (by omega)) (pk_zero k3 k4 (by rw [← i20, i20']; exact gs.1) w1 ⟨by rw [w2.1]; exact i20, w2.2⟩) ⟨L, t1, ?_, ?_, fun j hj => ?_⟩ ⟨?_, ?_⟩, k1⟩
  · rw [z11, k5, j22]; exact h.1.2.1
  · rw [w3 _ _ (by omega) (by omega), k7]; exact h.1.2.2.1
  · rw [w3 _ _ (by omega) (by omega), k7]; exact h.1.2.2.2
  · rw [fI' _ _ (by omega)]; exact t2
  · rw [fJ0 _ _ (by omega)]; exact t3
  · rw [fI' _ _ (by omega), fJ0 _ _ (by omega)]; exact t4 j hj
  · rw [fI' _ _ (by omega), fJ0 _ _ (by omega)]; exact f.1
  · rw [fI' _ _ (by omega), fJ0 _ _ (by omega)]; exact f.2
/-- the hand is emptied first -/
theorem drop2 {I2 : IMem} {x : Int} (h : RJ I J) (e : f_S_dropPicked fu 0 I = some (x, I2)) : x = 0 ∧ (∀ j, j < 240 → I2 138 j = 0) ∧ (I2 137 7 = J 1 1 ∧ I2 137 8 = 0 ∧ I2 137 9 = 0 ∧ I2 137 10 = 0 ∧ I2 137 11 = 0) ∧ (∀ q j, q ≠ 138 → ¬ (q = 137 ∧ 7 ≤ j ∧ j ≤ 11) → I2 q j = I q j) ∧ HX 1 I2 J := by
  have c1' : zb (f_C_clear fu (0 + 137) (I (0 + 2) 0) I) (fun _ I2 => zr 0 I2) = some (x, I2) := e
  obtain ⟨x3, I3, d1, d2⟩ := of_zb c1'
  cases d2
  obtain ⟨w1, w2, w3⟩ := cv_clear (fu := fu) (0 + 137) (I (0 + 2) 0) I x3 I2 d1
  have i20 : I 2 0 = J 1 1 := h.1.1.1.1 0 (by decide)
  refine ⟨rfl, w1, ⟨w2.1.trans i20, w2.2⟩, w3, hr_mv h.1.1 (fun d j q => w3 _ _ (by unfold CH at q; omega) (by unfold CH at q; omega)) (fun _ _ => rfl), ?_, ?_, ?_⟩
  · rw [w3 _ _ (by omega) (by omega)]; exact h.1.2.1
  · rw [w3 _ _ (by omega) (by omega)]; exact h.1.2.2.1
  · rw [w3 _ _ (by omega) (by omega)]; exact h.1.2.2.2
/-- after turns of the hill's own chair, with nobody picked -/
theorem rj_ride {I2 I' J' : IMem} (h : RJ I J) (w1 : ∀ j, j < 240 → I2 138 j = 0) (w2 : I2 137 7 = J 1 1 ∧ I2 137 8 = 0 ∧ I2 137 9 = 0 ∧ I2 137 10 = 0 ∧ I2 137 11 = 0) (w3 : ∀ q j, q ≠ 138 → ¬ (q = 137 ∧ 7 ≤ j ∧ j ≤ 11) → I2 q j = I q j) (hX : HX 1 I' J') (h13 : ∀ j, j < 240 → J' 13 j = 0) (h35 : J' 0 35 = 0) (hs : 2 ≤ J 1 1 ∧ J 1 1 ≤ 8) (fI : ∀ q j, (q = 0 ∨ (2 ≤ q ∧ q ≤ 7) ∨ (41 ≤ q ∧ q ≤ 80) ∨ q = 96 ∨ (137 ≤ q ∧ q ≤ 140) ∨ q = 144 ∨ q = 145 ∨ q = 151) → I' q j = I2 q j) (fJ : ∀ q j, (q = 0 ∧ (j = 3 ∨ j = 12 ∨ j = 19 ∨ j = 21 ∨ j = 22)) ∨ q = 2 ∨ q = 6 → J' q j = J q j) : RJ I' J' := by
  have i20 : I' 2 0 = J' 1 1 := hX.1.1.1 0 (by decide)
  have i20' : I' 2 0 = J 1 1 := ((fI 2 0 (by omega)).trans (w3 2 0 (by omega) (by omega))).trans (h.1.1.1.1 0 (by decide))
  have fI' : ∀ q j, ((q = 0 ∧ j = 8) ∨ (41 ≤ q ∧ q ≤ 80) ∨ q = 96 ∨ q = 144 ∨ q = 145 ∨ q = 151) → I' q j = I q j := fun q j hq => (fI q j (by omega)).trans (w3 q j (by omega) (by omega))
  have z11 : I' 1 11 = I 1 11 := by
    rw [hX.2.1, fJ 0 22 (by omega)]
    exact h.1.2.1.symm
  have h' := h
  obtain ⟨_, a2', _, _, _, e, ⟨L, t1, t2, t3, t4⟩, f⟩ := h'
  refine rj_mv h hX z11 (fun q j hq => fI' _ _ (by omega)) (fun q j hq => fJ q j (by omega)) (pk_zero h13 h35 (by rw [← i20, i20']; exact hs) (fun k hk => by rw [fI _ _ (by omega)]; exact w1 k hk) ⟨?_, ?_, ?_, ?_, ?_⟩) ⟨L, t1, ?_, ?_, fun j hj => ?_⟩ ⟨?_, ?_⟩
  · rw [fI _ _ (by omega), w2.1, ← i20, i20']
  · rw [fI _ _ (by omega)]; exact w2.2.1
  · rw [fI _ _ (by omega)]; exact w2.2.2.1
  · rw [fI _ _ (by omega)]; exact w2.2.2.2.1
  · rw [fI _ _ (by omega)]; exact w2.2.2.2.2
  · rw [fI' _ _ (by omega)]; exact t2
  · rw [fJ _ _ (by omega)]; exact t3
  · rw [fI' _ _ (by omega), fJ _ _ (by omega)]; exact t4 j hj
  · rw [fI' _ _ (by omega), fJ _ _ (by omega)]; exact f.1
  · rw [fI' _ _ (by omega), fJ _ _ (by omega)]; exact f.2
theorem pj_chair (hfu : 5000000000 < fu) (h : RJ I J) (hg : GX 0 J) (hC : GC I) (hc : J 1 70 < 2000000000) : pq (f_S_chair fu 0 I) (f_X_chair fu 0 J) EQJ := by
  have gs := gx_facts hg
  unfold f_S_chair
  intro x I' y J' e1 e2
  obtain ⟨x1, I2, a1, a2⟩ := of_zb e1
  obtain ⟨x2, I3, b1, b2⟩ := of_zb a2
  cases b2
  obtain ⟨_, w1, w2, w3, hX⟩ := drop2 h a1
  have hC2 : GC I2 := by
    have o := par_sat (ok_S_dropPicked fu 0 I hfu hC rfl) x1 I2 a1
    exact o.2.1
  obtain ⟨k1, ⟨k2, _, _⟩, k3, k4, _⟩ := ride2 (fu := fu) (oc := 130) (hb := 1) (Or.inr ⟨rfl, rfl⟩) hfu ⟨hX, hg, hC2⟩ hc x I' y J' b1 e2
  refine ⟨rj_ride h w1 w2 w3 k2 k3 k4 gs.1 (fun q j hq => ?_) (fun q j hq => ?_), k1⟩
  · exact congrFun (fr_C_ride (fun q => (16 ≤ q ∧ q < 41) ∨ (130 ≤ q ∧ q ≤ 136) ∨ q = 1 ∨ q = 8 ∨ q = 9 ∨ q = 11 ∨ q = 12 ∨ q = 13 ∨ q = 14) fu (0 + 130) (0 + 1) I2 (fun q a b => by omega) (by omega) (by omega) (by omega) (by omega) (by omega) (by omega) (by omega) (by omega) (by omega) (by omega) (by omega) (by omega) (by omega) (by omega) b1 q (by omega)) j
  · exact fc_X_chair (fun q j => ¬ ((q = 0 ∧ (j = 3 ∨ j = 12 ∨ j = 19 ∨ j = 21 ∨ j = 22)) ∨ q = 2 ∨ q = 6)) fu 0 J (fun _ => by omega) (fun _ => by omega) (fun _ => by omega) (fun _ => by omega) (fun _ => by omega) (fun _ => by omega) (fun _ => by omega) (fun _ => by omega) (by omega) (by omega) (by omega) (by omega) (by omega) (by omega) (by omega) (by omega) (by omega) (by omega) (by omega) (by omega) (by omega) (by omega) (by omega) (by omega) e2 q j (fun z => z hq)
theorem pj_run (a : Int) (hfu : 5000000000 < fu) (h : RJ I J) (hg : GX 0 J) (hC : GC I) (hc : J 1 70 + 60 < 2000000000) : pq (f_S_run fu 0 a I) (f_X_run fu 0 a J) EQJ := by
  have gs := gx_facts hg
  unfold f_S_run
  by_cases h1 : 1 ≤ a ∧ a ≤ 60
  · rw [if_neg (show ¬ a < 1 by omega), if_neg (show ¬ 60 < a by omega)]
    intro x I' y J' e1 e2
    have fJ := fc_X_run (fun q j => ¬ ((q = 0 ∧ (j = 3 ∨ j = 12 ∨ j = 19 ∨ j = 21 ∨ j = 22)) ∨ q = 2 ∨ q = 6)) fu 0 a J (fun _ => by omega) (fun _ => by omega) (fun _ => by omega) (fun _ => by omega) (fun _ => by omega) (fun _ => by omega) (fun _ => by omega) (fun _ => by omega) (by omega) (by omega) (by omega) (by omega) (by omega) (by omega) (by omega) (by omega) (by omega) (by omega) (by omega) (by omega) (by omega) (by omega) (by omega) (by omega) (by omega) (by omega) e2
    obtain ⟨x1, I2, a1, a2⟩ := of_zb e1
    obtain ⟨x2, I3, b1, b2⟩ := of_zb a2
    cases b2
    obtain ⟨_, w1, w2, w3, hX⟩ := drop2 h a1
    have hC2 : GC I2 := by
      have o := par_sat (ok_S_dropPicked fu 0 I hfu hC rfl) x1 I2 a1
      exact o.2.1
    unfold f_X_run at e2
    rw [ev_isIn, zb_zr, if_pos h1, if_neg ne10] at e2
    obtain ⟨k1, ⟨k2, _, _⟩, k3, k4⟩ := turns2 (fu := fu) (oc := 130) (hb := 1) (Or.inr ⟨rfl, rfl⟩) hfu a h1.2 fu fu 0 0 I2 J (by omega) ⟨hX, hg, hC2⟩ (by omega) (Or.inl (by omega)) x I' y J' b1 e2
    refine ⟨rj_ride h w1 w2 w3 k2 k3 k4 gs.1 (fun q j hq => ?_) (fun q j hq => fJ q j (fun z => z hq)), k1⟩
    exact congrFun (fr_C_turns (fun q => (16 ≤ q ∧ q < 41) ∨ (130 ≤ q ∧ q ≤ 136) ∨ q = 1 ∨ q = 8 ∨ q = 9 ∨ q = 11 ∨ q = 12 ∨ q = 13 ∨ q = 14 ∨ q = 15) fu (0 + 130) (0 + 1) a I2 (fun q a b => by omega) (by omega) (by omega) (by omega) (by omega) (by omega) (by omega) (by omega) (by omega) (by omega) (by omega) (by omega) (by omega) (by omega) (by omega) (by omega) b1 q (by omega)) j
  · rw [out2 (a := a < 1) (b := 60 < a) (by omega)]
    unfold f_X_run
    rw [ev_isIn, zb_zr, if_neg h1, if_pos eq00]
    exact pq_end ⟨h, rfl⟩
end
