/-! calls that tell or set one thing, further: both sides -/
section
variable {fu : Nat} {I J : IMem}
theorem pj_told (a : Int) (h : RJ I J) : pq (f_S_told fu 0 a I) (f_X_told fu 0 a J) EQJ := by
  have hS : HS 1 1 I J := h.1.1.1
  have hP : PKR I J := h.2.2.2.2.2.1
  unfold f_S_told f_X_told
  rw [ev_isIn, zb_zr]
  simp only [zl_e, zj_e]
  by_cases q : 0 ≤ a ∧ a ≤ 5
  · rw [if_neg (show ¬ a < 0 by omega), if_neg (show ¬ 5 < a by omega), if_pos q, if_neg ne10, wr32_i2 (x := 1 + a) (by omega) (by omega)]
    refine pq_gl (fun _ => pq_gr (fun _ => pq_end ⟨h, ?_⟩))
    have e := hS.1 a.toNat (by omega)
    rw [show (1 + a).toNat = 1 + a.toNat by omega]
    exact e
  · rw [if_neg q, if_pos eq00, out2 (a := a < 0) (b := 5 < a) (by omega)]
    refine pq_ii Iff.rfl (fun _ _ => pq_end ⟨h, hP.1.2.1⟩) (fun _ _ => pq_ii Iff.rfl (fun _ _ => pq_end ⟨h, hS.2.2.1⟩) (fun _ _ => pq_ii Iff.rfl (fun _ _ => pq_end ⟨h, hS.2.1⟩) (fun _ _ => pq_end ⟨h, rfl⟩)))
/-- the people of a line's first groups -/
def lsum (J : IMem) (l : Nat) : Nat → Int
  | 0 => 0
  | n + 1 => lsum J l n + J 1 (141 + 6 * (40 * l + n))
def LZ (J : IMem) (l n : Nat) : Prop := ∀ p, p < n → 1 ≤ J 1 (141 + 6 * (40 * l + p)) ∧ J 1 (141 + 6 * (40 * l + p)) ≤ 8
theorem lsum_b {l : Nat} : ∀ n : Nat, LZ J l n → 0 ≤ lsum J l n ∧ lsum J l n ≤ 8 * (n : Int) := by
  intro n
  induction n with
  | zero => intro _; exact ⟨Int.le_refl _, Int.le_refl _⟩
  | succ n ih =>
    intro hz
    obtain ⟨i1, i2⟩ := ih (fun p hp => hz p (by omega))
    obtain ⟨z1, z2⟩ := hz n (by omega)
    have e : lsum J l (n + 1) = lsum J l n + J 1 (141 + 6 * (40 * l + n)) := rfl
    omega
theorem lz_of (hg : GX 0 J) {l n : Nat} (hl : l < 6) (hn : J 1 (130 + l) = (n : Int)) : LZ J l n ∧ n ≤ 40 := by
  obtain ⟨_, hw, _, _, _⟩ := hg
  obtain ⟨_, _, _, _, _, w6, w7, _, _⟩ := hw
  refine ⟨fun p hp => w7 l p hl ?_, ?_⟩
  · show (p : Int) < J 1 (130 + l)
    omega
  · have e : 0 ≤ J 1 (130 + l) ∧ J 1 (130 + l) ≤ 40 := w6 l hl
    omega
theorem w_row (l p : Nat) (hl : l < 6) (hp : p < 41) : wr32 (wr32 ((l : Int) * 40) + (p : Int)) = ((40 * l + p : Nat) : Int) := by
  rw [wr32_i2 (x := (l : Int) * 40) (by omega) (by omega), wr32_i2 (by omega) (by omega)]; omega
theorem w_130 (l : Nat) (hl : l < 6) : wr32 (130 + (l : Int)) = ((130 + l : Nat) : Int) := by
  rw [wr32_i2 (by omega) (by omega)]; omega
theorem w_nx (p : Nat) (hp : p < 1000) : wr32 ((p : Int) + 1) = ((p + 1 : Nat) : Int) := by
  rw [wr32_i2 (by omega) (by omega)]; omega
theorem cv_people {l n : Nat} (hL : HL 1 1 I J) (hl : l < 6) (hn : J 1 (130 + l) = (n : Int)) (n40 : n ≤ 40) (hz : LZ J l n) : ∀ (m p : Nat), p ≤ n → par (f_L_people_11 fu 7 (l : Int) (n : Int) m (lsum J l p) (p : Int) I) (fun v I' => I' = I ∧ v = lsum J l n) := by
  intro m
  induction m with
  | zero => intro _ _; exact par_none
  | succ m ih =>
    intro p hp
    show par (fb_L_people_11 fu 7 (l : Int) (n : Int) (f_L_people_11 fu 7 (l : Int) (n : Int) m) (lsum J l p) (p : Int) I) _
    unfold fb_L_people_11
    by_cases q : p < n
    · rw [if_pos (show (p : Int) < (n : Int) by omega), w_row l p hl (by omega), ev_get1 fu 7 _ I (by omega), zb_zr]
      have c1 : I (7 + 1) (6 * (40 * l + p) + 1) = J 1 (141 + 6 * (40 * l + p)) := (hl_r hL hl (show (p : Int) < J 1 (130 + l) by omega) (show 1 < 6 by decide)).trans (congrArg (J 1) (by omega))
      obtain ⟨b1, b2⟩ := lsum_b (J := J) (l := l) p (fun i hi => hz i (by omega))
      obtain ⟨z1, z2⟩ := hz p q
      rw [c1]
      simp only [zl_e]
      rw [w_nx p (by omega), wr32_i2 (x := lsum J l p + J 1 (141 + 6 * (40 * l + p))) (by omega) (by omega)]
      exact ih (p + 1) q
    · rw [if_neg (show ¬ (p : Int) < (n : Int) by omega)]
      have : p = n := by omega
      subst this
      exact par_zr ⟨rfl, rfl⟩
theorem xv_line2 {Q : Int → IMem → Prop} (kk : Int → IMem → Res) (p2 : Int) {l n : Nat} (hl : l < 6) (hn : J 1 (130 + l) = (n : Int)) (n40 : n ≤ 40) (hz : LZ J l n) (hend : par (kk (lsum J l n) J) Q) : ∀ (m p : Nat), p ≤ n → par (f_X_line_23 fu kk 0 (l : Int) p2 m (lsum J l p) (p : Int) J) Q := by
  intro m
  induction m with
  | zero => intro _ _; exact par_none
  | succ m ih =>
    intro p hp
    show par (fb_X_line_23 fu kk 0 (l : Int) p2 (f_X_line_23 fu kk 0 (l : Int) p2 m) (lsum J l p) (p : Int) J) _
    unfold fb_X_line_23
    simp only [zl_e]
    rw [w_130 l hl]
    refine par_zg (fun _ => ?_)
    rw [show J (0 + 1) ((130 + l : Nat) : Int).toNat = (n : Int) from hn]
    by_cases q : p < n
    · rw [if_pos (show (p : Int) < (n : Int) by omega), ev_of1 fu 0 l p J hl (by omega), zb_zr]
      have c1 : J (0 + 1) (140 + 6 * (40 * l + p) + 1) = J 1 (141 + 6 * (40 * l + p)) := congrArg (J 1) (by omega)
      obtain ⟨b1, b2⟩ := lsum_b (J := J) (l := l) p (fun i hi => hz i (by omega))
      obtain ⟨z1, z2⟩ := hz p q
      rw [c1, w_nx p (by omega), wr32_i2 (x := lsum J l p + J 1 (141 + 6 * (40 * l + p))) (by omega) (by omega)]
      exact ih (p + 1) q
    · rw [if_neg (show ¬ (p : Int) < (n : Int) by omega)]
      have : p = n := by omega
      subst this
      exact hend
theorem pj_line (a b : Int) (h : RJ I J) (hg : GX 0 J) : pq (f_S_line fu 0 a b I) (f_X_line fu 0 a b J) EQJ := by
  have hL : HL 1 1 I J := h.1.1.2.2.2.1
  unfold f_S_line f_X_line
  rw [ev_isLine, ev_xLine, zb_zr, zb_zr]
  by_cases h1 : 0 ≤ a ∧ a < 6
  · rw [if_pos h1, if_neg ne10, if_neg ne10, ev_isIn, zb_zr]
    by_cases h2 : 0 ≤ b ∧ b ≤ 1
    · rw [if_neg (show ¬ b < 0 by omega), if_neg (show ¬ 1 < b by omega), if_pos h2, if_neg ne10]
      obtain ⟨l, rfl⟩ : ∃ l : Nat, a = (l : Int) := ⟨a.toNat, by omega⟩
      have hl : l < 6 := by omega
      obtain ⟨c1, c2, c3⟩ := hl_c hL hl
      obtain ⟨n, hn⟩ : ∃ n : Nat, J 1 (130 + l) = (n : Int) := ⟨(J 1 (130 + l)).toNat, by omega⟩
      obtain ⟨hz, n40⟩ := lz_of hg hl hn
      by_cases h3 : b = 0
      · rw [if_pos h3]
        refine pq_gl (fun _ => pq_r ?_)
        refine xv_line2 _ b hl hn n40 hz ?_ fu 0 (Nat.zero_le _)
        rw [if_pos h3]
        simp only [zl_e]
        rw [w_130 l hl]
        exact par_zg (fun _ => par_zr ⟨h, c1⟩)
      · rw [if_neg h3]
        unfold f_L_people
        rw [ev_countOf fu (0 + 7) l I hl (show I 9 l ≤ 40 by have : I 9 l = J 1 (130 + l) := c1; omega), zb_zr, show I (0 + 7 + 2) l = (n : Int) from c1.trans hn]
        refine pq_bl (cv_people hL hl hn n40 hz fu 0 (Nat.zero_le _)) (fun x I1 _ ⟨g1, g2⟩ => pq_r ?_)
        refine xv_line2 _ b hl hn n40 hz ?_ fu 0 (Nat.zero_le _)
        rw [if_neg h3, g1, g2]
        exact par_zr ⟨h, rfl⟩
    · rw [if_neg h2, if_pos eq00, out2 (a := b < 0) (b := 1 < b) (by omega)]
      exact pq_end ⟨h, rfl⟩
  · rw [if_neg h1, if_pos eq00, if_pos eq00]
    exact pq_end ⟨h, rfl⟩
theorem fold2 {l n : Nat} {wd pl : Int} (h : RJ I J) (hl : l < 6) (hn : J 1 (130 + l) = (n : Int)) (n40 : n ≤ 40) (hz : LZ J l n) (hw : 1 ≤ wd ∧ wd ≤ 40) : ∀ (m m2 p : Nat) (w f u : Int), p ≤ n → f = wd - u → 0 ≤ u → u ≤ wd → pq (f_L_rowOf_16 fu 7 (l : Int) wd pl (n : Int) m w f (p : Int) I) (f_X_folded_48 fu 0 (l : Int) wd pl m2 w u (p : Int) J) EQJ := by
  have hL : HL 1 1 I J := h.1.1.2.2.2.1
  intro m
  induction m with
  | zero => intro _ _ _ _ _ _ _ _ _; exact pq_nl
  | succ m ih =>
    intro m2
    cases m2 with
    | zero => intro _ _ _ _ _ _ _ _; exact pq_nr
    | succ m2 =>
      intro p w f u hp hf u0 u1
      show pq (fb_L_rowOf_16 fu 7 (l : Int) wd pl (n : Int) (f_L_rowOf_16 fu 7 (l : Int) wd pl (n : Int) m) w f (p : Int) I) (fb_X_folded_48 fu 0 (l : Int) wd pl (f_X_folded_48 fu 0 (l : Int) wd pl m2) w u (p : Int) J) EQJ
      unfold fb_L_rowOf_16 fb_X_folded_48
      simp only [zl_e, zj_e]
      rw [w_130 l hl]
      refine pq_gr (fun _ => ?_)
      rw [show J (0 + 1) ((130 + l : Nat) : Int).toNat = (n : Int) from hn]
      by_cases q : p < n
      · rw [if_pos (show (p : Int) < (n : Int) by omega), if_pos (show (p : Int) < (n : Int) by omega), w_row l p hl (by omega), ev_get1 fu 7 _ I (by omega), zb_zr, ev_of1 fu 0 l p J hl (by omega), zb_zr]
        have c1 : I (7 + 1) (6 * (40 * l + p) + 1) = J 1 (141 + 6 * (40 * l + p)) := (hl_r hL hl (show (p : Int) < J 1 (130 + l) by omega) (show 1 < 6 by decide)).trans (congrArg (J 1) (by omega))
        have c2 : J (0 + 1) (140 + 6 * (40 * l + p) + 1) = J 1 (141 + 6 * (40 * l + p)) := congrArg (J 1) (by omega)
        obtain ⟨z1, z2⟩ := hz p q
        rw [c1, c2]
        generalize hs : J 1 (141 + 6 * (40 * l + p)) = s at z1 z2
        rw [w_nx p (by omega)]
        have fin : ∀ (w' f' u' a' : Int), f' = wd - u' → 0 ≤ u' → u' ≤ wd → pq (if (p : Int) = pl then zr a' I else f_L_rowOf_16 fu 7 (l : Int) wd pl (n : Int) m w' f' ((p + 1 : Nat) : Int) I) (if (p : Int) = pl then zr a' J else f_X_folded_48 fu 0 (l : Int) wd pl m2 w' u' ((p + 1 : Nat) : Int) J) EQJ := fun w' f' u' a' e1 e2 e3 => pq_ii Iff.rfl (fun _ _ => pq_end ⟨h, rfl⟩) (fun _ _ => ih m2 (p + 1) w' f' u' q e1 e2 e3)
        by_cases k1 : wd < s
        · rw [if_pos (show f < s by omega), if_pos k1, if_pos (show 0 < wd by omega), if_pos k1]
          refine pq_gl (fun _ => pq_gr (fun _ => ?_))
          exact fin _ 0 wd w (by omega) (by omega) (by omega)
        · by_cases k2 : wd < u + s
          · rw [if_pos (show f < s by omega), if_neg k1, if_neg k1, wr32_i2 (x := u + s) (by omega) (by omega), if_pos k2, wr32_i2 (x := wd - s) (by omega) (by omega)]
            exact fin _ (wd - s) s w rfl (by omega) (by omega)
          · rw [if_neg (show ¬ f < s by omega), if_neg k1, wr32_i2 (x := u + s) (by omega) (by omega), if_neg k2, wr32_i2 (x := f - s) (by omega) (by omega)]
            exact fin w (f - s) (u + s) _ (by omega) (by omega) (by omega)
      · rw [if_neg (show ¬ (p : Int) < (n : Int) by omega), if_neg (show ¬ (p : Int) < (n : Int) by omega)]
        exact pq_end ⟨h, rfl⟩
theorem pj_folded (a b c : Int) (h : RJ I J) (hg : GX 0 J) : pq (f_S_folded fu 0 a b c I) (f_X_folded fu 0 a b c J) EQJ := by
  have hL : HL 1 1 I J := h.1.1.2.2.2.1
  unfold f_S_folded f_X_folded
  rw [ev_isLine, ev_xLine, zb_zr, zb_zr]
  by_cases h1 : 0 ≤ a ∧ a < 6
  · rw [if_pos h1, if_neg ne10, if_neg ne10, ev_isIn, zb_zr]
    by_cases h2 : 1 ≤ b ∧ b ≤ 40
    · rw [if_neg (show ¬ b < 1 by omega), if_neg (show ¬ 40 < b by omega), if_pos h2, if_neg ne10]
      obtain ⟨l, rfl⟩ : ∃ l : Nat, a = (l : Int) := ⟨a.toNat, by omega⟩
      have hl : l < 6 := by omega
      obtain ⟨c1, c2, c3⟩ := hl_c hL hl
      obtain ⟨n, hn⟩ : ∃ n : Nat, J 1 (130 + l) = (n : Int) := ⟨(J 1 (130 + l)).toNat, by omega⟩
      obtain ⟨hz, n40⟩ := lz_of hg hl hn
      simp only [zl_e]
      rw [w_130 l hl]
      refine pq_gr (fun _ => ?_)
      rw [show J (0 + 1) ((130 + l : Nat) : Int).toNat = (n : Int) from hn, wr32_i2 (x := (n : Int) - 1) (by omega) (by omega), ev_isIn, zb_zr]
      by_cases h3 : c < -1
      · rw [if_pos h3, if_neg (show ¬ (-1 ≤ c ∧ c ≤ (n : Int) - 1) by omega), if_pos eq00]
        exact pq_end ⟨h, rfl⟩
      · rw [if_neg h3]
        refine pq_gl (fun _ => ?_)
        rw [show I (0 + 9) ((l : Nat) : Int).toNat = (n : Int) from c1.trans hn]
        by_cases h4 : c < (n : Int)
        · rw [if_pos h4, if_pos (show -1 ≤ c ∧ c ≤ (n : Int) - 1 by omega), if_neg ne10]
          unfold f_L_rowOf
          rw [ev_countOf fu (0 + 7) l I hl (show I 9 l ≤ 40 by have : I 9 l = J 1 (130 + l) := c1; omega), zb_zr, show I (0 + 7 + 2) l = (n : Int) from c1.trans hn]
          intro x I' y J' e1 e2
          obtain ⟨x1, I1, a1, a2⟩ := of_zb e1
          cases a2
          exact fold2 h hl hn n40 hz h2 fu fu 0 0 0 b (Nat.zero_le _) (by omega) (by omega) (by omega) x I' y J' a1 e2
        · rw [if_neg h4, if_neg (show ¬ (-1 ≤ c ∧ c ≤ (n : Int) - 1) by omega), if_pos eq00]
          exact pq_end ⟨h, rfl⟩
    · rw [if_neg h2, if_pos eq00, out2 (a := b < 1) (b := 40 < b) (by omega)]
      exact pq_end ⟨h, rfl⟩
  · rw [if_neg h1, if_pos eq00, if_pos eq00]
    exact pq_end ⟨h, rfl⟩
theorem cv_pastAt2 (c : Int) (hc : 0 ≤ c ∧ c < 2147483647) : par (f_H_pastAt fu c I) (fun v I' => I' = I ∧ (v = 3 * (c % 60) ∨ (180 ≤ v ∧ v < 400))) := by
  unfold f_H_pastAt f_JM_floorMod
  simp only [zl_e]
  rw [zg_t (by decide), wrem_i2 (a := c) (c := 60) (by omega) (by omega) (by decide) (by decide)]
  refine par_zb (Q1 := fun v I' => I' = I ∧ (v = c % 60 ∨ v = c % 60 + 60)) ?_ (fun v I' ⟨g1, g2⟩ => par_zr ⟨g1, ?_⟩)
  · refine par_ite (fun _ => par_ite (fun _ => par_zr ⟨rfl, Or.inl rfl⟩) (fun _ => par_zr ⟨rfl, Or.inr ?_⟩)) (fun _ => par_zr ⟨rfl, Or.inl rfl⟩)
    exact wr32_i2 (by omega) (by omega)
  · rcases g2 with g2 | g2
    · left; rw [g2, wr32_i2 (by omega) (by omega)]; omega
    · right; rw [g2, wr32_i2 (by omega) (by omega)]; omega
theorem pj_past (a b : Int) (h : RJ I J) (hc : 0 ≤ J 1 70 ∧ J 1 70 < 2000000000) : pq (f_S_past fu 0 a b I) (f_X_past fu 0 a b J) EQJ := by
  have hY : HY 1 1 I J := h.1.1.2.1
  have hP : HP 1 1 I J := h.1.1.2.2.1
  have t0 : I 11 0 = J 1 70 := hY.1 0 (by decide)
  unfold f_S_past f_X_past
  rw [ev_isIn, zb_zr]
  simp only [zl_e, zj_e]
  by_cases h1 : 0 ≤ a ∧ a ≤ 59
  · rw [if_neg (show ¬ a < 0 by omega), if_pos (show a < 60 by omega), if_pos h1, if_neg ne10, if_neg ne10, show I (0 + 11) 0 = J 1 70 from t0, show J (0 + 1) 70 = J 1 70 from rfl]
    refine pq_ii Iff.rfl (fun q _ => ?_) (fun _ _ => ?_)
    · rw [ev_isIn, zb_zr]
      by_cases h2 : 0 ≤ b ∧ b ≤ 2
      · rw [if_neg (show ¬ b < 0 by omega), if_neg (show ¬ 2 < b by omega), if_pos h2, if_neg ne10]
        unfold f_H_pastChair
        rw [if_neg (show ¬ b < 0 by omega), if_pos (show b < 3 by omega), show I (0 + 1 + 10) 0 = J 1 70 from t0]
        rw [wr32_i2 (x := J 1 70 - 1) (by omega) (by omega), wr32_i2 (x := J 1 70 - 1 - a) (by omega) (by omega), wrem_i2 (a := J 1 70 - 1 - a) (c := 60) (by omega) (by omega) (by decide) (by decide), wr32_i2 (x := 3 * ((J 1 70 - 1 - a) % 60)) (by omega) (by omega), wr32_i2 (x := 6010 + 3 * ((J 1 70 - 1 - a) % 60)) (by omega) (by omega), wr32_i2 (x := 6010 + 3 * ((J 1 70 - 1 - a) % 60) + b) (by omega) (by omega)]
        refine pq_gr (fun _ => pq_l ?_)
        refine par_zb (Q1 := fun v I' => I' = I ∧ v = J 1 (6010 + 3 * ((J 1 70 - 1 - a) % 60) + b).toNat) ?_ (fun v I1 ⟨g1, g2⟩ => par_zr ⟨by rw [g1]; exact h, g2⟩)
        refine par_zb (cv_pastAt2 (J 1 70 - 1 - a) (by omega)) (fun v I1 ⟨g1, g2⟩ => ?_)
        simp only [zl_e]
        rcases g2 with g2 | g2
        · rw [g2, g1, wr32_i2 (x := 3 * ((J 1 70 - 1 - a) % 60) + b) (by omega) (by omega)]
          refine par_zg (fun _ => par_zr ⟨rfl, ?_⟩)
          have e := hP.2.2.2.2 (3 * ((J 1 70 - 1 - a) % 60) + b).toNat (by omega)
          exact e.trans (congrArg (J 1) (by omega))
        · refine par_zg (fun z => ?_)
          rw [wr32_i2 (x := v + b) (by omega) (by omega)] at z
          omega
      · rw [if_neg h2, if_pos eq00]
        by_cases h3 : b < 0
        · rw [if_pos h3, if_pos trivial]; exact pq_end ⟨h, rfl⟩
        · rw [if_neg h3, if_pos (show 2 < b by omega), if_pos trivial]; exact pq_end ⟨h, rfl⟩
    · rw [if_pos trivial]; exact pq_end ⟨h, rfl⟩
  · rw [if_neg h1, if_pos eq00]
    by_cases h3 : a < 0
    · rw [if_pos h3, if_pos trivial]; exact pq_end ⟨h, rfl⟩
    · rw [if_neg h3, if_neg (show ¬ a < 60 by omega), if_pos trivial]; exact pq_end ⟨h, rfl⟩
theorem pj_last (a : Int) (h : RJ I J) (hg : GX 0 J) : pq (f_S_last fu 0 a I) (f_X_last fu 0 a J) EQJ := by
  have hY : HY 1 1 I J := h.1.1.2.1
  obtain ⟨p1, p2, p3, p4, _⟩ : HP 1 1 I J := h.1.1.2.2.1
  have t0 : I 11 0 = J 1 70 := hY.1 0 (by decide)
  have hb : -1 ≤ J 1 110 ∧ J 1 110 ≤ 8 := ⟨hg.2.1.1.2.2.2.2.2.1, hg.2.1.1.2.2.2.2.2.2⟩
  unfold f_S_last f_X_last
  simp only [zl_e, zj_e]
  rw [show J (0 + 1) 110 = J 1 110 from rfl, show I (0 + 11) 0 = J 1 70 from t0]
  by_cases z : J 1 110 = -1
  · rw [if_pos z, if_pos (p1.mp z)]
    by_cases h1 : a < 0
    · rw [if_pos h1]; exact pq_end ⟨h, rfl⟩
    · rw [if_neg h1]
      by_cases h2 : a < 30
      · rw [if_pos h2]; exact pq_end ⟨h, rfl⟩
      · rw [if_neg h2]; exact pq_end ⟨h, rfl⟩
  · have z2 : ¬ J 1 70 = 0 := fun q => z (p1.mpr q)
    have e0 : I 12 0 = J 1 110 := p2 z
    rw [if_neg z, if_neg z2, ev_isIn, zb_zr, wr32_i2 (x := 9 + J 1 110) (by omega) (by omega), show I (0 + 12) 0 = J 1 110 from e0]
    generalize hx : J 1 110 = x at hb z
    by_cases h1 : 0 ≤ a ∧ a < 30
    · rw [if_neg (show ¬ a < 0 by omega), if_pos (show a < 30 by omega)]
      by_cases h2 : a < 10
      · rw [if_pos h2, if_neg (show ¬ (10 ≤ a ∧ a ≤ 9 + x) by omega), if_pos eq00, ev_isIn, zb_zr, wr32_i2 (x := 19 + x) (by omega) (by omega), if_neg (show ¬ (20 ≤ a ∧ a ≤ 19 + x) by omega), if_pos eq00]
        by_cases h3 : a < 2
        · rw [if_pos h3, if_neg ne10]
          refine pq_gl (fun _ => ?_)
          by_cases h4 : a = 0
          · rw [if_pos h4]
            refine pq_end ⟨h, ?_⟩
            rw [h4]
            exact e0.trans hx
          · rw [if_neg h4, if_pos (show a = 1 by omega)]
            refine pq_end ⟨h, ?_⟩
            rw [show a = 1 by omega]
            exact p3
        · rw [if_neg h3, if_pos trivial, if_neg (show ¬ a = 0 by omega), if_neg (show ¬ a = 1 by omega)]
          exact pq_end ⟨h, rfl⟩
      · rw [if_neg h2, wrem_i2 (a := a) (c := 10) (by omega) (by omega) (by decide) (by decide)]
        by_cases h3 : a % 10 < x
        · rw [if_pos h3, if_neg ne10]
          refine pq_gl (fun _ => ?_)
          by_cases h4 : 10 ≤ a ∧ a ≤ 9 + x
          · rw [if_pos h4, if_neg ne10, wr32_i2 (x := 112 + a) (by omega) (by omega), wr32_i2 (x := 112 + a - 10) (by omega) (by omega)]
            refine pq_gr (fun _ => pq_end ⟨h, ?_⟩)
            have e := (p4 (a - 10).toNat (by omega)).1
            rw [show 10 + (a - 10).toNat = a.toNat by omega, show 112 + (a - 10).toNat = (112 + a - 10).toNat by omega] at e
            exact e
          · rw [if_neg h4, if_pos eq00, ev_isIn, zb_zr, wr32_i2 (x := 19 + x) (by omega) (by omega), if_pos (show 20 ≤ a ∧ a ≤ 19 + x by omega), if_neg ne10, wr32_i2 (x := 120 + a) (by omega) (by omega), wr32_i2 (x := 120 + a - 20) (by omega) (by omega)]
            refine pq_gr (fun _ => pq_end ⟨h, ?_⟩)
            have e := (p4 (a - 20).toNat (by omega)).2
            rw [show 20 + (a - 20).toNat = a.toNat by omega, show 120 + (a - 20).toNat = (120 + a - 20).toNat by omega] at e
            exact e
        · rw [if_neg h3, if_pos trivial, if_neg (show ¬ (10 ≤ a ∧ a ≤ 9 + x) by omega), if_pos eq00, ev_isIn, zb_zr, wr32_i2 (x := 19 + x) (by omega) (by omega), if_neg (show ¬ (20 ≤ a ∧ a ≤ 19 + x) by omega), if_pos eq00, if_neg (show ¬ a = 0 by omega), if_neg (show ¬ a = 1 by omega)]
          exact pq_end ⟨h, rfl⟩
    · rw [if_neg (show ¬ (10 ≤ a ∧ a ≤ 9 + x) by omega), if_pos eq00, ev_isIn, zb_zr, wr32_i2 (x := 19 + x) (by omega) (by omega), if_neg (show ¬ (20 ≤ a ∧ a ≤ 19 + x) by omega), if_pos eq00, if_neg (show ¬ a = 0 by omega), if_neg (show ¬ a = 1 by omega)]
      by_cases h2 : a < 0
      · rw [if_pos h2]; exact pq_end ⟨h, rfl⟩
      · rw [if_neg h2, if_neg (show ¬ a < 30 by omega)]; exact pq_end ⟨h, rfl⟩
theorem pj_group (a b c : Int) (h : RJ I J) (hg : GX 0 J) : pq (f_S_group fu 0 a b c I) (f_X_group fu 0 a b c J) EQJ := by
  obtain ⟨hS, hY, hP, hL, hW⟩ : HR 1 1 I J := h.1.1
  have f6 : 0 ≤ J 1 6 ∧ J 1 6 ≤ 3 := ⟨hg.2.1.1.2.2.1, hg.2.1.1.2.2.2.1⟩
  unfold f_S_group f_X_group
  rw [ev_isLine, ev_xLine, zb_zr, zb_zr]
  by_cases h1 : 0 ≤ a ∧ a < 6
  · rw [if_pos h1, if_neg ne10, if_neg ne10, ev_isIn, zb_zr]
    by_cases h2 : 0 ≤ b ∧ b ≤ 39
    · rw [if_neg (show ¬ b < 0 by omega), if_pos (show b < 40 by omega), if_pos h2, if_neg ne10, ev_isIn, zb_zr]
      by_cases h3 : 0 ≤ c ∧ c ≤ 6
      · rw [if_neg (show ¬ c < 0 by omega), if_neg (show ¬ 6 < c by omega), if_pos h3, if_neg ne10]
        obtain ⟨l, rfl⟩ : ∃ l : Nat, a = (l : Int) := ⟨a.toNat, by omega⟩
        obtain ⟨p, rfl⟩ : ∃ p : Nat, b = (p : Int) := ⟨b.toNat, by omega⟩
        have hl : l < 6 := by omega
        obtain ⟨c1, c2, c3⟩ := hl_c hL hl
        simp only [zl_e]
        rw [w_130 l hl, ev_has fu (0 + 7) l p I hl, zb_zr, w_row l p hl (by omega), show I (0 + 7 + 2) l = J 1 (130 + l) from c1]
        refine pq_gr (fun _ => ?_)
        rw [show J (0 + 1) ((130 + l : Nat) : Int).toNat = J 1 (130 + l) from rfl]
        by_cases hp : (p : Int) < J 1 (130 + l)
        · rw [if_pos (show 0 ≤ (p : Int) ∧ (p : Int) < J 1 (130 + l) by omega), if_neg ne10, if_pos hp]
          by_cases h6 : c = 6
          · rw [if_pos h6, if_pos h6]
            obtain ⟨k, hk⟩ : ∃ k : Nat, J 1 6 = (k : Int) := ⟨(J 1 6).toNat, by omega⟩
            have hk4 : k < 4 := by omega
            obtain ⟨law, L1, L2, L3⟩ := hW k (by omega)
            have q5 : I 2 5 = (k : Int) := (hS.1 5 (by decide)).trans hk
            have q0 : I (0 + 2) 0 = J 1 1 := hS.1 0 (by decide)
            rw [q0, show J (0 + 1) 1 = J 1 1 from rfl]
            refine pq_bl (cv_facts (hb := 1) (l := l) (p := p) (left := J 1 1) (taken := 0) (s := (k : Int)) (by omega) hL hl hp) (fun _ I1 _ ⟨g1, g2⟩ => ?_)
            have r5 : I1 (0 + 1 + 1) 5 = (k : Int) := (g1 2 5 (by decide)).trans q5
            rw [ev_law fu (0 + 1) I1 (by rw [r5]; omega), zb_zr, r5]
            refine pq_bl (cv_value (ol := 1 + 15 + 5 * k) (o3 := 14) (s := (k : Int)) (l := law) (F := WF J l p (J 1 1) 0) (fun d hd => by omega) L3 I1 (lc_mv L1 (fun d j hd => g1 _ _ (by omega))) g2) (fun v I2 _ ⟨g3, g4⟩ => pq_r ?_)
            refine par_zb (xv_worth (k := k) (law := law) hl hp c3 hk4 hk L3 L2) (fun y J1 ⟨g5, g6⟩ => par_zr ⟨?_, g3.trans g5.symm⟩)
            refine rj_same h (fun q j hq => ?_) (fun q j hq => g6 _ _ (by omega) (by omega))
            rw [g4 _ _ (by omega), g1 _ _ (by omega)]
          · rw [if_neg h6, if_neg h6]
            obtain ⟨f, rfl⟩ : ∃ f : Nat, c = (f : Int) := ⟨c.toNat, by omega⟩
            rw [ev_get fu (0 + 7) _ f I (by omega) (by omega), zb_zr, ev_of fu 0 l p f J hl (by omega) (by omega), zb_zr]
            exact pq_end ⟨h, hl_r hL hl hp (by omega)⟩
        · rw [if_neg (show ¬ (0 ≤ (p : Int) ∧ (p : Int) < J 1 (130 + l)) by omega), if_pos eq00, if_neg hp]
          exact pq_end ⟨h, rfl⟩
      · rw [if_neg h3, if_pos eq00, out2 (a := c < 0) (b := 6 < c) (by omega)]
        exact pq_end ⟨h, rfl⟩
    · rw [if_neg h2, if_pos eq00]
      by_cases h3 : b < 0
      · rw [if_pos h3]; exact pq_end ⟨h, rfl⟩
      · rw [if_neg h3, if_neg (show ¬ b < 40 by omega)]; exact pq_end ⟨h, rfl⟩
  · rw [if_neg h1, if_pos eq00, if_pos eq00]
    exact pq_end ⟨h, rfl⟩
theorem pj_count (a : Int) (h : RJ I J) : pq (f_S_count fu 0 a I) (f_X_count fu 0 a J) (fun _ I' _ J' => RJ I' J') := by
  intro x I' y J' e1 e2
  have a1 : I' = I := funext fun q => fr_S_count (fun _ => False) fu 0 a I e1 q (fun z => z)
  have a2 : J' = J := funext fun q => funext fun j => fc_X_count (fun _ _ => False) fu 0 a J e2 q j (fun z => z)
  rw [a1, a2]; exact h
end
