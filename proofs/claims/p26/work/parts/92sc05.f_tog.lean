/-! together: the answer -/
section
variable {fu : Nat} {I J : IMem}
theorem ev_has1 {l p : Nat} (hL : HL 1 1 I J) (hl : l < 6) (hp : (p : Int) < J 1 (130 + l)) : f_L_has fu (0 + 7) (l : Int) (p : Int) I = zr 1 I := by
  have c1 : I (0 + 7 + 2) l = J 1 (130 + l) := (hl_c hL hl).1
  rw [ev_has fu (0 + 7) l (p : Int) I hl, c1, if_pos (show 0 ≤ (p : Int) ∧ (p : Int) < J 1 (130 + l) by omega)]
theorem ev_hasN {a b : Int} (hL : HL 1 1 I J) (h : ¬ ∃ l p : Nat, l < 6 ∧ a = (l : Int) ∧ b = (p : Int) ∧ (p : Int) < J 1 (130 + l)) : f_L_has fu (0 + 7) a b I = zr 0 I := by
  by_cases h1 : 0 ≤ a ∧ a < 6
  · obtain ⟨l, rfl⟩ : ∃ l : Nat, a = (l : Int) := ⟨a.toNat, by omega⟩
    have hl : l < 6 := by omega
    have c1 : I (0 + 7 + 2) l = J 1 (130 + l) := (hl_c hL hl).1
    rw [ev_has fu (0 + 7) l b I hl, c1, if_neg (show ¬ (0 ≤ b ∧ b < J 1 (130 + l)) from fun z => h ⟨l, b.toNat, hl, rfl, by omega, by omega⟩)]
  · exact ev_has0 fu (0 + 7) a b I h1
theorem ev_canJoin {l p l2 p2 : Nat} (hL : HL 1 1 I J) (hg : GX 0 J) (hl : l < 6) (hp : (p : Int) < J 1 (130 + l)) (p40 : p < 40) (hl2 : l2 < 6) (hp2 : (p2 : Int) < J 1 (130 + l2)) (p240 : p2 < 40) : ∃ v, f_L_canJoin fu (0 + 7) ((40 * l + p : Nat) : Int) ((40 * l2 + p2 : Nat) : Int) I = zr v I ∧ ((v = 1 ∧ (PLk J (40 * l + p) ∧ PLk J (40 * l2 + p2) ∧ 40 * l2 + p2 ≠ 40 * l + p ∧ J 1 (141 + 6 * (40 * l + p)) + J 1 (141 + 6 * (40 * l2 + p2)) ≤ 8)) ∨ (v = 0 ∧ ¬ (PLk J (40 * l + p) ∧ PLk J (40 * l2 + p2) ∧ 40 * l2 + p2 ≠ 40 * l + p ∧ J 1 (141 + 6 * (40 * l + p)) + J 1 (141 + 6 * (40 * l2 + p2)) ≤ 8))) := by
  unfold f_L_canJoin
  by_cases y : 40 * l2 + p2 = 40 * l + p
  · rw [if_pos (show ((40 * l + p : Nat) : Int) = ((40 * l2 + p2 : Nat) : Int) by omega)]
    exact ⟨0, rfl, Or.inr ⟨rfl, fun z => z.2.2.1 y⟩⟩
  · rw [if_neg (show ¬ ((40 * l + p : Nat) : Int) = ((40 * l2 + p2 : Nat) : Int) by omega)]
    obtain ⟨v1, e1, h1⟩ := ev_cplain (fu := fu) (k := 40 * l + p) hL hl hp rfl p40
    obtain ⟨v2, e2, h2⟩ := ev_cplain (fu := fu) (k := 40 * l2 + p2) hL hl2 hp2 rfl p240
    rw [e1, zb_zr]
    rcases h1 with ⟨q1, k1⟩ | ⟨q1, k1⟩
    · rw [if_neg (show ¬ v1 = 0 by omega), e2, zb_zr]
      rcases h2 with ⟨q2, k2⟩ | ⟨q2, k2⟩
      · have a1 : I (0 + 7 + 1) (6 * (40 * l + p) + 1) = J (0 + 1) (140 + 6 * (40 * l + p) + 1) := hl_r (l := l) (p := p) (f := 1) hL hl hp (by decide)
        have a2 : I (0 + 7 + 1) (6 * (40 * l2 + p2) + 1) = J (0 + 1) (140 + 6 * (40 * l2 + p2) + 1) := hl_r (l := l2) (p := p2) (f := 1) hL hl2 hp2 (by decide)
        rw [if_neg (show ¬ v2 = 0 by omega), ev_get1 fu (0 + 7) (40 * l + p) I (by omega), zb_zr, ev_get1 fu (0 + 7) (40 * l2 + p2) I (by omega), zb_zr, a1, a2, (sz_sum hg hl hp p40 hl2 hp2 p240).e]
        by_cases q : 8 < J 1 (141 + 6 * (40 * l + p)) + J 1 (141 + 6 * (40 * l2 + p2))
        · rw [if_pos q]
          exact ⟨0, rfl, Or.inr ⟨rfl, fun z => by have := z.2.2.2; omega⟩⟩
        · rw [if_neg q]
          exact ⟨1, rfl, Or.inl ⟨rfl, k1, k2, y, by omega⟩⟩
      · rw [if_pos q2]
        exact ⟨0, rfl, Or.inr ⟨rfl, fun z => k2 z.2.1⟩⟩
    · rw [if_pos q1]
      exact ⟨0, rfl, Or.inr ⟨rfl, fun z => k1 z.1⟩⟩
theorem tog_yes {l p l2 p2 : Nat} {w : Int} (hfu : 5000000000 < fu) (h : HR 1 1 I J) (h11 : I 1 11 = J 0 22) (hA : HA 82 I) (hg : GX 0 J) (hC : GC I) (hU : NUQ J) (hc : J 1 70 + 60 < 1900000000) (hl : l < 6) (hp : (p : Int) < J 1 (130 + l)) (p40 : p < 40) (hl2 : l2 < 6) (hp2 : (p2 : Int) < J 1 (130 + l2)) (p240 : p2 < 40) (hk : OKJ J l p l2 p2 w) : pq (cTG fu ((40 * l + p : Nat) : Int) ((40 * l2 + p2 : Nat) : Int) w I) (xTG fu (l : Int) (p : Int) (l2 : Int) (p2 : Int) w J) (fun x _ y _ => x = y) := by
  obtain ⟨_, _, hne, hs, hw0, hw1⟩ := hk
  have t1 : (130 + (l : Int)).toNat = 130 + l := by omega
  have t2 : (130 + (l2 : Int)).toNat = 130 + l2 := by omega
  have t3 : (140 + 6 * (40 * (l : Int) + (p : Int)) + 1).toNat = 141 + 6 * (40 * l + p) := by omega
  have t4 : (140 + 6 * (40 * (l2 : Int) + (p2 : Int)) + 1).toNat = 141 + 6 * (40 * l2 + p2) := by omega
  unfold cTG xTG
  rw [ev_of1 fu 0 l p J hl p40, zb_zr, ev_of1 fu 0 l2 p2 J hl2 p240, zb_zr, (sz_sum hg hl hp p40 hl2 hp2 p240).e, if_neg (show ¬ 8 < J 1 (141 + 6 * (40 * l + p)) + J 1 (141 + 6 * (40 * l2 + p2)) by omega), ev_isIn, zb_zr, if_pos (show 0 ≤ w ∧ w ≤ 1 from ⟨hw0, hw1⟩), if_neg ne10]
  refine pq_b (joined2 hfu h h11 hA hg hC hU hc hl hp hl2 hp2 hne hs) (fun x I1 y J1 e1 e2 g => ?_)
  obtain ⟨_, hC1, _⟩ := par_sat (ok_M_tillJoined fu (0 + 81) (0 + 1) ((40 * l + p : Nat) : Int) ((40 * l2 + p2 : Nat) : Int) I hfu hC (by omega) (by omega) (by unfold inr; omega) (by unfold inr; omega) (by omega)) x I1 e1
  obtain ⟨_, hg1, sa1⟩ := par_sat (ok_X_joined fu 0 (l : Int) (p : Int) (l2 : Int) (p2 : Int) J hfu hg (by unfold inr; omega) (by unfold inr; omega) (by unfold inr; omega) (by unfold inr; omega) ⟨by omega, by omega, by omega, by omega, by rw [t1]; exact hp, by omega, by omega, by omega, by omega, by rw [t2]; exact hp2⟩ (by rw [t3, t4]; exact hs) (by show J 1 70 < 1900000000; omega)) y J1 e2
  have k1 : ∀ j, j < 6190 → J1 1 j = J 1 j := sa1.1
  have f1 : J1 0 22 = J 0 22 := fc_X_joined (fun q j => ¬ (q = 0 ∧ j = 22)) fu 0 (l : Int) (p : Int) (l2 : Int) (p2 : Int) J (fun _ => by omega) (fun _ => by omega) (fun _ => by omega) (fun _ => by omega) (fun _ => by omega) (fun _ => by omega) (fun _ => by omega) (fun _ => by omega) (fun _ => by omega) (fun _ => by omega) (fun _ => by omega) (fun _ => by omega) (by omega) (by omega) (by omega) (by omega) (by omega) (by omega) (by omega) (by omega) (by omega) (by omega) (by omega) (by omega) (by omega) (by omega) (by omega) (by omega) (by omega) (by omega) e2 0 22 (by omega)
  have m1 := tog_mid h h11 hA (I' := I1) (J' := J1) (fun q hq => fr_M_tillJoined (fun q => 82 ≤ q ∧ q ≠ 96) fu (0 + 81) (0 + 1) ((40 * l + p : Nat) : Int) ((40 * l2 + p2 : Nat) : Int) I (fun q a b => by omega) (by omega) (by omega) (by omega) (by omega) (by omega) (by omega) (by omega) (by omega) (by omega) (by omega) (by omega) (by omega) (by omega) (by omega) (by omega) (by omega) (by omega) (by omega) (by omega) e1 q (by omega)) k1 f1
  rw [g]
  refine pq_ii Iff.rfl (fun _ _ => pq_end rfl) (fun _ _ => ?_)
  have c1 : J1 1 70 + 60 < 1900000000 := by rw [k1 70 (by decide)]; exact hc
  refine pq_b (till2 hfu m1.1 m1.2.1 m1.2.2 hg1 hC1 (nuq_mv (fun j _ b => k1 j (by omega)) hU) c1 hl (by rw [k1 _ (by omega)]; exact hp)) (fun x2 I2 y2 J2 e3 e4 g2 => ?_)
  obtain ⟨_, hC2, _⟩ := par_sat (ok_M_tillSits fu (0 + 81) (0 + 1) ((40 * l + p : Nat) : Int) I1 hfu hC1 (by omega) (by omega) (by unfold inr; omega)) x2 I2 e3
  obtain ⟨_, hg2, sa2⟩ := par_sat (ok_X_till fu 0 (l : Int) (p : Int) J1 hfu hg1 (by unfold inr; omega) (by unfold inr; omega) (by show J1 1 70 < 1900000000; omega)) y2 J2 e4
  have k2 : ∀ j, j < 6190 → J2 1 j = J1 1 j := sa2.1
  have f2 : J2 0 22 = J1 0 22 := fc_X_till (fun q j => ¬ (q = 0 ∧ j = 22)) fu 0 (l : Int) (p : Int) J1 (fun _ => by omega) (fun _ => by omega) (fun _ => by omega) (fun _ => by omega) (fun _ => by omega) (fun _ => by omega) (fun _ => by omega) (fun _ => by omega) (fun _ => by omega) (fun _ => by omega) (fun _ => by omega) (fun _ => by omega) (by omega) (by omega) (by omega) (by omega) (by omega) (by omega) (by omega) (by omega) (by omega) (by omega) (by omega) (by omega) (by omega) (by omega) (by omega) (by omega) (by omega) (by omega) e4 0 22 (by omega)
  have m2 := tog_mid m1.1 m1.2.1 m1.2.2 (I' := I2) (J' := J2) (fun q hq => fr_M_tillSits (fun q => 82 ≤ q ∧ q ≠ 96) fu (0 + 81) (0 + 1) ((40 * l + p : Nat) : Int) I1 (fun q a b => by omega) (by omega) (by omega) (by omega) (by omega) (by omega) (by omega) (by omega) (by omega) (by omega) (by omega) (by omega) (by omega) (by omega) (by omega) (by omega) (by omega) (by omega) (by omega) (by omega) e3 q (by omega)) k2 f2
  rw [g2]
  refine pq_b (till2 hfu m2.1 m2.2.1 m2.2.2 hg2 hC2 (nuq_mv (fun j _ b => (k2 j (by omega)).trans (k1 j (by omega))) hU) (by rw [k2 70 (by decide)]; exact c1) hl2 (by rw [k2 _ (by omega), k1 _ (by omega)]; exact hp2)) (fun x3 I3 y3 J3 _ _ g3 => ?_)
  rw [g3]
  refine pq_ii Iff.rfl (fun _ _ => pq_end rfl) (fun _ _ => pq_ii Iff.rfl (fun _ _ => pq_end rfl) (fun _ _ => pq_ii Iff.rfl (fun _ _ => pq_end rfl) (fun _ _ => ?_)))
  rw [ev_max, zb_zr]
  refine pq_ir (fun q => ?_) (fun q => ?_)
  · rw [if_neg (show ¬ y2 < y3 by omega)]
    exact pq_ii Iff.rfl (fun _ _ => pq_end rfl) (fun _ _ => pq_end rfl)
  · have e : (if y2 < y3 then y3 else y2) = y3 := by
      by_cases z : y2 < y3
      · rw [if_pos z]
      · rw [if_neg z]; omega
    rw [e]
    exact pq_ii Iff.rfl (fun _ _ => pq_end rfl) (fun _ _ => pq_end rfl)
theorem pj_together (a b a2 b2 w : Int) (hfu : 5000000000 < fu) (h : RJ I J) (hg : GX 0 J) (hC : GC I) (hU : NUQ J) (hc : J 1 70 + 60 < 1900000000) : pq (f_S_together fu 0 a b a2 b2 w I) (f_X_together fu 0 a b a2 b2 w J) (fun x _ y _ => x = y) := by
  have hL : HL 1 1 I J := h.1.1.2.2.2.1
  have hcs : ∀ l, l < 6 → 0 ≤ J 1 (130 + l) ∧ J 1 (130 + l) ≤ 40 := fun l hl => (hl_c hL hl).2
  have fin : ∀ {m1 m2 : Res}, par m1 (fun x _ => x = -2) → par m2 (fun y _ => y = -2) → pq m1 m2 (fun x _ y _ => x = y) := fun p1 p2 => pq_of p1 p2 (fun _ _ _ _ e1 e2 => e1.trans e2.symm)
  rw [ctog_eq]
  by_cases h1 : ∃ l p : Nat, l < 6 ∧ a = (l : Int) ∧ b = (p : Int) ∧ (p : Int) < J 1 (130 + l)
  · by_cases h2 : ∃ l p : Nat, l < 6 ∧ a2 = (l : Int) ∧ b2 = (p : Int) ∧ (p : Int) < J 1 (130 + l)
    · obtain ⟨l, p, hl, rfl, rfl, hp⟩ := h1
      obtain ⟨l2, p2, hl2, rfl, rfl, hp2⟩ := h2
      have p40 : p < 40 := by have := hcs l hl; omega
      have p240 : p2 < 40 := by have := hcs l2 hl2; omega
      obtain ⟨v, ev, hv⟩ := ev_canJoin (fu := fu) hL hg hl hp p40 hl2 hp2 p240
      rw [ev_has1 hL hl hp, zb_zr, if_neg ne10, ev_has1 hL hl2 hp2, zb_zr, if_neg ne10, w_row l p hl (by omega), w_row l2 p2 hl2 (by omega), ev, zb_zr]
      by_cases hk : OKJ J l p l2 p2 w
      · have hk' := hk
        obtain ⟨k1, k2, k3, k4, k5, k6⟩ := hk'
        have v1 : v = 1 := by
          rcases hv with ⟨z, _⟩ | ⟨_, z⟩
          · exact z
          · exact absurd ⟨k1, k2, k3, k4⟩ z
        obtain ⟨u1, e1, g1⟩ := ev_isPl (fu := fu) J hl hp (hcs l hl)
        obtain ⟨u2, e2, g2⟩ := ev_isPl (fu := fu) J hl2 hp2 (hcs l2 hl2)
        have n1 : u1 = 1 := by
          rcases g1 with ⟨z, _⟩ | ⟨_, z⟩
          · exact z
          · exact absurd k1 z
        have n2 : u2 = 1 := by
          rcases g2 with ⟨z, _⟩ | ⟨_, z⟩
          · exact z
          · exact absurd k2 z
        rw [if_neg (show ¬ w < 0 by omega), if_neg (show ¬ 1 < w by omega), if_neg (show ¬ v = 0 by omega), tog_eq, e1, zb_zr, if_neg (show ¬ u1 = 0 by omega), e2, zb_zr, if_neg (show ¬ u2 = 0 by omega)]
        have g := tog_yes hfu h.1.1 h.1.2.1 (rj_ha h) hg hC hU hc hl hp p40 hl2 hp2 p240 hk
        exact pq_ir (fun x => pq_ir (fun y => absurd (show 40 * l2 + p2 = 40 * l + p by omega) k3) (fun _ => g)) (fun _ => g)
      · refine fin ?_ (xt_no hg hcs hl hp hl2 hp2 hk)
        refine par_ite (fun _ => par_zr rfl) (fun q1 => par_ite (fun _ => par_zr rfl) (fun q2 => ?_))
        rcases hv with ⟨_, z1, z2, z3, z4⟩ | ⟨z, _⟩
        · exact absurd ⟨z1, z2, z3, z4, by omega, by omega⟩ hk
        · rw [if_pos z]
          exact par_zr rfl
    · refine fin ?_ (xt_no0 hcs (Or.inr h2))
      obtain ⟨l, p, hl, rfl, rfl, hp⟩ := h1
      refine par_ite (fun _ => par_zr rfl) (fun _ => par_ite (fun _ => par_zr rfl) (fun _ => ?_))
      rw [ev_has1 hL hl hp, zb_zr, if_neg ne10, ev_hasN hL h2, zb_zr, if_pos eq00]
      exact par_zr rfl
  · refine fin ?_ (xt_no0 hcs (Or.inl h1))
    refine par_ite (fun _ => par_zr rfl) (fun _ => par_ite (fun _ => par_zr rfl) (fun _ => ?_))
    rw [ev_hasN hL h1, zb_zr, if_pos eq00]
    exact par_zr rfl
end
