/-! together: both sides -/
section
variable {fu : Nat} {I J : IMem}
theorem joined2 {l p l2 p2 : Nat} (hfu : 5000000000 < fu) (h : HR 1 1 I J) (h11 : I 1 11 = J 0 22) (hA : HA 82 I) (hg : GX 0 J) (hC : GC I) (hU : NUQ J) (hc : J 1 70 + 60 < 1900000000) (hl : l < 6) (hp : (p : Int) < J 1 (130 + l)) (hl2 : l2 < 6) (hp2 : (p2 : Int) < J 1 (130 + l2)) (hne : 40 * l2 + p2 ≠ 40 * l + p) (hs : J 1 (141 + 6 * (40 * l + p)) + J 1 (141 + 6 * (40 * l2 + p2)) ≤ 8) : pq (f_M_tillJoined fu 81 1 ((40 * l + p : Nat) : Int) ((40 * l2 + p2 : Nat) : Int) I) (f_X_joined fu 0 (l : Int) (p : Int) (l2 : Int) (p2 : Int) J) (fun x _ y _ => x = y) := by
  have hL : HL 1 1 I J := h.2.2.2.1
  obtain ⟨c1, c2⟩ := hl_c hL hl
  obtain ⟨d1, d2⟩ := hl_c hL hl2
  have p40 : p < 40 := by omega
  have p240 : p2 < 40 := by omega
  obtain ⟨c, hcc⟩ : ∃ c : Nat, J 1 (130 + l) = (c : Int) := ⟨(J 1 (130 + l)).toNat, by omega⟩
  have hc40 : c ≤ 40 := by omega
  have hpc : p < c := by omega
  have gz := (gx_facts hg).2.2.2.2.1
  have z1 := gz (40 * l + p) ⟨by omega, by rw [show (40 * l + p) % 40 = p by omega, show (40 * l + p) / 40 = l by omega]; exact hp⟩
  have in2 : INL J (40 * l2 + p2) := ⟨by omega, by rw [show (40 * l2 + p2) % 40 = p2 by omega, show (40 * l2 + p2) / 40 = l2 by omega]; exact hp2⟩
  have z2 := gz (40 * l2 + p2) in2
  obtain ⟨s, hs1⟩ : ∃ s : Int, J 1 (141 + 6 * (40 * l + p)) + J 1 (141 + 6 * (40 * l2 + p2)) = s := ⟨_, rfl⟩
  have ws : Wq (wr32 (J (0 + 1) (140 + 6 * (40 * l + p) + 1) + J (0 + 1) (140 + 6 * (40 * l2 + p2) + 1))) s := by
    show wr32 (J 1 (140 + 6 * (40 * l + p) + 1) + J 1 (140 + 6 * (40 * l2 + p2) + 1)) = s
    rw [show 140 + 6 * (40 * l + p) + 1 = 141 + 6 * (40 * l + p) by omega, show 140 + 6 * (40 * l2 + p2) + 1 = 141 + 6 * (40 * l2 + p2) by omega, hs1]
    exact wr32_i2 (by omega) (by omega)
  unfold f_M_tillJoined f_X_joined
  rw [ev_of0 fu 0 l2 p2 J hl2 p240, zb_zr, ev_of1 fu 0 l p J hl p40, zb_zr, ev_of1 fu 0 l2 p2 J hl2 p240, zb_zr]
  simp only [zl_e]
  rw [ws.e]
  refine pq_bl (par_and (cv_hcopy (fu := fu) (81 + 1) 1 (by omega) I) (par_sat (ok_H_copyFrom fu (81 + 1) 1 I hfu hC (by omega) (by omega)))) (fun _ I2 e ⟨hc2, _, hC2, _⟩ => ?_)
  have f2 := fr_dcopy (fu := fu) (I := I) e
  refine pq_br (par_sat (ok_X_setsOut fu 0 J hfu hg)) (fun _ J2 _ ⟨_, hG2, so⟩ => ?_)
  have so' : ∀ q j, q ≠ 3 → q ≠ 23 → q ≠ 24 → ¬ (q = 0 ∧ j = 50) → J2 q j = J q j := fun q j a b c d => so.2.2.2.2 q j (by omega) (by omega) (by omega) (by omega)
  have X2 : HX 82 I2 J2 := hx_copy3 h h11 hA hc2 f2 so'
  have L2 : HL 82 1 I2 J2 := X2.1.2.2.2.1
  have j2 : ∀ j, J2 1 j = J 1 j := fun j => so' 1 j (by decide) (by decide) (by decide) (by omega)
  have i90 : I2 90 l = (c : Int) := ((hl_c L2 hl).1.trans (j2 _)).trans hcc
  have a1 : I2 89 (6 * (40 * l + p) + 1) = J 1 (141 + 6 * (40 * l + p)) := ((hl_r (l := l) (p := p) (f := 1) L2 hl (by rw [j2]; exact hp) (by decide)).trans (j2 _)).trans (congrArg (J 1) (by omega))
  have a2 : I2 89 (6 * (40 * l2 + p2) + 1) = J 1 (141 + 6 * (40 * l2 + p2)) := ((hl_r (l := l2) (p := p2) (f := 1) L2 hl2 (by rw [j2]; exact hp2) (by decide)).trans (j2 _)).trans (congrArg (J 1) (by omega))
  have ws2 : Wq (wr32 (I2 89 (6 * (40 * l + p) + 1) + I2 89 (6 * (40 * l2 + p2) + 1))) s := by
    show wr32 (I2 89 (6 * (40 * l + p) + 1) + I2 89 (6 * (40 * l2 + p2) + 1)) = s
    rw [a1, a2, hs1]
    exact wr32_i2 (by omega) (by omega)
  refine pq_bl (par_and (cv_join (fu := fu) (p := p) (c := c) (k2 := 40 * l2 + p2) (s := s) I2 hl hpc hc40 i90 (by omega) ws2) (par_sat (ok_L_join fu 88 ((40 * l + p : Nat) : Int) ((40 * l2 + p2 : Nat) : Int) I2 hfu hC2 (Or.inr (Or.inr rfl)) (by unfold inr; omega) (by unfold inr; omega) (by omega)))) (fun _ I5 _ ⟨hi, _, hC5, _⟩ => ?_)
  rw [ev_get0 fu (1 + 6) (40 * l2 + p2) I5 (by omega), zb_zr]
  have n1 : I5 (1 + 6 + 1) (6 * (40 * l2 + p2) + 0) = J (0 + 1) (140 + 6 * (40 * l2 + p2) + 0) := ((joc_o hi _ _ (by omega)).trans (f2 _ _ (by omega))).trans (hl_r (l := l2) (p := p2) (f := 0) hL hl2 hp2 (by decide))
  rw [n1]
  obtain ⟨N, hNe⟩ : ∃ N, N = J (0 + 1) (140 + 6 * (40 * l2 + p2) + 0) := ⟨_, rfl⟩
  rw [← hNe]
  have hN : inr N := by rw [hNe]; exact hg.1 _ _
  have hN2 : J 1 (140 + 6 * (40 * l2 + p2)) = N := hNe.symm
  have sr : inr s := by unfold inr; omega
  have w1 : Wq (wr32 (((140 + 6 * (40 * l2 + p2) : Nat) : Int) + 1)) (((140 + 6 * (40 * l2 + p2) + 1 : Nat) : Int)) := by show wr32 (((140 + 6 * (40 * l2 + p2) : Nat) : Int) + 1) = ((140 + 6 * (40 * l2 + p2) + 1 : Nat) : Int); rw [wr32_i2 (by omega) (by omega)]; omega
  have w2 : Wq (wr32 (((140 + 6 * (40 * l2 + p2) : Nat) : Int) + 2)) (((140 + 6 * (40 * l2 + p2) + 2 : Nat) : Int)) := by show wr32 (((140 + 6 * (40 * l2 + p2) : Nat) : Int) + 2) = ((140 + 6 * (40 * l2 + p2) + 2 : Nat) : Int); rw [wr32_i2 (by omega) (by omega)]; omega
  refine pq_ofr (fun x I9 e8 => ?_)
  rw [ev_cell fu l2 p2 J2 hl2 (by omega), zb_zr, w1.e, show ((140 + 6 * (40 * l2 + p2) + 1 : Nat) : Int).toNat = 140 + 6 * (40 * l2 + p2) + 1 from rfl]
  refine par_zg (fun _ => par_zwu ?_)
  have g3 : GX 0 (up J2 (0 + 1) (140 + 6 * (40 * l2 + p2) + 1) s) := GX_up1 hG2 sr (cw_sz (by omega))
  have e3 : ∀ q j, up J2 (0 + 1) (140 + 6 * (40 * l2 + p2) + 1) s q j = if q = 1 ∧ j = 140 + 6 * (40 * l2 + p2) + 1 then s else J2 q j := fun q j => rfl
  obtain ⟨J3, hJ3⟩ : ∃ J3, J3 = up J2 (0 + 1) (140 + 6 * (40 * l2 + p2) + 1) s := ⟨_, rfl⟩
  rw [← hJ3]
  rw [← hJ3] at g3 e3
  clear hJ3
  rw [ev_cell fu l2 p2 J3 hl2 (by omega), zb_zr, w2.e, show ((140 + 6 * (40 * l2 + p2) + 2 : Nat) : Int).toNat = 140 + 6 * (40 * l2 + p2) + 2 from rfl]
  refine par_zg (fun _ => par_zwu ?_)
  have g4 : GX 0 (up J3 (0 + 1) (140 + 6 * (40 * l2 + p2) + 2) s) := GX_up1 g3 sr (cw_grp (by omega))
  have e4 : ∀ q j, up J3 (0 + 1) (140 + 6 * (40 * l2 + p2) + 2) s q j = if q = 1 ∧ j = 140 + 6 * (40 * l2 + p2) + 2 then s else J3 q j := fun q j => rfl
  obtain ⟨J4, hJ4⟩ : ∃ J4, J4 = up J3 (0 + 1) (140 + 6 * (40 * l2 + p2) + 2) s := ⟨_, rfl⟩
  rw [← hJ4]
  rw [← hJ4] at g4 e4
  clear hJ4
  have f4 : ∀ q j, J4 q j = if q = 1 ∧ (j = 140 + 6 * (40 * l2 + p2) + 1 ∨ j = 140 + 6 * (40 * l2 + p2) + 2) then s else J2 q j := fun q j => by
    rw [e4]
    by_cases y : q = 1 ∧ j = 140 + 6 * (40 * l2 + p2) + 2
    · rw [if_pos y, if_pos (by omega)]
    · rw [if_neg y, e3]
      by_cases z : q = 1 ∧ j = 140 + 6 * (40 * l2 + p2) + 1
      · rw [if_pos z, if_pos (by omega)]
      · rw [if_neg z, if_neg (by omega)]
  clear e3 e4
  have c4 : J4 1 (130 + l) = (c : Int) := by rw [f4, if_neg (by omega), j2]; exact hcc
  have z4 : ∀ p' : Nat, p' < c → 1 ≤ J4 1 (141 + 6 * (40 * l + p')) ∧ J4 1 (141 + 6 * (40 * l + p')) ≤ 8 := fun p' hp' => (gx_facts g4).2.2.2.2.1 (40 * l + p') ⟨by omega, by rw [show (40 * l + p') % 40 = p' by omega, show (40 * l + p') / 40 = l by omega, c4]; omega⟩
  refine xv_j65 (fu := fu) (p := p) (J0 := J4) _ hl hc40 N c4 z4 (fun J5 g5 f5 => ?_) fu p J4 (Nat.le_refl _) hpc g4 (fun q j => by rw [if_neg (by omega)])
  have c5 : J5 (0 + 1) (130 + l) = (c : Int) := by
    show J5 1 (130 + l) = _
    rw [f5, if_neg (by omega)]; exact c4
  have w5 : Wq (wr32 ((c : Int) - 1)) ((c : Int) - 1) := wr32_i2 (by omega) (by omega)
  rw [w_130 l hl, show ((130 + l : Nat) : Int).toNat = 130 + l from rfl, c5, w5.e]
  refine par_zg (fun _ => par_zg (fun _ => par_zwu ?_))
  have g6 : GX 0 (up J5 (0 + 1) (130 + l) ((c : Int) - 1)) := GX_up1 g5 (by unfold inr; omega) (cw_130 ⟨by omega, by omega, by omega, by omega, Or.inl (by rw [c5]; omega)⟩)
  have e6 : ∀ q j, up J5 (0 + 1) (130 + l) ((c : Int) - 1) q j = if q = 1 ∧ j = 130 + l then (c : Int) - 1 else J5 q j := fun q j => rfl
  obtain ⟨J6, hJ6⟩ : ∃ J6, J6 = up J5 (0 + 1) (130 + l) ((c : Int) - 1) := ⟨_, rfl⟩
  rw [← hJ6]
  rw [← hJ6] at g6 e6
  clear hJ6
  have hj : JOI l p c (40 * l2 + p2) s J2 J6 := by
    intro q j
    rw [e6]
    by_cases x1 : q = 1 ∧ j = 130 + l
    · rw [if_pos x1, if_pos x1]
    · rw [if_neg x1, if_neg x1, f5]
      by_cases x2 : q = 1 ∧ 140 + 6 * (40 * l + p) ≤ j ∧ j < 140 + 6 * (40 * l + c - 1)
      · rw [if_pos x2, if_pos x2, f4]
        by_cases x3 : j + 6 = 140 + 6 * (40 * l2 + p2) + 1 ∨ j + 6 = 140 + 6 * (40 * l2 + p2) + 2
        · rw [if_pos x3, if_pos ⟨rfl, x3⟩]
        · rw [if_neg x3, if_neg (fun t => x3 t.2)]
      · rw [if_neg x2, if_neg x2, f4]
  have hcJ2 : J2 1 (130 + l) = (c : Int) := (j2 _).trans hcc
  have hU2 : NUQ J2 := nuq_mv (fun j _ _ => j2 j) hU
  have in2' : INL J2 (40 * l2 + p2) := (inl_mv (fun j _ _ => j2 j) _).mpr in2
  have c6 : J6 1 70 + 60 < 1900000000 := by rw [joi_o hj hl (by omega) hc40 1 70 (by omega), j2]; exact hc
  refine pq_tor (Q := fun x _ y _ => x = y) (x := x) (I := I9) ?_ e8
  refine pq_b (Q1 := fun x _ y _ => x = y) (till3 hfu hN ⟨hx_join X2 hl (by omega) hpc hc40 hcJ2 hi hj, g6, hC5⟩ (nuq_join hU2 hl hpc hc40 hcJ2 hj) (std_join hl hpc hc40 hcJ2 hj in2' hne ((j2 _).trans hN2)) c6) (fun x I' y J' _ _ e => pq_br (P := fun _ _ => True) (fun _ _ _ => trivial) (fun _ _ _ _ => pq_end e))
/-- one who can be joined, by the reference's memory -/
def PLk (J : IMem) (k : Nat) : Prop := J 1 (140 + 6 * k + 3) = 0 ∧ J 1 (140 + 6 * k + 2) = J 1 (140 + 6 * k + 1)
theorem ev_isPl {l p : Nat} (J : IMem) (hl : l < 6) (hp : (p : Int) < J 1 (130 + l)) (hc : 0 ≤ J 1 (130 + l) ∧ J 1 (130 + l) ≤ 40) : ∃ v, f_X_isPlain fu 0 (l : Int) (p : Int) J = zr v J ∧ ((v = 1 ∧ PLk J (40 * l + p)) ∨ (v = 0 ∧ ¬ PLk J (40 * l + p))) := by
  have p40 : p < 40 := by omega
  unfold f_X_isPlain
  rw [ev_isTh fu l p J hl hc, zb_zr, if_pos (show 0 ≤ (p : Int) ∧ (p : Int) < J 1 (130 + l) by omega), if_neg ne10, ev_of3 fu 0 l p J hl p40, zb_zr]
  by_cases q : J (0 + 1) (140 + 6 * (40 * l + p) + 3) = 0
  · rw [if_pos q, ev_of2 fu 0 l p J hl p40, zb_zr, ev_of1 fu 0 l p J hl p40, zb_zr]
    by_cases q2 : J (0 + 1) (140 + 6 * (40 * l + p) + 2) = J (0 + 1) (140 + 6 * (40 * l + p) + 1)
    · rw [if_pos q2]
      exact ⟨1, rfl, Or.inl ⟨rfl, q, q2⟩⟩
    · rw [if_neg q2]
      exact ⟨0, rfl, Or.inr ⟨rfl, fun z => q2 z.2⟩⟩
  · rw [if_neg q]
    exact ⟨0, rfl, Or.inr ⟨rfl, fun z => q z.1⟩⟩
theorem ev_isPl0 (a b : Int) (J : IMem) (hc : ∀ l, l < 6 → 0 ≤ J 1 (130 + l) ∧ J 1 (130 + l) ≤ 40) (h : ¬ ∃ l p : Nat, l < 6 ∧ a = (l : Int) ∧ b = (p : Int) ∧ (p : Int) < J 1 (130 + l)) : f_X_isPlain fu 0 a b J = zr 0 J := by
  unfold f_X_isPlain
  by_cases h1 : 0 ≤ a ∧ a < 6
  · obtain ⟨l, rfl⟩ : ∃ l : Nat, a = (l : Int) := ⟨a.toNat, by omega⟩
    have hl : l < 6 := by omega
    rw [ev_isTh fu l b J hl (hc l hl), zb_zr, if_neg (show ¬ (0 ≤ b ∧ b < J 1 (130 + l)) from fun z => h ⟨l, b.toNat, hl, rfl, by omega, by omega⟩), if_pos eq00]
  · rw [ev_isTh0 fu a b J h1, zb_zr, if_pos eq00]
theorem ev_cplain {k : Nat} {l p : Nat} (hL : HL 1 1 I J) (hl : l < 6) (hp : (p : Int) < J 1 (130 + l)) (hk : k = 40 * l + p) (h40 : p < 40) : ∃ v, f_L_isPlainAndTrue fu (0 + 7) (k : Int) I = zr v I ∧ ((v = 1 ∧ PLk J k) ∨ (v = 0 ∧ ¬ PLk J k)) := by
  subst hk
  unfold f_L_isPlainAndTrue
  have r : ∀ f, f < 6 → I (0 + 7 + 1) (6 * (40 * l + p) + f) = J 1 (140 + 6 * (40 * l + p) + f) := fun f hf => hl_r (l := l) (p := p) (f := f) hL hl hp hf
  rw [ev_get3 fu (0 + 7) (40 * l + p) I (by omega), zb_zr, r 3 (by decide)]
  by_cases q : J 1 (140 + 6 * (40 * l + p) + 3) = 0
  · rw [if_pos q, ev_get2 fu (0 + 7) (40 * l + p) I (by omega), zb_zr, ev_get1 fu (0 + 7) (40 * l + p) I (by omega), zb_zr, r 2 (by decide), r 1 (by decide)]
    by_cases q2 : J 1 (140 + 6 * (40 * l + p) + 2) = J 1 (140 + 6 * (40 * l + p) + 1)
    · rw [if_pos q2]
      exact ⟨1, rfl, Or.inl ⟨rfl, q, q2⟩⟩
    · rw [if_neg q2]
      exact ⟨0, rfl, Or.inr ⟨rfl, fun z => q2 z.2⟩⟩
  · rw [if_neg q]
    exact ⟨0, rfl, Or.inr ⟨rfl, fun z => q z.1⟩⟩
def xTG (fu : Nat) (a1 a2 a3 a4 a5 : Int) (I8 : IMem) : Res :=
            zb (f_X_of fu 0 a1 a2 1 I8) fun y9 I10 =>
            zb (f_X_of fu 0 a3 a4 1 I10) fun y12 I13 =>
            if 8 < wr32 (y9 + y12) then (
              zr ((-2)) I13)
            else (
              zb (f_X_isIn fu a5 0 1 I13) fun y15 I16 =>
              if y15 = 0 then (
                zr ((-2)) I16)
              else (
                zb (f_X_joined fu 0 a1 a2 a3 a4 I16) fun y18 I19 =>
                if a5 = 0 then (
                  zr y18 I19)
                else (
                  zb (f_X_till fu 0 a1 a2 I19) fun y21 I22 =>
                  zb (f_X_till fu 0 a3 a4 I22) fun y24 I25 =>
                  if y18 = (-1) then (
                    zr 0 I25)
                  else (
                    if y21 = (-1) then (
                      zr 0 I25)
                    else (
                      if y24 = (-1) then (
                        zr 0 I25)
                      else (
                        if y24 < y21 then (
                          if y21 < y18 then (
                            zr 0 I25)
                          else (
                            zr 1 I25))
                        else (
                          if y24 < y18 then (
                            zr 0 I25)
                          else (
                            zr 1 I25))))))))
theorem tog_eq (fu : Nat) (a1 a2 a3 a4 a5 : Int) (J : IMem) : f_X_together fu 0 a1 a2 a3 a4 a5 J = zb (f_X_isPlain fu 0 a1 a2 J) fun y1 I2 => if y1 = 0 then (zr ((-2)) I2) else (zb (f_X_isPlain fu 0 a3 a4 I2) fun y4 I5 => if y4 = 0 then (zr ((-2)) I5) else (if a1 = a3 then (if a2 = a4 then (zr ((-2)) I5) else (xTG fu a1 a2 a3 a4 a5 I5)) else (xTG fu a1 a2 a3 a4 a5 I5))) := rfl
/-- two that can be joined -/
def OKJ (J : IMem) (l p l2 p2 : Nat) (w : Int) : Prop := PLk J (40 * l + p) ∧ PLk J (40 * l2 + p2) ∧ 40 * l2 + p2 ≠ 40 * l + p ∧ J 1 (141 + 6 * (40 * l + p)) + J 1 (141 + 6 * (40 * l2 + p2)) ≤ 8 ∧ 0 ≤ w ∧ w ≤ 1
theorem sz_sum {l p l2 p2 : Nat} (hg : GX 0 J) (hl : l < 6) (hp : (p : Int) < J 1 (130 + l)) (p40 : p < 40) (hl2 : l2 < 6) (hp2 : (p2 : Int) < J 1 (130 + l2)) (p240 : p2 < 40) : Wq (wr32 (J (0 + 1) (140 + 6 * (40 * l + p) + 1) + J (0 + 1) (140 + 6 * (40 * l2 + p2) + 1))) (J 1 (141 + 6 * (40 * l + p)) + J 1 (141 + 6 * (40 * l2 + p2))) := by
  have gz := (gx_facts hg).2.2.2.2.1
  have z1 := gz (40 * l + p) ⟨by omega, by rw [show (40 * l + p) % 40 = p by omega, show (40 * l + p) / 40 = l by omega]; exact hp⟩
  have z2 := gz (40 * l2 + p2) ⟨by omega, by rw [show (40 * l2 + p2) % 40 = p2 by omega, show (40 * l2 + p2) / 40 = l2 by omega]; exact hp2⟩
  show wr32 (J 1 (140 + 6 * (40 * l + p) + 1) + J 1 (140 + 6 * (40 * l2 + p2) + 1)) = _
  rw [show 140 + 6 * (40 * l + p) + 1 = 141 + 6 * (40 * l + p) by omega, show 140 + 6 * (40 * l2 + p2) + 1 = 141 + 6 * (40 * l2 + p2) by omega]
  exact wr32_i2 (by omega) (by omega)
theorem xt_no {l p l2 p2 : Nat} {w : Int} (hg : GX 0 J) (hc : ∀ l, l < 6 → 0 ≤ J 1 (130 + l) ∧ J 1 (130 + l) ≤ 40) (hl : l < 6) (hp : (p : Int) < J 1 (130 + l)) (hl2 : l2 < 6) (hp2 : (p2 : Int) < J 1 (130 + l2)) (h : ¬ OKJ J l p l2 p2 w) : par (f_X_together fu 0 (l : Int) (p : Int) (l2 : Int) (p2 : Int) w J) (fun y _ => y = -2) := by
  have b1 := hc l hl
  have b2 := hc l2 hl2
  have p40 : p < 40 := by omega
  have p240 : p2 < 40 := by omega
  rw [tog_eq]
  obtain ⟨v1, e1, h1⟩ := ev_isPl (fu := fu) J hl hp b1
  obtain ⟨v2, e2, h2⟩ := ev_isPl (fu := fu) J hl2 hp2 b2
  rw [e1, zb_zr]
  refine par_ite (fun _ => par_zr rfl) (fun q1 => ?_)
  rw [e2, zb_zr]
  refine par_ite (fun _ => par_zr rfl) (fun q2 => ?_)
  have k1 : PLk J (40 * l + p) := by
    rcases h1 with ⟨_, z⟩ | ⟨z, _⟩
    · exact z
    · exact absurd z q1
  have k2 : PLk J (40 * l2 + p2) := by
    rcases h2 with ⟨_, z⟩ | ⟨z, _⟩
    · exact z
    · exact absurd z q2
  have core : 40 * l2 + p2 ≠ 40 * l + p → par (xTG fu (l : Int) (p : Int) (l2 : Int) (p2 : Int) w J) (fun y _ => y = -2) := by
    intro hne
    unfold xTG
    rw [ev_of1 fu 0 l p J hl p40, zb_zr, ev_of1 fu 0 l2 p2 J hl2 p240, zb_zr, (sz_sum hg hl hp p40 hl2 hp2 p240).e]
    refine par_ite (fun _ => par_zr rfl) (fun q3 => ?_)
    rw [ev_isIn, zb_zr]
    by_cases q4 : 0 ≤ w ∧ w ≤ 1
    · exact absurd ⟨k1, k2, hne, by omega, q4.1, q4.2⟩ h
    · rw [if_neg q4, if_pos eq00]
      exact par_zr rfl
  refine par_ite (fun x => par_ite (fun _ => par_zr rfl) (fun y => core (by omega))) (fun x => core (by omega))
theorem xt_no0 {a b a2 b2 w : Int} (hc : ∀ l, l < 6 → 0 ≤ J 1 (130 + l) ∧ J 1 (130 + l) ≤ 40) (h : (¬ ∃ l p : Nat, l < 6 ∧ a = (l : Int) ∧ b = (p : Int) ∧ (p : Int) < J 1 (130 + l)) ∨ (¬ ∃ l p : Nat, l < 6 ∧ a2 = (l : Int) ∧ b2 = (p : Int) ∧ (p : Int) < J 1 (130 + l))) : par (f_X_together fu 0 a b a2 b2 w J) (fun y _ => y = -2) := by
  rw [tog_eq]
  rcases h with h | h
  · rw [ev_isPl0 a b J hc h, zb_zr, if_pos eq00]
    exact par_zr rfl
  · by_cases h1 : ∃ l p : Nat, l < 6 ∧ a = (l : Int) ∧ b = (p : Int) ∧ (p : Int) < J 1 (130 + l)
    · obtain ⟨l, p, hl, rfl, rfl, hp⟩ := h1
      obtain ⟨v1, e1, _⟩ := ev_isPl (fu := fu) J hl hp (hc l hl)
      rw [e1, zb_zr]
      refine par_ite (fun _ => par_zr rfl) (fun _ => ?_)
      rw [ev_isPl0 a2 b2 J hc h, zb_zr, if_pos eq00]
      exact par_zr rfl
    · rw [ev_isPl0 a b J hc h1, zb_zr, if_pos eq00]
      exact par_zr rfl
/-- the class's together -/
def cTG (fu : Nat) (x7 x8 a5 : Int) (I10 : IMem) : Res :=
              zb (f_M_tillJoined fu (0 + 81) (0 + 1) x7 x8 I10) fun y12 I13 =>
              if a5 = 0 then (
                zr y12 I13)
              else (
                zb (f_M_tillSits fu (0 + 81) (0 + 1) x7 I13) fun y15 I16 =>
                zb (f_M_tillSits fu (0 + 81) (0 + 1) x8 I16) fun y18 I19 =>
                if y12 = (-1) then (
                  zr 0 I19)
                else (
                  if y15 = (-1) then (
                    zr 0 I19)
                  else (
                    if y18 = (-1) then (
                      zr 0 I19)
                    else (
                      zb (f_JM_max fu y15 y18 I19) fun y21 I22 =>
                      if y21 < y12 then (
                        zr 0 I22)
                      else (
                        zr 1 I22)))))
theorem ctog_eq (fu : Nat) (a1 a2 a3 a4 a5 : Int) (I : IMem) : f_S_together fu 0 a1 a2 a3 a4 a5 I = if a5 < 0 then (zr ((-2)) I) else (if 1 < a5 then (zr ((-2)) I) else (zb (f_L_has fu (0 + 7) a1 a2 I) fun y1 I2 => if y1 = 0 then (zr ((-2)) I2) else (zb (f_L_has fu (0 + 7) a3 a4 I2) fun y4 I5 => if y4 = 0 then (zr ((-2)) I5) else (zb (f_L_canJoin fu (0 + 7) (wr32 ((wr32 (a1 * 40)) + a2)) (wr32 ((wr32 (a3 * 40)) + a4)) I5) fun y9 I10 => if y9 = 0 then (zr ((-2)) I10) else cTG fu (wr32 ((wr32 (a1 * 40)) + a2)) (wr32 ((wr32 (a3 * 40)) + a4)) a5 I10)))) := rfl
/-- the class's hill after a thought, the reference's place after one -/
theorem tog_mid (h : HR 1 1 I J) (h11 : I 1 11 = J 0 22) (hA : HA 82 I) {I' J' : IMem} (fi : ∀ q, (q < 82 ∨ q = 96) → I' q = I q) (fj : ∀ j, j < 6190 → J' 1 j = J 1 j) (f22 : J' 0 22 = J 0 22) : HR 1 1 I' J' ∧ I' 1 11 = J' 0 22 ∧ HA 82 I' := ⟨hr_mv h (fun d j q => congrFun (fi _ (by unfold CH at q; omega)) j) fj, by rw [fi 1 (by decide), f22]; exact h11, by rw [HA, fi (82 + 14) (by decide)]; exact hA⟩
end
