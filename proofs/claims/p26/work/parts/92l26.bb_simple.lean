/-! calls that tell one thing: both sides -/
def MTC (o j c : Nat) : Prop := (o = 1 ∧ j = 6 ∧ c = 0) ∨ (o = 2 ∧ 1 ≤ j ∧ j < 6 ∧ c = 1 + j) ∨ (o = 10 ∧ j < 6 ∧ c = 10 + j) ∨ (o = 4 ∧ 1 ≤ j ∧ j ≤ 8 ∧ c = 16 + j) ∨ (o = 5 ∧ j < 32 ∧ c = 26 + j) ∨ (o = 6 ∧ 1 ≤ j ∧ j ≤ 8 ∧ c = 60 + j)
theorem hs_cell {I J I' J' : IMem} {o j c : Nat} {v : Int} (h : HS 1 1 I J) (hm : MTC o j c ∨ (o = 2 ∧ j = 0 ∧ c = 1)) (hI : ∀ q i, (1 ≤ q ∧ q ≤ 10) → I' q i = if q = o ∧ i = j then v else I q i) (hJ : ∀ i, i < 70 → J' 1 i = if i = c then v else J 1 i) : HS 1 1 I' J' := by
  unfold MTC at hm
  obtain ⟨a1, a2, a3, a4, a5, a6, a7⟩ := h
  have key : ∀ (q i k : Nat), 1 ≤ q → q ≤ 10 → k < 70 → ((q = o ∧ i = j) ↔ k = c) → I q i = J 1 k → I' q i = J' 1 k := by
    intro q i k h1 h2 h3 h4 h5
    rw [hI q i ⟨h1, h2⟩, hJ k h3]
    by_cases z : q = o ∧ i = j
    · rw [if_pos z, if_pos (h4.mp z)]
    · rw [if_neg z, if_neg (fun y => z (h4.mpr y))]; exact h5
  refine ⟨fun k hk => ?_, ?_, ?_, fun k hk => ?_, fun k h3 h4 => ?_, fun k hk => ?_, fun k h3 h4 => ?_⟩
  · exact key _ _ _ (by omega) (by omega) (by omega) (by omega) (a1 k hk)
  · exact key _ _ _ (by omega) (by omega) (by omega) (by omega) a2
  · exact key _ _ _ (by omega) (by omega) (by omega) (by omega) a3
  · exact key _ _ _ (by omega) (by omega) (by omega) (by omega) (a4 k hk)
  · exact key _ _ _ (by omega) (by omega) (by omega) (by omega) (a5 k h3 h4)
  · exact key _ _ _ (by omega) (by omega) (by omega) (by omega) (a6 k hk)
  · exact key _ _ _ (by omega) (by omega) (by omega) (by omega) (a7 k h3 h4)
theorem rj_cell {I J I' J' : IMem} {o j c : Nat} {v : Int} (h : RJ I J) (hm : MTC o j c) (hI : ∀ q i, I' q i = if q = o ∧ i = j then v else I q i) (hJ : ∀ q i, J' q i = if q = 1 ∧ i = c then v else J q i) : RJ I' J' := by
  have hm' := hm
  unfold MTC at hm'
  have h' := h
  obtain ⟨⟨⟨hS, hY, hP, hL, hW⟩, hz, hA⟩, a, b, cc, d, e, ⟨L, t1, t2, t3, t4⟩, f⟩ := h'
  have io : ∀ q i, ¬ (q = o ∧ i = j) → I' q i = I q i := fun q i a => by rw [hI, if_neg a]
  have jo : ∀ q i, ¬ (q = 1 ∧ i = c) → J' q i = J q i := fun q i a => by rw [hJ, if_neg a]
  refine rj_mv h ⟨⟨hs_cell hS (Or.inl hm) (fun q i _ => hI q i) (fun i _ => ?_), hy_mv hY (fun j => io _ _ (by omega)) (fun j _ _ => jo _ _ (by omega)), hp_mv hP (fun j => ⟨io _ _ (by omega), io _ _ (by omega)⟩) (fun j _ => jo _ _ (by omega)), hl_mv hL (fun j => ⟨io _ _ (by omega), io _ _ (by omega)⟩) (fun j _ _ => jo _ _ (by omega)), hw_mv hW (fun d j _ _ _ => io _ _ (by omega)) (fun j _ _ => jo _ _ (by omega))⟩, ?_, ?_, ?_⟩ (io _ _ (by omega)) (fun q j _ => io _ _ (by omega)) (fun q j _ => jo _ _ (by omega)) (pk_mv e (fun q j _ => io _ _ (by omega)) (fun q j _ => jo _ _ (by omega)) (fun k hk => ⟨⟨hk.1, by rw [jo _ _ (by omega)]; exact hk.2⟩, jo _ _ (by omega), jo _ _ (by omega)⟩)) ⟨L, t1, ?_, ?_, fun i hi => ?_⟩ ⟨?_, ?_⟩
  · rw [hJ]
    by_cases z : i = c
    · rw [if_pos ⟨rfl, z⟩, if_pos z]
    · rw [if_neg (fun y => z y.2), if_neg z]
  · rw [io _ _ (by omega), jo _ _ (by omega)]; exact hz
  · rw [io _ _ (by omega)]; exact hA.1
  · rw [io _ _ (by omega)]; exact hA.2
  · rw [io _ _ (by omega)]; exact t2
  · rw [jo _ _ (by omega)]; exact t3
  · rw [io _ _ (by omega), jo _ _ (by omega)]; exact t4 i hi
  · rw [io _ _ (by omega), jo _ _ (by omega)]; exact f.1
  · rw [io _ _ (by omega), jo _ _ (by omega)]; exact f.2
theorem ne10 : ¬ (1 : Int) = 0 := by decide
theorem eq00 : (0 : Int) = 0 := rfl
theorem out2 {a b : Prop} [Decidable a] [Decidable b] {X Y : Res} (h : a ∨ b) : (if a then X else if b then X else Y) = X := by
  by_cases p : a
  · rw [if_pos p]
  · rw [if_neg p, if_pos (h.resolve_left p)]
def EQJ (x : Int) (I : IMem) (y : Int) (J : IMem) : Prop := RJ I J ∧ x = y
section
variable {fu : Nat} {I J : IMem}
theorem pj_state (a : Int) (h : RJ I J) : pq (f_S_state fu 0 a I) (f_X_state fu 0 a J) EQJ := by
  unfold f_S_state f_X_state
  simp only [zl_e, Nat.zero_add]
  refine pq_zwl' (fun I1 e1 => pq_zwr' (fun J1 e2 => pq_end ⟨rj_cell h (Or.inl ⟨rfl, rfl, rfl⟩) e1 e2, ?_⟩))
  exact h.1.1.1.2.1
theorem pj_seen (a b : Int) (h : RJ I J) : pq (f_S_seen fu 0 a b I) (f_X_seen fu 0 a b J) EQJ := by
  unfold f_S_seen f_X_seen
  rw [ev_isLine, ev_xLine, zb_zr, zb_zr]
  by_cases h1 : 0 ≤ a ∧ a < 6
  · rw [if_pos h1, if_neg ne10, if_neg ne10, ev_isIn, zb_zr]
    by_cases h2 : 1 ≤ b ∧ b ≤ 24
    · rw [if_neg (show ¬ b < 1 by omega), if_neg (show ¬ 24 < b by omega), if_pos h2, if_neg ne10]
      simp only [zl_e]
      rw [wr32_i2 (x := 10 + a) (by omega) (by omega)]
      refine pq_gl (fun _ => pq_zwl' (fun I1 e1 => pq_gr (fun _ => pq_zwr' (fun J1 e2 => pq_end ⟨rj_cell (o := 10) (j := a.toNat) (c := (10 + a).toNat) h (Or.inr (Or.inr (Or.inl ⟨rfl, by omega, by omega⟩))) e1 e2, rfl⟩))))
    · rw [if_neg h2, if_pos eq00, out2 (a := b < 1) (b := 24 < b) (by omega)]
      exact pq_end ⟨h, rfl⟩
  · rw [if_neg h1, if_pos eq00, if_pos eq00]
    exact pq_end ⟨h, rfl⟩
theorem pj_parts (a b : Int) (ha : inr a) (h : RJ I J) : pq (f_S_parts fu 0 a b I) (f_X_parts fu 0 a b J) EQJ := by
  unfold f_S_parts f_X_parts
  unfold inr at ha
  rw [ev_isIn, zb_zr]
  by_cases h1 : 2 ≤ a ∧ a ≤ 8
  · rw [if_neg (show ¬ a < 2 by omega), if_neg (show ¬ 8 < a by omega), if_pos h1, if_neg ne10, ev_isIn, zb_zr, wr32_i2 (x := a - 1) (by omega) (by omega)]
    by_cases h2 : 0 ≤ b ∧ b ≤ a - 1
    · rw [if_neg (show ¬ b < 0 by omega), if_pos (show b < a by omega), if_pos h2, if_neg ne10]
      simp only [zl_e]
      rw [wr32_i2 (x := 16 + a) (by omega) (by omega)]
      refine pq_gl (fun _ => pq_zwl' (fun I1 e1 => pq_gr (fun _ => pq_zwr' (fun J1 e2 => pq_end ⟨rj_cell (o := 4) (j := a.toNat) (c := (16 + a).toNat) h (Or.inr (Or.inr (Or.inr (Or.inl ⟨rfl, by omega, by omega, by omega⟩)))) e1 e2, rfl⟩))))
    · rw [if_neg h2, if_pos eq00]
      by_cases h3 : b < 0
      · rw [if_pos h3]; exact pq_end ⟨h, rfl⟩
      · rw [if_neg h3, if_neg (show ¬ b < a by omega)]; exact pq_end ⟨h, rfl⟩
  · rw [if_neg h1, if_pos eq00, out2 (a := a < 2) (b := 8 < a) (by omega)]
    exact pq_end ⟨h, rfl⟩
theorem ev_canBe (a b c : Int) (I : IMem) : f_S_canBe fu a b c I = zr (if 1 ≤ a ∧ a ≤ 8 ∧ 1 ≤ b ∧ b ≤ a ∧ 0 ≤ c ∧ c ≤ 3 then 1 else 0) I := by
  unfold f_S_canBe
  by_cases h : 1 ≤ a ∧ a ≤ 8 ∧ 1 ≤ b ∧ b ≤ a ∧ 0 ≤ c ∧ c ≤ 3
  · rw [if_neg (show ¬ a < 1 by omega), if_neg (show ¬ 8 < a by omega), if_neg (show ¬ b < 1 by omega), if_neg (show ¬ a < b by omega), if_neg (show ¬ c < 0 by omega), if_neg (show ¬ 3 < c by omega), if_pos h]
  · rw [if_neg h]
    by_cases h1 : a < 1
    · rw [if_pos h1]
    · rw [if_neg h1]
      by_cases h2 : 8 < a
      · rw [if_pos h2]
      · rw [if_neg h2]
        by_cases h3 : b < 1
        · rw [if_pos h3]
        · rw [if_neg h3]
          by_cases h4 : a < b
          · rw [if_pos h4]
          · rw [if_neg h4]
            by_cases h5 : c < 0
            · rw [if_pos h5]
            · rw [if_neg h5, if_pos (by omega)]
theorem ev_isGroup (a b c : Int) (J : IMem) : f_X_isGroup fu a b c J = zr (if 1 ≤ a ∧ a ≤ 8 ∧ 1 ≤ b ∧ b ≤ a ∧ 0 ≤ c ∧ c ≤ 3 then 1 else 0) J := by
  unfold f_X_isGroup
  rw [ev_isIn, zb_zr]
  by_cases h1 : 1 ≤ a ∧ a ≤ 8
  · rw [if_pos h1, if_neg ne10, ev_isIn, zb_zr]
    by_cases h2 : 1 ≤ b ∧ b ≤ a
    · rw [if_pos h2, if_neg ne10, ev_isIn, zb_zr]
      by_cases h3 : 0 ≤ c ∧ c ≤ 3
      · rw [if_pos h3, if_neg ne10, if_pos ⟨h1.1, h1.2, h2.1, h2.2, h3⟩]
      · rw [if_neg h3, if_pos eq00, if_neg (fun q => h3 q.2.2.2.2)]
    · rw [if_neg h2, if_pos eq00, if_neg (fun q => h2 ⟨q.2.2.1, q.2.2.2.1⟩)]
  · rw [if_neg h1, if_pos eq00, if_neg (fun q => h1 ⟨q.1, q.2.1⟩)]
end
