/-! NUMBERS from call to call: the reference -/
def INw (w : Nat → Int) (k : Nat) : Prop := k < 240 ∧ ((k % 40 : Nat) : Int) < w (130 + k / 40)
/-- each NUMBER stands once, none that is still to come, and not many have come -/
def NWw (w : Nat → Int) (b : Int) : Prop := (∀ k k', INw w k → INw w k' → w (140 + 6 * k) = w (140 + 6 * k') → k = k') ∧ (∀ k, INw w k → w (140 + 6 * k) < w 7) ∧ 0 ≤ w 7 ∧ w 7 ≤ b
theorem inw_to {w w' : Nat → Int} (h : ∀ l, l < 6 → w' (130 + l) = w (130 + l)) {k : Nat} (hk : INw w k) : INw w' k := ⟨hk.1, by rw [h _ (by have := hk.1; omega)]; exact hk.2⟩
theorem nww_mv {w w' : Nat → Int} {b b' : Int} (h : NWw w b) (g7 : w' 7 = w 7) (gc : ∀ l, l < 6 → w' (130 + l) = w (130 + l)) (gn : ∀ k, INw w k → w' (140 + 6 * k) = w (140 + 6 * k)) (hb : b ≤ b') : NWw w' b' := by
  obtain ⟨h1, h2, h3, h4⟩ := h
  have dn : ∀ {k}, INw w' k → INw w k := fun a => inw_to (fun l hl => (gc l hl).symm) a
  refine ⟨fun k k' a c e => h1 k k' (dn a) (dn c) ?_, fun k a => ?_, by rw [g7]; exact h3, by rw [g7]; omega⟩
  · rw [← gn k (dn a), ← gn k' (dn c)]; exact e
  · rw [gn k (dn a), g7]; exact h2 k (dn a)
/-- one came, and found no room -/
theorem nww_keep {w w' : Nat → Int} {b : Int} (h : NWw w b) (g7 : w' 7 = w 7 + 1) (gc : ∀ l, l < 6 → w' (130 + l) = w (130 + l)) (gn : ∀ k, INw w k → w' (140 + 6 * k) = w (140 + 6 * k)) : NWw w' (b + 1) := by
  obtain ⟨h1, h2, h3, h4⟩ := h
  have dn : ∀ {k}, INw w' k → INw w k := fun a => inw_to (fun l hl => (gc l hl).symm) a
  refine ⟨fun k k' a c e => h1 k k' (dn a) (dn c) ?_, fun k a => ?_, by omega, by omega⟩
  · rw [← gn k (dn a), ← gn k' (dn c)]; exact e
  · have := h2 k (dn a)
    rw [gn k (dn a), g7]; omega
/-- one came, and stands behind line l -/
theorem nww_one {w w' : Nat → Int} {b : Int} {l c : Nat} (h : NWw w b) (hl : l < 6) (hc : c < 40) (hcw : w (130 + l) = (c : Int)) (g7 : w' 7 = w 7 + 1) (gl : w' (130 + l) = (c : Int) + 1) (gc : ∀ l', l' ≠ l → l' < 6 → w' (130 + l') = w (130 + l')) (gr : w' (140 + 6 * (40 * l + c)) = w 7) (gn : ∀ k, k ≠ 40 * l + c → k < 240 → w' (140 + 6 * k) = w (140 + 6 * k)) : NWw w' (b + 1) := by
  obtain ⟨h1, h2, h3, h4⟩ := h
  have dn : ∀ k, INw w' k → k = 40 * l + c ∨ (k ≠ 40 * l + c ∧ INw w k) := fun k a => by
    obtain ⟨a1, a2⟩ := a
    by_cases e : k = 40 * l + c
    · exact Or.inl e
    · refine Or.inr ⟨e, a1, ?_⟩
      by_cases y : k / 40 = l
      · rw [y, gl] at a2
        rw [y, hcw]; omega
      · rw [gc _ y (by omega)] at a2; exact a2
  refine ⟨fun k k' a d e => ?_, fun k a => ?_, by omega, by omega⟩
  · rcases dn k a with y | ⟨y, z⟩
    · rcases dn k' d with y2 | ⟨y2, z2⟩
      · rw [y, y2]
      · rw [y, gr, gn k' y2 d.1] at e
        have := h2 k' z2
        omega
    · rcases dn k' d with y2 | ⟨y2, z2⟩
      · rw [y2, gr, gn k y a.1] at e
        have := h2 k z
        omega
      · rw [gn k y a.1, gn k' y2 d.1] at e
        exact h1 k k' z z2 e
  · rcases dn k a with y | ⟨y, z⟩
    · rw [y, gr, g7]; omega
    · have := h2 k z
      rw [gn k y a.1, g7]; omega
theorem nuq_of {J : IMem} {b : Int} (h : NWw (J 1) b) : NUQ J := h.1
/-- a chair that went -/
theorem nww_ngo {J J' : IMem} {b : Int} (h : NWw (J 1) b) (g : NGO J J') : NWw (J' 1) b := by
  obtain ⟨h1, h2, h3, h4⟩ := h
  obtain ⟨g1, g2, _, g4, _⟩ := g
  have e7 := g4 7 (by decide)
  refine ⟨g1, fun k a => ?_, by rw [e7]; exact h3, by rw [e7]; exact h4⟩
  obtain ⟨k0, a0, b0⟩ := g2 (J' 1 (140 + 6 * k)) ⟨k, a, rfl⟩
  rw [← b0, e7]
  exact h2 k0 a0
section
variable {fu : Nat} {J : IMem} {Q : Int → IMem → Prop}
/-- one comes -/
theorem xn_comes {a1 a2 a3 b : Int} (hfu : 5000000000 < fu) (hg : GX 0 J) (q2 : inr a2) (q3 : inr a3) (h : NWw (J 1) b) (hb : b < 2000000000) : par (f_X_comes fu 0 a1 a2 a3 J) (fun _ J' => (∀ j, ¬ (j = 7 ∨ j = 76 ∨ (130 ≤ j ∧ j < 1580)) → J' 1 j = J 1 j) ∧ NWw (J' 1) (b + 1)) := by
  have hcs := gx_cnt hg
  have h7 := h.2.2
  unfold f_X_comes
  refine par_zb (Q1 := fun v I => (0 ≤ v ∧ v ≤ 5) ∧ ∀ j, I 1 j = J 1 j) (fun v I e => ⟨(par_sat (ok_X_lineFor fu 0 a2 a3 J hfu hg q2 q3) v I e).2.2, fun j => fc_X_lineFor (fun q j => q = 7 ∨ q = 8) fu 0 a2 a3 J (fun _ => by omega) (by omega) (by omega) (by omega) (by omega) e 1 j (by omega)⟩) (fun v J2 ⟨⟨v0, v5⟩, f2⟩ => ?_)
  obtain ⟨l, rfl⟩ : ∃ l : Nat, v = (l : Int) := ⟨v.toNat, by omega⟩
  have hl : l < 6 := by omega
  refine par_zw' (fun J4 e4 => ?_)
  have w1 : Wq (wr32 (J2 (0 + 1) 7 + 1)) (J 1 7 + 1) := by show wr32 (J2 1 7 + 1) = J 1 7 + 1; rw [f2, wr32_i2 (by omega) (by omega)]
  rw [w1.e] at e4
  have n7 : J4 1 7 = J 1 7 + 1 := by rw [e4, if_pos ⟨rfl, rfl⟩]
  have f4 : ∀ j, j ≠ 7 → J4 1 j = J 1 j := fun j hj => by rw [e4, if_neg (by omega)]; exact f2 j
  have w2 : Wq (wr32 (J4 (0 + 1) 7 - 1)) (J 1 7) := by show wr32 (J4 1 7 - 1) = J 1 7; rw [n7, wr32_i2 (by omega) (by omega)]; omega
  rw [w2.e]
  have c4 : J4 1 (130 + l) = J 1 (130 + l) := f4 _ (by omega)
  refine par_zb (xv_stands (fu := fu) (l := l) (J := J4) hl (by rw [c4]; exact hcs l hl)) (fun v J5 g => ?_)
  have fin : (∀ j, ¬ (j = 7 ∨ j = 76 ∨ (130 ≤ j ∧ j < 1580)) → J5 1 j = J 1 j) ∧ NWw (J5 1) (b + 1) := by
    rcases g with ⟨_, _, g3, _, _⟩ | ⟨_, g2, g3⟩
    · have k : ∀ j, j ≠ 76 → j ≠ 7 → J5 1 j = J 1 j := fun j a c => (g3 1 j (by omega) (by omega)).trans (f4 j c)
      exact ⟨fun j hj => k j (by omega) (by omega), nww_keep h ((g3 1 7 (by omega) (by omega)).trans n7) (fun l' hl' => k _ (by omega) (by omega)) (fun k' a => k _ (by have := a.1; omega) (by omega))⟩
    · have hc0 := hcs l hl
      obtain ⟨c, hcc⟩ : ∃ c : Nat, J 1 (130 + l) = (c : Int) := ⟨(J 1 (130 + l)).toNat, by omega⟩
      rw [c4, hcc] at g2
      rw [c4, hcc, show ((c : Nat) : Int).toNat = c from rfl] at g3
      have k : ∀ j, ¬ (j = 130 + l) → ¬ (140 + 6 * (40 * l + c) ≤ j ∧ j < 140 + 6 * (40 * l + c) + 6) → j ≠ 7 → J5 1 j = J 1 j := fun j a d e => by
        rw [g3, if_neg (fun x => a x.2), if_neg (fun x => d x.2)]; exact f4 j e
      refine ⟨fun j hj => k j (by omega) (by omega) (by omega), nww_one h hl (by omega) hcc ?_ ?_ (fun l' h1 h2 => k _ (by omega) (by omega) (by omega)) ?_ (fun k' h1 h2 => k _ (by omega) (by omega) (by omega))⟩
      · rw [g3, if_neg (by omega), if_neg (by omega)]; exact n7
      · rw [g3, if_pos ⟨rfl, rfl⟩]
      · rw [g3, if_neg (by omega), if_pos (by omega), Nat.sub_self]
        rfl
  exact par_ite (fun _ => par_zr fin) (fun _ => par_zr fin)
/-- comers of a turn -/
def TNV (b : Int) (k : Nat) (J0 J : IMem) : Prop := GX 0 J ∧ NWw (J 1) (b + k) ∧ ∀ j, ¬ (j = 0 ∨ j = 7 ∨ j = 76 ∨ (130 ≤ j ∧ j < 1580)) → J 1 j = J0 1 j
theorem xn_comers (hfu : 5000000000 < fu) {b : Int} (hb : b < 1000000000) (J0 : IMem) (kk : IMem → Res) (hend : ∀ J, TNV b 8 J0 J → par (kk J) Q) : ∀ (m k : Nat) (J : IMem), k ≤ 8 → TNV b k J0 J → par (f_X_turn_2 fu kk 0 m (k : Int) J) Q := by
  intro m
  induction m with
  | zero => intro _ _ _ _; exact par_none
  | succ m ih =>
    intro k J hk hV
    show par (fb_X_turn_2 fu kk 0 (f_X_turn_2 fu kk 0 m) (k : Int) J) Q
    unfold fb_X_turn_2
    have v0 : Wq (wr32 (26 + wr32 (4 * (k : Int)))) (((26 + 4 * k : Nat) : Int)) := by show wr32 (26 + wr32 (4 * (k : Int))) = ((26 + 4 * k : Nat) : Int); rw [wr32_i2 (x := 4 * (k : Int)) (by omega) (by omega), wr32_i2 (by omega) (by omega)]; omega
    have v1 : Wq (wr32 (((26 + 4 * k : Nat) : Int) + 1)) (((26 + 4 * k + 1 : Nat) : Int)) := by show wr32 (((26 + 4 * k : Nat) : Int) + 1) = ((26 + 4 * k + 1 : Nat) : Int); rw [wr32_i2 (by omega) (by omega)]; omega
    have v2 : Wq (wr32 (((26 + 4 * k : Nat) : Int) + 2)) (((26 + 4 * k + 2 : Nat) : Int)) := by show wr32 (((26 + 4 * k : Nat) : Int) + 2) = ((26 + 4 * k + 2 : Nat) : Int); rw [wr32_i2 (by omega) (by omega)]; omega
    have v3 : Wq (wr32 (((26 + 4 * k : Nat) : Int) + 3)) (((26 + 4 * k + 3 : Nat) : Int)) := by show wr32 (((26 + 4 * k : Nat) : Int) + 3) = ((26 + 4 * k + 3 : Nat) : Int); rw [wr32_i2 (by omega) (by omega)]; omega
    have wn : Wq (wr32 ((k : Int) + 1)) (((k + 1 : Nat) : Int)) := by show wr32 ((k : Int) + 1) = ((k + 1 : Nat) : Int); rw [wr32_i2 (by omega) (by omega)]; rfl
    simp only [zl_e, zj_e, Nat.zero_add]
    rw [v0.e, v1.e, v2.e, v3.e, wn.e]
    clear v0 v1 v2 v3 wn
    have hV' := hV
    obtain ⟨hG, hN, hF⟩ := hV'
    by_cases h8 : k < 8
    · rw [if_pos (show (k : Int) < 8 by omega)]
      refine par_zg (fun _ => ?_)
      rw [tn, tn, tn, tn]
      have nxt : ∀ J1, TNV b k J0 J1 → par (f_X_turn_2 fu kk 0 m ((k + 1 : Nat) : Int) J1) Q := fun J1 ⟨x1, x2, x3⟩ => ih (k + 1) J1 h8 ⟨x1, nww_mv x2 rfl (fun _ _ => rfl) (fun _ _ => rfl) (by omega), x3⟩
      refine par_ite (fun hp => ?_) (fun _ => nxt J hV)
      refine par_zb (Q1 := fun _ I => GX 0 I ∧ ∀ j, j ≠ 0 → I 1 j = J 1 j) (fun v I e => ⟨(par_sat (ok_X_draw fu 0 1000 J hfu hG (lit_in rfl) (by decide)) v I e).2.1, fun j hj => fc_X_draw (fun q j => q = 1 ∧ j = 0) fu 0 1000 J (by omega) e 1 j (by omega)⟩) (fun v J1 ⟨g1, g2⟩ => ?_)
      have hV1 : TNV b k J0 J1 := ⟨g1, nww_mv hN (g2 7 (by decide)) (fun l _ => g2 _ (by omega)) (fun k' _ => g2 _ (by omega)) (Int.le_refl _), fun j hj => (g2 j (by omega)).trans (hF j hj)⟩
      refine par_zg (fun _ => par_ite (fun hx => ?_) (fun _ => nxt J1 hV1))
      refine par_zg (fun _ => par_zg (fun _ => par_zg (fun _ => ?_)))
      have wx := g1.2.1.2.2.2.1 k h8
      have z1 : 1 ≤ J1 1 (26 + 4 * k) ∧ J1 1 (26 + 4 * k) ≤ 8 := wx (by
        show 0 < J1 1 (29 + 4 * k)
        rw [g2 _ (by omega), show 29 + 4 * k = 26 + 4 * k + 3 by omega]; exact hp)
      refine par_zb (par_and (xn_comes (fu := fu) (b := b + k) hfu g1 (g1.1 _ _) (g1.1 _ _) hV1.2.1 (by omega)) (par_sat (ok_X_comes fu 0 (J1 1 (26 + 4 * k)) (J1 1 (26 + 4 * k + 1)) (J1 1 (26 + 4 * k + 2)) J1 hfu g1 (g1.1 _ _) (g1.1 _ _) (g1.1 _ _) z1))) (fun _ J2 ⟨⟨c1, c2⟩, _, c3, _⟩ => ?_)
      refine ih (k + 1) J2 h8 ⟨c3, ?_, fun j hj => (c1 j (by omega)).trans (hV1.2.2 j hj)⟩
      rw [show b + ((k + 1 : Nat) : Int) = b + k + 1 by omega]
      exact c2
    · rw [if_neg (show ¬ (k : Int) < 8 by omega)]
      have : k = 8 := by omega
      subst this
      exact hend J hV
theorem xn_turn {kl : Nat} {law : List LRec} {b : Int} (hfu : 5000000000 < fu) (hw : LWX J kl law) (hG : GX 0 J) (h : NWw (J 1) b) (hb : b < 1000000000) (hc : J 1 70 < 2000000000) : par (f_X_turn fu 0 J) (fun _ J' => LWX J' kl law ∧ NWw (J' 1) (b + 8)) := by
  unfold f_X_turn
  refine xn_comers (fu := fu) (b := b) hfu hb J _ (fun J1 ⟨g1, g2, g3⟩ => ?_) fu 0 J (by decide) ⟨hG, nww_mv h rfl (fun _ _ => rfl) (fun _ _ => rfl) (by omega), fun _ _ => rfl⟩
  have hw1 : LWX J1 kl law := lwx_same hw (fun j hj => g3 j (by omega))
  refine par_zb (chair_n (fu := fu) hfu hw1 g1 (nuq_of g2) (by rw [g3 70 (by omega)]; exact hc)) (fun _ J2 n => par_zr ⟨lwx_same hw1 (fun j hj => n.2.2.2.1 j (by omega)), nww_ngo g2 n⟩)
theorem xn_run16 {kl : Nat} {law : List LRec} {b : Int} (hfu : 5000000000 < fu) (n : Int) (hn : n ≤ 60) (hb : b < 900000000) : ∀ (m i : Nat) (w : Int) (J : IMem), (i : Int) ≤ 60 → LWX J kl law → GX 0 J → NWw (J 1) (b + 8 * i) → J 1 70 + 60 < 2000000000 + i → par (f_X_run_16 fu 0 n m w (i : Int) J) (fun _ J' => NWw (J' 1) (b + 480)) := by
  intro m
  induction m with
  | zero => intro _ _ _ _ _ _ _ _; exact par_none
  | succ m ih =>
    intro i w J hi hw hG h hc
    show par (fb_X_run_16 fu 0 n (f_X_run_16 fu 0 n m) w (i : Int) J) _
    unfold fb_X_run_16
    by_cases hin : (i : Int) < n
    · rw [if_pos hin]
      have w1 : Wq (wr32 ((i : Int) + 1)) (((i + 1 : Nat) : Int)) := by show wr32 ((i : Int) + 1) = ((i + 1 : Nat) : Int); rw [wr32_i2 (by omega) (by omega)]; rfl
      simp only [zl_e]
      rw [w1.e]
      refine par_zb (par_and (xn_turn (fu := fu) hfu hw hG h (by omega) (by omega)) (par_sat (ok_X_turn fu 0 J hfu hG (show J 1 70 < 2000000000 by omega)))) (fun y J1 ⟨⟨c1, c2⟩, _, c3, _, c4, _⟩ => ?_)
      have c4' : J1 1 70 = J 1 70 + 1 := c4
      refine ih (i + 1) (wr32 (w + y)) J1 (by omega) c1 c3 ?_ (by omega)
      rw [show b + 8 * ((i + 1 : Nat) : Int) = b + 8 * i + 8 by omega]
      exact c2
    · rw [if_neg hin]
      exact par_zr (nww_mv h rfl (fun _ _ => rfl) (fun _ _ => rfl) (by omega))
theorem xn_run {kl : Nat} {law : List LRec} {b : Int} (a : Int) (hfu : 5000000000 < fu) (hw : LWX J kl law) (hG : GX 0 J) (h : NWw (J 1) b) (hb : b < 900000000) (hc : J 1 70 + 60 < 2000000000) : par (f_X_run fu 0 a J) (fun _ J' => NWw (J' 1) (b + 480)) := by
  unfold f_X_run
  rw [ev_isIn, zb_zr]
  by_cases q : 1 ≤ a ∧ a ≤ 60
  · rw [if_pos q, if_neg ne10]
    exact xn_run16 (fu := fu) hfu a q.2 hb fu 0 0 J (by decide) hw hG (nww_mv h rfl (fun _ _ => rfl) (fun _ _ => rfl) (by omega)) (by omega)
  · rw [if_neg q, if_pos eq00]
    exact par_zr (nww_mv h rfl (fun _ _ => rfl) (fun _ _ => rfl) (by omega))
theorem xn_come {b : Int} (a1 a2 a3 : Int) (hfu : 5000000000 < fu) (hG : GX 0 J) (q1 : inr a1) (q2 : inr a2) (q3 : inr a3) (h : NWw (J 1) b) (hb : b < 900000000) : par (f_X_come fu 0 a1 a2 a3 J) (fun _ J' => NWw (J' 1) (b + 480)) := by
  unfold f_X_come
  refine par_zb (Q1 := fun _ J' => J' = J) ?_ (fun y J1 e => ?_)
  · exact fun v I e => (par_sat (ok_X_isGroup fu a1 a2 a3 J hfu hG.1 q1 q2 q3) v I e).2.2.1
  · rw [e]
    refine par_ite (fun _ => par_zr (nww_mv h rfl (fun _ _ => rfl) (fun _ _ => rfl) (by omega))) (fun _ => ?_)
    exact par_zb (xn_comes (fu := fu) (b := b) hfu hG q2 q3 h (by omega)) (fun _ J2 ⟨_, c⟩ => par_zr (nww_mv c rfl (fun _ _ => rfl) (fun _ _ => rfl) (by omega)))
end
section
variable {fu : Nat} {I J : IMem}
/-- the hand, chosen: the lists are whole -/
theorem cvs_hand {J2 : IMem} {n : Nat} (hP : PKR I J) (hn : J 0 35 = (n : Int)) (gz : ∀ k, INL J k → 1 ≤ J 1 (141 + 6 * k) ∧ J 1 (141 + 6 * k) ≤ 8) (hT : TKR I J n J2) : CVS J2 ∧ ∀ k, INL J2 k → 0 ≤ J2 9 k ∧ J2 9 k ≤ J2 1 (141 + 6 * k) := by
  obtain ⟨⟨_, t31, t32, _, _⟩, t2, t3, t4, t5⟩ := hT
  have w : ∀ j, J2 1 j = J 1 j := fun j => t5 1 j (by decide) (by decide) (by decide) (by omega)
  have il : ∀ k, INL J2 k ↔ INL J k := inl_mv (fun j _ _ => w j)
  have one : ∀ i : Nat, i < n → ∃ k : Nat, INL J k ∧ J 15 i = (k : Int) ∧ J2 11 i = (k : Int) ∧ J2 9 k = J 1 (141 + 6 * k) := fun i hi => by
    obtain ⟨k, k1, k2, _⟩ := hP.2.2.1 i (by omega)
    exact ⟨k, k1, k2, (t2 i hi).trans k2, (t3 k k1.1).1 ⟨i, hi, k2⟩⟩
  refine ⟨⟨⟨by omega, by omega⟩, fun k hk hne => ?_, fun k hk hne => absurd (t4 k hk) hne, fun i hi => ?_, fun i hi => ?_, fun i j hi => ?_⟩, fun k hk => ?_⟩
  · by_cases y : ∃ i' : Nat, i' < n ∧ J 15 i' = (k : Int)
    · obtain ⟨i, i1, i2⟩ := y
      obtain ⟨k2, x1, x2, x3, _⟩ := one i i1
      have e : k2 = k := by omega
      rw [e] at x1 x3
      exact ⟨(il k).mpr x1, t4 k hk, i, by omega, x3⟩
    · exact absurd ((t3 k hk).2 (fun i' h1 h2 => y ⟨i', h1, h2⟩)) hne
  · obtain ⟨k, x1, _, x3, x4⟩ := one i (by omega)
    have z := gz k x1
    exact ⟨k, (il k).mpr x1, x3, by rw [x4]; omega⟩
  · omega
  · omega
  · have hk1 := (il k).mp hk
    have z := gz k hk1
    rw [w]
    by_cases y : ∃ i' : Nat, i' < n ∧ J 15 i' = (k : Int)
    · rw [(t3 k hk.1).1 y]; omega
    · rw [(t3 k hk.1).2 (fun i' h1 h2 => y ⟨i', h1, h2⟩)]; omega
theorem xn_send {b : Int} (h : RJ I J) (hg : GX 0 J) (hN : NWw (J 1) b) (hc : J 1 70 < 2000000000) : par (f_X_send fu 0 J) (fun _ J' => NWw (J' 1) b) := by
  have gs := gx_facts hg
  have hP : PKR I J := h.2.2.2.2.2.1
  obtain ⟨n, hn⟩ : ∃ n : Nat, J 0 35 = (n : Int) := ⟨(J 0 35).toNat, by have := hP.1.2.2.1; omega⟩
  have hn8 : n ≤ 8 := by have := hP.1; omega
  refine pq_tor (Q := fun _ _ _ J' => NWw (J' 1) b) (m1 := zr 0 I) (x := 0) (I := I) ?_ rfl
  unfold f_X_send
  refine pq_br (xv_begins (fu := fu) J) (fun _ J1 _ ⟨g1, ⟨g2, g3, g4, g5, g6⟩, g7⟩ => ?_)
  have hT0 : TKR I J 0 J1 := ⟨⟨by rw [g2]; exact (Int.sub_zero _).symm, g3, g4, g5, g6⟩, fun i' hi' => absurd hi' (Nat.not_lt_zero _), fun k hk => ⟨fun ⟨i', x, _⟩ => absurd x (Nat.not_lt_zero _), fun _ => (g1 k hk).1⟩, fun k hk => (g1 k hk).2, fun q j b1 b2 b3 b4 => g7 q j b1 b3 b4⟩
  refine xv_send6 _ _ I J hP hn hn8 gs.1 gs.2.2.2.2.1 (fun J2 hT => ?_) fu 0 J1 (Nat.zero_le _) hT0
  obtain ⟨hS, h9⟩ := cvs_hand hP hn gs.2.2.2.2.1 hT
  have w : ∀ j, J2 1 j = J 1 j := fun j => hT.2.2.2.2 1 j (by decide) (by decide) (by decide) (by omega)
  have t31 : J2 0 31 = (n : Int) := hT.1.2.1
  have t32 : J2 0 32 = 0 := hT.1.2.2.1
  refine pq_br (xn_goes (fu := fu) (by omega) (by omega) h9 hS (nuq_mv (fun j _ _ => w j) hN.1) (fun l hl => by rw [w]; exact gx_cnt hg l hl) (fun k hk => by rw [w]; exact gs.2.2.2.2.1 k ((inl_mv (fun j _ _ => w j) k).mp hk)) ⟨by rw [w]; exact gs.2.2.2.2.2.2, by rw [w]; exact hc⟩) (fun y J3 _ m => pq_end (nww_ngo (nww_mv hN (w 7) (fun _ _ => w _) (fun _ _ => w _) (Int.le_refl _)) m))
/-- NUMBERS, the image's too -/
def NWR (n : Nat) (J : IMem) : Prop := NWw (J 1) (500 * n) ∧ (J 0 3 ≠ 0 → NWw (J 2) (500 * n))
def RN (n : Nat) (I J : IMem) : Prop := RJ I J ∧ NWR n J
theorem nwr_set {n : Nat} {J' : IMem} (hN : NWR n J) (h1 : NWw (J' 1) (500 * n + 480)) (g : ∀ q j, (q = 2 ∨ (q = 0 ∧ j = 3)) → J' q j = J q j) : NWR (n + 1) J' := by
  have e2 : J' 2 = J 2 := funext (fun j => g 2 j (Or.inl rfl))
  refine ⟨nww_mv h1 rfl (fun _ _ => rfl) (fun _ _ => rfl) (by omega), fun h3 => ?_⟩
  rw [e2]
  rw [g 0 3 (Or.inr ⟨rfl, rfl⟩)] at h3
  exact nww_mv (hN.2 h3) rfl (fun _ _ => rfl) (fun _ _ => rfl) (by omega)
theorem nwr_quiet {n : Nat} {I' J' : IMem} (h : RJ I J) (h' : RJ I' J') (hN : NWR n J) (f : ∀ q, (q = 8 ∨ q = 9) → I' q = I q) (e1 : I' 1 = I 1 ∨ J' 1 7 = J 1 7) (g : ∀ q j, (q = 2 ∨ (q = 0 ∧ j = 3)) → J' q j = J q j) : NWR (n + 1) J' := by
  obtain ⟨a, _, _, b, _⟩ : HR 1 1 I J := h.1.1
  obtain ⟨a', _, _, b', _⟩ : HR 1 1 I' J' := h'.1.1
  have e7 : J' 1 7 = J 1 7 := by
    rcases e1 with e1 | e1
    · exact (a'.2.2.1.symm.trans (congrFun e1 7)).trans a.2.2.1
    · exact e1
  have ec : ∀ l, l < 6 → J' 1 (130 + l) = J 1 (130 + l) := fun l hl => ((hl_c b' hl).1.symm.trans (congrFun (f 9 (Or.inr rfl)) l)).trans (hl_c b hl).1
  refine nwr_set hN (nww_mv hN.1 e7 ec (fun k hk => ?_) (by omega)) g
  have hk1 := hk.1
  have d : 40 * (k / 40) + k % 40 = k := by omega
  have r := hl_r (l := k / 40) (p := k % 40) (f := 0) b (by omega) hk.2 (by decide)
  have r' := hl_r (l := k / 40) (p := k % 40) (f := 0) b' (by omega) (by rw [ec _ (by omega)]; exact hk.2) (by decide)
  rw [d] at r r'
  exact (r'.symm.trans (congrFun (f 8 (Or.inl rfl)) (6 * k + 0))).trans r
theorem nwr_image {n : Nat} {a y : Int} {J' : IMem} (hN : NWR n J) (e : f_X_image fu 0 a J = some (y, J')) : NWR (n + 1) J' := by
  have mono : ∀ {w w' : Nat → Int}, NWw w (500 * n) → (∀ j, j < 6190 → w' j = w j) → NWw w' (500 * ((n + 1 : Nat) : Int)) := fun hw g => nww_mv hw (g 7 (by decide)) (fun l hl => g _ (by omega)) (fun k hk => g _ (by have := hk.1; omega)) (by omega)
  by_cases ha : a = 0
  · by_cases h3 : J 0 3 = 0
    · have p : par (f_X_image fu 0 a J) (fun _ J' => J' = J) := by
        unfold f_X_image
        simp only [zj_e]
        rw [if_pos ha, if_pos h3]
        exact par_zr rfl
      have e1 := p y J' e
      rw [e1]
      exact ⟨mono hN.1 (fun _ _ => rfl), fun z => absurd h3 z⟩
    · obtain ⟨_, g1, _, _, g4, g5⟩ := xv_image0 (fu := fu) a ha J h3 y J' e
      have e2 : J' 2 = J 2 := funext (fun j => g5 2 j (by decide) (by decide) (by omega))
      refine ⟨mono (hN.2 h3) g1, fun _ => ?_⟩
      rw [e2]
      exact mono (hN.2 h3) (fun _ _ => rfl)
  · obtain ⟨_, g1, g2, g3⟩ := xv_image1 (fu := fu) a ha J y J' e
    have e1 : J' 1 = J 1 := funext (fun j => g3 1 j (by decide) (by omega))
    refine ⟨?_, fun _ => mono hN.1 g1⟩
    rw [e1]
    exact mono hN.1 (fun _ _ => rfl)
end
