/-! both memories: seed, chances, heap -/
def RH (a c : Nat) (I J : IMem) : Prop := I a 6 = J c 0 ∧ I (a + 1) 3 = J c 4 ∧ (∀ k, k < 8 → I (a + 4) (4 * k + 3) = J c (29 + 4 * k)) ∧ (∀ k, 1 ≤ k → k ≤ 8 → I (a + 5) k = J c (60 + k))
def RJ (I J : IMem) : Prop := RH 1 1 I J ∧ I 0 8 = J 0 3 ∧ (J 0 3 ≠ 0 → RH 41 2 I J)
def TRK (j : Nat) : Prop := j = 0 ∨ j = 4 ∨ (26 ≤ j ∧ j < 70)
theorem sat_of {x : Res} {r : Int × IMem} {Q : Int → IMem → Prop} (h : sat x Q) (e : x = some r) : Q r.1 r.2 := by
  obtain ⟨v, I, e2, q⟩ := h
  rw [e] at e2
  cases e2
  exact q
def NK (q : Nat) : Prop := q ≠ 0 ∧ q ≠ 1 ∧ q ≠ 2 ∧ q ≠ 5 ∧ q ≠ 6 ∧ q ≠ 41 ∧ q ≠ 42 ∧ q ≠ 45 ∧ q ≠ 46
def NK1 (q : Nat) : Prop := q ≠ 0 ∧ q ≠ 2 ∧ q ≠ 5 ∧ q ≠ 6 ∧ q ≠ 41 ∧ q ≠ 42 ∧ q ≠ 45 ∧ q ≠ 46
def NK2 (q : Nat) : Prop := q ≠ 0 ∧ q ≠ 1 ∧ q ≠ 5 ∧ q ≠ 6 ∧ q ≠ 41 ∧ q ≠ 42 ∧ q ≠ 45 ∧ q ≠ 46
def NK5 (q : Nat) : Prop := q ≠ 0 ∧ q ≠ 1 ∧ q ≠ 2 ∧ q ≠ 6 ∧ q ≠ 41 ∧ q ≠ 42 ∧ q ≠ 45 ∧ q ≠ 46
def NK6 (q : Nat) : Prop := q ≠ 0 ∧ q ≠ 1 ∧ q ≠ 2 ∧ q ≠ 5 ∧ q ≠ 41 ∧ q ≠ 42 ∧ q ≠ 45 ∧ q ≠ 46
/-- what the reference keeps but for its settings -/
def KMx (q j : Nat) : Prop := ¬ (q = 2 ∨ (q = 0 ∧ j = 3))
def KMy (q j : Nat) : Prop := ¬ (q = 2 ∨ (q = 0 ∧ j = 3) ∨ (q = 1 ∧ TRK j))
theorem rh_im {I J I2 J2 : IMem} (h : I 0 8 = J 0 3 ∧ (J 0 3 ≠ 0 → RH 41 2 I J)) (h1 : ∀ q, (q = 0 ∨ q = 41 ∨ q = 42 ∨ q = 45 ∨ q = 46) → I2 q = I q) (h2 : ∀ j, J2 2 j = J 2 j) (h3 : J2 0 3 = J 0 3) : I2 0 8 = J2 0 3 ∧ (J2 0 3 ≠ 0 → RH 41 2 I2 J2) := by
  refine ⟨by rw [h1 0 (by omega), h3]; exact h.1, fun q => ?_⟩
  rw [h3] at q
  obtain ⟨a, b, c, d⟩ := h.2 q
  unfold RH
  refine ⟨by rw [h1 41 (by omega), h2]; exact a, by rw [h1 (41 + 1) (by omega), h2]; exact b, fun k hk => by rw [h1 (41 + 4) (by omega), h2]; exact c k hk, fun k k1 k2 => by rw [h1 (41 + 5) (by omega), h2]; exact d k k1 k2⟩
theorem rj_k {I J I2 J2 : IMem} (h : RJ I J) (h1 : ∀ q, ¬ NK q → I2 q = I q) (ht : ∀ j, TRK j → J2 1 j = J 1 j) (h2 : ∀ j, J2 2 j = J 2 j) (h3 : J2 0 3 = J 0 3) : RJ I2 J2 := by
  obtain ⟨⟨a, b, c, d⟩, hi⟩ := h
  refine ⟨⟨by rw [h1 1 (by unfold NK; omega), ht _ (by unfold TRK; omega)]; exact a, by rw [h1 (1 + 1) (by unfold NK; omega), ht _ (by unfold TRK; omega)]; exact b, fun k hk => by rw [h1 (1 + 4) (by unfold NK; omega), ht _ (by unfold TRK; omega)]; exact c k hk, fun k k1 k2 => by rw [h1 (1 + 5) (by unfold NK; omega), ht _ (by unfold TRK; omega)]; exact d k k1 k2⟩, ?_⟩
  exact rh_im hi (fun q hq => h1 q (by unfold NK; omega)) h2 h3
/-- as before, the reference's settings by KPQ, the seeds anew -/
theorem rj_s {I J I2 J2 : IMem} {s : Int} (h : RJ I J) (h1 : ∀ q, ¬ NK1 q → I2 q = I q) (hs : I2 1 6 = s) (ht : KPQ 0 J J2) (hs2 : J2 1 0 = s) (h2 : ∀ j, J2 2 j = J 2 j) (h3 : J2 0 3 = J 0 3) : RJ I2 J2 := by
  obtain ⟨⟨a, b, c, d⟩, hi⟩ := h
  have ht : ∀ j : Nat, 1 ≤ j → j < 70 → j ≠ 7 → J2 1 j = J 1 j := ht
  refine ⟨⟨by rw [hs, hs2], by rw [h1 (1 + 1) (by unfold NK1; omega), ht _ (by omega) (by omega) (by omega)]; exact b, fun k hk => by rw [h1 (1 + 4) (by unfold NK1; omega), ht _ (by omega) (by omega) (by omega)]; exact c k hk, fun k k1 k2 => by rw [h1 (1 + 5) (by unfold NK1; omega), ht _ (by omega) (by omega) (by omega)]; exact d k k1 k2⟩, ?_⟩
  exact rh_im hi (fun q hq => h1 q (by unfold NK1; omega)) h2 h3
theorem ef_isIn {fu : Nat} {a b c : Int} {J : IMem} {r : Int × IMem} (hfu : 5000000000 < fu) (hJ : GX 0 J) (qa : inr a) (qb : inr b) (qc : inr c) (e : f_X_isIn fu a b c J = some r) : r.2 = J ∧ (r.1 = 0 ∨ r.1 = 1) ∧ (r.1 = 1 ↔ (b ≤ a ∧ a ≤ c)) := (sat_of (ok_X_isIn fu a b c J hfu hJ.1 qa qb qc) e).2.2
theorem ef_isLine {fu : Nat} {a : Int} {J : IMem} {r : Int × IMem} (hfu : 5000000000 < fu) (hJ : GX 0 J) (qa : inr a) (e : f_X_isLine fu a J = some r) : r.2 = J ∧ (r.1 = 0 ∨ r.1 = 1) ∧ (r.1 = 1 ↔ (0 ≤ a ∧ a ≤ 5)) := (sat_of (ok_X_isLine fu a J hfu hJ.1 qa) e).2.2
theorem ef_seen {fu : Nat} {a1 a2 : Int} {J : IMem} {r : Int × IMem} (hfu : 5000000000 < fu) (hJ : GX 0 J) (q1 : inr a1) (q2 : inr a2) (e : f_X_seen fu 0 a1 a2 J = some r) : ∀ j, TRK j → r.2 1 j = J 1 j := by
  intro j hj
  unfold TRK at hj
  unfold f_X_seen at e
  obtain ⟨y1, I2, c1, e_⟩ := of_zb e; clear e; have e := e_; clear e_
  obtain ⟨e2, p1, p2⟩ := ef_isLine hfu hJ q1 c1
  have e2 : I2 = J := e2
  subst e2
  rcases of_ite e with ⟨q, e_⟩ | ⟨q, e_⟩ <;> (clear e; have e := e_; clear e_)
  · cases e; rfl
  · obtain ⟨y4, I5, c4, e_⟩ := of_zb e; clear e; have e := e_; clear e_
    obtain ⟨e5, p3, p4⟩ := ef_isIn hfu hJ q2 (lit_in rfl) (lit_in rfl) c4
    have e5 : I5 = I2 := e5
    subst e5
    rcases of_ite e with ⟨q3, e_⟩ | ⟨q3, e_⟩ <;> (clear e; have e := e_; clear e_)
    · cases e; rfl
    · obtain ⟨x8, e8, e_⟩ := of_zl e; clear e; have e := e_; clear e_
      have ha := p2.1 (p1.resolve_left q)
      rw [wr32_i2 (by omega) (by omega)] at e8
      obtain ⟨g, e_⟩ := of_zg e; clear e; have e := e_; clear e_
      have e : zr 1 (up I5 1 x8.toNat a2) = some r := e
      cases e
      exact if_neg (fun z => by omega)
theorem ef_parts {fu : Nat} {a1 a2 : Int} {J : IMem} {r : Int × IMem} (hfu : 5000000000 < fu) (hJ : GX 0 J) (q1 : inr a1) (q2 : inr a2) (e : f_X_parts fu 0 a1 a2 J = some r) : ∀ j, TRK j → r.2 1 j = J 1 j := by
  intro j hj
  unfold TRK at hj
  unfold f_X_parts at e
  obtain ⟨y1, I2, c1, e_⟩ := of_zb e; clear e; have e := e_; clear e_
  obtain ⟨e2, p1, p2⟩ := ef_isIn hfu hJ q1 (lit_in rfl) (lit_in rfl) c1
  have e2 : I2 = J := e2
  subst e2
  rcases of_ite e with ⟨q, e_⟩ | ⟨q, e_⟩ <;> (clear e; have e := e_; clear e_)
  · cases e; rfl
  · obtain ⟨y4, I5, c4, e_⟩ := of_zb e; clear e; have e := e_; clear e_
    obtain ⟨e5, p3, p4⟩ := ef_isIn hfu hJ q2 (lit_in rfl) (wr32_in _) c4
    have e5 : I5 = I2 := e5
    subst e5
    rcases of_ite e with ⟨q3, e_⟩ | ⟨q3, e_⟩ <;> (clear e; have e := e_; clear e_)
    · cases e; rfl
    · obtain ⟨x8, e8, e_⟩ := of_zl e; clear e; have e := e_; clear e_
      have ha := p2.1 (p1.resolve_left q)
      rw [wr32_i2 (by omega) (by omega)] at e8
      obtain ⟨g, e_⟩ := of_zg e; clear e; have e := e_; clear e_
      have e : zr 1 (up I5 1 x8.toNat a2) = some r := e
      cases e
      exact if_neg (fun z => by omega)
theorem ef_look {fu : Nat} {a1 : Int} {J : IMem} {r : Int × IMem} (hfu : 5000000000 < fu) (hJ : GX 0 J) (q1 : inr a1) (e : f_X_look fu 0 a1 J = some r) : ∀ j, TRK j → r.2 1 j = J 1 j := by
  intro j hj
  unfold TRK at hj
  unfold f_X_look at e
  obtain ⟨y1, I2, c1, e_⟩ := of_zb e; clear e; have e := e_; clear e_
  obtain ⟨e2, p1, p2⟩ := ef_isLine hfu hJ q1 c1
  have e2 : I2 = J := e2
  subst e2
  rcases of_ite e with ⟨q, e_⟩ | ⟨q, e_⟩ <;> (clear e; have e := e_; clear e_)
  · cases e; rfl
  · have ha := p2.1 (p1.resolve_left q)
    obtain ⟨x4, e4, e_⟩ := of_zl e; clear e; have e := e_; clear e_
    obtain ⟨g, e_⟩ := of_zg e; clear e; have e := e_; clear e_
    rcases of_ite e with ⟨q3, e_⟩ | ⟨q3, e_⟩ <;> (clear e; have e := e_; clear e_)
    · cases e; rfl
    · obtain ⟨y5, I6, c5, e_⟩ := of_zb e; clear e; have e := e_; clear e_
      have f6 : ∀ q j, ¬ (q = 16 ∨ q = 17 ∨ q = 0) → I6 q j = I2 q j := fc_X_best (fun q _ => q = 16 ∨ q = 17 ∨ q = 0) fu 0 0 I2 (fun _ => by simp) (fun _ => by simp) (by simp) c5
      obtain ⟨x8, e8, e_⟩ := of_zl e; clear e; have e := e_; clear e_
      rw [wr32_i2 (by omega) (by omega)] at e8
      obtain ⟨g2, e_⟩ := of_zg e; clear e; have e := e_; clear e_
      obtain ⟨g3, e_⟩ := of_zg e; clear e; have e := e_; clear e_
      have e : (fun I9 : IMem => zb (f_X_best fu 0 0 I9) fun y10 I11 => zl (wr32 (10 + a1)) fun x13 => zg (0 ≤ x13 ∧ x13 < 6190) (zg (0 ≤ x13 ∧ x13 < 6190) (zw I11 (0 + 1) x13.toNat (wr32 ((I11 (0 + 1) x13.toNat) - 1)) fun I14 => zr (wr32 (y10 - y5)) I14))) (up I6 (0 + 1) x8.toNat (wr32 (I6 (0 + 1) x8.toNat + 1))) = some r := e
      obtain ⟨y10, I11, c10, e_⟩ := of_zb e; clear e; have e := e_; clear e_
      have f11 : ∀ q j, ¬ (q = 16 ∨ q = 17 ∨ q = 0) → I11 q j = up I6 (0 + 1) x8.toNat (wr32 (I6 (0 + 1) x8.toNat + 1)) q j := fc_X_best (fun q _ => q = 16 ∨ q = 17 ∨ q = 0) fu 0 0 _ (fun _ => by simp) (fun _ => by simp) (by simp) c10
      obtain ⟨x13, e13, e_⟩ := of_zl e; clear e; have e := e_; clear e_
      rw [wr32_i2 (by omega) (by omega)] at e13
      obtain ⟨g4, e_⟩ := of_zg e; clear e; have e := e_; clear e_
      obtain ⟨g5, e_⟩ := of_zg e; clear e; have e := e_; clear e_
      have e : zr (wr32 (y10 - y5)) (up I11 (0 + 1) x13.toNat (wr32 (I11 (0 + 1) x13.toNat - 1))) = some r := e
      cases e
      refine (if_neg (fun z => by omega)).trans ?_
      rw [f11 1 j (by omega)]
      refine (if_neg (fun z => by omega)).trans ?_
      exact f6 1 j (by omega)
theorem ef_set {fu : Nat} {a1 a2 : Int} {J : IMem} {r : Int × IMem} (hfu : 5000000000 < fu) (hJ : GX 0 J) (q1 : inr a1) (q2 : inr a2) (e : f_X_set fu 0 a1 a2 J = some r) : (∀ j, TRK j → j ≠ 4 → r.2 1 j = J 1 j) ∧ (r.1 = 1 → 0 ≤ a1 ∧ a1 ≤ 5) ∧ r.2 1 4 = if r.1 = 1 ∧ a1 = 3 then a2 else J 1 4 := by
  have an := (sat_of (kp_X_set fu 0 a1 a2 J hfu hJ q1 q2) e).2.2.2.2
  have hb : r.1 = 1 → 0 ≤ a1 ∧ a1 ≤ 5 := fun q => by have := an.2.1 q; unfold CSet at this; omega
  unfold f_X_set at e
  obtain ⟨k1, ek1, e_⟩ := of_zj e; clear e; have e := e_; clear e_
  have hk1 : ∀ x3, (k1 x3 J = some r) → (∀ j, TRK j → j ≠ 4 → r.2 1 j = J 1 j) ∧ r.2 1 4 = if r.1 = 1 ∧ a1 = 3 then a2 else J 1 4 := by
    intro x3 h
    subst ek1
    rcases of_ite h with ⟨q, h_⟩ | ⟨q, h_⟩ <;> (clear h; have h := h_; clear h_)
    · cases h
      exact ⟨fun _ _ _ => rfl, by rw [if_neg (fun z => absurd (show (0 : Int) = 1 from z.1) (by decide))]⟩
    · obtain ⟨x5, e5, h_⟩ := of_zl h; clear h; have h := h_; clear h_
      obtain ⟨g, h_⟩ := of_zg h; clear h; have h := h_; clear h_
      have h : (fun I4 : IMem => if a1 = 0 then zb (f_X_forgets fu 0 I4) fun _ I7 => zr 1 I7 else zr 1 I4) (up J 1 x5.toNat a2) = some r := h
      have fin : ∀ I : IMem, (∀ j, I 1 j = up J 1 x5.toNat a2 1 j) → r = (1, I) → (∀ j, TRK j → j ≠ 4 → r.2 1 j = J 1 j) ∧ r.2 1 4 = if r.1 = 1 ∧ a1 = 3 then a2 else J 1 4 := by
        intro I hI er
        have hb1 := hb (by rw [er])
        rw [wr32_i2 (by omega) (by omega)] at e5
        subst er
        refine ⟨fun j hj h4 => ?_, ?_⟩
        · unfold TRK at hj
          show I 1 j = J 1 j
          rw [hI]
          exact if_neg (fun z => by omega)
        · show I 1 4 = if (1 : Int) = 1 ∧ a1 = 3 then a2 else J 1 4
          rw [hI]
          by_cases z : a1 = 3
          · rw [if_pos ⟨rfl, z⟩]; exact if_pos ⟨rfl, by omega⟩
          · rw [if_neg (fun w => z w.2)]; exact if_neg (fun w => by omega)
      rcases of_ite h with ⟨q3, h_⟩ | ⟨q3, h_⟩ <;> (clear h; have h := h_; clear h_)
      · obtain ⟨u, I7, c7, h_⟩ := of_zb h; clear h; have h := h_; clear h_
        have f7 : ∀ q j, ¬ (q = 13 ∨ q = 0) → I7 q j = up J 1 x5.toNat a2 q j := fc_X_forgets (fun q _ => q = 13 ∨ q = 0) fu 0 _ (fun _ => by simp) (by simp) c7
        cases h
        exact fin I7 (fun j => f7 1 j (by omega)) rfl
      · cases h
        exact fin _ (fun _ => rfl) rfl
  have step : ∀ (a b c : Int) (K : Int → IMem → Res), inr a → inr b → inr c → (∀ x, K x J = some r → k1 x J = some r ∨ k1 0 J = some r ∨ k1 1 J = some r) → (zb (f_X_isIn fu a b c J) fun y I => K y I) = some r → ∃ x, k1 x J = some r := by
    intro a b c K qa qb qc hK h
    obtain ⟨y, I, ci, h_⟩ := of_zb h; clear h; have h := h_; clear h_
    have e2 : I = J := (ef_isIn hfu hJ qa qb qc ci).1
    rw [e2] at h
    rcases hK y h with z | z | z
    · exact ⟨_, z⟩
    · exact ⟨_, z⟩
    · exact ⟨_, z⟩
  have ex : ∃ x, k1 x J = some r := by
    rcases of_ite e with ⟨_, e_⟩ | ⟨_, e_⟩ <;> (clear e; have e := e_; clear e_)
    · exact step _ _ _ _ q2 (lit_in rfl) (lit_in rfl) (fun x h => Or.inl h) e
    rcases of_ite e with ⟨_, e_⟩ | ⟨_, e_⟩ <;> (clear e; have e := e_; clear e_)
    · exact step _ _ _ _ q2 (lit_in rfl) (lit_in rfl) (fun x h => Or.inl h) e
    rcases of_ite e with ⟨_, e_⟩ | ⟨_, e_⟩ <;> (clear e; have e := e_; clear e_)
    · exact step _ _ _ _ q2 (lit_in rfl) (lit_in rfl) (fun x h => Or.inl h) e
    rcases of_ite e with ⟨_, e_⟩ | ⟨_, e_⟩ <;> (clear e; have e := e_; clear e_)
    · exact step _ _ _ _ q2 (lit_in rfl) (lit_in rfl) (fun x h => Or.inl h) e
    rcases of_ite e with ⟨_, e_⟩ | ⟨_, e_⟩ <;> (clear e; have e := e_; clear e_)
    · exact step _ _ _ _ q2 (lit_in rfl) (lit_in rfl) (fun x h => Or.inl h) e
    rcases of_ite e with ⟨_, e_⟩ | ⟨_, e_⟩ <;> (clear e; have e := e_; clear e_)
    · refine step _ _ _ _ q2 (lit_in rfl) (lit_in rfl) (fun x h => ?_) e
      rcases of_ite h with ⟨_, h_⟩ | ⟨_, h_⟩ <;> (clear h; have h := h_; clear h_)
      · exact Or.inr (Or.inl h)
      · exact Or.inr (Or.inr h)
    · exact ⟨0, e⟩
  obtain ⟨x, hx⟩ := ex
  exact ⟨(hk1 x hx).1, hb, (hk1 x hx).2⟩
theorem es_set {fu : Nat} {a1 a2 : Int} {I : IMem} {r : Int × IMem} (hfu : 5000000000 < fu) (hI : GC I) (q1 : inr a1) (q2 : inr a2) (e : f_S_set fu 0 a1 a2 I = some r) : r.2 2 3 = if r.1 = 1 ∧ a1 = 3 then a2 else I 2 3 := by
  unfold f_S_set at e
  obtain ⟨y1, I2, c1, e_⟩ := of_zb e; clear e; have e := e_; clear e_
  have e2 : I2 = I := (sat_of (ok_S_canTell fu a1 a2 I hfu hI q1 q2) c1).2.2.1
  subst e2
  rcases of_ite e with ⟨q, e_⟩ | ⟨q, e_⟩ <;> (clear e; have e := e_; clear e_)
  · cases e
    rw [if_neg (fun z => absurd (show (0 : Int) = 1 from z.1) (by decide))]
  · obtain ⟨g, e_⟩ := of_zg e; clear e; have e := e_; clear e_
    have e : (fun I4 : IMem => if a1 = 0 then zb (f_C_clear fu (0 + 137) a2 I4) fun _ I6 => zr 1 I6 else zr 1 I4) (up I2 (0 + 2) a1.toNat a2) = some r := e
    have fin : up I2 (0 + 2) a1.toNat a2 2 3 = if (1 : Int) = 1 ∧ a1 = 3 then a2 else I2 2 3 := by
      by_cases z : a1 = 3
      · rw [if_pos ⟨rfl, z⟩]; exact if_pos ⟨rfl, by omega⟩
      · rw [if_neg (fun w => z w.2)]; exact if_neg (fun w => by omega)
    rcases of_ite e with ⟨q3, e_⟩ | ⟨q3, e_⟩ <;> (clear e; have e := e_; clear e_)
    · obtain ⟨u, I6, c6, e_⟩ := of_zb e; clear e; have e := e_; clear e_
      have f6 : ∀ q, ¬ NK q → I6 q = up I2 (0 + 2) a1.toNat a2 q := fr_C_clear NK fu (0 + 137) a2 _ (by unfold NK; omega) (by unfold NK; omega) c6
      cases e
      show I6 2 3 = _
      rw [f6 2 (by unfold NK; omega)]
      exact fin
    · cases e; exact fin
theorem ef_comer {fu : Nat} {a1 a2 a3 a4 a5 : Int} {J : IMem} {r : Int × IMem} (hfu : 5000000000 < fu) (hJ : GX 0 J) (q1 : inr a1) (q2 : inr a2) (q3 : inr a3) (q4 : inr a4) (q5 : inr a5) (e : f_X_comer fu 0 a1 a2 a3 a4 a5 J = some r) : (∀ j, TRK j → (j < 26 ∨ 58 ≤ j) → r.2 1 j = J 1 j) ∧ (r.1 = 1 → 0 ≤ a1 ∧ a1 ≤ 7) ∧ ∀ k : Nat, k < 8 → r.2 1 (29 + 4 * k) = if r.1 = 1 ∧ a1 = k then a5 else J 1 (29 + 4 * k) := by
  have an := (sat_of (kp_X_comer fu 0 a1 a2 a3 a4 a5 J hfu hJ q1 q2 q3 q4 q5) e).2.2.2
  have hb : r.1 = 1 → 0 ≤ a1 ∧ a1 ≤ 7 := fun q => by have := an.2.1 q; unfold CComer at this; omega
  have none : ∀ I : IMem, I = J → r = (0, I) → (∀ j, TRK j → (j < 26 ∨ 58 ≤ j) → r.2 1 j = J 1 j) ∧ (r.1 = 1 → 0 ≤ a1 ∧ a1 ≤ 7) ∧ ∀ k : Nat, k < 8 → r.2 1 (29 + 4 * k) = if r.1 = 1 ∧ a1 = k then a5 else J 1 (29 + 4 * k) := by
    intro I h1 h2
    refine ⟨fun j _ _ => by rw [h2, h1], hb, fun k _ => ?_⟩
    rw [h2, h1, if_neg (fun z => absurd (show (0 : Int) = 1 from z.1) (by decide))]
  unfold f_X_comer at e
  obtain ⟨y1, I2, c1, e_⟩ := of_zb e; clear e; have e := e_; clear e_
  have e2 : I2 = J := (ef_isIn hfu hJ q1 (lit_in rfl) (lit_in rfl) c1).1
  subst e2
  rcases of_ite e with ⟨q, e_⟩ | ⟨q, e_⟩ <;> (clear e; have e := e_; clear e_)
  · cases e; exact none _ rfl rfl
  obtain ⟨y4, I5, c4, e_⟩ := of_zb e; clear e; have e := e_; clear e_
  have e5 : I5 = I2 := (sat_of (ok_X_isGroup fu a2 a3 a4 I2 hfu hJ.1 q2 q3 q4) c4).2.2.1
  subst e5
  rcases of_ite e with ⟨q, e_⟩ | ⟨q, e_⟩ <;> (clear e; have e := e_; clear e_)
  · cases e; exact none _ rfl rfl
  obtain ⟨y7, I8, c7, e_⟩ := of_zb e; clear e; have e := e_; clear e_
  have e8 : I8 = I5 := (ef_isIn hfu hJ q5 (lit_in rfl) (lit_in rfl) c7).1
  subst e8
  rcases of_ite e with ⟨q, e_⟩ | ⟨q, e_⟩ <;> (clear e; have e := e_; clear e_)
  · cases e; exact none _ rfl rfl
  simp only [zw] at e
  obtain ⟨x11, e11, e_⟩ := of_zl e; clear e; have e := e_; clear e_
  obtain ⟨g1, e_⟩ := of_zg e; clear e; have e := e_; clear e_
  obtain ⟨x13, e13, e_⟩ := of_zl e; clear e; have e := e_; clear e_
  obtain ⟨g2, e_⟩ := of_zg e; clear e; have e := e_; clear e_
  obtain ⟨x15, e15, e_⟩ := of_zl e; clear e; have e := e_; clear e_
  obtain ⟨g3, e_⟩ := of_zg e; clear e; have e := e_; clear e_
  obtain ⟨x17, e17, e_⟩ := of_zl e; clear e; have e := e_; clear e_
  obtain ⟨g4, e_⟩ := of_zg e; clear e; have e := e_; clear e_
  cases e
  have ha := hb rfl
  rw [wr32_i2 (x := 4 * a1) (by omega) (by omega), wr32_i2 (by omega) (by omega)] at e11
  rw [wr32_i2 (x := 4 * a1) (by omega) (by omega), wr32_i2 (x := 26 + 4 * a1) (by omega) (by omega), wr32_i2 (by omega) (by omega)] at e13 e15 e17
  refine ⟨fun j hj h => ?_, hb, fun k hk => ?_⟩
  · exact (if_neg (fun z => by omega)).trans ((if_neg (fun z => by omega)).trans ((if_neg (fun z => by omega)).trans (if_neg (fun z => by omega))))
  · by_cases z : a1 = k
    · rw [if_pos ⟨rfl, z⟩]
      exact if_pos ⟨rfl, by omega⟩
    · rw [if_neg (fun w => z w.2)]
      exact (if_neg (fun z => by omega)).trans ((if_neg (fun z => by omega)).trans ((if_neg (fun z => by omega)).trans (if_neg (fun z => by omega))))
theorem es_comer {fu : Nat} {a1 a2 a3 a4 a5 : Int} {I : IMem} {r : Int × IMem} (hfu : 5000000000 < fu) (hI : GC I) (q2 : inr a2) (q3 : inr a3) (q4 : inr a4) (e : f_S_comer fu 0 a1 a2 a3 a4 a5 I = some r) : ∀ k : Nat, k < 8 → r.2 5 (4 * k + 3) = if r.1 = 1 ∧ a1 = k then a5 else I 5 (4 * k + 3) := by
  intro k hk
  unfold f_S_comer at e
  rcases of_ite e with ⟨q, e_⟩ | ⟨q, e_⟩ <;> (clear e; have e := e_; clear e_)
  · cases e; rw [if_neg (fun z => absurd (show (0 : Int) = 1 from z.1) (by decide))]
  rcases of_ite e with ⟨q6, e_⟩ | ⟨q6, e_⟩ <;> (clear e; have e := e_; clear e_)
  rotate_left
  · cases e; rw [if_neg (fun z => absurd (show (0 : Int) = 1 from z.1) (by decide))]
  obtain ⟨y1, I2, c1, e_⟩ := of_zb e; clear e; have e := e_; clear e_
  have e2 : I2 = I := (sat_of (ok_S_canBe fu a2 a3 a4 I hfu hI q2 q3 q4) c1).2.2.1
  subst e2
  rcases of_ite e with ⟨q7, e_⟩ | ⟨q7, e_⟩ <;> (clear e; have e := e_; clear e_)
  · cases e; rw [if_neg (fun z => absurd (show (0 : Int) = 1 from z.1) (by decide))]
  rcases of_ite e with ⟨q8, e_⟩ | ⟨q8, e_⟩ <;> (clear e; have e := e_; clear e_)
  · cases e; rw [if_neg (fun z => absurd (show (0 : Int) = 1 from z.1) (by decide))]
  rcases of_ite e with ⟨q9, e_⟩ | ⟨q9, e_⟩ <;> (clear e; have e := e_; clear e_)
  · cases e; rw [if_neg (fun z => absurd (show (0 : Int) = 1 from z.1) (by decide))]
  obtain ⟨u, I5, c5, e_⟩ := of_zb e; clear e; have e := e_; clear e_
  cases e
  unfold f_H_tellComer at c5
  rw [if_neg q, if_pos q6] at c5
  simp only [zw] at c5
  obtain ⟨x2, e2, c5_⟩ := of_zl c5; clear c5; have c5 := c5_; clear c5_
  obtain ⟨g1, c5_⟩ := of_zg c5; clear c5; have c5 := c5_; clear c5_
  obtain ⟨x4, e4, c5_⟩ := of_zl c5; clear c5; have c5 := c5_; clear c5_
  obtain ⟨g2, c5_⟩ := of_zg c5; clear c5; have c5 := c5_; clear c5_
  obtain ⟨x6, e6, c5_⟩ := of_zl c5; clear c5; have c5 := c5_; clear c5_
  obtain ⟨g3, c5_⟩ := of_zg c5; clear c5; have c5 := c5_; clear c5_
  obtain ⟨x8, e8, c5_⟩ := of_zl c5; clear c5; have c5 := c5_; clear c5_
  obtain ⟨g4, c5_⟩ := of_zg c5; clear c5; have c5 := c5_; clear c5_
  cases c5
  rw [wr32_i2 (x := 4 * a1) (by omega) (by omega)] at e2
  rw [wr32_i2 (x := 4 * a1) (by omega) (by omega), wr32_i2 (by omega) (by omega)] at e4 e6 e8
  by_cases z : a1 = k
  · rw [if_pos ⟨rfl, z⟩]
    exact if_pos ⟨rfl, by omega⟩
  · rw [if_neg (fun w => z w.2)]
    exact (if_neg (fun z => by omega)).trans ((if_neg (fun z => by omega)).trans ((if_neg (fun z => by omega)).trans (if_neg (fun z => by omega))))
/-- a1 and a2 go into the heap of the sum s -/
def CHeap (a1 a2 s h : Int) : Prop := 1 ≤ a1 ∧ a1 ≤ 8 ∧ 0 ≤ a2 ∧ a2 ≤ 9 ∧ a2 + s - h ≤ 12
theorem ef_heap {fu : Nat} {a1 a2 : Int} {J : IMem} {r : Int × IMem} (hfu : 5000000000 < fu) (hJ : GX 0 J) (q1 : inr a1) (q2 : inr a2) (e : f_X_heap fu 0 a1 a2 J = some r) : AN (CHeap a1 a2 (hsum J 1) (J 1 (60 + a1).toNat)) r.1 ∧ (∀ j, TRK j → (j < 60 ∨ 69 ≤ j) → r.2 1 j = J 1 j) ∧ ∀ k : Nat, 1 ≤ k → k ≤ 8 → r.2 1 (60 + k) = if r.1 = 1 ∧ a1 = k then a2 else J 1 (60 + k) := by
  have hs : sat (f_X_heap fu 0 a1 a2 J) (fun v I => AN (CHeap a1 a2 (hsum J 1) (J 1 (60 + a1).toNat)) v ∧ (∀ j, TRK j → (j < 60 ∨ 69 ≤ j) → I 1 j = J 1 j) ∧ ∀ k : Nat, 1 ≤ k → k ≤ 8 → I 1 (60 + k) = if v = 1 ∧ a1 = k then a2 else J 1 (60 + k)) := by
    have no : ¬ CHeap a1 a2 (hsum J 1) (J 1 (60 + a1).toNat) → sat (zr 0 J) (fun v I => AN (CHeap a1 a2 (hsum J 1) (J 1 (60 + a1).toNat)) v ∧ (∀ j, TRK j → (j < 60 ∨ 69 ≤ j) → I 1 j = J 1 j) ∧ ∀ k : Nat, 1 ≤ k → k ≤ 8 → I 1 (60 + k) = if v = 1 ∧ a1 = k then a2 else J 1 (60 + k)) := fun h => sat_zr ⟨an_0 h, fun _ _ _ => rfl, fun k _ _ => by rw [if_neg (fun z => absurd (show (0 : Int) = 1 from z.1) (by decide))]⟩
    unfold f_X_heap
    refine sat_zb (ok_X_isIn fu a1 1 8 J hfu hJ.1 q1 (lit_in rfl) (lit_in rfl)) (fun y1 I2 c1 ⟨_, _, e2, p1, p2⟩ => ?_)
    subst e2
    refine sat_ite (fun q => no (by unfold CHeap; omega)) (fun q => ?_)
    refine sat_zb (ok_X_isIn fu a2 0 9 I2 hfu hJ.1 q2 (lit_in rfl) (lit_in rfl)) (fun y4 I5 c4 ⟨_, _, e5, p3, p4⟩ => ?_)
    subst e5
    refine sat_ite (fun q => no (by unfold CHeap; omega)) (fun q3 => ?_)
    refine ok_X_heap_27 (Ib := I5) fu _ 0 a1 a2 hfu q1 q2 (by omega) ?_ (fun v I h1 h2 h3 => h3.2.elim) fu a2 1 I5 q2 (lit_in rfl) hJ ⟨rfl, by omega, by omega, by intro q; omega, by intro q; rw [show ((1 : Int) - 1).toNat = 0 by decide]; show a2 = a2 + 0; omega⟩ (by omega)
    intro x14 I13 q14 hG ⟨e13, p13⟩
    subst e13
    have p13 : x14 = a2 + hsum I13 1 - I13 1 (60 + a1).toNat := p13
    refine sat_ite (fun q5 => no (by unfold CHeap; omega)) (fun q5 => ?_)
    refine sat_zl (wr32_in _) (fun x16 hx16 _ _ => ?_)
    rw [wr32_i2 (by omega) (by omega)] at hx16
    refine sat_zg (by omega) (fun _ => ?_)
    refine (show sat (zr 1 (up I13 1 x16.toNat a2)) _ from sat_zr ⟨an_1 (by unfold CHeap; omega), fun j hj h => if_neg (fun z => by omega), fun k k1 k2 => ?_⟩)
    by_cases z : a1 = k
    · rw [if_pos ⟨rfl, z⟩]
      exact if_pos ⟨rfl, by omega⟩
    · rw [if_neg (fun w => z w.2)]
      exact if_neg (fun w => by omega)
  exact sat_of hs e
/-- the sum of the first w of the heap -/
def hs6 (I : IMem) : Nat → Int
  | 0 => 0
  | n + 1 => hs6 I n + I 6 (n + 1)
theorem es_heap38 {fu : Nat} {a1 a2 : Int} {K : Int → IMem → Res} {I : IMem} (hh : ∀ k, 1 ≤ k → k ≤ 8 → 0 ≤ I 6 k ∧ I 6 k ≤ 12) (hK : ∀ x r, K x I = some r → ∃ y, K y I = some r ∧ y = x) : ∀ (m : Nat) (x : Int) (k : Nat) (r : Int × IMem), 1 ≤ k → k ≤ 9 → -12 + hs6 I (k - 1) ≤ x ∧ x ≤ 9 + hs6 I (k - 1) → (0 ≤ hs6 I (k - 1) ∧ hs6 I (k - 1) ≤ 12 * ((k : Int) - 1)) → f_S_heap_38 fu K 0 a1 a2 m x (k : Int) I = some r → K (x + (hs6 I 8 - hs6 I (k - 1))) I = some r := by
  intro m
  induction m with
  | zero => intro x k r _ _ _ _ hf; cases hf
  | succ m ih =>
    intro x k r h1 h2 hx hb hf
    replace hf : fb_S_heap_38 fu K 0 a1 a2 (f_S_heap_38 fu K 0 a1 a2 m) x (k : Int) I = some r := hf
    unfold fb_S_heap_38 at hf
    rcases of_ite hf with ⟨q, hf_⟩ | ⟨q, hf_⟩ <;> (clear hf; have hf := hf_; clear hf_)
    · obtain ⟨g, hf_⟩ := of_zg hf; clear hf; have hf := hf_; clear hf_
      obtain ⟨x2, e2, hf_⟩ := of_zl hf; clear hf; have hf := hf_; clear hf_
      obtain ⟨x3, e3, hf_⟩ := of_zl hf; clear hf; have hf := hf_; clear hf_
      have e2 : x2 = wr32 (x + I 6 (k : Int).toNat) := e2
      have hk := hh k h1 (by omega)
      rw [show (k : Int).toNat = k by omega, wr32_i2 (by omega) (by omega)] at e2
      rw [wr32_i2 (x := (k : Int) + 1) (by omega) (by omega)] at e3
      have es : hs6 I (k + 1 - 1) = hs6 I (k - 1) + I 6 k := by
        obtain ⟨j, rfl⟩ : ∃ j, k = j + 1 := ⟨k - 1, by omega⟩
        rfl
      rw [e3, show (k : Int) + 1 = ((k + 1 : Nat) : Int) by omega] at hf
      have h := ih x2 (k + 1) r (by omega) (by omega) (by rw [es]; omega) (by rw [es]; omega) hf
      rw [es] at h
      rw [show x + (hs6 I 8 - hs6 I (k - 1)) = x2 + (hs6 I 8 - (hs6 I (k - 1) + I 6 k)) by omega]
      exact h
    · have : k = 9 := by omega
      subst this
      rw [show x + (hs6 I 8 - hs6 I (9 - 1)) = x by show x + (hs6 I 8 - hs6 I 8) = x; omega]
      exact hf
theorem es_heap {fu : Nat} {a1 a2 : Int} {I : IMem} {r : Int × IMem} (hh : ∀ k, 1 ≤ k → k ≤ 8 → 0 ≤ I 6 k ∧ I 6 k ≤ 12) (e : f_S_heap fu 0 a1 a2 I = some r) : AN (CHeap a1 a2 (hs6 I 8) (I 6 a1.toNat)) r.1 ∧ ∀ k : Nat, 1 ≤ k → k ≤ 8 → r.2 6 k = if r.1 = 1 ∧ a1 = k then a2 else I 6 k := by
  have no : ¬ CHeap a1 a2 (hs6 I 8) (I 6 a1.toNat) → r = (0, I) → AN (CHeap a1 a2 (hs6 I 8) (I 6 a1.toNat)) r.1 ∧ ∀ k : Nat, 1 ≤ k → k ≤ 8 → r.2 6 k = if r.1 = 1 ∧ a1 = k then a2 else I 6 k := by
    intro h er
    subst er
    exact ⟨an_0 h, fun k _ _ => by rw [if_neg (fun z => absurd (show (0 : Int) = 1 from z.1) (by decide))]⟩
  unfold f_S_heap at e
  rcases of_ite e with ⟨q, e_⟩ | ⟨q, e_⟩ <;> (clear e; have e := e_; clear e_)
  · cases e; exact no (by unfold CHeap; omega) rfl
  rcases of_ite e with ⟨q2, e_⟩ | ⟨q2, e_⟩ <;> (clear e; have e := e_; clear e_)
  · cases e; exact no (by unfold CHeap; omega) rfl
  rcases of_ite e with ⟨q3, e_⟩ | ⟨q3, e_⟩ <;> (clear e; have e := e_; clear e_)
  · cases e; exact no (by unfold CHeap; omega) rfl
  rcases of_ite e with ⟨q4, e_⟩ | ⟨q4, e_⟩ <;> (clear e; have e := e_; clear e_)
  · cases e; exact no (by unfold CHeap; omega) rfl
  obtain ⟨g, e_⟩ := of_zg e; clear e; have e := e_; clear e_
  obtain ⟨x1, e1, e_⟩ := of_zl e; clear e; have e := e_; clear e_
  have e1 : x1 = wr32 (a2 - I 6 a1.toNat) := e1
  have ha := hh a1.toNat (by omega) (by omega)
  rw [wr32_i2 (by omega) (by omega)] at e1
  have e := es_heap38 hh (fun x r h => ⟨x, h, rfl⟩) fu x1 1 r (by decide) (by decide) (by show -12 + 0 ≤ x1 ∧ x1 ≤ 9 + 0; omega) (by show 0 ≤ (0 : Int) ∧ (0 : Int) ≤ 12 * (((1 : Nat) : Int) - 1); omega) e
  rw [show x1 + (hs6 I 8 - hs6 I (1 - 1)) = x1 + hs6 I 8 by show x1 + (hs6 I 8 - 0) = _; omega] at e
  rcases of_ite e with ⟨q5, e_⟩ | ⟨q5, e_⟩ <;> (clear e; have e := e_; clear e_)
  · cases e; exact no (by unfold CHeap; omega) rfl
  · obtain ⟨g6, e_⟩ := of_zg e; clear e; have e := e_; clear e_
    have e : zr 1 (up I 6 a1.toNat a2) = some r := e
    cases e
    refine ⟨an_1 (by unfold CHeap; omega), fun k k1 k2 => ?_⟩
    by_cases z : a1 = k
    · rw [if_pos ⟨rfl, z⟩]
      exact if_pos ⟨rfl, by omega⟩
    · rw [if_neg (fun w => z w.2)]
      exact if_neg (fun w => by omega)
/-- a hill copied -/
def NAB (a b q : Nat) : Prop := q ≠ a ∧ q ≠ a + 1 ∧ q ≠ a + 4 ∧ q ≠ a + 5 ∧ q ≠ b ∧ q ≠ b + 1 ∧ q ≠ b + 4 ∧ q ≠ b + 5
theorem cf_2 {fu a b : Nat} {Q : Int × IMem → Prop} {I0 : IMem} (hab : (a = 1 ∧ b = 41) ∨ (a = 41 ∧ b = 1)) (K : IMem → Res) (hK : ∀ I r, (∀ q, ¬ NAB a b q → I q = I0 q) → K I = some r → Q r) : ∀ (m : Nat) (w : Int) (I : IMem) (r : Int × IMem), (∀ q, ¬ NAB a b q → I q = I0 q) → f_H_copyFrom_2 fu K a b m w I = some r → Q r := by
  intro m
  induction m with
  | zero => intro w I r _ hf; cases hf
  | succ m ih =>
    intro w I r hI hf
    replace hf : fb_H_copyFrom_2 fu K a b (f_H_copyFrom_2 fu K a b m) w I = some r := hf
    unfold fb_H_copyFrom_2 at hf
    rcases of_ite hf with ⟨q, hf_⟩ | ⟨q, hf_⟩ <;> (clear hf; have hf := hf_; clear hf_)
    · rcases of_ite hf with ⟨q2, hf_⟩ | ⟨q2, hf_⟩ <;> (clear hf; have hf := hf_; clear hf_)
      · obtain ⟨g1, hf_⟩ := of_zg hf; clear hf; have hf := hf_; clear hf_
        obtain ⟨g2, hf_⟩ := of_zg hf; clear hf; have hf := hf_; clear hf_
        obtain ⟨u, I4, c4, hf_⟩ := of_zb hf; clear hf; have hf := hf_; clear hf_
        obtain ⟨x6, -, hf_⟩ := of_zl hf; clear hf; have hf := hf_; clear hf_
        have f4 : ∀ q, ¬ NAB a b q → I4 q = I q := fr_W_copyFrom (NAB a b) fu _ _ I (by unfold NAB; omega) (by unfold NAB; omega) (by unfold NAB; omega) (by unfold NAB; omega) c4
        exact ih _ _ _ (fun q hq => (f4 q hq).trans (hI q hq)) hf
      · exact hK _ _ hI hf
    · exact hK _ _ hI hf
theorem cf {fu a b : Nat} {I : IMem} {r : Int × IMem} (hab : (a = 1 ∧ b = 41) ∨ (a = 41 ∧ b = 1)) (e : f_H_copyFrom fu a b I = some r) : r.2 a 6 = I b 6 ∧ (∀ j, j < 6 → r.2 (a + 1) j = I (b + 1) j) ∧ (∀ j, j < 32 → r.2 (a + 4) j = I (b + 4) j) ∧ (∀ j, j < 9 → r.2 (a + 5) j = I (b + 5) j) := by
  unfold f_H_copyFrom at e
  refine cf_2 (I0 := I) (Q := fun r => r.2 a 6 = I b 6 ∧ (∀ j, j < 6 → r.2 (a + 1) j = I (b + 1) j) ∧ (∀ j, j < 32 → r.2 (a + 4) j = I (b + 4) j) ∧ (∀ j, j < 9 → r.2 (a + 5) j = I (b + 5) j)) hab _ (fun I7 r h7 h => ?_) fu 0 I r (fun _ _ => rfl) e
  obtain ⟨u, I9, c9, h_⟩ := of_zb h; clear h; have h := h_; clear h_
  have f9 : ∀ q, ¬ NAB a b q → I9 q = I7 q := fr_L_copyFrom (NAB a b) fu (a + 6) (b + 6) I7 (by unfold NAB; omega) (by unfold NAB; omega) (by unfold NAB; omega) c9
  have h9 : ∀ q, ¬ NAB a b q → I9 q = I q := fun q hq => (f9 q hq).trans (h7 q hq)
  simp only [zc, zw] at h
  obtain ⟨g1, h_⟩ := of_zg h; clear h; have h := h_; clear h_
  obtain ⟨g2, h_⟩ := of_zg h; clear h; have h := h_; clear h_
  obtain ⟨g3, h_⟩ := of_zg h; clear h; have h := h_; clear h_
  obtain ⟨g4, h_⟩ := of_zg h; clear h; have h := h_; clear h_
  obtain ⟨g5, h_⟩ := of_zg h; clear h; have h := h_; clear h_
  obtain ⟨g6, h_⟩ := of_zg h; clear h; have h := h_; clear h_
  obtain ⟨g7, h_⟩ := of_zg h; clear h; have h := h_; clear h_
  cases h
  have n : ∀ q, (q = b ∨ q = b + 1 ∨ q = b + 4 ∨ q = b + 5) → I9 q = I q := fun q hq => h9 q (by unfold NAB; omega)
  have hne : ∀ x, x < 20 → ∀ y, y < 20 → a + x ≠ b + y := by omega
  refine ⟨?_, fun j hj => ?_, fun j hj => ?_, fun j hj => ?_⟩
  · simp only [up, cpy]
    simp (disch := omega) only [if_neg, if_pos]
    rw [← n b (by omega)]
    exact if_pos ⟨trivial, trivial⟩
  · simp only [up, cpy]
    simp (disch := omega) only [if_neg, if_pos]
    rw [← n (b + 1) (by omega)]
    rw [show Int.toNat 0 + (j - Int.toNat 0) = j by show 0 + (j - 0) = j; omega]
    exact if_pos ⟨trivial, Nat.zero_le _, (show j < 0 + 6 by omega)⟩
  · simp only [up, cpy]
    simp (disch := omega) only [if_neg, if_pos]
    rw [← n (b + 4) (by omega)]
    rw [show Int.toNat 0 + (j - Int.toNat 0) = j by show 0 + (j - 0) = j; omega]
    exact if_pos ⟨trivial, Nat.zero_le _, (show j < 0 + 32 by omega)⟩
  · simp only [up, cpy]
    simp (disch := omega) only [if_neg, if_pos]
    rw [← n (b + 5) (by omega)]
    rw [show Int.toNat 0 + (j - Int.toNat 0) = j by show 0 + (j - 0) = j; omega]
    exact if_pos ⟨trivial, Nat.zero_le _, (show j < 0 + 9 by omega)⟩
def IM2 (o : Nat) (a1 : Int) (I0 I : IMem) : Prop := (a1 = 0 ∧ I0 o 3 = 0 ∧ I = I0) ∨ (a1 = 0 ∧ I0 o 3 ≠ 0 ∧ I o 3 = 1 ∧ I o 35 = 0 ∧ (∀ k, k < 240 → I (o + 13) k = 0) ∧ (∀ j, j < 6190 → I (o + 1) j = I0 (o + 2) j) ∧ (∀ j, j < 6190 → I (o + 2) j = I0 (o + 2) j)) ∨ (a1 ≠ 0 ∧ I o 3 = 1 ∧ (∀ j, j < 6190 → I (o + 2) j = I0 (o + 1) j) ∧ SA o I0 I)
theorem og_X_image (fu : Nat) (o0 : Nat) (a1 : Int) (I0 : IMem) (hfu : 5000000000 < fu) (hRI0 : GX o0 I0) (qa1 : inr a1) : sat (f_X_image fu o0 a1 I0) (fun v I => inr v ∧ GX o0 I ∧ IM2 o0 a1 I0 I) := by
  unfold f_X_image
  refine sat_zj (fun k1 ek1 => ?_)
  have hk1 : (a1 = 0 → I0 o0 3 ≠ 0) → sat (k1 I0) (fun v I => inr v ∧ GX o0 I ∧ IM2 o0 a1 I0 I) := by
    intro h3
    subst ek1
    by_cases ha : a1 = 0
    · refine ok_img15 fu _ o0 a1 I0 1 2 (by decide) (Or.inl ⟨ha, rfl, rfl⟩) ?_ fu 0 I0 (lit_in rfl) hRI0.1 (fun _ _ _ => rfl) (Int.le_refl _) (fun j hj => by omega) (by omega)
      intro I8 hr8 f8 c8
      have hg8 := GX_old hRI0 (hRI0.2.2.1 (h3 ha)) hr8 f8 c8
      refine sat_zj (fun k9 ek9 => ?_)
      rw [if_pos ha]
      refine sat_zb (ok_X_forgets fu o0 I8 hfu hg8.1) (fun u I13 c13 ⟨_, hRI13, pI13⟩ => ?_)
      have f13 : ∀ q j, ¬ (q = o0 + 13 ∨ (q = o0 ∧ j = 35)) → I13 q j = I8 q j := fc_X_forgets (fun q j => q = o0 + 13 ∨ (q = o0 ∧ j = 35)) fu o0 I8 (fun _ => by simp) (by simp) c13
      subst ek9
      refine sat_zw hRI13.1 (lit_in rfl) (fun I11 e11 hr11 => ?_)
      have hw13 : WX I13 (o0 + 2) := WX_eq (fun j _ => f13 _ _ (by omega)) hg8.2
      refine sat_zr ⟨lit_in rfl, GX_set3 hRI13 hw13 hr11 e11, Or.inr (Or.inl ⟨ha, h3 ha, ?_, ?_, fun k hk => ?_, fun j hj => ?_, fun j hj => ?_⟩)⟩
      · rw [e11, if_pos ⟨rfl, rfl⟩]
      · rw [e11, if_neg (by omega)]; exact pI13.1
      · rw [e11, if_neg (by omega)]; exact pI13.2 k hk
      · rw [e11, if_neg (by omega), f13 _ _ (by omega)]; exact c8 j hj
      · rw [e11, if_neg (by omega), f13 _ _ (by omega)]; exact f8 _ _ (by omega)
    · refine ok_img15 fu _ o0 a1 I0 2 1 (by decide) (Or.inr ⟨ha, rfl, rfl⟩) ?_ fu 0 I0 (lit_in rfl) hRI0.1 (fun _ _ _ => rfl) (Int.le_refl _) (fun j hj => by omega) (by omega)
      intro I8 hr8 f8 c8
      have hg8 := GX_img hRI0 hr8 f8 c8
      refine sat_zj (fun k9 ek9 => ?_)
      rw [if_neg ha]
      subst ek9
      refine sat_zw hr8 (lit_in rfl) (fun I11 e11 hr11 => ?_)
      refine sat_zr ⟨lit_in rfl, GX_set3 hg8.1 hg8.2 hr11 e11, Or.inr (Or.inr ⟨ha, ?_, fun j hj => ?_, sa_fr sa_rfl (fun q j h => ?_)⟩)⟩
      · rw [e11, if_pos ⟨rfl, rfl⟩]
      · rw [e11, if_neg (by omega)]; exact c8 j hj
      · rw [e11, if_neg (by omega)]; exact f8 _ _ (by omega)
  clear ek1
  refine sat_ite (fun q1 => ?_) (fun q1 => ?_)
  · refine sat_ite (fun q2 => ?_) (fun q2 => ?_)
    · exact sat_zr ⟨lit_in rfl, hRI0, Or.inl ⟨q1, q2, rfl⟩⟩
    · exact hk1 (fun _ => q2)
  · exact hk1 (fun h => absurd h q1)
theorem jl_state (fu n : Nat) (a1 : Int) {I J : IMem} {r r2 : Int × IMem} (hfu : 5000000000 < fu) (hC : GI I) (hM : XC 0 n J) (hn : n < 512) (qa1 : inr a1) (e1 : f_S_state fu 0 a1 I = some r) (e2 : f_X_state fu 0 a1 J = some r2) (h : RJ I J) : RJ r.2 r2.2 ∧ r.1 = r2.1 := by
  have h1 : ∀ q, ¬ NK1 q → r.2 q = I q := fr_S_state NK1 fu 0 a1 I (by unfold NK1; omega) e1
  have f2 : ∀ q j, ¬ KMx q j → r2.2 q j = J q j := fc_X_state KMx fu 0 a1 J (by unfold KMx; omega) e2
  unfold f_S_state at e1
  unfold f_X_state at e2
  have e1 : zr (I 1 6) (up I 1 6 a1) = some r := e1
  have e2 : zr (J 1 0) (up J 1 0 a1) = some r2 := e2
  cases e1
  cases e2
  refine ⟨rj_s h h1 (s := a1) (show up I 1 6 a1 1 6 = a1 from if_pos ⟨rfl, rfl⟩) (fun j h1 h2 h3 => (show up J 1 0 a1 (0 + 1) j = J (0 + 1) j from if_neg (fun z => by omega))) (show up J 1 0 a1 1 0 = a1 from if_pos ⟨rfl, rfl⟩) (fun j => f2 _ _ (by unfold KMx; omega)) (f2 _ _ (by unfold KMx; omega)), h.1.1⟩
theorem jl_set (fu n : Nat) (a1 a2 : Int) {I J : IMem} {r r2 : Int × IMem} (hfu : 5000000000 < fu) (hC : GI I) (hM : XC 0 n J) (hn : n < 512) (qa1 : inr a1) (qa2 : inr a2) (e1 : f_S_set fu 0 a1 a2 I = some r) (e2 : f_X_set fu 0 a1 a2 J = some r2) (h : RJ I J) : RJ r.2 r2.2 := by
  have f2 : ∀ q j, ¬ KMx q j → r2.2 q j = J q j := fc_X_set KMx fu 0 a1 a2 J (fun _ => by unfold KMx; omega) (fun _ => by unfold KMx; omega) (by unfold KMx; omega) e2
  have h1 : ∀ q, ¬ NK2 q → r.2 q = I q := fr_S_set NK2 fu 0 a1 a2 I (by unfold NK2; omega) (by unfold NK2; omega) (by unfold NK2; omega) e1
  have p := ef_set hfu hM.1 qa1 qa2 e2
  have p2 := es_set hfu hC.1 qa1 qa2 e1
  have ev : r.1 = r2.1 := an_eq (sat_of (ca_S_set fu a1 a2 I hfu hC.1 qa1 qa2) e1) (sat_of (kp_X_set fu 0 a1 a2 J hfu hM.1 qa1 qa2) e2).2.2.2.2
  obtain ⟨⟨a, b, c, d⟩, hi⟩ := h
  refine ⟨⟨by rw [h1 1 (by unfold NK2; omega), p.1 0 (by unfold TRK; omega) (by omega)]; exact a, ?_, fun k hk => by rw [h1 (1 + 4) (by unfold NK2; omega), p.1 _ (by unfold TRK; omega) (by omega)]; exact c k hk, fun k k1 k2 => by rw [h1 (1 + 5) (by unfold NK2; omega), p.1 _ (by unfold TRK; omega) (by omega)]; exact d k k1 k2⟩, rh_im hi (fun q hq => h1 q (by unfold NK2; omega)) (fun j => f2 _ _ (by unfold KMx; omega)) (f2 _ _ (by unfold KMx; omega))⟩
  have b : I 2 3 = J 1 4 := b
  show r.2 2 3 = r2.2 1 4
  rw [p2, p.2.2, ev, b]
theorem jl_seen (fu n : Nat) (a1 a2 : Int) {I J : IMem} {r r2 : Int × IMem} (hfu : 5000000000 < fu) (hC : GI I) (hM : XC 0 n J) (hn : n < 512) (qa1 : inr a1) (qa2 : inr a2) (e1 : f_S_seen fu 0 a1 a2 I = some r) (e2 : f_X_seen fu 0 a1 a2 J = some r2) (h : RJ I J) : RJ r.2 r2.2 := by
  have f2 : ∀ q j, ¬ KMx q j → r2.2 q j = J q j := fc_X_seen KMx fu 0 a1 a2 J (fun _ => by unfold KMx; omega) e2
  exact rj_k h (fr_S_seen NK fu 0 a1 a2 I (by unfold NK; omega) e1) (ef_seen hfu hM.1 qa1 qa2 e2) (fun j => f2 _ _ (by unfold KMx; omega)) (f2 _ _ (by unfold KMx; omega))
theorem jl_parts (fu n : Nat) (a1 a2 : Int) {I J : IMem} {r r2 : Int × IMem} (hfu : 5000000000 < fu) (hC : GI I) (hM : XC 0 n J) (hn : n < 512) (qa1 : inr a1) (qa2 : inr a2) (e1 : f_S_parts fu 0 a1 a2 I = some r) (e2 : f_X_parts fu 0 a1 a2 J = some r2) (h : RJ I J) : RJ r.2 r2.2 := by
  have f2 : ∀ q j, ¬ KMx q j → r2.2 q j = J q j := fc_X_parts KMx fu 0 a1 a2 J (fun _ => by unfold KMx; omega) e2
  exact rj_k h (fr_S_parts NK fu 0 a1 a2 I (by unfold NK; omega) e1) (ef_parts hfu hM.1 qa1 qa2 e2) (fun j => f2 _ _ (by unfold KMx; omega)) (f2 _ _ (by unfold KMx; omega))
theorem jl_comer (fu n : Nat) (a1 a2 a3 a4 a5 : Int) {I J : IMem} {r r2 : Int × IMem} (hfu : 5000000000 < fu) (hC : GI I) (hM : XC 0 n J) (hn : n < 512) (qa1 : inr a1) (qa2 : inr a2) (qa3 : inr a3) (qa4 : inr a4) (qa5 : inr a5) (e1 : f_S_comer fu 0 a1 a2 a3 a4 a5 I = some r) (e2 : f_X_comer fu 0 a1 a2 a3 a4 a5 J = some r2) (h : RJ I J) : RJ r.2 r2.2 := by
  have f2 : ∀ q j, ¬ KMx q j → r2.2 q j = J q j := fc_X_comer KMx fu 0 a1 a2 a3 a4 a5 J (fun _ => by unfold KMx; omega) e2
  have h1 : ∀ q, ¬ NK5 q → r.2 q = I q := fr_S_comer NK5 fu 0 a1 a2 a3 a4 a5 I (by unfold NK5; omega) e1
  have p := ef_comer hfu hM.1 qa1 qa2 qa3 qa4 qa5 e2
  have p2 := es_comer hfu hC.1 qa2 qa3 qa4 e1
  have ev : r.1 = r2.1 := an_eq (sat_of (ca_S_comer fu a1 a2 a3 a4 a5 I hfu hC.1 qa1 qa2 qa3 qa4 qa5) e1) (sat_of (kp_X_comer fu 0 a1 a2 a3 a4 a5 J hfu hM.1 qa1 qa2 qa3 qa4 qa5) e2).2.2.2
  obtain ⟨⟨a, b, c, d⟩, hi⟩ := h
  refine ⟨⟨by rw [h1 1 (by unfold NK5; omega), p.1 0 (by unfold TRK; omega) (by omega)]; exact a, by rw [h1 (1 + 1) (by unfold NK5; omega), p.1 4 (by unfold TRK; omega) (by omega)]; exact b, fun k hk => ?_, fun k k1 k2 => by rw [h1 (1 + 5) (by unfold NK5; omega), p.1 _ (by unfold TRK; omega) (by omega)]; exact d k k1 k2⟩, rh_im hi (fun q hq => h1 q (by unfold NK5; omega)) (fun j => f2 _ _ (by unfold KMx; omega)) (f2 _ _ (by unfold KMx; omega))⟩
  have c : I 5 (4 * k + 3) = J 1 (29 + 4 * k) := c k hk
  show r.2 5 (4 * k + 3) = r2.2 1 (29 + 4 * k)
  rw [p2 k hk, p.2.2 k hk, ev, c]
theorem jl_feed (fu n : Nat) (a1 a2 a3 a4 a5 : Int) {I J : IMem} {r r2 : Int × IMem} (hfu : 5000000000 < fu) (hC : GI I) (hM : XC 0 n J) (hn : n < 512) (qa1 : inr a1) (qa2 : inr a2) (qa3 : inr a3) (qa4 : inr a4) (qa5 : inr a5) (e1 : f_S_feed fu 0 a1 a2 a3 a4 a5 I = some r) (e2 : f_X_feed fu 0 a1 a2 a3 a4 a5 J = some r2) (h : RJ I J) : RJ r.2 r2.2 := by
  have f2 : ∀ q j, ¬ KMy q j → r2.2 q j = J q j := fc_X_feed KMy fu 0 a1 a2 a3 a4 a5 J (fun _ => by unfold KMy; omega) (by unfold KMy; omega) e2
  exact rj_k h (fr_S_feed NK fu 0 a1 a2 a3 a4 a5 I (by unfold NK; omega) (by unfold NK; omega) e1) (fun j hj => f2 _ _ (fun z => z (Or.inr (Or.inr ⟨rfl, hj⟩)))) (fun j => f2 _ _ (fun z => z (Or.inl rfl))) (f2 _ _ (fun z => z (Or.inr (Or.inl ⟨rfl, rfl⟩))))
theorem jl_end (fu n : Nat) (a1 : Int) {I J : IMem} {r r2 : Int × IMem} (hfu : 5000000000 < fu) (hC : GI I) (hM : XC 0 n J) (hn : n < 512) (qa1 : inr a1) (e1 : f_S_end fu 0 a1 I = some r) (e2 : f_X_end fu 0 a1 J = some r2) (h : RJ I J) : RJ r.2 r2.2 := by
  have f2 : ∀ q j, ¬ KMy q j → r2.2 q j = J q j := fc_X_end KMy fu 0 a1 J (by unfold KMy; omega) e2
  exact rj_k h (fr_S_end NK fu 0 a1 I (by unfold NK; omega) e1) (fun j hj => f2 _ _ (fun z => z (Or.inr (Or.inr ⟨rfl, hj⟩)))) (fun j => f2 _ _ (fun z => z (Or.inl rfl))) (f2 _ _ (fun z => z (Or.inr (Or.inl ⟨rfl, rfl⟩))))
theorem jl_text (fu n : Nat) (a1 : Int) {I J : IMem} {r r2 : Int × IMem} (hfu : 5000000000 < fu) (hC : GI I) (hM : XC 0 n J) (hn : n < 512) (qa1 : inr a1) (e1 : f_S_text fu 0 a1 I = some r) (e2 : f_X_text fu 0 a1 J = some r2) (h : RJ I J) : RJ r.2 r2.2 := by
  have f2 : ∀ q j, ¬ KMx q j → r2.2 q j = J q j := fc_X_text KMx fu 0 a1 J (fun _ => by unfold KMx; omega) (fun _ => by unfold KMx; omega) (fun _ => by unfold KMx; omega) (by unfold KMx; omega) (by unfold KMx; omega) (by unfold KMx; omega) (by unfold KMx; omega) (by unfold KMx; omega) (by unfold KMx; omega) (by unfold KMx; omega) (by unfold KMx; omega) (by unfold KMx; omega) (by unfold KMx; omega) (by unfold KMx; omega) (by unfold KMx; omega) (by unfold KMx; omega) e2
  have hs := (sat_of (ok_X_text fu 0 a1 J hfu hM.1 qa1) e2).2.2
  exact rj_k h (fr_S_text NK fu 0 a1 I (fun q _ _ => by unfold NK; omega) (by unfold NK; omega) (by unfold NK; omega) (by unfold NK; omega) (by unfold NK; omega) (by unfold NK; omega) (by unfold NK; omega) (by unfold NK; omega) (by unfold NK; omega) e1) (fun j hj => hs j (by unfold TRK at hj; omega)) (fun j => f2 _ _ (by unfold KMx; omega)) (f2 _ _ (by unfold KMx; omega))
theorem jl_fault (fu n : Nat) (a1 : Int) {I J : IMem} {r r2 : Int × IMem} (hfu : 5000000000 < fu) (hC : GI I) (hM : XC 0 n J) (hn : n < 512) (qa1 : inr a1) (e1 : f_S_fault fu 0 a1 I = some r) (e2 : f_X_fault fu 0 a1 J = some r2) (h : RJ I J) : RJ r.2 r2.2 := by
  have ej : r2.2 = J := (sat_of (ok_X_fault fu 0 a1 J hfu hM.1 qa1) e2).2.2.1
  exact rj_k h (fr_S_fault NK fu 0 a1 I  e1) (fun j _ => by rw [ej]) (fun j => by rw [ej]) (by rw [ej])
theorem jl_come (fu n : Nat) (a1 a2 a3 : Int) {I J : IMem} {r r2 : Int × IMem} (hfu : 5000000000 < fu) (hC : GI I) (hM : XC 0 n J) (hn : n < 512) (qa1 : inr a1) (qa2 : inr a2) (qa3 : inr a3) (e1 : f_S_come fu 0 a1 a2 a3 I = some r) (e2 : f_X_come fu 0 a1 a2 a3 J = some r2) (h : RJ I J) : RJ r.2 r2.2 := by
  have f2 : ∀ q j, ¬ KMx q j → r2.2 q j = J q j := fc_X_come KMx fu 0 a1 a2 a3 J (fun _ => by unfold KMx; omega) (fun _ => by unfold KMx; omega) (by unfold KMx; omega) (by unfold KMx; omega) (by unfold KMx; omega) (by unfold KMx; omega) (by unfold KMx; omega) e2
  have h1 : ∀ q, ¬ NK1 q → r.2 q = I q := fr_S_come NK1 fu 0 a1 a2 a3 I (by unfold NK1; omega) (by unfold NK1; omega) (by unfold NK1; omega) (by unfold NK1; omega) (by unfold NK1; omega) (by unfold NK1; omega) (by unfold NK1; omega) e1
  have p := (sat_of (ok_X_come fu 0 a1 a2 a3 J hfu hM.1 qa1 qa2 qa3) e2).2.2
  have t : J 1 0 = J 1 0 := rfl
  have p1 : ∀ j : Nat, j < 76 → j ≠ 7 → r2.2 1 j = J 1 j := p.1
  exact rj_s h h1 (s := J 1 0) ((cs_S_come e1).1.trans h.1.1) (fun j h1 h2 h3 => p1 j (by omega) h3) (p1 0 (by decide) (by decide)) (fun j => f2 _ _ (by unfold KMx; omega)) (f2 _ _ (by unfold KMx; omega))
theorem jl_group (fu n : Nat) (a1 a2 a3 : Int) {I J : IMem} {r r2 : Int × IMem} (hfu : 5000000000 < fu) (hC : GI I) (hM : XC 0 n J) (hn : n < 512) (qa1 : inr a1) (qa2 : inr a2) (qa3 : inr a3) (e1 : f_S_group fu 0 a1 a2 a3 I = some r) (e2 : f_X_group fu 0 a1 a2 a3 J = some r2) (h : RJ I J) : RJ r.2 r2.2 := by
  have f2 : ∀ q j, ¬ KMy q j → r2.2 q j = J q j := fc_X_group KMy fu 0 a1 a2 a3 J (fun _ => by unfold KMy; omega) (by unfold KMy; omega) (by unfold KMy; omega) (by unfold KMy; omega) (by unfold KMy; omega) (by unfold KMy; omega) (by unfold KMy; omega) (by unfold KMy; omega) (by unfold KMy; omega) (by unfold KMy; omega) e2
  exact rj_k h (fr_S_group NK fu 0 a1 a2 a3 I (fun q _ _ => by unfold NK; omega) (by unfold NK; omega) e1) (fun j hj => f2 _ _ (fun z => z (Or.inr (Or.inr ⟨rfl, hj⟩)))) (fun j => f2 _ _ (fun z => z (Or.inl rfl))) (f2 _ _ (fun z => z (Or.inr (Or.inl ⟨rfl, rfl⟩))))
theorem jl_line (fu n : Nat) (a1 a2 : Int) {I J : IMem} {r r2 : Int × IMem} (hfu : 5000000000 < fu) (hC : GI I) (hM : XC 0 n J) (hn : n < 512) (qa1 : inr a1) (qa2 : inr a2) (e1 : f_S_line fu 0 a1 a2 I = some r) (e2 : f_X_line fu 0 a1 a2 J = some r2) (h : RJ I J) : RJ r.2 r2.2 := by
  have ej : r2.2 = J := (sat_of (ok_X_line fu 0 a1 a2 J hfu hM.1 qa1 qa2) e2).2.2.1
  exact rj_k h (fr_S_line NK fu 0 a1 a2 I  e1) (fun j _ => by rw [ej]) (fun j => by rw [ej]) (by rw [ej])
theorem jl_pick (fu n : Nat) (a1 a2 : Int) {I J : IMem} {r r2 : Int × IMem} (hfu : 5000000000 < fu) (hC : GI I) (hM : XC 0 n J) (hn : n < 512) (qa1 : inr a1) (qa2 : inr a2) (e1 : f_S_pick fu 0 a1 a2 I = some r) (e2 : f_X_pick fu 0 a1 a2 J = some r2) (h : RJ I J) : RJ r.2 r2.2 := by
  have f2 : ∀ q j, ¬ KMy q j → r2.2 q j = J q j := fc_X_pick KMy fu 0 a1 a2 J (fun _ => by unfold KMy; omega) (fun _ => by unfold KMy; omega) (by unfold KMy; omega) e2
  exact rj_k h (fr_S_pick NK fu 0 a1 a2 I (by unfold NK; omega) (by unfold NK; omega) (by unfold NK; omega) (by unfold NK; omega) e1) (fun j hj => f2 _ _ (fun z => z (Or.inr (Or.inr ⟨rfl, hj⟩)))) (fun j => f2 _ _ (fun z => z (Or.inl rfl))) (f2 _ _ (fun z => z (Or.inr (Or.inl ⟨rfl, rfl⟩))))
theorem jl_send (fu n : Nat) {I J : IMem} {r r2 : Int × IMem} (hfu : 5000000000 < fu) (hC : GI I) (hM : XC 0 n J) (hn : n < 512)  (e1 : f_S_send fu 0 I = some r) (e2 : f_X_send fu 0 J = some r2) (h : RJ I J) : RJ r.2 r2.2 := by
  have f2 : ∀ q j, ¬ KMx q j → r2.2 q j = J q j := fc_X_send KMx fu 0 J (fun _ => by unfold KMx; omega) (fun _ => by unfold KMx; omega) (fun _ => by unfold KMx; omega) (fun _ => by unfold KMx; omega) (fun _ => by unfold KMx; omega) (fun _ => by unfold KMx; omega) (by unfold KMx; omega) (by unfold KMx; omega) (by unfold KMx; omega) (by unfold KMx; omega) (by unfold KMx; omega) (by unfold KMx; omega) (by unfold KMx; omega) e2
  have h1 : ∀ q, ¬ NK1 q → r.2 q = I q := fr_S_send NK1 fu 0 I (by unfold NK1; omega) (by unfold NK1; omega) (by unfold NK1; omega) (by unfold NK1; omega) (by unfold NK1; omega) (by unfold NK1; omega) (by unfold NK1; omega) (by unfold NK1; omega) e1
  have h70 := hM.2.2.1
  have p := (sat_of (og_X_send fu 0  J hfu hM.1  (by omega)) e2).2.2
  have c := (cs_S_send e1).1
  have b : I 2 3 = J 1 4 := h.1.2.1
  rw [b, h.1.1] at c
  exact rj_s h h1 c p.2.2.2.1 p.2.2.2.2 (fun j => f2 _ _ (by unfold KMx; omega)) (f2 _ _ (by unfold KMx; omega))
theorem jl_chair (fu n : Nat) {I J : IMem} {r r2 : Int × IMem} (hfu : 5000000000 < fu) (hC : GI I) (hM : XC 0 n J) (hn : n < 512)  (e1 : f_S_chair fu 0 I = some r) (e2 : f_X_chair fu 0 J = some r2) (h : RJ I J) : RJ r.2 r2.2 := by
  have f2 : ∀ q j, ¬ KMx q j → r2.2 q j = J q j := fc_X_chair KMx fu 0 J (fun _ => by unfold KMx; omega) (fun _ => by unfold KMx; omega) (fun _ => by unfold KMx; omega) (fun _ => by unfold KMx; omega) (fun _ => by unfold KMx; omega) (fun _ => by unfold KMx; omega) (fun _ => by unfold KMx; omega) (fun _ => by unfold KMx; omega) (by unfold KMx; omega) (by unfold KMx; omega) (by unfold KMx; omega) (by unfold KMx; omega) (by unfold KMx; omega) (by unfold KMx; omega) (by unfold KMx; omega) (by unfold KMx; omega) (by unfold KMx; omega) (by unfold KMx; omega) (by unfold KMx; omega) (by unfold KMx; omega) (by unfold KMx; omega) (by unfold KMx; omega) (by unfold KMx; omega) (by unfold KMx; omega) e2
  have h1 : ∀ q, ¬ NK1 q → r.2 q = I q := fr_S_chair NK1 fu 0 I (fun q _ _ => by unfold NK1; omega) (by unfold NK1; omega) (by unfold NK1; omega) (by unfold NK1; omega) (by unfold NK1; omega) (by unfold NK1; omega) (by unfold NK1; omega) (by unfold NK1; omega) (by unfold NK1; omega) (by unfold NK1; omega) (by unfold NK1; omega) (by unfold NK1; omega) (by unfold NK1; omega) (by unfold NK1; omega) (by unfold NK1; omega) (by unfold NK1; omega) (by unfold NK1; omega) e1
  have h70 := hM.2.2.1
  have p := (sat_of (og_X_chair fu 0  J hfu hM.1  (by omega)) e2).2.2
  have c := (cs_S_chair e1).1
  have b : I 2 3 = J 1 4 := h.1.2.1
  rw [b, h.1.1] at c
  exact rj_s h h1 c p.2.2.2.1 p.2.2.2.2 (fun j => f2 _ _ (by unfold KMx; omega)) (f2 _ _ (by unfold KMx; omega))
theorem jl_run (fu n : Nat) (a1 : Int) {I J : IMem} {r r2 : Int × IMem} (hfu : 5000000000 < fu) (hC : GI I) (hM : XC 0 n J) (hn : n < 512) (qa1 : inr a1) (e1 : f_S_run fu 0 a1 I = some r) (e2 : f_X_run fu 0 a1 J = some r2) (h : RJ I J) : RJ r.2 r2.2 := by
  have f2 : ∀ q j, ¬ KMx q j → r2.2 q j = J q j := fc_X_run KMx fu 0 a1 J (fun _ => by unfold KMx; omega) (fun _ => by unfold KMx; omega) (fun _ => by unfold KMx; omega) (fun _ => by unfold KMx; omega) (fun _ => by unfold KMx; omega) (fun _ => by unfold KMx; omega) (fun _ => by unfold KMx; omega) (fun _ => by unfold KMx; omega) (by unfold KMx; omega) (by unfold KMx; omega) (by unfold KMx; omega) (by unfold KMx; omega) (by unfold KMx; omega) (by unfold KMx; omega) (by unfold KMx; omega) (by unfold KMx; omega) (by unfold KMx; omega) (by unfold KMx; omega) (by unfold KMx; omega) (by unfold KMx; omega) (by unfold KMx; omega) (by unfold KMx; omega) (by unfold KMx; omega) (by unfold KMx; omega) (by unfold KMx; omega) (by unfold KMx; omega) e2
  have h1 : ∀ q, ¬ NK1 q → r.2 q = I q := fr_S_run NK1 fu 0 a1 I (fun q _ _ => by unfold NK1; omega) (by unfold NK1; omega) (by unfold NK1; omega) (by unfold NK1; omega) (by unfold NK1; omega) (by unfold NK1; omega) (by unfold NK1; omega) (by unfold NK1; omega) (by unfold NK1; omega) (by unfold NK1; omega) (by unfold NK1; omega) (by unfold NK1; omega) (by unfold NK1; omega) (by unfold NK1; omega) (by unfold NK1; omega) (by unfold NK1; omega) (by unfold NK1; omega) (by unfold NK1; omega) e1
  have h70 := hM.2.2.1
  have p := (sat_of (og_X_run fu 0 a1 J hfu hM.1 qa1 (by omega)) e2).2.2
  have c := (cs_S_run e1).1
  have b : I 2 3 = J 1 4 := h.1.2.1
  have hc : ∀ j, j < 8 → (fun k => I 5 (4 * k + 3)) j = chX 0 J j := fun j hj => h.1.2.2.1 j hj
  rw [b, h.1.1, sdR_eq hc] at c
  exact rj_s h h1 c p.2.2.1 p.2.2.2 (fun j => f2 _ _ (by unfold KMx; omega)) (f2 _ _ (by unfold KMx; omega))
theorem jl_last (fu n : Nat) (a1 : Int) {I J : IMem} {r r2 : Int × IMem} (hfu : 5000000000 < fu) (hC : GI I) (hM : XC 0 n J) (hn : n < 512) (qa1 : inr a1) (e1 : f_S_last fu 0 a1 I = some r) (e2 : f_X_last fu 0 a1 J = some r2) (h : RJ I J) : RJ r.2 r2.2 := by
  have ej : r2.2 = J := (sat_of (ok_X_last fu 0 a1 J hfu hM.1 qa1) e2).2.2.1
  exact rj_k h (fr_S_last NK fu 0 a1 I  e1) (fun j _ => by rw [ej]) (fun j => by rw [ej]) (by rw [ej])
theorem jl_count (fu n : Nat) (a1 : Int) {I J : IMem} {r r2 : Int × IMem} (hfu : 5000000000 < fu) (hC : GI I) (hM : XC 0 n J) (hn : n < 512) (qa1 : inr a1) (e1 : f_S_count fu 0 a1 I = some r) (e2 : f_X_count fu 0 a1 J = some r2) (h : RJ I J) : RJ r.2 r2.2 := by
  have ej : r2.2 = J := (sat_of (ok_X_count fu 0 a1 J hfu hM.1 qa1) e2).2.2.1
  exact rj_k h (fr_S_count NK fu 0 a1 I  e1) (fun j _ => by rw [ej]) (fun j => by rw [ej]) (by rw [ej])
theorem jl_best (fu n : Nat) (a1 : Int) {I J : IMem} {r r2 : Int × IMem} (hfu : 5000000000 < fu) (hC : GI I) (hM : XC 0 n J) (hn : n < 512) (qa1 : inr a1) (e1 : f_S_best fu 0 a1 I = some r) (e2 : f_X_best fu 0 a1 J = some r2) (h : RJ I J) : RJ r.2 r2.2 := by
  have f2 : ∀ q j, ¬ KMy q j → r2.2 q j = J q j := fc_X_best KMy fu 0 a1 J (fun _ => by unfold KMy; omega) (fun _ => by unfold KMy; omega) (by unfold KMy; omega) e2
  exact rj_k h (fr_S_best NK fu 0 a1 I (by unfold NK; omega) (by unfold NK; omega) (by unfold NK; omega) (by unfold NK; omega) (by unfold NK; omega) (by unfold NK; omega) e1) (fun j hj => f2 _ _ (fun z => z (Or.inr (Or.inr ⟨rfl, hj⟩)))) (fun j => f2 _ _ (fun z => z (Or.inl rfl))) (f2 _ _ (fun z => z (Or.inr (Or.inl ⟨rfl, rfl⟩))))
theorem jl_look (fu n : Nat) (a1 : Int) {I J : IMem} {r r2 : Int × IMem} (hfu : 5000000000 < fu) (hC : GI I) (hM : XC 0 n J) (hn : n < 512) (qa1 : inr a1) (e1 : f_S_look fu 0 a1 I = some r) (e2 : f_X_look fu 0 a1 J = some r2) (h : RJ I J) : RJ r.2 r2.2 := by
  have f2 : ∀ q j, ¬ KMx q j → r2.2 q j = J q j := fc_X_look KMx fu 0 a1 J (fun _ => by unfold KMx; omega) (fun _ => by unfold KMx; omega) (fun _ => by unfold KMx; omega) (by unfold KMx; omega) e2
  exact rj_k h (fr_S_look NK fu 0 a1 I (by unfold NK; omega) (by unfold NK; omega) (by unfold NK; omega) (by unfold NK; omega) (by unfold NK; omega) (by unfold NK; omega) e1) (ef_look hfu hM.1 qa1 e2) (fun j => f2 _ _ (by unfold KMx; omega)) (f2 _ _ (by unfold KMx; omega))
theorem jl_heap (fu n : Nat) (a1 a2 : Int) {I J : IMem} {r r2 : Int × IMem} (hfu : 5000000000 < fu) (hC : GI I) (hM : XC 0 n J) (hn : n < 512) (qa1 : inr a1) (qa2 : inr a2) (e1 : f_S_heap fu 0 a1 a2 I = some r) (e2 : f_X_heap fu 0 a1 a2 J = some r2) (h : RJ I J) : RJ r.2 r2.2 ∧ r.1 = r2.1 := by
  have f2 : ∀ q j, ¬ KMx q j → r2.2 q j = J q j := fc_X_heap KMx fu 0 a1 a2 J (fun _ => by unfold KMx; omega) e2
  have h1 : ∀ q, ¬ NK6 q → r.2 q = I q := fr_S_heap NK6 fu 0 a1 a2 I (by unfold NK6; omega) e1
  obtain ⟨⟨a, b, c, d⟩, hi⟩ := h
  have d : ∀ k, 1 ≤ k → k ≤ 8 → I 6 k = J 1 (60 + k) := d
  have hp : ∀ k, 1 ≤ k → k ≤ 8 → 0 ≤ J 1 (60 + k) := hM.1.2.1.2.2.2.2.1.1
  have hs : hsum J 1 ≤ 12 := hM.1.2.1.2.2.2.2.1.2
  have g1 : 0 ≤ J 1 61 := hp 1 (by omega) (by omega)
  have d1 : I 6 1 = J 1 61 := d 1 (by omega) (by omega)
  have g2 : 0 ≤ J 1 62 := hp 2 (by omega) (by omega)
  have d2 : I 6 2 = J 1 62 := d 2 (by omega) (by omega)
  have g3 : 0 ≤ J 1 63 := hp 3 (by omega) (by omega)
  have d3 : I 6 3 = J 1 63 := d 3 (by omega) (by omega)
  have g4 : 0 ≤ J 1 64 := hp 4 (by omega) (by omega)
  have d4 : I 6 4 = J 1 64 := d 4 (by omega) (by omega)
  have g5 : 0 ≤ J 1 65 := hp 5 (by omega) (by omega)
  have d5 : I 6 5 = J 1 65 := d 5 (by omega) (by omega)
  have g6 : 0 ≤ J 1 66 := hp 6 (by omega) (by omega)
  have d6 : I 6 6 = J 1 66 := d 6 (by omega) (by omega)
  have g7 : 0 ≤ J 1 67 := hp 7 (by omega) (by omega)
  have d7 : I 6 7 = J 1 67 := d 7 (by omega) (by omega)
  have g8 : 0 ≤ J 1 68 := hp 8 (by omega) (by omega)
  have d8 : I 6 8 = J 1 68 := d 8 (by omega) (by omega)
  have es : hs6 I 8 = hsum J 1 := by
    show 0 + I 6 1 + I 6 2 + I 6 3 + I 6 4 + I 6 5 + I 6 6 + I 6 7 + I 6 8 = _
    rw [d1, d2, d3, d4, d5, d6, d7, d8]
    unfold hsum
    omega
  have hh : ∀ k, 1 ≤ k → k ≤ 8 → 0 ≤ I 6 k ∧ I 6 k ≤ 12 := by
    intro k k1 k2
    rw [d k k1 k2]
    unfold hsum at hs
    rcases (show k = 1 ∨ k = 2 ∨ k = 3 ∨ k = 4 ∨ k = 5 ∨ k = 6 ∨ k = 7 ∨ k = 8 by omega) with rfl | rfl | rfl | rfl | rfl | rfl | rfl | rfl <;> simp only [Nat.reduceAdd] <;> omega
  have p := ef_heap hfu hM.1 qa1 qa2 e2
  have p2 := es_heap hh e1
  have ev : r.1 = r2.1 := by
    by_cases z : 1 ≤ a1 ∧ a1 ≤ 8
    · have e6 : I 6 a1.toNat = J 1 (60 + a1).toNat := by rw [d a1.toNat (by omega) (by omega), show 60 + a1.toNat = (60 + a1).toNat by omega]
      have h2 := p2.1
      rw [es, e6] at h2
      exact an_eq h2 p.1
    · have n1 : ¬ r.1 = 1 := fun q => z (by have := p2.1.2.1 q; unfold CHeap at this; omega)
      have n2 : ¬ r2.1 = 1 := fun q => z (by have := p.1.2.1 q; unfold CHeap at this; omega)
      have m1 := p2.1.1
      have m2 := p.1.1
      omega
  refine ⟨⟨⟨by rw [h1 1 (by unfold NK6; omega), p.2.1 0 (by unfold TRK; omega) (by omega)]; exact a, by rw [h1 (1 + 1) (by unfold NK6; omega), p.2.1 4 (by unfold TRK; omega) (by omega)]; exact b, fun k hk => by rw [h1 (1 + 4) (by unfold NK6; omega), p.2.1 _ (by unfold TRK; omega) (by omega)]; exact c k hk, fun k k1 k2 => ?_⟩, rh_im hi (fun q hq => h1 q (by unfold NK6; omega)) (fun j => f2 _ _ (by unfold KMx; omega)) (f2 _ _ (by unfold KMx; omega))⟩, ev⟩
  show r.2 6 k = r2.2 1 (60 + k)
  rw [p2.2 k k1 k2, p.2.2 k k1 k2, ev, d k k1 k2]
theorem jl_fewest (fu n : Nat) (a1 : Int) {I J : IMem} {r r2 : Int × IMem} (hfu : 5000000000 < fu) (hC : GI I) (hM : XC 0 n J) (hn : n < 512) (qa1 : inr a1) (e1 : f_S_fewest fu 0 a1 I = some r) (e2 : f_X_fewest fu 0 a1 J = some r2) (h : RJ I J) : RJ r.2 r2.2 := by
  have f2 : ∀ q j, ¬ KMy q j → r2.2 q j = J q j := fc_X_fewest KMy fu 0 a1 J (fun _ => by unfold KMy; omega) (fun _ => by unfold KMy; omega) (fun _ => by unfold KMy; omega) (fun _ => by unfold KMy; omega) e2
  exact rj_k h (fr_S_fewest NK fu 0 a1 I (by unfold NK; omega) (by unfold NK; omega) (by unfold NK; omega) (by unfold NK; omega) e1) (fun j hj => f2 _ _ (fun z => z (Or.inr (Or.inr ⟨rfl, hj⟩)))) (fun j => f2 _ _ (fun z => z (Or.inl rfl))) (f2 _ _ (fun z => z (Or.inr (Or.inl ⟨rfl, rfl⟩))))
theorem jl_thought (fu n : Nat) (a1 a2 a3 a4 a5 : Int) {I J : IMem} {r r2 : Int × IMem} (hfu : 5000000000 < fu) (hC : GI I) (hM : XC 0 n J) (hn : n < 512) (qa1 : inr a1) (qa2 : inr a2) (qa3 : inr a3) (qa4 : inr a4) (qa5 : inr a5) (e1 : f_S_thought fu 0 a1 a2 a3 a4 a5 I = some r) (e2 : f_X_thought fu 0 a1 a2 a3 a4 a5 J = some r2) (h : RJ I J) : RJ r.2 r2.2 := by
  have f2 : ∀ q j, ¬ KMx q j → r2.2 q j = J q j := fc_X_thought KMx fu 0 a1 a2 a3 a4 a5 J (fun _ => by unfold KMx; omega) (fun _ => by unfold KMx; omega) (fun _ => by unfold KMx; omega) (fun _ => by unfold KMx; omega) (fun _ => by unfold KMx; omega) (fun _ => by unfold KMx; omega) (fun _ => by unfold KMx; omega) (fun _ => by unfold KMx; omega) (fun _ => by unfold KMx; omega) (fun _ => by unfold KMx; omega) (fun _ => by unfold KMx; omega) (fun _ => by unfold KMx; omega) (by unfold KMx; omega) (by unfold KMx; omega) (by unfold KMx; omega) (by unfold KMx; omega) (by unfold KMx; omega) (by unfold KMx; omega) (by unfold KMx; omega) (by unfold KMx; omega) (by unfold KMx; omega) (by unfold KMx; omega) (by unfold KMx; omega) (by unfold KMx; omega) (by unfold KMx; omega) (by unfold KMx; omega) (by unfold KMx; omega) (by unfold KMx; omega) (by unfold KMx; omega) (by unfold KMx; omega) (by unfold KMx; omega) (by unfold KMx; omega) (by unfold KMx; omega) (by unfold KMx; omega) (by unfold KMx; omega) (by unfold KMx; omega) (by unfold KMx; omega) e2
  have hs := (sat_of (ok_X_thought fu 0 a1 a2 a3 a4 a5 J hfu hM.1 qa1 qa2 qa3 qa4 qa5 (by have := hM.2.2.1; omega)) e2).2.2
  exact rj_k h (fr_S_thought NK fu 0 a1 a2 a3 a4 a5 I (fun q _ _ => by unfold NK; omega) (by unfold NK; omega) (by unfold NK; omega) (by unfold NK; omega) (by unfold NK; omega) (by unfold NK; omega) (by unfold NK; omega) (by unfold NK; omega) (by unfold NK; omega) (by unfold NK; omega) (by unfold NK; omega) (by unfold NK; omega) (by unfold NK; omega) (by unfold NK; omega) (by unfold NK; omega) (by unfold NK; omega) (by unfold NK; omega) (by unfold NK; omega) (by unfold NK; omega) (by unfold NK; omega) (by unfold NK; omega) e1) (fun j hj => hs.1 j (by unfold TRK at hj; omega)) (fun j => f2 _ _ (by unfold KMx; omega)) (f2 _ _ (by unfold KMx; omega))
theorem jl_price (fu n : Nat) (a1 a2 : Int) {I J : IMem} {r r2 : Int × IMem} (hfu : 5000000000 < fu) (hC : GI I) (hM : XC 0 n J) (hn : n < 512) (qa1 : inr a1) (qa2 : inr a2) (e1 : f_S_price fu 0 a1 a2 I = some r) (e2 : f_X_price fu 0 a1 a2 J = some r2) (h : RJ I J) : RJ r.2 r2.2 := by
  have f2 : ∀ q j, ¬ KMx q j → r2.2 q j = J q j := fc_X_price KMx fu 0 a1 a2 J (fun _ => by unfold KMx; omega) (fun _ => by unfold KMx; omega) (fun _ => by unfold KMx; omega) (fun _ => by unfold KMx; omega) (fun _ => by unfold KMx; omega) (fun _ => by unfold KMx; omega) (fun _ => by unfold KMx; omega) (fun _ => by unfold KMx; omega) (fun _ => by unfold KMx; omega) (fun _ => by unfold KMx; omega) (fun _ => by unfold KMx; omega) (fun _ => by unfold KMx; omega) (by unfold KMx; omega) (by unfold KMx; omega) (by unfold KMx; omega) (by unfold KMx; omega) (by unfold KMx; omega) (by unfold KMx; omega) (by unfold KMx; omega) (by unfold KMx; omega) (by unfold KMx; omega) (by unfold KMx; omega) (by unfold KMx; omega) (by unfold KMx; omega) (by unfold KMx; omega) (by unfold KMx; omega) (by unfold KMx; omega) (by unfold KMx; omega) (by unfold KMx; omega) (by unfold KMx; omega) (by unfold KMx; omega) (by unfold KMx; omega) (by unfold KMx; omega) (by unfold KMx; omega) (by unfold KMx; omega) (by unfold KMx; omega) (by unfold KMx; omega) e2
  have hs := (sat_of (ok_X_price fu 0 a1 a2 J hfu hM.1 qa1 qa2 (by have := hM.2.2.1; omega)) e2).2.2
  exact rj_k h (fr_S_price NK fu 0 a1 a2 I (fun q _ _ => by unfold NK; omega) (by unfold NK; omega) (by unfold NK; omega) (by unfold NK; omega) (by unfold NK; omega) (by unfold NK; omega) (by unfold NK; omega) (by unfold NK; omega) (by unfold NK; omega) (by unfold NK; omega) (by unfold NK; omega) (by unfold NK; omega) (by unfold NK; omega) (by unfold NK; omega) (by unfold NK; omega) (by unfold NK; omega) (by unfold NK; omega) (by unfold NK; omega) (by unfold NK; omega) (by unfold NK; omega) (by unfold NK; omega) e1) (fun j hj => hs.1 j (by unfold TRK at hj; omega)) (fun j => f2 _ _ (by unfold KMx; omega)) (f2 _ _ (by unfold KMx; omega))
theorem jl_till (fu n : Nat) (a1 a2 : Int) {I J : IMem} {r r2 : Int × IMem} (hfu : 5000000000 < fu) (hC : GI I) (hM : XC 0 n J) (hn : n < 512) (qa1 : inr a1) (qa2 : inr a2) (e1 : f_S_till fu 0 a1 a2 I = some r) (e2 : f_X_till fu 0 a1 a2 J = some r2) (h : RJ I J) : RJ r.2 r2.2 := by
  have f2 : ∀ q j, ¬ KMx q j → r2.2 q j = J q j := fc_X_till KMx fu 0 a1 a2 J (fun _ => by unfold KMx; omega) (fun _ => by unfold KMx; omega) (fun _ => by unfold KMx; omega) (fun _ => by unfold KMx; omega) (fun _ => by unfold KMx; omega) (fun _ => by unfold KMx; omega) (fun _ => by unfold KMx; omega) (fun _ => by unfold KMx; omega) (fun _ => by unfold KMx; omega) (fun _ => by unfold KMx; omega) (fun _ => by unfold KMx; omega) (fun _ => by unfold KMx; omega) (by unfold KMx; omega) (by unfold KMx; omega) (by unfold KMx; omega) (by unfold KMx; omega) (by unfold KMx; omega) (by unfold KMx; omega) (by unfold KMx; omega) (by unfold KMx; omega) (by unfold KMx; omega) (by unfold KMx; omega) (by unfold KMx; omega) (by unfold KMx; omega) (by unfold KMx; omega) (by unfold KMx; omega) (by unfold KMx; omega) (by unfold KMx; omega) (by unfold KMx; omega) (by unfold KMx; omega) e2
  have hs := (sat_of (ok_X_till fu 0 a1 a2 J hfu hM.1 qa1 qa2 (by have := hM.2.2.1; omega)) e2).2.2
  exact rj_k h (fr_S_till NK fu 0 a1 a2 I (fun q _ _ => by unfold NK; omega) (by unfold NK; omega) (by unfold NK; omega) (by unfold NK; omega) (by unfold NK; omega) (by unfold NK; omega) (by unfold NK; omega) (by unfold NK; omega) (by unfold NK; omega) (by unfold NK; omega) (by unfold NK; omega) (by unfold NK; omega) (by unfold NK; omega) (by unfold NK; omega) (by unfold NK; omega) (by unfold NK; omega) (by unfold NK; omega) (by unfold NK; omega) (by unfold NK; omega) (by unfold NK; omega) e1) (fun j hj => hs.1 j (by unfold TRK at hj; omega)) (fun j => f2 _ _ (by unfold KMx; omega)) (f2 _ _ (by unfold KMx; omega))
theorem jl_together (fu n : Nat) (a1 a2 a3 a4 a5 : Int) {I J : IMem} {r r2 : Int × IMem} (hfu : 5000000000 < fu) (hC : GI I) (hM : XC 0 n J) (hn : n < 512) (qa1 : inr a1) (qa2 : inr a2) (qa3 : inr a3) (qa4 : inr a4) (qa5 : inr a5) (e1 : f_S_together fu 0 a1 a2 a3 a4 a5 I = some r) (e2 : f_X_together fu 0 a1 a2 a3 a4 a5 J = some r2) (h : RJ I J) : RJ r.2 r2.2 := by
  have f2 : ∀ q j, ¬ KMx q j → r2.2 q j = J q j := fc_X_together KMx fu 0 a1 a2 a3 a4 a5 J (fun _ => by unfold KMx; omega) (fun _ => by unfold KMx; omega) (fun _ => by unfold KMx; omega) (fun _ => by unfold KMx; omega) (fun _ => by unfold KMx; omega) (fun _ => by unfold KMx; omega) (fun _ => by unfold KMx; omega) (fun _ => by unfold KMx; omega) (fun _ => by unfold KMx; omega) (fun _ => by unfold KMx; omega) (fun _ => by unfold KMx; omega) (fun _ => by unfold KMx; omega) (by unfold KMx; omega) (by unfold KMx; omega) (by unfold KMx; omega) (by unfold KMx; omega) (by unfold KMx; omega) (by unfold KMx; omega) (by unfold KMx; omega) (by unfold KMx; omega) (by unfold KMx; omega) (by unfold KMx; omega) (by unfold KMx; omega) (by unfold KMx; omega) (by unfold KMx; omega) (by unfold KMx; omega) (by unfold KMx; omega) (by unfold KMx; omega) (by unfold KMx; omega) (by unfold KMx; omega) e2
  have hs := (sat_of (ok_X_together fu 0 a1 a2 a3 a4 a5 J hfu hM.1 qa1 qa2 qa3 qa4 qa5 (by have := hM.2.2.1; omega)) e2).2.2
  exact rj_k h (fr_S_together NK fu 0 a1 a2 a3 a4 a5 I (fun q _ _ => by unfold NK; omega) (by unfold NK; omega) (by unfold NK; omega) (by unfold NK; omega) (by unfold NK; omega) (by unfold NK; omega) (by unfold NK; omega) (by unfold NK; omega) (by unfold NK; omega) (by unfold NK; omega) (by unfold NK; omega) (by unfold NK; omega) (by unfold NK; omega) (by unfold NK; omega) (by unfold NK; omega) (by unfold NK; omega) (by unfold NK; omega) (by unfold NK; omega) (by unfold NK; omega) (by unfold NK; omega) e1) (fun j hj => hs.1 j (by unfold TRK at hj; omega)) (fun j => f2 _ _ (by unfold KMx; omega)) (f2 _ _ (by unfold KMx; omega))
theorem jl_needed (fu n : Nat) (a1 : Int) {I J : IMem} {r r2 : Int × IMem} (hfu : 5000000000 < fu) (hC : GI I) (hM : XC 0 n J) (hn : n < 512) (qa1 : inr a1) (e1 : f_S_needed fu 0 a1 I = some r) (e2 : f_X_needed fu 0 a1 J = some r2) (h : RJ I J) : RJ r.2 r2.2 := by
  have f2 : ∀ q j, ¬ KMx q j → r2.2 q j = J q j := fc_X_needed KMx fu 0 a1 J (fun _ => by unfold KMx; omega) (fun _ => by unfold KMx; omega) (fun _ => by unfold KMx; omega) (fun _ => by unfold KMx; omega) (fun _ => by unfold KMx; omega) (fun _ => by unfold KMx; omega) (fun _ => by unfold KMx; omega) (fun _ => by unfold KMx; omega) (fun _ => by unfold KMx; omega) (fun _ => by unfold KMx; omega) (fun _ => by unfold KMx; omega) (fun _ => by unfold KMx; omega) (by unfold KMx; omega) (by unfold KMx; omega) (by unfold KMx; omega) (by unfold KMx; omega) (by unfold KMx; omega) (by unfold KMx; omega) (by unfold KMx; omega) (by unfold KMx; omega) (by unfold KMx; omega) (by unfold KMx; omega) (by unfold KMx; omega) (by unfold KMx; omega) (by unfold KMx; omega) (by unfold KMx; omega) (by unfold KMx; omega) (by unfold KMx; omega) (by unfold KMx; omega) e2
  have hs := (sat_of (ok_X_needed fu 0 a1 J hfu hM.1 qa1 (by have := hM.2.2.1; omega)) e2).2.2
  exact rj_k h (fr_S_needed NK fu 0 a1 I (fun q _ _ => by unfold NK; omega) (by unfold NK; omega) (by unfold NK; omega) (by unfold NK; omega) (by unfold NK; omega) (by unfold NK; omega) (by unfold NK; omega) (by unfold NK; omega) (by unfold NK; omega) (by unfold NK; omega) (by unfold NK; omega) (by unfold NK; omega) (by unfold NK; omega) (by unfold NK; omega) (by unfold NK; omega) (by unfold NK; omega) (by unfold NK; omega) (by unfold NK; omega) (by unfold NK; omega) (by unfold NK; omega) e1) (fun j hj => hs.1 j (by unfold TRK at hj; omega)) (fun j => f2 _ _ (by unfold KMx; omega)) (f2 _ _ (by unfold KMx; omega))
theorem jl_past (fu n : Nat) (a1 a2 : Int) {I J : IMem} {r r2 : Int × IMem} (hfu : 5000000000 < fu) (hC : GI I) (hM : XC 0 n J) (hn : n < 512) (qa1 : inr a1) (qa2 : inr a2) (e1 : f_S_past fu 0 a1 a2 I = some r) (e2 : f_X_past fu 0 a1 a2 J = some r2) (h : RJ I J) : RJ r.2 r2.2 := by
  have ej : r2.2 = J := (sat_of (ok_X_past fu 0 a1 a2 J hfu hM.1 qa1 qa2) e2).2.2.1
  exact rj_k h (fr_S_past NK fu 0 a1 a2 I  e1) (fun j _ => by rw [ej]) (fun j => by rw [ej]) (by rw [ej])
theorem jl_which (fu n : Nat) (a1 a2 : Int) {I J : IMem} {r r2 : Int × IMem} (hfu : 5000000000 < fu) (hC : GI I) (hM : XC 0 n J) (hn : n < 512) (qa1 : inr a1) (qa2 : inr a2) (e1 : f_S_which fu 0 a1 a2 I = some r) (e2 : f_X_which fu 0 a1 a2 J = some r2) (h : RJ I J) : RJ r.2 r2.2 := by
  have f2 : ∀ q j, ¬ KMx q j → r2.2 q j = J q j := fc_X_which KMx fu 0 a1 a2 J (fun _ => by unfold KMx; omega) (fun _ => by unfold KMx; omega) (fun _ => by unfold KMx; omega) (fun _ => by unfold KMx; omega) (fun _ => by unfold KMx; omega) (fun _ => by unfold KMx; omega) (fun _ => by unfold KMx; omega) (fun _ => by unfold KMx; omega) (fun _ => by unfold KMx; omega) (fun _ => by unfold KMx; omega) (fun _ => by unfold KMx; omega) (fun _ => by unfold KMx; omega) (by unfold KMx; omega) (by unfold KMx; omega) (by unfold KMx; omega) (by unfold KMx; omega) (by unfold KMx; omega) (by unfold KMx; omega) (by unfold KMx; omega) (by unfold KMx; omega) (by unfold KMx; omega) (by unfold KMx; omega) (by unfold KMx; omega) (by unfold KMx; omega) (by unfold KMx; omega) (by unfold KMx; omega) (by unfold KMx; omega) (by unfold KMx; omega) (by unfold KMx; omega) (by unfold KMx; omega) (by unfold KMx; omega) (by unfold KMx; omega) (by unfold KMx; omega) (by unfold KMx; omega) (by unfold KMx; omega) (by unfold KMx; omega) (by unfold KMx; omega) (by unfold KMx; omega) e2
  have hs := (sat_of (ok_X_which fu 0 a1 a2 J hfu hM.1 qa1 qa2 (by have := hM.2.2.1; omega)) e2).2.2
  exact rj_k h (fr_S_which NK fu 0 a1 a2 I (fun q _ _ => by unfold NK; omega) (by unfold NK; omega) (by unfold NK; omega) (by unfold NK; omega) (by unfold NK; omega) (by unfold NK; omega) (by unfold NK; omega) (by unfold NK; omega) (by unfold NK; omega) (by unfold NK; omega) (by unfold NK; omega) (by unfold NK; omega) (by unfold NK; omega) (by unfold NK; omega) (by unfold NK; omega) (by unfold NK; omega) (by unfold NK; omega) (by unfold NK; omega) (by unfold NK; omega) (by unfold NK; omega) (by unfold NK; omega) (by unfold NK; omega) e1) (fun j hj => hs.1 j (by unfold TRK at hj; omega)) (fun j => f2 _ _ (by unfold KMx; omega)) (f2 _ _ (by unfold KMx; omega))
theorem jl_folded (fu n : Nat) (a1 a2 a3 : Int) {I J : IMem} {r r2 : Int × IMem} (hfu : 5000000000 < fu) (hC : GI I) (hM : XC 0 n J) (hn : n < 512) (qa1 : inr a1) (qa2 : inr a2) (qa3 : inr a3) (e1 : f_S_folded fu 0 a1 a2 a3 I = some r) (e2 : f_X_folded fu 0 a1 a2 a3 J = some r2) (h : RJ I J) : RJ r.2 r2.2 := by
  have ej : r2.2 = J := (sat_of (ok_X_folded fu 0 a1 a2 a3 J hfu hM.1 qa1 qa2 qa3) e2).2.2.1
  exact rj_k h (fr_S_folded NK fu 0 a1 a2 a3 I  e1) (fun j _ => by rw [ej]) (fun j => by rw [ej]) (by rw [ej])
theorem jl_image (fu n : Nat) (a1 : Int) {I J : IMem} {r r2 : Int × IMem} (hfu : 5000000000 < fu) (hC : GI I) (hM : XC 0 n J) (hn : n < 512) (qa1 : inr a1) (e1 : f_S_image fu 0 a1 I = some r) (e2 : f_X_image fu 0 a1 J = some r2) (h : RJ I J) : RJ r.2 r2.2 := by
  have h8 := hC.2
  unfold f_S_image at e1
  have pm := (sat_of (og_X_image fu 0 a1 J hfu hM.1 qa1) e2).2.2
  obtain ⟨h1, h2, h3⟩ := h
  rcases of_ite e1 with ⟨q, e1⟩ | ⟨q, e1⟩
  · rcases of_ite e1 with ⟨q2, e1⟩ | ⟨q2, e1⟩
    · obtain ⟨g, e1⟩ := of_zg e1
      cases e1
      have q2 : I 0 8 = 0 := q2
      have j0 : J 0 3 = 0 := by rw [← h2]; exact q2
      rcases pm with ⟨_, _, z⟩ | ⟨z0, z1, z2, _⟩ | ⟨z0, _⟩
      · rw [z]; exact ⟨h1, h2, h3⟩
      · exact absurd j0 z1
      · exact absurd q z0
    · obtain ⟨u, I2, c2, e1⟩ := of_zb e1
      obtain ⟨u5, I5, c4, e1⟩ := of_zb e1
      obtain ⟨g, e1⟩ := of_zg e1
      have f1 : ∀ q, ¬ (q ≠ 0 ∧ q ≠ 41 ∧ q ≠ 42 ∧ q ≠ 45 ∧ q ≠ 46) → I2 q = I q := fr_H_copyFrom (fun q => q ≠ 0 ∧ q ≠ 41 ∧ q ≠ 42 ∧ q ≠ 45 ∧ q ≠ 46) fu (0 + 1) (0 + 41) I (fun q _ _ => by show q ≠ 0 ∧ q ≠ 41 ∧ q ≠ 42 ∧ q ≠ 45 ∧ q ≠ 46; omega) (by show _ ≠ 0 ∧ _ ≠ 41 ∧ _ ≠ 42 ∧ _ ≠ 45 ∧ _ ≠ 46; omega) (by show _ ≠ 0 ∧ _ ≠ 41 ∧ _ ≠ 42 ∧ _ ≠ 45 ∧ _ ≠ 46; omega) (by show _ ≠ 0 ∧ _ ≠ 41 ∧ _ ≠ 42 ∧ _ ≠ 45 ∧ _ ≠ 46; omega) (by show _ ≠ 0 ∧ _ ≠ 41 ∧ _ ≠ 42 ∧ _ ≠ 45 ∧ _ ≠ 46; omega) (by show _ ≠ 0 ∧ _ ≠ 41 ∧ _ ≠ 42 ∧ _ ≠ 45 ∧ _ ≠ 46; omega) (by show _ ≠ 0 ∧ _ ≠ 41 ∧ _ ≠ 42 ∧ _ ≠ 45 ∧ _ ≠ 46; omega) (by show _ ≠ 0 ∧ _ ≠ 41 ∧ _ ≠ 42 ∧ _ ≠ 45 ∧ _ ≠ 46; omega) (by show _ ≠ 0 ∧ _ ≠ 41 ∧ _ ≠ 42 ∧ _ ≠ 45 ∧ _ ≠ 46; omega) (by show _ ≠ 0 ∧ _ ≠ 41 ∧ _ ≠ 42 ∧ _ ≠ 45 ∧ _ ≠ 46; omega) (by show _ ≠ 0 ∧ _ ≠ 41 ∧ _ ≠ 42 ∧ _ ≠ 45 ∧ _ ≠ 46; omega) (by show _ ≠ 0 ∧ _ ≠ 41 ∧ _ ≠ 42 ∧ _ ≠ 45 ∧ _ ≠ 46; omega) c2
      have f2 : ∀ q, ¬ NK q → I5 q = I2 q := fr_S_dropPicked NK fu 0 I2 (by unfold NK; omega) (by unfold NK; omega) c4
      have k := cf (a := 0 + 1) (b := 0 + 41) (Or.inl ⟨rfl, rfl⟩) c2
      cases e1
      have q2 : ¬ I 0 8 = 0 := q2
      have j0 : J 0 3 ≠ 0 := by rw [← h2]; exact q2
      have j1 : I 0 8 = 1 := by omega
      obtain ⟨a, b, c, d⟩ := h3 j0
      rcases pm with ⟨_, z, _⟩ | ⟨z0, z1, z2, z3, z4, z5, z6⟩ | ⟨z0, _⟩
      · exact absurd z j0
      · have z5 : ∀ j, j < 6190 → r2.2 1 j = J 2 j := z5
        have z6 : ∀ j, j < 6190 → r2.2 2 j = J 2 j := z6
        refine ⟨⟨?_, ?_, fun k8 hk => ?_, fun k8 k1 k2 => ?_⟩, ?_, fun _ => ⟨?_, ?_, fun k8 hk => ?_, fun k8 k1 k2 => ?_⟩⟩
        · show I5 1 6 = _
          rw [f2 1 (by unfold NK; omega), z5 0 (by decide)]; exact k.1.trans a
        · show I5 (1 + 1) 3 = _
          rw [f2 (1 + 1) (by unfold NK; omega), z5 4 (by decide)]; exact (k.2.1 3 (by decide)).trans b
        · show I5 (1 + 4) _ = _
          rw [f2 (1 + 4) (by unfold NK; omega), z5 _ (by omega)]; exact (k.2.2.1 _ (by omega)).trans (c k8 hk)
        · show I5 (1 + 5) _ = _
          rw [f2 (1 + 5) (by unfold NK; omega), z5 _ (by omega)]; exact (k.2.2.2 _ (by omega)).trans (d k8 k1 k2)
        · show I5 0 8 = _
          rw [f2 0 (by unfold NK; omega), f1 0 (by omega), z2, j1]
        · show I5 41 6 = _
          rw [f2 41 (by unfold NK; omega), f1 41 (by omega), z6 0 (by decide)]; exact a
        · show I5 (41 + 1) 3 = _
          rw [f2 (41 + 1) (by unfold NK; omega), f1 (41 + 1) (by omega), z6 4 (by decide)]; exact b
        · show I5 (41 + 4) _ = _
          rw [f2 (41 + 4) (by unfold NK; omega), f1 (41 + 4) (by omega), z6 _ (by omega)]; exact c k8 hk
        · show I5 (41 + 5) _ = _
          rw [f2 (41 + 5) (by unfold NK; omega), f1 (41 + 5) (by omega), z6 _ (by omega)]; exact d k8 k1 k2
      · exact absurd q z0
  · obtain ⟨u8, I8, c7, e1⟩ := of_zb e1
    have e1 : (fun I10 : IMem => zg (I10 0 8 = 0 ∨ I10 0 8 = 1) (zr (I10 0 8) I10)) (up I8 0 8 1) = some r := e1
    obtain ⟨g, e1⟩ := of_zg e1
    have f1 : ∀ q, ¬ (q ≠ 1 ∧ q ≠ 2 ∧ q ≠ 5 ∧ q ≠ 6) → I8 q = I q := fr_H_copyFrom (fun q => q ≠ 1 ∧ q ≠ 2 ∧ q ≠ 5 ∧ q ≠ 6) fu (0 + 41) (0 + 1) I (fun q _ _ => by show q ≠ 1 ∧ q ≠ 2 ∧ q ≠ 5 ∧ q ≠ 6; omega) (by show _ ≠ 1 ∧ _ ≠ 2 ∧ _ ≠ 5 ∧ _ ≠ 6; omega) (by show _ ≠ 1 ∧ _ ≠ 2 ∧ _ ≠ 5 ∧ _ ≠ 6; omega) (by show _ ≠ 1 ∧ _ ≠ 2 ∧ _ ≠ 5 ∧ _ ≠ 6; omega) (by show _ ≠ 1 ∧ _ ≠ 2 ∧ _ ≠ 5 ∧ _ ≠ 6; omega) (by show _ ≠ 1 ∧ _ ≠ 2 ∧ _ ≠ 5 ∧ _ ≠ 6; omega) (by show _ ≠ 1 ∧ _ ≠ 2 ∧ _ ≠ 5 ∧ _ ≠ 6; omega) (by show _ ≠ 1 ∧ _ ≠ 2 ∧ _ ≠ 5 ∧ _ ≠ 6; omega) (by show _ ≠ 1 ∧ _ ≠ 2 ∧ _ ≠ 5 ∧ _ ≠ 6; omega) (by show _ ≠ 1 ∧ _ ≠ 2 ∧ _ ≠ 5 ∧ _ ≠ 6; omega) (by show _ ≠ 1 ∧ _ ≠ 2 ∧ _ ≠ 5 ∧ _ ≠ 6; omega) (by show _ ≠ 1 ∧ _ ≠ 2 ∧ _ ≠ 5 ∧ _ ≠ 6; omega) c7
    have k := cf (a := 0 + 41) (b := 0 + 1) (Or.inr ⟨rfl, rfl⟩) c7
    cases e1
    obtain ⟨a, b, c, d⟩ := h1
    rcases pm with ⟨z0, _⟩ | ⟨z0, _⟩ | ⟨z0, z1, z2, z3⟩
    · exact absurd z0 q
    · exact absurd z0 q
    · have z2 : ∀ j, j < 6190 → r2.2 2 j = J 1 j := z2
      have z3 : ∀ j, j < 6190 → r2.2 1 j = J 1 j := z3.1
      refine ⟨⟨?_, ?_, fun k8 hk => ?_, fun k8 k1 k2 => ?_⟩, ?_, fun _ => ⟨?_, ?_, fun k8 hk => ?_, fun k8 k1 k2 => ?_⟩⟩
      · show I8 1 6 = _
        rw [f1 1 (by omega), z3 0 (by decide)]; exact a
      · show I8 (1 + 1) 3 = _
        rw [f1 (1 + 1) (by omega), z3 4 (by decide)]; exact b
      · show I8 (1 + 4) _ = _
        rw [f1 (1 + 4) (by omega), z3 _ (by omega)]; exact c k8 hk
      · show I8 (1 + 5) _ = _
        rw [f1 (1 + 5) (by omega), z3 _ (by omega)]; exact d k8 k1 k2
      · show (1 : Int) = _
        rw [z1]
      · show I8 41 6 = _
        rw [z2 0 (by decide)]; exact k.1.trans a
      · show I8 (41 + 1) 3 = _
        rw [z2 4 (by decide)]; exact (k.2.1 3 (by decide)).trans b
      · show I8 (41 + 4) _ = _
        rw [z2 _ (by omega)]; exact (k.2.2.1 _ (by omega)).trans (c k8 hk)
      · show I8 (41 + 5) _ = _
        rw [z2 _ (by omega)]; exact (k.2.2.2 _ (by omega)).trans (d k8 k1 k2)
theorem jl_told (fu n : Nat) (a1 : Int) {I J : IMem} {r r2 : Int × IMem} (hfu : 5000000000 < fu) (hC : GI I) (hM : XC 0 n J) (hn : n < 512) (qa1 : inr a1) (e1 : f_S_told fu 0 a1 I = some r) (e2 : f_X_told fu 0 a1 J = some r2) (h : RJ I J) : RJ r.2 r2.2 := by
  have ej : r2.2 = J := (sat_of (ok_X_told fu 0 a1 J hfu hM.1 qa1) e2).2.2.1
  exact rj_k h (fr_S_told NK fu 0 a1 I  e1) (fun j _ => by rw [ej]) (fun j => by rw [ej]) (by rw [ej])
