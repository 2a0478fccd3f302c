/-! who is marked, by the reference's memory: the lists are whole -/
def CVS (J : IMem) : Prop :=
  (0 ≤ J 0 31 ∧ 0 ≤ J 0 32) ∧
  (∀ k, k < 240 → J 9 k ≠ 0 → INL J k ∧ J 12 k = 0 ∧ ∃ i : Nat, (i : Int) < J 0 31 ∧ J 11 i = (k : Int)) ∧
  (∀ k, k < 240 → J 12 k ≠ 0 → INL J k ∧ J 9 k = 0 ∧ ∃ i : Nat, (i : Int) < J 0 32 ∧ J 10 i = (k : Int)) ∧
  (∀ i : Nat, (i : Int) < J 0 31 → ∃ k : Nat, INL J k ∧ J 11 i = (k : Int) ∧ J 9 k ≠ 0) ∧
  (∀ i : Nat, (i : Int) < J 0 32 → ∃ k : Nat, INL J k ∧ J 10 i = (k : Int) ∧ J 12 k ≠ 0) ∧
  (∀ i j : Nat, (i : Int) < J 0 32 → (j : Int) < J 0 32 → J 10 i = J 10 j → i = j)
theorem inl_to {J J' : IMem} (h : ∀ l, l < 6 → J' 1 (130 + l) = J 1 (130 + l)) {k : Nat} (hk : INL J k) : INL J' k := ⟨hk.1, by rw [h _ (by have := hk.1; omega)]; exact hk.2⟩
/-- one more sits -/
theorem cvs_sit {J J' : IMem} {k : Nat} {z : Int} (h : CVS J) (hin : INL J k) (h9 : J 9 k = 0) (h12 : J 12 k = 0) (hz : z ≠ 0) (c : ∀ l, l < 6 → J' 1 (130 + l) = J 1 (130 + l)) (f31 : J' 0 31 = J 0 31 + 1) (f32 : J' 0 32 = J 0 32) (f9 : ∀ j, J' 9 j = if j = k then z else J 9 j) (f12 : ∀ j, J' 12 j = J 12 j) (f11 : ∀ j, J' 11 j = if j = (J 0 31).toNat then (k : Int) else J 11 j) (f10 : ∀ j, J' 10 j = J 10 j) : CVS J' := by
  obtain ⟨⟨a1, a2⟩, b, d, e, f, g⟩ := h
  refine ⟨⟨by omega, by omega⟩, fun k2 hk2 hn => ?_, fun k2 hk2 hn => ?_, fun i hi => ?_, fun i hi => ?_, fun i j hi hj q => ?_⟩
  · by_cases y : k2 = k
    · rw [y]
      refine ⟨inl_to c hin, by rw [f12]; exact h12, (J 0 31).toNat, by omega, ?_⟩
      rw [f11, if_pos rfl]
    · rw [f9, if_neg y] at hn
      obtain ⟨x1, x2, i, i1, i2⟩ := b k2 hk2 hn
      refine ⟨inl_to c x1, by rw [f12]; exact x2, i, by omega, ?_⟩
      rw [f11, if_neg (by omega)]; exact i2
  · rw [f12] at hn
    obtain ⟨x1, x2, i, i1, i2⟩ := d k2 hk2 hn
    have y : k2 ≠ k := fun y => hn (by rw [y]; exact h12)
    exact ⟨inl_to c x1, by rw [f9, if_neg y]; exact x2, i, by omega, by rw [f10]; exact i2⟩
  · by_cases y : i = (J 0 31).toNat
    · exact ⟨k, inl_to c hin, by rw [f11, if_pos y], by rw [f9, if_pos rfl]; exact hz⟩
    · obtain ⟨k2, x1, x2, x3⟩ := e i (by omega)
      refine ⟨k2, inl_to c x1, by rw [f11, if_neg y]; exact x2, ?_⟩
      rw [f9]
      split
      · exact hz
      · exact x3
  · rw [f32] at hi
    obtain ⟨k2, x1, x2, x3⟩ := f i hi
    exact ⟨k2, inl_to c x1, by rw [f10]; exact x2, by rw [f12]; exact x3⟩
  · rw [f32] at hi hj
    rw [f10, f10] at q
    exact g i j hi hj q
/-- one more is found out -/
theorem cvs_found {J J' : IMem} {k : Nat} (h : CVS J) (hin : INL J k) (h9 : J 9 k = 0) (h12 : J 12 k = 0) (c : ∀ l, l < 6 → J' 1 (130 + l) = J 1 (130 + l)) (f31 : J' 0 31 = J 0 31) (f32 : J' 0 32 = J 0 32 + 1) (f9 : ∀ j, J' 9 j = J 9 j) (f12 : ∀ j, J' 12 j = if j = k then 1 else J 12 j) (f11 : ∀ j, J' 11 j = J 11 j) (f10 : ∀ j, J' 10 j = if j = (J 0 32).toNat then (k : Int) else J 10 j) : CVS J' := by
  obtain ⟨⟨a1, a2⟩, b, d, e, f, g⟩ := h
  have fresh : ∀ i : Nat, (i : Int) < J 0 32 → J 10 i ≠ (k : Int) := fun i hi q => by
    obtain ⟨k2, _, x2, x3⟩ := f i hi
    have : k2 = k := by omega
    exact x3 (by rw [this]; exact h12)
  refine ⟨⟨by omega, by omega⟩, fun k2 hk2 hn => ?_, fun k2 hk2 hn => ?_, fun i hi => ?_, fun i hi => ?_, fun i j hi hj q => ?_⟩
  · rw [f9] at hn
    obtain ⟨x1, x2, i, i1, i2⟩ := b k2 hk2 hn
    have y : k2 ≠ k := fun y => hn (by rw [y]; exact h9)
    exact ⟨inl_to c x1, by rw [f12, if_neg y]; exact x2, i, by omega, by rw [f11]; exact i2⟩
  · by_cases y : k2 = k
    · rw [y]
      refine ⟨inl_to c hin, by rw [f9]; exact h9, (J 0 32).toNat, by omega, ?_⟩
      rw [f10, if_pos rfl]
    · rw [f12, if_neg y] at hn
      obtain ⟨x1, x2, i, i1, i2⟩ := d k2 hk2 hn
      refine ⟨inl_to c x1, by rw [f9]; exact x2, i, by omega, ?_⟩
      rw [f10, if_neg (by omega)]; exact i2
  · rw [f31] at hi
    obtain ⟨k2, x1, x2, x3⟩ := e i hi
    exact ⟨k2, inl_to c x1, by rw [f11]; exact x2, by rw [f9]; exact x3⟩
  · by_cases y : i = (J 0 32).toNat
    · exact ⟨k, inl_to c hin, by rw [f10, if_pos y], by rw [f12, if_pos rfl]; decide⟩
    · obtain ⟨k2, x1, x2, x3⟩ := f i (by omega)
      refine ⟨k2, inl_to c x1, by rw [f10, if_neg y]; exact x2, ?_⟩
      rw [f12]
      split
      · decide
      · exact x3
  · rw [f10, f10] at q
    by_cases y : i = (J 0 32).toNat
    · rw [if_pos y] at q
      by_cases y2 : j = (J 0 32).toNat
      · rw [y, y2]
      · rw [if_neg y2] at q
        exact absurd q.symm (fresh j (by omega))
    · rw [if_neg y] at q
      by_cases y2 : j = (J 0 32).toNat
      · rw [if_pos y2] at q
        exact absurd q (fresh i (by omega))
      · rw [if_neg y2] at q
        exact g i j (by omega) (by omega) q
theorem cvs_fr {J J' : IMem} (h : CVS J) (c : ∀ l, l < 6 → J' 1 (130 + l) = J 1 (130 + l)) (g : ∀ q j, (q = 0 ∧ (j = 31 ∨ j = 32)) ∨ q = 9 ∨ q = 10 ∨ q = 11 ∨ q = 12 → J' q j = J q j) : CVS J' := by
  obtain ⟨⟨a1, a2⟩, b, d, e, f, k⟩ := h
  have g31 := g 0 31 (by omega)
  have g32 := g 0 32 (by omega)
  refine ⟨⟨by omega, by omega⟩, fun k2 hk2 hn => ?_, fun k2 hk2 hn => ?_, fun i hi => ?_, fun i hi => ?_, fun i j hi hj q => ?_⟩
  · rw [g 9 _ (by omega)] at hn
    obtain ⟨x1, x2, i, i1, i2⟩ := b k2 hk2 hn
    exact ⟨inl_to c x1, by rw [g 12 _ (by omega)]; exact x2, i, by omega, by rw [g 11 _ (by omega)]; exact i2⟩
  · rw [g 12 _ (by omega)] at hn
    obtain ⟨x1, x2, i, i1, i2⟩ := d k2 hk2 hn
    exact ⟨inl_to c x1, by rw [g 9 _ (by omega)]; exact x2, i, by omega, by rw [g 10 _ (by omega)]; exact i2⟩
  · obtain ⟨k2, x1, x2, x3⟩ := e i (by omega)
    exact ⟨k2, inl_to c x1, by rw [g 11 _ (by omega)]; exact x2, by rw [g 9 _ (by omega)]; exact x3⟩
  · obtain ⟨k2, x1, x2, x3⟩ := f i (by omega)
    exact ⟨k2, inl_to c x1, by rw [g 10 _ (by omega)]; exact x2, by rw [g 12 _ (by omega)]; exact x3⟩
  · rw [g 10 _ (by omega), g 10 _ (by omega)] at q
    exact k i j (by omega) (by omega) q
/-- the filling under way -/
def GMV (J0 J : IMem) : Prop := CVS J ∧ (0 ≤ J 0 30 ∧ J 0 30 + J 0 31 ≤ 8 ∧ 0 ≤ J 0 33 ∧ J 0 33 ≤ J 0 31) ∧ ∀ j, j ≠ 75 → J 1 j = J0 1 j
section
variable {fu : Nat} {Q : Int → IMem → Prop}
theorem gmv_c {J0 J : IMem} (h : GMV J0 J) {J' : IMem} (f : ∀ j, j ≠ 75 → J' 1 j = J 1 j) : ∀ l, l < 6 → J' 1 (130 + l) = J 1 (130 + l) := fun l hl => f _ (by omega)
theorem gmv_sit {J0 J J' : IMem} {k : Nat} {z s : Int} (h : GMV J0 J) (hin : INL J k) (h9 : J 9 k = 0) (h12 : J 12 k = 0) (hz : 1 ≤ z ∧ z ≤ J 0 30) (g : ∀ q j, q ≠ 7 → q ≠ 8 → J' q j = if q = 0 ∧ j = 34 then wr32 (J 0 34 + (if s = 1 then 0 else 1)) else if q = 0 ∧ j = 33 then wr32 (J 0 33 + (if s = 2 then 1 else 0)) else if q = 0 ∧ j = 30 then wr32 (J 0 30 - z) else if q = 0 ∧ j = 31 then J 0 31 + 1 else if q = 11 ∧ j = (J 0 31).toNat then (k : Int) else if q = 9 ∧ j = k then z else J q j) : GMV J0 J' := by
  obtain ⟨h1, ⟨b1, b2, b3, b4⟩, h3⟩ := h
  have a1 := h1.1.1
  have w : ∀ j, J' 1 j = J 1 j := fun j => by rw [g 1 j (by decide) (by decide), if_neg (by omega), if_neg (by omega), if_neg (by omega), if_neg (by omega), if_neg (by omega), if_neg (by omega)]
  have f31 : J' 0 31 = J 0 31 + 1 := by rw [g 0 31 (by decide) (by decide), if_neg (by omega), if_neg (by omega), if_neg (by omega), if_pos ⟨rfl, rfl⟩]
  have f30 : J' 0 30 = J 0 30 - z := by rw [g 0 30 (by decide) (by decide), if_neg (by omega), if_neg (by omega), if_pos ⟨rfl, rfl⟩, wr32_i2 (by omega) (by omega)]
  have f33 : 0 ≤ J' 0 33 ∧ J' 0 33 ≤ J 0 33 + 1 := by
    rw [g 0 33 (by decide) (by decide), if_neg (by omega), if_pos ⟨rfl, rfl⟩]
    by_cases y : s = 2
    · rw [if_pos y, wr32_i2 (by omega) (by omega)]; omega
    · rw [if_neg y, wr32_i2 (by omega) (by omega)]; omega
  refine ⟨cvs_sit (k := k) (z := z) h1 hin h9 h12 (by omega) (fun l hl => w _) f31 ?_ (fun j => ?_) (fun j => ?_) (fun j => ?_) (fun j => ?_), ⟨by omega, by omega, by omega, by omega⟩, fun j hj => (w j).trans (h3 j hj)⟩
  · rw [g 0 32 (by decide) (by decide), if_neg (by omega), if_neg (by omega), if_neg (by omega), if_neg (by omega), if_neg (by omega), if_neg (by omega)]
  · rw [g 9 j (by decide) (by decide), if_neg (by omega), if_neg (by omega), if_neg (by omega), if_neg (by omega), if_neg (by omega)]
    by_cases y : j = k
    · rw [if_pos ⟨rfl, y⟩, if_pos y]
    · rw [if_neg (fun z => y z.2), if_neg y]
  · rw [g 12 j (by decide) (by decide), if_neg (by omega), if_neg (by omega), if_neg (by omega), if_neg (by omega), if_neg (by omega), if_neg (by omega)]
  · rw [g 11 j (by decide) (by decide), if_neg (by omega), if_neg (by omega), if_neg (by omega), if_neg (by omega)]
    by_cases y : j = (J 0 31).toNat
    · rw [if_pos ⟨rfl, y⟩, if_pos y]
    · rw [if_neg (fun z => y z.2), if_neg y, if_neg (by omega)]
  · rw [g 10 j (by decide) (by decide), if_neg (by omega), if_neg (by omega), if_neg (by omega), if_neg (by omega), if_neg (by omega), if_neg (by omega)]
theorem gmv_mv {J0 J J' : IMem} (h : GMV J0 J) (g : ∀ q j, q ≠ 7 → q ≠ 8 → J' q j = J q j) : GMV J0 J' := by
  obtain ⟨h1, ⟨b1, b2, b3, b4⟩, h3⟩ := h
  refine ⟨cvs_fr h1 (fun l hl => g _ _ (by decide) (by decide)) (fun q j hq => g _ _ (by omega) (by omega)), ?_, fun j hj => (g 1 j (by decide) (by decide)).trans (h3 j hj)⟩
  rw [g 0 30 (by decide) (by decide), g 0 31 (by decide) (by decide), g 0 33 (by decide) (by decide)]
  exact ⟨b1, b2, b3, b4⟩
theorem xg_b7 (kk R_ : IMem → Res) (J0 : IMem) {x9 : Int} {J : IMem} (h : GMV J0 J) (hz0 : ∀ k, INL J0 k → 1 ≤ J0 1 (141 + 6 * k) ∧ J0 1 (141 + 6 * k) ≤ 8) (hx : x9 = -1 ∨ ∃ k : Nat, k < 240 ∧ eF J k = true ∧ x9 = (k : Int)) (hA : ∀ J, GMV J0 J → par (kk J) Q) (hB : ∀ J, GMV J0 J → par (R_ J) Q) : par (xB7 fu kk R_ x9 J) Q := by
  unfold xB7
  rcases hx with hx | ⟨k, hk, he, hx⟩
  · rw [if_pos hx]; exact hA J h
  · rw [if_neg (by omega), hx]
    obtain ⟨l, p, hl, hp, rfl⟩ : ∃ l p, l < 6 ∧ p < 40 ∧ k = 40 * l + p := ⟨k / 40, k % 40, by omega, by omega, by omega⟩
    obtain ⟨c1, c2, c3, c4, _⟩ := (ef_iff J hp).mp he
    have d1 : (40 * l + p) / 40 = l := by omega
    have d2 : (40 * l + p) % 40 = p := by omega
    have hin : INL J (40 * l + p) := ⟨hk, by rw [d1, d2]; exact c1⟩
    have hin0 : INL J0 (40 * l + p) := inl_to (fun l hl => (h.2.2 (130 + l) (by omega)).symm) hin
    have z1 := hz0 _ hin0
    rw [show 141 + 6 * (40 * l + p) = 140 + 6 * (40 * l + p) + 1 by omega, ← h.2.2 (140 + 6 * (40 * l + p) + 1) (by omega)] at z1
    obtain ⟨h1, ⟨b1, b2, b3, b4⟩, h3⟩ := h
    have h' : GMV J0 J := ⟨h1, ⟨b1, b2, b3, b4⟩, h3⟩
    have a1 := h1.1.1
    have a2 := h1.1.2
    rw [wd40 _ hk, wr40 _ hk, d1, d2, ev_of1 fu 0 l p J hl hp, zb_zr]
    refine par_ite (fun q => ?_) (fun q => ?_)
    · refine par_zg (fun _ => par_zw' (fun J1 e1 => ?_))
      rw [tn] at e1
      simp only [zl_e]
      have u1 : J1 0 32 = J 0 32 := by rw [e1, if_neg (by omega)]
      rw [u1]
      refine par_zg (fun r => par_zw' (fun J2 e2 => par_zw' (fun J3 e3 => par_zw' (fun J4 e4 => hB J4 ?_))))
      have u2 : J2 0 32 = J 0 32 := by rw [e2, if_neg (by omega), u1]
      rw [u2, wr32_i2 (x := J 0 32 + 1) (by omega) (by omega)] at e3
      have f : ∀ q j, ¬ (q = 0 + 1 ∧ j = 75) → J4 q j = if q = 0 ∧ j = 32 then J 0 32 + 1 else if q = 0 + 10 ∧ j = (J 0 32).toNat then ((40 * l + p : Nat) : Int) else if q = 0 + 12 ∧ j = 40 * l + p then 1 else J q j := fun q j hq => by rw [e4, if_neg hq, e3, e2, e1]
      clear e4 e3 e2 e1
      have w : ∀ j, j ≠ 75 → J4 1 j = J 1 j := fun j hj => by rw [f 1 j (by omega), if_neg (by omega), if_neg (by omega), if_neg (by omega)]
      refine ⟨cvs_found (k := 40 * l + p) h1 hin c3 c4 (fun l hl => w _ (by omega)) ?_ ?_ (fun j => ?_) (fun j => ?_) (fun j => ?_) (fun j => ?_), ?_, fun j hj => (w j hj).trans (h3 j hj)⟩
      · rw [f 0 31 (by omega), if_neg (by omega), if_neg (by omega), if_neg (by omega)]
      · rw [f 0 32 (by omega), if_pos ⟨rfl, rfl⟩]
      · rw [f 9 j (by omega), if_neg (by omega), if_neg (by omega), if_neg (by omega)]
      · rw [f 12 j (by omega), if_neg (by omega), if_neg (by omega)]
        by_cases y : j = 40 * l + p
        · rw [if_pos ⟨rfl, y⟩, if_pos y]
        · rw [if_neg (fun z => y z.2), if_neg y]
      · rw [f 11 j (by omega), if_neg (by omega), if_neg (by omega), if_neg (by omega)]
      · rw [f 10 j (by omega), if_neg (by omega)]
        by_cases y : j = (J 0 32).toNat
        · rw [if_pos ⟨rfl, y⟩, if_pos y]
        · rw [if_neg (fun z => y z.2), if_neg y, if_neg (by omega)]
      · rw [f 0 30 (by omega), if_neg (by omega), if_neg (by omega), if_neg (by omega), f 0 31 (by omega), if_neg (by omega), if_neg (by omega), if_neg (by omega), f 0 33 (by omega), if_neg (by omega), if_neg (by omega), if_neg (by omega)]
        exact ⟨b1, b2, b3, b4⟩
    · rw [ev_of1 fu 0 l p J hl hp, zb_zr]
      have zz : 1 ≤ J (0 + 1) (140 + 6 * (40 * l + p) + 1) ∧ J (0 + 1) (140 + 6 * (40 * l + p) + 1) ≤ J 0 30 := ⟨z1.1, Int.not_lt.mp q⟩
      refine par_zb (xv_takes (fu := fu) l p (J (0 + 1) (140 + 6 * (40 * l + p) + 1)) J hl hp ⟨a1, by omega⟩) (fun _ J1 g => hB J1 ?_)
      exact gmv_sit (k := 40 * l + p) h' hin c3 c4 zz (fun q j _ _ => g q j)
theorem xg_4 (kk : IMem → Res) (J0 : IMem) {kl : Nat} {law : List LRec} (hw : LWX J0 kl law) (hc : ∀ l, l < 6 → 0 ≤ J0 1 (130 + l) ∧ J0 1 (130 + l) ≤ 40) (hbd : inr (J0 1 5)) (hz0 : ∀ k, INL J0 k → 1 ≤ J0 1 (141 + 6 * k) ∧ J0 1 (141 + 6 * k) ≤ 8) (hA : ∀ J, GMV J0 J → par (kk J) Q) : ∀ (m : Nat) (J : IMem), GMV J0 J → par (f_X_fills_4 fu kk 0 m J) Q := by
  intro m
  induction m with
  | zero => intro _ _; exact par_none
  | succ m ih =>
    intro J h
    show par (fb_X_fills_4 fu kk 0 (f_X_fills_4 fu kk 0 m) J) Q
    rw [fills_eq]
    have w : ∀ j, j ≠ 75 → J 1 j = J0 1 j := h.2.2
    have find : ∀ (by1 : Bool) (b : Int), b = (if by1 then 1 else 0) → ∀ J2, GMV J0 J2 → par (f_X_finds fu 0 b J2) (fun y J' => (y = -1 ∨ ∃ k : Nat, k < 240 ∧ eF J' k = true ∧ y = (k : Int)) ∧ GMV J0 J') := by
      intro by1 b hb J2 h2
      have w2 : ∀ j, j ≠ 75 → J2 1 j = J0 1 j := h2.2.2
      refine par_mono (xv_finds (fu := fu) by1 b hb J2 (lwx_same hw (fun j hj => w2 j (by omega))) (fun l hl => by rw [w2 _ (by omega)]; exact hc l hl) (by rw [w2 5 (by decide)]; exact hbd)) (fun y J' ⟨e, g⟩ => ⟨?_, gmv_mv h2 g⟩)
      rw [ef_same g]
      rcases amF_rng (e := eF J2) (v := vF J2 by1 kl law) (lo := loF J2 by1) 240 with q | ⟨k, q1, q2, q3, _⟩
      · rw [q] at e; exact Or.inl e
      · exact Or.inr ⟨k, q1, q2, e.trans q3⟩
    have b4 : ∀ (x6 : Int) (J2 : IMem), GMV J0 J2 → (x6 = -1 ∨ ∃ k : Nat, k < 240 ∧ eF J2 k = true ∧ x6 = (k : Int)) → par (xB4 fu kk (f_X_fills_4 fu kk 0 m) x6 J2) Q := by
      intro x6 J2 h2 hx
      unfold xB4
      by_cases q : x6 = -1
      · rw [if_pos q]
        exact par_zb (find false 0 rfl J2 h2) (fun y J3 ⟨g1, g2⟩ => xg_b7 kk _ J0 g2 hz0 g1 hA ih)
      · rw [if_neg q]
        exact xg_b7 kk _ J0 h2 hz0 hx hA ih
    refine par_ite (fun _ => par_zb (find true 1 rfl J h) (fun y J3 ⟨g1, g2⟩ => b4 y J3 g2 g1)) (fun _ => b4 (-1) J h (Or.inl rfl))
/-- fills: the lists are whole -/
theorem xg_fills (J : IMem) {kl : Nat} {law : List LRec} (hw : LWX J kl law) (hg : GX 0 J) (hc : ∀ l, l < 6 → 0 ≤ J 1 (130 + l) ∧ J 1 (130 + l) ≤ 40) : par (f_X_fills fu 0 J) (fun _ J' => CVS J' ∧ ∀ j, j ≠ 75 → J' 1 j = J 1 j) := by
  obtain ⟨⟨s1, s2⟩, _, gs, gpt, gz, gb, _⟩ := gx_facts hg
  unfold f_X_fills
  refine par_zb (xv_begins (fu := fu) J) (fun _ J1 ⟨g1, ⟨g2, g3, g4, g5, g6⟩, g7⟩ => ?_)
  have w1 : ∀ j, J1 1 j = J 1 j := fun j => g7 1 j (by decide) (by decide) (by omega)
  have h1 : GMV J J1 := by
    refine ⟨⟨⟨by omega, by omega⟩, fun k hk hn => absurd (g1 k hk).1 hn, fun k hk hn => absurd (g1 k hk).2 hn, fun i hi => ?_, fun i hi => ?_, fun i j hi => ?_⟩, ⟨by omega, by omega, by omega, by omega⟩, fun j _ => w1 j⟩
    · rw [g3] at hi; omega
    · rw [g4] at hi; omega
    · rw [g4] at hi; omega
  refine xg_4 _ J hw hc gb gz (fun J2 h2 => ?_) fu J1 h1
  have w2 : ∀ j, j ≠ 75 → J2 1 j = J 1 j := h2.2.2
  have c2 : ∀ l, l < 6 → 0 ≤ J2 1 (130 + l) ∧ J2 1 (130 + l) ≤ 40 := fun l hl => by rw [w2 _ (by omega)]; exact hc l hl
  have z2 : ∀ k, INL J2 k → 1 ≤ J2 1 (141 + 6 * k) ∧ J2 1 (141 + 6 * k) ≤ 8 := fun k hk => by rw [w2 _ (by omega)]; exact gz k (inl_to (fun l hl => (w2 _ (by omega)).symm) hk)
  obtain ⟨k1, ⟨b1, b2, b3, b4⟩, k3⟩ := h2
  refine par_zb (xv_parts0 (fu := fu) J2 (lwx_same hw (fun j hj => w2 j (by omega))) z2 (pts_mv gpt (fun j a b => w2 j (by omega))) c2 b3 ⟨k1.1.1, b1, b2⟩) (fun _ J3 g => par_zr ?_)
  rcases g with ⟨_, g⟩ | ⟨k, p1, p2, _, p4, g⟩
  · have := gmv_mv (J0 := J) ⟨k1, ⟨b1, b2, b3, b4⟩, k3⟩ g
    exact ⟨this.1, this.2.2⟩
  · have p2' := p2
    unfold pF at p2'
    obtain ⟨q1, _, ⟨_, q4, q5⟩, _⟩ := p2'
    have := gmv_sit (J0 := J) (k := k) (z := pzF J2 k) (s := 0) ⟨k1, ⟨b1, b2, b3, b4⟩, k3⟩ ⟨p1, q1⟩ q4 q5 ⟨p4.1, p4.2.1⟩ g
    exact ⟨this.1, this.2.2⟩
end
