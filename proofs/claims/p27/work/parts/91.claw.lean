/-! the class's calls, for the law -/
def NZ (q : Nat) : Prop := q ≠ 0
def GI (I : IMem) : Prop := GC I ∧ (I 0 8 = 0 ∨ I 0 8 = 1)
theorem gi_of {I0 I : IMem} (h : GI I0) (hg : GC I) (hf : ∀ q, ¬ NZ q → I q = I0 q) : GI I := ⟨hg, by rw [hf 0 (fun z => z rfl)]; exact h.2⟩
theorem cl_state (fu : Nat) (a1 : Int) (I0 : IMem) (hfu : 5000000000 < fu) (h : GI I0) (qa1 : inr a1) : sat (f_S_state fu 0 a1 I0) (fun v I => inr v ∧ GI I) := by
  obtain ⟨v, I, e, qv, hI, _⟩ := ok_S_state fu 0 a1 I0 hfu h.1 rfl qa1
  exact ⟨v, I, e, qv, gi_of h hI (fr_S_state NZ fu 0 a1 I0 (by unfold NZ; omega) e)⟩
theorem cl_set (fu : Nat) (a1 a2 : Int) (I0 : IMem) (hfu : 5000000000 < fu) (h : GI I0) (qa1 : inr a1) (qa2 : inr a2) : sat (f_S_set fu 0 a1 a2 I0) (fun v I => inr v ∧ GI I) := by
  obtain ⟨v, I, e, qv, hI, _⟩ := ok_S_set fu 0 a1 a2 I0 hfu h.1 rfl qa1 qa2
  exact ⟨v, I, e, qv, gi_of h hI (fr_S_set NZ fu 0 a1 a2 I0 (by unfold NZ; omega) (by unfold NZ; omega) (by unfold NZ; omega) e)⟩
theorem cl_seen (fu : Nat) (a1 a2 : Int) (I0 : IMem) (hfu : 5000000000 < fu) (h : GI I0) (qa1 : inr a1) (qa2 : inr a2) : sat (f_S_seen fu 0 a1 a2 I0) (fun v I => inr v ∧ GI I) := by
  obtain ⟨v, I, e, qv, hI, _⟩ := ok_S_seen fu 0 a1 a2 I0 hfu h.1 rfl qa1 qa2
  exact ⟨v, I, e, qv, gi_of h hI (fr_S_seen NZ fu 0 a1 a2 I0 (by unfold NZ; omega) e)⟩
theorem cl_parts (fu : Nat) (a1 a2 : Int) (I0 : IMem) (hfu : 5000000000 < fu) (h : GI I0) (qa1 : inr a1) (qa2 : inr a2) : sat (f_S_parts fu 0 a1 a2 I0) (fun v I => inr v ∧ GI I) := by
  obtain ⟨v, I, e, qv, hI, _⟩ := ok_S_parts fu 0 a1 a2 I0 hfu h.1 rfl qa1 qa2
  exact ⟨v, I, e, qv, gi_of h hI (fr_S_parts NZ fu 0 a1 a2 I0 (by unfold NZ; omega) e)⟩
theorem cl_comer (fu : Nat) (a1 a2 a3 a4 a5 : Int) (I0 : IMem) (hfu : 5000000000 < fu) (h : GI I0) (qa1 : inr a1) (qa2 : inr a2) (qa3 : inr a3) (qa4 : inr a4) (qa5 : inr a5) : sat (f_S_comer fu 0 a1 a2 a3 a4 a5 I0) (fun v I => inr v ∧ GI I) := by
  obtain ⟨v, I, e, qv, hI, _⟩ := ok_S_comer fu 0 a1 a2 a3 a4 a5 I0 hfu h.1 rfl qa1 qa2 qa3 qa4 qa5
  exact ⟨v, I, e, qv, gi_of h hI (fr_S_comer NZ fu 0 a1 a2 a3 a4 a5 I0 (by unfold NZ; omega) e)⟩
theorem cl_feed (fu : Nat) (a1 a2 a3 a4 a5 : Int) (I0 : IMem) (hfu : 5000000000 < fu) (h : GI I0) (qa1 : inr a1) (qa2 : inr a2) (qa3 : inr a3) (qa4 : inr a4) (qa5 : inr a5) : sat (f_S_feed fu 0 a1 a2 a3 a4 a5 I0) (fun v I => inr v ∧ GI I) := by
  obtain ⟨v, I, e, qv, hI, _⟩ := ok_S_feed fu 0 a1 a2 a3 a4 a5 I0 hfu h.1 rfl qa1 qa2 qa3 qa4 qa5
  exact ⟨v, I, e, qv, gi_of h hI (fr_S_feed NZ fu 0 a1 a2 a3 a4 a5 I0 (by unfold NZ; omega) (by unfold NZ; omega) e)⟩
theorem cl_end (fu : Nat) (a1 : Int) (I0 : IMem) (hfu : 5000000000 < fu) (h : GI I0) (qa1 : inr a1) : sat (f_S_end fu 0 a1 I0) (fun v I => inr v ∧ GI I) := by
  obtain ⟨v, I, e, qv, hI, _⟩ := ok_S_end fu 0 a1 I0 hfu h.1 rfl qa1
  exact ⟨v, I, e, qv, gi_of h hI (fr_S_end NZ fu 0 a1 I0 (by unfold NZ; omega) e)⟩
theorem cl_text (fu : Nat) (a1 : Int) (I0 : IMem) (hfu : 5000000000 < fu) (h : GI I0) (qa1 : inr a1) : sat (f_S_text fu 0 a1 I0) (fun v I => inr v ∧ GI I) := by
  obtain ⟨v, I, e, qv, hI, _⟩ := ok_S_text fu 0 a1 I0 hfu h.1 rfl qa1
  exact ⟨v, I, e, qv, gi_of h hI (fr_S_text NZ fu 0 a1 I0 (fun q _ _ => by unfold NZ; omega) (by unfold NZ; omega) (by unfold NZ; omega) (by unfold NZ; omega) (by unfold NZ; omega) (by unfold NZ; omega) (by unfold NZ; omega) (by unfold NZ; omega) (by unfold NZ; omega) e)⟩
theorem cl_fault (fu : Nat) (a1 : Int) (I0 : IMem) (hfu : 5000000000 < fu) (h : GI I0) (qa1 : inr a1) : sat (f_S_fault fu 0 a1 I0) (fun v I => inr v ∧ GI I) := by
  obtain ⟨v, I, e, qv, hI, _⟩ := ok_S_fault fu 0 a1 I0 hfu h.1 rfl qa1
  exact ⟨v, I, e, qv, gi_of h hI (fr_S_fault NZ fu 0 a1 I0  e)⟩
theorem cl_come (fu : Nat) (a1 a2 a3 : Int) (I0 : IMem) (hfu : 5000000000 < fu) (h : GI I0) (qa1 : inr a1) (qa2 : inr a2) (qa3 : inr a3) : sat (f_S_come fu 0 a1 a2 a3 I0) (fun v I => inr v ∧ GI I) := by
  obtain ⟨v, I, e, qv, hI, _⟩ := ok_S_come fu 0 a1 a2 a3 I0 hfu h.1 rfl qa1 qa2 qa3
  exact ⟨v, I, e, qv, gi_of h hI (fr_S_come NZ fu 0 a1 a2 a3 I0 (by unfold NZ; omega) (by unfold NZ; omega) (by unfold NZ; omega) (by unfold NZ; omega) (by unfold NZ; omega) (by unfold NZ; omega) (by unfold NZ; omega) e)⟩
theorem cl_group (fu : Nat) (a1 a2 a3 : Int) (I0 : IMem) (hfu : 5000000000 < fu) (h : GI I0) (qa1 : inr a1) (qa2 : inr a2) (qa3 : inr a3) : sat (f_S_group fu 0 a1 a2 a3 I0) (fun v I => inr v ∧ GI I) := by
  obtain ⟨v, I, e, qv, hI, _⟩ := ok_S_group fu 0 a1 a2 a3 I0 hfu h.1 rfl qa1 qa2 qa3
  exact ⟨v, I, e, qv, gi_of h hI (fr_S_group NZ fu 0 a1 a2 a3 I0 (fun q _ _ => by unfold NZ; omega) (by unfold NZ; omega) e)⟩
theorem cl_line (fu : Nat) (a1 a2 : Int) (I0 : IMem) (hfu : 5000000000 < fu) (h : GI I0) (qa1 : inr a1) (qa2 : inr a2) : sat (f_S_line fu 0 a1 a2 I0) (fun v I => inr v ∧ GI I) := by
  obtain ⟨v, I, e, qv, hI, _⟩ := ok_S_line fu 0 a1 a2 I0 hfu h.1 rfl qa1 qa2
  exact ⟨v, I, e, qv, gi_of h hI (fr_S_line NZ fu 0 a1 a2 I0  e)⟩
theorem cl_pick (fu : Nat) (a1 a2 : Int) (I0 : IMem) (hfu : 5000000000 < fu) (h : GI I0) (qa1 : inr a1) (qa2 : inr a2) : sat (f_S_pick fu 0 a1 a2 I0) (fun v I => inr v ∧ GI I) := by
  obtain ⟨v, I, e, qv, hI, _⟩ := ok_S_pick fu 0 a1 a2 I0 hfu h.1 rfl qa1 qa2
  exact ⟨v, I, e, qv, gi_of h hI (fr_S_pick NZ fu 0 a1 a2 I0 (by unfold NZ; omega) (by unfold NZ; omega) (by unfold NZ; omega) (by unfold NZ; omega) e)⟩
theorem cl_send (fu : Nat) (I0 : IMem) (hfu : 5000000000 < fu) (h : GI I0)  : sat (f_S_send fu 0 I0) (fun v I => inr v ∧ GI I) := by
  obtain ⟨v, I, e, qv, hI, _⟩ := ok_S_send fu 0  I0 hfu h.1 rfl 
  exact ⟨v, I, e, qv, gi_of h hI (fr_S_send NZ fu 0  I0 (by unfold NZ; omega) (by unfold NZ; omega) (by unfold NZ; omega) (by unfold NZ; omega) (by unfold NZ; omega) (by unfold NZ; omega) (by unfold NZ; omega) (by unfold NZ; omega) e)⟩
theorem cl_chair (fu : Nat) (I0 : IMem) (hfu : 5000000000 < fu) (h : GI I0)  : sat (f_S_chair fu 0 I0) (fun v I => inr v ∧ GI I) := by
  obtain ⟨v, I, e, qv, hI, _⟩ := ok_S_chair fu 0  I0 hfu h.1 rfl 
  exact ⟨v, I, e, qv, gi_of h hI (fr_S_chair NZ fu 0  I0 (fun q _ _ => by unfold NZ; omega) (by unfold NZ; omega) (by unfold NZ; omega) (by unfold NZ; omega) (by unfold NZ; omega) (by unfold NZ; omega) (by unfold NZ; omega) (by unfold NZ; omega) (by unfold NZ; omega) (by unfold NZ; omega) (by unfold NZ; omega) (by unfold NZ; omega) (by unfold NZ; omega) (by unfold NZ; omega) (by unfold NZ; omega) (by unfold NZ; omega) (by unfold NZ; omega) e)⟩
theorem cl_run (fu : Nat) (a1 : Int) (I0 : IMem) (hfu : 5000000000 < fu) (h : GI I0) (qa1 : inr a1) : sat (f_S_run fu 0 a1 I0) (fun v I => inr v ∧ GI I) := by
  obtain ⟨v, I, e, qv, hI, _⟩ := ok_S_run fu 0 a1 I0 hfu h.1 rfl qa1
  exact ⟨v, I, e, qv, gi_of h hI (fr_S_run NZ fu 0 a1 I0 (fun q _ _ => by unfold NZ; omega) (by unfold NZ; omega) (by unfold NZ; omega) (by unfold NZ; omega) (by unfold NZ; omega) (by unfold NZ; omega) (by unfold NZ; omega) (by unfold NZ; omega) (by unfold NZ; omega) (by unfold NZ; omega) (by unfold NZ; omega) (by unfold NZ; omega) (by unfold NZ; omega) (by unfold NZ; omega) (by unfold NZ; omega) (by unfold NZ; omega) (by unfold NZ; omega) (by unfold NZ; omega) e)⟩
theorem cl_last (fu : Nat) (a1 : Int) (I0 : IMem) (hfu : 5000000000 < fu) (h : GI I0) (qa1 : inr a1) : sat (f_S_last fu 0 a1 I0) (fun v I => inr v ∧ GI I) := by
  obtain ⟨v, I, e, qv, hI, _⟩ := ok_S_last fu 0 a1 I0 hfu h.1 rfl qa1
  exact ⟨v, I, e, qv, gi_of h hI (fr_S_last NZ fu 0 a1 I0  e)⟩
theorem cl_count (fu : Nat) (a1 : Int) (I0 : IMem) (hfu : 5000000000 < fu) (h : GI I0) (qa1 : inr a1) : sat (f_S_count fu 0 a1 I0) (fun v I => inr v ∧ GI I) := by
  obtain ⟨v, I, e, qv, hI, _⟩ := ok_S_count fu 0 a1 I0 hfu h.1 rfl qa1
  exact ⟨v, I, e, qv, gi_of h hI (fr_S_count NZ fu 0 a1 I0  e)⟩
theorem cl_best (fu : Nat) (a1 : Int) (I0 : IMem) (hfu : 5000000000 < fu) (h : GI I0) (qa1 : inr a1) : sat (f_S_best fu 0 a1 I0) (fun v I => inr v ∧ GI I) := by
  obtain ⟨v, I, e, qv, hI, _⟩ := ok_S_best fu 0 a1 I0 hfu h.1 rfl qa1
  exact ⟨v, I, e, qv, gi_of h hI (fr_S_best NZ fu 0 a1 I0 (by unfold NZ; omega) (by unfold NZ; omega) (by unfold NZ; omega) (by unfold NZ; omega) (by unfold NZ; omega) (by unfold NZ; omega) e)⟩
theorem cl_look (fu : Nat) (a1 : Int) (I0 : IMem) (hfu : 5000000000 < fu) (h : GI I0) (qa1 : inr a1) : sat (f_S_look fu 0 a1 I0) (fun v I => inr v ∧ GI I) := by
  obtain ⟨v, I, e, qv, hI, _⟩ := ok_S_look fu 0 a1 I0 hfu h.1 rfl qa1
  exact ⟨v, I, e, qv, gi_of h hI (fr_S_look NZ fu 0 a1 I0 (by unfold NZ; omega) (by unfold NZ; omega) (by unfold NZ; omega) (by unfold NZ; omega) (by unfold NZ; omega) (by unfold NZ; omega) e)⟩
theorem cl_heap (fu : Nat) (a1 a2 : Int) (I0 : IMem) (hfu : 5000000000 < fu) (h : GI I0) (qa1 : inr a1) (qa2 : inr a2) : sat (f_S_heap fu 0 a1 a2 I0) (fun v I => inr v ∧ GI I) := by
  obtain ⟨v, I, e, qv, hI, _⟩ := ok_S_heap fu 0 a1 a2 I0 hfu h.1 rfl qa1 qa2
  exact ⟨v, I, e, qv, gi_of h hI (fr_S_heap NZ fu 0 a1 a2 I0 (by unfold NZ; omega) e)⟩
theorem cl_fewest (fu : Nat) (a1 : Int) (I0 : IMem) (hfu : 5000000000 < fu) (h : GI I0) (qa1 : inr a1) : sat (f_S_fewest fu 0 a1 I0) (fun v I => inr v ∧ GI I) := by
  obtain ⟨v, I, e, qv, hI, _⟩ := ok_S_fewest fu 0 a1 I0 hfu h.1 rfl qa1
  exact ⟨v, I, e, qv, gi_of h hI (fr_S_fewest NZ fu 0 a1 I0 (by unfold NZ; omega) (by unfold NZ; omega) (by unfold NZ; omega) (by unfold NZ; omega) e)⟩
theorem cl_thought (fu : Nat) (a1 a2 a3 a4 a5 : Int) (I0 : IMem) (hfu : 5000000000 < fu) (h : GI I0) (qa1 : inr a1) (qa2 : inr a2) (qa3 : inr a3) (qa4 : inr a4) (qa5 : inr a5) : sat (f_S_thought fu 0 a1 a2 a3 a4 a5 I0) (fun v I => inr v ∧ GI I) := by
  obtain ⟨v, I, e, qv, hI, _⟩ := ok_S_thought fu 0 a1 a2 a3 a4 a5 I0 hfu h.1 rfl qa1 qa2 qa3 qa4 qa5
  exact ⟨v, I, e, qv, gi_of h hI (fr_S_thought NZ fu 0 a1 a2 a3 a4 a5 I0 (fun q _ _ => by unfold NZ; omega) (by unfold NZ; omega) (by unfold NZ; omega) (by unfold NZ; omega) (by unfold NZ; omega) (by unfold NZ; omega) (by unfold NZ; omega) (by unfold NZ; omega) (by unfold NZ; omega) (by unfold NZ; omega) (by unfold NZ; omega) (by unfold NZ; omega) (by unfold NZ; omega) (by unfold NZ; omega) (by unfold NZ; omega) (by unfold NZ; omega) (by unfold NZ; omega) (by unfold NZ; omega) (by unfold NZ; omega) (by unfold NZ; omega) (by unfold NZ; omega) e)⟩
theorem cl_price (fu : Nat) (a1 a2 : Int) (I0 : IMem) (hfu : 5000000000 < fu) (h : GI I0) (qa1 : inr a1) (qa2 : inr a2) : sat (f_S_price fu 0 a1 a2 I0) (fun v I => inr v ∧ GI I) := by
  obtain ⟨v, I, e, qv, hI, _⟩ := ok_S_price fu 0 a1 a2 I0 hfu h.1 rfl qa1 qa2
  exact ⟨v, I, e, qv, gi_of h hI (fr_S_price NZ fu 0 a1 a2 I0 (fun q _ _ => by unfold NZ; omega) (by unfold NZ; omega) (by unfold NZ; omega) (by unfold NZ; omega) (by unfold NZ; omega) (by unfold NZ; omega) (by unfold NZ; omega) (by unfold NZ; omega) (by unfold NZ; omega) (by unfold NZ; omega) (by unfold NZ; omega) (by unfold NZ; omega) (by unfold NZ; omega) (by unfold NZ; omega) (by unfold NZ; omega) (by unfold NZ; omega) (by unfold NZ; omega) (by unfold NZ; omega) (by unfold NZ; omega) (by unfold NZ; omega) (by unfold NZ; omega) e)⟩
theorem cl_till (fu : Nat) (a1 a2 : Int) (I0 : IMem) (hfu : 5000000000 < fu) (h : GI I0) (qa1 : inr a1) (qa2 : inr a2) : sat (f_S_till fu 0 a1 a2 I0) (fun v I => inr v ∧ GI I) := by
  obtain ⟨v, I, e, qv, hI, _⟩ := ok_S_till fu 0 a1 a2 I0 hfu h.1 rfl qa1 qa2
  exact ⟨v, I, e, qv, gi_of h hI (fr_S_till NZ fu 0 a1 a2 I0 (fun q _ _ => by unfold NZ; omega) (by unfold NZ; omega) (by unfold NZ; omega) (by unfold NZ; omega) (by unfold NZ; omega) (by unfold NZ; omega) (by unfold NZ; omega) (by unfold NZ; omega) (by unfold NZ; omega) (by unfold NZ; omega) (by unfold NZ; omega) (by unfold NZ; omega) (by unfold NZ; omega) (by unfold NZ; omega) (by unfold NZ; omega) (by unfold NZ; omega) (by unfold NZ; omega) (by unfold NZ; omega) (by unfold NZ; omega) (by unfold NZ; omega) e)⟩
theorem cl_together (fu : Nat) (a1 a2 a3 a4 a5 : Int) (I0 : IMem) (hfu : 5000000000 < fu) (h : GI I0) (qa1 : inr a1) (qa2 : inr a2) (qa3 : inr a3) (qa4 : inr a4) (qa5 : inr a5) : sat (f_S_together fu 0 a1 a2 a3 a4 a5 I0) (fun v I => inr v ∧ GI I) := by
  obtain ⟨v, I, e, qv, hI, _⟩ := ok_S_together fu 0 a1 a2 a3 a4 a5 I0 hfu h.1 rfl qa1 qa2 qa3 qa4 qa5
  exact ⟨v, I, e, qv, gi_of h hI (fr_S_together NZ fu 0 a1 a2 a3 a4 a5 I0 (fun q _ _ => by unfold NZ; omega) (by unfold NZ; omega) (by unfold NZ; omega) (by unfold NZ; omega) (by unfold NZ; omega) (by unfold NZ; omega) (by unfold NZ; omega) (by unfold NZ; omega) (by unfold NZ; omega) (by unfold NZ; omega) (by unfold NZ; omega) (by unfold NZ; omega) (by unfold NZ; omega) (by unfold NZ; omega) (by unfold NZ; omega) (by unfold NZ; omega) (by unfold NZ; omega) (by unfold NZ; omega) (by unfold NZ; omega) (by unfold NZ; omega) e)⟩
theorem cl_needed (fu : Nat) (a1 : Int) (I0 : IMem) (hfu : 5000000000 < fu) (h : GI I0) (qa1 : inr a1) : sat (f_S_needed fu 0 a1 I0) (fun v I => inr v ∧ GI I) := by
  obtain ⟨v, I, e, qv, hI, _⟩ := ok_S_needed fu 0 a1 I0 hfu h.1 rfl qa1
  exact ⟨v, I, e, qv, gi_of h hI (fr_S_needed NZ fu 0 a1 I0 (fun q _ _ => by unfold NZ; omega) (by unfold NZ; omega) (by unfold NZ; omega) (by unfold NZ; omega) (by unfold NZ; omega) (by unfold NZ; omega) (by unfold NZ; omega) (by unfold NZ; omega) (by unfold NZ; omega) (by unfold NZ; omega) (by unfold NZ; omega) (by unfold NZ; omega) (by unfold NZ; omega) (by unfold NZ; omega) (by unfold NZ; omega) (by unfold NZ; omega) (by unfold NZ; omega) (by unfold NZ; omega) (by unfold NZ; omega) (by unfold NZ; omega) e)⟩
theorem cl_past (fu : Nat) (a1 a2 : Int) (I0 : IMem) (hfu : 5000000000 < fu) (h : GI I0) (qa1 : inr a1) (qa2 : inr a2) : sat (f_S_past fu 0 a1 a2 I0) (fun v I => inr v ∧ GI I) := by
  obtain ⟨v, I, e, qv, hI, _⟩ := ok_S_past fu 0 a1 a2 I0 hfu h.1 rfl qa1 qa2
  exact ⟨v, I, e, qv, gi_of h hI (fr_S_past NZ fu 0 a1 a2 I0  e)⟩
theorem cl_which (fu : Nat) (a1 a2 : Int) (I0 : IMem) (hfu : 5000000000 < fu) (h : GI I0) (qa1 : inr a1) (qa2 : inr a2) : sat (f_S_which fu 0 a1 a2 I0) (fun v I => inr v ∧ GI I) := by
  obtain ⟨v, I, e, qv, hI, _⟩ := ok_S_which fu 0 a1 a2 I0 hfu h.1 rfl qa1 qa2
  exact ⟨v, I, e, qv, gi_of h hI (fr_S_which NZ fu 0 a1 a2 I0 (fun q _ _ => by unfold NZ; omega) (by unfold NZ; omega) (by unfold NZ; omega) (by unfold NZ; omega) (by unfold NZ; omega) (by unfold NZ; omega) (by unfold NZ; omega) (by unfold NZ; omega) (by unfold NZ; omega) (by unfold NZ; omega) (by unfold NZ; omega) (by unfold NZ; omega) (by unfold NZ; omega) (by unfold NZ; omega) (by unfold NZ; omega) (by unfold NZ; omega) (by unfold NZ; omega) (by unfold NZ; omega) (by unfold NZ; omega) (by unfold NZ; omega) (by unfold NZ; omega) (by unfold NZ; omega) e)⟩
theorem cl_folded (fu : Nat) (a1 a2 a3 : Int) (I0 : IMem) (hfu : 5000000000 < fu) (h : GI I0) (qa1 : inr a1) (qa2 : inr a2) (qa3 : inr a3) : sat (f_S_folded fu 0 a1 a2 a3 I0) (fun v I => inr v ∧ GI I) := by
  obtain ⟨v, I, e, qv, hI, _⟩ := ok_S_folded fu 0 a1 a2 a3 I0 hfu h.1 rfl qa1 qa2 qa3
  exact ⟨v, I, e, qv, gi_of h hI (fr_S_folded NZ fu 0 a1 a2 a3 I0  e)⟩
theorem cl_image (fu : Nat) (a1 : Int) (I0 : IMem) (hfu : 5000000000 < fu) (h : GI I0) (qa1 : inr a1) : sat (f_S_image fu 0 a1 I0) (fun v I => inr v ∧ GI I) := by
  obtain ⟨v, I, e, qv, hI, _⟩ := ok_S_image fu 0 a1 I0 hfu h.1 rfl qa1 h.2
  refine ⟨v, I, e, qv, hI, ?_⟩
  have hf := e
  unfold f_S_image at hf
  rcases of_ite hf with ⟨_, hf⟩ | ⟨_, hf⟩
  · rcases of_ite hf with ⟨_, hf⟩ | ⟨_, hf⟩
    · obtain ⟨g, hf⟩ := of_zg hf
      cases hf; exact g
    · obtain ⟨u, I2, c2, hf⟩ := of_zb hf
      obtain ⟨u5, I5, c4, hf⟩ := of_zb hf
      obtain ⟨g, hf⟩ := of_zg hf
      cases hf; exact g
  · obtain ⟨u8, I8, c7, hf⟩ := of_zb hf
    have hf2 : (fun I10 : IMem => zg (I10 0 8 = 0 ∨ I10 0 8 = 1) (zr (I10 0 8) I10)) (up I8 0 8 1) = some (v, I) := hf
    obtain ⟨g, hf2⟩ := of_zg hf2
    cases hf2; exact g
theorem cl_told (fu : Nat) (a1 : Int) (I0 : IMem) (hfu : 5000000000 < fu) (h : GI I0) (qa1 : inr a1) : sat (f_S_told fu 0 a1 I0) (fun v I => inr v ∧ GI I) := by
  obtain ⟨v, I, e, qv, hI, _⟩ := ok_S_told fu 0 a1 I0 hfu h.1 rfl qa1
  exact ⟨v, I, e, qv, gi_of h hI (fr_S_told NZ fu 0 a1 I0  e)⟩
