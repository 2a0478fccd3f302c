/-! both memories, call by call: the packer's ways too -/
def RK (I J : IMem) : Prop := RJ I J ∧ fwK I
def NKQ (q : Nat) : Prop := q < 160 ∨ 165 < q
theorem fwK_fr {I I2 : IMem} (h : fwK I) (w : ∀ q, ¬ NKQ q → I2 q = I q) : fwK I2 := fwK_mv h (fun j => congrFun (w 161 (by unfold NKQ; omega)) j) (fun j => congrFun (w 162 (by unfold NKQ; omega)) j) (congrFun (w 160 (by unfold NKQ; omega)) 2) (congrFun (w 164 (by unfold NKQ; omega)) 0)
theorem jk_state (fu n : Nat) (a1 : Int) {I J : IMem} {r r2 : Int × IMem} (hfu : 5000000000 < fu) (hC : GI I) (hM : XC 0 n J) (hi : n < 512) (qa1 : inr a1) (e1 : f_S_state fu 0 a1 I = some r) (e2 : f_X_state fu 0 a1 J = some r2) (h : RK I J) : RK r.2 r2.2 ∧ r.1 = r2.1 := by
  have a := jl_state fu n a1 hfu hC hM hi qa1 e1 e2 h.1
  exact ⟨⟨a.1, fwK_fr h.2 (fr_S_state NKQ fu 0 a1 I (by unfold NKQ; omega) e1)⟩, a.2⟩
theorem jk_set (fu n : Nat) (a1 a2 : Int) {I J : IMem} {r r2 : Int × IMem} (hfu : 5000000000 < fu) (hC : GI I) (hM : XC 0 n J) (hi : n < 512) (qa1 : inr a1) (qa2 : inr a2) (e1 : f_S_set fu 0 a1 a2 I = some r) (e2 : f_X_set fu 0 a1 a2 J = some r2) (h : RK I J) : RK r.2 r2.2 ∧ r.1 = r2.1 := by
  have a := jl_set fu n a1 a2 hfu hC hM hi qa1 qa2 e1 e2 h.1
  exact ⟨⟨a.1, fwK_fr h.2 (fr_S_set NKQ fu 0 a1 a2 I (by unfold NKQ; omega) (by unfold NKQ; omega) (by unfold NKQ; omega) e1)⟩, a.2⟩
theorem jk_seen (fu n : Nat) (a1 a2 : Int) {I J : IMem} {r r2 : Int × IMem} (hfu : 5000000000 < fu) (hC : GI I) (hM : XC 0 n J) (hi : n < 512) (qa1 : inr a1) (qa2 : inr a2) (e1 : f_S_seen fu 0 a1 a2 I = some r) (e2 : f_X_seen fu 0 a1 a2 J = some r2) (h : RK I J) : RK r.2 r2.2 ∧ r.1 = r2.1 := by
  have a := jl_seen fu n a1 a2 hfu hC hM hi qa1 qa2 e1 e2 h.1
  exact ⟨⟨a.1, fwK_fr h.2 (fr_S_seen NKQ fu 0 a1 a2 I (by unfold NKQ; omega) e1)⟩, a.2⟩
theorem jk_parts (fu n : Nat) (a1 a2 : Int) {I J : IMem} {r r2 : Int × IMem} (hfu : 5000000000 < fu) (hC : GI I) (hM : XC 0 n J) (hi : n < 512) (qa1 : inr a1) (qa2 : inr a2) (e1 : f_S_parts fu 0 a1 a2 I = some r) (e2 : f_X_parts fu 0 a1 a2 J = some r2) (h : RK I J) : RK r.2 r2.2 ∧ r.1 = r2.1 := by
  have a := jl_parts fu n a1 a2 hfu hC hM hi qa1 qa2 e1 e2 h.1
  exact ⟨⟨a.1, fwK_fr h.2 (fr_S_parts NKQ fu 0 a1 a2 I (by unfold NKQ; omega) e1)⟩, a.2⟩
theorem jk_comer (fu n : Nat) (a1 a2 a3 a4 a5 : Int) {I J : IMem} {r r2 : Int × IMem} (hfu : 5000000000 < fu) (hC : GI I) (hM : XC 0 n J) (hi : n < 512) (qa1 : inr a1) (qa2 : inr a2) (qa3 : inr a3) (qa4 : inr a4) (qa5 : inr a5) (e1 : f_S_comer fu 0 a1 a2 a3 a4 a5 I = some r) (e2 : f_X_comer fu 0 a1 a2 a3 a4 a5 J = some r2) (h : RK I J) : RK r.2 r2.2 ∧ r.1 = r2.1 := by
  have a := jl_comer fu n a1 a2 a3 a4 a5 hfu hC hM hi qa1 qa2 qa3 qa4 qa5 e1 e2 h.1
  exact ⟨⟨a.1, fwK_fr h.2 (fr_S_comer NKQ fu 0 a1 a2 a3 a4 a5 I (by unfold NKQ; omega) e1)⟩, a.2⟩
theorem jk_feed (fu n : Nat) (a1 a2 a3 a4 a5 : Int) {I J : IMem} {r r2 : Int × IMem} (hfu : 5000000000 < fu) (hC : GI I) (hM : XC 0 n J) (hi : n < 512) (qa1 : inr a1) (qa2 : inr a2) (qa3 : inr a3) (qa4 : inr a4) (qa5 : inr a5) (e1 : f_S_feed fu 0 a1 a2 a3 a4 a5 I = some r) (e2 : f_X_feed fu 0 a1 a2 a3 a4 a5 J = some r2) (h : RK I J) : RK r.2 r2.2 := by
  have a := jl_feed fu n a1 a2 a3 a4 a5 hfu hC hM hi qa1 qa2 qa3 qa4 qa5 e1 e2 h.1
  exact ⟨a, fwK_fr h.2 (fr_S_feed NKQ fu 0 a1 a2 a3 a4 a5 I (by unfold NKQ; omega) (by unfold NKQ; omega) e1)⟩
theorem jk_end (fu n : Nat) (a1 : Int) {I J : IMem} {r r2 : Int × IMem} (hfu : 5000000000 < fu) (hC : GI I) (hM : XC 0 n J) (hi : n < 512) (qa1 : inr a1) (e1 : f_S_end fu 0 a1 I = some r) (e2 : f_X_end fu 0 a1 J = some r2) (h : RK I J) : RK r.2 r2.2 := by
  have a := jl_end fu n a1 hfu hC hM hi qa1 e1 e2 h.1
  exact ⟨a, fwK_fr h.2 (fr_S_end NKQ fu 0 a1 I (by unfold NKQ; omega) e1)⟩
theorem jk_text (fu n : Nat) (a1 : Int) {I J : IMem} {r r2 : Int × IMem} (hfu : 5000000000 < fu) (hC : GI I) (hM : XC 0 n J) (hi : n < 512) (qa1 : inr a1) (e1 : f_S_text fu 0 a1 I = some r) (e2 : f_X_text fu 0 a1 J = some r2) (h : RK I J) : RK r.2 r2.2 ∧ r.1 = r2.1 := by
  have a := jl_text fu n a1 hfu hC hM hi qa1 e1 e2 h.1
  exact ⟨⟨a.1, fwK_fr h.2 (fr_S_text NKQ fu 0 a1 I (fun q _ _ => by unfold NKQ; omega) (by unfold NKQ; omega) (by unfold NKQ; omega) (by unfold NKQ; omega) (by unfold NKQ; omega) (by unfold NKQ; omega) (by unfold NKQ; omega) (by unfold NKQ; omega) (by unfold NKQ; omega) e1)⟩, a.2⟩
theorem jk_fault (fu n : Nat) (a1 : Int) {I J : IMem} {r r2 : Int × IMem} (hfu : 5000000000 < fu) (hC : GI I) (hM : XC 0 n J) (hi : n < 512) (qa1 : inr a1) (e1 : f_S_fault fu 0 a1 I = some r) (e2 : f_X_fault fu 0 a1 J = some r2) (h : RK I J) : RK r.2 r2.2 ∧ r.1 = r2.1 := by
  have a := jl_fault fu n a1 hfu hC hM hi qa1 e1 e2 h.1
  exact ⟨⟨a.1, fwK_fr h.2 (fr_S_fault NKQ fu 0 a1 I  e1)⟩, a.2⟩
theorem jk_come (fu n : Nat) (a1 a2 a3 : Int) {I J : IMem} {r r2 : Int × IMem} (hfu : 5000000000 < fu) (hC : GI I) (hM : XC 0 n J) (hi : n < 512) (qa1 : inr a1) (qa2 : inr a2) (qa3 : inr a3) (e1 : f_S_come fu 0 a1 a2 a3 I = some r) (e2 : f_X_come fu 0 a1 a2 a3 J = some r2) (h : RK I J) : RK r.2 r2.2 ∧ r.1 = r2.1 := by
  have a := jl_come fu n a1 a2 a3 hfu hC hM hi qa1 qa2 qa3 e1 e2 h.1
  exact ⟨⟨a.1, fwK_fr h.2 (fr_S_come NKQ fu 0 a1 a2 a3 I (by unfold NKQ; omega) (by unfold NKQ; omega) (by unfold NKQ; omega) (by unfold NKQ; omega) (by unfold NKQ; omega) (by unfold NKQ; omega) (by unfold NKQ; omega) e1)⟩, a.2⟩
theorem jk_group (fu n : Nat) (a1 a2 a3 : Int) {I J : IMem} {r r2 : Int × IMem} (hfu : 5000000000 < fu) (hC : GI I) (hM : XC 0 n J) (hi : n < 512) (qa1 : inr a1) (qa2 : inr a2) (qa3 : inr a3) (e1 : f_S_group fu 0 a1 a2 a3 I = some r) (e2 : f_X_group fu 0 a1 a2 a3 J = some r2) (h : RK I J) : RK r.2 r2.2 ∧ r.1 = r2.1 := by
  have a := jl_group fu n a1 a2 a3 hfu hC hM hi qa1 qa2 qa3 e1 e2 h.1
  exact ⟨⟨a.1, fwK_fr h.2 (fr_S_group NKQ fu 0 a1 a2 a3 I (fun q _ _ => by unfold NKQ; omega) (by unfold NKQ; omega) e1)⟩, a.2⟩
theorem jk_line (fu n : Nat) (a1 a2 : Int) {I J : IMem} {r r2 : Int × IMem} (hfu : 5000000000 < fu) (hC : GI I) (hM : XC 0 n J) (hi : n < 512) (qa1 : inr a1) (qa2 : inr a2) (e1 : f_S_line fu 0 a1 a2 I = some r) (e2 : f_X_line fu 0 a1 a2 J = some r2) (h : RK I J) : RK r.2 r2.2 ∧ r.1 = r2.1 := by
  have a := jl_line fu n a1 a2 hfu hC hM hi qa1 qa2 e1 e2 h.1
  exact ⟨⟨a.1, fwK_fr h.2 (fr_S_line NKQ fu 0 a1 a2 I  e1)⟩, a.2⟩
theorem jk_pick (fu n : Nat) (a1 a2 : Int) {I J : IMem} {r r2 : Int × IMem} (hfu : 5000000000 < fu) (hC : GI I) (hM : XC 0 n J) (hi : n < 512) (qa1 : inr a1) (qa2 : inr a2) (e1 : f_S_pick fu 0 a1 a2 I = some r) (e2 : f_X_pick fu 0 a1 a2 J = some r2) (h : RK I J) : RK r.2 r2.2 ∧ r.1 = r2.1 := by
  have a := jl_pick fu n a1 a2 hfu hC hM hi qa1 qa2 e1 e2 h.1
  exact ⟨⟨a.1, fwK_fr h.2 (fr_S_pick NKQ fu 0 a1 a2 I (by unfold NKQ; omega) (by unfold NKQ; omega) (by unfold NKQ; omega) (by unfold NKQ; omega) e1)⟩, a.2⟩
theorem jk_send (fu n : Nat) {I J : IMem} {r r2 : Int × IMem} (hfu : 5000000000 < fu) (hC : GI I) (hM : XC 0 n J) (hi : n < 512) (e1 : f_S_send fu 0 I = some r) (e2 : f_X_send fu 0 J = some r2) (h : RK I J) : RK r.2 r2.2 ∧ r.1 = r2.1 := by
  have a := jl_send fu n  hfu hC hM hi  e1 e2 h.1
  exact ⟨⟨a.1, fwK_fr h.2 (fr_S_send NKQ fu 0 I (by unfold NKQ; omega) (by unfold NKQ; omega) (by unfold NKQ; omega) (by unfold NKQ; omega) (by unfold NKQ; omega) (by unfold NKQ; omega) (by unfold NKQ; omega) (by unfold NKQ; omega) e1)⟩, a.2⟩
theorem jk_chair (fu n : Nat) {I J : IMem} {r r2 : Int × IMem} (hfu : 5000000000 < fu) (hC : GI I) (hM : XC 0 n J) (hi : n < 512) (e1 : f_S_chair fu 0 I = some r) (e2 : f_X_chair fu 0 J = some r2) (h : RK I J) : RK r.2 r2.2 ∧ r.1 = r2.1 := by
  have a := jl_chair fu n  hfu hC hM hi  e1 e2 h.1
  exact ⟨⟨a.1, fwK_fr h.2 (fr_S_chair NKQ fu 0 I (fun q _ _ => by unfold NKQ; omega) (by unfold NKQ; omega) (by unfold NKQ; omega) (by unfold NKQ; omega) (by unfold NKQ; omega) (by unfold NKQ; omega) (by unfold NKQ; omega) (by unfold NKQ; omega) (by unfold NKQ; omega) (by unfold NKQ; omega) (by unfold NKQ; omega) (by unfold NKQ; omega) (by unfold NKQ; omega) (by unfold NKQ; omega) (by unfold NKQ; omega) (by unfold NKQ; omega) (by unfold NKQ; omega) e1)⟩, a.2⟩
theorem jk_run (fu n : Nat) (a1 : Int) {I J : IMem} {r r2 : Int × IMem} (hfu : 5000000000 < fu) (hC : GI I) (hM : XC 0 n J) (hi : n < 512) (qa1 : inr a1) (e1 : f_S_run fu 0 a1 I = some r) (e2 : f_X_run fu 0 a1 J = some r2) (h : RK I J) : RK r.2 r2.2 ∧ r.1 = r2.1 := by
  have a := jl_run fu n a1 hfu hC hM hi qa1 e1 e2 h.1
  exact ⟨⟨a.1, fwK_fr h.2 (fr_S_run NKQ fu 0 a1 I (fun q _ _ => by unfold NKQ; omega) (by unfold NKQ; omega) (by unfold NKQ; omega) (by unfold NKQ; omega) (by unfold NKQ; omega) (by unfold NKQ; omega) (by unfold NKQ; omega) (by unfold NKQ; omega) (by unfold NKQ; omega) (by unfold NKQ; omega) (by unfold NKQ; omega) (by unfold NKQ; omega) (by unfold NKQ; omega) (by unfold NKQ; omega) (by unfold NKQ; omega) (by unfold NKQ; omega) (by unfold NKQ; omega) (by unfold NKQ; omega) e1)⟩, a.2⟩
theorem jk_last (fu n : Nat) (a1 : Int) {I J : IMem} {r r2 : Int × IMem} (hfu : 5000000000 < fu) (hC : GI I) (hM : XC 0 n J) (hi : n < 512) (qa1 : inr a1) (e1 : f_S_last fu 0 a1 I = some r) (e2 : f_X_last fu 0 a1 J = some r2) (h : RK I J) : RK r.2 r2.2 ∧ r.1 = r2.1 := by
  have a := jl_last fu n a1 hfu hC hM hi qa1 e1 e2 h.1
  exact ⟨⟨a.1, fwK_fr h.2 (fr_S_last NKQ fu 0 a1 I  e1)⟩, a.2⟩
theorem jk_count (fu n : Nat) (a1 : Int) {I J : IMem} {r r2 : Int × IMem} (hfu : 5000000000 < fu) (hC : GI I) (hM : XC 0 n J) (hi : n < 512) (qa1 : inr a1) (e1 : f_S_count fu 0 a1 I = some r) (e2 : f_X_count fu 0 a1 J = some r2) (h : RK I J) : RK r.2 r2.2 := by
  have a := jl_count fu n a1 hfu hC hM hi qa1 e1 e2 h.1
  exact ⟨a, fwK_fr h.2 (fr_S_count NKQ fu 0 a1 I  e1)⟩
theorem jk_best (fu n : Nat) (a1 : Int) {I J : IMem} {r r2 : Int × IMem} (hfu : 5000000000 < fu) (hC : GI I) (hM : XC 0 n J) (hi : n < 512) (qa1 : inr a1) (e1 : f_S_best fu 0 a1 I = some r) (e2 : f_X_best fu 0 a1 J = some r2) (h : RK I J) : RK r.2 r2.2 := by
  have a := jl_best fu n a1 hfu hC hM hi qa1 e1 e2 h.1
  exact ⟨a, fwK_fr h.2 (fr_S_best NKQ fu 0 a1 I (by unfold NKQ; omega) (by unfold NKQ; omega) (by unfold NKQ; omega) (by unfold NKQ; omega) (by unfold NKQ; omega) (by unfold NKQ; omega) e1)⟩
theorem jk_look (fu n : Nat) (a1 : Int) {I J : IMem} {r r2 : Int × IMem} (hfu : 5000000000 < fu) (hC : GI I) (hM : XC 0 n J) (hi : n < 512) (qa1 : inr a1) (e1 : f_S_look fu 0 a1 I = some r) (e2 : f_X_look fu 0 a1 J = some r2) (h : RK I J) : RK r.2 r2.2 := by
  have a := jl_look fu n a1 hfu hC hM hi qa1 e1 e2 h.1
  exact ⟨a, fwK_fr h.2 (fr_S_look NKQ fu 0 a1 I (by unfold NKQ; omega) (by unfold NKQ; omega) (by unfold NKQ; omega) (by unfold NKQ; omega) (by unfold NKQ; omega) (by unfold NKQ; omega) e1)⟩
theorem jk_heap (fu n : Nat) (a1 a2 : Int) {I J : IMem} {r r2 : Int × IMem} (hfu : 5000000000 < fu) (hC : GI I) (hM : XC 0 n J) (hi : n < 512) (qa1 : inr a1) (qa2 : inr a2) (e1 : f_S_heap fu 0 a1 a2 I = some r) (e2 : f_X_heap fu 0 a1 a2 J = some r2) (h : RK I J) : RK r.2 r2.2 ∧ r.1 = r2.1 := by
  have a := jl_heap fu n a1 a2 hfu hC hM hi qa1 qa2 e1 e2 h.1
  exact ⟨⟨a.1, fwK_fr h.2 (fr_S_heap NKQ fu 0 a1 a2 I (by unfold NKQ; omega) e1)⟩, a.2⟩
theorem jk_fewest (fu n : Nat) (a1 : Int) {I J : IMem} {r r2 : Int × IMem} (hfu : 5000000000 < fu) (hC : GI I) (hM : XC 0 n J) (hi : n < 512) (qa1 : inr a1) (e1 : f_S_fewest fu 0 a1 I = some r) (e2 : f_X_fewest fu 0 a1 J = some r2) (h : RK I J) : RK r.2 r2.2 ∧ r.1 = r2.1 := by
  have a := jl_fewest fu n a1 hfu hC hM hi qa1 e1 e2 h.1
  have w := pj_fewest a1 h.1 hM.1 h.2 r.1 r.2 r2.1 r2.2 e1 e2
  exact ⟨⟨a, w.2⟩, w.1⟩
theorem jk_thought (fu n : Nat) (a1 a2 a3 a4 a5 : Int) {I J : IMem} {r r2 : Int × IMem} (hfu : 5000000000 < fu) (hC : GI I) (hM : XC 0 n J) (hi : n < 512) (qa1 : inr a1) (qa2 : inr a2) (qa3 : inr a3) (qa4 : inr a4) (qa5 : inr a5) (e1 : f_S_thought fu 0 a1 a2 a3 a4 a5 I = some r) (e2 : f_X_thought fu 0 a1 a2 a3 a4 a5 J = some r2) (h : RK I J) : RK r.2 r2.2 := by
  have a := jl_thought fu n a1 a2 a3 a4 a5 hfu hC hM hi qa1 qa2 qa3 qa4 qa5 e1 e2 h.1
  exact ⟨a, fwK_fr h.2 (fr_S_thought NKQ fu 0 a1 a2 a3 a4 a5 I (fun q _ _ => by unfold NKQ; omega) (by unfold NKQ; omega) (by unfold NKQ; omega) (by unfold NKQ; omega) (by unfold NKQ; omega) (by unfold NKQ; omega) (by unfold NKQ; omega) (by unfold NKQ; omega) (by unfold NKQ; omega) (by unfold NKQ; omega) (by unfold NKQ; omega) (by unfold NKQ; omega) (by unfold NKQ; omega) (by unfold NKQ; omega) (by unfold NKQ; omega) (by unfold NKQ; omega) (by unfold NKQ; omega) (by unfold NKQ; omega) (by unfold NKQ; omega) (by unfold NKQ; omega) (by unfold NKQ; omega) e1)⟩
theorem jk_price (fu n : Nat) (a1 a2 : Int) {I J : IMem} {r r2 : Int × IMem} (hfu : 5000000000 < fu) (hC : GI I) (hM : XC 0 n J) (hi : n < 512) (qa1 : inr a1) (qa2 : inr a2) (e1 : f_S_price fu 0 a1 a2 I = some r) (e2 : f_X_price fu 0 a1 a2 J = some r2) (h : RK I J) : RK r.2 r2.2 := by
  have a := jl_price fu n a1 a2 hfu hC hM hi qa1 qa2 e1 e2 h.1
  exact ⟨a, fwK_fr h.2 (fr_S_price NKQ fu 0 a1 a2 I (fun q _ _ => by unfold NKQ; omega) (by unfold NKQ; omega) (by unfold NKQ; omega) (by unfold NKQ; omega) (by unfold NKQ; omega) (by unfold NKQ; omega) (by unfold NKQ; omega) (by unfold NKQ; omega) (by unfold NKQ; omega) (by unfold NKQ; omega) (by unfold NKQ; omega) (by unfold NKQ; omega) (by unfold NKQ; omega) (by unfold NKQ; omega) (by unfold NKQ; omega) (by unfold NKQ; omega) (by unfold NKQ; omega) (by unfold NKQ; omega) (by unfold NKQ; omega) (by unfold NKQ; omega) (by unfold NKQ; omega) e1)⟩
theorem jk_till (fu n : Nat) (a1 a2 : Int) {I J : IMem} {r r2 : Int × IMem} (hfu : 5000000000 < fu) (hC : GI I) (hM : XC 0 n J) (hi : n < 512) (qa1 : inr a1) (qa2 : inr a2) (e1 : f_S_till fu 0 a1 a2 I = some r) (e2 : f_X_till fu 0 a1 a2 J = some r2) (h : RK I J) : RK r.2 r2.2 := by
  have a := jl_till fu n a1 a2 hfu hC hM hi qa1 qa2 e1 e2 h.1
  exact ⟨a, fwK_fr h.2 (fr_S_till NKQ fu 0 a1 a2 I (fun q _ _ => by unfold NKQ; omega) (by unfold NKQ; omega) (by unfold NKQ; omega) (by unfold NKQ; omega) (by unfold NKQ; omega) (by unfold NKQ; omega) (by unfold NKQ; omega) (by unfold NKQ; omega) (by unfold NKQ; omega) (by unfold NKQ; omega) (by unfold NKQ; omega) (by unfold NKQ; omega) (by unfold NKQ; omega) (by unfold NKQ; omega) (by unfold NKQ; omega) (by unfold NKQ; omega) (by unfold NKQ; omega) (by unfold NKQ; omega) (by unfold NKQ; omega) (by unfold NKQ; omega) e1)⟩
theorem jk_together (fu n : Nat) (a1 a2 a3 a4 a5 : Int) {I J : IMem} {r r2 : Int × IMem} (hfu : 5000000000 < fu) (hC : GI I) (hM : XC 0 n J) (hi : n < 512) (qa1 : inr a1) (qa2 : inr a2) (qa3 : inr a3) (qa4 : inr a4) (qa5 : inr a5) (e1 : f_S_together fu 0 a1 a2 a3 a4 a5 I = some r) (e2 : f_X_together fu 0 a1 a2 a3 a4 a5 J = some r2) (h : RK I J) : RK r.2 r2.2 := by
  have a := jl_together fu n a1 a2 a3 a4 a5 hfu hC hM hi qa1 qa2 qa3 qa4 qa5 e1 e2 h.1
  exact ⟨a, fwK_fr h.2 (fr_S_together NKQ fu 0 a1 a2 a3 a4 a5 I (fun q _ _ => by unfold NKQ; omega) (by unfold NKQ; omega) (by unfold NKQ; omega) (by unfold NKQ; omega) (by unfold NKQ; omega) (by unfold NKQ; omega) (by unfold NKQ; omega) (by unfold NKQ; omega) (by unfold NKQ; omega) (by unfold NKQ; omega) (by unfold NKQ; omega) (by unfold NKQ; omega) (by unfold NKQ; omega) (by unfold NKQ; omega) (by unfold NKQ; omega) (by unfold NKQ; omega) (by unfold NKQ; omega) (by unfold NKQ; omega) (by unfold NKQ; omega) (by unfold NKQ; omega) e1)⟩
theorem jk_needed (fu n : Nat) (a1 : Int) {I J : IMem} {r r2 : Int × IMem} (hfu : 5000000000 < fu) (hC : GI I) (hM : XC 0 n J) (hi : n < 512) (qa1 : inr a1) (e1 : f_S_needed fu 0 a1 I = some r) (e2 : f_X_needed fu 0 a1 J = some r2) (h : RK I J) : RK r.2 r2.2 := by
  have a := jl_needed fu n a1 hfu hC hM hi qa1 e1 e2 h.1
  exact ⟨a, fwK_fr h.2 (fr_S_needed NKQ fu 0 a1 I (fun q _ _ => by unfold NKQ; omega) (by unfold NKQ; omega) (by unfold NKQ; omega) (by unfold NKQ; omega) (by unfold NKQ; omega) (by unfold NKQ; omega) (by unfold NKQ; omega) (by unfold NKQ; omega) (by unfold NKQ; omega) (by unfold NKQ; omega) (by unfold NKQ; omega) (by unfold NKQ; omega) (by unfold NKQ; omega) (by unfold NKQ; omega) (by unfold NKQ; omega) (by unfold NKQ; omega) (by unfold NKQ; omega) (by unfold NKQ; omega) (by unfold NKQ; omega) (by unfold NKQ; omega) e1)⟩
theorem jk_past (fu n : Nat) (a1 a2 : Int) {I J : IMem} {r r2 : Int × IMem} (hfu : 5000000000 < fu) (hC : GI I) (hM : XC 0 n J) (hi : n < 512) (qa1 : inr a1) (qa2 : inr a2) (e1 : f_S_past fu 0 a1 a2 I = some r) (e2 : f_X_past fu 0 a1 a2 J = some r2) (h : RK I J) : RK r.2 r2.2 ∧ r.1 = r2.1 := by
  have a := jl_past fu n a1 a2 hfu hC hM hi qa1 qa2 e1 e2 h.1
  exact ⟨⟨a.1, fwK_fr h.2 (fr_S_past NKQ fu 0 a1 a2 I  e1)⟩, a.2⟩
theorem jk_which (fu n : Nat) (a1 a2 : Int) {I J : IMem} {r r2 : Int × IMem} (hfu : 5000000000 < fu) (hC : GI I) (hM : XC 0 n J) (hi : n < 512) (qa1 : inr a1) (qa2 : inr a2) (e1 : f_S_which fu 0 a1 a2 I = some r) (e2 : f_X_which fu 0 a1 a2 J = some r2) (h : RK I J) : RK r.2 r2.2 := by
  have a := jl_which fu n a1 a2 hfu hC hM hi qa1 qa2 e1 e2 h.1
  exact ⟨a, fwK_fr h.2 (fr_S_which NKQ fu 0 a1 a2 I (fun q _ _ => by unfold NKQ; omega) (by unfold NKQ; omega) (by unfold NKQ; omega) (by unfold NKQ; omega) (by unfold NKQ; omega) (by unfold NKQ; omega) (by unfold NKQ; omega) (by unfold NKQ; omega) (by unfold NKQ; omega) (by unfold NKQ; omega) (by unfold NKQ; omega) (by unfold NKQ; omega) (by unfold NKQ; omega) (by unfold NKQ; omega) (by unfold NKQ; omega) (by unfold NKQ; omega) (by unfold NKQ; omega) (by unfold NKQ; omega) (by unfold NKQ; omega) (by unfold NKQ; omega) (by unfold NKQ; omega) (by unfold NKQ; omega) e1)⟩
theorem jk_folded (fu n : Nat) (a1 a2 a3 : Int) {I J : IMem} {r r2 : Int × IMem} (hfu : 5000000000 < fu) (hC : GI I) (hM : XC 0 n J) (hi : n < 512) (qa1 : inr a1) (qa2 : inr a2) (qa3 : inr a3) (e1 : f_S_folded fu 0 a1 a2 a3 I = some r) (e2 : f_X_folded fu 0 a1 a2 a3 J = some r2) (h : RK I J) : RK r.2 r2.2 ∧ r.1 = r2.1 := by
  have a := jl_folded fu n a1 a2 a3 hfu hC hM hi qa1 qa2 qa3 e1 e2 h.1
  exact ⟨⟨a.1, fwK_fr h.2 (fr_S_folded NKQ fu 0 a1 a2 a3 I  e1)⟩, a.2⟩
theorem jk_image (fu n : Nat) (a1 : Int) {I J : IMem} {r r2 : Int × IMem} (hfu : 5000000000 < fu) (hC : GI I) (hM : XC 0 n J) (hi : n < 512) (qa1 : inr a1) (e1 : f_S_image fu 0 a1 I = some r) (e2 : f_X_image fu 0 a1 J = some r2) (h : RK I J) : RK r.2 r2.2 ∧ r.1 = r2.1 := by
  have a := jl_image fu n a1 hfu hC hM hi qa1 e1 e2 h.1
  exact ⟨⟨a.1, fwK_fr h.2 (fr_S_image NKQ fu 0 a1 I (fun q _ _ => by unfold NKQ; omega) (fun q _ _ => by unfold NKQ; omega) (by unfold NKQ; omega) (by unfold NKQ; omega) (by unfold NKQ; omega) (by unfold NKQ; omega) (by unfold NKQ; omega) (by unfold NKQ; omega) (by unfold NKQ; omega) (by unfold NKQ; omega) (by unfold NKQ; omega) (by unfold NKQ; omega) (by unfold NKQ; omega) (by unfold NKQ; omega) (by unfold NKQ; omega) (by unfold NKQ; omega) (by unfold NKQ; omega) (by unfold NKQ; omega) (by unfold NKQ; omega) (by unfold NKQ; omega) (by unfold NKQ; omega) (by unfold NKQ; omega) (by unfold NKQ; omega) (by unfold NKQ; omega) (by unfold NKQ; omega) (by unfold NKQ; omega) (by unfold NKQ; omega) e1)⟩, a.2⟩
theorem jk_told (fu n : Nat) (a1 : Int) {I J : IMem} {r r2 : Int × IMem} (hfu : 5000000000 < fu) (hC : GI I) (hM : XC 0 n J) (hi : n < 512) (qa1 : inr a1) (e1 : f_S_told fu 0 a1 I = some r) (e2 : f_X_told fu 0 a1 J = some r2) (h : RK I J) : RK r.2 r2.2 ∧ r.1 = r2.1 := by
  have a := jl_told fu n a1 hfu hC hM hi qa1 e1 e2 h.1
  exact ⟨⟨a.1, fwK_fr h.2 (fr_S_told NKQ fu 0 a1 I  e1)⟩, a.2⟩
