/-! rides, turns, comers: both sides -/
/-- a hill of the class and a chair before it -/
def OCH (oc hb : Nat) : Prop := (oc = 122 ∧ hb = 82) ∨ (oc = 130 ∧ hb = 1)
/-- both sides, the dreamed hill or the real one -/
def HG (hb : Nat) (I J : IMem) : Prop := HX hb I J ∧ GX 0 J ∧ GC I
section
variable {fu oc hb : Nat} {I J : IMem}
theorem ride2 (ho : OCH oc hb) (hfu : 5000000000 < fu) (h : HG hb I J) (hc : J 1 70 < 2000000000) : pq (f_C_ride fu oc hb I) (f_X_chair fu 0 J) (fun x I' y J' => x = y ∧ HG hb I' J' ∧ (∀ j, j < 240 → J' 13 j = 0) ∧ J' 0 35 = 0 ∧ J' 1 70 = J 1 70 + 1 ∧ J' 1 71 = wr32 (J 1 71 + J' 1 111)) := by
  obtain ⟨⟨hR, hz, hA⟩, hG, hC⟩ := h
  have hd : hb + 40 ≤ oc := by unfold OCH at ho; omega
  have hT0 : oc = 122 ∨ oc = 130 ∨ oc = 137 := by unfold OCH at ho; omega
  have hT1 : hb = 1 ∨ hb = 41 ∨ hb = 82 := by unfold OCH at ho; omega
  have gf := gx_facts hG
  have key : pq (f_C_ride fu oc hb I) (f_X_chair fu 0 J) (fun x I' y J' => x = y ∧ HX hb I' J' ∧ J' 1 71 = wr32 (J 1 71 + J' 1 111)) := by
    unfold f_C_ride f_X_chair
    refine pq_b (pq_and (pq_al (pq_ar (fill2 (fu := fu) hR hG hd) (par_sat (ok_X_fills fu 0 J hfu hG))) (par_sat (ok_C_fill fu oc hb I hfu hC hT0 hT1))) (Q2 := fun _ I' _ J' => (∀ j, I' hb j = I hb j) ∧ (∀ j, I' (hb + 14) j = I (hb + 14) j) ∧ J' 0 22 = J 0 22) (fun x I' y J' e1 e2 => ?_)) (fun x1 I1 y1 J1 _ _ ⟨⟨⟨⟨f1, f2⟩, _, f3, _, f4⟩, _, f5, _⟩, f6, f7, f8⟩ => ?_)
    · have a := fr_C_fill (fun q => (hb + 15 ≤ q ∧ q < hb + 40) ∨ (oc ≤ q ∧ q ≤ oc + 6) ∨ q = hb + 7 ∨ q = hb + 10 ∨ q = hb + 13) fu oc hb I (fun q h1 h2 => Or.inl ⟨h1, h2⟩) (by omega) (by omega) (by omega) (by omega) (by omega) (by omega) (by omega) (by omega) (by omega) (by omega) e1
      have b := fc_X_fills (fun q j => ¬ (q = 0 ∧ j = 22)) fu 0 J (fun _ => by omega) (fun _ => by omega) (fun _ => by omega) (fun _ => by omega) (fun _ => by omega) (by omega) (by omega) (by omega) (by omega) (by omega) (by omega) (by omega) (by omega) (by omega) (by omega) (by omega) (by omega) (by omega) (by omega) (by omega) e2
      exact ⟨fun j => congrFun (a hb (by omega)) j, fun j => congrFun (a (hb + 14) (by omega)) j, b 0 22 (by omega)⟩
    · have gf1 := gx_facts f3
      have j70 : J1 1 70 = J 1 70 := f4 70 (by decide)
      refine pq_b (leave2 (fu := fu) f1 hd gf1.2.2.2.2.1 f2 ⟨gf1.2.2.2.2.2.2, by rw [j70]; exact hc⟩ gf1.1 f5.1) (fun x2 I2 y2 J2 _ _ ⟨g1, g2, g3, g4, g5, g6, g7, g8⟩ => pq_end ⟨g1, ⟨g2, ?_, ?_, ?_⟩, by rw [g8, f4 71 (by decide)]⟩)
      · rw [g5, g6, f6, f8]; exact hz
      · rw [g7, f7]; exact hA.1
      · rw [g7, f7]; exact hA.2
  refine pq_mono (pq_al (pq_ar key (par_sat (ok_X_chair fu 0 J hfu hG hc))) (par_sat (ok_C_ride fu oc hb I hfu hC hT0 hT1))) (fun x I' y J' ⟨⟨⟨k1, k2, k9⟩, _, k3, k4, k5, k6⟩, _, k7, _⟩ => ⟨k1, ⟨k2, k3, k7⟩, k6, k4, k5, k9⟩)
end
