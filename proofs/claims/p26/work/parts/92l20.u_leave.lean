/-! the chair goes, on both sides -/
/-- lines up to l are moved up; the others as before -/
def MLl (oc hb l : Nat) (I0 J0 I J : IMem) : Prop :=
  (∀ q j, ¬ (q = hb + 8 ∧ j < l) → ¬ (q = hb + 7 ∧ j < 240 * l) → I q j = I0 q j) ∧
  (∀ q j, ¬ (q = 1 ∧ ((130 ≤ j ∧ j < 130 + l) ∨ (140 ≤ j ∧ j < 140 + 240 * l))) → J q j = J0 q j) ∧
  ∀ l', l' < l → I (hb + 8) l' = J 1 (130 + l') ∧ (0 ≤ J 1 (130 + l') ∧ J 1 (130 + l') ≤ 40) ∧ ∀ p f : Nat, (p : Int) < J 1 (130 + l') → f < 6 → I (hb + 7) (6 * (40 * l' + p) + f) = J 1 (140 + 6 * (40 * l' + p) + f)
section
variable {fu oc hb : Nat} {Q : Int → IMem → Int → IMem → Prop}
theorem depart6 (hd : hb + 40 ≤ oc) (kX : IMem → Res) (p1 : Int) (I0 J0 : IMem) (hF : FRl oc I0 J0) (hL : HLP oc hb I0 J0) (hz : ∀ k, INL J0 k → 1 ≤ J0 1 (141 + 6 * k) ∧ J0 1 (141 + 6 * k) ≤ 8) (hend : ∀ I J, MLl oc hb 6 I0 J0 I J → pq (zr 0 I) (kX J) Q) : ∀ (m m2 l : Nat) (I J : IMem), l ≤ 6 → MLl oc hb l I0 J0 I J → pq (f_L_depart_2 fu (hb + 6) (oc + 1) 240 m (l : Int) I) (f_X_goesOff_266 fu kX 0 p1 m2 (l : Int) J) Q := by
  intro m
  induction m with
  | zero => intro _ _ _ _ _ _; exact pq_nl
  | succ m ih =>
    intro m2 l I J hl hM
    cases m2 with
    | zero => exact pq_nr
    | succ m2 =>
    show pq (fb_L_depart_2 fu (hb + 6) (oc + 1) 240 (f_L_depart_2 fu (hb + 6) (oc + 1) 240 m) (l : Int) I) (fb_X_goesOff_266 fu kX 0 p1 (f_X_goesOff_266 fu kX 0 p1 m2) (l : Int) J) Q
    unfold fb_L_depart_2 fb_X_goesOff_266
    have hM' := hM
    obtain ⟨m1, m2', m3⟩ := hM'
    by_cases h6 : l < 6
    · rw [if_pos (by omega), if_pos (by omega)]
      obtain ⟨c1, c2, c3⟩ := hL l h6
      have ic : I (hb + 6 + 2) l = J0 1 (130 + l) := (m1 _ _ (by omega) (by omega)).trans c1
      have jc : J 1 (130 + l) = J0 1 (130 + l) := m2' _ _ (by omega)
      refine pq_bl (cv_rear (fu := fu) (hb + 6) (oc + 1) l h6 I (by rw [ic]; exact c2)) (fun R I1 _ ⟨g1, g2⟩ => ?_)
      have g1' := g1.symm
      subst g1'
      unfold f_X_movesUp
      have w1 : Wq (wr32 (130 + (l : Int))) (((130 + l : Nat) : Int)) := by show wr32 (130 + (l : Int)) = ((130 + l : Nat) : Int); rw [wr32_i2 (by omega) (by omega)]; omega
      obtain ⟨c, hc⟩ : ∃ c : Nat, J0 1 (130 + l) = (c : Int) := ⟨(J0 1 (130 + l)).toNat, by omega⟩
      have e2 : ∀ k : Int → IMem → Res, zb (zl (wr32 (130 + (l : Int))) fun x1 => zg (0 ≤ x1 ∧ x1 < 6190) (zl (J (0 + 1) x1.toNat) fun x2 => f_X_movesUp_16 fu (fun (x10 : Int) (I9 : IMem) => f_X_movesUp_57 fu (fun (x49 : Int) (I48 : IMem) => zl (wr32 (130 + (l : Int))) fun x51 => zg (0 ≤ x51 ∧ x51 < 6190) (zw I48 (0 + 1) x51.toNat x49 fun I50 => zr 0 I50)) 0 (l : Int) x2 fu x10 0 0 I9) 0 (l : Int) x2 fu 0 0 J)) k = zb (f_X_movesUp_16 fu (fun (x10 : Int) (I9 : IMem) => f_X_movesUp_57 fu (fun (x49 : Int) (I48 : IMem) => zw I48 1 (130 + l) x49 fun I50 => zr 0 I50) 0 (l : Int) (c : Int) fu x10 0 0 I9) 0 (l : Int) (c : Int) fu 0 0 J) k := by
        intro k
        simp only [zl_e, Nat.zero_add]
        rw [w1.e, tn, zg_t (by omega), jc, hc]
        have ek : (fun (x49 : Int) (I48 : IMem) => zg (0 ≤ ((130 + l : Nat) : Int) ∧ ((130 + l : Nat) : Int) < 6190) (zw I48 1 (130 + l) x49 fun I50 => zr 0 I50)) = (fun (x49 : Int) (I48 : IMem) => zw I48 1 (130 + l) x49 fun I50 => zr 0 I50) := by
          funext x49 I48
          exact zg_t (by omega)
        rw [ek]
      rw [e2]
      have hcn : c ≤ 40 := by omega
      have dr0 : DRl hb l 0 I J I J := ⟨fun _ _ _ => rfl, fun _ _ _ => rfl, fun t' f ht => absurd ht (Nat.not_lt_zero _)⟩
      -- the class's inner loop against the reference's, its count first
      intro x I9 y J9 e8 e9
      obtain ⟨y1, J1, f1, f2⟩ := of_zb e9
      have key : par (f_X_movesUp_16 fu (fun (x10 : Int) (I9 : IMem) => f_X_movesUp_57 fu (fun (x49 : Int) (I48 : IMem) => zw I48 1 (130 + l) x49 fun I50 => zr 0 I50) 0 (l : Int) (c : Int) fu x10 0 0 I9) 0 (l : Int) (c : Int) fu 0 0 J) (fun y1 J1 => ∀ (y : Int) (J9 : IMem), (zl (wr32 ((l : Int) + 1)) fun x41 => f_X_goesOff_266 fu kX 0 p1 m2 x41 J1) = some (y, J9) → Q x I9 y J9) := by
        have jr : ∀ p f : Nat, p < c → f < 6 → J 1 (140 + 6 * (40 * l + p) + f) = J0 1 (140 + 6 * (40 * l + p) + f) := fun p f _ _ => m2' _ _ (by omega)
        have ir : ∀ p f : Nat, p < c → f < 6 → I (hb + 7) (6 * (40 * l + p) + f) = I0 (hb + 7) (6 * (40 * l + p) + f) := fun p f _ _ => m1 _ _ (by omega) (by omega)
        refine xv_cnt16 (fu := fu) _ l h6 c hcn J ?_ fu 0 (Nat.zero_le _)
        refine pq_tor (Q := fun x I9 y1 J1 => ∀ (y : Int) (J9 : IMem), (zl (wr32 ((l : Int) + 1)) fun x41 => f_X_goesOff_266 fu kX 0 p1 m2 x41 J1) = some (y, J9) → Q x I9 y J9) (depart_in (fu := fu) (oc := oc) (hb := hb) hd l h6 _ _ I J R c hcn (ic.trans hc) (fun p f hp hf => ?_) (fun p hp => ?_) (fun p hp => ?_) (by rw [← hc, ← ic]; exact g2) (fun t I2 J2 ht hD => ?_) fu fu 0 0 (cnt (sf J l) c) I J (Nat.le_refl _) (Nat.zero_le _) (by show _ = cnt (sf J l) c - 0; omega) dr0) e8
        · have := c3 p f (by omega) hf
          rw [ir p f hp hf, this, jr p 1 hp (by decide), jr p f hp hf, m1 _ _ (by omega) (by omega), m2' 9 _ (by omega)]
        · rw [m1 _ _ (by omega) (by omega), m2' 9 _ (by omega), m2' 12 _ (by omega), m2' 1 _ (by omega)]
          exact hF.2.2.2.2.1 (40 * l + p) (by omega)
        · rw [show 141 + 6 * (40 * l + p) = 140 + 6 * (40 * l + p) + 1 by omega, jr p 1 hp (by decide)]
          have := hz (40 * l + p) ⟨by omega, by rw [show (40 * l + p) % 40 = p by omega, show (40 * l + p) / 40 = l by omega]; omega⟩
          rw [show 141 + 6 * (40 * l + p) = 140 + 6 * (40 * l + p) + 1 by omega] at this
          exact this
        · show pq (zg (0 ≤ (l : Int) ∧ (l : Int) < 6) (zw I2 (hb + 6 + 2) (l : Int).toNat (t : Int) fun I34 => zl (wr32 ((l : Int) + 1)) fun x35 => f_L_depart_2 fu (hb + 6) (oc + 1) 240 m x35 I34)) _ _
          obtain ⟨d1, d2, d3⟩ := hD
          have wn : Wq (wr32 ((l : Int) + 1)) (((l + 1 : Nat) : Int)) := by show wr32 ((l : Int) + 1) = ((l + 1 : Nat) : Int); rw [wr32_i2 (by omega) (by omega)]; rfl
          rw [tn, wn.e]
          refine pq_gl (fun _ => pq_zwl' (fun I3 e3 => pq_zwr' (fun J3 e3' => pq_l (fun x' I' ex y' J' ey => ?_))))
          refine ih m2 (l + 1) I3 J3 h6 ⟨fun q j h1 h2 => ?_, fun q j h1 => ?_, fun l' hl' => ?_⟩ x' I' y' J' ex ey
          · rw [e3, if_neg (by omega), d1 q j (by omega)]; exact m1 q j (by omega) (by omega)
          · rw [e3', if_neg (by omega), d2 q j (by omega)]; exact m2' q j (by omega)
          · by_cases q : l' = l
            · have a1 : I3 (hb + 8) l' = (t : Int) := by rw [e3, if_pos (by omega)]
              have a2 : J3 1 (130 + l') = (t : Int) := by rw [e3', if_pos (by omega)]
              rw [a1, a2]
              refine ⟨rfl, by omega, fun p f hp hf => ?_⟩
              rw [e3, if_neg (by omega), e3', if_neg (by omega), q]
              exact d3 p f (by omega) hf
            · obtain ⟨x1, x2, x3⟩ := m3 l' (by omega)
              have a1 : I3 (hb + 8) l' = I (hb + 8) l' := by rw [e3, if_neg (by omega)]; exact d1 _ _ (by omega)
              have a2 : J3 1 (130 + l') = J 1 (130 + l') := by rw [e3', if_neg (by omega)]; exact d2 _ _ (by omega)
              rw [a1, a2]
              refine ⟨x1, x2, fun p f hp hf => ?_⟩
              rw [e3, if_neg (by omega), e3', if_neg (by omega), d1 _ _ (by omega), d2 _ _ (by omega)]
              exact x3 p f hp hf
      exact key y1 J1 f1 y J9 f2
    · rw [if_neg (by omega), if_neg (by omega)]
      have : l = 6 := by omega
      subst this
      exact hend I J hM
end
