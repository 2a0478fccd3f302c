/-! fillsFirst and fewest, by hand -/
theorem nf_back {o : Nat} {I I4 I7 I9 : IMem} {g : Nat} {w : Int} (e4 : ∀ p i, I4 p i = if p = o + 19 ∧ i = g then wr32 (I (o + 19) g - w) else I p i) (h7 : ∀ q j, q ≠ o + 18 → q ≠ o + 21 → I7 q j = I4 q j) (e9 : ∀ p i, I9 p i = if p = o + 19 ∧ i = g then wr32 (I7 (o + 19) g + w) else I7 p i) (hb : 0 ≤ I (o + 19) g ∧ I (o + 19) g ≤ 12 ∧ 0 ≤ w ∧ w ≤ 12) : ∀ q j, q ≠ o + 18 → q ≠ o + 21 → I9 q j = I q j := by
  intro q j hq hr
  rw [e9]
  by_cases c : q = o + 19 ∧ j = g
  · rw [if_pos c, h7 _ _ (by omega) (by omega), e4, if_pos ⟨rfl, rfl⟩, c.1, c.2, wr32_i2 (x := I (o + 19) g - w) (by omega) (by omega), wr32_i2 (by omega) (by omega)]
    omega
  · rw [if_neg c, h7 _ _ hq hr, e4, if_neg c]
theorem nq_le {o : Nat} {I : IMem} (h : NQ o I) {a : Int} (ha : 1 ≤ a ∧ a ≤ 8) : 0 ≤ I (o + 19) a.toNat ∧ I (o + 19) a.toNat ≤ 12 ∧ I (o + 19) a.toNat ≤ I (o + 1) (60 + a.toNat) := by
  have := h.1 a.toNat (by omega) (by omega)
  omega
def KF (o : Nat) (I0 : IMem) (v : Int) (I : IMem) : Prop := inr v ∧ GX o I ∧ ∀ q j, q ≠ o + 18 → q ≠ o + 21 → I q j = I0 q j
theorem ok_fF48 (fu : Nat) (R : Nat → Int → Int → Int → IMem → Res) (o0 : Nat) (p1 p2 p3 : Int) (Ib : IMem) (hnb : NQ o0 Ib) (hp : 1 ≤ p1 ∧ p1 ≤ 8) (hp3 : inr p3) (hR : ∀ (a2 : Int) (I0 : IMem), GX o0 I0 → inr a2 → NQ o0 I0 → sat (R o0 (wr32 (p1 - 1)) a2 p3 I0) (KF o0 I0)) : ∀ (m : Nat) (w5 : Int) (I0 : IMem), inr w5 → GX o0 I0 → (∀ q j, q ≠ o0 + 18 → q ≠ o0 + 21 → I0 q j = Ib q j) → w5 ≤ Ib (o0 + 19) p1.toNat → (w5 + 1).toNat < m → sat (f_X_fillsFirst_48 fu R o0 p1 p2 p3 m w5 I0) (KF o0 Ib) := by
  intro m
  induction m with
  | zero => intro w5 I0 _ _ _ _ h0; exact absurd h0 (Nat.not_lt_zero _)
  | succ m hR_ =>
    intro w5 I0 ⟨aw5, bw5⟩ hRI0 fI0 hw hm
    show sat (fb_X_fillsFirst_48 fu R o0 p1 p2 p3 (f_X_fillsFirst_48 fu R o0 p1 p2 p3 m) w5 I0) _
    unfold fb_X_fillsFirst_48
    refine sat_ite (fun q1 => ?_) (fun q1 => ?_)
    · exact sat_zr ⟨lit_in rfl, hRI0, fI0⟩
    have hnq : NQ o0 I0 := nw_fr hnb (fun j => fI0 _ _ (by omega) (by omega)) (fun j => fI0 _ _ (by omega) (by omega)) (fun j => fI0 _ _ (by omega) (by omega))
    have hk := nq_le hnq hp
    have hkb : I0 (o0 + 19) p1.toNat = Ib (o0 + 19) p1.toNat := fI0 _ _ (by omega) (by omega)
    refine sat_zg (by omega) (fun g1 => ?_)
    refine sat_zg (by omega) (fun g2 => ?_)
    refine sat_zwXn (c := 19) hRI0 (wr32_in _) (by decide) (Or.inl (by decide)) (fun I4 eI4 hRI4 => ?_)
    refine sat_zg (by omega) (fun g3 => ?_)
    refine sat_zg (by omega) (fun g4 => ?_)
    refine sat_zwXn (c := 21) hRI4 (wr32_in _) (by decide) (Or.inl (by decide)) (fun I5 eI5 hRI5 => ?_)
    have hwv : wr32 (I0 (o0 + 19) p1.toNat - w5) = I0 (o0 + 19) p1.toNat - w5 := wr32_i2 (by omega) (by omega)
    have hd := nw_set (I1 := I4) (v := I0 (o0 + 19) p1.toNat - w5) hnq (g := p1.toNat) (by omega) (by omega) (fun k => by rw [eI4, hwv]; by_cases q : k = p1.toNat; (rw [if_pos ⟨rfl, q⟩, if_pos q]); (rw [if_neg (fun z => q z.2), if_neg q])) (fun j => by rw [eI4, if_neg (by omega)]) (fun j => by rw [eI4, if_neg (by omega)])
    have f5 : ∀ q j, q ≠ o0 + 21 → I5 q j = I4 q j := fun q j h => by rw [eI5, if_neg (by omega)]
    have hn5 : NQ o0 I5 := nw_fr hd.1 (fun j => f5 _ _ (by omega)) (fun j => f5 _ _ (by omega)) (fun j => f5 _ _ (by omega))
    refine sat_zb (hR _ I5 hRI5 (wr32_in _) hn5) (fun y6 I7 c1 ⟨qy6, hRI7, pI7⟩ => ?_)
    refine sat_zg (by omega) (fun g5 => ?_)
    refine sat_zg (by omega) (fun g6 => ?_)
    refine sat_zwXn (c := 19) hRI7 (wr32_in _) (by decide) (Or.inl (by decide)) (fun I9 eI9 hRI9 => ?_)
    have f9 : ∀ q j, q ≠ o0 + 18 → q ≠ o0 + 21 → I9 q j = Ib q j := fun q j h1 h2 => (nf_back eI4 (fun q j h1 h2 => (pI7 q j h1 h2).trans (f5 q j h2)) eI9 (by omega) q j h1 h2).trans (fI0 q j h1 h2)
    refine sat_ite (fun q2 => ?_) (fun q2 => ?_)
    · refine sat_zg (by omega) (fun g7 => ?_)
      refine sat_zg (by omega) (fun g8 => ?_)
      refine sat_zwXn (c := 21) hRI9 (wr32_in _) (by decide) (Or.inl (by decide)) (fun I10 eI10 hRI10 => ?_)
      refine sat_zl (wr32_in _) (fun x11 hx11 ax11 bx11 => ?_)
      rw [wr32_i2 (by omega) (by omega)] at hx11
      exact hR_ x11 I10 ⟨ax11, bx11⟩ hRI10 (fun q j h1 h2 => by rw [eI10, if_neg (by omega)]; exact f9 q j h1 h2) (by omega) (by omega)
    · exact sat_zr ⟨lit_in rfl, hRI9, f9⟩
theorem ok_gXF (fu : Nat) (hfu : 5000000000 < fu) : ∀ (n : Nat) (o0 : Nat) (a1 a2 a3 : Int) (I0 : IMem), GX o0 I0 → inr a1 → inr a2 → inr a3 → NQ o0 I0 → (0 ≤ a1 ∧ a1 ≤ 8) → a1 + 1 ≤ n → sat (gXF fu n o0 a1 a2 a3 I0) (KF o0 I0) := by
  intro n
  induction n with
  | zero => intro o0 a1 a2 a3 I0 _ _ _ _ _ _ hn; exact absurd hn (by omega)
  | succ n ih =>
    intro o0 a1 a2 a3 I0 hRI0 ⟨aa1, ba1⟩ qa2 qa3 hnq ha hn
    show sat (fb_X_fillsFirst fu (gXF fu n) o0 a1 a2 a3 I0) _
    unfold fb_X_fillsFirst
    refine sat_ite (fun q1 => ?_) (fun q1 => ?_)
    · refine sat_zb (ok_X_needs fu o0 I0 hfu hRI0 hnq) (fun y12 I13 c1 ⟨qy, hRI13, pI13⟩ => ?_)
      refine sat_ite (fun q2 => ?_) (fun q2 => ?_)
      · exact sat_zr ⟨lit_in rfl, hRI13, fun q j h1 _ => pI13 q j h1⟩
      · exact sat_zr ⟨lit_in rfl, hRI13, fun q j h1 _ => pI13 q j h1⟩
    refine sat_zg q1 (fun g1 => ?_)
    refine sat_zg (by omega) (fun g2 => ?_)
    have hk := nq_le hnq (a := a1) (by omega)
    refine sat_zj (fun k1 ek1 => ?_)
    have hk1 : ∀ (x3 : Int), inr x3 → x3 ≤ I0 (o0 + 19) a1.toNat → sat (k1 x3 I0) (KF o0 I0) := by
      intro x3 qx3 hx3
      subst ek1
      have hw1 : wr32 (a1 - 1) = a1 - 1 := wr32_i2 (by omega) (by omega)
      exact ok_fF48 fu (gXF fu n) o0 a1 a2 a3 I0 hnq (by omega) qa3 (fun b2 I9 h9 qb hq => ih o0 _ b2 a3 I9 h9 (wr32_in _) qb qa3 hq (by omega) (by omega)) fu x3 I0 qx3 hRI0 (fun _ _ _ _ => rfl) hx3 (by omega)
    clear ek1
    refine sat_ite (fun q2 => ?_) (fun q2 => ?_)
    · refine sat_zg q1 (fun g3 => ?_)
      exact hk1 _ (wdiv_in _ _) (by omega)
    · refine sat_zg (by omega) (fun g3 => ?_)
      exact hk1 _ (hRI0.1 _ _) (by omega)
def ND (o : Nat) (I : IMem) (n : Nat) (w : Int) : Prop := (∀ k, 1 ≤ k → k < n → I (o + 19) k = I (o + 1) (60 + k) ∧ 0 ≤ I (o + 20) k) ∧ nr (I (o + 20)) (fun k => I (o + 1) (60 + k)) (n - 1) = w - 1 ∧ 1 ≤ w ∧ w ≤ 2 ^ (ps I (o + 1) (n - 1)).toNat
theorem nr_eq {r f r1 f1 : Nat → Int} : ∀ n, (∀ k, 1 ≤ k → k ≤ n → r1 k = r k ∧ f1 k = f k) → nr r1 f1 n = nr r f n := by
  intro n
  induction n with
  | zero => intro _; rfl
  | succ n ih =>
    intro h
    show nr r1 f1 n + r1 (n + 1) * f1 (n + 1) = nr r f n + r (n + 1) * f (n + 1)
    rw [ih (fun k a b => h k a (by omega)), (h (n + 1) (by omega) (Nat.le_refl _)).1, (h (n + 1) (by omega) (Nat.le_refl _)).2]
theorem ps_eq {I I1 : IMem} {a : Nat} (h : ∀ j, I1 a j = I a j) : ∀ n, ps I1 a n = ps I a n := by
  intro n
  induction n with
  | zero => rfl
  | succ n ih => show ps I1 a n + I1 a (61 + n) = ps I a n + I a (61 + n); rw [ih, h]
theorem pw_le {a : Nat} (h : a ≤ 12) : (2 : Int) ^ a ≤ 4096 := by
  have : a = 0 ∨ a = 1 ∨ a = 2 ∨ a = 3 ∨ a = 4 ∨ a = 5 ∨ a = 6 ∨ a = 7 ∨ a = 8 ∨ a = 9 ∨ a = 10 ∨ a = 11 ∨ a = 12 := by omega
  rcases this with q | q | q | q | q | q | q | q | q | q | q | q | q <;> subst q <;> decide
/-- one size more -/
theorem nd_step {o : Nat} {I I1 : IMem} {n : Nat} {w : Int} (hg : GX o I) (h : ND o I n w) (hn : 1 ≤ n ∧ n ≤ 8) (h1 : ∀ j, I1 (o + 1) j = I (o + 1) j) (h19 : ∀ k, I1 (o + 19) k = if k = n then I (o + 1) (60 + n) else I (o + 19) k) (h20 : ∀ k, I1 (o + 20) k = if k = n then w else I (o + 20) k) : ND o I1 (n + 1) (w * (I (o + 1) (60 + n) + 1)) ∧ 1 ≤ w * (I (o + 1) (60 + n) + 1) ∧ w * (I (o + 1) (60 + n) + 1) ≤ 4096 := by
  obtain ⟨ha, hb, hc, hd⟩ := h
  have hp := ps_b hg (n - 1) (n - 1) (by omega)
  have hp2 := hp.2.2.2 (Nat.le_refl _) (by omega)
  have hnn := hp_nn hg (n - 1) (by omega)
  rw [show 61 + (n - 1) = 60 + n by omega] at hp2 hnn
  have hs : ps I1 (o + 1) n = ps I (o + 1) (n - 1) + I (o + 1) (60 + n) := by
    rw [ps_eq h1]
    have e : n = (n - 1) + 1 := by omega
    rw [e]
    show ps I (o + 1) (n - 1) + I (o + 1) (61 + (n - 1)) = _
    rw [show 61 + (n - 1) = 60 + (n - 1 + 1) by omega]
    rfl
  have hx : 1 ≤ w * (I (o + 1) (60 + n) + 1) := by
    have := Int.mul_le_mul hc (show 1 ≤ I (o + 1) (60 + n) + 1 by omega) (by omega) (by omega)
    omega
  have hu : w * (I (o + 1) (60 + n) + 1) ≤ 2 ^ (ps I1 (o + 1) n).toNat := by
    have h2 := pw_12 (I (o + 1) (60 + n)) (by omega)
    have h3 := Int.mul_le_mul hd h2 (by omega) (by omega)
    rw [← Int.pow_add] at h3
    rw [hs, show (ps I (o + 1) (n - 1) + I (o + 1) (60 + n)).toNat = (ps I (o + 1) (n - 1)).toNat + (I (o + 1) (60 + n)).toNat by omega]
    exact h3
  have hl : (2 : Int) ^ (ps I1 (o + 1) n).toNat ≤ 4096 := pw_le (by rw [hs]; omega)
  refine ⟨⟨fun k a b => ?_, ?_, hx, by rw [show n + 1 - 1 = n by omega]; exact hu⟩, hx, by omega⟩
  · rw [h19, h20, h1]
    by_cases q : k = n
    · rw [if_pos q, if_pos q, q]; exact ⟨rfl, by omega⟩
    · rw [if_neg q, if_neg q]; exact ha k a (by omega)
  · rw [show n + 1 - 1 = (n - 1) + 1 by omega]
    show nr (I1 (o + 20)) (fun k => I1 (o + 1) (60 + k)) (n - 1) + I1 (o + 20) (n - 1 + 1) * I1 (o + 1) (60 + (n - 1 + 1)) = _
    rw [nr_eq (r := I (o + 20)) (f := fun k => I (o + 1) (60 + k)) (n - 1) (fun k a b => ⟨by rw [h20, if_neg (by omega)], h1 _⟩), hb, show n - 1 + 1 = n by omega, h20, if_pos rfl, h1, Int.mul_add, Int.mul_one]
    omega
theorem nd_nq {o : Nat} {I : IMem} {w : Int} (hg : GX o I) (h : ND o I 9 w) : NQ o I ∧ w ≤ 4096 := by
  obtain ⟨ha, hb, hc, hd⟩ := h
  have h8 := ps_b hg 0 8 (by decide)
  have hl : (2 : Int) ^ (ps I (o + 1) (9 - 1)).toNat ≤ 4096 := pw_le (by show (ps I (o + 1) 8).toNat ≤ 12; omega)
  refine ⟨⟨fun k a b => ?_, ?_⟩, by omega⟩
  · have e := ha k a (by omega)
    have e1 := hp_nn hg (k - 1) (by omega)
    have e2 := (ps_b hg (k - 1) 8 (by decide)).2.2.1 (by omega)
    rw [show 61 + (k - 1) = 60 + k by omega] at e1 e2
    omega
  · show nr (I (o + 20)) (fun k => I (o + 1) (60 + k)) (9 - 1) ≤ 4095
    omega
