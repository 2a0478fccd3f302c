/-! the seed and the settings, while chairs go -/
def lcg (s : Int) : Int := wr32 (wr32 (1664525 * s) + 1013904223)
def sdG (f s : Int) : Int := if 0 < f then lcg s else s
def sdT (c : Nat → Int) : Nat → Int → Int
  | 0, s => s
  | k + 1, s => if 0 < c k then lcg (sdT c k s) else sdT c k s
def sdR (c : Nat → Int) (f : Int) : Nat → Int → Int
  | 0, s => s
  | n + 1, s => sdG f (sdT c 8 (sdR c f n s))
def KPQ (o : Nat) (I0 I : IMem) : Prop := ∀ j : Nat, 1 ≤ j → j < 70 → j ≠ 7 → I (o + 1) j = I0 (o + 1) j
def chX (o : Nat) (I : IMem) : Nat → Int := fun k => I (o + 1) (29 + 4 * k)
theorem kp_t {o : Nat} {I0 I1 I2 : IMem} (a : KPQ o I0 I1) (b : KPQ o I1 I2) : KPQ o I0 I2 := fun j h1 h2 h3 => (b j h1 h2 h3).trans (a j h1 h2 h3)
theorem sdT_eq {c d : Nat → Int} : ∀ (k : Nat) (s : Int), (∀ j, j < k → c j = d j) → sdT c k s = sdT d k s := by
  intro k
  induction k with
  | zero => intro s _; rfl
  | succ k ih =>
    intro s h
    show (if 0 < c k then lcg (sdT c k s) else sdT c k s) = (if 0 < d k then lcg (sdT d k s) else sdT d k s)
    rw [ih s (fun j hj => h j (by omega)), h k (by omega)]
theorem sdR_eq {c d : Nat → Int} {f : Int} (h : ∀ j, j < 8 → c j = d j) : ∀ (n : Nat) (s : Int), sdR c f n s = sdR d f n s := by
  intro n
  induction n with
  | zero => intro s; rfl
  | succ n ih =>
    intro s
    show sdG f (sdT c 8 (sdR c f n s)) = sdG f (sdT d 8 (sdR d f n s))
    rw [ih, sdT_eq 8 _ h]
theorem sdT_s (c : Nat → Int) (w s : Int) (h : 0 ≤ w) : sdT c (w + 1).toNat s = if 0 < c w.toNat then lcg (sdT c w.toNat s) else sdT c w.toNat s := by
  rw [show (w + 1).toNat = w.toNat + 1 by omega]; rfl
theorem sdR_s (c : Nat → Int) (f w s : Int) (h : 0 ≤ w) : sdR c f (w + 1).toNat s = sdG f (sdT c 8 (sdR c f w.toNat s)) := by
  rw [show (w + 1).toNat = w.toNat + 1 by omega]; rfl
theorem sd_draw {fu o0 : Nat} {a1 : Int} {I0 : IMem} {r : Int × IMem} (e : f_X_draw fu o0 a1 I0 = some r) : r.2 (o0 + 1) 0 = lcg (I0 (o0 + 1) 0) := by
  unfold f_X_draw at e
  have e2 : (fun I1 : IMem => zg (a1 ≠ 0) (zr (wrem (wushr (I1 (o0 + 1) 0) 8) a1) I1)) (up I0 (o0 + 1) 0 (wr32 (wr32 (1664525 * (I0 (o0 + 1) 0)) + 1013904223))) = some r := e
  obtain ⟨g, e3⟩ := of_zg e2
  cases e3
  exact if_pos ⟨rfl, rfl⟩
theorem og_X_goesOff_266 {Ib : IMem} (fu : Nat) (k_283 : IMem → Res) (o0 : Nat) (p1 : Int) (hfu : 5000000000 < fu) (qp1 : inr p1) (hfs : FS o0 Ib) {Q_ : Int → IMem → Prop} (hk_283 : ∀ (I9 : IMem), GX o0 I9 → ((∀ q j, ¬ (q = o0 + 1) → I9 q j = Ib q j) ∧ (∀ j : Nat, j < 130 → I9 (o0 + 1) j = Ib (o0 + 1) j)) → sat (k_283 I9) Q_) (hret : ∀ v I, inr v → GX o0 I → ((∀ q j, ¬ (q = o0 + 1) → I q j = Ib q j) ∧ (False)) → sat (zr v I) Q_) : ∀ (m : Nat) (w2 : Int) (I0 : IMem), inr w2 → GX o0 I0 → ((∀ q j, ¬ (q = o0 + 1) → I0 q j = Ib q j) ∧ (0 ≤ w2 ∧ w2 ≤ 6 ∧ (∀ j : Nat, j < 130 → I0 (o0 + 1) j = Ib (o0 + 1) j) ∧ ∀ j : Nat, 140 + 240 * w2 ≤ (j : Int) → I0 (o0 + 1) j = Ib (o0 + 1) j)) → (6 - w2).toNat < m → sat (f_X_goesOff_266 fu k_283 o0 p1 m w2 I0) Q_ := by
  intro m
  induction m with
  | zero => intro w2 I0 _ _ _ h0; exact absurd h0 (Nat.not_lt_zero _)
  | succ m hR_ =>
    intro w2 I0 ⟨aw2, bw2⟩ hRI0 hinv hmeas
    have fI0 := hinv.1; replace hinv := hinv.2
    show sat (fb_X_goesOff_266 fu k_283 o0 p1 (f_X_goesOff_266 fu k_283 o0 p1 m) w2 I0) Q_
    unfold fb_X_goesOff_266
    obtain ⟨ap1, bp1⟩ := qp1
    have hst : w2 < 6 → ST o0 w2 I0 := fun q p h1 h2 => by have h := hfs.2.2.2 (40 * w2 + p).toNat (by omega); rw [fI0 (o0 + 9) _ (by omega), hinv.2.2.2 _ (by omega), show (141 + 6 * (40 * w2 + p)).toNat = 141 + 6 * (40 * w2 + p).toNat by omega]; exact ⟨h.1, h.2.1⟩
    refine sat_ite (fun q_1 => ?_) (fun q_1 => ?_)
    · refine sat_zb (ok_X_movesUp fu o0 w2 I0 hfu hRI0 ⟨aw2, bw2⟩ (by first | omega | (simp (disch := omega) only [wr32_i2, wdiv_i2, wrem_i2]; omega) | grind | grind [wr32]) (by first | omega | (simp (disch := omega) only [wr32_i2, wdiv_i2, wrem_i2]; omega) | grind | grind [wr32])) (fun u_2 I39 c_3 ⟨⟨au_2, bu_2⟩, hRI39, pI39⟩ => ?_)
      have fI39 : ∀ q j, ¬ (q = o0 + 1) → I39 q j = I0 q j := fc_X_movesUp (fun q j => q = o0 + 1) fu o0 w2 I0 (fun _ => by simp) c_3
      refine sat_zl (wr32_in _) (fun x41 hx41 ax41 bx41 => ?_)
      try simp (disch := omega) only [wr32_i2, wdiv_i2, wrem_i2] at hx41
      exact hR_ x41 I39 ⟨ax41, bx41⟩ hRI39 ⟨(by intro q j hq; rw [fI39 q j hq]; exact fI0 q j hq), ⟨by omega, by omega, fun j hj => (pI39 j (Or.inl (by omega)) (by omega)).trans (hinv.2.2.1 j hj), fun j hj => (pI39 j (Or.inr (by omega)) (by omega)).trans (hinv.2.2.2 j (by omega))⟩⟩ (by first | omega | (simp (disch := omega) only [wr32_i2, wdiv_i2, wrem_i2]; omega) | grind | grind [wr32])
    · exact hk_283 I0 hRI0 ⟨fI0, hinv.2.2.1⟩
theorem og_X_goesOff_285 {Ib : IMem} (fu : Nat) (k_369 : IMem → Res) (o0 : Nat) (p1 : Int) (hfu : 5000000000 < fu) (qp1 : inr p1) (hot : ∀ i : Nat, (i : Int) < Ib o0 32 → 1 ≤ Ib (o0 + 14) (6 * i + 1) ∧ Ib (o0 + 14) (6 * i + 1) ≤ 8) (hn : 0 ≤ Ib o0 32 ∧ Ib o0 32 ≤ 240) {Q_ : Int → IMem → Prop} (hk_369 : ∀ (I9 : IMem), GX o0 I9 → ((∀ q j, ¬ (q = o0 + 1 ∨ (q = o0 ∧ j = 24)) → I9 q j = Ib q j) ∧ (∀ j : Nat, j < 76 → I9 (o0 + 1) j = Ib (o0 + 1) j)) → sat (k_369 I9) Q_) (hret : ∀ v I, inr v → GX o0 I → ((∀ q j, ¬ (q = o0 + 1 ∨ (q = o0 ∧ j = 24)) → I q j = Ib q j) ∧ (False)) → sat (zr v I) Q_) : ∀ (m : Nat) (w2 : Int) (I0 : IMem), inr w2 → GX o0 I0 → ((∀ q j, ¬ (q = o0 + 1 ∨ (q = o0 ∧ j = 24)) → I0 q j = Ib q j) ∧ (0 ≤ w2 ∧ ∀ j : Nat, j < 76 → I0 (o0 + 1) j = Ib (o0 + 1) j)) → (240 - w2).toNat < m → sat (f_X_goesOff_285 fu k_369 o0 p1 m w2 I0) Q_ := by
  intro m
  induction m with
  | zero => intro w2 I0 _ _ _ h0; exact absurd h0 (Nat.not_lt_zero _)
  | succ m hR_ =>
    intro w2 I0 ⟨aw2, bw2⟩ hRI0 hinv hmeas
    have fI0 := hinv.1; replace hinv := hinv.2
    show sat (fb_X_goesOff_285 fu k_369 o0 p1 (f_X_goesOff_285 fu k_369 o0 p1 m) w2 I0) Q_
    unfold fb_X_goesOff_285
    obtain ⟨ap1, bp1⟩ := qp1
    have hf32 : I0 o0 32 = Ib o0 32 := fI0 _ _ (by omega)
    have ho1 : w2 < I0 o0 32 → 1 ≤ I0 (o0 + 14) (6 * w2 + 1).toNat ∧ I0 (o0 + 14) (6 * w2 + 1).toNat ≤ 8 := fun q => by rw [fI0 (o0 + 14) _ (by omega), show (6 * w2 + 1).toNat = 6 * w2.toNat + 1 by omega]; exact hot w2.toNat (by omega)
    have ⟨r_1a, r_1b⟩ : -2147483648 ≤ I0 o0 32 ∧ I0 o0 32 < 2147483648 := hRI0.1 o0 32
    refine sat_ite (fun q_2 => ?_) (fun q_2 => ?_)
    · refine sat_zl (wr32_in _) (fun x43 hx43 ax43 bx43 => ?_)
      try simp (disch := omega) only [wr32_i2, wdiv_i2, wrem_i2] at hx43
      refine sat_zg (by first | omega | grind | grind [wr32]) (fun g_3 => ?_)
      refine sat_zl (wr32_in _) (fun x44 hx44 ax44 bx44 => ?_)
      try simp (disch := omega) only [wr32_i2, wdiv_i2, wrem_i2] at hx44
      refine sat_zg (by first | omega | grind | grind [wr32]) (fun g_4 => ?_)
      refine sat_zl (wr32_in _) (fun x45 hx45 ax45 bx45 => ?_)
      try simp (disch := omega) only [wr32_i2, wdiv_i2, wrem_i2] at hx45
      have ho2 := ho1 (by omega)
      rw [← hx44] at ho2
      have ho3 : 1 ≤ I0 (o0 + 14) x45.toNat ∧ I0 (o0 + 14) x45.toNat ≤ 8 := by rw [show x45 = x44 by omega]; exact ho2
      refine sat_zg (by first | omega | grind | grind [wr32]) (fun g_5 => ?_)
      refine sat_zl (wr32_in _) (fun x46 hx46 ax46 bx46 => ?_)
      try simp (disch := omega) only [wr32_i2, wdiv_i2, wrem_i2] at hx46
      refine sat_zg (by first | omega | grind | grind [wr32]) (fun g_6 => ?_)
      refine sat_zl (wr32_in _) (fun x47 hx47 ax47 bx47 => ?_)
      try simp (disch := omega) only [wr32_i2, wdiv_i2, wrem_i2] at hx47
      refine sat_zg (by first | omega | grind | grind [wr32]) (fun g_7 => ?_)
      refine sat_zl (wr32_in _) (fun x48 hx48 ax48 bx48 => ?_)
      try simp (disch := omega) only [wr32_i2, wdiv_i2, wrem_i2] at hx48
      refine sat_zg (by first | omega | grind | grind [wr32]) (fun g_8 => ?_)
      have ⟨r_10a, r_10b⟩ : -2147483648 ≤ I0 (o0 + 14) x43.toNat ∧ I0 (o0 + 14) x43.toNat < 2147483648 := hRI0.1 (o0 + 14) x43.toNat
      have ⟨r_11a, r_11b⟩ : -2147483648 ≤ I0 (o0 + 14) x44.toNat ∧ I0 (o0 + 14) x44.toNat < 2147483648 := hRI0.1 (o0 + 14) x44.toNat
      have ⟨r_12a, r_12b⟩ : -2147483648 ≤ I0 (o0 + 14) x45.toNat ∧ I0 (o0 + 14) x45.toNat < 2147483648 := hRI0.1 (o0 + 14) x45.toNat
      have ⟨r_13a, r_13b⟩ : -2147483648 ≤ I0 (o0 + 14) x46.toNat ∧ I0 (o0 + 14) x46.toNat < 2147483648 := hRI0.1 (o0 + 14) x46.toNat
      have ⟨r_14a, r_14b⟩ : -2147483648 ≤ I0 (o0 + 14) x47.toNat ∧ I0 (o0 + 14) x47.toNat < 2147483648 := hRI0.1 (o0 + 14) x47.toNat
      have ⟨r_15a, r_15b⟩ : -2147483648 ≤ I0 (o0 + 14) x48.toNat ∧ I0 (o0 + 14) x48.toNat < 2147483648 := hRI0.1 (o0 + 14) x48.toNat
      refine sat_zb (ok_X_stands fu o0 0 (I0 (o0 + 14) x43.toNat) (I0 (o0 + 14) x44.toNat) (I0 (o0 + 14) x45.toNat) (I0 (o0 + 14) x46.toNat) (I0 (o0 + 14) x47.toNat) (I0 (o0 + 14) x48.toNat) I0 hfu hRI0 (lit_in rfl) (hRI0.1 (o0 + 14) x43.toNat) (hRI0.1 (o0 + 14) x44.toNat) (hRI0.1 (o0 + 14) x45.toNat) (hRI0.1 (o0 + 14) x46.toNat) (hRI0.1 (o0 + 14) x47.toNat) (hRI0.1 (o0 + 14) x48.toNat) (by first | omega | (simp (disch := omega) only [wr32_i2, wdiv_i2, wrem_i2]; omega) | grind | grind [wr32])) (fun y49 I50 c_9 ⟨⟨ay49, by49⟩, hRI50, pI50⟩ => ?_)
      have fI50 : ∀ q j, ¬ (q = o0 + 1 ∨ (q = o0 ∧ j = 24)) → I50 q j = I0 q j := fc_X_stands (fun q j => q = o0 + 1 ∨ (q = o0 ∧ j = 24)) fu o0 0 (I0 (o0 + 14) x43.toNat) (I0 (o0 + 14) x44.toNat) (I0 (o0 + 14) x45.toNat) (I0 (o0 + 14) x46.toNat) (I0 (o0 + 14) x47.toNat) (I0 (o0 + 14) x48.toNat) I0 (fun _ => by simp) (by simp) c_9
      refine sat_zl (wr32_in _) (fun x52 hx52 ax52 bx52 => ?_)
      try simp (disch := omega) only [wr32_i2, wdiv_i2, wrem_i2] at hx52
      exact hR_ x52 I50 ⟨ax52, bx52⟩ hRI50 ⟨(by intro q j hq; rw [fI50 q j hq]; exact fI0 q j hq), ⟨by omega, fun j hj => (pI50.2.1 j hj).trans (hinv.2 j hj)⟩⟩ (by first | omega | (simp (disch := omega) only [wr32_i2, wdiv_i2, wrem_i2]; omega) | grind | grind [wr32])
    · exact hk_369 I0 hRI0 ⟨fI0, hinv.2⟩
theorem og_X_goesOff (fu : Nat) (o0 : Nat) (I0 : IMem) (hfu : 5000000000 < fu) (hRI0 : GX o0 I0) (hfs : FS o0 I0) (hc : I0 (o0 + 1) 70 < 2000000000) : sat (f_X_goesOff fu o0 I0) (fun v I => inr v ∧ GX o0 I ∧ (I o0 35 = 0 ∧ I (o0 + 1) 70 = I0 (o0 + 1) 70 + 1 ∧ (∀ k : Nat, k < 240 → I (o0 + 13) k = 0) ∧ KPQ o0 I0 I ∧ I (o0 + 1) 0 = sdG (I0 (o0 + 1) 4) (I0 (o0 + 1) 0))) := by
  unfold f_X_goesOff
  have hft := hfs.1
  have ⟨r_1a, r_1b⟩ : -2147483648 ≤ I0 (o0 + 1) 1 ∧ I0 (o0 + 1) 1 < 2147483648 := hRI0.1 (o0 + 1) 1
  have r_1g := gx_a hRI0
  have ⟨r_2a, r_2b⟩ : -2147483648 ≤ I0 o0 30 ∧ I0 o0 30 < 2147483648 := hRI0.1 o0 30
  refine sat_zl (wr32_in _) (fun x1 hx1 ax1 bx1 => ?_)
  try simp (disch := omega) only [wr32_i2, wdiv_i2, wrem_i2] at hx1
  have ⟨r_3a, r_3b⟩ : -2147483648 ≤ I0 (o0 + 1) 71 ∧ I0 (o0 + 1) 71 < 2147483648 := hRI0.1 (o0 + 1) 71
  refine sat_zwX1 hRI0 (wr32_in _) (cw_lit rfl) (fun I2 eI2 hRI2 => ?_)
  have ⟨r_4a, r_4b⟩ : -2147483648 ≤ I2 (o0 + 1) 72 ∧ I2 (o0 + 1) 72 < 2147483648 := hRI2.1 (o0 + 1) 72
  refine sat_zwX1 hRI2 (wr32_in _) (cw_lit rfl) (fun I3 eI3 hRI3 => ?_)
  have ⟨r_5a, r_5b⟩ : -2147483648 ≤ I3 o0 31 ∧ I3 o0 31 < 2147483648 := hRI3.1 o0 31
  refine sat_zwX1 hRI3 (hRI3.1 o0 31) (cw_110 (by first | omega | (simp (disch := omega) only [wr32_i2, wdiv_i2, wrem_i2]; omega) | grind)) (fun I4 eI4 hRI4 => ?_)
  have ⟨r_6a, r_6b⟩ : -2147483648 ≤ I4 o0 30 ∧ I4 o0 30 < 2147483648 := hRI4.1 o0 30
  refine sat_zwX1 hRI4 (hRI4.1 o0 30) (cw_lit rfl) (fun I5 eI5 hRI5 => ?_)
  have hw5 : ∀ q j, (q ≠ o0 + 1 ∨ (j ≠ 71 ∧ j ≠ 72 ∧ j ≠ 110 ∧ j ≠ 111)) → I5 q j = I0 q j := fun q j h => by rw [eI5, if_neg (by omega), eI4, if_neg (by omega), eI3, if_neg (by omega), eI2, if_neg (by omega)]
  have hfs5 : FS o0 I5 := fs_same hfs (fun k _ => hw5 _ _ (by omega)) (fun k => hw5 _ _ (by omega)) (fun k => hw5 _ _ (by omega)) (fun k => hw5 _ _ (by omega)) (hw5 _ _ (by omega)) (hw5 _ _ (by omega))
  have hc5 := hw5 (o0 + 1) 70 (by omega)
  refine ok_X_goesOff_61 (Ib := I5) fu _ o0 x1 hfu ⟨ax1, bx1⟩ (by first | omega | (simp (disch := omega) only [wr32_i2, wdiv_i2, wrem_i2]; omega) | grind | grind [wr32]) ?_ (fun v I h1 h2 h3 => sat_zr ⟨h1, h2, (by first | exact h3.elim | exact h3.2.elim)⟩) fu 0 I5 (lit_in rfl) hRI5 ⟨(fun _ _ _ => rfl), (by first | omega | (simp (disch := omega) only [wr32_i2, wdiv_i2, wrem_i2]; omega) | grind | grind [wr32])⟩ (by first | omega | (simp (disch := omega) only [wr32_i2, wdiv_i2, wrem_i2]; omega) | grind | grind [wr32])
  · intro I30  hRI30 xI30
    have fI30 := xI30.1; replace xI30 := xI30.2
    have hfs30 : FS o0 I30 := fs_same hfs5 (fun k _ => xI30 _ (Or.inr (by omega))) (fun k => fI30 _ _ (by omega)) (fun k => fI30 _ _ (by omega)) (fun k => fI30 _ _ (by omega)) (fI30 _ _ (by omega)) (fI30 _ _ (by omega))
    have hc30 := xI30 70 (Or.inl (by omega))
    refine ok_X_goesOff_205 (Ib := I30) fu _ o0 x1 hfu ⟨ax1, bx1⟩ (by first | omega | (simp (disch := omega) only [wr32_i2, wdiv_i2, wrem_i2]; omega) | grind | grind [wr32]) ?_ (fun v I h1 h2 h3 => sat_zr ⟨h1, h2, (by first | exact h3.elim | exact h3.2.elim)⟩) fu 0 I30 (lit_in rfl) hRI30 ⟨(fun _ _ _ => rfl), (by first | omega | (simp (disch := omega) only [wr32_i2, wdiv_i2, wrem_i2]; omega) | grind | grind [wr32])⟩ (by first | omega | (simp (disch := omega) only [wr32_i2, wdiv_i2, wrem_i2]; omega) | grind | grind [wr32])
    · intro I37  hRI37 xI37
      have fI37 := xI37.1; replace xI37 := xI37.2
      have hfs37 : FS o0 I37 := fs_same hfs30 (fun k _ => fI37 _ _ (by omega)) (fun k => fI37 _ _ (by omega)) (fun k => fI37 _ _ (by omega)) (fun k => fI37 _ _ (by omega)) (fI37 _ _ (by omega)) (fI37 _ _ (by omega))
      have hc37 := fI37 (o0 + 1) 70 (by omega)
      refine og_X_goesOff_266 (Ib := I37) fu _ o0 x1 hfu ⟨ax1, bx1⟩ (by first | omega | (simp (disch := omega) only [wr32_i2, wdiv_i2, wrem_i2]; omega) | grind | grind [wr32]) ?_ (fun v I h1 h2 h3 => sat_zr ⟨h1, h2, (by first | exact h3.elim | exact h3.2.elim)⟩) fu 0 I37 (lit_in rfl) hRI37 ⟨(fun _ _ _ => rfl), ⟨by omega, by omega, fun _ _ => rfl, fun _ _ => rfl⟩⟩ (by first | omega | (simp (disch := omega) only [wr32_i2, wdiv_i2, wrem_i2]; omega) | grind | grind [wr32])
      · intro I42  hRI42 xI42
        have fI42 := xI42.1; replace xI42 := xI42.2
        have h32 : I42 o0 32 = I30 o0 32 := (fI42 o0 32 (by omega)).trans (fI37 o0 32 (by omega))
        have hft30 := hfs30.1
        have hot42 : ∀ i : Nat, (i : Int) < I42 o0 32 → 1 ≤ I42 (o0 + 14) (6 * i + 1) ∧ I42 (o0 + 14) (6 * i + 1) ≤ 8 := fun i hi => by rw [fI42 (o0 + 14) _ (by omega)]; exact xI37 i (by omega)
        refine og_X_goesOff_285 (Ib := I42) fu _ o0 x1 hfu ⟨ax1, bx1⟩ (by first | omega | (simp (disch := omega) only [wr32_i2, wdiv_i2, wrem_i2]; omega) | grind | grind [wr32]) (by first | omega | (simp (disch := omega) only [wr32_i2, wdiv_i2, wrem_i2]; omega) | grind | grind [wr32]) ?_ (fun v I h1 h2 h3 => sat_zr ⟨h1, h2, (by first | exact h3.elim | exact h3.2.elim)⟩) fu 0 I42 (lit_in rfl) hRI42 ⟨(fun _ _ _ => rfl), ⟨by omega, fun _ _ => rfl⟩⟩ (by first | omega | (simp (disch := omega) only [wr32_i2, wdiv_i2, wrem_i2]; omega) | grind | grind [wr32])
        · intro I53  hRI53 xI53
          have fI53 := xI53.1; replace xI53 := xI53.2
          have hc53 : I53 (o0 + 1) 70 = I0 (o0 + 1) 70 := by rw [xI53 70 (by omega), xI42 70 (by omega), hc37, hc30, hc5]
          have hk53 : ∀ j : Nat, j < 70 → I53 (o0 + 1) j = I0 (o0 + 1) j := fun j hj => by rw [xI53 j (by omega), xI42 j (by omega), fI37 _ _ (by omega), xI30 j (Or.inl (by omega)), hw5 _ _ (by omega)]
          have ga0 := gx_a hRI0
          have hv54 : wr32 (I53 (o0 + 1) 70 + 1) = I0 (o0 + 1) 70 + 1 := by rw [hc53]; exact wr32_i2 (by omega) (by omega)
          have ⟨r_7a, r_7b⟩ : -2147483648 ≤ I53 (o0 + 1) 70 ∧ I53 (o0 + 1) 70 < 2147483648 := hRI53.1 (o0 + 1) 70
          have r_7g := gx_a hRI53
          refine sat_zwX1 hRI53 (wr32_in _) (cw_70 ⟨rfl, by rw [hv54]; omega⟩) (fun I54 eI54 hRI54 => ?_)
          have hc54 : I54 (o0 + 1) 70 = I0 (o0 + 1) 70 + 1 := by rw [eI54, if_pos ⟨rfl, rfl⟩, hv54]
          have ⟨r_8a, r_8b⟩ : -2147483648 ≤ I54 (o0 + 1) 73 ∧ I54 (o0 + 1) 73 < 2147483648 := hRI54.1 (o0 + 1) 73
          have ⟨r_9a, r_9b⟩ : -2147483648 ≤ I54 (o0 + 1) 2 ∧ I54 (o0 + 1) 2 < 2147483648 := hRI54.1 (o0 + 1) 2
          refine sat_zwX1 hRI54 (wr32_in _) (cw_lit rfl) (fun I55 eI55 hRI55 => ?_)
          refine sat_zj (fun k56 ek56 => ?_)
          have hk56 : ∀ (I57 : IMem), GX o0 I57 → ((∀ q j, ¬ ((q = o0 + 1 ∧ j = 0) ∨ (q = o0 + 1 ∧ j = 73) ∨ (q = o0 + 1 ∧ j = 74)) → I57 q j = I55 q j) ∧ (I57 (o0 + 1) 70 = I0 (o0 + 1) 70 + 1 ∧ I57 (o0 + 1) 0 = sdG (I0 (o0 + 1) 4) (I0 (o0 + 1) 0))) → sat (k56 I57) (fun v I => inr v ∧ GX o0 I ∧ (I o0 35 = 0 ∧ I (o0 + 1) 70 = I0 (o0 + 1) 70 + 1 ∧ (∀ k : Nat, k < 240 → I (o0 + 13) k = 0) ∧ KPQ o0 I0 I ∧ I (o0 + 1) 0 = sdG (I0 (o0 + 1) 4) (I0 (o0 + 1) 0))) := by
            intro I57  hRI57 jk56
            subst ek56
            have fI57 := jk56.1; replace jk56 := jk56.2
            have ⟨r_10a, r_10b⟩ : -2147483648 ≤ I57 (o0 + 1) 70 ∧ I57 (o0 + 1) 70 < 2147483648 := hRI57.1 (o0 + 1) 70
            have r_10g := gx_a hRI57
            refine sat_zl (wr32_in _) (fun x58 hx58 ax58 bx58 => ?_)
            try simp (disch := omega) only [wr32_i2, wdiv_i2, wrem_i2] at hx58
            refine sat_zg (by first | omega | grind | grind [wr32]) (fun g_11 => ?_)
            have ⟨r_12a, r_12b⟩ : -2147483648 ≤ I57 o0 30 ∧ I57 o0 30 < 2147483648 := hRI57.1 o0 30
            refine sat_zwX1 hRI57 (hRI57.1 o0 30) (cw_6010 (by first | omega | (simp (disch := omega) only [wr32_i2, wdiv_i2, wrem_i2]; omega) | grind)) (fun I59 eI59 hRI59 => ?_)
            refine sat_zl (wr32_in _) (fun x61 hx61 ax61 bx61 => ?_)
            try simp (disch := omega) only [wr32_i2, wdiv_i2, wrem_i2] at hx61
            refine sat_zg (by first | omega | grind | grind [wr32]) (fun g_13 => ?_)
            have ⟨r_14a, r_14b⟩ : -2147483648 ≤ I59 o0 31 ∧ I59 o0 31 < 2147483648 := hRI59.1 o0 31
            refine sat_zwX1 hRI59 (hRI59.1 o0 31) (cw_6010 (by first | omega | (simp (disch := omega) only [wr32_i2, wdiv_i2, wrem_i2]; omega) | grind)) (fun I60 eI60 hRI60 => ?_)
            refine sat_zl (wr32_in _) (fun x63 hx63 ax63 bx63 => ?_)
            try simp (disch := omega) only [wr32_i2, wdiv_i2, wrem_i2] at hx63
            refine sat_zg (by first | omega | grind | grind [wr32]) (fun g_15 => ?_)
            have ⟨r_16a, r_16b⟩ : -2147483648 ≤ I60 (o0 + 1) 73 ∧ I60 (o0 + 1) 73 < 2147483648 := hRI60.1 (o0 + 1) 73
            refine sat_zwX1 hRI60 (hRI60.1 (o0 + 1) 73) (cw_6010 (by first | omega | (simp (disch := omega) only [wr32_i2, wdiv_i2, wrem_i2]; omega) | grind)) (fun I62 eI62 hRI62 => ?_)
            refine sat_zb (ok_X_forgets fu o0 I62 hfu hRI62 ) (fun u_17 I65 c_18 ⟨⟨au_17, bu_17⟩, hRI65, pI65⟩ => ?_)
            have fI65 : ∀ q j, ¬ (q = o0 + 13 ∨ (q = o0 ∧ j = 35)) → I65 q j = I62 q j := fc_X_forgets (fun q j => q = o0 + 13 ∨ (q = o0 ∧ j = 35)) fu o0 I62 (fun _ => by simp) (by simp) c_18
            exact sat_zr ⟨⟨ax1, bx1⟩, hRI65, ⟨pI65.1, by rw [fI65 (o0 + 1) 70 (by omega), eI62, if_neg (by omega), eI60, if_neg (by omega), eI59, if_neg (by omega)]; exact jk56.1, pI65.2, fun j h1 h2 h3 => by rw [fI65 (o0 + 1) j (by omega), eI62, if_neg (by omega), eI60, if_neg (by omega), eI59, if_neg (by omega), fI57 _ _ (by omega), eI55, if_neg (by omega), eI54, if_neg (by omega)]; exact hk53 j h2, by rw [fI65 (o0 + 1) 0 (by omega), eI62, if_neg (by omega), eI60, if_neg (by omega), eI59, if_neg (by omega)]; exact jk56.2⟩⟩
          clear ek56
          have h554 : I55 (o0 + 1) 4 = I0 (o0 + 1) 4 := by rw [eI55, if_neg (by omega), eI54, if_neg (by omega)]; exact hk53 4 (by omega)
          have h550 : I55 (o0 + 1) 0 = I0 (o0 + 1) 0 := by rw [eI55, if_neg (by omega), eI54, if_neg (by omega)]; exact hk53 0 (by omega)
          have h5570 : I55 (o0 + 1) 70 = I0 (o0 + 1) 70 + 1 := by rw [eI55, if_neg (by omega)]; exact hc54
          have ⟨r_19a, r_19b⟩ : -2147483648 ≤ I55 (o0 + 1) 4 ∧ I55 (o0 + 1) 4 < 2147483648 := hRI55.1 (o0 + 1) 4
          refine sat_ite (fun q_20 => ?_) (fun q_20 => ?_)
          · refine sat_zb (ok_X_draw fu o0 1000 I55 hfu hRI55 (lit_in rfl) (by first | omega | (simp (disch := omega) only [wr32_i2, wdiv_i2, wrem_i2]; omega) | grind | grind [wr32])) (fun y67 I68 c_21 ⟨⟨ay67, by67⟩, hRI68, pI68⟩ => ?_)
            have fI68 : ∀ q j, ¬ ((q = o0 + 1 ∧ j = 0)) → I68 q j = I55 q j := fc_X_draw (fun q j => (q = o0 + 1 ∧ j = 0)) fu o0 1000 I55 (by simp) c_21
            have hs68 : I68 (o0 + 1) 0 = sdG (I0 (o0 + 1) 4) (I0 (o0 + 1) 0) := by
              have h := sd_draw c_21
              unfold sdG
              rw [if_pos (by omega), ← h550]
              exact h
            have ⟨r_22a, r_22b⟩ : -2147483648 ≤ I68 (o0 + 1) 4 ∧ I68 (o0 + 1) 4 < 2147483648 := hRI68.1 (o0 + 1) 4
            refine sat_ite (fun q_23 => ?_) (fun q_23 => ?_)
            · have ⟨r_24a, r_24b⟩ : -2147483648 ≤ I68 (o0 + 1) 73 ∧ I68 (o0 + 1) 73 < 2147483648 := hRI68.1 (o0 + 1) 73
              have ⟨r_25a, r_25b⟩ : -2147483648 ≤ I68 (o0 + 1) 3 ∧ I68 (o0 + 1) 3 < 2147483648 := hRI68.1 (o0 + 1) 3
              refine sat_zwX1 hRI68 (wr32_in _) (cw_lit rfl) (fun I70 eI70 hRI70 => ?_)
              have ⟨r_26a, r_26b⟩ : -2147483648 ≤ I70 (o0 + 1) 74 ∧ I70 (o0 + 1) 74 < 2147483648 := hRI70.1 (o0 + 1) 74
              refine sat_zwX1 hRI70 (wr32_in _) (cw_lit rfl) (fun I71 eI71 hRI71 => ?_)
              exact hk56 I71 hRI71 ⟨(by intro q j hq; grind), ⟨by rw [eI71, if_neg (by omega), eI70, if_neg (by omega), fI68 _ _ (by omega)]; exact h5570, by rw [eI71, if_neg (by omega), eI70, if_neg (by omega)]; exact hs68⟩⟩
            · exact hk56 I68 hRI68 ⟨(by intro q j hq; grind), ⟨by rw [fI68 _ _ (by omega)]; exact h5570, hs68⟩⟩
          · exact hk56 I55 hRI55 ⟨(fun _ _ _ => rfl), ⟨h5570, by unfold sdG; rw [if_neg (by omega)]; exact h550⟩⟩
theorem og_X_send (fu : Nat) (o0 : Nat) (I0 : IMem) (hfu : 5000000000 < fu) (hRI0 : GX o0 I0) (hc : I0 (o0 + 1) 70 < 2000000000) : sat (f_X_send fu o0 I0) (fun v I => inr v ∧ GX o0 I ∧ (I o0 35 = 0 ∧ I (o0 + 1) 70 = I0 (o0 + 1) 70 + 1 ∧ (∀ k : Nat, k < 240 → I (o0 + 13) k = 0) ∧ KPQ o0 I0 I ∧ I (o0 + 1) 0 = sdG (I0 (o0 + 1) 4) (I0 (o0 + 1) 0))) := by
  unfold f_X_send
  refine sat_zb (ok_X_begins fu o0 I0 hfu hRI0 ) (fun u_1 I2 c_2 ⟨⟨au_1, bu_1⟩, hRI2, pI2⟩ => ?_)
  have fI2 : ∀ q j, ¬ (q = o0 + 9 ∨ q = o0 + 12 ∨ (q = o0 ∧ j = 30) ∨ (q = o0 ∧ j = 31) ∨ (q = o0 ∧ j = 32) ∨ (q = o0 ∧ j = 33) ∨ (q = o0 ∧ j = 34)) → I2 q j = I0 q j := fc_X_begins (fun q j => q = o0 + 9 ∨ q = o0 + 12 ∨ (q = o0 ∧ j = 30) ∨ (q = o0 ∧ j = 31) ∨ (q = o0 ∧ j = 32) ∨ (q = o0 ∧ j = 33) ∨ (q = o0 ∧ j = 34)) fu o0 I0 (fun _ => by simp) (fun _ => by simp) (by simp) (by simp) (by simp) (by simp) (by simp) c_2
  refine ok_X_send_6 (Ib := I2) fu _ o0 hfu ?_ (fun v I h1 h2 h3 => sat_zr ⟨h1, h2, (by first | exact h3.elim | exact h3.2.elim)⟩) fu 0 I2 (lit_in rfl) hRI2 ⟨(fun _ _ _ => rfl), ⟨by omega, fs_0 hRI2 pI2.1 pI2.2.1 (fun k hk => (pI2.2.2.2 k hk).1), pI2.1⟩⟩ (by first | omega | (simp (disch := omega) only [wr32_i2, wdiv_i2, wrem_i2]; omega) | grind | grind [wr32])
  · intro I9  hRI9 xI9
    have fI9 := xI9.1; replace xI9 := xI9.2
    have hc9 : I9 (o0 + 1) 70 = I0 (o0 + 1) 70 := (fI9 _ _ (by omega)).trans (fI2 _ _ (by omega))
    refine sat_zb (og_X_goesOff fu o0 I9 hfu hRI9 (by first | omega | (simp (disch := omega) only [wr32_i2, wdiv_i2, wrem_i2]; omega) | grind | grind [wr32]) (by first | omega | (simp (disch := omega) only [wr32_i2, wdiv_i2, wrem_i2]; omega) | grind | grind [wr32])) (fun y10 I11 c_3 ⟨⟨ay10, by10⟩, hRI11, pI11⟩ => ?_)
    have fI11 : ∀ q j, ¬ (q = o0 + 1 ∨ q = o0 + 13 ∨ q = o0 + 14 ∨ (q = o0 ∧ j = 24) ∨ (q = o0 ∧ j = 35)) → I11 q j = I9 q j := fc_X_goesOff (fun q j => q = o0 + 1 ∨ q = o0 + 13 ∨ q = o0 + 14 ∨ (q = o0 ∧ j = 24) ∨ (q = o0 ∧ j = 35)) fu o0 I9 (fun _ => by simp) (fun _ => by simp) (fun _ => by simp) (by simp) (by simp) c_3
    have h9 : ∀ j, I9 (o0 + 1) j = I0 (o0 + 1) j := fun j => (fI9 _ _ (by omega)).trans (fI2 _ _ (by omega))
    exact sat_zr ⟨⟨ay10, by10⟩, hRI11, ⟨pI11.1, by rw [pI11.2.1, hc9], pI11.2.2.1, fun j h1 h2 h3 => (pI11.2.2.2.1 j h1 h2 h3).trans (h9 j), by rw [pI11.2.2.2.2, h9, h9]⟩⟩
theorem og_X_chair (fu : Nat) (o0 : Nat) (I0 : IMem) (hfu : 5000000000 < fu) (hRI0 : GX o0 I0) (hc : I0 (o0 + 1) 70 < 2000000000) : sat (f_X_chair fu o0 I0) (fun v I => inr v ∧ GX o0 I ∧ (I o0 35 = 0 ∧ I (o0 + 1) 70 = I0 (o0 + 1) 70 + 1 ∧ (∀ k : Nat, k < 240 → I (o0 + 13) k = 0) ∧ KPQ o0 I0 I ∧ I (o0 + 1) 0 = sdG (I0 (o0 + 1) 4) (I0 (o0 + 1) 0))) := by
  unfold f_X_chair
  refine sat_zb (ok_X_fills fu o0 I0 hfu hRI0 ) (fun u_1 I2 c_2 ⟨⟨au_1, bu_1⟩, hRI2, pI2⟩ => ?_)
  have fI2 : ∀ q j, ¬ (q = o0 + 7 ∨ q = o0 + 9 ∨ q = o0 + 10 ∨ q = o0 + 11 ∨ q = o0 + 12 ∨ (q = o0 ∧ j = 30) ∨ (q = o0 ∧ j = 31) ∨ (q = o0 ∧ j = 32) ∨ (q = o0 ∧ j = 33) ∨ (q = o0 ∧ j = 34) ∨ (q = o0 + 1 ∧ j = 75) ∨ (q = o0 + 8 ∧ j = 1) ∨ (q = o0 + 8 ∧ j = 2) ∨ (q = o0 + 8 ∧ j = 3) ∨ (q = o0 + 8 ∧ j = 4) ∨ (q = o0 + 8 ∧ j = 5) ∨ (q = o0 + 8 ∧ j = 6) ∨ (q = o0 + 8 ∧ j = 7) ∨ (q = o0 + 8 ∧ j = 8) ∨ (q = o0 + 8 ∧ j = 9)) → I2 q j = I0 q j := fc_X_fills (fun q j => q = o0 + 7 ∨ q = o0 + 9 ∨ q = o0 + 10 ∨ q = o0 + 11 ∨ q = o0 + 12 ∨ (q = o0 ∧ j = 30) ∨ (q = o0 ∧ j = 31) ∨ (q = o0 ∧ j = 32) ∨ (q = o0 ∧ j = 33) ∨ (q = o0 ∧ j = 34) ∨ (q = o0 + 1 ∧ j = 75) ∨ (q = o0 + 8 ∧ j = 1) ∨ (q = o0 + 8 ∧ j = 2) ∨ (q = o0 + 8 ∧ j = 3) ∨ (q = o0 + 8 ∧ j = 4) ∨ (q = o0 + 8 ∧ j = 5) ∨ (q = o0 + 8 ∧ j = 6) ∨ (q = o0 + 8 ∧ j = 7) ∨ (q = o0 + 8 ∧ j = 8) ∨ (q = o0 + 8 ∧ j = 9)) fu o0 I0 (fun _ => by simp) (fun _ => by simp) (fun _ => by simp) (fun _ => by simp) (fun _ => by simp) (by simp) (by simp) (by simp) (by simp) (by simp) (by simp) (by simp) (by simp) (by simp) (by simp) (by simp) (by simp) (by simp) (by simp) (by simp) c_2
  have hc2 := pI2.2 70 (by decide)
  refine sat_zb (og_X_goesOff fu o0 I2 hfu hRI2 (by first | omega | (simp (disch := omega) only [wr32_i2, wdiv_i2, wrem_i2]; omega) | grind | grind [wr32]) (by first | omega | (simp (disch := omega) only [wr32_i2, wdiv_i2, wrem_i2]; omega) | grind | grind [wr32])) (fun y4 I5 c_3 ⟨⟨ay4, by4⟩, hRI5, pI5⟩ => ?_)
  have fI5 : ∀ q j, ¬ (q = o0 + 1 ∨ q = o0 + 13 ∨ q = o0 + 14 ∨ (q = o0 ∧ j = 24) ∨ (q = o0 ∧ j = 35)) → I5 q j = I2 q j := fc_X_goesOff (fun q j => q = o0 + 1 ∨ q = o0 + 13 ∨ q = o0 + 14 ∨ (q = o0 ∧ j = 24) ∨ (q = o0 ∧ j = 35)) fu o0 I2 (fun _ => by simp) (fun _ => by simp) (fun _ => by simp) (by simp) (by simp) c_3
  exact sat_zr ⟨⟨ay4, by4⟩, hRI5, ⟨pI5.1, pI5.2.1.trans (by omega), pI5.2.2.1, fun j h1 h2 h3 => (pI5.2.2.2.1 j h1 h2 h3).trans (pI2.2 j (by omega)), by rw [pI5.2.2.2.2, pI2.2 4 (by decide), pI2.2 0 (by decide)]⟩⟩
theorem og_X_turn_2 {Ib : IMem} (fu : Nat) (k_77 : IMem → Res) (o0 : Nat) (hfu : 5000000000 < fu) {Q_ : Int → IMem → Prop} (hk_77 : ∀ (I9 : IMem), GX o0 I9 → ((∀ q j, ¬ (q = o0 + 1 ∨ q = o0 + 7 ∨ (q = o0 ∧ j = 24) ∨ (q = o0 + 8 ∧ j = 1) ∨ (q = o0 + 8 ∧ j = 7) ∨ (q = o0 + 8 ∧ j = 10) ∨ (q = o0 + 8 ∧ j = 11)) → I9 q j = Ib q j) ∧ (I9 (o0 + 1) 70 = Ib (o0 + 1) 70 ∧ KPQ o0 Ib I9 ∧ I9 (o0 + 1) 0 = sdT (chX o0 Ib) 8 (Ib (o0 + 1) 0))) → sat (k_77 I9) Q_) (hret : ∀ v I, inr v → GX o0 I → ((∀ q j, ¬ (q = o0 + 1 ∨ q = o0 + 7 ∨ (q = o0 ∧ j = 24) ∨ (q = o0 + 8 ∧ j = 1) ∨ (q = o0 + 8 ∧ j = 7) ∨ (q = o0 + 8 ∧ j = 10) ∨ (q = o0 + 8 ∧ j = 11)) → I q j = Ib q j) ∧ (False)) → sat (zr v I) Q_) : ∀ (m : Nat) (w1 : Int) (I0 : IMem), inr w1 → GX o0 I0 → ((∀ q j, ¬ (q = o0 + 1 ∨ q = o0 + 7 ∨ (q = o0 ∧ j = 24) ∨ (q = o0 + 8 ∧ j = 1) ∨ (q = o0 + 8 ∧ j = 7) ∨ (q = o0 + 8 ∧ j = 10) ∨ (q = o0 + 8 ∧ j = 11)) → I0 q j = Ib q j) ∧ (0 ≤ w1 ∧ w1 ≤ 8 ∧ I0 (o0 + 1) 70 = Ib (o0 + 1) 70 ∧ KPQ o0 Ib I0 ∧ I0 (o0 + 1) 0 = sdT (chX o0 Ib) w1.toNat (Ib (o0 + 1) 0))) → (8 - w1).toNat < m → sat (f_X_turn_2 fu k_77 o0 m w1 I0) Q_ := by
  intro m
  induction m with
  | zero => intro w1 I0 _ _ _ h0; exact absurd h0 (Nat.not_lt_zero _)
  | succ m hR_ =>
    intro w1 I0 ⟨aw1, bw1⟩ hRI0 hinv hmeas
    have fI0 := hinv.1; replace hinv := hinv.2
    show sat (fb_X_turn_2 fu k_77 o0 (f_X_turn_2 fu k_77 o0 m) w1 I0) Q_
    unfold fb_X_turn_2
    refine sat_ite (fun q_1 => ?_) (fun q_1 => ?_)
    · refine sat_zl (wr32_in _) (fun x1 hx1 ax1 bx1 => ?_)
      try simp (disch := omega) only [wr32_i2, wdiv_i2, wrem_i2] at hx1
      refine sat_zl (wr32_in _) (fun x2 hx2 ax2 bx2 => ?_)
      try simp (disch := omega) only [wr32_i2, wdiv_i2, wrem_i2] at hx2
      have hch : chX o0 Ib w1.toNat = I0 (o0 + 1) x2.toNat := by unfold chX; rw [show x2.toNat = 29 + 4 * w1.toNat by omega]; exact (hinv.2.2.2.1 _ (by omega) (by omega) (by omega)).symm
      have hcm := hRI0.2.1.2.2.2.1 w1.toNat (by omega)
      refine sat_zg (by first | omega | grind | grind [wr32]) (fun g_2 => ?_)
      refine sat_zj (fun k3 ek3 => ?_)
      have hk3 : ∀ (I4 : IMem), GX o0 I4 → ((∀ q j, ¬ (q = o0 + 1 ∨ q = o0 + 7 ∨ (q = o0 ∧ j = 24) ∨ (q = o0 + 8 ∧ j = 1) ∨ (q = o0 + 8 ∧ j = 7) ∨ (q = o0 + 8 ∧ j = 10) ∨ (q = o0 + 8 ∧ j = 11)) → I4 q j = I0 q j) ∧ (I4 (o0 + 1) 70 = I0 (o0 + 1) 70 ∧ KPQ o0 I0 I4 ∧ I4 (o0 + 1) 0 = if 0 < I0 (o0 + 1) x2.toNat then lcg (I0 (o0 + 1) 0) else I0 (o0 + 1) 0)) → sat (k3 I4) Q_ := by
        intro I4  hRI4 jk3
        subst ek3
        have fI4 := jk3.1; replace jk3 := jk3.2
        refine sat_zl (wr32_in _) (fun x5 hx5 ax5 bx5 => ?_)
        try simp (disch := omega) only [wr32_i2, wdiv_i2, wrem_i2] at hx5
        exact hR_ x5 I4 ⟨ax5, bx5⟩ hRI4 ⟨(by intro q j hq; grind), ⟨by omega, by omega, jk3.1.trans hinv.2.2.1, kp_t hinv.2.2.2.1 jk3.2.1, by rw [show x5 = w1 + 1 by omega, sdT_s _ _ _ hinv.1, ← hinv.2.2.2.2, jk3.2.2, hch]⟩⟩ (by first | omega | (simp (disch := omega) only [wr32_i2, wdiv_i2, wrem_i2]; omega) | grind | grind [wr32])
      clear ek3
      have ⟨r_3a, r_3b⟩ : -2147483648 ≤ I0 (o0 + 1) x2.toNat ∧ I0 (o0 + 1) x2.toNat < 2147483648 := hRI0.1 (o0 + 1) x2.toNat
      try have r_3many := gx_many hRI0 x2.toNat (by omega) (by omega)
      try have r_3seen := gx_seen hRI0 x2.toNat (by omega) (by omega)
      try have r_3part := gx_part hRI0 x2.toNat (by omega) (by omega)
      try have r_3rows := gx_rows hRI0 x2.toNat (by omega) (by omega) (by omega)
      refine sat_ite (fun q_4 => ?_) (fun q_4 => ?_)
      · refine sat_zb (ok_X_draw fu o0 1000 I0 hfu hRI0 (lit_in rfl) (by first | omega | (simp (disch := omega) only [wr32_i2, wdiv_i2, wrem_i2]; omega) | grind | grind [wr32])) (fun y6 I7 c_5 ⟨⟨ay6, by6⟩, hRI7, pI7⟩ => ?_)
        have fI7 : ∀ q j, ¬ ((q = o0 + 1 ∧ j = 0)) → I7 q j = I0 q j := fc_X_draw (fun q j => (q = o0 + 1 ∧ j = 0)) fu o0 1000 I0 (by simp) c_5
        have hs7 : I7 (o0 + 1) 0 = lcg (I0 (o0 + 1) 0) := sd_draw c_5
        have hc1 : 1 ≤ I7 (o0 + 1) x1.toNat ∧ I7 (o0 + 1) x1.toNat ≤ 8 := by rw [fI7 _ _ (by omega), show x1.toNat = 26 + 4 * w1.toNat by omega]; exact hcm (by rw [show 29 + 4 * w1.toNat = x2.toNat by omega]; assumption)
        refine sat_zl (wr32_in _) (fun x9 hx9 ax9 bx9 => ?_)
        try simp (disch := omega) only [wr32_i2, wdiv_i2, wrem_i2] at hx9
        refine sat_zg (by first | omega | grind | grind [wr32]) (fun g_6 => ?_)
        have ⟨r_7a, r_7b⟩ : -2147483648 ≤ I7 (o0 + 1) x9.toNat ∧ I7 (o0 + 1) x9.toNat < 2147483648 := hRI7.1 (o0 + 1) x9.toNat
        try have r_7many := gx_many hRI7 x9.toNat (by omega) (by omega)
        try have r_7seen := gx_seen hRI7 x9.toNat (by omega) (by omega)
        try have r_7part := gx_part hRI7 x9.toNat (by omega) (by omega)
        try have r_7rows := gx_rows hRI7 x9.toNat (by omega) (by omega) (by omega)
        refine sat_ite (fun q_8 => ?_) (fun q_8 => ?_)
        · refine sat_zg (by first | omega | grind | grind [wr32]) (fun g_9 => ?_)
          refine sat_zl (wr32_in _) (fun x10 hx10 ax10 bx10 => ?_)
          try simp (disch := omega) only [wr32_i2, wdiv_i2, wrem_i2] at hx10
          refine sat_zg (by first | omega | grind | grind [wr32]) (fun g_10 => ?_)
          refine sat_zl (wr32_in _) (fun x11 hx11 ax11 bx11 => ?_)
          try simp (disch := omega) only [wr32_i2, wdiv_i2, wrem_i2] at hx11
          refine sat_zg (by first | omega | grind | grind [wr32]) (fun g_11 => ?_)
          have ⟨r_13a, r_13b⟩ : -2147483648 ≤ I7 (o0 + 1) x1.toNat ∧ I7 (o0 + 1) x1.toNat < 2147483648 := hRI7.1 (o0 + 1) x1.toNat
          try have r_13many := gx_many hRI7 x1.toNat (by omega) (by omega)
          try have r_13seen := gx_seen hRI7 x1.toNat (by omega) (by omega)
          try have r_13part := gx_part hRI7 x1.toNat (by omega) (by omega)
          try have r_13rows := gx_rows hRI7 x1.toNat (by omega) (by omega) (by omega)
          have ⟨r_14a, r_14b⟩ : -2147483648 ≤ I7 (o0 + 1) x10.toNat ∧ I7 (o0 + 1) x10.toNat < 2147483648 := hRI7.1 (o0 + 1) x10.toNat
          try have r_14many := gx_many hRI7 x10.toNat (by omega) (by omega)
          try have r_14seen := gx_seen hRI7 x10.toNat (by omega) (by omega)
          try have r_14part := gx_part hRI7 x10.toNat (by omega) (by omega)
          try have r_14rows := gx_rows hRI7 x10.toNat (by omega) (by omega) (by omega)
          have ⟨r_15a, r_15b⟩ : -2147483648 ≤ I7 (o0 + 1) x11.toNat ∧ I7 (o0 + 1) x11.toNat < 2147483648 := hRI7.1 (o0 + 1) x11.toNat
          try have r_15many := gx_many hRI7 x11.toNat (by omega) (by omega)
          try have r_15seen := gx_seen hRI7 x11.toNat (by omega) (by omega)
          try have r_15part := gx_part hRI7 x11.toNat (by omega) (by omega)
          try have r_15rows := gx_rows hRI7 x11.toNat (by omega) (by omega) (by omega)
          refine sat_zb (ok_X_comes fu o0 (I7 (o0 + 1) x1.toNat) (I7 (o0 + 1) x10.toNat) (I7 (o0 + 1) x11.toNat) I7 hfu hRI7 (hRI7.1 (o0 + 1) x1.toNat) (hRI7.1 (o0 + 1) x10.toNat) (hRI7.1 (o0 + 1) x11.toNat) (by first | omega | (simp (disch := omega) only [wr32_i2, wdiv_i2, wrem_i2]; omega) | grind | grind [wr32])) (fun y12 I13 c_12 ⟨⟨ay12, by12⟩, hRI13, pI13⟩ => ?_)
          have fI13 : ∀ q j, ¬ (q = o0 + 1 ∨ q = o0 + 7 ∨ (q = o0 ∧ j = 24) ∨ (q = o0 + 8 ∧ j = 1) ∨ (q = o0 + 8 ∧ j = 7) ∨ (q = o0 + 8 ∧ j = 10) ∨ (q = o0 + 8 ∧ j = 11)) → I13 q j = I7 q j := fc_X_comes (fun q j => q = o0 + 1 ∨ q = o0 + 7 ∨ (q = o0 ∧ j = 24) ∨ (q = o0 + 8 ∧ j = 1) ∨ (q = o0 + 8 ∧ j = 7) ∨ (q = o0 + 8 ∧ j = 10) ∨ (q = o0 + 8 ∧ j = 11)) fu o0 (I7 (o0 + 1) x1.toNat) (I7 (o0 + 1) x10.toNat) (I7 (o0 + 1) x11.toNat) I7 (fun _ => by simp) (fun _ => by simp) (by simp) (by simp) (by simp) (by simp) (by simp) c_12
          exact hk3 I13 hRI13 ⟨(by intro q j hq; grind), ⟨(pI13.1 70 (by decide) (by decide)).trans (fI7 _ _ (by omega)), fun j h1 h2 h3 => (pI13.1 j (by omega) h3).trans (fI7 _ _ (by omega)), by rw [if_pos q_4, pI13.1 0 (by decide) (by decide)]; exact hs7⟩⟩
        · exact hk3 I7 hRI7 ⟨(by intro q j hq; grind), ⟨fI7 _ _ (by omega), fun j h1 h2 h3 => fI7 _ _ (by omega), by rw [if_pos q_4]; exact hs7⟩⟩
      · exact hk3 I0 hRI0 ⟨(fun _ _ _ => rfl), ⟨rfl, fun _ _ _ _ => rfl, by rw [if_neg q_4]⟩⟩
    · exact hk_77 I0 hRI0 ⟨fI0, hinv.2.2.1, hinv.2.2.2.1, (by have h8 : w1.toNat = 8 := (by omega); rw [← h8]; exact hinv.2.2.2.2)⟩
theorem og_X_turn (fu : Nat) (o0 : Nat) (I0 : IMem) (hfu : 5000000000 < fu) (hRI0 : GX o0 I0) (hc : I0 (o0 + 1) 70 < 2000000000) : sat (f_X_turn fu o0 I0) (fun v I => inr v ∧ GX o0 I ∧ (I o0 35 = 0 ∧ I (o0 + 1) 70 = I0 (o0 + 1) 70 + 1 ∧ (∀ k : Nat, k < 240 → I (o0 + 13) k = 0) ∧ KPQ o0 I0 I ∧ I (o0 + 1) 0 = sdG (I0 (o0 + 1) 4) (sdT (chX o0 I0) 8 (I0 (o0 + 1) 0)))) := by
  unfold f_X_turn
  refine og_X_turn_2 (Ib := I0) fu _ o0 hfu ?_ (fun v I h1 h2 h3 => sat_zr ⟨h1, h2, (by first | exact h3.elim | exact h3.2.elim)⟩) fu 0 I0 (lit_in rfl) hRI0 ⟨(fun _ _ _ => rfl), ⟨by omega, by omega, rfl, fun _ _ _ _ => rfl, rfl⟩⟩ (by first | omega | (simp (disch := omega) only [wr32_i2, wdiv_i2, wrem_i2]; omega) | grind | grind [wr32])
  · intro I15  hRI15 xI15
    have fI15 := xI15.1; replace xI15 := xI15.2
    refine sat_zb (og_X_chair fu o0 I15 hfu hRI15 (by first | omega | (simp (disch := omega) only [wr32_i2, wdiv_i2, wrem_i2]; omega) | grind | grind [wr32])) (fun y16 I17 c_1 ⟨⟨ay16, by16⟩, hRI17, pI17⟩ => ?_)
    have fI17 : ∀ q j, ¬ (q = o0 + 1 ∨ q = o0 + 7 ∨ q = o0 + 9 ∨ q = o0 + 10 ∨ q = o0 + 11 ∨ q = o0 + 12 ∨ q = o0 + 13 ∨ q = o0 + 14 ∨ (q = o0 ∧ j = 24) ∨ (q = o0 ∧ j = 30) ∨ (q = o0 ∧ j = 31) ∨ (q = o0 ∧ j = 32) ∨ (q = o0 ∧ j = 33) ∨ (q = o0 ∧ j = 34) ∨ (q = o0 ∧ j = 35) ∨ (q = o0 + 8 ∧ j = 1) ∨ (q = o0 + 8 ∧ j = 2) ∨ (q = o0 + 8 ∧ j = 3) ∨ (q = o0 + 8 ∧ j = 4) ∨ (q = o0 + 8 ∧ j = 5) ∨ (q = o0 + 8 ∧ j = 6) ∨ (q = o0 + 8 ∧ j = 7) ∨ (q = o0 + 8 ∧ j = 8) ∨ (q = o0 + 8 ∧ j = 9)) → I17 q j = I15 q j := fc_X_chair (fun q j => q = o0 + 1 ∨ q = o0 + 7 ∨ q = o0 + 9 ∨ q = o0 + 10 ∨ q = o0 + 11 ∨ q = o0 + 12 ∨ q = o0 + 13 ∨ q = o0 + 14 ∨ (q = o0 ∧ j = 24) ∨ (q = o0 ∧ j = 30) ∨ (q = o0 ∧ j = 31) ∨ (q = o0 ∧ j = 32) ∨ (q = o0 ∧ j = 33) ∨ (q = o0 ∧ j = 34) ∨ (q = o0 ∧ j = 35) ∨ (q = o0 + 8 ∧ j = 1) ∨ (q = o0 + 8 ∧ j = 2) ∨ (q = o0 + 8 ∧ j = 3) ∨ (q = o0 + 8 ∧ j = 4) ∨ (q = o0 + 8 ∧ j = 5) ∨ (q = o0 + 8 ∧ j = 6) ∨ (q = o0 + 8 ∧ j = 7) ∨ (q = o0 + 8 ∧ j = 8) ∨ (q = o0 + 8 ∧ j = 9)) fu o0 I15 (fun _ => by simp) (fun _ => by simp) (fun _ => by simp) (fun _ => by simp) (fun _ => by simp) (fun _ => by simp) (fun _ => by simp) (fun _ => by simp) (by simp) (by simp) (by simp) (by simp) (by simp) (by simp) (by simp) (by simp) (by simp) (by simp) (by simp) (by simp) (by simp) (by simp) (by simp) (by simp) c_1
    exact sat_zr ⟨⟨ay16, by16⟩, hRI17, ⟨pI17.1, pI17.2.1.trans (by omega), pI17.2.2.1, kp_t xI15.2.1 pI17.2.2.2.1, by rw [pI17.2.2.2.2, xI15.2.1 4 (by decide) (by decide) (by decide), xI15.2.2]⟩⟩
theorem og_X_run_16 {Ib : IMem} (fu : Nat) (o0 : Nat) (p1 : Int) (hfu : 5000000000 < fu) (qp1 : inr p1) (hp : 1 ≤ p1 ∧ p1 ≤ 60) (hc : Ib (o0 + 1) 70 < 1900000000) {Q_ : Int → IMem → Prop} (hret : ∀ v I, inr v → GX o0 I → ((∀ q j, ¬ (q = o0 + 1 ∨ q = o0 + 7 ∨ q = o0 + 9 ∨ q = o0 + 10 ∨ q = o0 + 11 ∨ q = o0 + 12 ∨ q = o0 + 13 ∨ q = o0 + 14 ∨ (q = o0 ∧ j = 24) ∨ (q = o0 ∧ j = 30) ∨ (q = o0 ∧ j = 31) ∨ (q = o0 ∧ j = 32) ∨ (q = o0 ∧ j = 33) ∨ (q = o0 ∧ j = 34) ∨ (q = o0 ∧ j = 35) ∨ (q = o0 + 8 ∧ j = 1) ∨ (q = o0 + 8 ∧ j = 2) ∨ (q = o0 + 8 ∧ j = 3) ∨ (q = o0 + 8 ∧ j = 4) ∨ (q = o0 + 8 ∧ j = 5) ∨ (q = o0 + 8 ∧ j = 6) ∨ (q = o0 + 8 ∧ j = 7) ∨ (q = o0 + 8 ∧ j = 8) ∨ (q = o0 + 8 ∧ j = 9) ∨ (q = o0 + 8 ∧ j = 10) ∨ (q = o0 + 8 ∧ j = 11)) → I q j = Ib q j) ∧ (I (o0 + 1) 70 ≤ Ib (o0 + 1) 70 + 60 ∧ (I o0 35 = 0 ∧ (∀ k : Nat, k < 240 → I (o0 + 13) k = 0)) ∧ KPQ o0 Ib I ∧ I (o0 + 1) 0 = sdR (chX o0 Ib) (Ib (o0 + 1) 4) p1.toNat (Ib (o0 + 1) 0))) → sat (zr v I) Q_) : ∀ (m : Nat) (w2 : Int) (w3 : Int) (I0 : IMem), inr w2 → inr w3 → GX o0 I0 → ((∀ q j, ¬ (q = o0 + 1 ∨ q = o0 + 7 ∨ q = o0 + 9 ∨ q = o0 + 10 ∨ q = o0 + 11 ∨ q = o0 + 12 ∨ q = o0 + 13 ∨ q = o0 + 14 ∨ (q = o0 ∧ j = 24) ∨ (q = o0 ∧ j = 30) ∨ (q = o0 ∧ j = 31) ∨ (q = o0 ∧ j = 32) ∨ (q = o0 ∧ j = 33) ∨ (q = o0 ∧ j = 34) ∨ (q = o0 ∧ j = 35) ∨ (q = o0 + 8 ∧ j = 1) ∨ (q = o0 + 8 ∧ j = 2) ∨ (q = o0 + 8 ∧ j = 3) ∨ (q = o0 + 8 ∧ j = 4) ∨ (q = o0 + 8 ∧ j = 5) ∨ (q = o0 + 8 ∧ j = 6) ∨ (q = o0 + 8 ∧ j = 7) ∨ (q = o0 + 8 ∧ j = 8) ∨ (q = o0 + 8 ∧ j = 9) ∨ (q = o0 + 8 ∧ j = 10) ∨ (q = o0 + 8 ∧ j = 11)) → I0 q j = Ib q j) ∧ (w3 ≤ p1 ∧ KPQ o0 Ib I0 ∧ I0 (o0 + 1) 0 = sdR (chX o0 Ib) (Ib (o0 + 1) 4) w3.toNat (Ib (o0 + 1) 0) ∧ 0 ≤ w3 ∧ w3 ≤ 60 ∧ I0 (o0 + 1) 70 = Ib (o0 + 1) 70 + w3 ∧ (w3 = 0 ∨ (I0 o0 35 = 0 ∧ (∀ k : Nat, k < 240 → I0 (o0 + 13) k = 0))))) → (p1 - w3).toNat < m → sat (f_X_run_16 fu o0 p1 m w2 w3 I0) Q_ := by
  intro m
  induction m with
  | zero => intro w2 w3 I0 _ _ _ _ h0; exact absurd h0 (Nat.not_lt_zero _)
  | succ m hR_ =>
    intro w2 w3 I0 ⟨aw2, bw2⟩ ⟨aw3, bw3⟩ hRI0 hinv hmeas
    have fI0 := hinv.1; replace hinv := hinv.2
    show sat (fb_X_run_16 fu o0 p1 (f_X_run_16 fu o0 p1 m) w2 w3 I0) Q_
    unfold fb_X_run_16
    obtain ⟨ap1, bp1⟩ := qp1
    refine sat_ite (fun q_1 => ?_) (fun q_1 => ?_)
    · refine sat_zb (og_X_turn fu o0 I0 hfu hRI0 (by first | omega | (simp (disch := omega) only [wr32_i2, wdiv_i2, wrem_i2]; omega) | grind | grind [wr32])) (fun y4 I5 c_2 ⟨⟨ay4, by4⟩, hRI5, pI5⟩ => ?_)
      have fI5 : ∀ q j, ¬ (q = o0 + 1 ∨ q = o0 + 7 ∨ q = o0 + 9 ∨ q = o0 + 10 ∨ q = o0 + 11 ∨ q = o0 + 12 ∨ q = o0 + 13 ∨ q = o0 + 14 ∨ (q = o0 ∧ j = 24) ∨ (q = o0 ∧ j = 30) ∨ (q = o0 ∧ j = 31) ∨ (q = o0 ∧ j = 32) ∨ (q = o0 ∧ j = 33) ∨ (q = o0 ∧ j = 34) ∨ (q = o0 ∧ j = 35) ∨ (q = o0 + 8 ∧ j = 1) ∨ (q = o0 + 8 ∧ j = 2) ∨ (q = o0 + 8 ∧ j = 3) ∨ (q = o0 + 8 ∧ j = 4) ∨ (q = o0 + 8 ∧ j = 5) ∨ (q = o0 + 8 ∧ j = 6) ∨ (q = o0 + 8 ∧ j = 7) ∨ (q = o0 + 8 ∧ j = 8) ∨ (q = o0 + 8 ∧ j = 9) ∨ (q = o0 + 8 ∧ j = 10) ∨ (q = o0 + 8 ∧ j = 11)) → I5 q j = I0 q j := fc_X_turn (fun q j => q = o0 + 1 ∨ q = o0 + 7 ∨ q = o0 + 9 ∨ q = o0 + 10 ∨ q = o0 + 11 ∨ q = o0 + 12 ∨ q = o0 + 13 ∨ q = o0 + 14 ∨ (q = o0 ∧ j = 24) ∨ (q = o0 ∧ j = 30) ∨ (q = o0 ∧ j = 31) ∨ (q = o0 ∧ j = 32) ∨ (q = o0 ∧ j = 33) ∨ (q = o0 ∧ j = 34) ∨ (q = o0 ∧ j = 35) ∨ (q = o0 + 8 ∧ j = 1) ∨ (q = o0 + 8 ∧ j = 2) ∨ (q = o0 + 8 ∧ j = 3) ∨ (q = o0 + 8 ∧ j = 4) ∨ (q = o0 + 8 ∧ j = 5) ∨ (q = o0 + 8 ∧ j = 6) ∨ (q = o0 + 8 ∧ j = 7) ∨ (q = o0 + 8 ∧ j = 8) ∨ (q = o0 + 8 ∧ j = 9) ∨ (q = o0 + 8 ∧ j = 10) ∨ (q = o0 + 8 ∧ j = 11)) fu o0 I0 (fun _ => by simp) (fun _ => by simp) (fun _ => by simp) (fun _ => by simp) (fun _ => by simp) (fun _ => by simp) (fun _ => by simp) (fun _ => by simp) (by simp) (by simp) (by simp) (by simp) (by simp) (by simp) (by simp) (by simp) (by simp) (by simp) (by simp) (by simp) (by simp) (by simp) (by simp) (by simp) (by simp) (by simp) c_2
      refine sat_zl (wr32_in _) (fun x7 hx7 ax7 bx7 => ?_)
      try simp (disch := omega) only [wr32_i2, wdiv_i2, wrem_i2] at hx7
      refine sat_zl (wr32_in _) (fun x8 hx8 ax8 bx8 => ?_)
      try simp (disch := omega) only [wr32_i2, wdiv_i2, wrem_i2] at hx8
      exact hR_ x7 x8 I5 ⟨ax7, bx7⟩ ⟨ax8, bx8⟩ hRI5 ⟨(by intro q j hq; grind), ⟨by omega, kp_t hinv.2.1 pI5.2.2.2.1, by rw [show x8 = w3 + 1 by omega, sdR_s _ _ _ _ hinv.2.2.2.1, pI5.2.2.2.2, hinv.2.1 4 (by decide) (by decide) (by decide), sdT_eq 8 _ (fun j hj => show chX o0 I0 j = chX o0 Ib j from hinv.2.1 _ (by omega) (by omega) (by omega)), hinv.2.2.1], by omega, by omega, by omega, Or.inr ⟨pI5.1, pI5.2.2.1⟩⟩⟩ (by first | omega | (simp (disch := omega) only [wr32_i2, wdiv_i2, wrem_i2]; omega) | grind | grind [wr32])
    · exact hret _ _ ⟨aw2, bw2⟩ hRI0 ⟨(by intro q j hq; exact fI0 q j hq), by omega, hinv.2.2.2.2.2.2.resolve_left (by omega), hinv.2.1, (by have h8 : w3 = p1 := (by omega); rw [← h8]; exact hinv.2.2.1)⟩
theorem og_X_run (fu : Nat) (o0 : Nat) (a1 : Int) (I0 : IMem) (hfu : 5000000000 < fu) (hRI0 : GX o0 I0) (qa1 : inr a1) (hc : I0 (o0 + 1) 70 < 1900000000) : sat (f_X_run fu o0 a1 I0) (fun v I => inr v ∧ GX o0 I ∧ (I (o0 + 1) 70 ≤ I0 (o0 + 1) 70 + 60 ∧ ((I o0 35 = 0 ∧ (∀ k : Nat, k < 240 → I (o0 + 13) k = 0)) ∨ I = I0) ∧ KPQ o0 I0 I ∧ I (o0 + 1) 0 = if 1 ≤ a1 ∧ a1 ≤ 60 then sdR (chX o0 I0) (I0 (o0 + 1) 4) a1.toNat (I0 (o0 + 1) 0) else I0 (o0 + 1) 0)) := by
  unfold f_X_run
  obtain ⟨aa1, ba1⟩ := qa1
  refine sat_zb (ok_X_isIn fu a1 1 60 I0 hfu hRI0.1 ⟨aa1, ba1⟩ (lit_in rfl) (lit_in rfl)) (fun y1 I2 c_1 ⟨⟨ay1, by1⟩, _, pI2⟩ => ?_)
  have eI2 := pI2.1.symm; replace pI2 := pI2.2; subst eI2
  refine sat_ite (fun q_2 => ?_) (fun q_2 => ?_)
  · exact sat_zr ⟨(lit_in rfl), hRI0, ⟨by omega, Or.inr rfl, fun _ _ _ _ => rfl, by rw [if_neg (by omega)]⟩⟩
  · refine og_X_run_16 (Ib := I0) fu o0 a1 hfu ⟨aa1, ba1⟩ (by first | omega | (simp (disch := omega) only [wr32_i2, wdiv_i2, wrem_i2]; omega) | grind | grind [wr32]) (by first | omega | (simp (disch := omega) only [wr32_i2, wdiv_i2, wrem_i2]; omega) | grind | grind [wr32]) (fun v I h1 h2 h3 => sat_zr ⟨h1, h2, ⟨h3.2.1, Or.inl h3.2.2.1, h3.2.2.2.1, by rw [if_pos (by omega)]; exact h3.2.2.2.2⟩⟩) fu 0 0 I0 (lit_in rfl) (lit_in rfl) hRI0 ⟨(fun _ _ _ => rfl), ⟨by omega, fun _ _ _ _ => rfl, rfl, by omega, by omega, by omega, Or.inl rfl⟩⟩ (by first | omega | (simp (disch := omega) only [wr32_i2, wdiv_i2, wrem_i2]; omega) | grind | grind [wr32])
