/-! a whole piece of code on both sides -/
def SEG (c : Nat → Int) : Nat → List Int → Prop
  | _, [] => True
  | i, x :: t => c i = x ∧ SEG c (i + 1) t
theorem seg_app {c : Nat → Int} : ∀ (a d : List Int) (i : Nat), SEG c i (a ++ d) → SEG c i a ∧ SEG c (i + a.length) d := by
  intro a
  induction a with
  | nil => intro d i h; exact ⟨trivial, by simpa using h⟩
  | cons x t ih =>
    intro d i h
    obtain ⟨h1, h2⟩ := (h : c i = x ∧ SEG c (i + 1) (t ++ d))
    obtain ⟨h3, h4⟩ := ih d (i + 1) h2
    refine ⟨⟨h1, h3⟩, ?_⟩
    simp only [List.length_cons]
    rw [show i + (t.length + 1) = i + 1 + t.length by omega]
    exact h4
theorem seg_eq {c d : Nat → Int} : ∀ (l : List Int) (i : Nat), (∀ j, i ≤ j → j < i + l.length → d j = c j) → SEG c i l → SEG d i l := by
  intro l
  induction l with
  | nil => intro _ _ _; trivial
  | cons x t ih =>
    intro i h hs
    simp only [List.length_cons] at h
    exact ⟨(h i (Nat.le_refl _) (by omega)).trans hs.1, ih (i + 1) (fun j a b => h j (by omega) (by omega)) hs.2⟩
theorem seg_of {c : Nat → Int} : ∀ (l : List Int) (i : Nat), (∀ t, t < l.length → c (i + t) = l.getD t 0) → SEG c i l := by
  intro l
  induction l with
  | nil => intro _ _; trivial
  | cons x t ih =>
    intro i h
    refine ⟨by have := h 0 (by simp); simpa using this, ih (i + 1) (fun u hu => ?_)⟩
    have := h (u + 1) (by simp only [List.length_cons]; omega)
    rw [show i + (u + 1) = i + 1 + u by omega] at this
    simpa using this
def SEG2 (c : Nat → Int) : Nat → List (Int × Int) → Prop
  | _, [] => True
  | i, x :: t => c (2 * i) = x.1 ∧ c (2 * i + 1) = x.2 ∧ SEG2 c (i + 1) t
theorem seg2_app {c : Nat → Int} : ∀ (a d : List (Int × Int)) (i : Nat), SEG2 c i (a ++ d) → SEG2 c i a ∧ SEG2 c (i + a.length) d := by
  intro a
  induction a with
  | nil => intro d i h; exact ⟨trivial, by simpa using h⟩
  | cons x t ih =>
    intro d i h
    obtain ⟨h1, h1', h2⟩ := (h : c (2 * i) = x.1 ∧ c (2 * i + 1) = x.2 ∧ SEG2 c (i + 1) (t ++ d))
    obtain ⟨h3, h4⟩ := ih d (i + 1) h2
    refine ⟨⟨h1, h1', h3⟩, ?_⟩
    simp only [List.length_cons]
    rw [show i + (t.length + 1) = i + 1 + t.length by omega]
    exact h4
theorem seg2_eq {c d : Nat → Int} : ∀ (l : List (Int × Int)) (i : Nat), (∀ j, 2 * i ≤ j → j < 2 * (i + l.length) → d j = c j) → SEG2 c i l → SEG2 d i l := by
  intro l
  induction l with
  | nil => intro _ _ _; trivial
  | cons x t ih =>
    intro i h hs
    simp only [List.length_cons] at h
    exact ⟨(h _ (by omega) (by omega)).trans hs.1, (h _ (by omega) (by omega)).trans hs.2.1, ih (i + 1) (fun j a b => h j (by omega) (by omega)) hs.2.2⟩
theorem seg2_of {c : Nat → Int} : ∀ (l : List (Int × Int)) (i : Nat), (∀ t, t < l.length → c (2 * (i + t)) = (l.getD t (0, 0)).1 ∧ c (2 * (i + t) + 1) = (l.getD t (0, 0)).2) → SEG2 c i l := by
  intro l
  induction l with
  | nil => intro _ _; trivial
  | cons x t ih =>
    intro i h
    have h0 := h 0 (by simp)
    simp only [Nat.add_zero, List.getD_cons_zero] at h0
    refine ⟨h0.1, h0.2, ih (i + 1) (fun u hu => ?_)⟩
    have := h (u + 1) (by simp only [List.length_cons]; omega)
    rw [show i + (u + 1) = i + 1 + u by omega] at this
    simpa using this
theorem tv_run {B : Nat} {s : Int} (F : Nat → Int) : ∀ (it : List (Int × Int)) (ty ty2 : List Bool) (st : List Int), tyR B s it ty = some ty2 → TV st ty → TV (evL F it st) ty2 := by
  intro it
  induction it with
  | nil => intro ty ty2 st h hv; cases h; exact hv
  | cons x t ih =>
    intro ty ty2 st h hv
    obtain ⟨_, _, ty1, h1, h2, _⟩ := ty_step h F hv
    exact ih ty1 ty2 _ h1 h2
section
variable {Q : Int → IMem → Prop} {fu : Nat}
theorem cm_run {B : Nat} {s : Int} {p3 : Int} (k : Nat) (hk : k < 5) (hB : B ≤ 400) : ∀ (it : List (Int × Int)) (m i n : Nat) (J : IMem) (ty ty2 : List Bool) (st : List Int), SEG2 (fun j => J 1 (1910 + 820 * k + j)) i it → tyR B s it ty = some ty2 → TV st ty → SK (J 7) st → st.length = n → i + it.length ≤ 400 → ((i + it.length : Nat) : Int) ≤ p3 →
    (∀ (m : Nat) (J' : IMem), (∀ q j, q ≠ 7 → J' q j = J q j) → SK (J' 7) (evL (J 8) it st) → par (f_X_comesTo_6 fu 0 (k : Int) p3 m ((evL (J 8) it st).length : Int) ((i + it.length : Nat) : Int) J') Q) → par (f_X_comesTo_6 fu 0 (k : Int) p3 m (n : Int) (i : Int) J) Q := by
  intro it
  induction it with
  | nil =>
    intro m i n J ty ty2 st _ _ _ hs hn _ _ hc
    have := hc m J (fun _ _ _ => rfl) hs
    rw [← hn]
    exact this
  | cons x t ih =>
    intro m i n J ty ty2 st hseg hty hv hs hn hi hp hc
    simp only [List.length_cons] at hi hp hc
    cases m with
    | zero => exact par_none
    | succ m =>
    obtain ⟨kd, hl, ty1, h1, h2, _, h4, h5⟩ := ty_step hty (J 8) hv
    have hlen := tv_len st ty hv
    obtain ⟨g1, g2, g3⟩ := hseg
    refine cm_step k i n x J hk (by omega) (by omega) g1 g2 hn (by omega) hs ?_ (fun J' f1 f2 => ?_)
    · unfold KND at kd
      rcases kd with c | c | c | c | c
      · exact Or.inl (Or.inl c.1)
      · exact Or.inl (Or.inr ⟨c.1, c.2.1⟩)
      · exact Or.inr (Or.inl ⟨c.1, h4 (Or.inl c.1)⟩)
      · exact Or.inr (Or.inr (Or.inl ⟨c, h4 (Or.inr c)⟩))
      · exact Or.inr (Or.inr (Or.inr ⟨c, h5 (by omega) (by omega) (by omega)⟩))
    · have e8 : J' 8 = J 8 := funext (fun j => f1 8 j (by decide))
      refine ih m (i + 1) _ J' ty1 ty2 _ (seg2_eq t (i + 1) (fun j _ _ => f1 1 _ (by decide)) g3) h1 h2 f2 rfl (by omega) (by omega) (fun m J2 f3 f4 => ?_)
      rw [e8] at f4 ⊢
      have g := hc m J2 (fun q j hq => (f3 q j hq).trans (f1 q j hq)) f4
      rw [show i + 1 + t.length = i + (t.length + 1) by omega]
      exact g
theorem cmx_val {s : Int} {b : Bool} (k i : Nat) (hk : k < 5) (it : List (Int × Int)) (J : IMem) (e : Int) (he : e = ((i + it.length : Nat) : Int)) (hseg : SEG2 (fun j => J 1 (1910 + 820 * k + j)) i it) (ht : TYP 24 s it b) (hi : i + it.length ≤ 400) : par (f_X_comesTo fu 0 (k : Int) (i : Int) e J) (fun v J' => v = evV (J 8) it ∧ ∀ q j, q ≠ 7 → J' q j = J q j) := by
  subst he
  unfold f_X_comesTo
  have h0 := ht []
  refine cm_run (B := 24) (s := s) k hk (by decide) it fu i 0 J [] [b] [] hseg (by simpa using h0) trivial trivial rfl hi (Int.le_refl _) (fun m J' f1 f2 => ?_)
  cases m with
  | zero => exact par_none
  | succ m =>
  show par (fb_X_comesTo_6 fu 0 (k : Int) _ (f_X_comesTo_6 fu 0 (k : Int) _ m) _ _ J') _
  unfold fb_X_comesTo_6
  rw [if_neg (by omega)]
  have hv := tv_run (J 8) it [] [b] [] (by simpa using h0) trivial
  refine par_zr ⟨?_, f1⟩
  unfold evV
  generalize evL (J 8) it [] = st at hv f2
  cases st with
  | nil => exact hv.elim
  | cons v t =>
    cases t with
    | nil => exact f2.1
    | cons _ _ => exact hv.2.elim
/-- the class's facts against the reference's -/
def FMAP (s : Int) (c F : Nat → Int) : Prop := ∀ y : Int, 1 ≤ y → y < 12 → ((s = 4 ∧ (y = 1 ∨ y = 7 ∨ y = 10 ∨ y = 11)) ∨ (s ≠ 4 ∧ y ≤ 9)) → c (em y - 10000).toNat = F y.toNat
theorem em_fact {y : Int} (h1 : 1 ≤ y) (h2 : y < 12) : 10005 ≤ em y ∧ em y ≤ 10015 := by
  unfold em
  rcases (show y = 1 ∨ y = 2 ∨ y = 3 ∨ y = 4 ∨ y = 5 ∨ y = 6 ∨ y = 7 ∨ y = 8 ∨ y = 9 ∨ y = 10 ∨ y = 11 by omega) with rfl | rfl | rfl | rfl | rfl | rfl | rfl | rfl | rfl | rfl | rfl <;> decide
theorem rk_run {B : Nat} {s : Int} {p2 : Int} {k : Int → IMem → Res} {ol o3 : Nat} {F : Nat → Int} (hB : B ≤ 60) (h3 : o3 ≠ ol + 4) : ∀ (it : List (Int × Int)) (m i : Nat) (I : IMem) (ty ty2 : List Bool) (st : List Int), SEG (I (ol + 1)) i (enc it) → tyR B s it ty = some ty2 → TV st ty → SK (I (ol + 4)) st → FMAP s (I o3) F → i + (enc it).length ≤ 400 → ((i + (enc it).length : Nat) : Int) ≤ p2 →
    (∀ (m : Nat) (I' : IMem), (∀ q j, q ≠ ol + 4 → I' q j = I q j) → SK (I' (ol + 4)) (evL F it st) → par (f_W_reckon_6 fu k ol p2 o3 16 m (((evL F it st).length : Int) - 1) ((i + (enc it).length : Nat) : Int) I') Q) → par (f_W_reckon_6 fu k ol p2 o3 16 m ((st.length : Int) - 1) (i : Int) I) Q := by
  intro it
  induction it with
  | nil =>
    intro m i I ty ty2 st _ _ _ hs _ _ _ hc
    exact hc m I (fun _ _ _ => rfl) hs
  | cons x t ih =>
    intro m i I ty ty2 st hseg hty hv hs hF hi hp hc
    have en : enc (x :: t) = enI x ++ enc t := rfl
    rw [en] at hseg hi hp hc
    rw [List.length_append] at hi hp
    obtain ⟨sg1, sg2⟩ := seg_app _ _ _ hseg
    obtain ⟨kd, hl, ty1, h1, h2, _, h4, h5⟩ := ty_step hty F hv
    have hlen := tv_len st ty hv
    -- behind the item
    have go : ∀ (m : Nat) (I1 : IMem), (∀ q j, q ≠ ol + 4 → I1 q j = I q j) → SK (I1 (ol + 4)) (ev1 F x st) → par (f_W_reckon_6 fu k ol p2 o3 16 m (((ev1 F x st).length : Int) - 1) ((i + (enI x).length : Nat) : Int) I1) Q := by
      intro m I1 f1 f2
      refine ih m (i + (enI x).length) I1 ty1 ty2 (ev1 F x st) (seg_eq _ _ (fun j _ _ => f1 _ _ (by omega)) sg2) h1 h2 f2 (fun y a c d => by rw [f1 _ _ h3]; exact hF y a c d) (by omega) (by omega) (fun m I2 f3 f4 => ?_)
      have g := hc m I2 (fun q j hq => (f3 q j hq).trans (f1 q j hq)) f4
      rw [List.length_append] at g
      rw [show i + (enI x).length + (enc t).length = i + ((enI x).length + (enc t).length) by omega]
      exact g
    cases m with
    | zero => exact par_none
    | succ m =>
    have fr : ∀ (v : Int) (j q i2 : Nat), q ≠ ol + 4 → up I (ol + 4) j v q i2 = I q i2 := fun v j q i2 hq => up_o hq i2
    have push : ∀ (w v : Int), enI x = [w] → ev1 F x st = v :: st → ((0 ≤ w ∧ w < 10000 ∧ v = w) ∨ (10000 ≤ w ∧ w < 10016 ∧ v = I o3 (w - 10000).toNat)) → par (f_W_reckon_6 fu k ol p2 o3 16 (m + 1) ((st.length : Int) - 1) (i : Int) I) Q := by
      intro w v e1 e2 hw
      rw [e1] at sg1 go hi hp
      simp only [List.length_cons, List.length_nil] at go hi hp
      refine rk_push w v st.length i I sg1.1 hw (by omega) (by omega) (by omega) ?_
      have g := go m (up I (ol + 4) st.length v) (fr _ _) (by rw [e2]; exact ⟨if_pos ⟨rfl, rfl⟩, sk_up st st.length (Nat.le_refl _) (fun j hj => up_j (by omega) _) hs⟩)
      rw [e2] at g
      simp only [List.length_cons] at g
      rw [show (((st.length + 1 : Nat) : Int) - 1) = (st.length : Int) by omega] at g
      exact g
    unfold KND at kd
    rcases kd with c | c | c | c | c
    · exact push x.2 x.2 (by unfold enI; rw [if_pos c.1]) (by unfold ev1; rw [if_pos c.1]) (Or.inl ⟨c.2.1, by omega, rfl⟩)
    · have hem := em_fact c.1 c.2.1
      exact push (em x.1) (F x.1.toNat) (by unfold enI; rw [if_neg (by omega), if_neg (by omega)]) (by unfold ev1; rw [if_neg (by omega), if_pos c.2.1]) (Or.inr ⟨by omega, by omega, (hF x.1 c.1 c.2.1 c.2.2).symm⟩)
    · obtain ⟨a, u, rfl⟩ := h4 (Or.inl c.1)
      have e1 : enI x = [x.2, -4] := by unfold enI; rw [if_neg (by omega), if_pos c.1]
      have e2 : ev1 F x (a :: u) = wdiv a x.2 :: u := by unfold ev1; rw [if_neg (by omega), if_neg (by omega), if_pos c.1]
      rw [e1] at sg1 go hi hp
      simp only [List.length_cons, List.length_nil] at go hi hp hlen ⊢
      refine rk_push x.2 x.2 (u.length + 1) i I sg1.1 (Or.inl ⟨by omega, by omega, rfl⟩) (by omega) (by omega) (by omega) ?_
      cases m with
      | zero => exact par_none
      | succ m =>
      have q1 : up I (ol + 4) (u.length + 1) x.2 (ol + 4) (u.length + 1) = x.2 := if_pos ⟨rfl, rfl⟩
      have q2 : up I (ol + 4) (u.length + 1) x.2 (ol + 4) u.length = a := (up_j (by omega) _).trans hs.1
      rw [show ((u.length + 1 : Nat) : Int) = (u.length : Int) + 1 by omega]
      refine rk_neg (-4) u.length (i + 1) _ (by decide) ((fr _ _ _ _ (by omega)).trans sg1.2.1) (by omega) (by omega) (by omega) (wdiv a x.2) ?_ ?_
      · rw [q1, q2, if_neg (by decide), if_neg (by decide), if_neg (by decide), if_neg (by decide), if_neg (by decide), if_pos rfl, if_neg (by omega)]
      · have g := go m (up (up I (ol + 4) (u.length + 1) x.2) (ol + 4) u.length (wdiv a x.2)) (fun q j hq => (up_o hq _).trans (up_o hq _)) (by rw [e2]; exact ⟨if_pos ⟨rfl, rfl⟩, sk_up u u.length (Nat.le_refl _) (fun j hj => (up_j (by omega) _).trans (up_j (by omega) _)) hs.2⟩)
        rw [e2] at g
        simp only [List.length_cons] at g
        rw [show (((u.length + 1 : Nat) : Int) - 1) = (u.length : Int) by omega] at g
        exact g
    · obtain ⟨a, u, rfl⟩ := h4 (Or.inr c)
      have e1 : enI x = [-10] := by unfold enI; rw [if_neg (by omega), if_neg (by omega), c]; rfl
      have e2 : ev1 F x (a :: u) = wr32 (1 - a) :: u := by unfold ev1; rw [if_neg (by omega), if_neg (by omega), if_neg (by omega), if_pos c]
      rw [e1] at sg1 go hi hp
      simp only [List.length_cons, List.length_nil] at go hi hp hlen ⊢
      rw [show (((u.length + 1 : Nat) : Int) - 1) = (u.length : Int) by omega]
      refine rk_not u.length i I sg1.1 (by omega) (by omega) (by omega) ?_
      rw [hs.1]
      have g := go m (up I (ol + 4) u.length (wr32 (1 - a))) (fr _ _) (by rw [e2]; exact ⟨if_pos ⟨rfl, rfl⟩, sk_up u u.length (Nat.le_refl _) (fun j hj => up_j (by omega) _) hs.2⟩)
      rw [e2] at g
      simp only [List.length_cons] at g
      rw [show (((u.length + 1 : Nat) : Int) - 1) = (u.length : Int) by omega] at g
      exact g
    · obtain ⟨c1, a, u, rfl⟩ := h5 (by omega) (by omega) (by omega)
      have e1 : enI x = [em x.1] := by unfold enI; rw [if_neg (by omega), if_neg (by omega)]
      have e2 : ev1 F x (c1 :: a :: u) = op2 x.1 a c1 :: u := by unfold ev1; rw [if_neg (by omega), if_neg (by omega), if_neg (by omega), if_neg (by omega)]
      rw [e1] at sg1 go hi hp
      simp only [List.length_cons, List.length_nil] at go hi hp hlen ⊢
      rw [show (((u.length + 1 + 1 : Nat) : Int) - 1) = (u.length : Int) + 1 by omega]
      have s1 : I (ol + 4) (u.length + 1) = c1 := hs.1
      have s2 : I (ol + 4) u.length = a := hs.2.1
      have hem : -9 ≤ em x.1 ∧ em x.1 ≤ -1 := by
        rcases c with e | e | e | e | e | e | e | e <;> rw [e] <;> decide
      refine rk_neg (em x.1) u.length i I hem sg1.1 (by omega) (by omega) (by omega) (op2 x.1 a c1) ?_ ?_
      · rw [s1, s2]
        unfold op2
        rcases c with e | e | e | e | e | e | e | e <;> rw [e] <;> rfl
      · have g := go m (up I (ol + 4) u.length (op2 x.1 a c1)) (fr _ _) (by rw [e2]; exact ⟨if_pos ⟨rfl, rfl⟩, sk_up u u.length (Nat.le_refl _) (fun j hj => up_j (by omega) _) hs.2.2⟩)
        rw [e2] at g
        simp only [List.length_cons] at g
        rw [show (((u.length + 1 : Nat) : Int) - 1) = (u.length : Int) by omega] at g
        exact g
theorem rk_val {s : Int} {b : Bool} {ol o3 : Nat} {F : Nat → Int} (h3 : o3 ≠ ol + 4) (i : Nat) (it : List (Int × Int)) (I : IMem) (e : Int) (he : e = ((i + (enc it).length : Nat) : Int)) (hseg : SEG (I (ol + 1)) i (enc it)) (hF : FMAP s (I o3) F) (ht : TYP 24 s it b) (hi : i + (enc it).length ≤ 400) : par (f_W_reckon fu ol (i : Int) e o3 16 I) (fun v I' => v = evV F it ∧ ∀ q j, q ≠ ol + 4 → I' q j = I q j) := by
  subst he
  unfold f_W_reckon
  have h0 := ht []
  have hst := rk_run (fu := fu) (Q := fun v I' => v = evV F it ∧ ∀ q j, q ≠ ol + 4 → I' q j = I q j) (B := 24) (s := s) (p2 := ((i + (enc it).length : Nat) : Int)) (k := fun (x50 : Int) (I49 : IMem) => if x50 < 0 then (zr 0 I49) else (zg (0 ≤ x50 ∧ x50 < 64) (zr (I49 (ol + 4) x50.toNat) I49))) (ol := ol) (F := F) (by decide) h3 it fu i I [] [b] [] hseg (by simpa using h0) trivial trivial hF hi (Int.le_refl _) (fun m I' f1 f2 => ?_)
  · exact hst
  · cases m with
    | zero => exact par_none
    | succ m =>
    show par (fb_W_reckon_6 fu _ ol _ o3 16 (f_W_reckon_6 fu _ ol _ o3 16 m) _ _ I') _
    unfold fb_W_reckon_6
    rw [if_neg (by omega), if_neg (by omega)]
    have hv := tv_run F it [] [b] [] (by simpa using h0) trivial
    unfold evV
    generalize evL F it [] = st at hv f2
    cases st with
    | nil => exact hv.elim
    | cons v t =>
      cases t with
      | nil =>
        show par (if ((1 : Int) - 1) < 0 then _ else _) _
        rw [if_neg (by decide)]
        exact par_zg (fun _ => par_zr ⟨f2.1, f1⟩)
      | cons _ _ => exact hv.2.elim
end
