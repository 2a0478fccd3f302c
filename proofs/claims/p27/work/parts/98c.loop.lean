/-! the law's loop -/
section AMZ
variable {l : Launch} {b : PB}
theorem law_ret {I J : IMem} {lv : List Value} (hg : gp b = 0) : BW l b room_1 y_law (KC, ivm I, RC) (KM, ivm J, RM) 1234 lv [] := by
  refine bw_iconst (v := nI 1) (by decide) dw_1234 ?_
  exact bw_ret hg (Nat.le_trans (Nat.le_of_eq sum_K.1) (Nat.le_of_ble_eq_true rfl)) (Nat.le_trans (Nat.le_of_eq sum_K.2) (Nat.le_of_ble_eq_true rfl)) dw_1235
theorem law_turn {n fu : Nat} {I J : IMem} (hfu : 5000000000 < fu) (hg : gp b = 0) (hc0 : ct b = 166) (hL : scL b ≤ 3072) (hn : 6 * n + 6 ≤ scL b) (hi : n < 512) (hC : GI I) (hM : XC 0 n J) (hR : RN n I J) (hk : ∀ I2 J2, GI I2 → XC 0 (n + 1) J2 → RN (n + 1) I2 J2 → BW l b room_1 y_law (KC, ivm I2, RC) (KM, ivm J2, RM) 1228 (LVn n) []) : BW l b room_1 y_law (KC, ivm I, RC) (KM, ivm J, RM) 27 (LVn n) [] := by
  refine bw_aload_n rfl rfl dw_27 ?_
  refine bw_iload_n rfl rfl dw_28 ?_
  refine bw_ialdS (j := 6 * n) (nI_in (by omega) (by omega)) (nI_clamp (by omega)) dw_29 ?_
  refine bw_bipush (v := 31) (by decide) dw_30 ?_
  refine bw_iand dw_32 ?_
  obtain ⟨j, hj, hx⟩ := and31 (scX b (6 * n))
  rcases cases32 hj with rfl | rfl | rfl | rfl | rfl | rfl | rfl | rfl | rfl | rfl | rfl | rfl | rfl | rfl | rfl | rfl | rfl | rfl | rfl | rfl | rfl | rfl | rfl | rfl | rfl | rfl | rfl | rfl | rfl | rfl | rfl | rfl
  · exact bw_tabInI 0 hx (by decide) rfl (tgt := 176) (by decide) dw_33 (law_k0 hfu hg hc0 hL hn hi hC hM hR hk)
  · exact bw_tabInI 1 hx (by decide) rfl (tgt := 199) (by decide) dw_33 (law_k1 hfu hg hc0 hL hn hi hC hM hR hk)
  · exact bw_tabInI 2 hx (by decide) rfl (tgt := 232) (by decide) dw_33 (law_k2 hfu hg hc0 hL hn hi hC hM hR hk)
  · exact bw_tabInI 3 hx (by decide) rfl (tgt := 265) (by decide) dw_33 (law_k3 hfu hg hc0 hL hn hi hC hM hR hk)
  · exact bw_tabInI 4 hx (by decide) rfl (tgt := 298) (by decide) dw_33 (law_k4 hfu hg hc0 hL hn hi hC hM hR hk)
  · exact bw_tabInI 5 hx (by decide) rfl (tgt := 361) (by decide) dw_33 (law_k5 hfu hg hc0 hL hn hi hC hM hR hk)
  · exact bw_tabInI 6 hx (by decide) rfl (tgt := 424) (by decide) dw_33 (law_k6 hfu hg hc0 hL hn hi hC hM hR hk)
  · exact bw_tabInI 7 hx (by decide) rfl (tgt := 447) (by decide) dw_33 (law_k7 hfu hg hc0 hL hn hi hC hM hR hk)
  · exact bw_tabInI 8 hx (by decide) rfl (tgt := 470) (by decide) dw_33 (law_k8 hfu hg hc0 hL hn hi hC hM hR hk)
  · exact bw_tabInI 9 hx (by decide) rfl (tgt := 493) (by decide) dw_33 (law_k9 hfu hg hc0 hL hn hi hC hM hR hk)
  · exact bw_tabInI 10 hx (by decide) rfl (tgt := 536) (by decide) dw_33 (law_k10 hfu hg hc0 hL hn hi hC hM hR hk)
  · exact bw_tabInI 11 hx (by decide) rfl (tgt := 579) (by decide) dw_33 (law_k11 hfu hg hc0 hL hn hi hC hM hR hk)
  · exact bw_tabInI 12 hx (by decide) rfl (tgt := 612) (by decide) dw_33 (law_k12 hfu hg hc0 hL hn hi hC hM hR hk)
  · exact bw_tabInI 13 hx (by decide) rfl (tgt := 645) (by decide) dw_33 (law_k13 hfu hg hc0 hL hn hi hC hM hR hk)
  · exact bw_tabInI 14 hx (by decide) rfl (tgt := 658) (by decide) dw_33 (law_k14 hfu hg hc0 hL hn hi hC hM hR hk)
  · exact bw_tabInI 15 hx (by decide) rfl (tgt := 671) (by decide) dw_33 (law_k15 hfu hg hc0 hL hn hi hC hM hR hk)
  · exact bw_tabInI 16 hx (by decide) rfl (tgt := 694) (by decide) dw_33 (law_k16 hfu hg hc0 hL hn hi hC hM hR hk)
  · exact bw_tabInI 17 hx (by decide) rfl (tgt := 717) (by decide) dw_33 (law_k17 hfu hg hc0 hL hn hi hC hM hR hk)
  · exact bw_tabInI 18 hx (by decide) rfl (tgt := 740) (by decide) dw_33 (law_k18 hfu hg hc0 hL hn hi hC hM hR hk)
  · exact bw_tabInI 19 hx (by decide) rfl (tgt := 763) (by decide) dw_33 (law_k19 hfu hg hc0 hL hn hi hC hM hR hk)
  · exact bw_tabInI 20 hx (by decide) rfl (tgt := 786) (by decide) dw_33 (law_k20 hfu hg hc0 hL hn hi hC hM hR hk)
  · exact bw_tabInI 21 hx (by decide) rfl (tgt := 819) (by decide) dw_33 (law_k21 hfu hg hc0 hL hn hi hC hM hR hk)
  · exact bw_tabInI 22 hx (by decide) rfl (tgt := 842) (by decide) dw_33 (law_k22 hfu hg hc0 hL hn hi hC hM hR hk)
  · exact bw_tabInI 23 hx (by decide) rfl (tgt := 905) (by decide) dw_33 (law_k23 hfu hg hc0 hL hn hi hC hM hR hk)
  · exact bw_tabInI 24 hx (by decide) rfl (tgt := 938) (by decide) dw_33 (law_k24 hfu hg hc0 hL hn hi hC hM hR hk)
  · exact bw_tabInI 25 hx (by decide) rfl (tgt := 971) (by decide) dw_33 (law_k25 hfu hg hc0 hL hn hi hC hM hR hk)
  · exact bw_tabInI 26 hx (by decide) rfl (tgt := 1034) (by decide) dw_33 (law_k26 hfu hg hc0 hL hn hi hC hM hR hk)
  · exact bw_tabInI 27 hx (by decide) rfl (tgt := 1057) (by decide) dw_33 (law_k27 hfu hg hc0 hL hn hi hC hM hR hk)
  · exact bw_tabInI 28 hx (by decide) rfl (tgt := 1090) (by decide) dw_33 (law_k28 hfu hg hc0 hL hn hi hC hM hR hk)
  · exact bw_tabInI 29 hx (by decide) rfl (tgt := 1123) (by decide) dw_33 (law_k29 hfu hg hc0 hL hn hi hC hM hR hk)
  · exact bw_tabInI 30 hx (by decide) rfl (tgt := 1166) (by decide) dw_33 (law_k30 hfu hg hc0 hL hn hi hC hM hR hk)
  · exact bw_tabInI 31 hx (by decide) rfl (tgt := 1205) (by decide) dw_33 (law_k31 hfu hg hc0 hL hn hi hC hM hR hk)
theorem law_loop {fu : Nat} (hfu : 5000000000 < fu) (hg : gp b = 0) (hc0 : ct b = 166) (hL : scL b ≤ 3072) : ∀ (m n : Nat) (I J : IMem), 512 ≤ n + m → n ≤ 512 → GI I → XC 0 n J → RN n I J → BW l b room_1 y_law (KC, ivm I, RC) (KM, ivm J, RM) 18 (LVn n) [] := by
  intro m
  induction m with
  | zero =>
    intro n I J h1 h2 hC hM hR
    refine bw_iload_n rfl rfl dw_18 ?_
    refine bw_aload_n rfl rfl dw_19 ?_
    refine bw_alenS dw_20 ?_
    refine bw_bipush (v := nI 6) (by decide) dw_21 ?_
    refine bw_isub dw_23 ?_
    exact bw_icmp_gtI (tgt := 1234) ((6 * n : Nat) : Int) _ (nI_toInt (by omega)) (lw_sub hL) (by decide) dw_24 (fun _ => law_ret hg) (fun h => absurd h (by omega))
  | succ m ih =>
    intro n I J h1 h2 hC hM hR
    refine bw_iload_n rfl rfl dw_18 ?_
    refine bw_aload_n rfl rfl dw_19 ?_
    refine bw_alenS dw_20 ?_
    refine bw_bipush (v := nI 6) (by decide) dw_21 ?_
    refine bw_isub dw_23 ?_
    refine bw_icmp_gtI (tgt := 1234) ((6 * n : Nat) : Int) _ (nI_toInt (by omega)) (lw_sub hL) (by decide) dw_24 (fun _ => law_ret hg) (fun h => ?_)
    refine law_turn hfu hg hc0 hL (by omega) (by omega) hC hM hR (fun I2 J2 hC2 hM2 hR2 => ?_)
    refine bw_iinc (x := nI (6 * n)) (v := nI (6 * (n + 1))) (lv2 := LVn (n + 1)) rfl (by rw [show Int32.ofInt 6 = nI 6 by decide, nI_add]; rfl) (Nat.le_of_ble_eq_true rfl) rfl dw_1228 ?_
    refine bw_goto (tgt := 18) (by decide) dw_1231 ?_
    exact ih (n + 1) I2 J2 (by omega) (by omega) hC2 hM2 hR2
theorem law_c (hg : gp b = 0) : Sp l b (rmm 14 165 25747) y_S_init [.ref 0] ([(11, 9)], ISx WIc 0, GSx WGc 0) (fun v m' => v = none ∧ ∃ J : Nat → Nat → Int32, (∀ q, q < 160 → J q = ISx WIc 44 q) ∧ m' = (KC, J, RC)) := ctor_c (l := l) (b := b) hg (fun J hJ => ⟨rfl, J, hJ, rfl⟩)
theorem law_m (hg : gp b = 0) : Sp l b (rmm 14 25 32682) y_X_init [.ref 0] ([(12, 51)], ISx WIm 0, GSx WGm 0) (fun v m' => v = none ∧ m' = (KM, ISx WIm 13, RM)) := ctor_m (l := l) (b := b) hg ⟨rfl, rfl⟩
def tI (J : Nat → Nat → Int32) : IMem := fun o j => (J o j).toInt
theorem tI_iv (J : Nat → Nat → Int32) : ivm (tI J) = J := by
  funext o j
  exact iv_of _
theorem tI_in (J : Nat → Nat → Int32) : RG (tI J) := fun o j => toInt_in _
theorem gi_0 {J : Nat → Nat → Int32} (h : ∀ q, q < 160 → J q = ISx WIc 44 q) : GI (tI J) := by
  have e : ∀ q j, q < 160 → tI J q j = (ISx WIc 44 q j).toInt := fun q j hq => by unfold tI; rw [h q hq]
  refine ⟨⟨tI_in J, fun l hl => ?_, fun l hl => ?_, fun l hl => ?_⟩, Or.inl ?_⟩
  · rw [e 9 l (by decide)]; exact (by decide +kernel : ∀ l, l < 6 → 0 ≤ (ISx WIc 44 9 l).toInt ∧ (ISx WIc 44 9 l).toInt ≤ 40) l hl
  · rw [e 49 l (by decide)]; exact (by decide +kernel : ∀ l, l < 6 → 0 ≤ (ISx WIc 44 49 l).toInt ∧ (ISx WIc 44 49 l).toInt ≤ 40) l hl
  · rw [e 90 l (by decide)]; exact (by decide +kernel : ∀ l, l < 6 → 0 ≤ (ISx WIc 44 90 l).toInt ∧ (ISx WIc 44 90 l).toInt ≤ 40) l hl
  · rw [e 0 8 (by decide)]; decide +kernel
def IX0 : IMem := tI (ISx WIm 13)
theorem wx_0 : WX IX0 (0 + 1) := by
  refine ⟨by decide +kernel, by decide +kernel, fun s h1 h2 => (by decide +kernel : ∀ s : Nat, s < 9 → 1 ≤ s → 0 ≤ IX0 (0 + 1) (16 + s) ∧ IX0 (0 + 1) (16 + s) < (s : Int)) s (by omega) h1, by decide +kernel, ⟨fun k h1 h2 => (by decide +kernel : ∀ k : Nat, k < 9 → 1 ≤ k → 0 ≤ IX0 (0 + 1) (60 + k)) k (by omega) h1, by decide +kernel⟩, by decide +kernel, fun l p hl hp => ?_, by decide +kernel, fun k hk => ?_⟩
  · have h0 := (by decide +kernel : ∀ l, l < 6 → IX0 (0 + 1) (130 + l) = 0) l hl
    rw [h0] at hp
    omega
  · have h0 := (by decide +kernel : ∀ k, k < 5 → IX0 (0 + 1) (1580 + k) = 0) k hk
    rw [h0]
    exact ⟨Int.le_refl _, by decide, fun i hi => by omega⟩
theorem xc_0 : XC 0 0 IX0 := by
  have h3 : IX0 0 3 = 0 := by decide +kernel
  refine ⟨⟨tI_in _, wx_0, fun q => absurd h3 q, by decide +kernel, by decide +kernel, by decide +kernel⟩, pc_zero (by decide +kernel) (by decide +kernel), by decide +kernel, fun q => absurd h3 q⟩
theorem rj_0 {J : Nat → Nat → Int32} (h : ∀ q, q < 160 → J q = ISx WIc 44 q) : RJ (tI J) IX0 := by
  have e : ∀ q j, q < 160 → tI J q j = (ISx WIc 44 q j).toInt := fun q j hq => by unfold tI; rw [h q hq]
  have h3 : IX0 0 3 = 0 := by decide +kernel
  have z9 : ∀ l, l < 6 → IX0 1 (130 + l) = 0 := by decide +kernel
  have z15 : ∀ k, k < 5 → IX0 1 (1580 + k) = 0 := by decide +kernel
  refine ⟨⟨⟨⟨fun k hk => ?_, ?_, ?_, fun l hl => ?_, fun s h1 h2 => ?_, fun k hk => ?_, fun s h1 h2 => ?_⟩, ⟨fun k hk => ?_, fun s h1 h2 => ?_⟩, ⟨?_, fun q => ?_, ?_, fun i hi => ?_, fun k hk => ?_⟩, fun l hl => ⟨?_, ?_, fun p f hp hf => ?_⟩, fun k hk => ⟨[], ⟨?_, fun i hi => absurd hi (Nat.not_lt_zero _), ?_, fun i r hr => ?_⟩, ⟨?_, fun i hi => absurd hi (Nat.not_lt_zero _), fun i r hr => ?_⟩, ⟨Nat.zero_le _, Nat.zero_le _, Nat.zero_le _, fun i r hr => ?_⟩⟩⟩, ?_, ⟨?_, ?_⟩⟩, ?_, ?_, fun q => absurd h3 q, ⟨?_, ?_, ?_⟩, pk_zero ?_ ?_ ?_ ?_ ?_, ⟨0, Nat.zero_le _, ?_, ?_, fun j hj => absurd hj (Nat.not_lt_zero _)⟩, ⟨?_, ?_⟩⟩
  · rw [e (1 + 1) _ (by decide)]; exact (by decide +kernel : ∀ k, k < 6 → (ISx WIc 44 (1 + 1) k).toInt = IX0 1 (1 + k)) k hk
  · rw [e 1 6 (by decide)]; decide +kernel
  · rw [e 1 7 (by decide)]; decide +kernel
  · rw [e (1 + 9) _ (by decide)]; exact (by decide +kernel : ∀ k, k < 6 → (ISx WIc 44 (1 + 9) k).toInt = IX0 1 (10 + k)) l hl
  · rw [e (1 + 3) _ (by decide)]; exact (by decide +kernel : ∀ k, k < 9 → (ISx WIc 44 (1 + 3) k).toInt = IX0 1 (16 + k)) s (by omega)
  · rw [e (1 + 4) _ (by decide)]; exact (by decide +kernel : ∀ k, k < 32 → (ISx WIc 44 (1 + 4) k).toInt = IX0 1 (26 + k)) k hk
  · rw [e (1 + 5) _ (by decide)]; exact (by decide +kernel : ∀ k, k < 9 → (ISx WIc 44 (1 + 5) k).toInt = IX0 1 (60 + k)) s (by omega)
  · rw [e (1 + 10) _ (by decide)]; exact (by decide +kernel : ∀ k, k < 7 → (ISx WIc 44 (1 + 10) k).toInt = IX0 1 (70 + k)) k hk
  · rw [e (1 + 10) _ (by decide), e (1 + 10) _ (by decide), e (1 + 10) _ (by decide)]; exact (by decide +kernel : ∀ k, k < 9 → (ISx WIc 44 (1 + 10) (10 + k)).toInt = IX0 1 (80 + k) ∧ (ISx WIc 44 (1 + 10) (20 + k)).toInt = IX0 1 (90 + k) ∧ (ISx WIc 44 (1 + 10) (30 + k)).toInt = IX0 1 (100 + k)) s (by omega)
  · exact ⟨fun _ => by decide +kernel, fun _ => by decide +kernel⟩
  · exact absurd (show IX0 1 110 = -1 by decide +kernel) q
  · rw [e (1 + 11) _ (by decide)]; decide +kernel
  · rw [e (1 + 11) _ (by decide), e (1 + 11) _ (by decide)]; exact (by decide +kernel : ∀ k, k < 8 → (ISx WIc 44 (1 + 11) (10 + k)).toInt = IX0 1 (112 + k) ∧ (ISx WIc 44 (1 + 11) (20 + k)).toInt = IX0 1 (120 + k)) i hi
  · rw [e (1 + 12) _ (by decide)]; exact (by decide +kernel : ∀ k, k < 180 → (ISx WIc 44 (1 + 12) k).toInt = IX0 1 (6010 + k)) k hk
  · rw [e (1 + 8) _ (by decide), z9 l hl]; exact (by decide +kernel : ∀ k, k < 6 → (ISx WIc 44 (1 + 8) k).toInt = 0) l hl
  · rw [z9 l hl]; exact ⟨by decide, by decide⟩
  · rw [z9 l hl] at hp; omega
  · rw [e _ _ (by omega)]; exact (by decide +kernel : ∀ k, k < 5 → (ISx WIc 44 (1 + 15 + 5 * k) 4).toInt = 0) k hk
  · rw [e _ _ (by omega)]; exact (by decide +kernel : ∀ k, k < 5 → (ISx WIc 44 (1 + 15 + 5 * k + 2) 0).toInt = 0) k hk
  · simp at hr
  · exact z15 k hk
  · simp at hr
  · simp at hr
  · rw [e 1 11 (by decide)]; decide +kernel
  · rw [e (1 + 14) _ (by decide)]; decide +kernel
  · rw [e (1 + 14) _ (by decide)]; decide +kernel
  · rw [e 1 11 (by decide)]; decide +kernel
  · rw [e 0 8 (by decide)]; decide +kernel
  · rw [e 96 4 (by decide)]; decide +kernel
  · rw [e 96 5 (by decide)]; decide +kernel
  · rw [e 151 0 (by decide)]; decide +kernel
  · decide +kernel
  · decide +kernel
  · decide +kernel
  · intro k hk; rw [e 138 k (by decide)]; exact (by decide +kernel : ∀ k, k < 240 → (ISx WIc 44 138 k).toInt = 0) k hk
  · rw [e 137 7 (by decide), e 137 8 (by decide), e 137 9 (by decide), e 137 10 (by decide), e 137 11 (by decide)]; decide +kernel
  · rw [e 144 1 (by decide)]; decide +kernel
  · decide +kernel
  · rw [e 144 10 (by decide)]; decide +kernel
  · rw [e 144 11 (by decide)]; decide +kernel
theorem rn_of {I : IMem} (h : RJ I IX0) : RN 0 I IX0 := by
  have z9 : ∀ l, l < 6 → IX0 1 (130 + l) = 0 := by decide +kernel
  have h3 : IX0 0 3 = 0 := by decide +kernel
  have h7 : IX0 1 7 = 0 := by decide +kernel
  have no : ∀ k, ¬ INw (IX0 1) k := fun k a => by
    have b := a.2
    have c := a.1
    rw [z9 (k / 40) (by omega)] at b
    omega
  exact ⟨h, ⟨fun k _ a => absurd a (no k), fun k a => absurd a (no k), by rw [h7]; exact Int.le_refl _, by rw [h7]; exact Int.le_refl _⟩, fun z => absurd h3 z⟩
theorem law_all (hg : gp b = 0) (hc0 : ct b = 166) (hL : scL b ≤ 3072) : BW l b room_1 y_law ([], ISx WIc 0, GSx WGc 0) ([], ISx WIm 0, GSx WGm 0) 0 [.ref 1000, uu, uu, uu] [] := by
  refine bw_new1 (ci := 8) (N := 9) (q := ("SinglesUp", zT8, 9)) rfl rfl (tw_c1 19 (by decide +kernel) rfl) (tw_c1 20 (by decide +kernel) rfl) (tw_c1 1 (by decide +kernel) rfl) (fun _ => rfl) (fun _ => rfl) hg rfl (Nat.le_of_ble_eq_true rfl) (Nat.le_of_ble_eq_true rfl) dw_0 ?_
  refine bw_dup rfl dw_3 ?_
  refine bw_init1 (d' := 14) (mc := 165) (ms := 25747) (K' := fun v m' => v = none ∧ ∃ J : Nat → Nat → Int32, (∀ q, q < 160 → J q = ISx WIc 44 q) ∧ m' = (KC, J, RC)) hg rfl rfl mo_S_init lk_Z_9 (tw_c1 21 (by decide +kernel) rfl) ⟨Nat.le_of_ble_eq_true rfl, Nat.le_of_ble_eq_true rfl⟩ (Nat.le_of_ble_eq_true rfl) (Nat.le_of_ble_eq_true rfl) (Nat.le_of_ble_eq_true rfl) (Nat.le_of_ble_eq_true rfl) dw_4 (law_c hg) ?_
  rintro v m' ⟨rfl, J, hC, rfl⟩
  refine ⟨rfl, len_C, sl_C, ?_⟩
  refine bw_astore_n (lv2 := [.ref 1000, .ref 0, uu, uu]) rfl (Nat.le_of_ble_eq_true rfl) rfl dw_7 ?_
  refine bw_new2 (ci := 9) (N := 51) (q := ("SinglesUpModel", zT9, 51)) rfl rfl (tw_c5 87 (by decide +kernel) rfl) (tw_c5 88 (by decide +kernel) rfl) (tw_c1 12 (by decide +kernel) rfl) (fun _ => rfl) (fun _ => rfl) hg len_C (Nat.le_of_ble_eq_true rfl) (sl_C ▸ Nat.le_of_ble_eq_true rfl) dw_8 ?_
  refine bw_dup rfl dw_11 ?_
  refine bw_init2 (d' := 14) (mc := 25) (ms := 32682) (K' := fun v m' => v = none ∧ m' = (KM, ISx WIm 13, RM)) hg hc0 len_C rfl mo_X_init lk_Z_12 (tw_c5 89 (by decide +kernel) rfl) ⟨Nat.le_of_ble_eq_true rfl, Nat.le_of_ble_eq_true rfl⟩ (Nat.le_of_ble_eq_true rfl) (Nat.le_of_ble_eq_true rfl) (Nat.le_of_ble_eq_true rfl) (by show sl KC + _ + _ ≤ _; rw [sl_C]; exact Nat.le_of_ble_eq_true rfl) dw_12 (law_m rfl) ?_
  rintro v m' ⟨rfl, rfl⟩
  refine ⟨rfl, len_M, sl_M, ?_⟩
  refine bw_astore_n (lv2 := [.ref 1000, .ref 0, .ref 166, uu]) rfl (Nat.le_of_ble_eq_true rfl) rfl dw_15 ?_
  refine bw_iconst (v := nI 0) (by decide) dw_16 ?_
  refine bw_istore_n (lv2 := LVn 0) rfl (Nat.le_of_ble_eq_true rfl) rfl dw_17 ?_
  have hl := law_loop (l := l) (b := b) (fu := 5000000001) (Nat.lt_succ_self _) hg hc0 hL 512 0 (tI J) IX0 (by omega) (by omega) (gi_0 hC) xc_0 (rn_of (rj_0 hC))
  rw [tI_iv] at hl
  unfold IX0 at hl
  rw [tI_iv] at hl
  exact hl
end AMZ
