/-! one sits, one is found out: both sides -/
section
variable {fu : Nat}
theorem cv_sit (oc k : Nat) (size sort mark : Int) (I : IMem) (hk : k < 240) (ht : 0 ≤ I oc 8 ∧ I oc 8 < 8) : par (f_C_sit fu oc (k : Int) size sort mark I) (fun _ I' => ∀ q j, I' q j = if q = oc ∧ j = 11 then (if I oc 11 = 0 then (if sort = 1 then 0 else 1) else 1) else if q = oc ∧ j = 10 then (if I oc 10 = 0 then (if sort = 2 then 1 else 0) else 1) else if q = oc ∧ j = 7 then wr32 (I oc 7 - size) else if q = oc ∧ j = 8 then I oc 8 + 1 else if q = oc + 3 ∧ j = (I oc 8).toNat then size else if q = oc + 2 ∧ j = (I oc 8).toNat then (k : Int) else if q = oc + 1 ∧ j = k then mark else I q j) := by
  unfold f_C_sit
  rw [if_neg (by omega), if_pos (by omega), if_neg (by omega), if_pos ht.2]
  refine par_zg (fun _ => par_zw' (fun I1 e1 => ?_))
  rw [show ((k : Nat) : Int).toNat = k from rfl] at e1
  have a1 : I1 oc 8 = I oc 8 := by rw [e1, if_neg (by omega)]
  simp only [zl_e]
  rw [a1]
  refine par_zg (fun _ => par_zw' (fun I2 e2 => ?_))
  have a2 : I2 oc 8 = I oc 8 := by rw [e2, if_neg (by omega), a1]
  rw [a2]
  refine par_zg (fun _ => par_zw' (fun I3 e3 => ?_))
  have a3 : I3 oc 8 = I oc 8 := by rw [e3, if_neg (by omega), a2]
  rw [a3, wr32_i2 (x := I oc 8 + 1) (by omega) (by omega)]
  refine par_zw' (fun I4 e4 => ?_)
  have a4 : I4 oc 7 = I oc 7 := by rw [e4, if_neg (by omega), e3, if_neg (by omega), e2, if_neg (by omega), e1, if_neg (by omega)]
  rw [a4]
  refine par_zw' (fun I5 e5 => ?_)
  have b5 : ∀ q j, I5 q j = if q = oc ∧ j = 7 then wr32 (I oc 7 - size) else if q = oc ∧ j = 8 then I oc 8 + 1 else if q = oc + 3 ∧ j = (I oc 8).toNat then size else if q = oc + 2 ∧ j = (I oc 8).toNat then (k : Int) else if q = oc + 1 ∧ j = k then mark else I q j := fun q j => by rw [e5, e4, e3, e2, e1]
  have a10 : I5 oc 10 = I oc 10 := by rw [b5, if_neg (by omega), if_neg (by omega), if_neg (by omega), if_neg (by omega), if_neg (by omega)]
  have a11 : I5 oc 11 = I oc 11 := by rw [b5, if_neg (by omega), if_neg (by omega), if_neg (by omega), if_neg (by omega), if_neg (by omega)]
  clear e5 e4 e3 e2 e1
  have last : ∀ (d : Int) (I6 : IMem), (∀ q j, I6 q j = if q = oc ∧ j = 10 then d else I5 q j) → d = (if I oc 10 = 0 then (if sort = 2 then 1 else 0) else 1) → ∀ c : Int, c = (if I oc 11 = 0 then (if sort = 1 then 0 else 1) else 1) → par (zg (c = 0 ∨ c = 1) (zw I6 oc 11 c fun I16 => zr 0 I16)) (fun _ I' => ∀ q j, I' q j = if q = oc ∧ j = 11 then (if I oc 11 = 0 then (if sort = 1 then 0 else 1) else 1) else if q = oc ∧ j = 10 then (if I oc 10 = 0 then (if sort = 2 then 1 else 0) else 1) else if q = oc ∧ j = 7 then wr32 (I oc 7 - size) else if q = oc ∧ j = 8 then I oc 8 + 1 else if q = oc + 3 ∧ j = (I oc 8).toNat then size else if q = oc + 2 ∧ j = (I oc 8).toNat then (k : Int) else if q = oc + 1 ∧ j = k then mark else I q j) := by
    intro d I6 e6 hd c hc
    refine par_zg (fun _ => par_zw' (fun I7 e7 => par_zr (fun q j => ?_)))
    rw [e7, e6, b5, hd, hc]
  have mid : ∀ d : Int, d = (if I oc 10 = 0 then (if sort = 2 then 1 else 0) else 1) → par (zg (d = 0 ∨ d = 1) (zw I5 oc 10 d fun I11 => if I11 oc 11 = 0 then (if sort = 1 then zg ((0 : Int) = 0 ∨ (0 : Int) = 1) (zw I11 oc 11 0 fun I16 => zr 0 I16) else zg ((1 : Int) = 0 ∨ (1 : Int) = 1) (zw I11 oc 11 1 fun I16 => zr 0 I16)) else zg ((1 : Int) = 0 ∨ (1 : Int) = 1) (zw I11 oc 11 1 fun I16 => zr 0 I16))) (fun _ I' => ∀ q j, I' q j = if q = oc ∧ j = 11 then (if I oc 11 = 0 then (if sort = 1 then 0 else 1) else 1) else if q = oc ∧ j = 10 then (if I oc 10 = 0 then (if sort = 2 then 1 else 0) else 1) else if q = oc ∧ j = 7 then wr32 (I oc 7 - size) else if q = oc ∧ j = 8 then I oc 8 + 1 else if q = oc + 3 ∧ j = (I oc 8).toNat then size else if q = oc + 2 ∧ j = (I oc 8).toNat then (k : Int) else if q = oc + 1 ∧ j = k then mark else I q j) := by
    intro d hd
    refine par_zg (fun _ => par_zw' (fun I6 e6 => ?_))
    have c11 : I6 oc 11 = I oc 11 := by rw [e6, if_neg (by omega), a11]
    rw [c11]
    by_cases z : I oc 11 = 0
    · rw [if_pos z]
      by_cases z2 : sort = 1
      · rw [if_pos z2]; exact last d I6 e6 hd 0 (by rw [if_pos z, if_pos z2])
      · rw [if_neg z2]; exact last d I6 e6 hd 1 (by rw [if_pos z, if_neg z2])
    · rw [if_neg z]; exact last d I6 e6 hd 1 (by rw [if_neg z])
  simp only [zj_e]
  rw [a10]
  by_cases z : I oc 10 = 0
  · rw [if_pos z]
    by_cases z2 : sort = 2
    · rw [if_pos z2]; exact mid 1 (by rw [if_pos z, if_pos z2])
    · rw [if_neg z2]; exact mid 0 (by rw [if_pos z, if_neg z2])
  · rw [if_neg z]; exact mid 1 (by rw [if_neg z])
theorem xv_takes (l p : Nat) (size : Int) (J : IMem) (hl : l < 6) (hp : p < 40) (ht : 0 ≤ J 0 31 ∧ J 0 31 < 8) : par (f_X_takes fu 0 (l : Int) (p : Int) size J) (fun _ J' => ∀ q j, J' q j = if q = 0 ∧ j = 34 then wr32 (J 0 34 + (if J 1 (140 + 6 * (40 * l + p) + 3) = 1 then 0 else 1)) else if q = 0 ∧ j = 33 then wr32 (J 0 33 + (if J 1 (140 + 6 * (40 * l + p) + 3) = 2 then 1 else 0)) else if q = 0 ∧ j = 30 then wr32 (J 0 30 - size) else if q = 0 ∧ j = 31 then J 0 31 + 1 else if q = 11 ∧ j = (J 0 31).toNat then ((40 * l + p : Nat) : Int) else if q = 9 ∧ j = 40 * l + p then size else J q j) := by
  unfold f_X_takes
  have wk : Wq (wr32 (wr32 (40 * (l : Int)) + (p : Int))) (((40 * l + p : Nat) : Int)) := by show wr32 (wr32 (40 * (l : Int)) + (p : Int)) = ((40 * l + p : Nat) : Int); rw [wr32_i2 (x := 40 * (l : Int)) (by omega) (by omega), wr32_i2 (by omega) (by omega)]; omega
  simp only [zl_e, zj_e, Nat.zero_add]
  rw [wk.e]
  refine par_zg (fun _ => par_zw' (fun I1 e1 => ?_))
  rw [show ((40 * l + p : Nat) : Int).toNat = 40 * l + p from rfl] at e1
  have a1 : I1 0 31 = J 0 31 := by rw [e1, if_neg (by omega)]
  rw [a1]
  refine par_zg (fun _ => par_zw' (fun I2 e2 => ?_))
  have a2 : I2 0 31 = J 0 31 := by rw [e2, if_neg (by omega), a1]
  rw [a2, wr32_i2 (x := J 0 31 + 1) (by omega) (by omega)]
  refine par_zw' (fun I3 e3 => ?_)
  have a3 : I3 0 30 = J 0 30 := by rw [e3, if_neg (by omega), e2, if_neg (by omega), e1, if_neg (by omega)]
  rw [a3]
  refine par_zw' (fun I4 e4 => ?_)
  have b4 : ∀ q j, I4 q j = if q = 0 ∧ j = 30 then wr32 (J 0 30 - size) else if q = 0 ∧ j = 31 then J 0 31 + 1 else if q = 11 ∧ j = (J 0 31).toNat then ((40 * l + p : Nat) : Int) else if q = 9 ∧ j = 40 * l + p then size else J q j := fun q j => by rw [e4, e3, e2, e1]
  have srt : I4 (0 + 1) (140 + 6 * (40 * l + p) + 3) = J 1 (140 + 6 * (40 * l + p) + 3) := by rw [b4, if_neg (by omega), if_neg (by omega), if_neg (by omega), if_neg (by omega)]
  have a33 : I4 0 33 = J 0 33 := by rw [b4, if_neg (by omega), if_neg (by omega), if_neg (by omega), if_neg (by omega)]
  have a34 : I4 0 34 = J 0 34 := by rw [b4, if_neg (by omega), if_neg (by omega), if_neg (by omega), if_neg (by omega)]
  clear e4 e3 e2 e1
  rw [ev_of3 fu 0 l p I4 hl hp, zb_zr, srt, a33]
  have mid : ∀ d : Int, d = (if J 1 (140 + 6 * (40 * l + p) + 3) = 2 then 1 else 0) → par (zw I4 0 33 (wr32 (J 0 33 + d)) fun I13 => zb (f_X_of fu 0 (l : Int) (p : Int) 3 I13) fun y14 I15 => if y14 = 1 then zw I15 0 34 (wr32 (I13 0 34 + 0)) fun I20 => zr 0 I20 else zw I15 0 34 (wr32 (I13 0 34 + 1)) fun I20 => zr 0 I20) (fun _ J' => ∀ q j, J' q j = if q = 0 ∧ j = 34 then wr32 (J 0 34 + (if J 1 (140 + 6 * (40 * l + p) + 3) = 1 then 0 else 1)) else if q = 0 ∧ j = 33 then wr32 (J 0 33 + (if J 1 (140 + 6 * (40 * l + p) + 3) = 2 then 1 else 0)) else if q = 0 ∧ j = 30 then wr32 (J 0 30 - size) else if q = 0 ∧ j = 31 then J 0 31 + 1 else if q = 11 ∧ j = (J 0 31).toNat then ((40 * l + p : Nat) : Int) else if q = 9 ∧ j = 40 * l + p then size else J q j) := by
    intro d hd
    refine par_zw' (fun I5 e5 => ?_)
    rw [ev_of3 fu 0 l p I5 hl hp, zb_zr]
    have s5 : I5 (0 + 1) (140 + 6 * (40 * l + p) + 3) = J 1 (140 + 6 * (40 * l + p) + 3) := by rw [e5, if_neg (by omega), srt]
    have z34 : I5 0 34 = J 0 34 := by rw [e5, if_neg (by omega), a34]
    rw [s5, z34]
    by_cases z : J 1 (140 + 6 * (40 * l + p) + 3) = 1
    · rw [if_pos z]
      refine par_zw' (fun I6 e6 => par_zr (fun q j => ?_))
      rw [e6, e5, b4, hd, if_pos z]
    · rw [if_neg z]
      refine par_zw' (fun I6 e6 => par_zr (fun q j => ?_))
      rw [e6, e5, b4, hd, if_neg z]
  by_cases z : J 1 (140 + 6 * (40 * l + p) + 3) = 2
  · rw [if_pos z]; exact mid 1 (by rw [if_pos z])
  · rw [if_neg z]; exact mid 0 (by rw [if_neg z])
theorem cv_found (oc hb k : Nat) (I : IMem) (hk : k < 240) (ho : hb + 40 ≤ oc) (hn : 0 ≤ I oc 9 ∧ I oc 9 ≤ 143) : par (f_C_findOut fu oc hb (k : Int) I) (fun _ I' => ∀ q j, I' q j = if q = hb + 10 ∧ j = 5 then wr32 (I (hb + 10) 5 + 1) else if q = oc ∧ j = 9 then I oc 9 + 1 else if q = oc + 4 ∧ 6 * (I oc 9).toNat ≤ j ∧ j < 6 * (I oc 9).toNat + 6 then (if j - 6 * (I oc 9).toNat = 2 then I (hb + 7) (6 * k + 1) else I (hb + 7) (6 * k + (j - 6 * (I oc 9).toNat))) else if q = oc + 1 ∧ j = k then 2 else I q j) := by
  unfold f_C_findOut
  obtain ⟨n, hnn⟩ : ∃ n : Nat, I oc 9 = (n : Int) := ⟨(I oc 9).toNat, by omega⟩
  rw [hnn, show ((n : Nat) : Int).toNat = n from rfl]
  have w1 : Wq (wr32 ((n : Int) * 6)) (((6 * n : Nat) : Int)) := by show wr32 ((n : Int) * 6) = ((6 * n : Nat) : Int); rw [wr32_i2 (by omega) (by omega)]; omega
  have w2 : Wq (wr32 ((k : Int) * 6)) (((6 * k : Nat) : Int)) := by show wr32 ((k : Int) * 6) = ((6 * k : Nat) : Int); rw [wr32_i2 (by omega) (by omega)]; omega
  have w3 : Wq (wr32 (((6 * n : Nat) : Int) + 1)) (((6 * n + 1 : Nat) : Int)) := by show wr32 (((6 * n : Nat) : Int) + 1) = ((6 * n + 1 : Nat) : Int); rw [wr32_i2 (by omega) (by omega)]; omega
  have w4 : Wq (wr32 (((6 * n : Nat) : Int) + 2)) (((6 * n + 2 : Nat) : Int)) := by show wr32 (((6 * n : Nat) : Int) + 2) = ((6 * n + 2 : Nat) : Int); rw [wr32_i2 (by omega) (by omega)]; omega
  simp only [zl_e]
  rw [w1.e, w2.e, w3.e, w4.e, if_neg (by omega), if_pos (by omega), if_neg (by omega), if_neg (by rw [wr32_i2 (by omega) (by omega)]; omega)]
  refine par_zg (fun _ => par_zw' (fun I1 e1 => par_zg (fun _ => par_zc' (fun I2 e2 => par_zg (fun _ => par_zg (fun _ => par_zw' (fun I3 e3 => par_zw' (fun I4 e4 => par_zw' (fun I5 e5 => par_zr (fun q j => ?_))))))))))
  rw [show ((k : Nat) : Int).toNat = k from rfl] at e1
  have n2 : ((6 * n : Nat) : Int).toNat = 6 * n := rfl
  have n3 : ((6 * k : Nat) : Int).toNat = 6 * k := rfl
  have n4 : (6 : Int).toNat = 6 := rfl
  rw [n2, n3, n4] at e2
  rw [show ((6 * n + 2 : Nat) : Int).toNat = 6 * n + 2 from rfl, show ((6 * n + 1 : Nat) : Int).toNat = 6 * n + 1 from rfl] at e3
  have r1 : ∀ f, f < 6 → I2 (oc + 4) (6 * n + f) = I (hb + 7) (6 * k + f) := by
    intro f hf
    rw [e2, if_pos (by omega), e1, if_neg (by omega), show 6 * k + (6 * n + f - 6 * n) = 6 * k + f by omega]
  have a9 : I3 oc 9 = (n : Int) := by rw [e3, if_neg (by omega), e2, if_neg (by omega), e1, if_neg (by omega), hnn]
  have a5 : I4 (hb + 10) 5 = I (hb + 10) 5 := by rw [e4, if_neg (by omega), e3, if_neg (by omega), e2, if_neg (by omega), e1, if_neg (by omega)]
  rw [e5, a5, e4, a9, wr32_i2 (x := (n : Int) + 1) (by omega) (by omega), e3]
  by_cases h1 : q = hb + 10 ∧ j = 5
  · rw [if_pos h1, if_pos h1]
  rw [if_neg h1, if_neg h1]
  by_cases h2 : q = oc ∧ j = 9
  · rw [if_pos h2, if_pos h2]
  rw [if_neg h2, if_neg h2]
  by_cases h3 : q = oc + 4 ∧ 6 * n ≤ j ∧ j < 6 * n + 6
  · rw [if_pos h3]
    obtain ⟨f, hf, rfl⟩ : ∃ f, f < 6 ∧ j = 6 * n + f := ⟨j - 6 * n, by omega, by omega⟩
    rw [Nat.add_sub_cancel_left]
    by_cases h4 : f = 2
    · rw [if_pos (by omega), if_pos h4]; exact r1 1 (by decide)
    · rw [if_neg (by omega), if_neg h4, h3.1]; exact r1 f hf
  · rw [if_neg h3, if_neg (by omega), e2, if_neg (by omega), e1]
end
