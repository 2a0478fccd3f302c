/-! the classes, their fields, and the places of their words -/
def zT0 : u_T := fun k => match k with
  | 0 => ("SinglesUp$Chair", "marks", "[I", true)
  | 1 => ("SinglesUp$Chair", "spots", "[I", true)
  | 2 => ("SinglesUp$Chair", "sizes", "[I", true)
  | 3 => ("SinglesUp$Chair", "caught", "[I", true)
  | 4 => ("SinglesUp$Chair", "sight", "[I", true)
  | 5 => ("SinglesUp$Chair", "sighted", "I", false)
  | 6 => ("SinglesUp$Chair", "worths", "[I", true)
  | 7 => ("SinglesUp$Chair", "left", "I", false)
  | 8 => ("SinglesUp$Chair", "taken", "I", false)
  | 9 => ("SinglesUp$Chair", "liars", "I", false)
  | 10 => ("SinglesUp$Chair", "dear", "Z", false)
  | _ => ("SinglesUp$Chair", "company", "Z", false)
def zty0 : Nat → FieldType := fun k => match k with
  | 0 => (.array .int)
  | 1 => (.array .int)
  | 2 => (.array .int)
  | 3 => (.array .int)
  | 4 => (.array .int)
  | 5 => .int
  | 6 => (.array .int)
  | 7 => .int
  | 8 => .int
  | 9 => .int
  | 10 => .boolean
  | _ => .boolean
def zT1 : u_T := fun k => match k with
  | 0 => ("SinglesUp$Filling", "spots", "[I", true)
  | 1 => ("SinglesUp$Filling", "sizes", "[I", true)
  | 2 => ("SinglesUp$Filling", "sorts", "[I", true)
  | 3 => ("SinglesUp$Filling", "groups", "I", false)
  | 4 => ("SinglesUp$Filling", "most", "[I", true)
  | 5 => ("SinglesUp$Filling", "chosen", "[I", true)
  | _ => ("SinglesUp$Filling", "count", "I", false)
def zty1 : Nat → FieldType := fun k => match k with
  | 0 => (.array .int)
  | 1 => (.array .int)
  | 2 => (.array .int)
  | 3 => .int
  | 4 => (.array .int)
  | 5 => (.array .int)
  | _ => .int
def zT2 : u_T := fun k => match k with
  | 0 => ("SinglesUp$Hill", "told", "[I", true)
  | 1 => ("SinglesUp$Hill", "laws", "[LSinglesUp$Law;", true)
  | 2 => ("SinglesUp$Hill", "partings", "[I", true)
  | 3 => ("SinglesUp$Hill", "comers", "[I", true)
  | 4 => ("SinglesUp$Hill", "heap", "[I", true)
  | 5 => ("SinglesUp$Hill", "lines", "LSinglesUp$Lines;", true)
  | 6 => ("SinglesUp$Hill", "state", "I", false)
  | 7 => ("SinglesUp$Hill", "came", "I", false)
  | 8 => ("SinglesUp$Hill", "tally", "[I", true)
  | 9 => ("SinglesUp$Hill", "latest", "[I", true)
  | 10 => ("SinglesUp$Hill", "past", "[I", true)
  | 11 => ("SinglesUp$Hill", "sizesSet", "I", false)
  | 12 => ("SinglesUp$Hill", "facts", "[I", true)
  | _ => ("SinglesUp$Hill", "arrival", "[I", true)
def zty2 : Nat → FieldType := fun k => match k with
  | 0 => (.array .int)
  | 1 => (.array (.object "SinglesUp$Law"))
  | 2 => (.array .int)
  | 3 => (.array .int)
  | 4 => (.array .int)
  | 5 => (.object "SinglesUp$Lines")
  | 6 => .int
  | 7 => .int
  | 8 => (.array .int)
  | 9 => (.array .int)
  | 10 => (.array .int)
  | 11 => .int
  | 12 => (.array .int)
  | _ => (.array .int)
def zT3 : u_T := fun k => match k with
  | 0 => ("SinglesUp$Law", "steps", "[I", true)
  | 1 => ("SinglesUp$Law", "length", "I", false)
  | 2 => ("SinglesUp$Law", "begins", "[I", true)
  | 3 => ("SinglesUp$Law", "whens", "[I", true)
  | 4 => ("SinglesUp$Law", "lines", "I", false)
  | _ => ("SinglesUp$Law", "stack", "[I", true)
def zty3 : Nat → FieldType := fun k => match k with
  | 0 => (.array .int)
  | 1 => .int
  | 2 => (.array .int)
  | 3 => (.array .int)
  | 4 => .int
  | _ => (.array .int)
def zT4 : u_T := fun k => match k with
  | 0 => ("SinglesUp$Lines", "rows", "[I", true)
  | 1 => ("SinglesUp$Lines", "counts", "[I", true)
  | _ => ("SinglesUp$Lines", "sights", "[I", true)
def zty4 : Nat → FieldType := fun k => match k with
  | 0 => (.array .int)
  | 1 => (.array .int)
  | _ => (.array .int)
def zT5 : u_T := fun k => match k with
  | 0 => ("SinglesUp$Mind", "dream", "LSinglesUp$Hill;", true)
  | 1 => ("SinglesUp$Mind", "chair", "LSinglesUp$Chair;", true)
  | _ => ("SinglesUp$Mind", "gains", "[I", true)
def zty5 : Nat → FieldType := fun k => match k with
  | 0 => (.object "SinglesUp$Hill")
  | 1 => (.object "SinglesUp$Chair")
  | _ => (.array .int)
def zT6 : u_T := fun k => match k with
  | 0 => ("SinglesUp$Packer", "ways", "[I", true)
  | 1 => ("SinglesUp$Packer", "greatests", "[I", true)
  | 2 => ("SinglesUp$Packer", "known", "I", false)
  | 3 => ("SinglesUp$Packer", "numbers", "[I", true)
  | 4 => ("SinglesUp$Packer", "chairs", "[I", true)
  | 5 => ("SinglesUp$Packer", "counts", "[I", true)
  | _ => ("SinglesUp$Packer", "first", "I", false)
def zty6 : Nat → FieldType := fun k => match k with
  | 0 => (.array .int)
  | 1 => (.array .int)
  | 2 => .int
  | 3 => (.array .int)
  | 4 => (.array .int)
  | 5 => (.array .int)
  | _ => .int
def zT7 : u_T := fun k => match k with
  | 0 => ("SinglesUp$Reader", "tape", "[I", true)
  | 1 => ("SinglesUp$Reader", "length", "I", false)
  | 2 => ("SinglesUp$Reader", "kinds", "[I", true)
  | 3 => ("SinglesUp$Reader", "places", "[I", true)
  | 4 => ("SinglesUp$Reader", "values", "[I", true)
  | 5 => ("SinglesUp$Reader", "tokens", "I", false)
  | 6 => ("SinglesUp$Reader", "at", "I", false)
  | 7 => ("SinglesUp$Reader", "kind", "I", false)
  | 8 => ("SinglesUp$Reader", "value", "I", false)
  | 9 => ("SinglesUp$Reader", "forLines", "Z", false)
  | 10 => ("SinglesUp$Reader", "fault", "I", false)
  | 11 => ("SinglesUp$Reader", "place", "I", false)
  | _ => ("SinglesUp$Reader", "draft", "LSinglesUp$Law;", true)
def zty7 : Nat → FieldType := fun k => match k with
  | 0 => (.array .int)
  | 1 => .int
  | 2 => (.array .int)
  | 3 => (.array .int)
  | 4 => (.array .int)
  | 5 => .int
  | 6 => .int
  | 7 => .int
  | 8 => .int
  | 9 => .boolean
  | 10 => .int
  | 11 => .int
  | _ => (.object "SinglesUp$Law")
def zT8 : u_T := fun k => match k with
  | 0 => ("SinglesUp", "hill", "LSinglesUp$Hill;", true)
  | 1 => ("SinglesUp", "kept", "LSinglesUp$Hill;", true)
  | 2 => ("SinglesUp", "mind", "LSinglesUp$Mind;", true)
  | 3 => ("SinglesUp", "chair", "LSinglesUp$Chair;", true)
  | 4 => ("SinglesUp", "hand", "LSinglesUp$Chair;", true)
  | 5 => ("SinglesUp", "reader", "LSinglesUp$Reader;", true)
  | 6 => ("SinglesUp", "filling", "LSinglesUp$Filling;", true)
  | 7 => ("SinglesUp", "packer", "LSinglesUp$Packer;", true)
  | _ => ("SinglesUp", "imageTaken", "Z", false)
def zty8 : Nat → FieldType := fun k => match k with
  | 0 => (.object "SinglesUp$Hill")
  | 1 => (.object "SinglesUp$Hill")
  | 2 => (.object "SinglesUp$Mind")
  | 3 => (.object "SinglesUp$Chair")
  | 4 => (.object "SinglesUp$Chair")
  | 5 => (.object "SinglesUp$Reader")
  | 6 => (.object "SinglesUp$Filling")
  | 7 => (.object "SinglesUp$Packer")
  | _ => .boolean
def zT9 : u_T := fun k => match k with
  | 0 => ("SinglesUpModel", "w", "[I", true)
  | 1 => ("SinglesUpModel", "kept", "[I", true)
  | 2 => ("SinglesUpModel", "before", "[I", true)
  | 3 => ("SinglesUpModel", "hasImage", "Z", false)
  | 4 => ("SinglesUpModel", "freshLine", "[I", true)
  | 5 => ("SinglesUpModel", "freshStep", "[I", true)
  | 6 => ("SinglesUpModel", "tape", "[I", true)
  | 7 => ("SinglesUpModel", "pile", "[I", true)
  | 8 => ("SinglesUpModel", "facts", "[I", true)
  | 9 => ("SinglesUpModel", "sort", "I", false)
  | 10 => ("SinglesUpModel", "lines", "I", false)
  | 11 => ("SinglesUpModel", "steps", "I", false)
  | 12 => ("SinglesUpModel", "taped", "I", false)
  | 13 => ("SinglesUpModel", "at", "I", false)
  | 14 => ("SinglesUpModel", "token", "I", false)
  | 15 => ("SinglesUpModel", "tokenAt", "I", false)
  | 16 => ("SinglesUpModel", "value", "I", false)
  | 17 => ("SinglesUpModel", "wrong", "I", false)
  | 18 => ("SinglesUpModel", "wrongAt", "I", false)
  | 19 => ("SinglesUpModel", "faultKind", "I", false)
  | 20 => ("SinglesUpModel", "depth", "I", false)
  | 21 => ("SinglesUpModel", "faultPlace", "I", false)
  | 22 => ("SinglesUpModel", "toLineOne", "I", false)
  | 23 => ("SinglesUpModel", "watched", "I", false)
  | 24 => ("SinglesUpModel", "isLost", "Z", false)
  | 25 => ("SinglesUpModel", "sits", "[I", true)
  | 26 => ("SinglesUpModel", "foundAt", "[I", true)
  | 27 => ("SinglesUpModel", "order", "[I", true)
  | 28 => ("SinglesUpModel", "isFound", "[Z", true)
  | 29 => ("SinglesUpModel", "picked", "[Z", true)
  | 30 => ("SinglesUpModel", "left", "I", false)
  | 31 => ("SinglesUpModel", "taken", "I", false)
  | 32 => ("SinglesUpModel", "founds", "I", false)
  | 33 => ("SinglesUpModel", "dear", "I", false)
  | 34 => ("SinglesUpModel", "others", "I", false)
  | 35 => ("SinglesUpModel", "pickedMany", "I", false)
  | 36 => ("SinglesUpModel", "outs", "[I", true)
  | 37 => ("SinglesUpModel", "hand", "[I", true)
  | 38 => ("SinglesUpModel", "row", "[I", true)
  | 39 => ("SinglesUpModel", "most", "[I", true)
  | 40 => ("SinglesUpModel", "rowMany", "I", false)
  | 41 => ("SinglesUpModel", "chairsFor", "[I", true)
  | 42 => ("SinglesUpModel", "now", "[I", true)
  | 43 => ("SinglesUpModel", "radix", "[I", true)
  | 44 => ("SinglesUpModel", "fill", "[I", true)
  | 45 => ("SinglesUpModel", "first", "[I", true)
  | 46 => ("SinglesUpModel", "least", "I", false)
  | 47 => ("SinglesUpModel", "keptPicks", "[Z", true)
  | 48 => ("SinglesUpModel", "keptHand", "[I", true)
  | 49 => ("SinglesUpModel", "came", "[I", true)
  | _ => ("SinglesUpModel", "keptMany", "I", false)
def zty9 : Nat → FieldType := fun k => match k with
  | 0 => (.array .int)
  | 1 => (.array .int)
  | 2 => (.array .int)
  | 3 => .boolean
  | 4 => (.array .int)
  | 5 => (.array .int)
  | 6 => (.array .int)
  | 7 => (.array .int)
  | 8 => (.array .int)
  | 9 => .int
  | 10 => .int
  | 11 => .int
  | 12 => .int
  | 13 => .int
  | 14 => .int
  | 15 => .int
  | 16 => .int
  | 17 => .int
  | 18 => .int
  | 19 => .int
  | 20 => .int
  | 21 => .int
  | 22 => .int
  | 23 => .int
  | 24 => .boolean
  | 25 => (.array .int)
  | 26 => (.array .int)
  | 27 => (.array .int)
  | 28 => (.array .boolean)
  | 29 => (.array .boolean)
  | 30 => .int
  | 31 => .int
  | 32 => .int
  | 33 => .int
  | 34 => .int
  | 35 => .int
  | 36 => (.array .int)
  | 37 => (.array .int)
  | 38 => (.array .int)
  | 39 => (.array .int)
  | 40 => .int
  | 41 => (.array .int)
  | 42 => (.array .int)
  | 43 => (.array .int)
  | 44 => (.array .int)
  | 45 => (.array .int)
  | 46 => .int
  | 47 => (.array .boolean)
  | 48 => (.array .int)
  | 49 => (.array .int)
  | _ => .int
def clsT : List vw_C := [("SinglesUp$Chair", zT0, 12), ("SinglesUp$Filling", zT1, 7), ("SinglesUp$Hill", zT2, 14), ("SinglesUp$Law", zT3, 6), ("SinglesUp$Lines", zT4, 3), ("SinglesUp$Mind", zT5, 3), ("SinglesUp$Packer", zT6, 7), ("SinglesUp$Reader", zT7, 13), ("SinglesUp", zT8, 9), ("SinglesUpModel", zT9, 51)]
def rfm : List (List Nat) := [[0, 1, 2, 3, 4, 6], [0, 1, 2, 4, 5], [0, 1, 2, 3, 4, 5, 8, 9, 10, 12, 13], [0, 2, 3, 5], [0, 1, 2], [0, 1, 2], [0, 1, 3, 4, 5], [0, 2, 3, 4, 12], [0, 1, 2, 3, 4, 5, 6, 7], [0, 1, 2, 4, 5, 6, 7, 8, 25, 26, 27, 28, 29, 36, 37, 38, 39, 41, 42, 43, 44, 45, 47, 48, 49]]
def fty (ci k : Nat) : FieldType := match ci with
  | 0 => zty0 k
  | 1 => zty1 k
  | 2 => zty2 k
  | 3 => zty3 k
  | 4 => zty4 k
  | 5 => zty5 k
  | 6 => zty6 k
  | 7 => zty7 k
  | 8 => zty8 k
  | _ => zty9 k
def ffin (ci k : Nat) : Bool := match ci with
  | 0 => (zT0 k).2.2.2
  | 1 => (zT1 k).2.2.2
  | 2 => (zT2 k).2.2.2
  | 3 => (zT3 k).2.2.2
  | 4 => (zT4 k).2.2.2
  | 5 => (zT5 k).2.2.2
  | 6 => (zT6 k).2.2.2
  | 7 => (zT7 k).2.2.2
  | 8 => (zT8 k).2.2.2
  | _ => (zT9 k).2.2.2
def clsN (ci : Nat) : String := match ci with
  | 0 => "SinglesUp$Chair"
  | 1 => "SinglesUp$Filling"
  | 2 => "SinglesUp$Hill"
  | 3 => "SinglesUp$Law"
  | 4 => "SinglesUp$Lines"
  | 5 => "SinglesUp$Mind"
  | 6 => "SinglesUp$Packer"
  | 7 => "SinglesUp$Reader"
  | 8 => "SinglesUp"
  | _ => "SinglesUpModel"
def least_f : Nat → Int32 := fun j => ([2, 1, 0, 0, 0, 0] : List Int32).getD j 0
def most_f : Nat → Int32 := fun j => ([8, 99, 999, 1000, 99, 3] : List Int32).getD j 0
def tw_nest : Cond → Bool
  | .fieldLinkNest .. => true
  | .methodLinkNest .. => true
  | _ => false
def TW : List Cond := lw_tbl.filter goodWord
def NW : List Cond := tables_1.filter tw_nest
theorem tw_in {w : Cond} (i : Nat) (h : lw_tbl[i]? = some w) (hg : goodWord w = true) : w ∈ TW := List.mem_filter.mpr ⟨List.mem_of_getElem? h, hg⟩
theorem tw_c1 {w : Cond} (i : Nat) (h : tables_1_1[i]? = some w) (hg : goodWord w = true) : w ∈ TW := List.mem_filter.mpr ⟨(List.mem_append_right _ (List.mem_append_left _ (List.mem_of_getElem? h))), hg⟩
theorem tw_c2 {w : Cond} (i : Nat) (h : tables_1_2[i]? = some w) (hg : goodWord w = true) : w ∈ TW := List.mem_filter.mpr ⟨(List.mem_append_right _ (List.mem_append_right _ (List.mem_append_left _ (List.mem_of_getElem? h)))), hg⟩
theorem tw_c3 {w : Cond} (i : Nat) (h : tables_1_3[i]? = some w) (hg : goodWord w = true) : w ∈ TW := List.mem_filter.mpr ⟨(List.mem_append_right _ (List.mem_append_right _ (List.mem_append_right _ (List.mem_append_left _ (List.mem_of_getElem? h))))), hg⟩
theorem tw_c4 {w : Cond} (i : Nat) (h : tables_1_4[i]? = some w) (hg : goodWord w = true) : w ∈ TW := List.mem_filter.mpr ⟨(List.mem_append_right _ (List.mem_append_right _ (List.mem_append_right _ (List.mem_append_right _ (List.mem_append_left _ (List.mem_of_getElem? h)))))), hg⟩
theorem tw_c5 {w : Cond} (i : Nat) (h : tables_1_5[i]? = some w) (hg : goodWord w = true) : w ∈ TW := List.mem_filter.mpr ⟨(List.mem_append_right _ (List.mem_append_right _ (List.mem_append_right _ (List.mem_append_right _ (List.mem_append_right _ (List.mem_append_left _ (List.mem_of_getElem? h))))))), hg⟩
theorem tw_c6 {w : Cond} (i : Nat) (h : tables_1_6[i]? = some w) (hg : goodWord w = true) : w ∈ TW := List.mem_filter.mpr ⟨(List.mem_append_right _ (List.mem_append_right _ (List.mem_append_right _ (List.mem_append_right _ (List.mem_append_right _ (List.mem_append_right _ (List.mem_append_left _ (List.mem_of_getElem? h)))))))), hg⟩
theorem tw_c7 {w : Cond} (i : Nat) (h : tables_1_7[i]? = some w) (hg : goodWord w = true) : w ∈ TW := List.mem_filter.mpr ⟨(List.mem_append_right _ (List.mem_append_right _ (List.mem_append_right _ (List.mem_append_right _ (List.mem_append_right _ (List.mem_append_right _ (List.mem_append_right _ (List.mem_of_getElem? h)))))))), hg⟩
theorem nw_in {w : Cond} (i : Nat) (h : tables_1[i]? = some w) (hg : tw_nest w = true) : w ∈ NW := List.mem_filter.mpr ⟨List.mem_of_getElem? h, hg⟩
theorem tw_good : ∀ w ∈ TW, (w.onTables && w.keeps) = true ∨ ∃ ty, w = .arrayClass ty := fun _ h => good_of_word (List.mem_filter.mp h).2
theorem tw_cons {w : Cond} (h : w ∈ TW) : GoodIn TW (w :: TW) := by
  intro v hv
  rcases List.mem_cons.mp hv with rfl | hv
  · exact ⟨h, tw_good _ h⟩
  · exact ⟨hv, tw_good _ hv⟩
theorem zps0 : ∀ k, k < 12 → lw_tbl[([271, 273, 275, 277, 279, 281, 283, 285, 287, 289, 291, 293] : List Nat).getD k 0]? = some (u_lay "SinglesUp$Chair" zT0 k) ∧ goodWord (u_lay "SinglesUp$Chair" zT0 k) = true := by decide +kernel
theorem zin0 : ∀ w ∈ u_ws "SinglesUp$Chair" zT0 12, w ∈ TW := fun w hw => by
  obtain ⟨k, hk, rfl⟩ := List.mem_map.mp hw
  have h := zps0 k (List.mem_range.mp hk)
  exact tw_in _ h.1 h.2
theorem znm0 : ∀ a, a < 12 → ∀ b, b < 12 → a ≠ b → (zT0 a).2.1 ≠ (zT0 b).2.1 := by decide +kernel
theorem ztyo0 : ∀ k, k < 12 → parseFieldDescriptor (zT0 k).2.2.1 = some (zty0 k) := by decide +kernel
theorem zdf0 : ∀ j, j < 12 → defaultValue (zty0 j) = if (rfm.getD 0 []).contains j then .null else .int 0 := by decide +kernel
theorem zps1 : ∀ k, k < 7 → lw_tbl[([374, 376, 378, 380, 382, 384, 386] : List Nat).getD k 0]? = some (u_lay "SinglesUp$Filling" zT1 k) ∧ goodWord (u_lay "SinglesUp$Filling" zT1 k) = true := by decide +kernel
theorem zin1 : ∀ w ∈ u_ws "SinglesUp$Filling" zT1 7, w ∈ TW := fun w hw => by
  obtain ⟨k, hk, rfl⟩ := List.mem_map.mp hw
  have h := zps1 k (List.mem_range.mp hk)
  exact tw_in _ h.1 h.2
theorem znm1 : ∀ a, a < 7 → ∀ b, b < 7 → a ≠ b → (zT1 a).2.1 ≠ (zT1 b).2.1 := by decide +kernel
theorem ztyo1 : ∀ k, k < 7 → parseFieldDescriptor (zT1 k).2.2.1 = some (zty1 k) := by decide +kernel
theorem zdf1 : ∀ j, j < 7 → defaultValue (zty1 j) = if (rfm.getD 1 []).contains j then .null else .int 0 := by decide +kernel
theorem zps2 : ∀ k, k < 14 → lw_tbl[([215, 217, 219, 221, 223, 225, 227, 229, 231, 233, 235, 237, 239, 241] : List Nat).getD k 0]? = some (u_lay "SinglesUp$Hill" zT2 k) ∧ goodWord (u_lay "SinglesUp$Hill" zT2 k) = true := by decide +kernel
theorem zin2 : ∀ w ∈ u_ws "SinglesUp$Hill" zT2 14, w ∈ TW := fun w hw => by
  obtain ⟨k, hk, rfl⟩ := List.mem_map.mp hw
  have h := zps2 k (List.mem_range.mp hk)
  exact tw_in _ h.1 h.2
theorem znm2 : ∀ a, a < 14 → ∀ b, b < 14 → a ≠ b → (zT2 a).2.1 ≠ (zT2 b).2.1 := by decide +kernel
theorem ztyo2 : ∀ k, k < 14 → parseFieldDescriptor (zT2 k).2.2.1 = some (zty2 k) := by decide +kernel
theorem zdf2 : ∀ j, j < 14 → defaultValue (zty2 j) = if (rfm.getD 2 []).contains j then .null else .int 0 := by decide +kernel
theorem zps3 : ∀ k, k < 6 → lw_tbl[([167, 169, 171, 173, 175, 177] : List Nat).getD k 0]? = some (u_lay "SinglesUp$Law" zT3 k) ∧ goodWord (u_lay "SinglesUp$Law" zT3 k) = true := by decide +kernel
theorem zin3 : ∀ w ∈ u_ws "SinglesUp$Law" zT3 6, w ∈ TW := fun w hw => by
  obtain ⟨k, hk, rfl⟩ := List.mem_map.mp hw
  have h := zps3 k (List.mem_range.mp hk)
  exact tw_in _ h.1 h.2
theorem znm3 : ∀ a, a < 6 → ∀ b, b < 6 → a ≠ b → (zT3 a).2.1 ≠ (zT3 b).2.1 := by decide +kernel
theorem ztyo3 : ∀ k, k < 6 → parseFieldDescriptor (zT3 k).2.2.1 = some (zty3 k) := by decide +kernel
theorem zdf3 : ∀ j, j < 6 → defaultValue (zty3 j) = if (rfm.getD 3 []).contains j then .null else .int 0 := by decide +kernel
theorem zps4 : ∀ k, k < 3 → lw_tbl[([147, 149, 151] : List Nat).getD k 0]? = some (u_lay "SinglesUp$Lines" zT4 k) ∧ goodWord (u_lay "SinglesUp$Lines" zT4 k) = true := by decide +kernel
theorem zin4 : ∀ w ∈ u_ws "SinglesUp$Lines" zT4 3, w ∈ TW := fun w hw => by
  obtain ⟨k, hk, rfl⟩ := List.mem_map.mp hw
  have h := zps4 k (List.mem_range.mp hk)
  exact tw_in _ h.1 h.2
theorem znm4 : ∀ a, a < 3 → ∀ b, b < 3 → a ≠ b → (zT4 a).2.1 ≠ (zT4 b).2.1 := by decide +kernel
theorem ztyo4 : ∀ k, k < 3 → parseFieldDescriptor (zT4 k).2.2.1 = some (zty4 k) := by decide +kernel
theorem zdf4 : ∀ j, j < 3 → defaultValue (zty4 j) = if (rfm.getD 4 []).contains j then .null else .int 0 := by decide +kernel
theorem zps5 : ∀ k, k < 3 → lw_tbl[([299, 301, 303] : List Nat).getD k 0]? = some (u_lay "SinglesUp$Mind" zT5 k) ∧ goodWord (u_lay "SinglesUp$Mind" zT5 k) = true := by decide +kernel
theorem zin5 : ∀ w ∈ u_ws "SinglesUp$Mind" zT5 3, w ∈ TW := fun w hw => by
  obtain ⟨k, hk, rfl⟩ := List.mem_map.mp hw
  have h := zps5 k (List.mem_range.mp hk)
  exact tw_in _ h.1 h.2
theorem znm5 : ∀ a, a < 3 → ∀ b, b < 3 → a ≠ b → (zT5 a).2.1 ≠ (zT5 b).2.1 := by decide +kernel
theorem ztyo5 : ∀ k, k < 3 → parseFieldDescriptor (zT5 k).2.2.1 = some (zty5 k) := by decide +kernel
theorem zdf5 : ∀ j, j < 3 → defaultValue (zty5 j) = if (rfm.getD 5 []).contains j then .null else .int 0 := by decide +kernel
theorem zps6 : ∀ k, k < 7 → lw_tbl[([413, 415, 417, 419, 421, 423, 425] : List Nat).getD k 0]? = some (u_lay "SinglesUp$Packer" zT6 k) ∧ goodWord (u_lay "SinglesUp$Packer" zT6 k) = true := by decide +kernel
theorem zin6 : ∀ w ∈ u_ws "SinglesUp$Packer" zT6 7, w ∈ TW := fun w hw => by
  obtain ⟨k, hk, rfl⟩ := List.mem_map.mp hw
  have h := zps6 k (List.mem_range.mp hk)
  exact tw_in _ h.1 h.2
theorem znm6 : ∀ a, a < 7 → ∀ b, b < 7 → a ≠ b → (zT6 a).2.1 ≠ (zT6 b).2.1 := by decide +kernel
theorem ztyo6 : ∀ k, k < 7 → parseFieldDescriptor (zT6 k).2.2.1 = some (zty6 k) := by decide +kernel
theorem zdf6 : ∀ j, j < 7 → defaultValue (zty6 j) = if (rfm.getD 6 []).contains j then .null else .int 0 := by decide +kernel
theorem zps7 : ∀ k, k < 13 → lw_tbl[([333, 335, 337, 339, 341, 343, 345, 347, 349, 351, 353, 355, 357] : List Nat).getD k 0]? = some (u_lay "SinglesUp$Reader" zT7 k) ∧ goodWord (u_lay "SinglesUp$Reader" zT7 k) = true := by decide +kernel
theorem zin7 : ∀ w ∈ u_ws "SinglesUp$Reader" zT7 13, w ∈ TW := fun w hw => by
  obtain ⟨k, hk, rfl⟩ := List.mem_map.mp hw
  have h := zps7 k (List.mem_range.mp hk)
  exact tw_in _ h.1 h.2
theorem znm7 : ∀ a, a < 13 → ∀ b, b < 13 → a ≠ b → (zT7 a).2.1 ≠ (zT7 b).2.1 := by decide +kernel
theorem ztyo7 : ∀ k, k < 13 → parseFieldDescriptor (zT7 k).2.2.1 = some (zty7 k) := by decide +kernel
theorem zdf7 : ∀ j, j < 13 → defaultValue (zty7 j) = if (rfm.getD 7 []).contains j then .null else .int 0 := by decide +kernel
theorem zps8 : ∀ k, k < 9 → lw_tbl[([437, 439, 441, 443, 445, 447, 449, 451, 453] : List Nat).getD k 0]? = some (u_lay "SinglesUp" zT8 k) ∧ goodWord (u_lay "SinglesUp" zT8 k) = true := by decide +kernel
theorem zin8 : ∀ w ∈ u_ws "SinglesUp" zT8 9, w ∈ TW := fun w hw => by
  obtain ⟨k, hk, rfl⟩ := List.mem_map.mp hw
  have h := zps8 k (List.mem_range.mp hk)
  exact tw_in _ h.1 h.2
theorem znm8 : ∀ a, a < 9 → ∀ b, b < 9 → a ≠ b → (zT8 a).2.1 ≠ (zT8 b).2.1 := by decide +kernel
theorem ztyo8 : ∀ k, k < 9 → parseFieldDescriptor (zT8 k).2.2.1 = some (zty8 k) := by decide +kernel
theorem zdf8 : ∀ j, j < 9 → defaultValue (zty8 j) = if (rfm.getD 8 []).contains j then .null else .int 0 := by decide +kernel
theorem zps9 : ∀ k, k < 51 → lw_tbl[([1199, 1201, 1203, 1205, 1207, 1209, 1211, 1213, 1215, 1217, 1219, 1221, 1223, 1225, 1227, 1229, 1231, 1233, 1235, 1237, 1239, 1241, 1243, 1245, 1247, 1249, 1251, 1253, 1255, 1257, 1259, 1261, 1263, 1265, 1267, 1269, 1271, 1273, 1275, 1277, 1279, 1281, 1283, 1285, 1287, 1289, 1291, 1293, 1295, 1297, 1299] : List Nat).getD k 0]? = some (u_lay "SinglesUpModel" zT9 k) ∧ goodWord (u_lay "SinglesUpModel" zT9 k) = true := by decide +kernel
theorem zin9 : ∀ w ∈ u_ws "SinglesUpModel" zT9 51, w ∈ TW := fun w hw => by
  obtain ⟨k, hk, rfl⟩ := List.mem_map.mp hw
  have h := zps9 k (List.mem_range.mp hk)
  exact tw_in _ h.1 h.2
theorem znm9 : ∀ a, a < 51 → ∀ b, b < 51 → a ≠ b → (zT9 a).2.1 ≠ (zT9 b).2.1 := by decide +kernel
theorem ztyo9 : ∀ k, k < 51 → parseFieldDescriptor (zT9 k).2.2.1 = some (zty9 k) := by decide +kernel
theorem zdf9 : ∀ j, j < 51 → defaultValue (zty9 j) = if (rfm.getD 9 []).contains j then .null else .int 0 := by decide +kernel
theorem cls_in : ∀ (ci : Nat) (q : vw_C), clsT[ci]? = some q → ∀ w ∈ u_ws q.1 q.2.1 q.2.2, w ∈ TW := by
  intro ci q h
  match ci, h with
  | 0, h => cases h; exact zin0
  | 1, h => cases h; exact zin1
  | 2, h => cases h; exact zin2
  | 3, h => cases h; exact zin3
  | 4, h => cases h; exact zin4
  | 5, h => cases h; exact zin5
  | 6, h => cases h; exact zin6
  | 7, h => cases h; exact zin7
  | 8, h => cases h; exact zin8
  | 9, h => cases h; exact zin9
  | k + 10, h => exact absurd h (by simp [clsT])
theorem cls_ty : ∀ (ci : Nat) (q : vw_C), clsT[ci]? = some q → ∀ k, k < q.2.2 → parseFieldDescriptor (q.2.1 k).2.2.1 = some (fty ci k) := by
  intro ci q h
  match ci, h with
  | 0, h => cases h; exact ztyo0
  | 1, h => cases h; exact ztyo1
  | 2, h => cases h; exact ztyo2
  | 3, h => cases h; exact ztyo3
  | 4, h => cases h; exact ztyo4
  | 5, h => cases h; exact ztyo5
  | 6, h => cases h; exact ztyo6
  | 7, h => cases h; exact ztyo7
  | 8, h => cases h; exact ztyo8
  | 9, h => cases h; exact ztyo9
  | k + 10, h => exact absurd h (by simp [clsT])
theorem cls_nm : ∀ (ci : Nat) (q : vw_C), clsT[ci]? = some q → ∀ a, a < q.2.2 → ∀ b, b < q.2.2 → a ≠ b → (q.2.1 a).2.1 ≠ (q.2.1 b).2.1 := by
  intro ci q h
  match ci, h with
  | 0, h => cases h; exact znm0
  | 1, h => cases h; exact znm1
  | 2, h => cases h; exact znm2
  | 3, h => cases h; exact znm3
  | 4, h => cases h; exact znm4
  | 5, h => cases h; exact znm5
  | 6, h => cases h; exact znm6
  | 7, h => cases h; exact znm7
  | 8, h => cases h; exact znm8
  | 9, h => cases h; exact znm9
  | k + 10, h => exact absurd h (by simp [clsT])
theorem cls_fin : ∀ (ci : Nat) (q : vw_C), clsT[ci]? = some q → ∀ k, k < q.2.2 → ffin ci k = (q.2.1 k).2.2.2 ∧ clsN ci = q.1 := by
  intro ci q h
  match ci, h with
  | 0, h => cases h; exact fun _ _ => ⟨rfl, rfl⟩
  | 1, h => cases h; exact fun _ _ => ⟨rfl, rfl⟩
  | 2, h => cases h; exact fun _ _ => ⟨rfl, rfl⟩
  | 3, h => cases h; exact fun _ _ => ⟨rfl, rfl⟩
  | 4, h => cases h; exact fun _ _ => ⟨rfl, rfl⟩
  | 5, h => cases h; exact fun _ _ => ⟨rfl, rfl⟩
  | 6, h => cases h; exact fun _ _ => ⟨rfl, rfl⟩
  | 7, h => cases h; exact fun _ _ => ⟨rfl, rfl⟩
  | 8, h => cases h; exact fun _ _ => ⟨rfl, rfl⟩
  | 9, h => cases h; exact fun _ _ => ⟨rfl, rfl⟩
  | k + 10, h => exact absurd h (by simp [clsT])
theorem cls_df : ∀ (ci : Nat) (q : vw_C), clsT[ci]? = some q → ∀ j, j < q.2.2 → defaultValue (fty ci j) = if (rfm.getD ci []).contains j then .null else .int 0 := by
  intro ci q h
  match ci, h with
  | 0, h => cases h; exact zdf0
  | 1, h => cases h; exact zdf1
  | 2, h => cases h; exact zdf2
  | 3, h => cases h; exact zdf3
  | 4, h => cases h; exact zdf4
  | 5, h => cases h; exact zdf5
  | 6, h => cases h; exact zdf6
  | 7, h => cases h; exact zdf7
  | 8, h => cases h; exact zdf8
  | 9, h => cases h; exact zdf9
  | k + 10, h => exact absurd h (by simp [clsT])
def stO : List (String × Nat × String) := [("SinglesUp$Reader", 95, "take when or and not short first size sort left place line passed waited taken behind "), ("SinglesUp$Reader", 87, ";+-*/()<=>"), ("SinglesUpModel", 154, "when"), ("SinglesUpModel", 156, "or"), ("SinglesUpModel", 158, "and"), ("SinglesUpModel", 160, "not"), ("SinglesUpModel", 162, "size"), ("SinglesUpModel", 164, "sort"), ("SinglesUpModel", 141, "line"), ("SinglesUpModel", 151, "short"), ("SinglesUpModel", 153, "first"), ("SinglesUpModel", 131, "take"), ("SinglesUpModel", 137, "left"), ("SinglesUpModel", 139, "place"), ("SinglesUpModel", 143, "passed"), ("SinglesUpModel", 145, "waited"), ("SinglesUpModel", 147, "taken"), ("SinglesUpModel", 149, "behind")]
def lenJ : List Nat := [86, 10, 4, 2, 3, 3, 4, 4, 4, 5, 5, 4, 4, 5, 6, 6, 5, 6]
def bytJ : List (List Int32) := [[116, 97, 107, 101, 32, 119, 104, 101, 110, 32, 111, 114, 32, 97, 110, 100, 32, 110, 111, 116, 32, 115, 104, 111, 114, 116, 32, 102, 105, 114, 115, 116, 32, 115, 105, 122, 101, 32, 115, 111, 114, 116, 32, 108, 101, 102, 116, 32, 112, 108, 97, 99, 101, 32, 108, 105, 110, 101, 32, 112, 97, 115, 115, 101, 100, 32, 119, 97, 105, 116, 101, 100, 32, 116, 97, 107, 101, 110, 32, 98, 101, 104, 105, 110, 100, 32], [59, 43, 45, 42, 47, 40, 41, 60, 61, 62], [119, 104, 101, 110], [111, 114], [97, 110, 100], [110, 111, 116], [115, 105, 122, 101], [115, 111, 114, 116], [108, 105, 110, 101], [115, 104, 111, 114, 116], [102, 105, 114, 115, 116], [116, 97, 107, 101], [108, 101, 102, 116], [112, 108, 97, 99, 101], [112, 97, 115, 115, 101, 100], [119, 97, 105, 116, 101, 100], [116, 97, 107, 101, 110], [98, 101, 104, 105, 110, 100]]
def stI (i : Nat) : String × Nat × String := stO.getD i ("", 0, "")
