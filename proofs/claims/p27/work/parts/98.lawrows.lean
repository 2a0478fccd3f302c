/-! THE LAW'S WALK -/
def y_law : MI := (x, code, 4, some .boolean)
set_option maxRecDepth 100000 in
theorem mo_S_state : MOk y_S_state 1 := ⟨by decide +kernel, tw_c2 123 rfl rfl, tw_c1 1 (by decide +kernel) rfl, by decide +kernel, by decide +kernel, by decide +kernel⟩
theorem lk_Z_13 : LkV "SinglesUpLaw" 13 y_S_state := ⟨tw_c2 121 (by decide +kernel) rfl, tw_c2 122 (by decide +kernel) rfl, Or.inl (tw_c2 120 (by decide +kernel) rfl)⟩
set_option maxRecDepth 100000 in
theorem mo_X_state : MOk y_X_state 1 := ⟨by decide +kernel, tw_c6 10 rfl rfl, tw_c1 12 (by decide +kernel) rfl, by decide +kernel, by decide +kernel, by decide +kernel⟩
theorem lk_Z_17 : LkV "SinglesUpLaw" 17 y_X_state := ⟨tw_c6 8 (by decide +kernel) rfl, tw_c6 9 (by decide +kernel) rfl, Or.inl (tw_c6 7 (by decide +kernel) rfl)⟩
set_option maxRecDepth 100000 in
theorem mo_S_set : MOk y_S_set 2 := ⟨by decide +kernel, tw_c2 127 rfl rfl, tw_c1 1 (by decide +kernel) rfl, by decide +kernel, by decide +kernel, by decide +kernel⟩
theorem lk_Z_18 : LkV "SinglesUpLaw" 18 y_S_set := ⟨tw_c2 125 (by decide +kernel) rfl, tw_c2 126 (by decide +kernel) rfl, Or.inl (tw_c2 124 (by decide +kernel) rfl)⟩
set_option maxRecDepth 100000 in
theorem mo_X_set : MOk y_X_set 2 := ⟨by decide +kernel, tw_c6 14 rfl rfl, tw_c1 12 (by decide +kernel) rfl, by decide +kernel, by decide +kernel, by decide +kernel⟩
theorem lk_Z_22 : LkV "SinglesUpLaw" 22 y_X_set := ⟨tw_c6 12 (by decide +kernel) rfl, tw_c6 13 (by decide +kernel) rfl, Or.inl (tw_c6 11 (by decide +kernel) rfl)⟩
set_option maxRecDepth 100000 in
theorem mo_S_seen : MOk y_S_seen 2 := ⟨by decide +kernel, tw_c2 143 rfl rfl, tw_c1 1 (by decide +kernel) rfl, by decide +kernel, by decide +kernel, by decide +kernel⟩
theorem lk_Z_23 : LkV "SinglesUpLaw" 23 y_S_seen := ⟨tw_c2 141 (by decide +kernel) rfl, tw_c2 142 (by decide +kernel) rfl, Or.inl (tw_c2 140 (by decide +kernel) rfl)⟩
set_option maxRecDepth 100000 in
theorem mo_X_seen : MOk y_X_seen 2 := ⟨by decide +kernel, tw_c6 25 rfl rfl, tw_c1 12 (by decide +kernel) rfl, by decide +kernel, by decide +kernel, by decide +kernel⟩
theorem lk_Z_26 : LkV "SinglesUpLaw" 26 y_X_seen := ⟨tw_c6 23 (by decide +kernel) rfl, tw_c6 24 (by decide +kernel) rfl, Or.inl (tw_c6 22 (by decide +kernel) rfl)⟩
set_option maxRecDepth 100000 in
theorem mo_S_parts : MOk y_S_parts 2 := ⟨by decide +kernel, tw_c2 150 rfl rfl, tw_c1 1 (by decide +kernel) rfl, by decide +kernel, by decide +kernel, by decide +kernel⟩
theorem lk_Z_27 : LkV "SinglesUpLaw" 27 y_S_parts := ⟨tw_c2 148 (by decide +kernel) rfl, tw_c2 149 (by decide +kernel) rfl, Or.inl (tw_c2 147 (by decide +kernel) rfl)⟩
set_option maxRecDepth 100000 in
theorem mo_X_parts : MOk y_X_parts 2 := ⟨by decide +kernel, tw_c6 32 rfl rfl, tw_c1 12 (by decide +kernel) rfl, by decide +kernel, by decide +kernel, by decide +kernel⟩
theorem lk_Z_30 : LkV "SinglesUpLaw" 30 y_X_parts := ⟨tw_c6 30 (by decide +kernel) rfl, tw_c6 31 (by decide +kernel) rfl, Or.inl (tw_c6 29 (by decide +kernel) rfl)⟩
set_option maxRecDepth 100000 in
theorem mo_S_comer : MOk y_S_comer 5 := ⟨by decide +kernel, tw_c2 154 rfl rfl, tw_c1 1 (by decide +kernel) rfl, by decide +kernel, by decide +kernel, by decide +kernel⟩
theorem lk_Z_31 : LkV "SinglesUpLaw" 31 y_S_comer := ⟨tw_c2 152 (by decide +kernel) rfl, tw_c2 153 (by decide +kernel) rfl, Or.inl (tw_c2 151 (by decide +kernel) rfl)⟩
set_option maxRecDepth 100000 in
theorem mo_X_comer : MOk y_X_comer 5 := ⟨by decide +kernel, tw_c6 36 rfl rfl, tw_c1 12 (by decide +kernel) rfl, by decide +kernel, by decide +kernel, by decide +kernel⟩
theorem lk_Z_35 : LkV "SinglesUpLaw" 35 y_X_comer := ⟨tw_c6 34 (by decide +kernel) rfl, tw_c6 35 (by decide +kernel) rfl, Or.inl (tw_c6 33 (by decide +kernel) rfl)⟩
set_option maxRecDepth 100000 in
theorem mo_S_feed : MOk y_S_feed 5 := ⟨by decide +kernel, tw_c2 165 rfl rfl, tw_c1 1 (by decide +kernel) rfl, by decide +kernel, by decide +kernel, by decide +kernel⟩
theorem lk_Z_36 : LkV "SinglesUpLaw" 36 y_S_feed := ⟨tw_c2 163 (by decide +kernel) rfl, tw_c2 164 (by decide +kernel) rfl, Or.inl (tw_c2 162 (by decide +kernel) rfl)⟩
set_option maxRecDepth 100000 in
theorem mo_X_feed : MOk y_X_feed 5 := ⟨by decide +kernel, tw_c6 43 rfl rfl, tw_c1 12 (by decide +kernel) rfl, by decide +kernel, by decide +kernel, by decide +kernel⟩
theorem lk_Z_40 : LkV "SinglesUpLaw" 40 y_X_feed := ⟨tw_c6 41 (by decide +kernel) rfl, tw_c6 42 (by decide +kernel) rfl, Or.inl (tw_c6 40 (by decide +kernel) rfl)⟩
set_option maxRecDepth 100000 in
theorem mo_S_end : MOk y_S_end 1 := ⟨by decide +kernel, tw_c2 177 rfl rfl, tw_c1 1 (by decide +kernel) rfl, by decide +kernel, by decide +kernel, by decide +kernel⟩
theorem lk_Z_41 : LkV "SinglesUpLaw" 41 y_S_end := ⟨tw_c2 175 (by decide +kernel) rfl, tw_c2 176 (by decide +kernel) rfl, Or.inl (tw_c2 174 (by decide +kernel) rfl)⟩
set_option maxRecDepth 100000 in
theorem mo_X_end : MOk y_X_end 1 := ⟨by decide +kernel, tw_c6 47 rfl rfl, tw_c1 12 (by decide +kernel) rfl, by decide +kernel, by decide +kernel, by decide +kernel⟩
theorem lk_Z_45 : LkV "SinglesUpLaw" 45 y_X_end := ⟨tw_c6 45 (by decide +kernel) rfl, tw_c6 46 (by decide +kernel) rfl, Or.inl (tw_c6 44 (by decide +kernel) rfl)⟩
set_option maxRecDepth 100000 in
theorem mo_S_text : MOk y_S_text 1 := ⟨by decide +kernel, tw_c2 185 rfl rfl, tw_c1 1 (by decide +kernel) rfl, by decide +kernel, by decide +kernel, by decide +kernel⟩
theorem lk_Z_46 : LkV "SinglesUpLaw" 46 y_S_text := ⟨tw_c2 183 (by decide +kernel) rfl, tw_c2 184 (by decide +kernel) rfl, Or.inl (tw_c2 182 (by decide +kernel) rfl)⟩
set_option maxRecDepth 100000 in
theorem mo_X_text : MOk y_X_text 1 := ⟨by decide +kernel, tw_c6 51 rfl rfl, tw_c1 12 (by decide +kernel) rfl, by decide +kernel, by decide +kernel, by decide +kernel⟩
theorem lk_Z_49 : LkV "SinglesUpLaw" 49 y_X_text := ⟨tw_c6 49 (by decide +kernel) rfl, tw_c6 50 (by decide +kernel) rfl, Or.inl (tw_c6 48 (by decide +kernel) rfl)⟩
set_option maxRecDepth 100000 in
theorem mo_S_fault : MOk y_S_fault 1 := ⟨by decide +kernel, tw_c3 156 rfl rfl, tw_c1 1 (by decide +kernel) rfl, by decide +kernel, by decide +kernel, by decide +kernel⟩
theorem lk_Z_50 : LkV "SinglesUpLaw" 50 y_S_fault := ⟨tw_c3 154 (by decide +kernel) rfl, tw_c3 155 (by decide +kernel) rfl, Or.inl (tw_c3 153 (by decide +kernel) rfl)⟩
set_option maxRecDepth 100000 in
theorem mo_X_fault : MOk y_X_fault 1 := ⟨by decide +kernel, tw_c6 151 rfl rfl, tw_c1 12 (by decide +kernel) rfl, by decide +kernel, by decide +kernel, by decide +kernel⟩
theorem lk_Z_53 : LkV "SinglesUpLaw" 53 y_X_fault := ⟨tw_c6 149 (by decide +kernel) rfl, tw_c6 150 (by decide +kernel) rfl, Or.inl (tw_c6 148 (by decide +kernel) rfl)⟩
set_option maxRecDepth 100000 in
theorem mo_S_come : MOk y_S_come 3 := ⟨by decide +kernel, tw_c3 160 rfl rfl, tw_c1 1 (by decide +kernel) rfl, by decide +kernel, by decide +kernel, by decide +kernel⟩
theorem lk_Z_54 : LkV "SinglesUpLaw" 54 y_S_come := ⟨tw_c3 158 (by decide +kernel) rfl, tw_c3 159 (by decide +kernel) rfl, Or.inl (tw_c3 157 (by decide +kernel) rfl)⟩
set_option maxRecDepth 100000 in
theorem mo_X_come : MOk y_X_come 3 := ⟨by decide +kernel, tw_c6 155 rfl rfl, tw_c1 12 (by decide +kernel) rfl, by decide +kernel, by decide +kernel, by decide +kernel⟩
theorem lk_Z_58 : LkV "SinglesUpLaw" 58 y_X_come := ⟨tw_c6 153 (by decide +kernel) rfl, tw_c6 154 (by decide +kernel) rfl, Or.inl (tw_c6 152 (by decide +kernel) rfl)⟩
set_option maxRecDepth 100000 in
theorem mo_S_group : MOk y_S_group 3 := ⟨by decide +kernel, tw_c3 190 rfl rfl, tw_c1 1 (by decide +kernel) rfl, by decide +kernel, by decide +kernel, by decide +kernel⟩
theorem lk_Z_59 : LkV "SinglesUpLaw" 59 y_S_group := ⟨tw_c3 188 (by decide +kernel) rfl, tw_c3 189 (by decide +kernel) rfl, Or.inl (tw_c3 187 (by decide +kernel) rfl)⟩
set_option maxRecDepth 100000 in
theorem mo_X_group : MOk y_X_group 3 := ⟨by decide +kernel, tw_c6 185 rfl rfl, tw_c1 12 (by decide +kernel) rfl, by decide +kernel, by decide +kernel, by decide +kernel⟩
theorem lk_Z_62 : LkV "SinglesUpLaw" 62 y_X_group := ⟨tw_c6 183 (by decide +kernel) rfl, tw_c6 184 (by decide +kernel) rfl, Or.inl (tw_c6 182 (by decide +kernel) rfl)⟩
set_option maxRecDepth 100000 in
theorem mo_S_line : MOk y_S_line 2 := ⟨by decide +kernel, tw_c3 218 rfl rfl, tw_c1 1 (by decide +kernel) rfl, by decide +kernel, by decide +kernel, by decide +kernel⟩
theorem lk_Z_63 : LkV "SinglesUpLaw" 63 y_S_line := ⟨tw_c3 216 (by decide +kernel) rfl, tw_c3 217 (by decide +kernel) rfl, Or.inl (tw_c3 215 (by decide +kernel) rfl)⟩
set_option maxRecDepth 100000 in
theorem mo_X_line : MOk y_X_line 2 := ⟨by decide +kernel, tw_c6 198 rfl rfl, tw_c1 12 (by decide +kernel) rfl, by decide +kernel, by decide +kernel, by decide +kernel⟩
theorem lk_Z_67 : LkV "SinglesUpLaw" 67 y_X_line := ⟨tw_c6 196 (by decide +kernel) rfl, tw_c6 197 (by decide +kernel) rfl, Or.inl (tw_c6 195 (by decide +kernel) rfl)⟩
set_option maxRecDepth 100000 in
theorem mo_S_pick : MOk y_S_pick 2 := ⟨by decide +kernel, tw_c3 228 rfl rfl, tw_c1 1 (by decide +kernel) rfl, by decide +kernel, by decide +kernel, by decide +kernel⟩
theorem lk_Z_68 : LkV "SinglesUpLaw" 68 y_S_pick := ⟨tw_c3 226 (by decide +kernel) rfl, tw_c3 227 (by decide +kernel) rfl, Or.inl (tw_c3 225 (by decide +kernel) rfl)⟩
set_option maxRecDepth 100000 in
theorem mo_X_pick : MOk y_X_pick 2 := ⟨by decide +kernel, tw_c7 33 rfl rfl, tw_c1 12 (by decide +kernel) rfl, by decide +kernel, by decide +kernel, by decide +kernel⟩
theorem lk_Z_71 : LkV "SinglesUpLaw" 71 y_X_pick := ⟨tw_c7 31 (by decide +kernel) rfl, tw_c7 32 (by decide +kernel) rfl, Or.inl (tw_c7 30 (by decide +kernel) rfl)⟩
set_option maxRecDepth 100000 in
theorem mo_S_send : MOk y_S_send 0 := ⟨by decide +kernel, tw_c4 11 rfl rfl, tw_c1 1 (by decide +kernel) rfl, by decide +kernel, by decide +kernel, by decide +kernel⟩
theorem lk_Z_72 : LkV "SinglesUpLaw" 72 y_S_send := ⟨tw_c4 9 (by decide +kernel) rfl, tw_c4 10 (by decide +kernel) rfl, Or.inl (tw_c4 8 (by decide +kernel) rfl)⟩
set_option maxRecDepth 100000 in
theorem mo_X_send : MOk y_X_send 0 := ⟨by decide +kernel, tw_c7 37 rfl rfl, tw_c1 12 (by decide +kernel) rfl, by decide +kernel, by decide +kernel, by decide +kernel⟩
theorem lk_Z_76 : LkV "SinglesUpLaw" 76 y_X_send := ⟨tw_c7 35 (by decide +kernel) rfl, tw_c7 36 (by decide +kernel) rfl, Or.inl (tw_c7 34 (by decide +kernel) rfl)⟩
set_option maxRecDepth 100000 in
theorem mo_S_chair : MOk y_S_chair 0 := ⟨by decide +kernel, tw_c4 57 rfl rfl, tw_c1 1 (by decide +kernel) rfl, by decide +kernel, by decide +kernel, by decide +kernel⟩
theorem lk_Z_77 : LkV "SinglesUpLaw" 77 y_S_chair := ⟨tw_c4 55 (by decide +kernel) rfl, tw_c4 56 (by decide +kernel) rfl, Or.inl (tw_c4 54 (by decide +kernel) rfl)⟩
theorem lk_Z_80 : LkV "SinglesUpLaw" 80 y_X_chair := ⟨tw_c6 200 (by decide +kernel) rfl, tw_c6 201 (by decide +kernel) rfl, Or.inl (tw_c6 199 (by decide +kernel) rfl)⟩
set_option maxRecDepth 100000 in
theorem mo_S_run : MOk y_S_run 1 := ⟨by decide +kernel, tw_c4 109 rfl rfl, tw_c1 1 (by decide +kernel) rfl, by decide +kernel, by decide +kernel, by decide +kernel⟩
theorem lk_Z_81 : LkV "SinglesUpLaw" 81 y_S_run := ⟨tw_c4 107 (by decide +kernel) rfl, tw_c4 108 (by decide +kernel) rfl, Or.inl (tw_c4 106 (by decide +kernel) rfl)⟩
set_option maxRecDepth 100000 in
theorem mo_X_run : MOk y_X_run 1 := ⟨by decide +kernel, tw_c7 12 rfl rfl, tw_c1 12 (by decide +kernel) rfl, by decide +kernel, by decide +kernel, by decide +kernel⟩
theorem lk_Z_84 : LkV "SinglesUpLaw" 84 y_X_run := ⟨tw_c7 10 (by decide +kernel) rfl, tw_c7 11 (by decide +kernel) rfl, Or.inl (tw_c7 9 (by decide +kernel) rfl)⟩
set_option maxRecDepth 100000 in
theorem mo_S_last : MOk y_S_last 1 := ⟨by decide +kernel, tw_c4 122 rfl rfl, tw_c1 1 (by decide +kernel) rfl, by decide +kernel, by decide +kernel, by decide +kernel⟩
theorem lk_Z_85 : LkV "SinglesUpLaw" 85 y_S_last := ⟨tw_c4 120 (by decide +kernel) rfl, tw_c4 121 (by decide +kernel) rfl, Or.inl (tw_c4 119 (by decide +kernel) rfl)⟩
set_option maxRecDepth 100000 in
theorem mo_X_last : MOk y_X_last 1 := ⟨by decide +kernel, tw_c7 21 rfl rfl, tw_c1 12 (by decide +kernel) rfl, by decide +kernel, by decide +kernel, by decide +kernel⟩
theorem lk_Z_88 : LkV "SinglesUpLaw" 88 y_X_last := ⟨tw_c7 19 (by decide +kernel) rfl, tw_c7 20 (by decide +kernel) rfl, Or.inl (tw_c7 18 (by decide +kernel) rfl)⟩
set_option maxRecDepth 100000 in
theorem mo_S_count : MOk y_S_count 1 := ⟨by decide +kernel, tw_c4 126 rfl rfl, tw_c1 1 (by decide +kernel) rfl, by decide +kernel, by decide +kernel, by decide +kernel⟩
theorem lk_Z_89 : LkV "SinglesUpLaw" 89 y_S_count := ⟨tw_c4 124 (by decide +kernel) rfl, tw_c4 125 (by decide +kernel) rfl, Or.inl (tw_c4 123 (by decide +kernel) rfl)⟩
set_option maxRecDepth 100000 in
theorem mo_X_count : MOk y_X_count 1 := ⟨by decide +kernel, tw_c7 25 rfl rfl, tw_c1 12 (by decide +kernel) rfl, by decide +kernel, by decide +kernel, by decide +kernel⟩
theorem lk_Z_92 : LkV "SinglesUpLaw" 92 y_X_count := ⟨tw_c7 23 (by decide +kernel) rfl, tw_c7 24 (by decide +kernel) rfl, Or.inl (tw_c7 22 (by decide +kernel) rfl)⟩
set_option maxRecDepth 100000 in
theorem mo_S_best : MOk y_S_best 1 := ⟨by decide +kernel, tw_c4 135 rfl rfl, tw_c1 1 (by decide +kernel) rfl, by decide +kernel, by decide +kernel, by decide +kernel⟩
theorem lk_Z_93 : LkV "SinglesUpLaw" 93 y_S_best := ⟨tw_c4 133 (by decide +kernel) rfl, tw_c4 134 (by decide +kernel) rfl, Or.inl (tw_c4 132 (by decide +kernel) rfl)⟩
theorem lk_Z_96 : LkV "SinglesUpLaw" 96 y_X_best := ⟨tw_c7 39 (by decide +kernel) rfl, tw_c7 40 (by decide +kernel) rfl, Or.inl (tw_c7 38 (by decide +kernel) rfl)⟩
set_option maxRecDepth 100000 in
theorem mo_S_look : MOk y_S_look 1 := ⟨by decide +kernel, tw_c4 170 rfl rfl, tw_c1 1 (by decide +kernel) rfl, by decide +kernel, by decide +kernel, by decide +kernel⟩
theorem lk_Z_97 : LkV "SinglesUpLaw" 97 y_S_look := ⟨tw_c4 168 (by decide +kernel) rfl, tw_c4 169 (by decide +kernel) rfl, Or.inl (tw_c4 167 (by decide +kernel) rfl)⟩
set_option maxRecDepth 100000 in
theorem mo_X_look : MOk y_X_look 1 := ⟨by decide +kernel, tw_c7 64 rfl rfl, tw_c1 12 (by decide +kernel) rfl, by decide +kernel, by decide +kernel, by decide +kernel⟩
theorem lk_Z_100 : LkV "SinglesUpLaw" 100 y_X_look := ⟨tw_c7 62 (by decide +kernel) rfl, tw_c7 63 (by decide +kernel) rfl, Or.inl (tw_c7 61 (by decide +kernel) rfl)⟩
set_option maxRecDepth 100000 in
theorem mo_S_heap : MOk y_S_heap 2 := ⟨by decide +kernel, tw_c4 174 rfl rfl, tw_c1 1 (by decide +kernel) rfl, by decide +kernel, by decide +kernel, by decide +kernel⟩
theorem lk_Z_101 : LkV "SinglesUpLaw" 101 y_S_heap := ⟨tw_c4 172 (by decide +kernel) rfl, tw_c4 173 (by decide +kernel) rfl, Or.inl (tw_c4 171 (by decide +kernel) rfl)⟩
set_option maxRecDepth 100000 in
theorem mo_X_heap : MOk y_X_heap 2 := ⟨by decide +kernel, tw_c7 69 rfl rfl, tw_c1 12 (by decide +kernel) rfl, by decide +kernel, by decide +kernel, by decide +kernel⟩
theorem lk_Z_104 : LkV "SinglesUpLaw" 104 y_X_heap := ⟨tw_c7 67 (by decide +kernel) rfl, tw_c7 68 (by decide +kernel) rfl, Or.inl (tw_c7 66 (by decide +kernel) rfl)⟩
set_option maxRecDepth 100000 in
theorem mo_S_fewest : MOk y_S_fewest 1 := ⟨by decide +kernel, tw_c4 178 rfl rfl, tw_c1 1 (by decide +kernel) rfl, by decide +kernel, by decide +kernel, by decide +kernel⟩
theorem lk_Z_105 : LkV "SinglesUpLaw" 105 y_S_fewest := ⟨tw_c4 176 (by decide +kernel) rfl, tw_c4 177 (by decide +kernel) rfl, Or.inl (tw_c4 175 (by decide +kernel) rfl)⟩
set_option maxRecDepth 100000 in
theorem mo_X_fewest : MOk y_X_fewest 1 := ⟨by decide +kernel, tw_c7 73 rfl rfl, tw_c1 12 (by decide +kernel) rfl, by decide +kernel, by decide +kernel, by decide +kernel⟩
theorem lk_Z_108 : LkV "SinglesUpLaw" 108 y_X_fewest := ⟨tw_c7 71 (by decide +kernel) rfl, tw_c7 72 (by decide +kernel) rfl, Or.inl (tw_c7 70 (by decide +kernel) rfl)⟩
set_option maxRecDepth 100000 in
theorem mo_S_thought : MOk y_S_thought 5 := ⟨by decide +kernel, tw_c4 207 rfl rfl, tw_c1 1 (by decide +kernel) rfl, by decide +kernel, by decide +kernel, by decide +kernel⟩
theorem lk_Z_109 : LkV "SinglesUpLaw" 109 y_S_thought := ⟨tw_c4 205 (by decide +kernel) rfl, tw_c4 206 (by decide +kernel) rfl, Or.inl (tw_c4 204 (by decide +kernel) rfl)⟩
set_option maxRecDepth 100000 in
theorem mo_X_thought : MOk y_X_thought 5 := ⟨by decide +kernel, tw_c7 138 rfl rfl, tw_c1 12 (by decide +kernel) rfl, by decide +kernel, by decide +kernel, by decide +kernel⟩
theorem lk_Z_112 : LkV "SinglesUpLaw" 112 y_X_thought := ⟨tw_c7 136 (by decide +kernel) rfl, tw_c7 137 (by decide +kernel) rfl, Or.inl (tw_c7 135 (by decide +kernel) rfl)⟩
set_option maxRecDepth 100000 in
theorem mo_S_price : MOk y_S_price 2 := ⟨by decide +kernel, tw_c4 238 rfl rfl, tw_c1 1 (by decide +kernel) rfl, by decide +kernel, by decide +kernel, by decide +kernel⟩
theorem lk_Z_113 : LkV "SinglesUpLaw" 113 y_S_price := ⟨tw_c4 236 (by decide +kernel) rfl, tw_c4 237 (by decide +kernel) rfl, Or.inl (tw_c4 235 (by decide +kernel) rfl)⟩
set_option maxRecDepth 100000 in
theorem mo_X_price : MOk y_X_price 2 := ⟨by decide +kernel, tw_c7 154 rfl rfl, tw_c1 12 (by decide +kernel) rfl, by decide +kernel, by decide +kernel, by decide +kernel⟩
theorem lk_Z_116 : LkV "SinglesUpLaw" 116 y_X_price := ⟨tw_c7 152 (by decide +kernel) rfl, tw_c7 153 (by decide +kernel) rfl, Or.inl (tw_c7 151 (by decide +kernel) rfl)⟩
set_option maxRecDepth 100000 in
theorem mo_S_till : MOk y_S_till 2 := ⟨by decide +kernel, tw_c5 2 rfl rfl, tw_c1 1 (by decide +kernel) rfl, by decide +kernel, by decide +kernel, by decide +kernel⟩
theorem lk_Z_117 : LkV "SinglesUpLaw" 117 y_S_till := ⟨tw_c5 0 (by decide +kernel) rfl, tw_c5 1 (by decide +kernel) rfl, Or.inl (tw_c4 239 (by decide +kernel) rfl)⟩
theorem lk_Z_120 : LkV "SinglesUpLaw" 120 y_X_till := ⟨tw_c7 95 (by decide +kernel) rfl, tw_c7 96 (by decide +kernel) rfl, Or.inl (tw_c7 94 (by decide +kernel) rfl)⟩
set_option maxRecDepth 100000 in
theorem mo_S_together : MOk y_S_together 5 := ⟨by decide +kernel, tw_c5 25 rfl rfl, tw_c1 1 (by decide +kernel) rfl, by decide +kernel, by decide +kernel, by decide +kernel⟩
theorem lk_Z_121 : LkV "SinglesUpLaw" 121 y_S_together := ⟨tw_c5 23 (by decide +kernel) rfl, tw_c5 24 (by decide +kernel) rfl, Or.inl (tw_c5 22 (by decide +kernel) rfl)⟩
set_option maxRecDepth 100000 in
theorem mo_X_together : MOk y_X_together 5 := ⟨by decide +kernel, tw_c7 121 rfl rfl, tw_c1 12 (by decide +kernel) rfl, by decide +kernel, by decide +kernel, by decide +kernel⟩
theorem lk_Z_124 : LkV "SinglesUpLaw" 124 y_X_together := ⟨tw_c7 119 (by decide +kernel) rfl, tw_c7 120 (by decide +kernel) rfl, Or.inl (tw_c7 118 (by decide +kernel) rfl)⟩
set_option maxRecDepth 100000 in
theorem mo_S_needed : MOk y_S_needed 1 := ⟨by decide +kernel, tw_c5 47 rfl rfl, tw_c1 1 (by decide +kernel) rfl, by decide +kernel, by decide +kernel, by decide +kernel⟩
theorem lk_Z_125 : LkV "SinglesUpLaw" 125 y_S_needed := ⟨tw_c5 45 (by decide +kernel) rfl, tw_c5 46 (by decide +kernel) rfl, Or.inl (tw_c5 44 (by decide +kernel) rfl)⟩
set_option maxRecDepth 100000 in
theorem mo_X_needed : MOk y_X_needed 1 := ⟨by decide +kernel, tw_c7 134 rfl rfl, tw_c1 12 (by decide +kernel) rfl, by decide +kernel, by decide +kernel, by decide +kernel⟩
theorem lk_Z_128 : LkV "SinglesUpLaw" 128 y_X_needed := ⟨tw_c7 132 (by decide +kernel) rfl, tw_c7 133 (by decide +kernel) rfl, Or.inl (tw_c7 131 (by decide +kernel) rfl)⟩
set_option maxRecDepth 100000 in
theorem mo_S_past : MOk y_S_past 2 := ⟨by decide +kernel, tw_c5 56 rfl rfl, tw_c1 1 (by decide +kernel) rfl, by decide +kernel, by decide +kernel, by decide +kernel⟩
theorem lk_Z_129 : LkV "SinglesUpLaw" 129 y_S_past := ⟨tw_c5 54 (by decide +kernel) rfl, tw_c5 55 (by decide +kernel) rfl, Or.inl (tw_c5 53 (by decide +kernel) rfl)⟩
set_option maxRecDepth 100000 in
theorem mo_X_past : MOk y_X_past 2 := ⟨by decide +kernel, tw_c7 29 rfl rfl, tw_c1 12 (by decide +kernel) rfl, by decide +kernel, by decide +kernel, by decide +kernel⟩
theorem lk_Z_132 : LkV "SinglesUpLaw" 132 y_X_past := ⟨tw_c7 27 (by decide +kernel) rfl, tw_c7 28 (by decide +kernel) rfl, Or.inl (tw_c7 26 (by decide +kernel) rfl)⟩
set_option maxRecDepth 100000 in
theorem mo_S_which : MOk y_S_which 2 := ⟨by decide +kernel, tw_c5 64 rfl rfl, tw_c1 1 (by decide +kernel) rfl, by decide +kernel, by decide +kernel, by decide +kernel⟩
theorem lk_Z_133 : LkV "SinglesUpLaw" 133 y_S_which := ⟨tw_c5 62 (by decide +kernel) rfl, tw_c5 63 (by decide +kernel) rfl, Or.inl (tw_c5 61 (by decide +kernel) rfl)⟩
set_option maxRecDepth 100000 in
theorem mo_X_which : MOk y_X_which 2 := ⟨by decide +kernel, tw_c7 158 rfl rfl, tw_c1 12 (by decide +kernel) rfl, by decide +kernel, by decide +kernel, by decide +kernel⟩
theorem lk_Z_136 : LkV "SinglesUpLaw" 136 y_X_which := ⟨tw_c7 156 (by decide +kernel) rfl, tw_c7 157 (by decide +kernel) rfl, Or.inl (tw_c7 155 (by decide +kernel) rfl)⟩
set_option maxRecDepth 100000 in
theorem mo_S_folded : MOk y_S_folded 3 := ⟨by decide +kernel, tw_c5 73 rfl rfl, tw_c1 1 (by decide +kernel) rfl, by decide +kernel, by decide +kernel, by decide +kernel⟩
theorem lk_Z_137 : LkV "SinglesUpLaw" 137 y_S_folded := ⟨tw_c5 71 (by decide +kernel) rfl, tw_c5 72 (by decide +kernel) rfl, Or.inl (tw_c5 70 (by decide +kernel) rfl)⟩
set_option maxRecDepth 100000 in
theorem mo_X_folded : MOk y_X_folded 3 := ⟨by decide +kernel, tw_c7 162 rfl rfl, tw_c1 12 (by decide +kernel) rfl, by decide +kernel, by decide +kernel, by decide +kernel⟩
theorem lk_Z_140 : LkV "SinglesUpLaw" 140 y_X_folded := ⟨tw_c7 160 (by decide +kernel) rfl, tw_c7 161 (by decide +kernel) rfl, Or.inl (tw_c7 159 (by decide +kernel) rfl)⟩
set_option maxRecDepth 100000 in
theorem mo_S_image : MOk y_S_image 1 := ⟨by decide +kernel, tw_c5 81 rfl rfl, tw_c1 1 (by decide +kernel) rfl, by decide +kernel, by decide +kernel, by decide +kernel⟩
theorem lk_Z_141 : LkV "SinglesUpLaw" 141 y_S_image := ⟨tw_c5 79 (by decide +kernel) rfl, tw_c5 80 (by decide +kernel) rfl, Or.inl (tw_c5 78 (by decide +kernel) rfl)⟩
set_option maxRecDepth 100000 in
theorem mo_X_image : MOk y_X_image 1 := ⟨by decide +kernel, tw_c7 166 rfl rfl, tw_c1 12 (by decide +kernel) rfl, by decide +kernel, by decide +kernel, by decide +kernel⟩
theorem lk_Z_145 : LkV "SinglesUpLaw" 145 y_X_image := ⟨tw_c7 164 (by decide +kernel) rfl, tw_c7 165 (by decide +kernel) rfl, Or.inl (tw_c7 163 (by decide +kernel) rfl)⟩
set_option maxRecDepth 100000 in
theorem mo_S_told : MOk y_S_told 1 := ⟨by decide +kernel, tw_c5 86 rfl rfl, tw_c1 1 (by decide +kernel) rfl, by decide +kernel, by decide +kernel, by decide +kernel⟩
theorem lk_Z_146 : LkV "SinglesUpLaw" 146 y_S_told := ⟨tw_c5 84 (by decide +kernel) rfl, tw_c5 85 (by decide +kernel) rfl, Or.inl (tw_c5 83 (by decide +kernel) rfl)⟩
set_option maxRecDepth 100000 in
theorem mo_X_told : MOk y_X_told 1 := ⟨by decide +kernel, tw_c7 170 rfl rfl, tw_c1 12 (by decide +kernel) rfl, by decide +kernel, by decide +kernel, by decide +kernel⟩
theorem lk_Z_149 : LkV "SinglesUpLaw" 149 y_X_told := ⟨tw_c7 168 (by decide +kernel) rfl, tw_c7 169 (by decide +kernel) rfl, Or.inl (tw_c7 167 (by decide +kernel) rfl)⟩
set_option maxRecDepth 100000 in
theorem mo_S_init : MOk y_S_init 0 := ⟨by decide +kernel, tw_c1 23 rfl rfl, tw_c1 1 (by decide +kernel) rfl, by decide +kernel, by decide +kernel, by decide +kernel⟩
set_option maxRecDepth 100000 in
theorem mo_X_init : MOk y_X_init 0 := ⟨by decide +kernel, tw_c5 91 rfl rfl, tw_c1 12 (by decide +kernel) rfl, by decide +kernel, by decide +kernel, by decide +kernel⟩
theorem lk_Z_9 : LkI "SinglesUpLaw" 9 y_S_init := ⟨rfl, rfl, tw_c1 22 (by decide +kernel) rfl, Or.inl (tw_c1 21 (by decide +kernel) rfl)⟩
theorem lk_Z_12 : LkI "SinglesUpLaw" 12 y_X_init := ⟨rfl, rfl, tw_c5 90 (by decide +kernel) rfl, Or.inl (tw_c5 89 (by decide +kernel) rfl)⟩
theorem ck_law_5 : (y_law.2.1.data.toList.drop 160).take 32 = [0, 0, 4, 33, 0, 0, 4, 66, 0, 0, 4, 109, 0, 0, 4, 148, 43, 42, 29, 4, 96, 46, 182, 0, 13, 87, 44, 42, 29, 4, 96, 46] := by decide +kernel
theorem dw_176 : decode y_law.2.1 176 = .ok (.aload_n 1, 1) := op_aload_n1 (gk (k := 160) (t := 16) ck_law_5 rfl)
theorem dw_177 : decode y_law.2.1 177 = .ok (.aload_n 0, 1) := op_aload_n0 (gk (k := 160) (t := 17) ck_law_5 rfl)
theorem dw_178 : decode y_law.2.1 178 = .ok (.iload_n 3, 1) := op_iload_n3 (gk (k := 160) (t := 18) ck_law_5 rfl)
theorem dw_179 : decode y_law.2.1 179 = .ok (.iconst 1, 1) := op_iconst1 (gk (k := 160) (t := 19) ck_law_5 rfl)
theorem dw_180 : decode y_law.2.1 180 = .ok (.iadd, 1) := op_iadd (gk (k := 160) (t := 20) ck_law_5 rfl)
theorem dw_181 : decode y_law.2.1 181 = .ok (.iaload, 1) := op_iaload (gk (k := 160) (t := 21) ck_law_5 rfl)
theorem dw_182 : decode y_law.2.1 182 = .ok (.invokevirtual 13, 3) := op_invokevirtual (gk (k := 160) (t := 22) ck_law_5 rfl) (gk (k := 160) (t := 23) ck_law_5 rfl) (gk (k := 160) (t := 24) ck_law_5 rfl) rfl
theorem dw_185 : decode y_law.2.1 185 = .ok (.pop, 1) := op_pop (gk (k := 160) (t := 25) ck_law_5 rfl)
theorem dw_186 : decode y_law.2.1 186 = .ok (.aload_n 2, 1) := op_aload_n2 (gk (k := 160) (t := 26) ck_law_5 rfl)
theorem dw_187 : decode y_law.2.1 187 = .ok (.aload_n 0, 1) := op_aload_n0 (gk (k := 160) (t := 27) ck_law_5 rfl)
theorem dw_188 : decode y_law.2.1 188 = .ok (.iload_n 3, 1) := op_iload_n3 (gk (k := 160) (t := 28) ck_law_5 rfl)
theorem dw_189 : decode y_law.2.1 189 = .ok (.iconst 1, 1) := op_iconst1 (gk (k := 160) (t := 29) ck_law_5 rfl)
theorem dw_190 : decode y_law.2.1 190 = .ok (.iadd, 1) := op_iadd (gk (k := 160) (t := 30) ck_law_5 rfl)
theorem dw_191 : decode y_law.2.1 191 = .ok (.iaload, 1) := op_iaload (gk (k := 160) (t := 31) ck_law_5 rfl)
theorem ck_law_6 : (y_law.2.1.data.toList.drop 192).take 32 = [182, 0, 17, 87, 167, 4, 8, 43, 42, 29, 4, 96, 46, 42, 29, 5, 96, 46, 182, 0, 18, 87, 44, 42, 29, 4, 96, 46, 42, 29, 5, 96] := by decide +kernel
theorem dw_192 : decode y_law.2.1 192 = .ok (.invokevirtual 17, 3) := op_invokevirtual (gk (k := 192) (t := 0) ck_law_6 rfl) (gk (k := 192) (t := 1) ck_law_6 rfl) (gk (k := 192) (t := 2) ck_law_6 rfl) rfl
theorem dw_195 : decode y_law.2.1 195 = .ok (.pop, 1) := op_pop (gk (k := 192) (t := 3) ck_law_6 rfl)
theorem dw_196 : decode y_law.2.1 196 = .ok (.goto 1032, 3) := op_goto (gk (k := 192) (t := 4) ck_law_6 rfl) (gk (k := 192) (t := 5) ck_law_6 rfl) (gk (k := 192) (t := 6) ck_law_6 rfl) (by decide +kernel)
theorem dw_199 : decode y_law.2.1 199 = .ok (.aload_n 1, 1) := op_aload_n1 (gk (k := 192) (t := 7) ck_law_6 rfl)
theorem dw_200 : decode y_law.2.1 200 = .ok (.aload_n 0, 1) := op_aload_n0 (gk (k := 192) (t := 8) ck_law_6 rfl)
theorem dw_201 : decode y_law.2.1 201 = .ok (.iload_n 3, 1) := op_iload_n3 (gk (k := 192) (t := 9) ck_law_6 rfl)
theorem dw_202 : decode y_law.2.1 202 = .ok (.iconst 1, 1) := op_iconst1 (gk (k := 192) (t := 10) ck_law_6 rfl)
theorem dw_203 : decode y_law.2.1 203 = .ok (.iadd, 1) := op_iadd (gk (k := 192) (t := 11) ck_law_6 rfl)
theorem dw_204 : decode y_law.2.1 204 = .ok (.iaload, 1) := op_iaload (gk (k := 192) (t := 12) ck_law_6 rfl)
theorem dw_205 : decode y_law.2.1 205 = .ok (.aload_n 0, 1) := op_aload_n0 (gk (k := 192) (t := 13) ck_law_6 rfl)
theorem dw_206 : decode y_law.2.1 206 = .ok (.iload_n 3, 1) := op_iload_n3 (gk (k := 192) (t := 14) ck_law_6 rfl)
theorem dw_207 : decode y_law.2.1 207 = .ok (.iconst 2, 1) := op_iconst2 (gk (k := 192) (t := 15) ck_law_6 rfl)
theorem dw_208 : decode y_law.2.1 208 = .ok (.iadd, 1) := op_iadd (gk (k := 192) (t := 16) ck_law_6 rfl)
theorem dw_209 : decode y_law.2.1 209 = .ok (.iaload, 1) := op_iaload (gk (k := 192) (t := 17) ck_law_6 rfl)
theorem dw_210 : decode y_law.2.1 210 = .ok (.invokevirtual 18, 3) := op_invokevirtual (gk (k := 192) (t := 18) ck_law_6 rfl) (gk (k := 192) (t := 19) ck_law_6 rfl) (gk (k := 192) (t := 20) ck_law_6 rfl) rfl
theorem dw_213 : decode y_law.2.1 213 = .ok (.pop, 1) := op_pop (gk (k := 192) (t := 21) ck_law_6 rfl)
theorem dw_214 : decode y_law.2.1 214 = .ok (.aload_n 2, 1) := op_aload_n2 (gk (k := 192) (t := 22) ck_law_6 rfl)
theorem dw_215 : decode y_law.2.1 215 = .ok (.aload_n 0, 1) := op_aload_n0 (gk (k := 192) (t := 23) ck_law_6 rfl)
theorem dw_216 : decode y_law.2.1 216 = .ok (.iload_n 3, 1) := op_iload_n3 (gk (k := 192) (t := 24) ck_law_6 rfl)
theorem dw_217 : decode y_law.2.1 217 = .ok (.iconst 1, 1) := op_iconst1 (gk (k := 192) (t := 25) ck_law_6 rfl)
theorem dw_218 : decode y_law.2.1 218 = .ok (.iadd, 1) := op_iadd (gk (k := 192) (t := 26) ck_law_6 rfl)
theorem dw_219 : decode y_law.2.1 219 = .ok (.iaload, 1) := op_iaload (gk (k := 192) (t := 27) ck_law_6 rfl)
theorem dw_220 : decode y_law.2.1 220 = .ok (.aload_n 0, 1) := op_aload_n0 (gk (k := 192) (t := 28) ck_law_6 rfl)
theorem dw_221 : decode y_law.2.1 221 = .ok (.iload_n 3, 1) := op_iload_n3 (gk (k := 192) (t := 29) ck_law_6 rfl)
theorem dw_222 : decode y_law.2.1 222 = .ok (.iconst 2, 1) := op_iconst2 (gk (k := 192) (t := 30) ck_law_6 rfl)
theorem dw_223 : decode y_law.2.1 223 = .ok (.iadd, 1) := op_iadd (gk (k := 192) (t := 31) ck_law_6 rfl)
theorem ck_law_7 : (y_law.2.1.data.toList.drop 224).take 32 = [46, 182, 0, 22, 87, 167, 3, 231, 43, 42, 29, 4, 96, 46, 42, 29, 5, 96, 46, 182, 0, 23, 87, 44, 42, 29, 4, 96, 46, 42, 29, 5] := by decide +kernel
theorem dw_224 : decode y_law.2.1 224 = .ok (.iaload, 1) := op_iaload (gk (k := 224) (t := 0) ck_law_7 rfl)
theorem dw_225 : decode y_law.2.1 225 = .ok (.invokevirtual 22, 3) := op_invokevirtual (gk (k := 224) (t := 1) ck_law_7 rfl) (gk (k := 224) (t := 2) ck_law_7 rfl) (gk (k := 224) (t := 3) ck_law_7 rfl) rfl
theorem dw_228 : decode y_law.2.1 228 = .ok (.pop, 1) := op_pop (gk (k := 224) (t := 4) ck_law_7 rfl)
theorem dw_229 : decode y_law.2.1 229 = .ok (.goto 999, 3) := op_goto (gk (k := 224) (t := 5) ck_law_7 rfl) (gk (k := 224) (t := 6) ck_law_7 rfl) (gk (k := 224) (t := 7) ck_law_7 rfl) (by decide +kernel)
theorem dw_232 : decode y_law.2.1 232 = .ok (.aload_n 1, 1) := op_aload_n1 (gk (k := 224) (t := 8) ck_law_7 rfl)
theorem dw_233 : decode y_law.2.1 233 = .ok (.aload_n 0, 1) := op_aload_n0 (gk (k := 224) (t := 9) ck_law_7 rfl)
theorem dw_234 : decode y_law.2.1 234 = .ok (.iload_n 3, 1) := op_iload_n3 (gk (k := 224) (t := 10) ck_law_7 rfl)
theorem dw_235 : decode y_law.2.1 235 = .ok (.iconst 1, 1) := op_iconst1 (gk (k := 224) (t := 11) ck_law_7 rfl)
theorem dw_236 : decode y_law.2.1 236 = .ok (.iadd, 1) := op_iadd (gk (k := 224) (t := 12) ck_law_7 rfl)
theorem dw_237 : decode y_law.2.1 237 = .ok (.iaload, 1) := op_iaload (gk (k := 224) (t := 13) ck_law_7 rfl)
theorem dw_238 : decode y_law.2.1 238 = .ok (.aload_n 0, 1) := op_aload_n0 (gk (k := 224) (t := 14) ck_law_7 rfl)
theorem dw_239 : decode y_law.2.1 239 = .ok (.iload_n 3, 1) := op_iload_n3 (gk (k := 224) (t := 15) ck_law_7 rfl)
theorem dw_240 : decode y_law.2.1 240 = .ok (.iconst 2, 1) := op_iconst2 (gk (k := 224) (t := 16) ck_law_7 rfl)
theorem dw_241 : decode y_law.2.1 241 = .ok (.iadd, 1) := op_iadd (gk (k := 224) (t := 17) ck_law_7 rfl)
theorem dw_242 : decode y_law.2.1 242 = .ok (.iaload, 1) := op_iaload (gk (k := 224) (t := 18) ck_law_7 rfl)
theorem dw_243 : decode y_law.2.1 243 = .ok (.invokevirtual 23, 3) := op_invokevirtual (gk (k := 224) (t := 19) ck_law_7 rfl) (gk (k := 224) (t := 20) ck_law_7 rfl) (gk (k := 224) (t := 21) ck_law_7 rfl) rfl
theorem dw_246 : decode y_law.2.1 246 = .ok (.pop, 1) := op_pop (gk (k := 224) (t := 22) ck_law_7 rfl)
theorem dw_247 : decode y_law.2.1 247 = .ok (.aload_n 2, 1) := op_aload_n2 (gk (k := 224) (t := 23) ck_law_7 rfl)
theorem dw_248 : decode y_law.2.1 248 = .ok (.aload_n 0, 1) := op_aload_n0 (gk (k := 224) (t := 24) ck_law_7 rfl)
theorem dw_249 : decode y_law.2.1 249 = .ok (.iload_n 3, 1) := op_iload_n3 (gk (k := 224) (t := 25) ck_law_7 rfl)
theorem dw_250 : decode y_law.2.1 250 = .ok (.iconst 1, 1) := op_iconst1 (gk (k := 224) (t := 26) ck_law_7 rfl)
theorem dw_251 : decode y_law.2.1 251 = .ok (.iadd, 1) := op_iadd (gk (k := 224) (t := 27) ck_law_7 rfl)
theorem dw_252 : decode y_law.2.1 252 = .ok (.iaload, 1) := op_iaload (gk (k := 224) (t := 28) ck_law_7 rfl)
theorem dw_253 : decode y_law.2.1 253 = .ok (.aload_n 0, 1) := op_aload_n0 (gk (k := 224) (t := 29) ck_law_7 rfl)
theorem dw_254 : decode y_law.2.1 254 = .ok (.iload_n 3, 1) := op_iload_n3 (gk (k := 224) (t := 30) ck_law_7 rfl)
theorem dw_255 : decode y_law.2.1 255 = .ok (.iconst 2, 1) := op_iconst2 (gk (k := 224) (t := 31) ck_law_7 rfl)
theorem ck_law_8 : (y_law.2.1.data.toList.drop 256).take 32 = [96, 46, 182, 0, 26, 87, 167, 3, 198, 43, 42, 29, 4, 96, 46, 42, 29, 5, 96, 46, 182, 0, 27, 87, 44, 42, 29, 4, 96, 46, 42, 29] := by decide +kernel
theorem dw_256 : decode y_law.2.1 256 = .ok (.iadd, 1) := op_iadd (gk (k := 256) (t := 0) ck_law_8 rfl)
theorem dw_257 : decode y_law.2.1 257 = .ok (.iaload, 1) := op_iaload (gk (k := 256) (t := 1) ck_law_8 rfl)
theorem dw_258 : decode y_law.2.1 258 = .ok (.invokevirtual 26, 3) := op_invokevirtual (gk (k := 256) (t := 2) ck_law_8 rfl) (gk (k := 256) (t := 3) ck_law_8 rfl) (gk (k := 256) (t := 4) ck_law_8 rfl) rfl
theorem dw_261 : decode y_law.2.1 261 = .ok (.pop, 1) := op_pop (gk (k := 256) (t := 5) ck_law_8 rfl)
theorem dw_262 : decode y_law.2.1 262 = .ok (.goto 966, 3) := op_goto (gk (k := 256) (t := 6) ck_law_8 rfl) (gk (k := 256) (t := 7) ck_law_8 rfl) (gk (k := 256) (t := 8) ck_law_8 rfl) (by decide +kernel)
theorem dw_265 : decode y_law.2.1 265 = .ok (.aload_n 1, 1) := op_aload_n1 (gk (k := 256) (t := 9) ck_law_8 rfl)
theorem dw_266 : decode y_law.2.1 266 = .ok (.aload_n 0, 1) := op_aload_n0 (gk (k := 256) (t := 10) ck_law_8 rfl)
theorem dw_267 : decode y_law.2.1 267 = .ok (.iload_n 3, 1) := op_iload_n3 (gk (k := 256) (t := 11) ck_law_8 rfl)
theorem dw_268 : decode y_law.2.1 268 = .ok (.iconst 1, 1) := op_iconst1 (gk (k := 256) (t := 12) ck_law_8 rfl)
theorem dw_269 : decode y_law.2.1 269 = .ok (.iadd, 1) := op_iadd (gk (k := 256) (t := 13) ck_law_8 rfl)
theorem dw_270 : decode y_law.2.1 270 = .ok (.iaload, 1) := op_iaload (gk (k := 256) (t := 14) ck_law_8 rfl)
theorem dw_271 : decode y_law.2.1 271 = .ok (.aload_n 0, 1) := op_aload_n0 (gk (k := 256) (t := 15) ck_law_8 rfl)
theorem dw_272 : decode y_law.2.1 272 = .ok (.iload_n 3, 1) := op_iload_n3 (gk (k := 256) (t := 16) ck_law_8 rfl)
theorem dw_273 : decode y_law.2.1 273 = .ok (.iconst 2, 1) := op_iconst2 (gk (k := 256) (t := 17) ck_law_8 rfl)
theorem dw_274 : decode y_law.2.1 274 = .ok (.iadd, 1) := op_iadd (gk (k := 256) (t := 18) ck_law_8 rfl)
theorem dw_275 : decode y_law.2.1 275 = .ok (.iaload, 1) := op_iaload (gk (k := 256) (t := 19) ck_law_8 rfl)
theorem dw_276 : decode y_law.2.1 276 = .ok (.invokevirtual 27, 3) := op_invokevirtual (gk (k := 256) (t := 20) ck_law_8 rfl) (gk (k := 256) (t := 21) ck_law_8 rfl) (gk (k := 256) (t := 22) ck_law_8 rfl) rfl
theorem dw_279 : decode y_law.2.1 279 = .ok (.pop, 1) := op_pop (gk (k := 256) (t := 23) ck_law_8 rfl)
theorem dw_280 : decode y_law.2.1 280 = .ok (.aload_n 2, 1) := op_aload_n2 (gk (k := 256) (t := 24) ck_law_8 rfl)
theorem dw_281 : decode y_law.2.1 281 = .ok (.aload_n 0, 1) := op_aload_n0 (gk (k := 256) (t := 25) ck_law_8 rfl)
theorem dw_282 : decode y_law.2.1 282 = .ok (.iload_n 3, 1) := op_iload_n3 (gk (k := 256) (t := 26) ck_law_8 rfl)
theorem dw_283 : decode y_law.2.1 283 = .ok (.iconst 1, 1) := op_iconst1 (gk (k := 256) (t := 27) ck_law_8 rfl)
theorem dw_284 : decode y_law.2.1 284 = .ok (.iadd, 1) := op_iadd (gk (k := 256) (t := 28) ck_law_8 rfl)
theorem dw_285 : decode y_law.2.1 285 = .ok (.iaload, 1) := op_iaload (gk (k := 256) (t := 29) ck_law_8 rfl)
theorem dw_286 : decode y_law.2.1 286 = .ok (.aload_n 0, 1) := op_aload_n0 (gk (k := 256) (t := 30) ck_law_8 rfl)
theorem dw_287 : decode y_law.2.1 287 = .ok (.iload_n 3, 1) := op_iload_n3 (gk (k := 256) (t := 31) ck_law_8 rfl)
theorem ck_law_9 : (y_law.2.1.data.toList.drop 288).take 32 = [5, 96, 46, 182, 0, 30, 87, 167, 3, 165, 43, 42, 29, 4, 96, 46, 42, 29, 5, 96, 46, 42, 29, 6, 96, 46, 42, 29, 7, 96, 46, 42] := by decide +kernel
theorem dw_288 : decode y_law.2.1 288 = .ok (.iconst 2, 1) := op_iconst2 (gk (k := 288) (t := 0) ck_law_9 rfl)
theorem dw_289 : decode y_law.2.1 289 = .ok (.iadd, 1) := op_iadd (gk (k := 288) (t := 1) ck_law_9 rfl)
theorem dw_290 : decode y_law.2.1 290 = .ok (.iaload, 1) := op_iaload (gk (k := 288) (t := 2) ck_law_9 rfl)
theorem dw_291 : decode y_law.2.1 291 = .ok (.invokevirtual 30, 3) := op_invokevirtual (gk (k := 288) (t := 3) ck_law_9 rfl) (gk (k := 288) (t := 4) ck_law_9 rfl) (gk (k := 288) (t := 5) ck_law_9 rfl) rfl
theorem dw_294 : decode y_law.2.1 294 = .ok (.pop, 1) := op_pop (gk (k := 288) (t := 6) ck_law_9 rfl)
theorem dw_295 : decode y_law.2.1 295 = .ok (.goto 933, 3) := op_goto (gk (k := 288) (t := 7) ck_law_9 rfl) (gk (k := 288) (t := 8) ck_law_9 rfl) (gk (k := 288) (t := 9) ck_law_9 rfl) (by decide +kernel)
theorem dw_298 : decode y_law.2.1 298 = .ok (.aload_n 1, 1) := op_aload_n1 (gk (k := 288) (t := 10) ck_law_9 rfl)
theorem dw_299 : decode y_law.2.1 299 = .ok (.aload_n 0, 1) := op_aload_n0 (gk (k := 288) (t := 11) ck_law_9 rfl)
theorem dw_300 : decode y_law.2.1 300 = .ok (.iload_n 3, 1) := op_iload_n3 (gk (k := 288) (t := 12) ck_law_9 rfl)
theorem dw_301 : decode y_law.2.1 301 = .ok (.iconst 1, 1) := op_iconst1 (gk (k := 288) (t := 13) ck_law_9 rfl)
theorem dw_302 : decode y_law.2.1 302 = .ok (.iadd, 1) := op_iadd (gk (k := 288) (t := 14) ck_law_9 rfl)
theorem dw_303 : decode y_law.2.1 303 = .ok (.iaload, 1) := op_iaload (gk (k := 288) (t := 15) ck_law_9 rfl)
theorem dw_304 : decode y_law.2.1 304 = .ok (.aload_n 0, 1) := op_aload_n0 (gk (k := 288) (t := 16) ck_law_9 rfl)
theorem dw_305 : decode y_law.2.1 305 = .ok (.iload_n 3, 1) := op_iload_n3 (gk (k := 288) (t := 17) ck_law_9 rfl)
theorem dw_306 : decode y_law.2.1 306 = .ok (.iconst 2, 1) := op_iconst2 (gk (k := 288) (t := 18) ck_law_9 rfl)
theorem dw_307 : decode y_law.2.1 307 = .ok (.iadd, 1) := op_iadd (gk (k := 288) (t := 19) ck_law_9 rfl)
theorem dw_308 : decode y_law.2.1 308 = .ok (.iaload, 1) := op_iaload (gk (k := 288) (t := 20) ck_law_9 rfl)
theorem dw_309 : decode y_law.2.1 309 = .ok (.aload_n 0, 1) := op_aload_n0 (gk (k := 288) (t := 21) ck_law_9 rfl)
theorem dw_310 : decode y_law.2.1 310 = .ok (.iload_n 3, 1) := op_iload_n3 (gk (k := 288) (t := 22) ck_law_9 rfl)
theorem dw_311 : decode y_law.2.1 311 = .ok (.iconst 3, 1) := op_iconst3 (gk (k := 288) (t := 23) ck_law_9 rfl)
theorem dw_312 : decode y_law.2.1 312 = .ok (.iadd, 1) := op_iadd (gk (k := 288) (t := 24) ck_law_9 rfl)
theorem dw_313 : decode y_law.2.1 313 = .ok (.iaload, 1) := op_iaload (gk (k := 288) (t := 25) ck_law_9 rfl)
theorem dw_314 : decode y_law.2.1 314 = .ok (.aload_n 0, 1) := op_aload_n0 (gk (k := 288) (t := 26) ck_law_9 rfl)
theorem dw_315 : decode y_law.2.1 315 = .ok (.iload_n 3, 1) := op_iload_n3 (gk (k := 288) (t := 27) ck_law_9 rfl)
theorem dw_316 : decode y_law.2.1 316 = .ok (.iconst 4, 1) := op_iconst4 (gk (k := 288) (t := 28) ck_law_9 rfl)
theorem dw_317 : decode y_law.2.1 317 = .ok (.iadd, 1) := op_iadd (gk (k := 288) (t := 29) ck_law_9 rfl)
theorem dw_318 : decode y_law.2.1 318 = .ok (.iaload, 1) := op_iaload (gk (k := 288) (t := 30) ck_law_9 rfl)
theorem dw_319 : decode y_law.2.1 319 = .ok (.aload_n 0, 1) := op_aload_n0 (gk (k := 288) (t := 31) ck_law_9 rfl)
theorem ck_law_10 : (y_law.2.1.data.toList.drop 320).take 32 = [29, 8, 96, 46, 182, 0, 31, 87, 44, 42, 29, 4, 96, 46, 42, 29, 5, 96, 46, 42, 29, 6, 96, 46, 42, 29, 7, 96, 46, 42, 29, 8] := by decide +kernel
theorem dw_320 : decode y_law.2.1 320 = .ok (.iload_n 3, 1) := op_iload_n3 (gk (k := 320) (t := 0) ck_law_10 rfl)
theorem dw_321 : decode y_law.2.1 321 = .ok (.iconst 5, 1) := op_iconst5 (gk (k := 320) (t := 1) ck_law_10 rfl)
theorem dw_322 : decode y_law.2.1 322 = .ok (.iadd, 1) := op_iadd (gk (k := 320) (t := 2) ck_law_10 rfl)
theorem dw_323 : decode y_law.2.1 323 = .ok (.iaload, 1) := op_iaload (gk (k := 320) (t := 3) ck_law_10 rfl)
theorem dw_324 : decode y_law.2.1 324 = .ok (.invokevirtual 31, 3) := op_invokevirtual (gk (k := 320) (t := 4) ck_law_10 rfl) (gk (k := 320) (t := 5) ck_law_10 rfl) (gk (k := 320) (t := 6) ck_law_10 rfl) rfl
theorem dw_327 : decode y_law.2.1 327 = .ok (.pop, 1) := op_pop (gk (k := 320) (t := 7) ck_law_10 rfl)
theorem dw_328 : decode y_law.2.1 328 = .ok (.aload_n 2, 1) := op_aload_n2 (gk (k := 320) (t := 8) ck_law_10 rfl)
theorem dw_329 : decode y_law.2.1 329 = .ok (.aload_n 0, 1) := op_aload_n0 (gk (k := 320) (t := 9) ck_law_10 rfl)
theorem dw_330 : decode y_law.2.1 330 = .ok (.iload_n 3, 1) := op_iload_n3 (gk (k := 320) (t := 10) ck_law_10 rfl)
theorem dw_331 : decode y_law.2.1 331 = .ok (.iconst 1, 1) := op_iconst1 (gk (k := 320) (t := 11) ck_law_10 rfl)
theorem dw_332 : decode y_law.2.1 332 = .ok (.iadd, 1) := op_iadd (gk (k := 320) (t := 12) ck_law_10 rfl)
theorem dw_333 : decode y_law.2.1 333 = .ok (.iaload, 1) := op_iaload (gk (k := 320) (t := 13) ck_law_10 rfl)
theorem dw_334 : decode y_law.2.1 334 = .ok (.aload_n 0, 1) := op_aload_n0 (gk (k := 320) (t := 14) ck_law_10 rfl)
theorem dw_335 : decode y_law.2.1 335 = .ok (.iload_n 3, 1) := op_iload_n3 (gk (k := 320) (t := 15) ck_law_10 rfl)
theorem dw_336 : decode y_law.2.1 336 = .ok (.iconst 2, 1) := op_iconst2 (gk (k := 320) (t := 16) ck_law_10 rfl)
theorem dw_337 : decode y_law.2.1 337 = .ok (.iadd, 1) := op_iadd (gk (k := 320) (t := 17) ck_law_10 rfl)
theorem dw_338 : decode y_law.2.1 338 = .ok (.iaload, 1) := op_iaload (gk (k := 320) (t := 18) ck_law_10 rfl)
theorem dw_339 : decode y_law.2.1 339 = .ok (.aload_n 0, 1) := op_aload_n0 (gk (k := 320) (t := 19) ck_law_10 rfl)
theorem dw_340 : decode y_law.2.1 340 = .ok (.iload_n 3, 1) := op_iload_n3 (gk (k := 320) (t := 20) ck_law_10 rfl)
theorem dw_341 : decode y_law.2.1 341 = .ok (.iconst 3, 1) := op_iconst3 (gk (k := 320) (t := 21) ck_law_10 rfl)
theorem dw_342 : decode y_law.2.1 342 = .ok (.iadd, 1) := op_iadd (gk (k := 320) (t := 22) ck_law_10 rfl)
theorem dw_343 : decode y_law.2.1 343 = .ok (.iaload, 1) := op_iaload (gk (k := 320) (t := 23) ck_law_10 rfl)
theorem dw_344 : decode y_law.2.1 344 = .ok (.aload_n 0, 1) := op_aload_n0 (gk (k := 320) (t := 24) ck_law_10 rfl)
theorem dw_345 : decode y_law.2.1 345 = .ok (.iload_n 3, 1) := op_iload_n3 (gk (k := 320) (t := 25) ck_law_10 rfl)
theorem dw_346 : decode y_law.2.1 346 = .ok (.iconst 4, 1) := op_iconst4 (gk (k := 320) (t := 26) ck_law_10 rfl)
theorem dw_347 : decode y_law.2.1 347 = .ok (.iadd, 1) := op_iadd (gk (k := 320) (t := 27) ck_law_10 rfl)
theorem dw_348 : decode y_law.2.1 348 = .ok (.iaload, 1) := op_iaload (gk (k := 320) (t := 28) ck_law_10 rfl)
theorem dw_349 : decode y_law.2.1 349 = .ok (.aload_n 0, 1) := op_aload_n0 (gk (k := 320) (t := 29) ck_law_10 rfl)
theorem dw_350 : decode y_law.2.1 350 = .ok (.iload_n 3, 1) := op_iload_n3 (gk (k := 320) (t := 30) ck_law_10 rfl)
theorem dw_351 : decode y_law.2.1 351 = .ok (.iconst 5, 1) := op_iconst5 (gk (k := 320) (t := 31) ck_law_10 rfl)
theorem ck_law_11 : (y_law.2.1.data.toList.drop 352).take 32 = [96, 46, 182, 0, 35, 87, 167, 3, 102, 43, 42, 29, 4, 96, 46, 42, 29, 5, 96, 46, 42, 29, 6, 96, 46, 42, 29, 7, 96, 46, 42, 29] := by decide +kernel
theorem dw_352 : decode y_law.2.1 352 = .ok (.iadd, 1) := op_iadd (gk (k := 352) (t := 0) ck_law_11 rfl)
theorem dw_353 : decode y_law.2.1 353 = .ok (.iaload, 1) := op_iaload (gk (k := 352) (t := 1) ck_law_11 rfl)
theorem dw_354 : decode y_law.2.1 354 = .ok (.invokevirtual 35, 3) := op_invokevirtual (gk (k := 352) (t := 2) ck_law_11 rfl) (gk (k := 352) (t := 3) ck_law_11 rfl) (gk (k := 352) (t := 4) ck_law_11 rfl) rfl
theorem dw_357 : decode y_law.2.1 357 = .ok (.pop, 1) := op_pop (gk (k := 352) (t := 5) ck_law_11 rfl)
theorem dw_358 : decode y_law.2.1 358 = .ok (.goto 870, 3) := op_goto (gk (k := 352) (t := 6) ck_law_11 rfl) (gk (k := 352) (t := 7) ck_law_11 rfl) (gk (k := 352) (t := 8) ck_law_11 rfl) (by decide +kernel)
theorem dw_361 : decode y_law.2.1 361 = .ok (.aload_n 1, 1) := op_aload_n1 (gk (k := 352) (t := 9) ck_law_11 rfl)
theorem dw_362 : decode y_law.2.1 362 = .ok (.aload_n 0, 1) := op_aload_n0 (gk (k := 352) (t := 10) ck_law_11 rfl)
theorem dw_363 : decode y_law.2.1 363 = .ok (.iload_n 3, 1) := op_iload_n3 (gk (k := 352) (t := 11) ck_law_11 rfl)
theorem dw_364 : decode y_law.2.1 364 = .ok (.iconst 1, 1) := op_iconst1 (gk (k := 352) (t := 12) ck_law_11 rfl)
theorem dw_365 : decode y_law.2.1 365 = .ok (.iadd, 1) := op_iadd (gk (k := 352) (t := 13) ck_law_11 rfl)
theorem dw_366 : decode y_law.2.1 366 = .ok (.iaload, 1) := op_iaload (gk (k := 352) (t := 14) ck_law_11 rfl)
theorem dw_367 : decode y_law.2.1 367 = .ok (.aload_n 0, 1) := op_aload_n0 (gk (k := 352) (t := 15) ck_law_11 rfl)
theorem dw_368 : decode y_law.2.1 368 = .ok (.iload_n 3, 1) := op_iload_n3 (gk (k := 352) (t := 16) ck_law_11 rfl)
theorem dw_369 : decode y_law.2.1 369 = .ok (.iconst 2, 1) := op_iconst2 (gk (k := 352) (t := 17) ck_law_11 rfl)
theorem dw_370 : decode y_law.2.1 370 = .ok (.iadd, 1) := op_iadd (gk (k := 352) (t := 18) ck_law_11 rfl)
theorem dw_371 : decode y_law.2.1 371 = .ok (.iaload, 1) := op_iaload (gk (k := 352) (t := 19) ck_law_11 rfl)
theorem dw_372 : decode y_law.2.1 372 = .ok (.aload_n 0, 1) := op_aload_n0 (gk (k := 352) (t := 20) ck_law_11 rfl)
theorem dw_373 : decode y_law.2.1 373 = .ok (.iload_n 3, 1) := op_iload_n3 (gk (k := 352) (t := 21) ck_law_11 rfl)
theorem dw_374 : decode y_law.2.1 374 = .ok (.iconst 3, 1) := op_iconst3 (gk (k := 352) (t := 22) ck_law_11 rfl)
theorem dw_375 : decode y_law.2.1 375 = .ok (.iadd, 1) := op_iadd (gk (k := 352) (t := 23) ck_law_11 rfl)
theorem dw_376 : decode y_law.2.1 376 = .ok (.iaload, 1) := op_iaload (gk (k := 352) (t := 24) ck_law_11 rfl)
theorem dw_377 : decode y_law.2.1 377 = .ok (.aload_n 0, 1) := op_aload_n0 (gk (k := 352) (t := 25) ck_law_11 rfl)
theorem dw_378 : decode y_law.2.1 378 = .ok (.iload_n 3, 1) := op_iload_n3 (gk (k := 352) (t := 26) ck_law_11 rfl)
theorem dw_379 : decode y_law.2.1 379 = .ok (.iconst 4, 1) := op_iconst4 (gk (k := 352) (t := 27) ck_law_11 rfl)
theorem dw_380 : decode y_law.2.1 380 = .ok (.iadd, 1) := op_iadd (gk (k := 352) (t := 28) ck_law_11 rfl)
theorem dw_381 : decode y_law.2.1 381 = .ok (.iaload, 1) := op_iaload (gk (k := 352) (t := 29) ck_law_11 rfl)
theorem dw_382 : decode y_law.2.1 382 = .ok (.aload_n 0, 1) := op_aload_n0 (gk (k := 352) (t := 30) ck_law_11 rfl)
theorem dw_383 : decode y_law.2.1 383 = .ok (.iload_n 3, 1) := op_iload_n3 (gk (k := 352) (t := 31) ck_law_11 rfl)
theorem ck_law_12 : (y_law.2.1.data.toList.drop 384).take 32 = [8, 96, 46, 182, 0, 36, 87, 44, 42, 29, 4, 96, 46, 42, 29, 5, 96, 46, 42, 29, 6, 96, 46, 42, 29, 7, 96, 46, 42, 29, 8, 96] := by decide +kernel
theorem dw_384 : decode y_law.2.1 384 = .ok (.iconst 5, 1) := op_iconst5 (gk (k := 384) (t := 0) ck_law_12 rfl)
theorem dw_385 : decode y_law.2.1 385 = .ok (.iadd, 1) := op_iadd (gk (k := 384) (t := 1) ck_law_12 rfl)
theorem dw_386 : decode y_law.2.1 386 = .ok (.iaload, 1) := op_iaload (gk (k := 384) (t := 2) ck_law_12 rfl)
theorem dw_387 : decode y_law.2.1 387 = .ok (.invokevirtual 36, 3) := op_invokevirtual (gk (k := 384) (t := 3) ck_law_12 rfl) (gk (k := 384) (t := 4) ck_law_12 rfl) (gk (k := 384) (t := 5) ck_law_12 rfl) rfl
theorem dw_390 : decode y_law.2.1 390 = .ok (.pop, 1) := op_pop (gk (k := 384) (t := 6) ck_law_12 rfl)
theorem dw_391 : decode y_law.2.1 391 = .ok (.aload_n 2, 1) := op_aload_n2 (gk (k := 384) (t := 7) ck_law_12 rfl)
theorem dw_392 : decode y_law.2.1 392 = .ok (.aload_n 0, 1) := op_aload_n0 (gk (k := 384) (t := 8) ck_law_12 rfl)
theorem dw_393 : decode y_law.2.1 393 = .ok (.iload_n 3, 1) := op_iload_n3 (gk (k := 384) (t := 9) ck_law_12 rfl)
theorem dw_394 : decode y_law.2.1 394 = .ok (.iconst 1, 1) := op_iconst1 (gk (k := 384) (t := 10) ck_law_12 rfl)
theorem dw_395 : decode y_law.2.1 395 = .ok (.iadd, 1) := op_iadd (gk (k := 384) (t := 11) ck_law_12 rfl)
theorem dw_396 : decode y_law.2.1 396 = .ok (.iaload, 1) := op_iaload (gk (k := 384) (t := 12) ck_law_12 rfl)
theorem dw_397 : decode y_law.2.1 397 = .ok (.aload_n 0, 1) := op_aload_n0 (gk (k := 384) (t := 13) ck_law_12 rfl)
theorem dw_398 : decode y_law.2.1 398 = .ok (.iload_n 3, 1) := op_iload_n3 (gk (k := 384) (t := 14) ck_law_12 rfl)
theorem dw_399 : decode y_law.2.1 399 = .ok (.iconst 2, 1) := op_iconst2 (gk (k := 384) (t := 15) ck_law_12 rfl)
theorem dw_400 : decode y_law.2.1 400 = .ok (.iadd, 1) := op_iadd (gk (k := 384) (t := 16) ck_law_12 rfl)
theorem dw_401 : decode y_law.2.1 401 = .ok (.iaload, 1) := op_iaload (gk (k := 384) (t := 17) ck_law_12 rfl)
theorem dw_402 : decode y_law.2.1 402 = .ok (.aload_n 0, 1) := op_aload_n0 (gk (k := 384) (t := 18) ck_law_12 rfl)
theorem dw_403 : decode y_law.2.1 403 = .ok (.iload_n 3, 1) := op_iload_n3 (gk (k := 384) (t := 19) ck_law_12 rfl)
theorem dw_404 : decode y_law.2.1 404 = .ok (.iconst 3, 1) := op_iconst3 (gk (k := 384) (t := 20) ck_law_12 rfl)
theorem dw_405 : decode y_law.2.1 405 = .ok (.iadd, 1) := op_iadd (gk (k := 384) (t := 21) ck_law_12 rfl)
theorem dw_406 : decode y_law.2.1 406 = .ok (.iaload, 1) := op_iaload (gk (k := 384) (t := 22) ck_law_12 rfl)
theorem dw_407 : decode y_law.2.1 407 = .ok (.aload_n 0, 1) := op_aload_n0 (gk (k := 384) (t := 23) ck_law_12 rfl)
theorem dw_408 : decode y_law.2.1 408 = .ok (.iload_n 3, 1) := op_iload_n3 (gk (k := 384) (t := 24) ck_law_12 rfl)
theorem dw_409 : decode y_law.2.1 409 = .ok (.iconst 4, 1) := op_iconst4 (gk (k := 384) (t := 25) ck_law_12 rfl)
theorem dw_410 : decode y_law.2.1 410 = .ok (.iadd, 1) := op_iadd (gk (k := 384) (t := 26) ck_law_12 rfl)
theorem dw_411 : decode y_law.2.1 411 = .ok (.iaload, 1) := op_iaload (gk (k := 384) (t := 27) ck_law_12 rfl)
theorem dw_412 : decode y_law.2.1 412 = .ok (.aload_n 0, 1) := op_aload_n0 (gk (k := 384) (t := 28) ck_law_12 rfl)
theorem dw_413 : decode y_law.2.1 413 = .ok (.iload_n 3, 1) := op_iload_n3 (gk (k := 384) (t := 29) ck_law_12 rfl)
theorem dw_414 : decode y_law.2.1 414 = .ok (.iconst 5, 1) := op_iconst5 (gk (k := 384) (t := 30) ck_law_12 rfl)
theorem dw_415 : decode y_law.2.1 415 = .ok (.iadd, 1) := op_iadd (gk (k := 384) (t := 31) ck_law_12 rfl)
theorem ck_law_13 : (y_law.2.1.data.toList.drop 416).take 32 = [46, 182, 0, 40, 87, 167, 3, 39, 43, 42, 29, 4, 96, 46, 182, 0, 41, 87, 44, 42, 29, 4, 96, 46, 182, 0, 45, 87, 167, 3, 16, 43] := by decide +kernel
theorem dw_416 : decode y_law.2.1 416 = .ok (.iaload, 1) := op_iaload (gk (k := 416) (t := 0) ck_law_13 rfl)
theorem dw_417 : decode y_law.2.1 417 = .ok (.invokevirtual 40, 3) := op_invokevirtual (gk (k := 416) (t := 1) ck_law_13 rfl) (gk (k := 416) (t := 2) ck_law_13 rfl) (gk (k := 416) (t := 3) ck_law_13 rfl) rfl
theorem dw_420 : decode y_law.2.1 420 = .ok (.pop, 1) := op_pop (gk (k := 416) (t := 4) ck_law_13 rfl)
theorem dw_421 : decode y_law.2.1 421 = .ok (.goto 807, 3) := op_goto (gk (k := 416) (t := 5) ck_law_13 rfl) (gk (k := 416) (t := 6) ck_law_13 rfl) (gk (k := 416) (t := 7) ck_law_13 rfl) (by decide +kernel)
theorem dw_424 : decode y_law.2.1 424 = .ok (.aload_n 1, 1) := op_aload_n1 (gk (k := 416) (t := 8) ck_law_13 rfl)
theorem dw_425 : decode y_law.2.1 425 = .ok (.aload_n 0, 1) := op_aload_n0 (gk (k := 416) (t := 9) ck_law_13 rfl)
theorem dw_426 : decode y_law.2.1 426 = .ok (.iload_n 3, 1) := op_iload_n3 (gk (k := 416) (t := 10) ck_law_13 rfl)
theorem dw_427 : decode y_law.2.1 427 = .ok (.iconst 1, 1) := op_iconst1 (gk (k := 416) (t := 11) ck_law_13 rfl)
theorem dw_428 : decode y_law.2.1 428 = .ok (.iadd, 1) := op_iadd (gk (k := 416) (t := 12) ck_law_13 rfl)
theorem dw_429 : decode y_law.2.1 429 = .ok (.iaload, 1) := op_iaload (gk (k := 416) (t := 13) ck_law_13 rfl)
theorem dw_430 : decode y_law.2.1 430 = .ok (.invokevirtual 41, 3) := op_invokevirtual (gk (k := 416) (t := 14) ck_law_13 rfl) (gk (k := 416) (t := 15) ck_law_13 rfl) (gk (k := 416) (t := 16) ck_law_13 rfl) rfl
theorem dw_433 : decode y_law.2.1 433 = .ok (.pop, 1) := op_pop (gk (k := 416) (t := 17) ck_law_13 rfl)
theorem dw_434 : decode y_law.2.1 434 = .ok (.aload_n 2, 1) := op_aload_n2 (gk (k := 416) (t := 18) ck_law_13 rfl)
theorem dw_435 : decode y_law.2.1 435 = .ok (.aload_n 0, 1) := op_aload_n0 (gk (k := 416) (t := 19) ck_law_13 rfl)
theorem dw_436 : decode y_law.2.1 436 = .ok (.iload_n 3, 1) := op_iload_n3 (gk (k := 416) (t := 20) ck_law_13 rfl)
theorem dw_437 : decode y_law.2.1 437 = .ok (.iconst 1, 1) := op_iconst1 (gk (k := 416) (t := 21) ck_law_13 rfl)
theorem dw_438 : decode y_law.2.1 438 = .ok (.iadd, 1) := op_iadd (gk (k := 416) (t := 22) ck_law_13 rfl)
theorem dw_439 : decode y_law.2.1 439 = .ok (.iaload, 1) := op_iaload (gk (k := 416) (t := 23) ck_law_13 rfl)
theorem dw_440 : decode y_law.2.1 440 = .ok (.invokevirtual 45, 3) := op_invokevirtual (gk (k := 416) (t := 24) ck_law_13 rfl) (gk (k := 416) (t := 25) ck_law_13 rfl) (gk (k := 416) (t := 26) ck_law_13 rfl) rfl
theorem dw_443 : decode y_law.2.1 443 = .ok (.pop, 1) := op_pop (gk (k := 416) (t := 27) ck_law_13 rfl)
theorem dw_444 : decode y_law.2.1 444 = .ok (.goto 784, 3) := op_goto (gk (k := 416) (t := 28) ck_law_13 rfl) (gk (k := 416) (t := 29) ck_law_13 rfl) (gk (k := 416) (t := 30) ck_law_13 rfl) (by decide +kernel)
theorem dw_447 : decode y_law.2.1 447 = .ok (.aload_n 1, 1) := op_aload_n1 (gk (k := 416) (t := 31) ck_law_13 rfl)
theorem ck_law_14 : (y_law.2.1.data.toList.drop 448).take 32 = [42, 29, 4, 96, 46, 182, 0, 46, 87, 44, 42, 29, 4, 96, 46, 182, 0, 49, 87, 167, 2, 249, 43, 42, 29, 4, 96, 46, 182, 0, 50, 87] := by decide +kernel
theorem dw_448 : decode y_law.2.1 448 = .ok (.aload_n 0, 1) := op_aload_n0 (gk (k := 448) (t := 0) ck_law_14 rfl)
theorem dw_449 : decode y_law.2.1 449 = .ok (.iload_n 3, 1) := op_iload_n3 (gk (k := 448) (t := 1) ck_law_14 rfl)
theorem dw_450 : decode y_law.2.1 450 = .ok (.iconst 1, 1) := op_iconst1 (gk (k := 448) (t := 2) ck_law_14 rfl)
theorem dw_451 : decode y_law.2.1 451 = .ok (.iadd, 1) := op_iadd (gk (k := 448) (t := 3) ck_law_14 rfl)
theorem dw_452 : decode y_law.2.1 452 = .ok (.iaload, 1) := op_iaload (gk (k := 448) (t := 4) ck_law_14 rfl)
theorem dw_453 : decode y_law.2.1 453 = .ok (.invokevirtual 46, 3) := op_invokevirtual (gk (k := 448) (t := 5) ck_law_14 rfl) (gk (k := 448) (t := 6) ck_law_14 rfl) (gk (k := 448) (t := 7) ck_law_14 rfl) rfl
theorem dw_456 : decode y_law.2.1 456 = .ok (.pop, 1) := op_pop (gk (k := 448) (t := 8) ck_law_14 rfl)
theorem dw_457 : decode y_law.2.1 457 = .ok (.aload_n 2, 1) := op_aload_n2 (gk (k := 448) (t := 9) ck_law_14 rfl)
theorem dw_458 : decode y_law.2.1 458 = .ok (.aload_n 0, 1) := op_aload_n0 (gk (k := 448) (t := 10) ck_law_14 rfl)
theorem dw_459 : decode y_law.2.1 459 = .ok (.iload_n 3, 1) := op_iload_n3 (gk (k := 448) (t := 11) ck_law_14 rfl)
theorem dw_460 : decode y_law.2.1 460 = .ok (.iconst 1, 1) := op_iconst1 (gk (k := 448) (t := 12) ck_law_14 rfl)
theorem dw_461 : decode y_law.2.1 461 = .ok (.iadd, 1) := op_iadd (gk (k := 448) (t := 13) ck_law_14 rfl)
theorem dw_462 : decode y_law.2.1 462 = .ok (.iaload, 1) := op_iaload (gk (k := 448) (t := 14) ck_law_14 rfl)
theorem dw_463 : decode y_law.2.1 463 = .ok (.invokevirtual 49, 3) := op_invokevirtual (gk (k := 448) (t := 15) ck_law_14 rfl) (gk (k := 448) (t := 16) ck_law_14 rfl) (gk (k := 448) (t := 17) ck_law_14 rfl) rfl
theorem dw_466 : decode y_law.2.1 466 = .ok (.pop, 1) := op_pop (gk (k := 448) (t := 18) ck_law_14 rfl)
theorem dw_467 : decode y_law.2.1 467 = .ok (.goto 761, 3) := op_goto (gk (k := 448) (t := 19) ck_law_14 rfl) (gk (k := 448) (t := 20) ck_law_14 rfl) (gk (k := 448) (t := 21) ck_law_14 rfl) (by decide +kernel)
theorem dw_470 : decode y_law.2.1 470 = .ok (.aload_n 1, 1) := op_aload_n1 (gk (k := 448) (t := 22) ck_law_14 rfl)
theorem dw_471 : decode y_law.2.1 471 = .ok (.aload_n 0, 1) := op_aload_n0 (gk (k := 448) (t := 23) ck_law_14 rfl)
theorem dw_472 : decode y_law.2.1 472 = .ok (.iload_n 3, 1) := op_iload_n3 (gk (k := 448) (t := 24) ck_law_14 rfl)
theorem dw_473 : decode y_law.2.1 473 = .ok (.iconst 1, 1) := op_iconst1 (gk (k := 448) (t := 25) ck_law_14 rfl)
theorem dw_474 : decode y_law.2.1 474 = .ok (.iadd, 1) := op_iadd (gk (k := 448) (t := 26) ck_law_14 rfl)
theorem dw_475 : decode y_law.2.1 475 = .ok (.iaload, 1) := op_iaload (gk (k := 448) (t := 27) ck_law_14 rfl)
theorem dw_476 : decode y_law.2.1 476 = .ok (.invokevirtual 50, 3) := op_invokevirtual (gk (k := 448) (t := 28) ck_law_14 rfl) (gk (k := 448) (t := 29) ck_law_14 rfl) (gk (k := 448) (t := 30) ck_law_14 rfl) rfl
theorem dw_479 : decode y_law.2.1 479 = .ok (.pop, 1) := op_pop (gk (k := 448) (t := 31) ck_law_14 rfl)
theorem ck_law_15 : (y_law.2.1.data.toList.drop 480).take 32 = [44, 42, 29, 4, 96, 46, 182, 0, 53, 87, 167, 2, 226, 43, 42, 29, 4, 96, 46, 42, 29, 5, 96, 46, 42, 29, 6, 96, 46, 182, 0, 54] := by decide +kernel
theorem dw_480 : decode y_law.2.1 480 = .ok (.aload_n 2, 1) := op_aload_n2 (gk (k := 480) (t := 0) ck_law_15 rfl)
theorem dw_481 : decode y_law.2.1 481 = .ok (.aload_n 0, 1) := op_aload_n0 (gk (k := 480) (t := 1) ck_law_15 rfl)
theorem dw_482 : decode y_law.2.1 482 = .ok (.iload_n 3, 1) := op_iload_n3 (gk (k := 480) (t := 2) ck_law_15 rfl)
theorem dw_483 : decode y_law.2.1 483 = .ok (.iconst 1, 1) := op_iconst1 (gk (k := 480) (t := 3) ck_law_15 rfl)
theorem dw_484 : decode y_law.2.1 484 = .ok (.iadd, 1) := op_iadd (gk (k := 480) (t := 4) ck_law_15 rfl)
theorem dw_485 : decode y_law.2.1 485 = .ok (.iaload, 1) := op_iaload (gk (k := 480) (t := 5) ck_law_15 rfl)
theorem dw_486 : decode y_law.2.1 486 = .ok (.invokevirtual 53, 3) := op_invokevirtual (gk (k := 480) (t := 6) ck_law_15 rfl) (gk (k := 480) (t := 7) ck_law_15 rfl) (gk (k := 480) (t := 8) ck_law_15 rfl) rfl
theorem dw_489 : decode y_law.2.1 489 = .ok (.pop, 1) := op_pop (gk (k := 480) (t := 9) ck_law_15 rfl)
theorem dw_490 : decode y_law.2.1 490 = .ok (.goto 738, 3) := op_goto (gk (k := 480) (t := 10) ck_law_15 rfl) (gk (k := 480) (t := 11) ck_law_15 rfl) (gk (k := 480) (t := 12) ck_law_15 rfl) (by decide +kernel)
theorem dw_493 : decode y_law.2.1 493 = .ok (.aload_n 1, 1) := op_aload_n1 (gk (k := 480) (t := 13) ck_law_15 rfl)
theorem dw_494 : decode y_law.2.1 494 = .ok (.aload_n 0, 1) := op_aload_n0 (gk (k := 480) (t := 14) ck_law_15 rfl)
theorem dw_495 : decode y_law.2.1 495 = .ok (.iload_n 3, 1) := op_iload_n3 (gk (k := 480) (t := 15) ck_law_15 rfl)
theorem dw_496 : decode y_law.2.1 496 = .ok (.iconst 1, 1) := op_iconst1 (gk (k := 480) (t := 16) ck_law_15 rfl)
theorem dw_497 : decode y_law.2.1 497 = .ok (.iadd, 1) := op_iadd (gk (k := 480) (t := 17) ck_law_15 rfl)
theorem dw_498 : decode y_law.2.1 498 = .ok (.iaload, 1) := op_iaload (gk (k := 480) (t := 18) ck_law_15 rfl)
theorem dw_499 : decode y_law.2.1 499 = .ok (.aload_n 0, 1) := op_aload_n0 (gk (k := 480) (t := 19) ck_law_15 rfl)
theorem dw_500 : decode y_law.2.1 500 = .ok (.iload_n 3, 1) := op_iload_n3 (gk (k := 480) (t := 20) ck_law_15 rfl)
theorem dw_501 : decode y_law.2.1 501 = .ok (.iconst 2, 1) := op_iconst2 (gk (k := 480) (t := 21) ck_law_15 rfl)
theorem dw_502 : decode y_law.2.1 502 = .ok (.iadd, 1) := op_iadd (gk (k := 480) (t := 22) ck_law_15 rfl)
theorem dw_503 : decode y_law.2.1 503 = .ok (.iaload, 1) := op_iaload (gk (k := 480) (t := 23) ck_law_15 rfl)
theorem dw_504 : decode y_law.2.1 504 = .ok (.aload_n 0, 1) := op_aload_n0 (gk (k := 480) (t := 24) ck_law_15 rfl)
theorem dw_505 : decode y_law.2.1 505 = .ok (.iload_n 3, 1) := op_iload_n3 (gk (k := 480) (t := 25) ck_law_15 rfl)
theorem dw_506 : decode y_law.2.1 506 = .ok (.iconst 3, 1) := op_iconst3 (gk (k := 480) (t := 26) ck_law_15 rfl)
theorem dw_507 : decode y_law.2.1 507 = .ok (.iadd, 1) := op_iadd (gk (k := 480) (t := 27) ck_law_15 rfl)
theorem dw_508 : decode y_law.2.1 508 = .ok (.iaload, 1) := op_iaload (gk (k := 480) (t := 28) ck_law_15 rfl)
theorem dw_509 : decode y_law.2.1 509 = .ok (.invokevirtual 54, 3) := op_invokevirtual (gk (k := 480) (t := 29) ck_law_15 rfl) (gk (k := 480) (t := 30) ck_law_15 rfl) (gk (k := 480) (t := 31) ck_law_15 rfl) rfl
theorem ck_law_16 : (y_law.2.1.data.toList.drop 512).take 32 = [87, 44, 42, 29, 4, 96, 46, 42, 29, 5, 96, 46, 42, 29, 6, 96, 46, 182, 0, 58, 87, 167, 2, 183, 43, 42, 29, 4, 96, 46, 42, 29] := by decide +kernel
theorem dw_512 : decode y_law.2.1 512 = .ok (.pop, 1) := op_pop (gk (k := 512) (t := 0) ck_law_16 rfl)
theorem dw_513 : decode y_law.2.1 513 = .ok (.aload_n 2, 1) := op_aload_n2 (gk (k := 512) (t := 1) ck_law_16 rfl)
theorem dw_514 : decode y_law.2.1 514 = .ok (.aload_n 0, 1) := op_aload_n0 (gk (k := 512) (t := 2) ck_law_16 rfl)
theorem dw_515 : decode y_law.2.1 515 = .ok (.iload_n 3, 1) := op_iload_n3 (gk (k := 512) (t := 3) ck_law_16 rfl)
theorem dw_516 : decode y_law.2.1 516 = .ok (.iconst 1, 1) := op_iconst1 (gk (k := 512) (t := 4) ck_law_16 rfl)
theorem dw_517 : decode y_law.2.1 517 = .ok (.iadd, 1) := op_iadd (gk (k := 512) (t := 5) ck_law_16 rfl)
theorem dw_518 : decode y_law.2.1 518 = .ok (.iaload, 1) := op_iaload (gk (k := 512) (t := 6) ck_law_16 rfl)
theorem dw_519 : decode y_law.2.1 519 = .ok (.aload_n 0, 1) := op_aload_n0 (gk (k := 512) (t := 7) ck_law_16 rfl)
theorem dw_520 : decode y_law.2.1 520 = .ok (.iload_n 3, 1) := op_iload_n3 (gk (k := 512) (t := 8) ck_law_16 rfl)
theorem dw_521 : decode y_law.2.1 521 = .ok (.iconst 2, 1) := op_iconst2 (gk (k := 512) (t := 9) ck_law_16 rfl)
theorem dw_522 : decode y_law.2.1 522 = .ok (.iadd, 1) := op_iadd (gk (k := 512) (t := 10) ck_law_16 rfl)
theorem dw_523 : decode y_law.2.1 523 = .ok (.iaload, 1) := op_iaload (gk (k := 512) (t := 11) ck_law_16 rfl)
theorem dw_524 : decode y_law.2.1 524 = .ok (.aload_n 0, 1) := op_aload_n0 (gk (k := 512) (t := 12) ck_law_16 rfl)
theorem dw_525 : decode y_law.2.1 525 = .ok (.iload_n 3, 1) := op_iload_n3 (gk (k := 512) (t := 13) ck_law_16 rfl)
theorem dw_526 : decode y_law.2.1 526 = .ok (.iconst 3, 1) := op_iconst3 (gk (k := 512) (t := 14) ck_law_16 rfl)
theorem dw_527 : decode y_law.2.1 527 = .ok (.iadd, 1) := op_iadd (gk (k := 512) (t := 15) ck_law_16 rfl)
theorem dw_528 : decode y_law.2.1 528 = .ok (.iaload, 1) := op_iaload (gk (k := 512) (t := 16) ck_law_16 rfl)
theorem dw_529 : decode y_law.2.1 529 = .ok (.invokevirtual 58, 3) := op_invokevirtual (gk (k := 512) (t := 17) ck_law_16 rfl) (gk (k := 512) (t := 18) ck_law_16 rfl) (gk (k := 512) (t := 19) ck_law_16 rfl) rfl
theorem dw_532 : decode y_law.2.1 532 = .ok (.pop, 1) := op_pop (gk (k := 512) (t := 20) ck_law_16 rfl)
theorem dw_533 : decode y_law.2.1 533 = .ok (.goto 695, 3) := op_goto (gk (k := 512) (t := 21) ck_law_16 rfl) (gk (k := 512) (t := 22) ck_law_16 rfl) (gk (k := 512) (t := 23) ck_law_16 rfl) (by decide +kernel)
theorem dw_536 : decode y_law.2.1 536 = .ok (.aload_n 1, 1) := op_aload_n1 (gk (k := 512) (t := 24) ck_law_16 rfl)
theorem dw_537 : decode y_law.2.1 537 = .ok (.aload_n 0, 1) := op_aload_n0 (gk (k := 512) (t := 25) ck_law_16 rfl)
theorem dw_538 : decode y_law.2.1 538 = .ok (.iload_n 3, 1) := op_iload_n3 (gk (k := 512) (t := 26) ck_law_16 rfl)
theorem dw_539 : decode y_law.2.1 539 = .ok (.iconst 1, 1) := op_iconst1 (gk (k := 512) (t := 27) ck_law_16 rfl)
theorem dw_540 : decode y_law.2.1 540 = .ok (.iadd, 1) := op_iadd (gk (k := 512) (t := 28) ck_law_16 rfl)
theorem dw_541 : decode y_law.2.1 541 = .ok (.iaload, 1) := op_iaload (gk (k := 512) (t := 29) ck_law_16 rfl)
theorem dw_542 : decode y_law.2.1 542 = .ok (.aload_n 0, 1) := op_aload_n0 (gk (k := 512) (t := 30) ck_law_16 rfl)
theorem dw_543 : decode y_law.2.1 543 = .ok (.iload_n 3, 1) := op_iload_n3 (gk (k := 512) (t := 31) ck_law_16 rfl)
theorem ck_law_17 : (y_law.2.1.data.toList.drop 544).take 32 = [5, 96, 46, 42, 29, 6, 96, 46, 182, 0, 59, 87, 44, 42, 29, 4, 96, 46, 42, 29, 5, 96, 46, 42, 29, 6, 96, 46, 182, 0, 62, 87] := by decide +kernel
theorem dw_544 : decode y_law.2.1 544 = .ok (.iconst 2, 1) := op_iconst2 (gk (k := 544) (t := 0) ck_law_17 rfl)
theorem dw_545 : decode y_law.2.1 545 = .ok (.iadd, 1) := op_iadd (gk (k := 544) (t := 1) ck_law_17 rfl)
theorem dw_546 : decode y_law.2.1 546 = .ok (.iaload, 1) := op_iaload (gk (k := 544) (t := 2) ck_law_17 rfl)
theorem dw_547 : decode y_law.2.1 547 = .ok (.aload_n 0, 1) := op_aload_n0 (gk (k := 544) (t := 3) ck_law_17 rfl)
theorem dw_548 : decode y_law.2.1 548 = .ok (.iload_n 3, 1) := op_iload_n3 (gk (k := 544) (t := 4) ck_law_17 rfl)
theorem dw_549 : decode y_law.2.1 549 = .ok (.iconst 3, 1) := op_iconst3 (gk (k := 544) (t := 5) ck_law_17 rfl)
theorem dw_550 : decode y_law.2.1 550 = .ok (.iadd, 1) := op_iadd (gk (k := 544) (t := 6) ck_law_17 rfl)
theorem dw_551 : decode y_law.2.1 551 = .ok (.iaload, 1) := op_iaload (gk (k := 544) (t := 7) ck_law_17 rfl)
theorem dw_552 : decode y_law.2.1 552 = .ok (.invokevirtual 59, 3) := op_invokevirtual (gk (k := 544) (t := 8) ck_law_17 rfl) (gk (k := 544) (t := 9) ck_law_17 rfl) (gk (k := 544) (t := 10) ck_law_17 rfl) rfl
theorem dw_555 : decode y_law.2.1 555 = .ok (.pop, 1) := op_pop (gk (k := 544) (t := 11) ck_law_17 rfl)
theorem dw_556 : decode y_law.2.1 556 = .ok (.aload_n 2, 1) := op_aload_n2 (gk (k := 544) (t := 12) ck_law_17 rfl)
theorem dw_557 : decode y_law.2.1 557 = .ok (.aload_n 0, 1) := op_aload_n0 (gk (k := 544) (t := 13) ck_law_17 rfl)
theorem dw_558 : decode y_law.2.1 558 = .ok (.iload_n 3, 1) := op_iload_n3 (gk (k := 544) (t := 14) ck_law_17 rfl)
theorem dw_559 : decode y_law.2.1 559 = .ok (.iconst 1, 1) := op_iconst1 (gk (k := 544) (t := 15) ck_law_17 rfl)
theorem dw_560 : decode y_law.2.1 560 = .ok (.iadd, 1) := op_iadd (gk (k := 544) (t := 16) ck_law_17 rfl)
theorem dw_561 : decode y_law.2.1 561 = .ok (.iaload, 1) := op_iaload (gk (k := 544) (t := 17) ck_law_17 rfl)
theorem dw_562 : decode y_law.2.1 562 = .ok (.aload_n 0, 1) := op_aload_n0 (gk (k := 544) (t := 18) ck_law_17 rfl)
theorem dw_563 : decode y_law.2.1 563 = .ok (.iload_n 3, 1) := op_iload_n3 (gk (k := 544) (t := 19) ck_law_17 rfl)
theorem dw_564 : decode y_law.2.1 564 = .ok (.iconst 2, 1) := op_iconst2 (gk (k := 544) (t := 20) ck_law_17 rfl)
theorem dw_565 : decode y_law.2.1 565 = .ok (.iadd, 1) := op_iadd (gk (k := 544) (t := 21) ck_law_17 rfl)
theorem dw_566 : decode y_law.2.1 566 = .ok (.iaload, 1) := op_iaload (gk (k := 544) (t := 22) ck_law_17 rfl)
theorem dw_567 : decode y_law.2.1 567 = .ok (.aload_n 0, 1) := op_aload_n0 (gk (k := 544) (t := 23) ck_law_17 rfl)
theorem dw_568 : decode y_law.2.1 568 = .ok (.iload_n 3, 1) := op_iload_n3 (gk (k := 544) (t := 24) ck_law_17 rfl)
theorem dw_569 : decode y_law.2.1 569 = .ok (.iconst 3, 1) := op_iconst3 (gk (k := 544) (t := 25) ck_law_17 rfl)
theorem dw_570 : decode y_law.2.1 570 = .ok (.iadd, 1) := op_iadd (gk (k := 544) (t := 26) ck_law_17 rfl)
theorem dw_571 : decode y_law.2.1 571 = .ok (.iaload, 1) := op_iaload (gk (k := 544) (t := 27) ck_law_17 rfl)
theorem dw_572 : decode y_law.2.1 572 = .ok (.invokevirtual 62, 3) := op_invokevirtual (gk (k := 544) (t := 28) ck_law_17 rfl) (gk (k := 544) (t := 29) ck_law_17 rfl) (gk (k := 544) (t := 30) ck_law_17 rfl) rfl
theorem dw_575 : decode y_law.2.1 575 = .ok (.pop, 1) := op_pop (gk (k := 544) (t := 31) ck_law_17 rfl)
theorem ck_law_18 : (y_law.2.1.data.toList.drop 576).take 32 = [167, 2, 140, 43, 42, 29, 4, 96, 46, 42, 29, 5, 96, 46, 182, 0, 63, 87, 44, 42, 29, 4, 96, 46, 42, 29, 5, 96, 46, 182, 0, 67] := by decide +kernel
theorem dw_576 : decode y_law.2.1 576 = .ok (.goto 652, 3) := op_goto (gk (k := 576) (t := 0) ck_law_18 rfl) (gk (k := 576) (t := 1) ck_law_18 rfl) (gk (k := 576) (t := 2) ck_law_18 rfl) (by decide +kernel)
theorem dw_579 : decode y_law.2.1 579 = .ok (.aload_n 1, 1) := op_aload_n1 (gk (k := 576) (t := 3) ck_law_18 rfl)
theorem dw_580 : decode y_law.2.1 580 = .ok (.aload_n 0, 1) := op_aload_n0 (gk (k := 576) (t := 4) ck_law_18 rfl)
theorem dw_581 : decode y_law.2.1 581 = .ok (.iload_n 3, 1) := op_iload_n3 (gk (k := 576) (t := 5) ck_law_18 rfl)
theorem dw_582 : decode y_law.2.1 582 = .ok (.iconst 1, 1) := op_iconst1 (gk (k := 576) (t := 6) ck_law_18 rfl)
theorem dw_583 : decode y_law.2.1 583 = .ok (.iadd, 1) := op_iadd (gk (k := 576) (t := 7) ck_law_18 rfl)
theorem dw_584 : decode y_law.2.1 584 = .ok (.iaload, 1) := op_iaload (gk (k := 576) (t := 8) ck_law_18 rfl)
theorem dw_585 : decode y_law.2.1 585 = .ok (.aload_n 0, 1) := op_aload_n0 (gk (k := 576) (t := 9) ck_law_18 rfl)
theorem dw_586 : decode y_law.2.1 586 = .ok (.iload_n 3, 1) := op_iload_n3 (gk (k := 576) (t := 10) ck_law_18 rfl)
theorem dw_587 : decode y_law.2.1 587 = .ok (.iconst 2, 1) := op_iconst2 (gk (k := 576) (t := 11) ck_law_18 rfl)
theorem dw_588 : decode y_law.2.1 588 = .ok (.iadd, 1) := op_iadd (gk (k := 576) (t := 12) ck_law_18 rfl)
theorem dw_589 : decode y_law.2.1 589 = .ok (.iaload, 1) := op_iaload (gk (k := 576) (t := 13) ck_law_18 rfl)
theorem dw_590 : decode y_law.2.1 590 = .ok (.invokevirtual 63, 3) := op_invokevirtual (gk (k := 576) (t := 14) ck_law_18 rfl) (gk (k := 576) (t := 15) ck_law_18 rfl) (gk (k := 576) (t := 16) ck_law_18 rfl) rfl
theorem dw_593 : decode y_law.2.1 593 = .ok (.pop, 1) := op_pop (gk (k := 576) (t := 17) ck_law_18 rfl)
theorem dw_594 : decode y_law.2.1 594 = .ok (.aload_n 2, 1) := op_aload_n2 (gk (k := 576) (t := 18) ck_law_18 rfl)
theorem dw_595 : decode y_law.2.1 595 = .ok (.aload_n 0, 1) := op_aload_n0 (gk (k := 576) (t := 19) ck_law_18 rfl)
theorem dw_596 : decode y_law.2.1 596 = .ok (.iload_n 3, 1) := op_iload_n3 (gk (k := 576) (t := 20) ck_law_18 rfl)
theorem dw_597 : decode y_law.2.1 597 = .ok (.iconst 1, 1) := op_iconst1 (gk (k := 576) (t := 21) ck_law_18 rfl)
theorem dw_598 : decode y_law.2.1 598 = .ok (.iadd, 1) := op_iadd (gk (k := 576) (t := 22) ck_law_18 rfl)
theorem dw_599 : decode y_law.2.1 599 = .ok (.iaload, 1) := op_iaload (gk (k := 576) (t := 23) ck_law_18 rfl)
theorem dw_600 : decode y_law.2.1 600 = .ok (.aload_n 0, 1) := op_aload_n0 (gk (k := 576) (t := 24) ck_law_18 rfl)
theorem dw_601 : decode y_law.2.1 601 = .ok (.iload_n 3, 1) := op_iload_n3 (gk (k := 576) (t := 25) ck_law_18 rfl)
theorem dw_602 : decode y_law.2.1 602 = .ok (.iconst 2, 1) := op_iconst2 (gk (k := 576) (t := 26) ck_law_18 rfl)
theorem dw_603 : decode y_law.2.1 603 = .ok (.iadd, 1) := op_iadd (gk (k := 576) (t := 27) ck_law_18 rfl)
theorem dw_604 : decode y_law.2.1 604 = .ok (.iaload, 1) := op_iaload (gk (k := 576) (t := 28) ck_law_18 rfl)
theorem dw_605 : decode y_law.2.1 605 = .ok (.invokevirtual 67, 3) := op_invokevirtual (gk (k := 576) (t := 29) ck_law_18 rfl) (gk (k := 576) (t := 30) ck_law_18 rfl) (gk (k := 576) (t := 31) ck_law_18 rfl) rfl
theorem ck_law_19 : (y_law.2.1.data.toList.drop 608).take 32 = [87, 167, 2, 107, 43, 42, 29, 4, 96, 46, 42, 29, 5, 96, 46, 182, 0, 68, 87, 44, 42, 29, 4, 96, 46, 42, 29, 5, 96, 46, 182, 0] := by decide +kernel
theorem dw_608 : decode y_law.2.1 608 = .ok (.pop, 1) := op_pop (gk (k := 608) (t := 0) ck_law_19 rfl)
theorem dw_609 : decode y_law.2.1 609 = .ok (.goto 619, 3) := op_goto (gk (k := 608) (t := 1) ck_law_19 rfl) (gk (k := 608) (t := 2) ck_law_19 rfl) (gk (k := 608) (t := 3) ck_law_19 rfl) (by decide +kernel)
theorem dw_612 : decode y_law.2.1 612 = .ok (.aload_n 1, 1) := op_aload_n1 (gk (k := 608) (t := 4) ck_law_19 rfl)
theorem dw_613 : decode y_law.2.1 613 = .ok (.aload_n 0, 1) := op_aload_n0 (gk (k := 608) (t := 5) ck_law_19 rfl)
theorem dw_614 : decode y_law.2.1 614 = .ok (.iload_n 3, 1) := op_iload_n3 (gk (k := 608) (t := 6) ck_law_19 rfl)
theorem dw_615 : decode y_law.2.1 615 = .ok (.iconst 1, 1) := op_iconst1 (gk (k := 608) (t := 7) ck_law_19 rfl)
theorem dw_616 : decode y_law.2.1 616 = .ok (.iadd, 1) := op_iadd (gk (k := 608) (t := 8) ck_law_19 rfl)
theorem dw_617 : decode y_law.2.1 617 = .ok (.iaload, 1) := op_iaload (gk (k := 608) (t := 9) ck_law_19 rfl)
theorem dw_618 : decode y_law.2.1 618 = .ok (.aload_n 0, 1) := op_aload_n0 (gk (k := 608) (t := 10) ck_law_19 rfl)
theorem dw_619 : decode y_law.2.1 619 = .ok (.iload_n 3, 1) := op_iload_n3 (gk (k := 608) (t := 11) ck_law_19 rfl)
theorem dw_620 : decode y_law.2.1 620 = .ok (.iconst 2, 1) := op_iconst2 (gk (k := 608) (t := 12) ck_law_19 rfl)
theorem dw_621 : decode y_law.2.1 621 = .ok (.iadd, 1) := op_iadd (gk (k := 608) (t := 13) ck_law_19 rfl)
theorem dw_622 : decode y_law.2.1 622 = .ok (.iaload, 1) := op_iaload (gk (k := 608) (t := 14) ck_law_19 rfl)
theorem dw_623 : decode y_law.2.1 623 = .ok (.invokevirtual 68, 3) := op_invokevirtual (gk (k := 608) (t := 15) ck_law_19 rfl) (gk (k := 608) (t := 16) ck_law_19 rfl) (gk (k := 608) (t := 17) ck_law_19 rfl) rfl
theorem dw_626 : decode y_law.2.1 626 = .ok (.pop, 1) := op_pop (gk (k := 608) (t := 18) ck_law_19 rfl)
theorem dw_627 : decode y_law.2.1 627 = .ok (.aload_n 2, 1) := op_aload_n2 (gk (k := 608) (t := 19) ck_law_19 rfl)
theorem dw_628 : decode y_law.2.1 628 = .ok (.aload_n 0, 1) := op_aload_n0 (gk (k := 608) (t := 20) ck_law_19 rfl)
theorem dw_629 : decode y_law.2.1 629 = .ok (.iload_n 3, 1) := op_iload_n3 (gk (k := 608) (t := 21) ck_law_19 rfl)
theorem dw_630 : decode y_law.2.1 630 = .ok (.iconst 1, 1) := op_iconst1 (gk (k := 608) (t := 22) ck_law_19 rfl)
theorem dw_631 : decode y_law.2.1 631 = .ok (.iadd, 1) := op_iadd (gk (k := 608) (t := 23) ck_law_19 rfl)
theorem dw_632 : decode y_law.2.1 632 = .ok (.iaload, 1) := op_iaload (gk (k := 608) (t := 24) ck_law_19 rfl)
theorem dw_633 : decode y_law.2.1 633 = .ok (.aload_n 0, 1) := op_aload_n0 (gk (k := 608) (t := 25) ck_law_19 rfl)
theorem dw_634 : decode y_law.2.1 634 = .ok (.iload_n 3, 1) := op_iload_n3 (gk (k := 608) (t := 26) ck_law_19 rfl)
theorem dw_635 : decode y_law.2.1 635 = .ok (.iconst 2, 1) := op_iconst2 (gk (k := 608) (t := 27) ck_law_19 rfl)
theorem dw_636 : decode y_law.2.1 636 = .ok (.iadd, 1) := op_iadd (gk (k := 608) (t := 28) ck_law_19 rfl)
theorem dw_637 : decode y_law.2.1 637 = .ok (.iaload, 1) := op_iaload (gk (k := 608) (t := 29) ck_law_19 rfl)
theorem ck_law_20 : (y_law.2.1.data.toList.drop 640).take 32 = [71, 87, 167, 2, 74, 43, 182, 0, 72, 87, 44, 182, 0, 76, 87, 167, 2, 61, 43, 182, 0, 77, 87, 44, 182, 0, 80, 87, 167, 2, 48, 43] := by decide +kernel
theorem dw_638 : decode y_law.2.1 638 = .ok (.invokevirtual 71, 3) := op_invokevirtual (gk (k := 608) (t := 30) ck_law_19 rfl) (gk (k := 608) (t := 31) ck_law_19 rfl) (gk (k := 640) (t := 0) ck_law_20 rfl) rfl
theorem dw_641 : decode y_law.2.1 641 = .ok (.pop, 1) := op_pop (gk (k := 640) (t := 1) ck_law_20 rfl)
theorem dw_642 : decode y_law.2.1 642 = .ok (.goto 586, 3) := op_goto (gk (k := 640) (t := 2) ck_law_20 rfl) (gk (k := 640) (t := 3) ck_law_20 rfl) (gk (k := 640) (t := 4) ck_law_20 rfl) (by decide +kernel)
theorem dw_645 : decode y_law.2.1 645 = .ok (.aload_n 1, 1) := op_aload_n1 (gk (k := 640) (t := 5) ck_law_20 rfl)
theorem dw_646 : decode y_law.2.1 646 = .ok (.invokevirtual 72, 3) := op_invokevirtual (gk (k := 640) (t := 6) ck_law_20 rfl) (gk (k := 640) (t := 7) ck_law_20 rfl) (gk (k := 640) (t := 8) ck_law_20 rfl) rfl
theorem dw_649 : decode y_law.2.1 649 = .ok (.pop, 1) := op_pop (gk (k := 640) (t := 9) ck_law_20 rfl)
theorem dw_650 : decode y_law.2.1 650 = .ok (.aload_n 2, 1) := op_aload_n2 (gk (k := 640) (t := 10) ck_law_20 rfl)
theorem dw_651 : decode y_law.2.1 651 = .ok (.invokevirtual 76, 3) := op_invokevirtual (gk (k := 640) (t := 11) ck_law_20 rfl) (gk (k := 640) (t := 12) ck_law_20 rfl) (gk (k := 640) (t := 13) ck_law_20 rfl) rfl
theorem dw_654 : decode y_law.2.1 654 = .ok (.pop, 1) := op_pop (gk (k := 640) (t := 14) ck_law_20 rfl)
theorem dw_655 : decode y_law.2.1 655 = .ok (.goto 573, 3) := op_goto (gk (k := 640) (t := 15) ck_law_20 rfl) (gk (k := 640) (t := 16) ck_law_20 rfl) (gk (k := 640) (t := 17) ck_law_20 rfl) (by decide +kernel)
theorem dw_658 : decode y_law.2.1 658 = .ok (.aload_n 1, 1) := op_aload_n1 (gk (k := 640) (t := 18) ck_law_20 rfl)
theorem dw_659 : decode y_law.2.1 659 = .ok (.invokevirtual 77, 3) := op_invokevirtual (gk (k := 640) (t := 19) ck_law_20 rfl) (gk (k := 640) (t := 20) ck_law_20 rfl) (gk (k := 640) (t := 21) ck_law_20 rfl) rfl
theorem dw_662 : decode y_law.2.1 662 = .ok (.pop, 1) := op_pop (gk (k := 640) (t := 22) ck_law_20 rfl)
theorem dw_663 : decode y_law.2.1 663 = .ok (.aload_n 2, 1) := op_aload_n2 (gk (k := 640) (t := 23) ck_law_20 rfl)
theorem dw_664 : decode y_law.2.1 664 = .ok (.invokevirtual 80, 3) := op_invokevirtual (gk (k := 640) (t := 24) ck_law_20 rfl) (gk (k := 640) (t := 25) ck_law_20 rfl) (gk (k := 640) (t := 26) ck_law_20 rfl) rfl
theorem dw_667 : decode y_law.2.1 667 = .ok (.pop, 1) := op_pop (gk (k := 640) (t := 27) ck_law_20 rfl)
theorem dw_668 : decode y_law.2.1 668 = .ok (.goto 560, 3) := op_goto (gk (k := 640) (t := 28) ck_law_20 rfl) (gk (k := 640) (t := 29) ck_law_20 rfl) (gk (k := 640) (t := 30) ck_law_20 rfl) (by decide +kernel)
theorem dw_671 : decode y_law.2.1 671 = .ok (.aload_n 1, 1) := op_aload_n1 (gk (k := 640) (t := 31) ck_law_20 rfl)
theorem ck_law_21 : (y_law.2.1.data.toList.drop 672).take 32 = [42, 29, 4, 96, 46, 182, 0, 81, 87, 44, 42, 29, 4, 96, 46, 182, 0, 84, 87, 167, 2, 25, 43, 42, 29, 4, 96, 46, 182, 0, 85, 87] := by decide +kernel
theorem dw_672 : decode y_law.2.1 672 = .ok (.aload_n 0, 1) := op_aload_n0 (gk (k := 672) (t := 0) ck_law_21 rfl)
theorem dw_673 : decode y_law.2.1 673 = .ok (.iload_n 3, 1) := op_iload_n3 (gk (k := 672) (t := 1) ck_law_21 rfl)
theorem dw_674 : decode y_law.2.1 674 = .ok (.iconst 1, 1) := op_iconst1 (gk (k := 672) (t := 2) ck_law_21 rfl)
theorem dw_675 : decode y_law.2.1 675 = .ok (.iadd, 1) := op_iadd (gk (k := 672) (t := 3) ck_law_21 rfl)
theorem dw_676 : decode y_law.2.1 676 = .ok (.iaload, 1) := op_iaload (gk (k := 672) (t := 4) ck_law_21 rfl)
theorem dw_677 : decode y_law.2.1 677 = .ok (.invokevirtual 81, 3) := op_invokevirtual (gk (k := 672) (t := 5) ck_law_21 rfl) (gk (k := 672) (t := 6) ck_law_21 rfl) (gk (k := 672) (t := 7) ck_law_21 rfl) rfl
theorem dw_680 : decode y_law.2.1 680 = .ok (.pop, 1) := op_pop (gk (k := 672) (t := 8) ck_law_21 rfl)
theorem dw_681 : decode y_law.2.1 681 = .ok (.aload_n 2, 1) := op_aload_n2 (gk (k := 672) (t := 9) ck_law_21 rfl)
theorem dw_682 : decode y_law.2.1 682 = .ok (.aload_n 0, 1) := op_aload_n0 (gk (k := 672) (t := 10) ck_law_21 rfl)
theorem dw_683 : decode y_law.2.1 683 = .ok (.iload_n 3, 1) := op_iload_n3 (gk (k := 672) (t := 11) ck_law_21 rfl)
theorem dw_684 : decode y_law.2.1 684 = .ok (.iconst 1, 1) := op_iconst1 (gk (k := 672) (t := 12) ck_law_21 rfl)
theorem dw_685 : decode y_law.2.1 685 = .ok (.iadd, 1) := op_iadd (gk (k := 672) (t := 13) ck_law_21 rfl)
theorem dw_686 : decode y_law.2.1 686 = .ok (.iaload, 1) := op_iaload (gk (k := 672) (t := 14) ck_law_21 rfl)
theorem dw_687 : decode y_law.2.1 687 = .ok (.invokevirtual 84, 3) := op_invokevirtual (gk (k := 672) (t := 15) ck_law_21 rfl) (gk (k := 672) (t := 16) ck_law_21 rfl) (gk (k := 672) (t := 17) ck_law_21 rfl) rfl
theorem dw_690 : decode y_law.2.1 690 = .ok (.pop, 1) := op_pop (gk (k := 672) (t := 18) ck_law_21 rfl)
theorem dw_691 : decode y_law.2.1 691 = .ok (.goto 537, 3) := op_goto (gk (k := 672) (t := 19) ck_law_21 rfl) (gk (k := 672) (t := 20) ck_law_21 rfl) (gk (k := 672) (t := 21) ck_law_21 rfl) (by decide +kernel)
theorem dw_694 : decode y_law.2.1 694 = .ok (.aload_n 1, 1) := op_aload_n1 (gk (k := 672) (t := 22) ck_law_21 rfl)
theorem dw_695 : decode y_law.2.1 695 = .ok (.aload_n 0, 1) := op_aload_n0 (gk (k := 672) (t := 23) ck_law_21 rfl)
theorem dw_696 : decode y_law.2.1 696 = .ok (.iload_n 3, 1) := op_iload_n3 (gk (k := 672) (t := 24) ck_law_21 rfl)
theorem dw_697 : decode y_law.2.1 697 = .ok (.iconst 1, 1) := op_iconst1 (gk (k := 672) (t := 25) ck_law_21 rfl)
theorem dw_698 : decode y_law.2.1 698 = .ok (.iadd, 1) := op_iadd (gk (k := 672) (t := 26) ck_law_21 rfl)
theorem dw_699 : decode y_law.2.1 699 = .ok (.iaload, 1) := op_iaload (gk (k := 672) (t := 27) ck_law_21 rfl)
theorem dw_700 : decode y_law.2.1 700 = .ok (.invokevirtual 85, 3) := op_invokevirtual (gk (k := 672) (t := 28) ck_law_21 rfl) (gk (k := 672) (t := 29) ck_law_21 rfl) (gk (k := 672) (t := 30) ck_law_21 rfl) rfl
theorem dw_703 : decode y_law.2.1 703 = .ok (.pop, 1) := op_pop (gk (k := 672) (t := 31) ck_law_21 rfl)
theorem ck_law_22 : (y_law.2.1.data.toList.drop 704).take 32 = [44, 42, 29, 4, 96, 46, 182, 0, 88, 87, 167, 2, 2, 43, 42, 29, 4, 96, 46, 182, 0, 89, 87, 44, 42, 29, 4, 96, 46, 182, 0, 92] := by decide +kernel
theorem dw_704 : decode y_law.2.1 704 = .ok (.aload_n 2, 1) := op_aload_n2 (gk (k := 704) (t := 0) ck_law_22 rfl)
theorem dw_705 : decode y_law.2.1 705 = .ok (.aload_n 0, 1) := op_aload_n0 (gk (k := 704) (t := 1) ck_law_22 rfl)
theorem dw_706 : decode y_law.2.1 706 = .ok (.iload_n 3, 1) := op_iload_n3 (gk (k := 704) (t := 2) ck_law_22 rfl)
theorem dw_707 : decode y_law.2.1 707 = .ok (.iconst 1, 1) := op_iconst1 (gk (k := 704) (t := 3) ck_law_22 rfl)
theorem dw_708 : decode y_law.2.1 708 = .ok (.iadd, 1) := op_iadd (gk (k := 704) (t := 4) ck_law_22 rfl)
theorem dw_709 : decode y_law.2.1 709 = .ok (.iaload, 1) := op_iaload (gk (k := 704) (t := 5) ck_law_22 rfl)
theorem dw_710 : decode y_law.2.1 710 = .ok (.invokevirtual 88, 3) := op_invokevirtual (gk (k := 704) (t := 6) ck_law_22 rfl) (gk (k := 704) (t := 7) ck_law_22 rfl) (gk (k := 704) (t := 8) ck_law_22 rfl) rfl
theorem dw_713 : decode y_law.2.1 713 = .ok (.pop, 1) := op_pop (gk (k := 704) (t := 9) ck_law_22 rfl)
theorem dw_714 : decode y_law.2.1 714 = .ok (.goto 514, 3) := op_goto (gk (k := 704) (t := 10) ck_law_22 rfl) (gk (k := 704) (t := 11) ck_law_22 rfl) (gk (k := 704) (t := 12) ck_law_22 rfl) (by decide +kernel)
theorem dw_717 : decode y_law.2.1 717 = .ok (.aload_n 1, 1) := op_aload_n1 (gk (k := 704) (t := 13) ck_law_22 rfl)
theorem dw_718 : decode y_law.2.1 718 = .ok (.aload_n 0, 1) := op_aload_n0 (gk (k := 704) (t := 14) ck_law_22 rfl)
theorem dw_719 : decode y_law.2.1 719 = .ok (.iload_n 3, 1) := op_iload_n3 (gk (k := 704) (t := 15) ck_law_22 rfl)
theorem dw_720 : decode y_law.2.1 720 = .ok (.iconst 1, 1) := op_iconst1 (gk (k := 704) (t := 16) ck_law_22 rfl)
theorem dw_721 : decode y_law.2.1 721 = .ok (.iadd, 1) := op_iadd (gk (k := 704) (t := 17) ck_law_22 rfl)
theorem dw_722 : decode y_law.2.1 722 = .ok (.iaload, 1) := op_iaload (gk (k := 704) (t := 18) ck_law_22 rfl)
theorem dw_723 : decode y_law.2.1 723 = .ok (.invokevirtual 89, 3) := op_invokevirtual (gk (k := 704) (t := 19) ck_law_22 rfl) (gk (k := 704) (t := 20) ck_law_22 rfl) (gk (k := 704) (t := 21) ck_law_22 rfl) rfl
theorem dw_726 : decode y_law.2.1 726 = .ok (.pop, 1) := op_pop (gk (k := 704) (t := 22) ck_law_22 rfl)
theorem dw_727 : decode y_law.2.1 727 = .ok (.aload_n 2, 1) := op_aload_n2 (gk (k := 704) (t := 23) ck_law_22 rfl)
theorem dw_728 : decode y_law.2.1 728 = .ok (.aload_n 0, 1) := op_aload_n0 (gk (k := 704) (t := 24) ck_law_22 rfl)
theorem dw_729 : decode y_law.2.1 729 = .ok (.iload_n 3, 1) := op_iload_n3 (gk (k := 704) (t := 25) ck_law_22 rfl)
theorem dw_730 : decode y_law.2.1 730 = .ok (.iconst 1, 1) := op_iconst1 (gk (k := 704) (t := 26) ck_law_22 rfl)
theorem dw_731 : decode y_law.2.1 731 = .ok (.iadd, 1) := op_iadd (gk (k := 704) (t := 27) ck_law_22 rfl)
theorem dw_732 : decode y_law.2.1 732 = .ok (.iaload, 1) := op_iaload (gk (k := 704) (t := 28) ck_law_22 rfl)
theorem dw_733 : decode y_law.2.1 733 = .ok (.invokevirtual 92, 3) := op_invokevirtual (gk (k := 704) (t := 29) ck_law_22 rfl) (gk (k := 704) (t := 30) ck_law_22 rfl) (gk (k := 704) (t := 31) ck_law_22 rfl) rfl
theorem ck_law_23 : (y_law.2.1.data.toList.drop 736).take 32 = [87, 167, 1, 235, 43, 42, 29, 4, 96, 46, 182, 0, 93, 87, 44, 42, 29, 4, 96, 46, 182, 0, 96, 87, 167, 1, 212, 43, 42, 29, 4, 96] := by decide +kernel
theorem dw_736 : decode y_law.2.1 736 = .ok (.pop, 1) := op_pop (gk (k := 736) (t := 0) ck_law_23 rfl)
theorem dw_737 : decode y_law.2.1 737 = .ok (.goto 491, 3) := op_goto (gk (k := 736) (t := 1) ck_law_23 rfl) (gk (k := 736) (t := 2) ck_law_23 rfl) (gk (k := 736) (t := 3) ck_law_23 rfl) (by decide +kernel)
theorem dw_740 : decode y_law.2.1 740 = .ok (.aload_n 1, 1) := op_aload_n1 (gk (k := 736) (t := 4) ck_law_23 rfl)
theorem dw_741 : decode y_law.2.1 741 = .ok (.aload_n 0, 1) := op_aload_n0 (gk (k := 736) (t := 5) ck_law_23 rfl)
theorem dw_742 : decode y_law.2.1 742 = .ok (.iload_n 3, 1) := op_iload_n3 (gk (k := 736) (t := 6) ck_law_23 rfl)
theorem dw_743 : decode y_law.2.1 743 = .ok (.iconst 1, 1) := op_iconst1 (gk (k := 736) (t := 7) ck_law_23 rfl)
theorem dw_744 : decode y_law.2.1 744 = .ok (.iadd, 1) := op_iadd (gk (k := 736) (t := 8) ck_law_23 rfl)
theorem dw_745 : decode y_law.2.1 745 = .ok (.iaload, 1) := op_iaload (gk (k := 736) (t := 9) ck_law_23 rfl)
theorem dw_746 : decode y_law.2.1 746 = .ok (.invokevirtual 93, 3) := op_invokevirtual (gk (k := 736) (t := 10) ck_law_23 rfl) (gk (k := 736) (t := 11) ck_law_23 rfl) (gk (k := 736) (t := 12) ck_law_23 rfl) rfl
theorem dw_749 : decode y_law.2.1 749 = .ok (.pop, 1) := op_pop (gk (k := 736) (t := 13) ck_law_23 rfl)
theorem dw_750 : decode y_law.2.1 750 = .ok (.aload_n 2, 1) := op_aload_n2 (gk (k := 736) (t := 14) ck_law_23 rfl)
theorem dw_751 : decode y_law.2.1 751 = .ok (.aload_n 0, 1) := op_aload_n0 (gk (k := 736) (t := 15) ck_law_23 rfl)
theorem dw_752 : decode y_law.2.1 752 = .ok (.iload_n 3, 1) := op_iload_n3 (gk (k := 736) (t := 16) ck_law_23 rfl)
theorem dw_753 : decode y_law.2.1 753 = .ok (.iconst 1, 1) := op_iconst1 (gk (k := 736) (t := 17) ck_law_23 rfl)
theorem dw_754 : decode y_law.2.1 754 = .ok (.iadd, 1) := op_iadd (gk (k := 736) (t := 18) ck_law_23 rfl)
theorem dw_755 : decode y_law.2.1 755 = .ok (.iaload, 1) := op_iaload (gk (k := 736) (t := 19) ck_law_23 rfl)
theorem dw_756 : decode y_law.2.1 756 = .ok (.invokevirtual 96, 3) := op_invokevirtual (gk (k := 736) (t := 20) ck_law_23 rfl) (gk (k := 736) (t := 21) ck_law_23 rfl) (gk (k := 736) (t := 22) ck_law_23 rfl) rfl
theorem dw_759 : decode y_law.2.1 759 = .ok (.pop, 1) := op_pop (gk (k := 736) (t := 23) ck_law_23 rfl)
theorem dw_760 : decode y_law.2.1 760 = .ok (.goto 468, 3) := op_goto (gk (k := 736) (t := 24) ck_law_23 rfl) (gk (k := 736) (t := 25) ck_law_23 rfl) (gk (k := 736) (t := 26) ck_law_23 rfl) (by decide +kernel)
theorem dw_763 : decode y_law.2.1 763 = .ok (.aload_n 1, 1) := op_aload_n1 (gk (k := 736) (t := 27) ck_law_23 rfl)
theorem dw_764 : decode y_law.2.1 764 = .ok (.aload_n 0, 1) := op_aload_n0 (gk (k := 736) (t := 28) ck_law_23 rfl)
theorem dw_765 : decode y_law.2.1 765 = .ok (.iload_n 3, 1) := op_iload_n3 (gk (k := 736) (t := 29) ck_law_23 rfl)
theorem dw_766 : decode y_law.2.1 766 = .ok (.iconst 1, 1) := op_iconst1 (gk (k := 736) (t := 30) ck_law_23 rfl)
theorem dw_767 : decode y_law.2.1 767 = .ok (.iadd, 1) := op_iadd (gk (k := 736) (t := 31) ck_law_23 rfl)
theorem ck_law_24 : (y_law.2.1.data.toList.drop 768).take 32 = [46, 182, 0, 97, 87, 44, 42, 29, 4, 96, 46, 182, 0, 100, 87, 167, 1, 189, 43, 42, 29, 4, 96, 46, 42, 29, 5, 96, 46, 182, 0, 101] := by decide +kernel
theorem dw_768 : decode y_law.2.1 768 = .ok (.iaload, 1) := op_iaload (gk (k := 768) (t := 0) ck_law_24 rfl)
theorem dw_769 : decode y_law.2.1 769 = .ok (.invokevirtual 97, 3) := op_invokevirtual (gk (k := 768) (t := 1) ck_law_24 rfl) (gk (k := 768) (t := 2) ck_law_24 rfl) (gk (k := 768) (t := 3) ck_law_24 rfl) rfl
theorem dw_772 : decode y_law.2.1 772 = .ok (.pop, 1) := op_pop (gk (k := 768) (t := 4) ck_law_24 rfl)
theorem dw_773 : decode y_law.2.1 773 = .ok (.aload_n 2, 1) := op_aload_n2 (gk (k := 768) (t := 5) ck_law_24 rfl)
theorem dw_774 : decode y_law.2.1 774 = .ok (.aload_n 0, 1) := op_aload_n0 (gk (k := 768) (t := 6) ck_law_24 rfl)
theorem dw_775 : decode y_law.2.1 775 = .ok (.iload_n 3, 1) := op_iload_n3 (gk (k := 768) (t := 7) ck_law_24 rfl)
theorem dw_776 : decode y_law.2.1 776 = .ok (.iconst 1, 1) := op_iconst1 (gk (k := 768) (t := 8) ck_law_24 rfl)
theorem dw_777 : decode y_law.2.1 777 = .ok (.iadd, 1) := op_iadd (gk (k := 768) (t := 9) ck_law_24 rfl)
theorem dw_778 : decode y_law.2.1 778 = .ok (.iaload, 1) := op_iaload (gk (k := 768) (t := 10) ck_law_24 rfl)
theorem dw_779 : decode y_law.2.1 779 = .ok (.invokevirtual 100, 3) := op_invokevirtual (gk (k := 768) (t := 11) ck_law_24 rfl) (gk (k := 768) (t := 12) ck_law_24 rfl) (gk (k := 768) (t := 13) ck_law_24 rfl) rfl
theorem dw_782 : decode y_law.2.1 782 = .ok (.pop, 1) := op_pop (gk (k := 768) (t := 14) ck_law_24 rfl)
theorem dw_783 : decode y_law.2.1 783 = .ok (.goto 445, 3) := op_goto (gk (k := 768) (t := 15) ck_law_24 rfl) (gk (k := 768) (t := 16) ck_law_24 rfl) (gk (k := 768) (t := 17) ck_law_24 rfl) (by decide +kernel)
theorem dw_786 : decode y_law.2.1 786 = .ok (.aload_n 1, 1) := op_aload_n1 (gk (k := 768) (t := 18) ck_law_24 rfl)
theorem dw_787 : decode y_law.2.1 787 = .ok (.aload_n 0, 1) := op_aload_n0 (gk (k := 768) (t := 19) ck_law_24 rfl)
theorem dw_788 : decode y_law.2.1 788 = .ok (.iload_n 3, 1) := op_iload_n3 (gk (k := 768) (t := 20) ck_law_24 rfl)
theorem dw_789 : decode y_law.2.1 789 = .ok (.iconst 1, 1) := op_iconst1 (gk (k := 768) (t := 21) ck_law_24 rfl)
theorem dw_790 : decode y_law.2.1 790 = .ok (.iadd, 1) := op_iadd (gk (k := 768) (t := 22) ck_law_24 rfl)
theorem dw_791 : decode y_law.2.1 791 = .ok (.iaload, 1) := op_iaload (gk (k := 768) (t := 23) ck_law_24 rfl)
theorem dw_792 : decode y_law.2.1 792 = .ok (.aload_n 0, 1) := op_aload_n0 (gk (k := 768) (t := 24) ck_law_24 rfl)
theorem dw_793 : decode y_law.2.1 793 = .ok (.iload_n 3, 1) := op_iload_n3 (gk (k := 768) (t := 25) ck_law_24 rfl)
theorem dw_794 : decode y_law.2.1 794 = .ok (.iconst 2, 1) := op_iconst2 (gk (k := 768) (t := 26) ck_law_24 rfl)
theorem dw_795 : decode y_law.2.1 795 = .ok (.iadd, 1) := op_iadd (gk (k := 768) (t := 27) ck_law_24 rfl)
theorem dw_796 : decode y_law.2.1 796 = .ok (.iaload, 1) := op_iaload (gk (k := 768) (t := 28) ck_law_24 rfl)
theorem dw_797 : decode y_law.2.1 797 = .ok (.invokevirtual 101, 3) := op_invokevirtual (gk (k := 768) (t := 29) ck_law_24 rfl) (gk (k := 768) (t := 30) ck_law_24 rfl) (gk (k := 768) (t := 31) ck_law_24 rfl) rfl
theorem ck_law_25 : (y_law.2.1.data.toList.drop 800).take 32 = [87, 44, 42, 29, 4, 96, 46, 42, 29, 5, 96, 46, 182, 0, 104, 87, 167, 1, 156, 43, 42, 29, 4, 96, 46, 182, 0, 105, 87, 44, 42, 29] := by decide +kernel
theorem dw_800 : decode y_law.2.1 800 = .ok (.pop, 1) := op_pop (gk (k := 800) (t := 0) ck_law_25 rfl)
theorem dw_801 : decode y_law.2.1 801 = .ok (.aload_n 2, 1) := op_aload_n2 (gk (k := 800) (t := 1) ck_law_25 rfl)
theorem dw_802 : decode y_law.2.1 802 = .ok (.aload_n 0, 1) := op_aload_n0 (gk (k := 800) (t := 2) ck_law_25 rfl)
theorem dw_803 : decode y_law.2.1 803 = .ok (.iload_n 3, 1) := op_iload_n3 (gk (k := 800) (t := 3) ck_law_25 rfl)
theorem dw_804 : decode y_law.2.1 804 = .ok (.iconst 1, 1) := op_iconst1 (gk (k := 800) (t := 4) ck_law_25 rfl)
theorem dw_805 : decode y_law.2.1 805 = .ok (.iadd, 1) := op_iadd (gk (k := 800) (t := 5) ck_law_25 rfl)
theorem dw_806 : decode y_law.2.1 806 = .ok (.iaload, 1) := op_iaload (gk (k := 800) (t := 6) ck_law_25 rfl)
theorem dw_807 : decode y_law.2.1 807 = .ok (.aload_n 0, 1) := op_aload_n0 (gk (k := 800) (t := 7) ck_law_25 rfl)
theorem dw_808 : decode y_law.2.1 808 = .ok (.iload_n 3, 1) := op_iload_n3 (gk (k := 800) (t := 8) ck_law_25 rfl)
theorem dw_809 : decode y_law.2.1 809 = .ok (.iconst 2, 1) := op_iconst2 (gk (k := 800) (t := 9) ck_law_25 rfl)
theorem dw_810 : decode y_law.2.1 810 = .ok (.iadd, 1) := op_iadd (gk (k := 800) (t := 10) ck_law_25 rfl)
theorem dw_811 : decode y_law.2.1 811 = .ok (.iaload, 1) := op_iaload (gk (k := 800) (t := 11) ck_law_25 rfl)
theorem dw_812 : decode y_law.2.1 812 = .ok (.invokevirtual 104, 3) := op_invokevirtual (gk (k := 800) (t := 12) ck_law_25 rfl) (gk (k := 800) (t := 13) ck_law_25 rfl) (gk (k := 800) (t := 14) ck_law_25 rfl) rfl
theorem dw_815 : decode y_law.2.1 815 = .ok (.pop, 1) := op_pop (gk (k := 800) (t := 15) ck_law_25 rfl)
theorem dw_816 : decode y_law.2.1 816 = .ok (.goto 412, 3) := op_goto (gk (k := 800) (t := 16) ck_law_25 rfl) (gk (k := 800) (t := 17) ck_law_25 rfl) (gk (k := 800) (t := 18) ck_law_25 rfl) (by decide +kernel)
theorem dw_819 : decode y_law.2.1 819 = .ok (.aload_n 1, 1) := op_aload_n1 (gk (k := 800) (t := 19) ck_law_25 rfl)
theorem dw_820 : decode y_law.2.1 820 = .ok (.aload_n 0, 1) := op_aload_n0 (gk (k := 800) (t := 20) ck_law_25 rfl)
theorem dw_821 : decode y_law.2.1 821 = .ok (.iload_n 3, 1) := op_iload_n3 (gk (k := 800) (t := 21) ck_law_25 rfl)
theorem dw_822 : decode y_law.2.1 822 = .ok (.iconst 1, 1) := op_iconst1 (gk (k := 800) (t := 22) ck_law_25 rfl)
theorem dw_823 : decode y_law.2.1 823 = .ok (.iadd, 1) := op_iadd (gk (k := 800) (t := 23) ck_law_25 rfl)
theorem dw_824 : decode y_law.2.1 824 = .ok (.iaload, 1) := op_iaload (gk (k := 800) (t := 24) ck_law_25 rfl)
theorem dw_825 : decode y_law.2.1 825 = .ok (.invokevirtual 105, 3) := op_invokevirtual (gk (k := 800) (t := 25) ck_law_25 rfl) (gk (k := 800) (t := 26) ck_law_25 rfl) (gk (k := 800) (t := 27) ck_law_25 rfl) rfl
theorem dw_828 : decode y_law.2.1 828 = .ok (.pop, 1) := op_pop (gk (k := 800) (t := 28) ck_law_25 rfl)
theorem dw_829 : decode y_law.2.1 829 = .ok (.aload_n 2, 1) := op_aload_n2 (gk (k := 800) (t := 29) ck_law_25 rfl)
theorem dw_830 : decode y_law.2.1 830 = .ok (.aload_n 0, 1) := op_aload_n0 (gk (k := 800) (t := 30) ck_law_25 rfl)
theorem dw_831 : decode y_law.2.1 831 = .ok (.iload_n 3, 1) := op_iload_n3 (gk (k := 800) (t := 31) ck_law_25 rfl)
theorem ck_law_26 : (y_law.2.1.data.toList.drop 832).take 32 = [4, 96, 46, 182, 0, 108, 87, 167, 1, 133, 43, 42, 29, 4, 96, 46, 42, 29, 5, 96, 46, 42, 29, 6, 96, 46, 42, 29, 7, 96, 46, 42] := by decide +kernel
theorem dw_832 : decode y_law.2.1 832 = .ok (.iconst 1, 1) := op_iconst1 (gk (k := 832) (t := 0) ck_law_26 rfl)
theorem dw_833 : decode y_law.2.1 833 = .ok (.iadd, 1) := op_iadd (gk (k := 832) (t := 1) ck_law_26 rfl)
theorem dw_834 : decode y_law.2.1 834 = .ok (.iaload, 1) := op_iaload (gk (k := 832) (t := 2) ck_law_26 rfl)
theorem dw_835 : decode y_law.2.1 835 = .ok (.invokevirtual 108, 3) := op_invokevirtual (gk (k := 832) (t := 3) ck_law_26 rfl) (gk (k := 832) (t := 4) ck_law_26 rfl) (gk (k := 832) (t := 5) ck_law_26 rfl) rfl
theorem dw_838 : decode y_law.2.1 838 = .ok (.pop, 1) := op_pop (gk (k := 832) (t := 6) ck_law_26 rfl)
theorem dw_839 : decode y_law.2.1 839 = .ok (.goto 389, 3) := op_goto (gk (k := 832) (t := 7) ck_law_26 rfl) (gk (k := 832) (t := 8) ck_law_26 rfl) (gk (k := 832) (t := 9) ck_law_26 rfl) (by decide +kernel)
theorem dw_842 : decode y_law.2.1 842 = .ok (.aload_n 1, 1) := op_aload_n1 (gk (k := 832) (t := 10) ck_law_26 rfl)
theorem dw_843 : decode y_law.2.1 843 = .ok (.aload_n 0, 1) := op_aload_n0 (gk (k := 832) (t := 11) ck_law_26 rfl)
theorem dw_844 : decode y_law.2.1 844 = .ok (.iload_n 3, 1) := op_iload_n3 (gk (k := 832) (t := 12) ck_law_26 rfl)
theorem dw_845 : decode y_law.2.1 845 = .ok (.iconst 1, 1) := op_iconst1 (gk (k := 832) (t := 13) ck_law_26 rfl)
theorem dw_846 : decode y_law.2.1 846 = .ok (.iadd, 1) := op_iadd (gk (k := 832) (t := 14) ck_law_26 rfl)
theorem dw_847 : decode y_law.2.1 847 = .ok (.iaload, 1) := op_iaload (gk (k := 832) (t := 15) ck_law_26 rfl)
theorem dw_848 : decode y_law.2.1 848 = .ok (.aload_n 0, 1) := op_aload_n0 (gk (k := 832) (t := 16) ck_law_26 rfl)
theorem dw_849 : decode y_law.2.1 849 = .ok (.iload_n 3, 1) := op_iload_n3 (gk (k := 832) (t := 17) ck_law_26 rfl)
theorem dw_850 : decode y_law.2.1 850 = .ok (.iconst 2, 1) := op_iconst2 (gk (k := 832) (t := 18) ck_law_26 rfl)
theorem dw_851 : decode y_law.2.1 851 = .ok (.iadd, 1) := op_iadd (gk (k := 832) (t := 19) ck_law_26 rfl)
theorem dw_852 : decode y_law.2.1 852 = .ok (.iaload, 1) := op_iaload (gk (k := 832) (t := 20) ck_law_26 rfl)
theorem dw_853 : decode y_law.2.1 853 = .ok (.aload_n 0, 1) := op_aload_n0 (gk (k := 832) (t := 21) ck_law_26 rfl)
theorem dw_854 : decode y_law.2.1 854 = .ok (.iload_n 3, 1) := op_iload_n3 (gk (k := 832) (t := 22) ck_law_26 rfl)
theorem dw_855 : decode y_law.2.1 855 = .ok (.iconst 3, 1) := op_iconst3 (gk (k := 832) (t := 23) ck_law_26 rfl)
theorem dw_856 : decode y_law.2.1 856 = .ok (.iadd, 1) := op_iadd (gk (k := 832) (t := 24) ck_law_26 rfl)
theorem dw_857 : decode y_law.2.1 857 = .ok (.iaload, 1) := op_iaload (gk (k := 832) (t := 25) ck_law_26 rfl)
theorem dw_858 : decode y_law.2.1 858 = .ok (.aload_n 0, 1) := op_aload_n0 (gk (k := 832) (t := 26) ck_law_26 rfl)
theorem dw_859 : decode y_law.2.1 859 = .ok (.iload_n 3, 1) := op_iload_n3 (gk (k := 832) (t := 27) ck_law_26 rfl)
theorem dw_860 : decode y_law.2.1 860 = .ok (.iconst 4, 1) := op_iconst4 (gk (k := 832) (t := 28) ck_law_26 rfl)
theorem dw_861 : decode y_law.2.1 861 = .ok (.iadd, 1) := op_iadd (gk (k := 832) (t := 29) ck_law_26 rfl)
theorem dw_862 : decode y_law.2.1 862 = .ok (.iaload, 1) := op_iaload (gk (k := 832) (t := 30) ck_law_26 rfl)
theorem dw_863 : decode y_law.2.1 863 = .ok (.aload_n 0, 1) := op_aload_n0 (gk (k := 832) (t := 31) ck_law_26 rfl)
theorem ck_law_27 : (y_law.2.1.data.toList.drop 864).take 32 = [29, 8, 96, 46, 182, 0, 109, 87, 44, 42, 29, 4, 96, 46, 42, 29, 5, 96, 46, 42, 29, 6, 96, 46, 42, 29, 7, 96, 46, 42, 29, 8] := by decide +kernel
theorem dw_864 : decode y_law.2.1 864 = .ok (.iload_n 3, 1) := op_iload_n3 (gk (k := 864) (t := 0) ck_law_27 rfl)
theorem dw_865 : decode y_law.2.1 865 = .ok (.iconst 5, 1) := op_iconst5 (gk (k := 864) (t := 1) ck_law_27 rfl)
theorem dw_866 : decode y_law.2.1 866 = .ok (.iadd, 1) := op_iadd (gk (k := 864) (t := 2) ck_law_27 rfl)
theorem dw_867 : decode y_law.2.1 867 = .ok (.iaload, 1) := op_iaload (gk (k := 864) (t := 3) ck_law_27 rfl)
theorem dw_868 : decode y_law.2.1 868 = .ok (.invokevirtual 109, 3) := op_invokevirtual (gk (k := 864) (t := 4) ck_law_27 rfl) (gk (k := 864) (t := 5) ck_law_27 rfl) (gk (k := 864) (t := 6) ck_law_27 rfl) rfl
theorem dw_871 : decode y_law.2.1 871 = .ok (.pop, 1) := op_pop (gk (k := 864) (t := 7) ck_law_27 rfl)
theorem dw_872 : decode y_law.2.1 872 = .ok (.aload_n 2, 1) := op_aload_n2 (gk (k := 864) (t := 8) ck_law_27 rfl)
theorem dw_873 : decode y_law.2.1 873 = .ok (.aload_n 0, 1) := op_aload_n0 (gk (k := 864) (t := 9) ck_law_27 rfl)
theorem dw_874 : decode y_law.2.1 874 = .ok (.iload_n 3, 1) := op_iload_n3 (gk (k := 864) (t := 10) ck_law_27 rfl)
theorem dw_875 : decode y_law.2.1 875 = .ok (.iconst 1, 1) := op_iconst1 (gk (k := 864) (t := 11) ck_law_27 rfl)
theorem dw_876 : decode y_law.2.1 876 = .ok (.iadd, 1) := op_iadd (gk (k := 864) (t := 12) ck_law_27 rfl)
theorem dw_877 : decode y_law.2.1 877 = .ok (.iaload, 1) := op_iaload (gk (k := 864) (t := 13) ck_law_27 rfl)
theorem dw_878 : decode y_law.2.1 878 = .ok (.aload_n 0, 1) := op_aload_n0 (gk (k := 864) (t := 14) ck_law_27 rfl)
theorem dw_879 : decode y_law.2.1 879 = .ok (.iload_n 3, 1) := op_iload_n3 (gk (k := 864) (t := 15) ck_law_27 rfl)
theorem dw_880 : decode y_law.2.1 880 = .ok (.iconst 2, 1) := op_iconst2 (gk (k := 864) (t := 16) ck_law_27 rfl)
theorem dw_881 : decode y_law.2.1 881 = .ok (.iadd, 1) := op_iadd (gk (k := 864) (t := 17) ck_law_27 rfl)
theorem dw_882 : decode y_law.2.1 882 = .ok (.iaload, 1) := op_iaload (gk (k := 864) (t := 18) ck_law_27 rfl)
theorem dw_883 : decode y_law.2.1 883 = .ok (.aload_n 0, 1) := op_aload_n0 (gk (k := 864) (t := 19) ck_law_27 rfl)
theorem dw_884 : decode y_law.2.1 884 = .ok (.iload_n 3, 1) := op_iload_n3 (gk (k := 864) (t := 20) ck_law_27 rfl)
theorem dw_885 : decode y_law.2.1 885 = .ok (.iconst 3, 1) := op_iconst3 (gk (k := 864) (t := 21) ck_law_27 rfl)
theorem dw_886 : decode y_law.2.1 886 = .ok (.iadd, 1) := op_iadd (gk (k := 864) (t := 22) ck_law_27 rfl)
theorem dw_887 : decode y_law.2.1 887 = .ok (.iaload, 1) := op_iaload (gk (k := 864) (t := 23) ck_law_27 rfl)
theorem dw_888 : decode y_law.2.1 888 = .ok (.aload_n 0, 1) := op_aload_n0 (gk (k := 864) (t := 24) ck_law_27 rfl)
theorem dw_889 : decode y_law.2.1 889 = .ok (.iload_n 3, 1) := op_iload_n3 (gk (k := 864) (t := 25) ck_law_27 rfl)
theorem dw_890 : decode y_law.2.1 890 = .ok (.iconst 4, 1) := op_iconst4 (gk (k := 864) (t := 26) ck_law_27 rfl)
theorem dw_891 : decode y_law.2.1 891 = .ok (.iadd, 1) := op_iadd (gk (k := 864) (t := 27) ck_law_27 rfl)
theorem dw_892 : decode y_law.2.1 892 = .ok (.iaload, 1) := op_iaload (gk (k := 864) (t := 28) ck_law_27 rfl)
theorem dw_893 : decode y_law.2.1 893 = .ok (.aload_n 0, 1) := op_aload_n0 (gk (k := 864) (t := 29) ck_law_27 rfl)
theorem dw_894 : decode y_law.2.1 894 = .ok (.iload_n 3, 1) := op_iload_n3 (gk (k := 864) (t := 30) ck_law_27 rfl)
theorem dw_895 : decode y_law.2.1 895 = .ok (.iconst 5, 1) := op_iconst5 (gk (k := 864) (t := 31) ck_law_27 rfl)
theorem ck_law_28 : (y_law.2.1.data.toList.drop 896).take 32 = [96, 46, 182, 0, 112, 87, 167, 1, 70, 43, 42, 29, 4, 96, 46, 42, 29, 5, 96, 46, 182, 0, 113, 87, 44, 42, 29, 4, 96, 46, 42, 29] := by decide +kernel
theorem dw_896 : decode y_law.2.1 896 = .ok (.iadd, 1) := op_iadd (gk (k := 896) (t := 0) ck_law_28 rfl)
theorem dw_897 : decode y_law.2.1 897 = .ok (.iaload, 1) := op_iaload (gk (k := 896) (t := 1) ck_law_28 rfl)
theorem dw_898 : decode y_law.2.1 898 = .ok (.invokevirtual 112, 3) := op_invokevirtual (gk (k := 896) (t := 2) ck_law_28 rfl) (gk (k := 896) (t := 3) ck_law_28 rfl) (gk (k := 896) (t := 4) ck_law_28 rfl) rfl
theorem dw_901 : decode y_law.2.1 901 = .ok (.pop, 1) := op_pop (gk (k := 896) (t := 5) ck_law_28 rfl)
theorem dw_902 : decode y_law.2.1 902 = .ok (.goto 326, 3) := op_goto (gk (k := 896) (t := 6) ck_law_28 rfl) (gk (k := 896) (t := 7) ck_law_28 rfl) (gk (k := 896) (t := 8) ck_law_28 rfl) (by decide +kernel)
theorem dw_905 : decode y_law.2.1 905 = .ok (.aload_n 1, 1) := op_aload_n1 (gk (k := 896) (t := 9) ck_law_28 rfl)
theorem dw_906 : decode y_law.2.1 906 = .ok (.aload_n 0, 1) := op_aload_n0 (gk (k := 896) (t := 10) ck_law_28 rfl)
theorem dw_907 : decode y_law.2.1 907 = .ok (.iload_n 3, 1) := op_iload_n3 (gk (k := 896) (t := 11) ck_law_28 rfl)
theorem dw_908 : decode y_law.2.1 908 = .ok (.iconst 1, 1) := op_iconst1 (gk (k := 896) (t := 12) ck_law_28 rfl)
theorem dw_909 : decode y_law.2.1 909 = .ok (.iadd, 1) := op_iadd (gk (k := 896) (t := 13) ck_law_28 rfl)
theorem dw_910 : decode y_law.2.1 910 = .ok (.iaload, 1) := op_iaload (gk (k := 896) (t := 14) ck_law_28 rfl)
theorem dw_911 : decode y_law.2.1 911 = .ok (.aload_n 0, 1) := op_aload_n0 (gk (k := 896) (t := 15) ck_law_28 rfl)
theorem dw_912 : decode y_law.2.1 912 = .ok (.iload_n 3, 1) := op_iload_n3 (gk (k := 896) (t := 16) ck_law_28 rfl)
theorem dw_913 : decode y_law.2.1 913 = .ok (.iconst 2, 1) := op_iconst2 (gk (k := 896) (t := 17) ck_law_28 rfl)
theorem dw_914 : decode y_law.2.1 914 = .ok (.iadd, 1) := op_iadd (gk (k := 896) (t := 18) ck_law_28 rfl)
theorem dw_915 : decode y_law.2.1 915 = .ok (.iaload, 1) := op_iaload (gk (k := 896) (t := 19) ck_law_28 rfl)
theorem dw_916 : decode y_law.2.1 916 = .ok (.invokevirtual 113, 3) := op_invokevirtual (gk (k := 896) (t := 20) ck_law_28 rfl) (gk (k := 896) (t := 21) ck_law_28 rfl) (gk (k := 896) (t := 22) ck_law_28 rfl) rfl
theorem dw_919 : decode y_law.2.1 919 = .ok (.pop, 1) := op_pop (gk (k := 896) (t := 23) ck_law_28 rfl)
theorem dw_920 : decode y_law.2.1 920 = .ok (.aload_n 2, 1) := op_aload_n2 (gk (k := 896) (t := 24) ck_law_28 rfl)
theorem dw_921 : decode y_law.2.1 921 = .ok (.aload_n 0, 1) := op_aload_n0 (gk (k := 896) (t := 25) ck_law_28 rfl)
theorem dw_922 : decode y_law.2.1 922 = .ok (.iload_n 3, 1) := op_iload_n3 (gk (k := 896) (t := 26) ck_law_28 rfl)
theorem dw_923 : decode y_law.2.1 923 = .ok (.iconst 1, 1) := op_iconst1 (gk (k := 896) (t := 27) ck_law_28 rfl)
theorem dw_924 : decode y_law.2.1 924 = .ok (.iadd, 1) := op_iadd (gk (k := 896) (t := 28) ck_law_28 rfl)
theorem dw_925 : decode y_law.2.1 925 = .ok (.iaload, 1) := op_iaload (gk (k := 896) (t := 29) ck_law_28 rfl)
theorem dw_926 : decode y_law.2.1 926 = .ok (.aload_n 0, 1) := op_aload_n0 (gk (k := 896) (t := 30) ck_law_28 rfl)
theorem dw_927 : decode y_law.2.1 927 = .ok (.iload_n 3, 1) := op_iload_n3 (gk (k := 896) (t := 31) ck_law_28 rfl)
theorem ck_law_29 : (y_law.2.1.data.toList.drop 928).take 32 = [5, 96, 46, 182, 0, 116, 87, 167, 1, 37, 43, 42, 29, 4, 96, 46, 42, 29, 5, 96, 46, 182, 0, 117, 87, 44, 42, 29, 4, 96, 46, 42] := by decide +kernel
theorem dw_928 : decode y_law.2.1 928 = .ok (.iconst 2, 1) := op_iconst2 (gk (k := 928) (t := 0) ck_law_29 rfl)
theorem dw_929 : decode y_law.2.1 929 = .ok (.iadd, 1) := op_iadd (gk (k := 928) (t := 1) ck_law_29 rfl)
theorem dw_930 : decode y_law.2.1 930 = .ok (.iaload, 1) := op_iaload (gk (k := 928) (t := 2) ck_law_29 rfl)
theorem dw_931 : decode y_law.2.1 931 = .ok (.invokevirtual 116, 3) := op_invokevirtual (gk (k := 928) (t := 3) ck_law_29 rfl) (gk (k := 928) (t := 4) ck_law_29 rfl) (gk (k := 928) (t := 5) ck_law_29 rfl) rfl
theorem dw_934 : decode y_law.2.1 934 = .ok (.pop, 1) := op_pop (gk (k := 928) (t := 6) ck_law_29 rfl)
theorem dw_935 : decode y_law.2.1 935 = .ok (.goto 293, 3) := op_goto (gk (k := 928) (t := 7) ck_law_29 rfl) (gk (k := 928) (t := 8) ck_law_29 rfl) (gk (k := 928) (t := 9) ck_law_29 rfl) (by decide +kernel)
theorem dw_938 : decode y_law.2.1 938 = .ok (.aload_n 1, 1) := op_aload_n1 (gk (k := 928) (t := 10) ck_law_29 rfl)
theorem dw_939 : decode y_law.2.1 939 = .ok (.aload_n 0, 1) := op_aload_n0 (gk (k := 928) (t := 11) ck_law_29 rfl)
theorem dw_940 : decode y_law.2.1 940 = .ok (.iload_n 3, 1) := op_iload_n3 (gk (k := 928) (t := 12) ck_law_29 rfl)
theorem dw_941 : decode y_law.2.1 941 = .ok (.iconst 1, 1) := op_iconst1 (gk (k := 928) (t := 13) ck_law_29 rfl)
theorem dw_942 : decode y_law.2.1 942 = .ok (.iadd, 1) := op_iadd (gk (k := 928) (t := 14) ck_law_29 rfl)
theorem dw_943 : decode y_law.2.1 943 = .ok (.iaload, 1) := op_iaload (gk (k := 928) (t := 15) ck_law_29 rfl)
theorem dw_944 : decode y_law.2.1 944 = .ok (.aload_n 0, 1) := op_aload_n0 (gk (k := 928) (t := 16) ck_law_29 rfl)
theorem dw_945 : decode y_law.2.1 945 = .ok (.iload_n 3, 1) := op_iload_n3 (gk (k := 928) (t := 17) ck_law_29 rfl)
theorem dw_946 : decode y_law.2.1 946 = .ok (.iconst 2, 1) := op_iconst2 (gk (k := 928) (t := 18) ck_law_29 rfl)
theorem dw_947 : decode y_law.2.1 947 = .ok (.iadd, 1) := op_iadd (gk (k := 928) (t := 19) ck_law_29 rfl)
theorem dw_948 : decode y_law.2.1 948 = .ok (.iaload, 1) := op_iaload (gk (k := 928) (t := 20) ck_law_29 rfl)
theorem dw_949 : decode y_law.2.1 949 = .ok (.invokevirtual 117, 3) := op_invokevirtual (gk (k := 928) (t := 21) ck_law_29 rfl) (gk (k := 928) (t := 22) ck_law_29 rfl) (gk (k := 928) (t := 23) ck_law_29 rfl) rfl
theorem dw_952 : decode y_law.2.1 952 = .ok (.pop, 1) := op_pop (gk (k := 928) (t := 24) ck_law_29 rfl)
theorem dw_953 : decode y_law.2.1 953 = .ok (.aload_n 2, 1) := op_aload_n2 (gk (k := 928) (t := 25) ck_law_29 rfl)
theorem dw_954 : decode y_law.2.1 954 = .ok (.aload_n 0, 1) := op_aload_n0 (gk (k := 928) (t := 26) ck_law_29 rfl)
theorem dw_955 : decode y_law.2.1 955 = .ok (.iload_n 3, 1) := op_iload_n3 (gk (k := 928) (t := 27) ck_law_29 rfl)
theorem dw_956 : decode y_law.2.1 956 = .ok (.iconst 1, 1) := op_iconst1 (gk (k := 928) (t := 28) ck_law_29 rfl)
theorem dw_957 : decode y_law.2.1 957 = .ok (.iadd, 1) := op_iadd (gk (k := 928) (t := 29) ck_law_29 rfl)
theorem dw_958 : decode y_law.2.1 958 = .ok (.iaload, 1) := op_iaload (gk (k := 928) (t := 30) ck_law_29 rfl)
theorem dw_959 : decode y_law.2.1 959 = .ok (.aload_n 0, 1) := op_aload_n0 (gk (k := 928) (t := 31) ck_law_29 rfl)
theorem ck_law_30 : (y_law.2.1.data.toList.drop 960).take 32 = [29, 5, 96, 46, 182, 0, 120, 87, 167, 1, 4, 43, 42, 29, 4, 96, 46, 42, 29, 5, 96, 46, 42, 29, 6, 96, 46, 42, 29, 7, 96, 46] := by decide +kernel
theorem dw_960 : decode y_law.2.1 960 = .ok (.iload_n 3, 1) := op_iload_n3 (gk (k := 960) (t := 0) ck_law_30 rfl)
theorem dw_961 : decode y_law.2.1 961 = .ok (.iconst 2, 1) := op_iconst2 (gk (k := 960) (t := 1) ck_law_30 rfl)
theorem dw_962 : decode y_law.2.1 962 = .ok (.iadd, 1) := op_iadd (gk (k := 960) (t := 2) ck_law_30 rfl)
theorem dw_963 : decode y_law.2.1 963 = .ok (.iaload, 1) := op_iaload (gk (k := 960) (t := 3) ck_law_30 rfl)
theorem dw_964 : decode y_law.2.1 964 = .ok (.invokevirtual 120, 3) := op_invokevirtual (gk (k := 960) (t := 4) ck_law_30 rfl) (gk (k := 960) (t := 5) ck_law_30 rfl) (gk (k := 960) (t := 6) ck_law_30 rfl) rfl
theorem dw_967 : decode y_law.2.1 967 = .ok (.pop, 1) := op_pop (gk (k := 960) (t := 7) ck_law_30 rfl)
theorem dw_968 : decode y_law.2.1 968 = .ok (.goto 260, 3) := op_goto (gk (k := 960) (t := 8) ck_law_30 rfl) (gk (k := 960) (t := 9) ck_law_30 rfl) (gk (k := 960) (t := 10) ck_law_30 rfl) (by decide +kernel)
theorem dw_971 : decode y_law.2.1 971 = .ok (.aload_n 1, 1) := op_aload_n1 (gk (k := 960) (t := 11) ck_law_30 rfl)
theorem dw_972 : decode y_law.2.1 972 = .ok (.aload_n 0, 1) := op_aload_n0 (gk (k := 960) (t := 12) ck_law_30 rfl)
theorem dw_973 : decode y_law.2.1 973 = .ok (.iload_n 3, 1) := op_iload_n3 (gk (k := 960) (t := 13) ck_law_30 rfl)
theorem dw_974 : decode y_law.2.1 974 = .ok (.iconst 1, 1) := op_iconst1 (gk (k := 960) (t := 14) ck_law_30 rfl)
theorem dw_975 : decode y_law.2.1 975 = .ok (.iadd, 1) := op_iadd (gk (k := 960) (t := 15) ck_law_30 rfl)
theorem dw_976 : decode y_law.2.1 976 = .ok (.iaload, 1) := op_iaload (gk (k := 960) (t := 16) ck_law_30 rfl)
theorem dw_977 : decode y_law.2.1 977 = .ok (.aload_n 0, 1) := op_aload_n0 (gk (k := 960) (t := 17) ck_law_30 rfl)
theorem dw_978 : decode y_law.2.1 978 = .ok (.iload_n 3, 1) := op_iload_n3 (gk (k := 960) (t := 18) ck_law_30 rfl)
theorem dw_979 : decode y_law.2.1 979 = .ok (.iconst 2, 1) := op_iconst2 (gk (k := 960) (t := 19) ck_law_30 rfl)
theorem dw_980 : decode y_law.2.1 980 = .ok (.iadd, 1) := op_iadd (gk (k := 960) (t := 20) ck_law_30 rfl)
theorem dw_981 : decode y_law.2.1 981 = .ok (.iaload, 1) := op_iaload (gk (k := 960) (t := 21) ck_law_30 rfl)
theorem dw_982 : decode y_law.2.1 982 = .ok (.aload_n 0, 1) := op_aload_n0 (gk (k := 960) (t := 22) ck_law_30 rfl)
theorem dw_983 : decode y_law.2.1 983 = .ok (.iload_n 3, 1) := op_iload_n3 (gk (k := 960) (t := 23) ck_law_30 rfl)
theorem dw_984 : decode y_law.2.1 984 = .ok (.iconst 3, 1) := op_iconst3 (gk (k := 960) (t := 24) ck_law_30 rfl)
theorem dw_985 : decode y_law.2.1 985 = .ok (.iadd, 1) := op_iadd (gk (k := 960) (t := 25) ck_law_30 rfl)
theorem dw_986 : decode y_law.2.1 986 = .ok (.iaload, 1) := op_iaload (gk (k := 960) (t := 26) ck_law_30 rfl)
theorem dw_987 : decode y_law.2.1 987 = .ok (.aload_n 0, 1) := op_aload_n0 (gk (k := 960) (t := 27) ck_law_30 rfl)
theorem dw_988 : decode y_law.2.1 988 = .ok (.iload_n 3, 1) := op_iload_n3 (gk (k := 960) (t := 28) ck_law_30 rfl)
theorem dw_989 : decode y_law.2.1 989 = .ok (.iconst 4, 1) := op_iconst4 (gk (k := 960) (t := 29) ck_law_30 rfl)
theorem dw_990 : decode y_law.2.1 990 = .ok (.iadd, 1) := op_iadd (gk (k := 960) (t := 30) ck_law_30 rfl)
theorem dw_991 : decode y_law.2.1 991 = .ok (.iaload, 1) := op_iaload (gk (k := 960) (t := 31) ck_law_30 rfl)
theorem ck_law_31 : (y_law.2.1.data.toList.drop 992).take 32 = [42, 29, 8, 96, 46, 182, 0, 121, 44, 42, 29, 4, 96, 46, 42, 29, 5, 96, 46, 42, 29, 6, 96, 46, 42, 29, 7, 96, 46, 42, 29, 8] := by decide +kernel
theorem dw_992 : decode y_law.2.1 992 = .ok (.aload_n 0, 1) := op_aload_n0 (gk (k := 992) (t := 0) ck_law_31 rfl)
theorem dw_993 : decode y_law.2.1 993 = .ok (.iload_n 3, 1) := op_iload_n3 (gk (k := 992) (t := 1) ck_law_31 rfl)
theorem dw_994 : decode y_law.2.1 994 = .ok (.iconst 5, 1) := op_iconst5 (gk (k := 992) (t := 2) ck_law_31 rfl)
theorem dw_995 : decode y_law.2.1 995 = .ok (.iadd, 1) := op_iadd (gk (k := 992) (t := 3) ck_law_31 rfl)
theorem dw_996 : decode y_law.2.1 996 = .ok (.iaload, 1) := op_iaload (gk (k := 992) (t := 4) ck_law_31 rfl)
theorem dw_997 : decode y_law.2.1 997 = .ok (.invokevirtual 121, 3) := op_invokevirtual (gk (k := 992) (t := 5) ck_law_31 rfl) (gk (k := 992) (t := 6) ck_law_31 rfl) (gk (k := 992) (t := 7) ck_law_31 rfl) rfl
theorem dw_1000 : decode y_law.2.1 1000 = .ok (.aload_n 2, 1) := op_aload_n2 (gk (k := 992) (t := 8) ck_law_31 rfl)
theorem dw_1001 : decode y_law.2.1 1001 = .ok (.aload_n 0, 1) := op_aload_n0 (gk (k := 992) (t := 9) ck_law_31 rfl)
theorem dw_1002 : decode y_law.2.1 1002 = .ok (.iload_n 3, 1) := op_iload_n3 (gk (k := 992) (t := 10) ck_law_31 rfl)
theorem dw_1003 : decode y_law.2.1 1003 = .ok (.iconst 1, 1) := op_iconst1 (gk (k := 992) (t := 11) ck_law_31 rfl)
theorem dw_1004 : decode y_law.2.1 1004 = .ok (.iadd, 1) := op_iadd (gk (k := 992) (t := 12) ck_law_31 rfl)
theorem dw_1005 : decode y_law.2.1 1005 = .ok (.iaload, 1) := op_iaload (gk (k := 992) (t := 13) ck_law_31 rfl)
theorem dw_1006 : decode y_law.2.1 1006 = .ok (.aload_n 0, 1) := op_aload_n0 (gk (k := 992) (t := 14) ck_law_31 rfl)
theorem dw_1007 : decode y_law.2.1 1007 = .ok (.iload_n 3, 1) := op_iload_n3 (gk (k := 992) (t := 15) ck_law_31 rfl)
theorem dw_1008 : decode y_law.2.1 1008 = .ok (.iconst 2, 1) := op_iconst2 (gk (k := 992) (t := 16) ck_law_31 rfl)
theorem dw_1009 : decode y_law.2.1 1009 = .ok (.iadd, 1) := op_iadd (gk (k := 992) (t := 17) ck_law_31 rfl)
theorem dw_1010 : decode y_law.2.1 1010 = .ok (.iaload, 1) := op_iaload (gk (k := 992) (t := 18) ck_law_31 rfl)
theorem dw_1011 : decode y_law.2.1 1011 = .ok (.aload_n 0, 1) := op_aload_n0 (gk (k := 992) (t := 19) ck_law_31 rfl)
theorem dw_1012 : decode y_law.2.1 1012 = .ok (.iload_n 3, 1) := op_iload_n3 (gk (k := 992) (t := 20) ck_law_31 rfl)
theorem dw_1013 : decode y_law.2.1 1013 = .ok (.iconst 3, 1) := op_iconst3 (gk (k := 992) (t := 21) ck_law_31 rfl)
theorem dw_1014 : decode y_law.2.1 1014 = .ok (.iadd, 1) := op_iadd (gk (k := 992) (t := 22) ck_law_31 rfl)
theorem dw_1015 : decode y_law.2.1 1015 = .ok (.iaload, 1) := op_iaload (gk (k := 992) (t := 23) ck_law_31 rfl)
theorem dw_1016 : decode y_law.2.1 1016 = .ok (.aload_n 0, 1) := op_aload_n0 (gk (k := 992) (t := 24) ck_law_31 rfl)
theorem dw_1017 : decode y_law.2.1 1017 = .ok (.iload_n 3, 1) := op_iload_n3 (gk (k := 992) (t := 25) ck_law_31 rfl)
theorem dw_1018 : decode y_law.2.1 1018 = .ok (.iconst 4, 1) := op_iconst4 (gk (k := 992) (t := 26) ck_law_31 rfl)
theorem dw_1019 : decode y_law.2.1 1019 = .ok (.iadd, 1) := op_iadd (gk (k := 992) (t := 27) ck_law_31 rfl)
theorem dw_1020 : decode y_law.2.1 1020 = .ok (.iaload, 1) := op_iaload (gk (k := 992) (t := 28) ck_law_31 rfl)
theorem dw_1021 : decode y_law.2.1 1021 = .ok (.aload_n 0, 1) := op_aload_n0 (gk (k := 992) (t := 29) ck_law_31 rfl)
theorem dw_1022 : decode y_law.2.1 1022 = .ok (.iload_n 3, 1) := op_iload_n3 (gk (k := 992) (t := 30) ck_law_31 rfl)
theorem dw_1023 : decode y_law.2.1 1023 = .ok (.iconst 5, 1) := op_iconst5 (gk (k := 992) (t := 31) ck_law_31 rfl)
theorem ck_law_32 : (y_law.2.1.data.toList.drop 1024).take 32 = [96, 46, 182, 0, 124, 159, 0, 199, 3, 172, 43, 42, 29, 4, 96, 46, 182, 0, 125, 87, 44, 42, 29, 4, 96, 46, 182, 0, 128, 87, 167, 0] := by decide +kernel
theorem dw_1024 : decode y_law.2.1 1024 = .ok (.iadd, 1) := op_iadd (gk (k := 1024) (t := 0) ck_law_32 rfl)
theorem dw_1025 : decode y_law.2.1 1025 = .ok (.iaload, 1) := op_iaload (gk (k := 1024) (t := 1) ck_law_32 rfl)
theorem dw_1026 : decode y_law.2.1 1026 = .ok (.invokevirtual 124, 3) := op_invokevirtual (gk (k := 1024) (t := 2) ck_law_32 rfl) (gk (k := 1024) (t := 3) ck_law_32 rfl) (gk (k := 1024) (t := 4) ck_law_32 rfl) rfl
theorem dw_1029 : decode y_law.2.1 1029 = .ok (.if_icmp .eq 199, 3) := op_icmp_eq (gk (k := 1024) (t := 5) ck_law_32 rfl) (gk (k := 1024) (t := 6) ck_law_32 rfl) (gk (k := 1024) (t := 7) ck_law_32 rfl) (by decide +kernel)
theorem dw_1034 : decode y_law.2.1 1034 = .ok (.aload_n 1, 1) := op_aload_n1 (gk (k := 1024) (t := 10) ck_law_32 rfl)
theorem dw_1035 : decode y_law.2.1 1035 = .ok (.aload_n 0, 1) := op_aload_n0 (gk (k := 1024) (t := 11) ck_law_32 rfl)
theorem dw_1036 : decode y_law.2.1 1036 = .ok (.iload_n 3, 1) := op_iload_n3 (gk (k := 1024) (t := 12) ck_law_32 rfl)
theorem dw_1037 : decode y_law.2.1 1037 = .ok (.iconst 1, 1) := op_iconst1 (gk (k := 1024) (t := 13) ck_law_32 rfl)
theorem dw_1038 : decode y_law.2.1 1038 = .ok (.iadd, 1) := op_iadd (gk (k := 1024) (t := 14) ck_law_32 rfl)
theorem dw_1039 : decode y_law.2.1 1039 = .ok (.iaload, 1) := op_iaload (gk (k := 1024) (t := 15) ck_law_32 rfl)
theorem dw_1040 : decode y_law.2.1 1040 = .ok (.invokevirtual 125, 3) := op_invokevirtual (gk (k := 1024) (t := 16) ck_law_32 rfl) (gk (k := 1024) (t := 17) ck_law_32 rfl) (gk (k := 1024) (t := 18) ck_law_32 rfl) rfl
theorem dw_1043 : decode y_law.2.1 1043 = .ok (.pop, 1) := op_pop (gk (k := 1024) (t := 19) ck_law_32 rfl)
theorem dw_1044 : decode y_law.2.1 1044 = .ok (.aload_n 2, 1) := op_aload_n2 (gk (k := 1024) (t := 20) ck_law_32 rfl)
theorem dw_1045 : decode y_law.2.1 1045 = .ok (.aload_n 0, 1) := op_aload_n0 (gk (k := 1024) (t := 21) ck_law_32 rfl)
theorem dw_1046 : decode y_law.2.1 1046 = .ok (.iload_n 3, 1) := op_iload_n3 (gk (k := 1024) (t := 22) ck_law_32 rfl)
theorem dw_1047 : decode y_law.2.1 1047 = .ok (.iconst 1, 1) := op_iconst1 (gk (k := 1024) (t := 23) ck_law_32 rfl)
theorem dw_1048 : decode y_law.2.1 1048 = .ok (.iadd, 1) := op_iadd (gk (k := 1024) (t := 24) ck_law_32 rfl)
theorem dw_1049 : decode y_law.2.1 1049 = .ok (.iaload, 1) := op_iaload (gk (k := 1024) (t := 25) ck_law_32 rfl)
theorem dw_1050 : decode y_law.2.1 1050 = .ok (.invokevirtual 128, 3) := op_invokevirtual (gk (k := 1024) (t := 26) ck_law_32 rfl) (gk (k := 1024) (t := 27) ck_law_32 rfl) (gk (k := 1024) (t := 28) ck_law_32 rfl) rfl
theorem dw_1053 : decode y_law.2.1 1053 = .ok (.pop, 1) := op_pop (gk (k := 1024) (t := 29) ck_law_32 rfl)
theorem ck_law_33 : (y_law.2.1.data.toList.drop 1056).take 32 = [174, 43, 42, 29, 4, 96, 46, 42, 29, 5, 96, 46, 182, 0, 129, 87, 44, 42, 29, 4, 96, 46, 42, 29, 5, 96, 46, 182, 0, 132, 87, 167] := by decide +kernel
theorem dw_1054 : decode y_law.2.1 1054 = .ok (.goto 174, 3) := op_goto (gk (k := 1024) (t := 30) ck_law_32 rfl) (gk (k := 1024) (t := 31) ck_law_32 rfl) (gk (k := 1056) (t := 0) ck_law_33 rfl) (by decide +kernel)
theorem dw_1057 : decode y_law.2.1 1057 = .ok (.aload_n 1, 1) := op_aload_n1 (gk (k := 1056) (t := 1) ck_law_33 rfl)
theorem dw_1058 : decode y_law.2.1 1058 = .ok (.aload_n 0, 1) := op_aload_n0 (gk (k := 1056) (t := 2) ck_law_33 rfl)
theorem dw_1059 : decode y_law.2.1 1059 = .ok (.iload_n 3, 1) := op_iload_n3 (gk (k := 1056) (t := 3) ck_law_33 rfl)
theorem dw_1060 : decode y_law.2.1 1060 = .ok (.iconst 1, 1) := op_iconst1 (gk (k := 1056) (t := 4) ck_law_33 rfl)
theorem dw_1061 : decode y_law.2.1 1061 = .ok (.iadd, 1) := op_iadd (gk (k := 1056) (t := 5) ck_law_33 rfl)
theorem dw_1062 : decode y_law.2.1 1062 = .ok (.iaload, 1) := op_iaload (gk (k := 1056) (t := 6) ck_law_33 rfl)
theorem dw_1063 : decode y_law.2.1 1063 = .ok (.aload_n 0, 1) := op_aload_n0 (gk (k := 1056) (t := 7) ck_law_33 rfl)
theorem dw_1064 : decode y_law.2.1 1064 = .ok (.iload_n 3, 1) := op_iload_n3 (gk (k := 1056) (t := 8) ck_law_33 rfl)
theorem dw_1065 : decode y_law.2.1 1065 = .ok (.iconst 2, 1) := op_iconst2 (gk (k := 1056) (t := 9) ck_law_33 rfl)
theorem dw_1066 : decode y_law.2.1 1066 = .ok (.iadd, 1) := op_iadd (gk (k := 1056) (t := 10) ck_law_33 rfl)
theorem dw_1067 : decode y_law.2.1 1067 = .ok (.iaload, 1) := op_iaload (gk (k := 1056) (t := 11) ck_law_33 rfl)
theorem dw_1068 : decode y_law.2.1 1068 = .ok (.invokevirtual 129, 3) := op_invokevirtual (gk (k := 1056) (t := 12) ck_law_33 rfl) (gk (k := 1056) (t := 13) ck_law_33 rfl) (gk (k := 1056) (t := 14) ck_law_33 rfl) rfl
theorem dw_1071 : decode y_law.2.1 1071 = .ok (.pop, 1) := op_pop (gk (k := 1056) (t := 15) ck_law_33 rfl)
theorem dw_1072 : decode y_law.2.1 1072 = .ok (.aload_n 2, 1) := op_aload_n2 (gk (k := 1056) (t := 16) ck_law_33 rfl)
theorem dw_1073 : decode y_law.2.1 1073 = .ok (.aload_n 0, 1) := op_aload_n0 (gk (k := 1056) (t := 17) ck_law_33 rfl)
theorem dw_1074 : decode y_law.2.1 1074 = .ok (.iload_n 3, 1) := op_iload_n3 (gk (k := 1056) (t := 18) ck_law_33 rfl)
theorem dw_1075 : decode y_law.2.1 1075 = .ok (.iconst 1, 1) := op_iconst1 (gk (k := 1056) (t := 19) ck_law_33 rfl)
theorem dw_1076 : decode y_law.2.1 1076 = .ok (.iadd, 1) := op_iadd (gk (k := 1056) (t := 20) ck_law_33 rfl)
theorem dw_1077 : decode y_law.2.1 1077 = .ok (.iaload, 1) := op_iaload (gk (k := 1056) (t := 21) ck_law_33 rfl)
theorem dw_1078 : decode y_law.2.1 1078 = .ok (.aload_n 0, 1) := op_aload_n0 (gk (k := 1056) (t := 22) ck_law_33 rfl)
theorem dw_1079 : decode y_law.2.1 1079 = .ok (.iload_n 3, 1) := op_iload_n3 (gk (k := 1056) (t := 23) ck_law_33 rfl)
theorem dw_1080 : decode y_law.2.1 1080 = .ok (.iconst 2, 1) := op_iconst2 (gk (k := 1056) (t := 24) ck_law_33 rfl)
theorem dw_1081 : decode y_law.2.1 1081 = .ok (.iadd, 1) := op_iadd (gk (k := 1056) (t := 25) ck_law_33 rfl)
theorem dw_1082 : decode y_law.2.1 1082 = .ok (.iaload, 1) := op_iaload (gk (k := 1056) (t := 26) ck_law_33 rfl)
theorem dw_1083 : decode y_law.2.1 1083 = .ok (.invokevirtual 132, 3) := op_invokevirtual (gk (k := 1056) (t := 27) ck_law_33 rfl) (gk (k := 1056) (t := 28) ck_law_33 rfl) (gk (k := 1056) (t := 29) ck_law_33 rfl) rfl
theorem dw_1086 : decode y_law.2.1 1086 = .ok (.pop, 1) := op_pop (gk (k := 1056) (t := 30) ck_law_33 rfl)
theorem ck_law_34 : (y_law.2.1.data.toList.drop 1088).take 32 = [0, 141, 43, 42, 29, 4, 96, 46, 42, 29, 5, 96, 46, 182, 0, 133, 87, 44, 42, 29, 4, 96, 46, 42, 29, 5, 96, 46, 182, 0, 136, 87] := by decide +kernel
theorem dw_1087 : decode y_law.2.1 1087 = .ok (.goto 141, 3) := op_goto (gk (k := 1056) (t := 31) ck_law_33 rfl) (gk (k := 1088) (t := 0) ck_law_34 rfl) (gk (k := 1088) (t := 1) ck_law_34 rfl) (by decide +kernel)
theorem dw_1090 : decode y_law.2.1 1090 = .ok (.aload_n 1, 1) := op_aload_n1 (gk (k := 1088) (t := 2) ck_law_34 rfl)
theorem dw_1091 : decode y_law.2.1 1091 = .ok (.aload_n 0, 1) := op_aload_n0 (gk (k := 1088) (t := 3) ck_law_34 rfl)
theorem dw_1092 : decode y_law.2.1 1092 = .ok (.iload_n 3, 1) := op_iload_n3 (gk (k := 1088) (t := 4) ck_law_34 rfl)
theorem dw_1093 : decode y_law.2.1 1093 = .ok (.iconst 1, 1) := op_iconst1 (gk (k := 1088) (t := 5) ck_law_34 rfl)
theorem dw_1094 : decode y_law.2.1 1094 = .ok (.iadd, 1) := op_iadd (gk (k := 1088) (t := 6) ck_law_34 rfl)
theorem dw_1095 : decode y_law.2.1 1095 = .ok (.iaload, 1) := op_iaload (gk (k := 1088) (t := 7) ck_law_34 rfl)
theorem dw_1096 : decode y_law.2.1 1096 = .ok (.aload_n 0, 1) := op_aload_n0 (gk (k := 1088) (t := 8) ck_law_34 rfl)
theorem dw_1097 : decode y_law.2.1 1097 = .ok (.iload_n 3, 1) := op_iload_n3 (gk (k := 1088) (t := 9) ck_law_34 rfl)
theorem dw_1098 : decode y_law.2.1 1098 = .ok (.iconst 2, 1) := op_iconst2 (gk (k := 1088) (t := 10) ck_law_34 rfl)
theorem dw_1099 : decode y_law.2.1 1099 = .ok (.iadd, 1) := op_iadd (gk (k := 1088) (t := 11) ck_law_34 rfl)
theorem dw_1100 : decode y_law.2.1 1100 = .ok (.iaload, 1) := op_iaload (gk (k := 1088) (t := 12) ck_law_34 rfl)
theorem dw_1101 : decode y_law.2.1 1101 = .ok (.invokevirtual 133, 3) := op_invokevirtual (gk (k := 1088) (t := 13) ck_law_34 rfl) (gk (k := 1088) (t := 14) ck_law_34 rfl) (gk (k := 1088) (t := 15) ck_law_34 rfl) rfl
theorem dw_1104 : decode y_law.2.1 1104 = .ok (.pop, 1) := op_pop (gk (k := 1088) (t := 16) ck_law_34 rfl)
theorem dw_1105 : decode y_law.2.1 1105 = .ok (.aload_n 2, 1) := op_aload_n2 (gk (k := 1088) (t := 17) ck_law_34 rfl)
theorem dw_1106 : decode y_law.2.1 1106 = .ok (.aload_n 0, 1) := op_aload_n0 (gk (k := 1088) (t := 18) ck_law_34 rfl)
theorem dw_1107 : decode y_law.2.1 1107 = .ok (.iload_n 3, 1) := op_iload_n3 (gk (k := 1088) (t := 19) ck_law_34 rfl)
theorem dw_1108 : decode y_law.2.1 1108 = .ok (.iconst 1, 1) := op_iconst1 (gk (k := 1088) (t := 20) ck_law_34 rfl)
theorem dw_1109 : decode y_law.2.1 1109 = .ok (.iadd, 1) := op_iadd (gk (k := 1088) (t := 21) ck_law_34 rfl)
theorem dw_1110 : decode y_law.2.1 1110 = .ok (.iaload, 1) := op_iaload (gk (k := 1088) (t := 22) ck_law_34 rfl)
theorem dw_1111 : decode y_law.2.1 1111 = .ok (.aload_n 0, 1) := op_aload_n0 (gk (k := 1088) (t := 23) ck_law_34 rfl)
theorem dw_1112 : decode y_law.2.1 1112 = .ok (.iload_n 3, 1) := op_iload_n3 (gk (k := 1088) (t := 24) ck_law_34 rfl)
theorem dw_1113 : decode y_law.2.1 1113 = .ok (.iconst 2, 1) := op_iconst2 (gk (k := 1088) (t := 25) ck_law_34 rfl)
theorem dw_1114 : decode y_law.2.1 1114 = .ok (.iadd, 1) := op_iadd (gk (k := 1088) (t := 26) ck_law_34 rfl)
theorem dw_1115 : decode y_law.2.1 1115 = .ok (.iaload, 1) := op_iaload (gk (k := 1088) (t := 27) ck_law_34 rfl)
theorem dw_1116 : decode y_law.2.1 1116 = .ok (.invokevirtual 136, 3) := op_invokevirtual (gk (k := 1088) (t := 28) ck_law_34 rfl) (gk (k := 1088) (t := 29) ck_law_34 rfl) (gk (k := 1088) (t := 30) ck_law_34 rfl) rfl
theorem dw_1119 : decode y_law.2.1 1119 = .ok (.pop, 1) := op_pop (gk (k := 1088) (t := 31) ck_law_34 rfl)
theorem ck_law_35 : (y_law.2.1.data.toList.drop 1120).take 32 = [167, 0, 108, 43, 42, 29, 4, 96, 46, 42, 29, 5, 96, 46, 42, 29, 6, 96, 46, 182, 0, 137, 87, 44, 42, 29, 4, 96, 46, 42, 29, 5] := by decide +kernel
theorem dw_1120 : decode y_law.2.1 1120 = .ok (.goto 108, 3) := op_goto (gk (k := 1120) (t := 0) ck_law_35 rfl) (gk (k := 1120) (t := 1) ck_law_35 rfl) (gk (k := 1120) (t := 2) ck_law_35 rfl) (by decide +kernel)
theorem dw_1123 : decode y_law.2.1 1123 = .ok (.aload_n 1, 1) := op_aload_n1 (gk (k := 1120) (t := 3) ck_law_35 rfl)
theorem dw_1124 : decode y_law.2.1 1124 = .ok (.aload_n 0, 1) := op_aload_n0 (gk (k := 1120) (t := 4) ck_law_35 rfl)
theorem dw_1125 : decode y_law.2.1 1125 = .ok (.iload_n 3, 1) := op_iload_n3 (gk (k := 1120) (t := 5) ck_law_35 rfl)
theorem dw_1126 : decode y_law.2.1 1126 = .ok (.iconst 1, 1) := op_iconst1 (gk (k := 1120) (t := 6) ck_law_35 rfl)
theorem dw_1127 : decode y_law.2.1 1127 = .ok (.iadd, 1) := op_iadd (gk (k := 1120) (t := 7) ck_law_35 rfl)
theorem dw_1128 : decode y_law.2.1 1128 = .ok (.iaload, 1) := op_iaload (gk (k := 1120) (t := 8) ck_law_35 rfl)
theorem dw_1129 : decode y_law.2.1 1129 = .ok (.aload_n 0, 1) := op_aload_n0 (gk (k := 1120) (t := 9) ck_law_35 rfl)
theorem dw_1130 : decode y_law.2.1 1130 = .ok (.iload_n 3, 1) := op_iload_n3 (gk (k := 1120) (t := 10) ck_law_35 rfl)
theorem dw_1131 : decode y_law.2.1 1131 = .ok (.iconst 2, 1) := op_iconst2 (gk (k := 1120) (t := 11) ck_law_35 rfl)
theorem dw_1132 : decode y_law.2.1 1132 = .ok (.iadd, 1) := op_iadd (gk (k := 1120) (t := 12) ck_law_35 rfl)
theorem dw_1133 : decode y_law.2.1 1133 = .ok (.iaload, 1) := op_iaload (gk (k := 1120) (t := 13) ck_law_35 rfl)
theorem dw_1134 : decode y_law.2.1 1134 = .ok (.aload_n 0, 1) := op_aload_n0 (gk (k := 1120) (t := 14) ck_law_35 rfl)
theorem dw_1135 : decode y_law.2.1 1135 = .ok (.iload_n 3, 1) := op_iload_n3 (gk (k := 1120) (t := 15) ck_law_35 rfl)
theorem dw_1136 : decode y_law.2.1 1136 = .ok (.iconst 3, 1) := op_iconst3 (gk (k := 1120) (t := 16) ck_law_35 rfl)
theorem dw_1137 : decode y_law.2.1 1137 = .ok (.iadd, 1) := op_iadd (gk (k := 1120) (t := 17) ck_law_35 rfl)
theorem dw_1138 : decode y_law.2.1 1138 = .ok (.iaload, 1) := op_iaload (gk (k := 1120) (t := 18) ck_law_35 rfl)
theorem dw_1139 : decode y_law.2.1 1139 = .ok (.invokevirtual 137, 3) := op_invokevirtual (gk (k := 1120) (t := 19) ck_law_35 rfl) (gk (k := 1120) (t := 20) ck_law_35 rfl) (gk (k := 1120) (t := 21) ck_law_35 rfl) rfl
theorem dw_1142 : decode y_law.2.1 1142 = .ok (.pop, 1) := op_pop (gk (k := 1120) (t := 22) ck_law_35 rfl)
theorem dw_1143 : decode y_law.2.1 1143 = .ok (.aload_n 2, 1) := op_aload_n2 (gk (k := 1120) (t := 23) ck_law_35 rfl)
theorem dw_1144 : decode y_law.2.1 1144 = .ok (.aload_n 0, 1) := op_aload_n0 (gk (k := 1120) (t := 24) ck_law_35 rfl)
theorem dw_1145 : decode y_law.2.1 1145 = .ok (.iload_n 3, 1) := op_iload_n3 (gk (k := 1120) (t := 25) ck_law_35 rfl)
theorem dw_1146 : decode y_law.2.1 1146 = .ok (.iconst 1, 1) := op_iconst1 (gk (k := 1120) (t := 26) ck_law_35 rfl)
theorem dw_1147 : decode y_law.2.1 1147 = .ok (.iadd, 1) := op_iadd (gk (k := 1120) (t := 27) ck_law_35 rfl)
theorem dw_1148 : decode y_law.2.1 1148 = .ok (.iaload, 1) := op_iaload (gk (k := 1120) (t := 28) ck_law_35 rfl)
theorem dw_1149 : decode y_law.2.1 1149 = .ok (.aload_n 0, 1) := op_aload_n0 (gk (k := 1120) (t := 29) ck_law_35 rfl)
theorem dw_1150 : decode y_law.2.1 1150 = .ok (.iload_n 3, 1) := op_iload_n3 (gk (k := 1120) (t := 30) ck_law_35 rfl)
theorem dw_1151 : decode y_law.2.1 1151 = .ok (.iconst 2, 1) := op_iconst2 (gk (k := 1120) (t := 31) ck_law_35 rfl)
theorem ck_law_36 : (y_law.2.1.data.toList.drop 1152).take 32 = [96, 46, 42, 29, 6, 96, 46, 182, 0, 140, 87, 167, 0, 65, 43, 42, 29, 4, 96, 46, 153, 0, 7, 4, 167, 0, 4, 3, 182, 0, 141, 87] := by decide +kernel
theorem dw_1152 : decode y_law.2.1 1152 = .ok (.iadd, 1) := op_iadd (gk (k := 1152) (t := 0) ck_law_36 rfl)
theorem dw_1153 : decode y_law.2.1 1153 = .ok (.iaload, 1) := op_iaload (gk (k := 1152) (t := 1) ck_law_36 rfl)
theorem dw_1154 : decode y_law.2.1 1154 = .ok (.aload_n 0, 1) := op_aload_n0 (gk (k := 1152) (t := 2) ck_law_36 rfl)
theorem dw_1155 : decode y_law.2.1 1155 = .ok (.iload_n 3, 1) := op_iload_n3 (gk (k := 1152) (t := 3) ck_law_36 rfl)
theorem dw_1156 : decode y_law.2.1 1156 = .ok (.iconst 3, 1) := op_iconst3 (gk (k := 1152) (t := 4) ck_law_36 rfl)
theorem dw_1157 : decode y_law.2.1 1157 = .ok (.iadd, 1) := op_iadd (gk (k := 1152) (t := 5) ck_law_36 rfl)
theorem dw_1158 : decode y_law.2.1 1158 = .ok (.iaload, 1) := op_iaload (gk (k := 1152) (t := 6) ck_law_36 rfl)
theorem dw_1159 : decode y_law.2.1 1159 = .ok (.invokevirtual 140, 3) := op_invokevirtual (gk (k := 1152) (t := 7) ck_law_36 rfl) (gk (k := 1152) (t := 8) ck_law_36 rfl) (gk (k := 1152) (t := 9) ck_law_36 rfl) rfl
theorem dw_1162 : decode y_law.2.1 1162 = .ok (.pop, 1) := op_pop (gk (k := 1152) (t := 10) ck_law_36 rfl)
theorem dw_1163 : decode y_law.2.1 1163 = .ok (.goto 65, 3) := op_goto (gk (k := 1152) (t := 11) ck_law_36 rfl) (gk (k := 1152) (t := 12) ck_law_36 rfl) (gk (k := 1152) (t := 13) ck_law_36 rfl) (by decide +kernel)
theorem dw_1166 : decode y_law.2.1 1166 = .ok (.aload_n 1, 1) := op_aload_n1 (gk (k := 1152) (t := 14) ck_law_36 rfl)
theorem dw_1167 : decode y_law.2.1 1167 = .ok (.aload_n 0, 1) := op_aload_n0 (gk (k := 1152) (t := 15) ck_law_36 rfl)
theorem dw_1168 : decode y_law.2.1 1168 = .ok (.iload_n 3, 1) := op_iload_n3 (gk (k := 1152) (t := 16) ck_law_36 rfl)
theorem dw_1169 : decode y_law.2.1 1169 = .ok (.iconst 1, 1) := op_iconst1 (gk (k := 1152) (t := 17) ck_law_36 rfl)
theorem dw_1170 : decode y_law.2.1 1170 = .ok (.iadd, 1) := op_iadd (gk (k := 1152) (t := 18) ck_law_36 rfl)
theorem dw_1171 : decode y_law.2.1 1171 = .ok (.iaload, 1) := op_iaload (gk (k := 1152) (t := 19) ck_law_36 rfl)
theorem dw_1172 : decode y_law.2.1 1172 = .ok (.ifCond .eq 7, 3) := op_if_eq (gk (k := 1152) (t := 20) ck_law_36 rfl) (gk (k := 1152) (t := 21) ck_law_36 rfl) (gk (k := 1152) (t := 22) ck_law_36 rfl) (by decide +kernel)
theorem dw_1179 : decode y_law.2.1 1179 = .ok (.iconst 0, 1) := op_iconst0 (gk (k := 1152) (t := 27) ck_law_36 rfl)
theorem dw_1180 : decode y_law.2.1 1180 = .ok (.invokevirtual 141, 3) := op_invokevirtual (gk (k := 1152) (t := 28) ck_law_36 rfl) (gk (k := 1152) (t := 29) ck_law_36 rfl) (gk (k := 1152) (t := 30) ck_law_36 rfl) rfl
theorem dw_1183 : decode y_law.2.1 1183 = .ok (.pop, 1) := op_pop (gk (k := 1152) (t := 31) ck_law_36 rfl)
theorem ck_law_37 : (y_law.2.1.data.toList.drop 1184).take 32 = [44, 42, 29, 4, 96, 46, 153, 0, 7, 4, 167, 0, 4, 3, 182, 0, 145, 87, 167, 0, 26, 43, 42, 29, 4, 96, 46, 182, 0, 146, 87, 44] := by decide +kernel
theorem dw_1184 : decode y_law.2.1 1184 = .ok (.aload_n 2, 1) := op_aload_n2 (gk (k := 1184) (t := 0) ck_law_37 rfl)
theorem dw_1185 : decode y_law.2.1 1185 = .ok (.aload_n 0, 1) := op_aload_n0 (gk (k := 1184) (t := 1) ck_law_37 rfl)
theorem dw_1186 : decode y_law.2.1 1186 = .ok (.iload_n 3, 1) := op_iload_n3 (gk (k := 1184) (t := 2) ck_law_37 rfl)
theorem dw_1187 : decode y_law.2.1 1187 = .ok (.iconst 1, 1) := op_iconst1 (gk (k := 1184) (t := 3) ck_law_37 rfl)
theorem dw_1188 : decode y_law.2.1 1188 = .ok (.iadd, 1) := op_iadd (gk (k := 1184) (t := 4) ck_law_37 rfl)
theorem dw_1189 : decode y_law.2.1 1189 = .ok (.iaload, 1) := op_iaload (gk (k := 1184) (t := 5) ck_law_37 rfl)
theorem dw_1190 : decode y_law.2.1 1190 = .ok (.ifCond .eq 7, 3) := op_if_eq (gk (k := 1184) (t := 6) ck_law_37 rfl) (gk (k := 1184) (t := 7) ck_law_37 rfl) (gk (k := 1184) (t := 8) ck_law_37 rfl) (by decide +kernel)
theorem dw_1197 : decode y_law.2.1 1197 = .ok (.iconst 0, 1) := op_iconst0 (gk (k := 1184) (t := 13) ck_law_37 rfl)
theorem dw_1198 : decode y_law.2.1 1198 = .ok (.invokevirtual 145, 3) := op_invokevirtual (gk (k := 1184) (t := 14) ck_law_37 rfl) (gk (k := 1184) (t := 15) ck_law_37 rfl) (gk (k := 1184) (t := 16) ck_law_37 rfl) rfl
theorem dw_1201 : decode y_law.2.1 1201 = .ok (.pop, 1) := op_pop (gk (k := 1184) (t := 17) ck_law_37 rfl)
theorem dw_1202 : decode y_law.2.1 1202 = .ok (.goto 26, 3) := op_goto (gk (k := 1184) (t := 18) ck_law_37 rfl) (gk (k := 1184) (t := 19) ck_law_37 rfl) (gk (k := 1184) (t := 20) ck_law_37 rfl) (by decide +kernel)
theorem dw_1175 : decode y_law.2.1 1175 = .ok (.iconst 1, 1) := op_iconst1 (gk (k := 1152) (t := 23) ck_law_36 rfl)
theorem dw_1176 : decode y_law.2.1 1176 = .ok (.goto 4, 3) := op_goto (gk (k := 1152) (t := 24) ck_law_36 rfl) (gk (k := 1152) (t := 25) ck_law_36 rfl) (gk (k := 1152) (t := 26) ck_law_36 rfl) (by decide +kernel)
theorem dw_1193 : decode y_law.2.1 1193 = .ok (.iconst 1, 1) := op_iconst1 (gk (k := 1184) (t := 9) ck_law_37 rfl)
theorem dw_1194 : decode y_law.2.1 1194 = .ok (.goto 4, 3) := op_goto (gk (k := 1184) (t := 10) ck_law_37 rfl) (gk (k := 1184) (t := 11) ck_law_37 rfl) (gk (k := 1184) (t := 12) ck_law_37 rfl) (by decide +kernel)
theorem dw_1205 : decode y_law.2.1 1205 = .ok (.aload_n 1, 1) := op_aload_n1 (gk (k := 1184) (t := 21) ck_law_37 rfl)
theorem dw_1206 : decode y_law.2.1 1206 = .ok (.aload_n 0, 1) := op_aload_n0 (gk (k := 1184) (t := 22) ck_law_37 rfl)
theorem dw_1207 : decode y_law.2.1 1207 = .ok (.iload_n 3, 1) := op_iload_n3 (gk (k := 1184) (t := 23) ck_law_37 rfl)
theorem dw_1208 : decode y_law.2.1 1208 = .ok (.iconst 1, 1) := op_iconst1 (gk (k := 1184) (t := 24) ck_law_37 rfl)
theorem dw_1209 : decode y_law.2.1 1209 = .ok (.iadd, 1) := op_iadd (gk (k := 1184) (t := 25) ck_law_37 rfl)
theorem dw_1210 : decode y_law.2.1 1210 = .ok (.iaload, 1) := op_iaload (gk (k := 1184) (t := 26) ck_law_37 rfl)
theorem dw_1211 : decode y_law.2.1 1211 = .ok (.invokevirtual 146, 3) := op_invokevirtual (gk (k := 1184) (t := 27) ck_law_37 rfl) (gk (k := 1184) (t := 28) ck_law_37 rfl) (gk (k := 1184) (t := 29) ck_law_37 rfl) rfl
theorem dw_1214 : decode y_law.2.1 1214 = .ok (.pop, 1) := op_pop (gk (k := 1184) (t := 30) ck_law_37 rfl)
theorem dw_1215 : decode y_law.2.1 1215 = .ok (.aload_n 2, 1) := op_aload_n2 (gk (k := 1184) (t := 31) ck_law_37 rfl)
theorem ck_law_38 : (y_law.2.1.data.toList.drop 1216).take 32 = [42, 29, 4, 96, 46, 182, 0, 149, 87, 167, 0, 3, 132, 3, 6, 167, 251, 67, 4, 172] := by decide +kernel
theorem dw_1216 : decode y_law.2.1 1216 = .ok (.aload_n 0, 1) := op_aload_n0 (gk (k := 1216) (t := 0) ck_law_38 rfl)
theorem dw_1217 : decode y_law.2.1 1217 = .ok (.iload_n 3, 1) := op_iload_n3 (gk (k := 1216) (t := 1) ck_law_38 rfl)
theorem dw_1218 : decode y_law.2.1 1218 = .ok (.iconst 1, 1) := op_iconst1 (gk (k := 1216) (t := 2) ck_law_38 rfl)
theorem dw_1219 : decode y_law.2.1 1219 = .ok (.iadd, 1) := op_iadd (gk (k := 1216) (t := 3) ck_law_38 rfl)
theorem dw_1220 : decode y_law.2.1 1220 = .ok (.iaload, 1) := op_iaload (gk (k := 1216) (t := 4) ck_law_38 rfl)
theorem dw_1221 : decode y_law.2.1 1221 = .ok (.invokevirtual 149, 3) := op_invokevirtual (gk (k := 1216) (t := 5) ck_law_38 rfl) (gk (k := 1216) (t := 6) ck_law_38 rfl) (gk (k := 1216) (t := 7) ck_law_38 rfl) rfl
theorem dw_1224 : decode y_law.2.1 1224 = .ok (.pop, 1) := op_pop (gk (k := 1216) (t := 8) ck_law_38 rfl)
theorem dw_1225 : decode y_law.2.1 1225 = .ok (.goto 3, 3) := op_goto (gk (k := 1216) (t := 9) ck_law_38 rfl) (gk (k := 1216) (t := 10) ck_law_38 rfl) (gk (k := 1216) (t := 11) ck_law_38 rfl) (by decide +kernel)
theorem ck_law_0 : (y_law.2.1.data.toList.drop 0).take 32 = [187, 0, 7, 89, 183, 0, 9, 76, 187, 0, 10, 89, 183, 0, 12, 77, 3, 62, 29, 42, 190, 16, 6, 100, 163, 4, 186, 42, 29, 46, 16, 31] := by decide +kernel
theorem dw_27 : decode y_law.2.1 27 = .ok (.aload_n 0, 1) := op_aload_n0 (gk (k := 0) (t := 27) ck_law_0 rfl)
theorem dw_28 : decode y_law.2.1 28 = .ok (.iload_n 3, 1) := op_iload_n3 (gk (k := 0) (t := 28) ck_law_0 rfl)
theorem dw_29 : decode y_law.2.1 29 = .ok (.iaload, 1) := op_iaload (gk (k := 0) (t := 29) ck_law_0 rfl)
theorem dw_30 : decode y_law.2.1 30 = .ok (.bipush 31, 2) := op_bipush (gk (k := 0) (t := 30) ck_law_0 rfl) (gk (k := 0) (t := 31) ck_law_0 rfl) rfl
theorem ck_law_1 : (y_law.2.1.data.toList.drop 32).take 32 = [126, 170, 0, 0, 0, 0, 4, 171, 0, 0, 0, 0, 0, 0, 0, 31, 0, 0, 0, 143, 0, 0, 0, 166, 0, 0, 0, 199, 0, 0, 0, 232] := by decide +kernel
theorem dw_32 : decode y_law.2.1 32 = .ok (.iand, 1) := op_iand (gk (k := 32) (t := 0) ck_law_1 rfl)
theorem dw_33 : decode y_law.2.1 33 = .ok (.tableswitch 1195 0 31 #[143, 166, 199, 232, 265, 328, 391, 414, 437, 460, 503, 546, 579, 612, 625, 638, 661, 684, 707, 730, 753, 786, 809, 872, 905, 938, 1001, 1024, 1057, 1090, 1133, 1172], 143) := by decide +kernel
theorem dw_1234 : decode y_law.2.1 1234 = .ok (.iconst 1, 1) := op_iconst1 (gk (k := 1216) (t := 18) ck_law_38 rfl)
theorem dw_1235 : decode y_law.2.1 1235 = .ok (.ireturn, 1) := op_ireturn (gk (k := 1216) (t := 19) ck_law_38 rfl)
theorem dw_18 : decode y_law.2.1 18 = .ok (.iload_n 3, 1) := op_iload_n3 (gk (k := 0) (t := 18) ck_law_0 rfl)
theorem dw_19 : decode y_law.2.1 19 = .ok (.aload_n 0, 1) := op_aload_n0 (gk (k := 0) (t := 19) ck_law_0 rfl)
theorem dw_20 : decode y_law.2.1 20 = .ok (.arraylength, 1) := op_arraylength (gk (k := 0) (t := 20) ck_law_0 rfl)
theorem dw_21 : decode y_law.2.1 21 = .ok (.bipush 6, 2) := op_bipush (gk (k := 0) (t := 21) ck_law_0 rfl) (gk (k := 0) (t := 22) ck_law_0 rfl) rfl
theorem dw_23 : decode y_law.2.1 23 = .ok (.isub, 1) := op_isub (gk (k := 0) (t := 23) ck_law_0 rfl)
theorem dw_24 : decode y_law.2.1 24 = .ok (.if_icmp .gt 1210, 3) := op_icmp_gt (gk (k := 0) (t := 24) ck_law_0 rfl) (gk (k := 0) (t := 25) ck_law_0 rfl) (gk (k := 0) (t := 26) ck_law_0 rfl) (by decide +kernel)
theorem dw_1228 : decode y_law.2.1 1228 = .ok (.iinc 3 6, 3) := op_iinc (gk (k := 1216) (t := 12) ck_law_38 rfl) (gk (k := 1216) (t := 13) ck_law_38 rfl) (gk (k := 1216) (t := 14) ck_law_38 rfl) rfl rfl
theorem dw_1231 : decode y_law.2.1 1231 = .ok (.goto (-1213), 3) := op_goto (gk (k := 1216) (t := 15) ck_law_38 rfl) (gk (k := 1216) (t := 16) ck_law_38 rfl) (gk (k := 1216) (t := 17) ck_law_38 rfl) (by decide +kernel)
theorem dw_0 : decode y_law.2.1 0 = .ok (.new 7, 3) := op_new (gk (k := 0) (t := 0) ck_law_0 rfl) (gk (k := 0) (t := 1) ck_law_0 rfl) (gk (k := 0) (t := 2) ck_law_0 rfl) rfl
theorem dw_3 : decode y_law.2.1 3 = .ok (.dup, 1) := op_dup (gk (k := 0) (t := 3) ck_law_0 rfl)
theorem dw_4 : decode y_law.2.1 4 = .ok (.invokespecial 9, 3) := op_invokespecial (gk (k := 0) (t := 4) ck_law_0 rfl) (gk (k := 0) (t := 5) ck_law_0 rfl) (gk (k := 0) (t := 6) ck_law_0 rfl) rfl
theorem dw_7 : decode y_law.2.1 7 = .ok (.astore_n 1, 1) := op_astore_n1 (gk (k := 0) (t := 7) ck_law_0 rfl)
theorem dw_8 : decode y_law.2.1 8 = .ok (.new 10, 3) := op_new (gk (k := 0) (t := 8) ck_law_0 rfl) (gk (k := 0) (t := 9) ck_law_0 rfl) (gk (k := 0) (t := 10) ck_law_0 rfl) rfl
theorem dw_11 : decode y_law.2.1 11 = .ok (.dup, 1) := op_dup (gk (k := 0) (t := 11) ck_law_0 rfl)
theorem dw_12 : decode y_law.2.1 12 = .ok (.invokespecial 12, 3) := op_invokespecial (gk (k := 0) (t := 12) ck_law_0 rfl) (gk (k := 0) (t := 13) ck_law_0 rfl) (gk (k := 0) (t := 14) ck_law_0 rfl) rfl
theorem dw_15 : decode y_law.2.1 15 = .ok (.astore_n 2, 1) := op_astore_n2 (gk (k := 0) (t := 15) ck_law_0 rfl)
theorem dw_16 : decode y_law.2.1 16 = .ok (.iconst 0, 1) := op_iconst0 (gk (k := 0) (t := 16) ck_law_0 rfl)
theorem dw_17 : decode y_law.2.1 17 = .ok (.istore_n 3, 1) := op_istore_n3 (gk (k := 0) (t := 17) ck_law_0 rfl)
