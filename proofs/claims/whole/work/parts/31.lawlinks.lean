theorem ml_RL_9 : ab_ML RL 9 yX8_init := Or.inl (tb_1 _ (List.mem_of_getElem? (i := 20) rfl))
theorem ml_RL_12 : ab_ML RL 12 yX9_init := Or.inl (tb_5 _ (List.mem_of_getElem? (i := 82) rfl))
theorem ml_RL_13 : ab_ML RL 13 yX8_feed := Or.inl (tb_2 _ (List.mem_of_getElem? (i := 183) rfl))
theorem ml_RL_17 : ab_ML RL 17 yX9_feed := Or.inl (tb_5 _ (List.mem_of_getElem? (i := 194) rfl))
theorem ml_RL_18 : ab_ML RL 18 yX8_end := Or.inl (tb_2 _ (List.mem_of_getElem? (i := 195) rfl))
theorem ml_RL_22 : ab_ML RL 22 yX9_end := Or.inl (tb_5 _ (List.mem_of_getElem? (i := 202) rfl))
theorem ml_RL_23 : ab_ML RL 23 yX8_text := Or.inl (tb_2 _ (List.mem_of_getElem? (i := 199) rfl))
theorem ml_RL_27 : ab_ML RL 27 yX9_text := Or.inl (tb_5 _ (List.mem_of_getElem? (i := 209) rfl))
theorem ml_RL_28 : ab_ML RL 28 yX8_fault := Or.inl (tb_3 _ (List.mem_of_getElem? (i := 144) rfl))
theorem ml_RL_31 : ab_ML RL 31 yX9_fault := Or.inl (tb_6 _ (List.mem_of_getElem? (i := 102) rfl))
theorem ml_RL_32 : ab_ML RL 32 yX8_count := Or.inl (tb_3 _ (List.mem_of_getElem? (i := 148) rfl))
theorem ml_RL_35 : ab_ML RL 35 yX9_count := Or.inl (tb_6 _ (List.mem_of_getElem? (i := 106) rfl))
theorem ml_RL_36 : ab_ML RL 36 yX8_string := Or.inl (tb_3 _ (List.mem_of_getElem? (i := 156) rfl))
theorem ml_RL_40 : ab_ML RL 40 yX9_string := Or.inl (tb_6 _ (List.mem_of_getElem? (i := 174) rfl))
theorem ml_RL_41 : ab_ML RL 41 yX8_term := Or.inl (tb_3 _ (List.mem_of_getElem? (i := 182) rfl))
theorem ml_RL_45 : ab_ML RL 45 yX9_term := Or.inl (tb_6 _ (List.mem_of_getElem? (i := 191) rfl))
theorem ml_RL_46 : ab_ML RL 46 yX8_letter := Or.inl (tb_3 _ (List.mem_of_getElem? (i := 196) rfl))
theorem ml_RL_49 : ab_ML RL 49 yX9_letter := Or.inl (tb_6 _ (List.mem_of_getElem? (i := 206) rfl))
theorem ml_RL_50 : ab_ML RL 50 yX8_way := Or.inl (tb_3 _ (List.mem_of_getElem? (i := 204) rfl))
theorem ml_RL_53 : ab_ML RL 53 yX9_way := Or.inl (tb_6 _ (List.mem_of_getElem? (i := 214) rfl))
theorem ml_RL_54 : ab_ML RL 54 yX8_find := Or.inl (tb_3 _ (List.mem_of_getElem? (i := 211) rfl))
theorem ml_RL_57 : ab_ML RL 57 yX9_find := Or.inl (tb_6 _ (List.mem_of_getElem? (i := 219) rfl))
theorem ml_RL_58 : ab_ML RL 58 yX8_at := Or.inl (tb_3 _ (List.mem_of_getElem? (i := 226) rfl))
theorem ml_RL_61 : ab_ML RL 61 yX9_at := Or.inl (tb_6 _ (List.mem_of_getElem? (i := 227) rfl))
theorem ml_RL_62 : ab_ML RL 62 yX8_entry := Or.inl (tb_3 _ (List.mem_of_getElem? (i := 232) rfl))
theorem ml_RL_65 : ab_ML RL 65 yX9_entry := Or.inl (tb_6 _ (List.mem_of_getElem? (i := 231) rfl))
theorem ml_RL_66 : ab_ML RL 66 yX8_row := Or.inl (tb_3 _ (List.mem_of_getElem? (i := 237) rfl))
theorem ml_RL_69 : ab_ML RL 69 yX9_row := Or.inl (tb_6 _ (List.mem_of_getElem? (i := 235) rfl))
theorem ml_RL_70 : ab_ML RL 70 yX8_line := Or.inl (tb_4 _ (List.mem_of_getElem? (i := 1) rfl))
theorem ml_RL_73 : ab_ML RL 73 yX9_line := Or.inl (tb_6 _ (List.mem_of_getElem? (i := 239) rfl))
theorem ml_RL_74 : ab_ML RL 74 yX8_address := Or.inl (tb_4 _ (List.mem_of_getElem? (i := 17) rfl))
theorem ml_RL_77 : ab_ML RL 77 yX9_address := Or.inl (tb_7 _ (List.mem_of_getElem? (i := 24) rfl))
theorem ml_RL_78 : ab_ML RL 78 yX8_head := Or.inl (tb_4 _ (List.mem_of_getElem? (i := 21) rfl))
theorem ml_RL_81 : ab_ML RL 81 yX9_head := Or.inl (tb_7 _ (List.mem_of_getElem? (i := 28) rfl))
theorem ml_RL_82 : ab_ML RL 82 yX8_print := Or.inl (tb_4 _ (List.mem_of_getElem? (i := 69) rfl))
theorem ml_RL_85 : ab_ML RL 85 yX9_print := Or.inl (tb_7 _ (List.mem_of_getElem? (i := 43) rfl))
theorem ml_RL_86 : ab_ML RL 86 yX8_printAll := Or.inl (tb_4 _ (List.mem_of_getElem? (i := 94) rfl))
theorem ml_RL_89 : ab_ML RL 89 yX9_printAll := Or.inl (tb_7 _ (List.mem_of_getElem? (i := 71) rfl))
theorem ml_RL_90 : ab_ML RL 90 yX8_octet := Or.inl (tb_4 _ (List.mem_of_getElem? (i := 107) rfl))
theorem ml_RL_93 : ab_ML RL 93 yX9_octet := Or.inl (tb_7 _ (List.mem_of_getElem? (i := 75) rfl))
theorem ml_RL_94 : ab_ML RL 94 yX8_rebuilt := Or.inl (tb_4 _ (List.mem_of_getElem? (i := 33) rfl))
theorem ml_RL_97 : ab_ML RL 97 yX9_rebuilt := Or.inl (tb_7 _ (List.mem_of_getElem? (i := 83) rfl))
theorem ml_RL_98 : ab_ML RL 98 yX8_begins := Or.inl (tb_4 _ (List.mem_of_getElem? (i := 115) rfl))
theorem ml_RL_101 : ab_ML RL 101 yX9_begins := Or.inl (tb_7 _ (List.mem_of_getElem? (i := 87) rfl))
theorem ml_RL_102 : ab_ML RL 102 yX8_having := Or.inl (tb_4 _ (List.mem_of_getElem? (i := 122) rfl))
theorem ml_RL_105 : ab_ML RL 105 yX9_having := Or.inl (tb_7 _ (List.mem_of_getElem? (i := 91) rfl))
theorem ml_RL_106 : ab_ML RL 106 yX8_sharing := Or.inl (tb_4 _ (List.mem_of_getElem? (i := 134) rfl))
theorem ml_RL_109 : ab_ML RL 109 yX9_sharing := Or.inl (tb_7 _ (List.mem_of_getElem? (i := 104) rfl))
theorem ml_RL_110 : ab_ML RL 110 yX8_alike := Or.inl (tb_4 _ (List.mem_of_getElem? (i := 208) rfl))
theorem ml_RL_113 : ab_ML RL 113 yX9_alike := Or.inl (tb_7 _ (List.mem_of_getElem? (i := 112) rfl))
theorem ml_RL_114 : ab_ML RL 114 yX8_common := Or.inl (tb_4 _ (List.mem_of_getElem? (i := 232) rfl))
theorem ml_RL_117 : ab_ML RL 117 yX9_common := Or.inl (tb_7 _ (List.mem_of_getElem? (i := 136) rfl))
theorem ml_RL_118 : ab_ML RL 118 yX8_nearest := Or.inl (tb_4 _ (List.mem_of_getElem? (i := 238) rfl))
theorem ml_RL_121 : ab_ML RL 121 yX9_nearest := Or.inl (tb_7 _ (List.mem_of_getElem? (i := 140) rfl))
theorem ml_RL_122 : ab_ML RL 122 yX8_senses := Or.inl (tb_5 _ (List.mem_of_getElem? (i := 2) rfl))
theorem ml_RL_125 : ab_ML RL 125 yX9_senses := Or.inl (tb_7 _ (List.mem_of_getElem? (i := 144) rfl))
theorem ml_RL_126 : ab_ML RL 126 yX8_beside := Or.inl (tb_4 _ (List.mem_of_getElem? (i := 172) rfl))
theorem ml_RL_129 : ab_ML RL 129 yX9_beside := Or.inl (tb_7 _ (List.mem_of_getElem? (i := 148) rfl))
theorem ml_RL_130 : ab_ML RL 130 yX8_often := Or.inl (tb_4 _ (List.mem_of_getElem? (i := 142) rfl))
theorem ml_RL_133 : ab_ML RL 133 yX9_often := Or.inl (tb_7 _ (List.mem_of_getElem? (i := 156) rfl))
theorem ml_RL_134 : ab_ML RL 134 yX8_most := Or.inl (tb_4 _ (List.mem_of_getElem? (i := 151) rfl))
theorem ml_RL_137 : ab_ML RL 137 yX9_most := Or.inl (tb_7 _ (List.mem_of_getElem? (i := 164) rfl))
theorem ml_RL_138 : ab_ML RL 138 yX8_apart := Or.inl (tb_5 _ (List.mem_of_getElem? (i := 11) rfl))
theorem ml_RL_141 : ab_ML RL 141 yX9_apart := Or.inl (tb_7 _ (List.mem_of_getElem? (i := 168) rfl))
theorem ml_RL_142 : ab_ML RL 142 yX8_cover := Or.inl (tb_4 _ (List.mem_of_getElem? (i := 200) rfl))
theorem ml_RL_145 : ab_ML RL 145 yX9_cover := Or.inl (tb_7 _ (List.mem_of_getElem? (i := 172) rfl))
theorem ml_RL_146 : ab_ML RL 146 yX8_would := Or.inl (tb_4 _ (List.mem_of_getElem? (i := 58) rfl))
theorem ml_RL_149 : ab_ML RL 149 yX9_would := Or.inl (tb_7 _ (List.mem_of_getElem? (i := 177) rfl))
theorem ml_RL_150 : ab_ML RL 150 yX8_adds := Or.inl (tb_5 _ (List.mem_of_getElem? (i := 15) rfl))
theorem ml_RL_153 : ab_ML RL 153 yX9_adds := Or.inl (tb_6 _ (List.mem_of_getElem? (i := 90) rfl))
theorem ml_RL_154 : ab_ML RL 154 yX8_drops := Or.inl (tb_5 _ (List.mem_of_getElem? (i := 28) rfl))
theorem ml_RL_157 : ab_ML RL 157 yX9_drops := Or.inl (tb_7 _ (List.mem_of_getElem? (i := 230) rfl))
theorem ml_RL_158 : ab_ML RL 158 yX8_law := Or.inl (tb_5 _ (List.mem_of_getElem? (i := 36) rfl))
theorem ml_RL_161 : ab_ML RL 161 yX9_law := Or.inl (tb_7 _ (List.mem_of_getElem? (i := 234) rfl))
theorem ml_RL_162 : ab_ML RL 162 yX8_lead := Or.inl (tb_5 _ (List.mem_of_getElem? (i := 40) rfl))
theorem ml_RL_165 : ab_ML RL 165 yX9_lead := Or.inl (tb_7 _ (List.mem_of_getElem? (i := 238) rfl))
theorem ml_RL_166 : ab_ML RL 166 yX8_swaps := Or.inl (tb_5 _ (List.mem_of_getElem? (i := 44) rfl))
theorem ml_RL_169 : ab_ML RL 169 yX9_swaps := Or.inl (tb_8 _ (List.mem_of_getElem? (i := 2) rfl))
theorem ml_RL_170 : ab_ML RL 170 yX8_see := Or.inl (tb_5 _ (List.mem_of_getElem? (i := 55) rfl))
theorem ml_RL_173 : ab_ML RL 173 yX9_see := Or.inl (tb_8 _ (List.mem_of_getElem? (i := 10) rfl))
theorem ml_RL_174 : ab_ML RL 174 yX8_forget := Or.inl (tb_5 _ (List.mem_of_getElem? (i := 60) rfl))
theorem ml_RL_177 : ab_ML RL 177 yX9_forget := Or.inl (tb_8 _ (List.mem_of_getElem? (i := 14) rfl))
theorem ml_RL_178 : ab_ML RL 178 yX8_moves := Or.inl (tb_5 _ (List.mem_of_getElem? (i := 68) rfl))
theorem ml_RL_181 : ab_ML RL 181 yX9_moves := Or.inl (tb_8 _ (List.mem_of_getElem? (i := 18) rfl))
theorem ml_RL_182 : ab_ML RL 182 yX8_undo := Or.inl (tb_5 _ (List.mem_of_getElem? (i := 72) rfl))
theorem ml_RL_185 : ab_ML RL 185 yX9_undo := Or.inl (tb_7 _ (List.mem_of_getElem? (i := 226) rfl))
theorem ml_RL_186 : ab_ML RL 186 yX8_gather := Or.inl (tb_4 _ (List.mem_of_getElem? (i := 164) rfl))
theorem ml_RL_189 : ab_ML RL 189 yX9_gather := Or.inl (tb_7 _ (List.mem_of_getElem? (i := 182) rfl))
theorem ml_RL_190 : ab_ML RL 190 yX8_lost := Or.inl (tb_4 _ (List.mem_of_getElem? (i := 38) rfl))
theorem ml_RL_193 : ab_ML RL 193 yX9_lost := Or.inl (tb_7 _ (List.mem_of_getElem? (i := 194) rfl))
theorem ml_RL_194 : ab_ML RL 194 yX8_chain := Or.inl (tb_4 _ (List.mem_of_getElem? (i := 180) rfl))
theorem ml_RL_197 : ab_ML RL 197 yX9_chain := Or.inl (tb_7 _ (List.mem_of_getElem? (i := 198) rfl))
theorem ml_RL_198 : ab_ML RL 198 yX8_groups := Or.inl (tb_4 _ (List.mem_of_getElem? (i := 192) rfl))
theorem ml_RL_201 : ab_ML RL 201 yX9_groups := Or.inl (tb_7 _ (List.mem_of_getElem? (i := 206) rfl))
theorem ml_RL_202 : ab_ML RL 202 yX8_longest := Or.inl (tb_4 _ (List.mem_of_getElem? (i := 111) rfl))
theorem ml_RL_205 : ab_ML RL 205 yX9_longest := Or.inl (tb_7 _ (List.mem_of_getElem? (i := 79) rfl))
theorem ml_RL_206 : ab_ML RL 206 yX8_shown := Or.inl (tb_4 _ (List.mem_of_getElem? (i := 42) rfl))
theorem ml_RL_209 : ab_ML RL 209 yX9_shown := Or.inl (tb_7 _ (List.mem_of_getElem? (i := 210) rfl))
theorem ml_RL_210 : ab_ML RL 210 yX8_twins := Or.inl (tb_4 _ (List.mem_of_getElem? (i := 50) rfl))
theorem ml_RL_213 : ab_ML RL 213 yX9_twins := Or.inl (tb_7 _ (List.mem_of_getElem? (i := 214) rfl))
theorem ml_RL_214 : ab_ML RL 214 yX8_rarest := Or.inl (tb_4 _ (List.mem_of_getElem? (i := 160) rfl))
theorem ml_RL_217 : ab_ML RL 217 yX9_rarest := Or.inl (tb_7 _ (List.mem_of_getElem? (i := 218) rfl))
theorem ml_RL_218 : ab_ML RL 218 yX8_crossed := Or.inl (tb_4 _ (List.mem_of_getElem? (i := 54) rfl))
theorem ml_RL_221 : ab_ML RL 221 yX9_crossed := Or.inl (tb_7 _ (List.mem_of_getElem? (i := 222) rfl))
theorem ml_RL_222 : ab_ML RL 222 yX8_shared := Or.inl (tb_4 _ (List.mem_of_getElem? (i := 168) rfl))
theorem ml_RL_225 : ab_ML RL 225 yX9_shared := Or.inl (tb_7 _ (List.mem_of_getElem? (i := 190) rfl))
theorem my_X8_address : ab_MY yX8_address cX8_address 7 2 (some .int) := ⟨tb_4 _ (List.mem_of_getElem? (i := 20) rfl), tb_1 _ (List.mem_of_getElem? (i := 1) rfl), ⟨by decide +kernel, by decide +kernel⟩, by decide +kernel⟩
theorem my_X8_adds : ab_MY yX8_adds cX8_adds 2 0 (some .int) := ⟨tb_5 _ (List.mem_of_getElem? (i := 18) rfl), tb_1 _ (List.mem_of_getElem? (i := 1) rfl), ⟨by decide +kernel, by decide +kernel⟩, by decide +kernel⟩
theorem my_X8_alike : ab_MY yX8_alike cX8_alike 3 2 (some .int) := ⟨tb_4 _ (List.mem_of_getElem? (i := 211) rfl), tb_1 _ (List.mem_of_getElem? (i := 1) rfl), ⟨by decide +kernel, by decide +kernel⟩, by decide +kernel⟩
theorem my_X8_apart : ab_MY yX8_apart cX8_apart 5 1 (some .int) := ⟨tb_5 _ (List.mem_of_getElem? (i := 14) rfl), tb_1 _ (List.mem_of_getElem? (i := 1) rfl), ⟨by decide +kernel, by decide +kernel⟩, by decide +kernel⟩
theorem my_X8_at : ab_MY yX8_at cX8_at 2 1 (some .int) := ⟨tb_3 _ (List.mem_of_getElem? (i := 229) rfl), tb_1 _ (List.mem_of_getElem? (i := 1) rfl), ⟨by decide +kernel, by decide +kernel⟩, by decide +kernel⟩
theorem my_X8_begins : ab_MY yX8_begins cX8_begins 9 1 (some .int) := ⟨tb_4 _ (List.mem_of_getElem? (i := 118) rfl), tb_1 _ (List.mem_of_getElem? (i := 1) rfl), ⟨by decide +kernel, by decide +kernel⟩, by decide +kernel⟩
theorem my_X8_beside : ab_MY yX8_beside cX8_beside 7 3 (some .int) := ⟨tb_4 _ (List.mem_of_getElem? (i := 175) rfl), tb_1 _ (List.mem_of_getElem? (i := 1) rfl), ⟨by decide +kernel, by decide +kernel⟩, by decide +kernel⟩
theorem my_X8_chain : ab_MY yX8_chain cX8_chain 3 2 (some .int) := ⟨tb_4 _ (List.mem_of_getElem? (i := 183) rfl), tb_1 _ (List.mem_of_getElem? (i := 1) rfl), ⟨by decide +kernel, by decide +kernel⟩, by decide +kernel⟩
theorem my_X8_common : ab_MY yX8_common cX8_common 5 3 (some .int) := ⟨tb_4 _ (List.mem_of_getElem? (i := 235) rfl), tb_1 _ (List.mem_of_getElem? (i := 1) rfl), ⟨by decide +kernel, by decide +kernel⟩, by decide +kernel⟩
theorem my_X8_count : ab_MY yX8_count cX8_count 2 1 (some .int) := ⟨tb_3 _ (List.mem_of_getElem? (i := 151) rfl), tb_1 _ (List.mem_of_getElem? (i := 1) rfl), ⟨by decide +kernel, by decide +kernel⟩, by decide +kernel⟩
theorem my_X8_cover : ab_MY yX8_cover cX8_cover 3 0 (some .int) := ⟨tb_4 _ (List.mem_of_getElem? (i := 203) rfl), tb_1 _ (List.mem_of_getElem? (i := 1) rfl), ⟨by decide +kernel, by decide +kernel⟩, by decide +kernel⟩
theorem my_X8_crossed : ab_MY yX8_crossed cX8_crossed 3 2 (some .int) := ⟨tb_4 _ (List.mem_of_getElem? (i := 57) rfl), tb_1 _ (List.mem_of_getElem? (i := 1) rfl), ⟨by decide +kernel, by decide +kernel⟩, by decide +kernel⟩
theorem my_X8_drops : ab_MY yX8_drops cX8_drops 2 1 (some .int) := ⟨tb_5 _ (List.mem_of_getElem? (i := 31) rfl), tb_1 _ (List.mem_of_getElem? (i := 1) rfl), ⟨by decide +kernel, by decide +kernel⟩, by decide +kernel⟩
theorem my_X8_end : ab_MY yX8_end cX8_end 2 1 (some .int) := ⟨tb_2 _ (List.mem_of_getElem? (i := 198) rfl), tb_1 _ (List.mem_of_getElem? (i := 1) rfl), ⟨by decide +kernel, by decide +kernel⟩, by decide +kernel⟩
theorem my_X8_entry : ab_MY yX8_entry cX8_entry 4 2 (some .int) := ⟨tb_3 _ (List.mem_of_getElem? (i := 235) rfl), tb_1 _ (List.mem_of_getElem? (i := 1) rfl), ⟨by decide +kernel, by decide +kernel⟩, by decide +kernel⟩
theorem my_X8_fault : ab_MY yX8_fault cX8_fault 2 1 (some .int) := ⟨tb_3 _ (List.mem_of_getElem? (i := 147) rfl), tb_1 _ (List.mem_of_getElem? (i := 1) rfl), ⟨by decide +kernel, by decide +kernel⟩, by decide +kernel⟩
theorem my_X8_feed : ab_MY yX8_feed cX8_feed 6 5 (some .int) := ⟨tb_2 _ (List.mem_of_getElem? (i := 186) rfl), tb_1 _ (List.mem_of_getElem? (i := 1) rfl), ⟨by decide +kernel, by decide +kernel⟩, by decide +kernel⟩
theorem my_X8_find : ab_MY yX8_find cX8_find 3 0 (some .int) := ⟨tb_3 _ (List.mem_of_getElem? (i := 214) rfl), tb_1 _ (List.mem_of_getElem? (i := 1) rfl), ⟨by decide +kernel, by decide +kernel⟩, by decide +kernel⟩
theorem my_X8_forget : ab_MY yX8_forget cX8_forget 2 1 (some .int) := ⟨tb_5 _ (List.mem_of_getElem? (i := 63) rfl), tb_1 _ (List.mem_of_getElem? (i := 1) rfl), ⟨by decide +kernel, by decide +kernel⟩, by decide +kernel⟩
theorem my_X8_gather : ab_MY yX8_gather cX8_gather 5 2 (some .int) := ⟨tb_4 _ (List.mem_of_getElem? (i := 167) rfl), tb_1 _ (List.mem_of_getElem? (i := 1) rfl), ⟨by decide +kernel, by decide +kernel⟩, by decide +kernel⟩
theorem my_X8_groups : ab_MY yX8_groups cX8_groups 4 0 (some .int) := ⟨tb_4 _ (List.mem_of_getElem? (i := 195) rfl), tb_1 _ (List.mem_of_getElem? (i := 1) rfl), ⟨by decide +kernel, by decide +kernel⟩, by decide +kernel⟩
theorem my_X8_having : ab_MY yX8_having cX8_having 3 2 (some .int) := ⟨tb_4 _ (List.mem_of_getElem? (i := 125) rfl), tb_1 _ (List.mem_of_getElem? (i := 1) rfl), ⟨by decide +kernel, by decide +kernel⟩, by decide +kernel⟩
theorem my_X8_head : ab_MY yX8_head cX8_head 5 2 (some .int) := ⟨tb_4 _ (List.mem_of_getElem? (i := 24) rfl), tb_1 _ (List.mem_of_getElem? (i := 1) rfl), ⟨by decide +kernel, by decide +kernel⟩, by decide +kernel⟩
theorem my_X8_init : ab_MY yX8_init cX8_init 1 0 none := ⟨tb_1 _ (List.mem_of_getElem? (i := 22) rfl), tb_1 _ (List.mem_of_getElem? (i := 1) rfl), ⟨by decide +kernel, by decide +kernel⟩, by decide +kernel⟩
theorem my_X8_law : ab_MY yX8_law cX8_law 4 2 (some .int) := ⟨tb_5 _ (List.mem_of_getElem? (i := 39) rfl), tb_1 _ (List.mem_of_getElem? (i := 1) rfl), ⟨by decide +kernel, by decide +kernel⟩, by decide +kernel⟩
theorem my_X8_lead : ab_MY yX8_lead cX8_lead 5 3 (some .int) := ⟨tb_5 _ (List.mem_of_getElem? (i := 43) rfl), tb_1 _ (List.mem_of_getElem? (i := 1) rfl), ⟨by decide +kernel, by decide +kernel⟩, by decide +kernel⟩
theorem my_X8_letter : ab_MY yX8_letter cX8_letter 3 2 (some .int) := ⟨tb_3 _ (List.mem_of_getElem? (i := 199) rfl), tb_1 _ (List.mem_of_getElem? (i := 1) rfl), ⟨by decide +kernel, by decide +kernel⟩, by decide +kernel⟩
theorem my_X8_line : ab_MY yX8_line cX8_line 4 2 (some .int) := ⟨tb_4 _ (List.mem_of_getElem? (i := 4) rfl), tb_1 _ (List.mem_of_getElem? (i := 1) rfl), ⟨by decide +kernel, by decide +kernel⟩, by decide +kernel⟩
theorem my_X8_longest : ab_MY yX8_longest cX8_longest 5 0 (some .int) := ⟨tb_4 _ (List.mem_of_getElem? (i := 114) rfl), tb_1 _ (List.mem_of_getElem? (i := 1) rfl), ⟨by decide +kernel, by decide +kernel⟩, by decide +kernel⟩
theorem my_X8_lost : ab_MY yX8_lost cX8_lost 2 1 (some .int) := ⟨tb_4 _ (List.mem_of_getElem? (i := 41) rfl), tb_1 _ (List.mem_of_getElem? (i := 1) rfl), ⟨by decide +kernel, by decide +kernel⟩, by decide +kernel⟩
theorem my_X8_most : ab_MY yX8_most cX8_most 3 1 (some .int) := ⟨tb_4 _ (List.mem_of_getElem? (i := 154) rfl), tb_1 _ (List.mem_of_getElem? (i := 1) rfl), ⟨by decide +kernel, by decide +kernel⟩, by decide +kernel⟩
theorem my_X8_moves : ab_MY yX8_moves cX8_moves 4 2 (some .int) := ⟨tb_5 _ (List.mem_of_getElem? (i := 71) rfl), tb_1 _ (List.mem_of_getElem? (i := 1) rfl), ⟨by decide +kernel, by decide +kernel⟩, by decide +kernel⟩
theorem my_X8_nearest : ab_MY yX8_nearest cX8_nearest 6 1 (some .int) := ⟨tb_5 _ (List.mem_of_getElem? (i := 1) rfl), tb_1 _ (List.mem_of_getElem? (i := 1) rfl), ⟨by decide +kernel, by decide +kernel⟩, by decide +kernel⟩
theorem my_X8_octet : ab_MY yX8_octet cX8_octet 2 1 (some .int) := ⟨tb_4 _ (List.mem_of_getElem? (i := 110) rfl), tb_1 _ (List.mem_of_getElem? (i := 1) rfl), ⟨by decide +kernel, by decide +kernel⟩, by decide +kernel⟩
theorem my_X8_often : ab_MY yX8_often cX8_often 2 1 (some .int) := ⟨tb_4 _ (List.mem_of_getElem? (i := 145) rfl), tb_1 _ (List.mem_of_getElem? (i := 1) rfl), ⟨by decide +kernel, by decide +kernel⟩, by decide +kernel⟩
theorem my_X8_print : ab_MY yX8_print cX8_print 2 1 (some .int) := ⟨tb_4 _ (List.mem_of_getElem? (i := 72) rfl), tb_1 _ (List.mem_of_getElem? (i := 1) rfl), ⟨by decide +kernel, by decide +kernel⟩, by decide +kernel⟩
theorem my_X8_printAll : ab_MY yX8_printAll cX8_printAll 2 0 (some .int) := ⟨tb_4 _ (List.mem_of_getElem? (i := 97) rfl), tb_1 _ (List.mem_of_getElem? (i := 1) rfl), ⟨by decide +kernel, by decide +kernel⟩, by decide +kernel⟩
theorem my_X8_rarest : ab_MY yX8_rarest cX8_rarest 6 1 (some .int) := ⟨tb_4 _ (List.mem_of_getElem? (i := 163) rfl), tb_1 _ (List.mem_of_getElem? (i := 1) rfl), ⟨by decide +kernel, by decide +kernel⟩, by decide +kernel⟩
theorem my_X8_rebuilt : ab_MY yX8_rebuilt cX8_rebuilt 4 1 (some .int) := ⟨tb_4 _ (List.mem_of_getElem? (i := 36) rfl), tb_1 _ (List.mem_of_getElem? (i := 1) rfl), ⟨by decide +kernel, by decide +kernel⟩, by decide +kernel⟩
theorem my_X8_row : ab_MY yX8_row cX8_row 7 3 (some .int) := ⟨tb_4 _ (List.mem_of_getElem? (i := 0) rfl), tb_1 _ (List.mem_of_getElem? (i := 1) rfl), ⟨by decide +kernel, by decide +kernel⟩, by decide +kernel⟩
theorem my_X8_see : ab_MY yX8_see cX8_see 3 2 (some .int) := ⟨tb_5 _ (List.mem_of_getElem? (i := 58) rfl), tb_1 _ (List.mem_of_getElem? (i := 1) rfl), ⟨by decide +kernel, by decide +kernel⟩, by decide +kernel⟩
theorem my_X8_senses : ab_MY yX8_senses cX8_senses 3 0 (some .int) := ⟨tb_5 _ (List.mem_of_getElem? (i := 5) rfl), tb_1 _ (List.mem_of_getElem? (i := 1) rfl), ⟨by decide +kernel, by decide +kernel⟩, by decide +kernel⟩
theorem my_X8_shared : ab_MY yX8_shared cX8_shared 4 1 (some .int) := ⟨tb_4 _ (List.mem_of_getElem? (i := 171) rfl), tb_1 _ (List.mem_of_getElem? (i := 1) rfl), ⟨by decide +kernel, by decide +kernel⟩, by decide +kernel⟩
theorem my_X8_sharing : ab_MY yX8_sharing cX8_sharing 3 2 (some .int) := ⟨tb_4 _ (List.mem_of_getElem? (i := 137) rfl), tb_1 _ (List.mem_of_getElem? (i := 1) rfl), ⟨by decide +kernel, by decide +kernel⟩, by decide +kernel⟩
theorem my_X8_shown : ab_MY yX8_shown cX8_shown 5 2 (some .int) := ⟨tb_4 _ (List.mem_of_getElem? (i := 45) rfl), tb_1 _ (List.mem_of_getElem? (i := 1) rfl), ⟨by decide +kernel, by decide +kernel⟩, by decide +kernel⟩
theorem my_X8_string : ab_MY yX8_string cX8_string 3 2 (some .int) := ⟨tb_3 _ (List.mem_of_getElem? (i := 159) rfl), tb_1 _ (List.mem_of_getElem? (i := 1) rfl), ⟨by decide +kernel, by decide +kernel⟩, by decide +kernel⟩
theorem my_X8_swaps : ab_MY yX8_swaps cX8_swaps 6 3 (some .int) := ⟨tb_5 _ (List.mem_of_getElem? (i := 47) rfl), tb_1 _ (List.mem_of_getElem? (i := 1) rfl), ⟨by decide +kernel, by decide +kernel⟩, by decide +kernel⟩
theorem my_X8_term : ab_MY yX8_term cX8_term 5 3 (some .int) := ⟨tb_3 _ (List.mem_of_getElem? (i := 185) rfl), tb_1 _ (List.mem_of_getElem? (i := 1) rfl), ⟨by decide +kernel, by decide +kernel⟩, by decide +kernel⟩
theorem my_X8_text : ab_MY yX8_text cX8_text 2 0 (some .int) := ⟨tb_2 _ (List.mem_of_getElem? (i := 202) rfl), tb_1 _ (List.mem_of_getElem? (i := 1) rfl), ⟨by decide +kernel, by decide +kernel⟩, by decide +kernel⟩
theorem my_X8_twins : ab_MY yX8_twins cX8_twins 5 1 (some .int) := ⟨tb_4 _ (List.mem_of_getElem? (i := 53) rfl), tb_1 _ (List.mem_of_getElem? (i := 1) rfl), ⟨by decide +kernel, by decide +kernel⟩, by decide +kernel⟩
theorem my_X8_undo : ab_MY yX8_undo cX8_undo 1 0 (some .int) := ⟨tb_5 _ (List.mem_of_getElem? (i := 75) rfl), tb_1 _ (List.mem_of_getElem? (i := 1) rfl), ⟨by decide +kernel, by decide +kernel⟩, by decide +kernel⟩
theorem my_X8_way : ab_MY yX8_way cX8_way 2 1 (some .int) := ⟨tb_3 _ (List.mem_of_getElem? (i := 207) rfl), tb_1 _ (List.mem_of_getElem? (i := 1) rfl), ⟨by decide +kernel, by decide +kernel⟩, by decide +kernel⟩
theorem my_X8_would : ab_MY yX8_would cX8_would 4 3 (some .int) := ⟨tb_4 _ (List.mem_of_getElem? (i := 61) rfl), tb_1 _ (List.mem_of_getElem? (i := 1) rfl), ⟨by decide +kernel, by decide +kernel⟩, by decide +kernel⟩
theorem my_X9_address : ab_MY yX9_address cX9_address 5 2 (some .int) := ⟨tb_7 _ (List.mem_of_getElem? (i := 27) rfl), tb_1 _ (List.mem_of_getElem? (i := 15) rfl), ⟨by decide +kernel, by decide +kernel⟩, by decide +kernel⟩
theorem my_X9_adds : ab_MY yX9_adds cX9_adds 2 0 (some .int) := ⟨tb_6 _ (List.mem_of_getElem? (i := 93) rfl), tb_1 _ (List.mem_of_getElem? (i := 15) rfl), ⟨by decide +kernel, by decide +kernel⟩, by decide +kernel⟩
theorem my_X9_alike : ab_MY yX9_alike cX9_alike 3 2 (some .int) := ⟨tb_7 _ (List.mem_of_getElem? (i := 115) rfl), tb_1 _ (List.mem_of_getElem? (i := 15) rfl), ⟨by decide +kernel, by decide +kernel⟩, by decide +kernel⟩
theorem my_X9_apart : ab_MY yX9_apart cX9_apart 4 1 (some .int) := ⟨tb_7 _ (List.mem_of_getElem? (i := 171) rfl), tb_1 _ (List.mem_of_getElem? (i := 15) rfl), ⟨by decide +kernel, by decide +kernel⟩, by decide +kernel⟩
theorem my_X9_at : ab_MY yX9_at cX9_at 3 1 (some .int) := ⟨tb_6 _ (List.mem_of_getElem? (i := 230) rfl), tb_1 _ (List.mem_of_getElem? (i := 15) rfl), ⟨by decide +kernel, by decide +kernel⟩, by decide +kernel⟩
theorem my_X9_begins : ab_MY yX9_begins cX9_begins 8 1 (some .int) := ⟨tb_7 _ (List.mem_of_getElem? (i := 90) rfl), tb_1 _ (List.mem_of_getElem? (i := 15) rfl), ⟨by decide +kernel, by decide +kernel⟩, by decide +kernel⟩
theorem my_X9_beside : ab_MY yX9_beside cX9_beside 6 3 (some .int) := ⟨tb_7 _ (List.mem_of_getElem? (i := 151) rfl), tb_1 _ (List.mem_of_getElem? (i := 15) rfl), ⟨by decide +kernel, by decide +kernel⟩, by decide +kernel⟩
theorem my_X9_chain : ab_MY yX9_chain cX9_chain 3 2 (some .int) := ⟨tb_7 _ (List.mem_of_getElem? (i := 201) rfl), tb_1 _ (List.mem_of_getElem? (i := 15) rfl), ⟨by decide +kernel, by decide +kernel⟩, by decide +kernel⟩
theorem my_X9_common : ab_MY yX9_common cX9_common 5 3 (some .int) := ⟨tb_7 _ (List.mem_of_getElem? (i := 139) rfl), tb_1 _ (List.mem_of_getElem? (i := 15) rfl), ⟨by decide +kernel, by decide +kernel⟩, by decide +kernel⟩
theorem my_X9_count : ab_MY yX9_count cX9_count 4 1 (some .int) := ⟨tb_6 _ (List.mem_of_getElem? (i := 109) rfl), tb_1 _ (List.mem_of_getElem? (i := 15) rfl), ⟨by decide +kernel, by decide +kernel⟩, by decide +kernel⟩
theorem my_X9_cover : ab_MY yX9_cover cX9_cover 8 0 (some .int) := ⟨tb_7 _ (List.mem_of_getElem? (i := 175) rfl), tb_1 _ (List.mem_of_getElem? (i := 15) rfl), ⟨by decide +kernel, by decide +kernel⟩, by decide +kernel⟩
theorem my_X9_crossed : ab_MY yX9_crossed cX9_crossed 3 2 (some .int) := ⟨tb_7 _ (List.mem_of_getElem? (i := 225) rfl), tb_1 _ (List.mem_of_getElem? (i := 15) rfl), ⟨by decide +kernel, by decide +kernel⟩, by decide +kernel⟩
theorem my_X9_drops : ab_MY yX9_drops cX9_drops 3 1 (some .int) := ⟨tb_7 _ (List.mem_of_getElem? (i := 233) rfl), tb_1 _ (List.mem_of_getElem? (i := 15) rfl), ⟨by decide +kernel, by decide +kernel⟩, by decide +kernel⟩
theorem my_X9_end : ab_MY yX9_end cX9_end 2 1 (some .int) := ⟨tb_5 _ (List.mem_of_getElem? (i := 205) rfl), tb_1 _ (List.mem_of_getElem? (i := 15) rfl), ⟨by decide +kernel, by decide +kernel⟩, by decide +kernel⟩
theorem my_X9_entry : ab_MY yX9_entry cX9_entry 4 2 (some .int) := ⟨tb_6 _ (List.mem_of_getElem? (i := 234) rfl), tb_1 _ (List.mem_of_getElem? (i := 15) rfl), ⟨by decide +kernel, by decide +kernel⟩, by decide +kernel⟩
theorem my_X9_fault : ab_MY yX9_fault cX9_fault 2 1 (some .int) := ⟨tb_6 _ (List.mem_of_getElem? (i := 105) rfl), tb_1 _ (List.mem_of_getElem? (i := 15) rfl), ⟨by decide +kernel, by decide +kernel⟩, by decide +kernel⟩
theorem my_X9_feed : ab_MY yX9_feed cX9_feed 6 5 (some .int) := ⟨tb_5 _ (List.mem_of_getElem? (i := 197) rfl), tb_1 _ (List.mem_of_getElem? (i := 15) rfl), ⟨by decide +kernel, by decide +kernel⟩, by decide +kernel⟩
theorem my_X9_find : ab_MY yX9_find cX9_find 2 0 (some .int) := ⟨tb_6 _ (List.mem_of_getElem? (i := 222) rfl), tb_1 _ (List.mem_of_getElem? (i := 15) rfl), ⟨by decide +kernel, by decide +kernel⟩, by decide +kernel⟩
theorem my_X9_forget : ab_MY yX9_forget cX9_forget 3 1 (some .int) := ⟨tb_8 _ (List.mem_of_getElem? (i := 17) rfl), tb_1 _ (List.mem_of_getElem? (i := 15) rfl), ⟨by decide +kernel, by decide +kernel⟩, by decide +kernel⟩
theorem my_X9_gather : ab_MY yX9_gather cX9_gather 5 2 (some .int) := ⟨tb_7 _ (List.mem_of_getElem? (i := 185) rfl), tb_1 _ (List.mem_of_getElem? (i := 15) rfl), ⟨by decide +kernel, by decide +kernel⟩, by decide +kernel⟩
theorem my_X9_groups : ab_MY yX9_groups cX9_groups 5 0 (some .int) := ⟨tb_7 _ (List.mem_of_getElem? (i := 209) rfl), tb_1 _ (List.mem_of_getElem? (i := 15) rfl), ⟨by decide +kernel, by decide +kernel⟩, by decide +kernel⟩
theorem my_X9_having : ab_MY yX9_having cX9_having 3 2 (some .int) := ⟨tb_7 _ (List.mem_of_getElem? (i := 94) rfl), tb_1 _ (List.mem_of_getElem? (i := 15) rfl), ⟨by decide +kernel, by decide +kernel⟩, by decide +kernel⟩
theorem my_X9_head : ab_MY yX9_head cX9_head 6 2 (some .int) := ⟨tb_7 _ (List.mem_of_getElem? (i := 31) rfl), tb_1 _ (List.mem_of_getElem? (i := 15) rfl), ⟨by decide +kernel, by decide +kernel⟩, by decide +kernel⟩
theorem my_X9_init : ab_MY yX9_init cX9_init 1 0 none := ⟨tb_5 _ (List.mem_of_getElem? (i := 84) rfl), tb_1 _ (List.mem_of_getElem? (i := 15) rfl), ⟨by decide +kernel, by decide +kernel⟩, by decide +kernel⟩
theorem my_X9_law : ab_MY yX9_law cX9_law 4 2 (some .int) := ⟨tb_7 _ (List.mem_of_getElem? (i := 237) rfl), tb_1 _ (List.mem_of_getElem? (i := 15) rfl), ⟨by decide +kernel, by decide +kernel⟩, by decide +kernel⟩
theorem my_X9_lead : ab_MY yX9_lead cX9_lead 5 3 (some .int) := ⟨tb_8 _ (List.mem_of_getElem? (i := 1) rfl), tb_1 _ (List.mem_of_getElem? (i := 15) rfl), ⟨by decide +kernel, by decide +kernel⟩, by decide +kernel⟩
theorem my_X9_letter : ab_MY yX9_letter cX9_letter 3 2 (some .int) := ⟨tb_6 _ (List.mem_of_getElem? (i := 209) rfl), tb_1 _ (List.mem_of_getElem? (i := 15) rfl), ⟨by decide +kernel, by decide +kernel⟩, by decide +kernel⟩
theorem my_X9_line : ab_MY yX9_line cX9_line 3 2 (some .int) := ⟨tb_7 _ (List.mem_of_getElem? (i := 2) rfl), tb_1 _ (List.mem_of_getElem? (i := 15) rfl), ⟨by decide +kernel, by decide +kernel⟩, by decide +kernel⟩
theorem my_X9_longest : ab_MY yX9_longest cX9_longest 4 0 (some .int) := ⟨tb_7 _ (List.mem_of_getElem? (i := 82) rfl), tb_1 _ (List.mem_of_getElem? (i := 15) rfl), ⟨by decide +kernel, by decide +kernel⟩, by decide +kernel⟩
theorem my_X9_lost : ab_MY yX9_lost cX9_lost 6 1 (some .int) := ⟨tb_7 _ (List.mem_of_getElem? (i := 197) rfl), tb_1 _ (List.mem_of_getElem? (i := 15) rfl), ⟨by decide +kernel, by decide +kernel⟩, by decide +kernel⟩
theorem my_X9_most : ab_MY yX9_most cX9_most 5 1 (some .int) := ⟨tb_7 _ (List.mem_of_getElem? (i := 167) rfl), tb_1 _ (List.mem_of_getElem? (i := 15) rfl), ⟨by decide +kernel, by decide +kernel⟩, by decide +kernel⟩
theorem my_X9_moves : ab_MY yX9_moves cX9_moves 5 2 (some .int) := ⟨tb_8 _ (List.mem_of_getElem? (i := 21) rfl), tb_1 _ (List.mem_of_getElem? (i := 15) rfl), ⟨by decide +kernel, by decide +kernel⟩, by decide +kernel⟩
theorem my_X9_nearest : ab_MY yX9_nearest cX9_nearest 5 1 (some .int) := ⟨tb_7 _ (List.mem_of_getElem? (i := 143) rfl), tb_1 _ (List.mem_of_getElem? (i := 15) rfl), ⟨by decide +kernel, by decide +kernel⟩, by decide +kernel⟩
theorem my_X9_octet : ab_MY yX9_octet cX9_octet 2 1 (some .int) := ⟨tb_7 _ (List.mem_of_getElem? (i := 78) rfl), tb_1 _ (List.mem_of_getElem? (i := 15) rfl), ⟨by decide +kernel, by decide +kernel⟩, by decide +kernel⟩
theorem my_X9_often : ab_MY yX9_often cX9_often 2 1 (some .int) := ⟨tb_7 _ (List.mem_of_getElem? (i := 159) rfl), tb_1 _ (List.mem_of_getElem? (i := 15) rfl), ⟨by decide +kernel, by decide +kernel⟩, by decide +kernel⟩
theorem my_X9_print : ab_MY yX9_print cX9_print 2 1 (some .int) := ⟨tb_7 _ (List.mem_of_getElem? (i := 46) rfl), tb_1 _ (List.mem_of_getElem? (i := 15) rfl), ⟨by decide +kernel, by decide +kernel⟩, by decide +kernel⟩
theorem my_X9_printAll : ab_MY yX9_printAll cX9_printAll 2 0 (some .int) := ⟨tb_7 _ (List.mem_of_getElem? (i := 74) rfl), tb_1 _ (List.mem_of_getElem? (i := 15) rfl), ⟨by decide +kernel, by decide +kernel⟩, by decide +kernel⟩
theorem my_X9_rarest : ab_MY yX9_rarest cX9_rarest 4 1 (some .int) := ⟨tb_7 _ (List.mem_of_getElem? (i := 221) rfl), tb_1 _ (List.mem_of_getElem? (i := 15) rfl), ⟨by decide +kernel, by decide +kernel⟩, by decide +kernel⟩
theorem my_X9_rebuilt : ab_MY yX9_rebuilt cX9_rebuilt 4 1 (some .int) := ⟨tb_7 _ (List.mem_of_getElem? (i := 86) rfl), tb_1 _ (List.mem_of_getElem? (i := 15) rfl), ⟨by decide +kernel, by decide +kernel⟩, by decide +kernel⟩
theorem my_X9_row : ab_MY yX9_row cX9_row 5 3 (some .int) := ⟨tb_6 _ (List.mem_of_getElem? (i := 238) rfl), tb_1 _ (List.mem_of_getElem? (i := 15) rfl), ⟨by decide +kernel, by decide +kernel⟩, by decide +kernel⟩
theorem my_X9_see : ab_MY yX9_see cX9_see 3 2 (some .int) := ⟨tb_8 _ (List.mem_of_getElem? (i := 13) rfl), tb_1 _ (List.mem_of_getElem? (i := 15) rfl), ⟨by decide +kernel, by decide +kernel⟩, by decide +kernel⟩
theorem my_X9_senses : ab_MY yX9_senses cX9_senses 5 0 (some .int) := ⟨tb_7 _ (List.mem_of_getElem? (i := 147) rfl), tb_1 _ (List.mem_of_getElem? (i := 15) rfl), ⟨by decide +kernel, by decide +kernel⟩, by decide +kernel⟩
theorem my_X9_shared : ab_MY yX9_shared cX9_shared 4 1 (some .int) := ⟨tb_7 _ (List.mem_of_getElem? (i := 193) rfl), tb_1 _ (List.mem_of_getElem? (i := 15) rfl), ⟨by decide +kernel, by decide +kernel⟩, by decide +kernel⟩
theorem my_X9_sharing : ab_MY yX9_sharing cX9_sharing 3 2 (some .int) := ⟨tb_7 _ (List.mem_of_getElem? (i := 107) rfl), tb_1 _ (List.mem_of_getElem? (i := 15) rfl), ⟨by decide +kernel, by decide +kernel⟩, by decide +kernel⟩
theorem my_X9_shown : ab_MY yX9_shown cX9_shown 9 2 (some .int) := ⟨tb_7 _ (List.mem_of_getElem? (i := 213) rfl), tb_1 _ (List.mem_of_getElem? (i := 15) rfl), ⟨by decide +kernel, by decide +kernel⟩, by decide +kernel⟩
theorem my_X9_string : ab_MY yX9_string cX9_string 5 2 (some .int) := ⟨tb_6 _ (List.mem_of_getElem? (i := 177) rfl), tb_1 _ (List.mem_of_getElem? (i := 15) rfl), ⟨by decide +kernel, by decide +kernel⟩, by decide +kernel⟩
theorem my_X9_swaps : ab_MY yX9_swaps cX9_swaps 7 3 (some .int) := ⟨tb_8 _ (List.mem_of_getElem? (i := 5) rfl), tb_1 _ (List.mem_of_getElem? (i := 15) rfl), ⟨by decide +kernel, by decide +kernel⟩, by decide +kernel⟩
theorem my_X9_term : ab_MY yX9_term cX9_term 5 3 (some .int) := ⟨tb_6 _ (List.mem_of_getElem? (i := 194) rfl), tb_1 _ (List.mem_of_getElem? (i := 15) rfl), ⟨by decide +kernel, by decide +kernel⟩, by decide +kernel⟩
theorem my_X9_text : ab_MY yX9_text cX9_text 3 0 (some .int) := ⟨tb_5 _ (List.mem_of_getElem? (i := 212) rfl), tb_1 _ (List.mem_of_getElem? (i := 15) rfl), ⟨by decide +kernel, by decide +kernel⟩, by decide +kernel⟩
theorem my_X9_twins : ab_MY yX9_twins cX9_twins 5 1 (some .int) := ⟨tb_7 _ (List.mem_of_getElem? (i := 217) rfl), tb_1 _ (List.mem_of_getElem? (i := 15) rfl), ⟨by decide +kernel, by decide +kernel⟩, by decide +kernel⟩
theorem my_X9_undo : ab_MY yX9_undo cX9_undo 2 0 (some .int) := ⟨tb_7 _ (List.mem_of_getElem? (i := 229) rfl), tb_1 _ (List.mem_of_getElem? (i := 15) rfl), ⟨by decide +kernel, by decide +kernel⟩, by decide +kernel⟩
theorem my_X9_way : ab_MY yX9_way cX9_way 2 1 (some .int) := ⟨tb_6 _ (List.mem_of_getElem? (i := 217) rfl), tb_1 _ (List.mem_of_getElem? (i := 15) rfl), ⟨by decide +kernel, by decide +kernel⟩, by decide +kernel⟩
theorem my_X9_would : ab_MY yX9_would cX9_would 6 3 (some .int) := ⟨tb_7 _ (List.mem_of_getElem? (i := 180) rfl), tb_1 _ (List.mem_of_getElem? (i := 15) rfl), ⟨by decide +kernel, by decide +kernel⟩, by decide +kernel⟩
theorem mv_X8_address : ab_MV yX8_address 8 := ⟨tb_4 _ (List.mem_of_getElem? (i := 18) rfl), tb_4 _ (List.mem_of_getElem? (i := 19) rfl), TX8, 11, rfl, by decide⟩
theorem mv_X8_adds : ab_MV yX8_adds 8 := ⟨tb_5 _ (List.mem_of_getElem? (i := 16) rfl), tb_5 _ (List.mem_of_getElem? (i := 17) rfl), TX8, 11, rfl, by decide⟩
theorem mv_X8_alike : ab_MV yX8_alike 8 := ⟨tb_4 _ (List.mem_of_getElem? (i := 209) rfl), tb_4 _ (List.mem_of_getElem? (i := 210) rfl), TX8, 11, rfl, by decide⟩
theorem mv_X8_apart : ab_MV yX8_apart 8 := ⟨tb_5 _ (List.mem_of_getElem? (i := 12) rfl), tb_5 _ (List.mem_of_getElem? (i := 13) rfl), TX8, 11, rfl, by decide⟩
theorem mv_X8_at : ab_MV yX8_at 8 := ⟨tb_3 _ (List.mem_of_getElem? (i := 227) rfl), tb_3 _ (List.mem_of_getElem? (i := 228) rfl), TX8, 11, rfl, by decide⟩
theorem mv_X8_begins : ab_MV yX8_begins 8 := ⟨tb_4 _ (List.mem_of_getElem? (i := 116) rfl), tb_4 _ (List.mem_of_getElem? (i := 117) rfl), TX8, 11, rfl, by decide⟩
theorem mv_X8_beside : ab_MV yX8_beside 8 := ⟨tb_4 _ (List.mem_of_getElem? (i := 173) rfl), tb_4 _ (List.mem_of_getElem? (i := 174) rfl), TX8, 11, rfl, by decide⟩
theorem mv_X8_chain : ab_MV yX8_chain 8 := ⟨tb_4 _ (List.mem_of_getElem? (i := 181) rfl), tb_4 _ (List.mem_of_getElem? (i := 182) rfl), TX8, 11, rfl, by decide⟩
theorem mv_X8_common : ab_MV yX8_common 8 := ⟨tb_4 _ (List.mem_of_getElem? (i := 233) rfl), tb_4 _ (List.mem_of_getElem? (i := 234) rfl), TX8, 11, rfl, by decide⟩
theorem mv_X8_count : ab_MV yX8_count 8 := ⟨tb_3 _ (List.mem_of_getElem? (i := 149) rfl), tb_3 _ (List.mem_of_getElem? (i := 150) rfl), TX8, 11, rfl, by decide⟩
theorem mv_X8_cover : ab_MV yX8_cover 8 := ⟨tb_4 _ (List.mem_of_getElem? (i := 201) rfl), tb_4 _ (List.mem_of_getElem? (i := 202) rfl), TX8, 11, rfl, by decide⟩
theorem mv_X8_crossed : ab_MV yX8_crossed 8 := ⟨tb_4 _ (List.mem_of_getElem? (i := 55) rfl), tb_4 _ (List.mem_of_getElem? (i := 56) rfl), TX8, 11, rfl, by decide⟩
theorem mv_X8_drops : ab_MV yX8_drops 8 := ⟨tb_5 _ (List.mem_of_getElem? (i := 29) rfl), tb_5 _ (List.mem_of_getElem? (i := 30) rfl), TX8, 11, rfl, by decide⟩
theorem mv_X8_end : ab_MV yX8_end 8 := ⟨tb_2 _ (List.mem_of_getElem? (i := 196) rfl), tb_2 _ (List.mem_of_getElem? (i := 197) rfl), TX8, 11, rfl, by decide⟩
theorem mv_X8_entry : ab_MV yX8_entry 8 := ⟨tb_3 _ (List.mem_of_getElem? (i := 233) rfl), tb_3 _ (List.mem_of_getElem? (i := 234) rfl), TX8, 11, rfl, by decide⟩
theorem mv_X8_fault : ab_MV yX8_fault 8 := ⟨tb_3 _ (List.mem_of_getElem? (i := 145) rfl), tb_3 _ (List.mem_of_getElem? (i := 146) rfl), TX8, 11, rfl, by decide⟩
theorem mv_X8_feed : ab_MV yX8_feed 8 := ⟨tb_2 _ (List.mem_of_getElem? (i := 184) rfl), tb_2 _ (List.mem_of_getElem? (i := 185) rfl), TX8, 11, rfl, by decide⟩
theorem mv_X8_find : ab_MV yX8_find 8 := ⟨tb_3 _ (List.mem_of_getElem? (i := 212) rfl), tb_3 _ (List.mem_of_getElem? (i := 213) rfl), TX8, 11, rfl, by decide⟩
theorem mv_X8_forget : ab_MV yX8_forget 8 := ⟨tb_5 _ (List.mem_of_getElem? (i := 61) rfl), tb_5 _ (List.mem_of_getElem? (i := 62) rfl), TX8, 11, rfl, by decide⟩
theorem mv_X8_gather : ab_MV yX8_gather 8 := ⟨tb_4 _ (List.mem_of_getElem? (i := 165) rfl), tb_4 _ (List.mem_of_getElem? (i := 166) rfl), TX8, 11, rfl, by decide⟩
theorem mv_X8_groups : ab_MV yX8_groups 8 := ⟨tb_4 _ (List.mem_of_getElem? (i := 193) rfl), tb_4 _ (List.mem_of_getElem? (i := 194) rfl), TX8, 11, rfl, by decide⟩
theorem mv_X8_having : ab_MV yX8_having 8 := ⟨tb_4 _ (List.mem_of_getElem? (i := 123) rfl), tb_4 _ (List.mem_of_getElem? (i := 124) rfl), TX8, 11, rfl, by decide⟩
theorem mv_X8_head : ab_MV yX8_head 8 := ⟨tb_4 _ (List.mem_of_getElem? (i := 22) rfl), tb_4 _ (List.mem_of_getElem? (i := 23) rfl), TX8, 11, rfl, by decide⟩
theorem mv_X8_law : ab_MV yX8_law 8 := ⟨tb_5 _ (List.mem_of_getElem? (i := 37) rfl), tb_5 _ (List.mem_of_getElem? (i := 38) rfl), TX8, 11, rfl, by decide⟩
theorem mv_X8_lead : ab_MV yX8_lead 8 := ⟨tb_5 _ (List.mem_of_getElem? (i := 41) rfl), tb_5 _ (List.mem_of_getElem? (i := 42) rfl), TX8, 11, rfl, by decide⟩
theorem mv_X8_letter : ab_MV yX8_letter 8 := ⟨tb_3 _ (List.mem_of_getElem? (i := 197) rfl), tb_3 _ (List.mem_of_getElem? (i := 198) rfl), TX8, 11, rfl, by decide⟩
theorem mv_X8_line : ab_MV yX8_line 8 := ⟨tb_4 _ (List.mem_of_getElem? (i := 2) rfl), tb_4 _ (List.mem_of_getElem? (i := 3) rfl), TX8, 11, rfl, by decide⟩
theorem mv_X8_longest : ab_MV yX8_longest 8 := ⟨tb_4 _ (List.mem_of_getElem? (i := 112) rfl), tb_4 _ (List.mem_of_getElem? (i := 113) rfl), TX8, 11, rfl, by decide⟩
theorem mv_X8_lost : ab_MV yX8_lost 8 := ⟨tb_4 _ (List.mem_of_getElem? (i := 39) rfl), tb_4 _ (List.mem_of_getElem? (i := 40) rfl), TX8, 11, rfl, by decide⟩
theorem mv_X8_most : ab_MV yX8_most 8 := ⟨tb_4 _ (List.mem_of_getElem? (i := 152) rfl), tb_4 _ (List.mem_of_getElem? (i := 153) rfl), TX8, 11, rfl, by decide⟩
theorem mv_X8_moves : ab_MV yX8_moves 8 := ⟨tb_5 _ (List.mem_of_getElem? (i := 69) rfl), tb_5 _ (List.mem_of_getElem? (i := 70) rfl), TX8, 11, rfl, by decide⟩
theorem mv_X8_nearest : ab_MV yX8_nearest 8 := ⟨tb_4 _ (List.mem_of_getElem? (i := 239) rfl), tb_5 _ (List.mem_of_getElem? (i := 0) rfl), TX8, 11, rfl, by decide⟩
theorem mv_X8_octet : ab_MV yX8_octet 8 := ⟨tb_4 _ (List.mem_of_getElem? (i := 108) rfl), tb_4 _ (List.mem_of_getElem? (i := 109) rfl), TX8, 11, rfl, by decide⟩
theorem mv_X8_often : ab_MV yX8_often 8 := ⟨tb_4 _ (List.mem_of_getElem? (i := 143) rfl), tb_4 _ (List.mem_of_getElem? (i := 144) rfl), TX8, 11, rfl, by decide⟩
theorem mv_X8_print : ab_MV yX8_print 8 := ⟨tb_4 _ (List.mem_of_getElem? (i := 70) rfl), tb_4 _ (List.mem_of_getElem? (i := 71) rfl), TX8, 11, rfl, by decide⟩
theorem mv_X8_printAll : ab_MV yX8_printAll 8 := ⟨tb_4 _ (List.mem_of_getElem? (i := 95) rfl), tb_4 _ (List.mem_of_getElem? (i := 96) rfl), TX8, 11, rfl, by decide⟩
theorem mv_X8_rarest : ab_MV yX8_rarest 8 := ⟨tb_4 _ (List.mem_of_getElem? (i := 161) rfl), tb_4 _ (List.mem_of_getElem? (i := 162) rfl), TX8, 11, rfl, by decide⟩
theorem mv_X8_rebuilt : ab_MV yX8_rebuilt 8 := ⟨tb_4 _ (List.mem_of_getElem? (i := 34) rfl), tb_4 _ (List.mem_of_getElem? (i := 35) rfl), TX8, 11, rfl, by decide⟩
theorem mv_X8_row : ab_MV yX8_row 8 := ⟨tb_3 _ (List.mem_of_getElem? (i := 238) rfl), tb_3 _ (List.mem_of_getElem? (i := 239) rfl), TX8, 11, rfl, by decide⟩
theorem mv_X8_see : ab_MV yX8_see 8 := ⟨tb_5 _ (List.mem_of_getElem? (i := 56) rfl), tb_5 _ (List.mem_of_getElem? (i := 57) rfl), TX8, 11, rfl, by decide⟩
theorem mv_X8_senses : ab_MV yX8_senses 8 := ⟨tb_5 _ (List.mem_of_getElem? (i := 3) rfl), tb_5 _ (List.mem_of_getElem? (i := 4) rfl), TX8, 11, rfl, by decide⟩
theorem mv_X8_shared : ab_MV yX8_shared 8 := ⟨tb_4 _ (List.mem_of_getElem? (i := 169) rfl), tb_4 _ (List.mem_of_getElem? (i := 170) rfl), TX8, 11, rfl, by decide⟩
theorem mv_X8_sharing : ab_MV yX8_sharing 8 := ⟨tb_4 _ (List.mem_of_getElem? (i := 135) rfl), tb_4 _ (List.mem_of_getElem? (i := 136) rfl), TX8, 11, rfl, by decide⟩
theorem mv_X8_shown : ab_MV yX8_shown 8 := ⟨tb_4 _ (List.mem_of_getElem? (i := 43) rfl), tb_4 _ (List.mem_of_getElem? (i := 44) rfl), TX8, 11, rfl, by decide⟩
theorem mv_X8_string : ab_MV yX8_string 8 := ⟨tb_3 _ (List.mem_of_getElem? (i := 157) rfl), tb_3 _ (List.mem_of_getElem? (i := 158) rfl), TX8, 11, rfl, by decide⟩
theorem mv_X8_swaps : ab_MV yX8_swaps 8 := ⟨tb_5 _ (List.mem_of_getElem? (i := 45) rfl), tb_5 _ (List.mem_of_getElem? (i := 46) rfl), TX8, 11, rfl, by decide⟩
theorem mv_X8_term : ab_MV yX8_term 8 := ⟨tb_3 _ (List.mem_of_getElem? (i := 183) rfl), tb_3 _ (List.mem_of_getElem? (i := 184) rfl), TX8, 11, rfl, by decide⟩
theorem mv_X8_text : ab_MV yX8_text 8 := ⟨tb_2 _ (List.mem_of_getElem? (i := 200) rfl), tb_2 _ (List.mem_of_getElem? (i := 201) rfl), TX8, 11, rfl, by decide⟩
theorem mv_X8_twins : ab_MV yX8_twins 8 := ⟨tb_4 _ (List.mem_of_getElem? (i := 51) rfl), tb_4 _ (List.mem_of_getElem? (i := 52) rfl), TX8, 11, rfl, by decide⟩
theorem mv_X8_undo : ab_MV yX8_undo 8 := ⟨tb_5 _ (List.mem_of_getElem? (i := 73) rfl), tb_5 _ (List.mem_of_getElem? (i := 74) rfl), TX8, 11, rfl, by decide⟩
theorem mv_X8_way : ab_MV yX8_way 8 := ⟨tb_3 _ (List.mem_of_getElem? (i := 205) rfl), tb_3 _ (List.mem_of_getElem? (i := 206) rfl), TX8, 11, rfl, by decide⟩
theorem mv_X8_would : ab_MV yX8_would 8 := ⟨tb_4 _ (List.mem_of_getElem? (i := 59) rfl), tb_4 _ (List.mem_of_getElem? (i := 60) rfl), TX8, 11, rfl, by decide⟩
theorem mv_X9_address : ab_MV yX9_address 9 := ⟨tb_7 _ (List.mem_of_getElem? (i := 25) rfl), tb_7 _ (List.mem_of_getElem? (i := 26) rfl), TX9, 36, rfl, by decide⟩
theorem mv_X9_adds : ab_MV yX9_adds 9 := ⟨tb_6 _ (List.mem_of_getElem? (i := 91) rfl), tb_6 _ (List.mem_of_getElem? (i := 92) rfl), TX9, 36, rfl, by decide⟩
theorem mv_X9_alike : ab_MV yX9_alike 9 := ⟨tb_7 _ (List.mem_of_getElem? (i := 113) rfl), tb_7 _ (List.mem_of_getElem? (i := 114) rfl), TX9, 36, rfl, by decide⟩
theorem mv_X9_apart : ab_MV yX9_apart 9 := ⟨tb_7 _ (List.mem_of_getElem? (i := 169) rfl), tb_7 _ (List.mem_of_getElem? (i := 170) rfl), TX9, 36, rfl, by decide⟩
theorem mv_X9_at : ab_MV yX9_at 9 := ⟨tb_6 _ (List.mem_of_getElem? (i := 228) rfl), tb_6 _ (List.mem_of_getElem? (i := 229) rfl), TX9, 36, rfl, by decide⟩
theorem mv_X9_begins : ab_MV yX9_begins 9 := ⟨tb_7 _ (List.mem_of_getElem? (i := 88) rfl), tb_7 _ (List.mem_of_getElem? (i := 89) rfl), TX9, 36, rfl, by decide⟩
theorem mv_X9_beside : ab_MV yX9_beside 9 := ⟨tb_7 _ (List.mem_of_getElem? (i := 149) rfl), tb_7 _ (List.mem_of_getElem? (i := 150) rfl), TX9, 36, rfl, by decide⟩
theorem mv_X9_chain : ab_MV yX9_chain 9 := ⟨tb_7 _ (List.mem_of_getElem? (i := 199) rfl), tb_7 _ (List.mem_of_getElem? (i := 200) rfl), TX9, 36, rfl, by decide⟩
theorem mv_X9_common : ab_MV yX9_common 9 := ⟨tb_7 _ (List.mem_of_getElem? (i := 137) rfl), tb_7 _ (List.mem_of_getElem? (i := 138) rfl), TX9, 36, rfl, by decide⟩
theorem mv_X9_count : ab_MV yX9_count 9 := ⟨tb_6 _ (List.mem_of_getElem? (i := 107) rfl), tb_6 _ (List.mem_of_getElem? (i := 108) rfl), TX9, 36, rfl, by decide⟩
theorem mv_X9_cover : ab_MV yX9_cover 9 := ⟨tb_7 _ (List.mem_of_getElem? (i := 173) rfl), tb_7 _ (List.mem_of_getElem? (i := 174) rfl), TX9, 36, rfl, by decide⟩
theorem mv_X9_crossed : ab_MV yX9_crossed 9 := ⟨tb_7 _ (List.mem_of_getElem? (i := 223) rfl), tb_7 _ (List.mem_of_getElem? (i := 224) rfl), TX9, 36, rfl, by decide⟩
theorem mv_X9_drops : ab_MV yX9_drops 9 := ⟨tb_7 _ (List.mem_of_getElem? (i := 231) rfl), tb_7 _ (List.mem_of_getElem? (i := 232) rfl), TX9, 36, rfl, by decide⟩
theorem mv_X9_end : ab_MV yX9_end 9 := ⟨tb_5 _ (List.mem_of_getElem? (i := 203) rfl), tb_5 _ (List.mem_of_getElem? (i := 204) rfl), TX9, 36, rfl, by decide⟩
theorem mv_X9_entry : ab_MV yX9_entry 9 := ⟨tb_6 _ (List.mem_of_getElem? (i := 232) rfl), tb_6 _ (List.mem_of_getElem? (i := 233) rfl), TX9, 36, rfl, by decide⟩
theorem mv_X9_fault : ab_MV yX9_fault 9 := ⟨tb_6 _ (List.mem_of_getElem? (i := 103) rfl), tb_6 _ (List.mem_of_getElem? (i := 104) rfl), TX9, 36, rfl, by decide⟩
theorem mv_X9_feed : ab_MV yX9_feed 9 := ⟨tb_5 _ (List.mem_of_getElem? (i := 195) rfl), tb_5 _ (List.mem_of_getElem? (i := 196) rfl), TX9, 36, rfl, by decide⟩
theorem mv_X9_find : ab_MV yX9_find 9 := ⟨tb_6 _ (List.mem_of_getElem? (i := 220) rfl), tb_6 _ (List.mem_of_getElem? (i := 221) rfl), TX9, 36, rfl, by decide⟩
theorem mv_X9_forget : ab_MV yX9_forget 9 := ⟨tb_8 _ (List.mem_of_getElem? (i := 15) rfl), tb_8 _ (List.mem_of_getElem? (i := 16) rfl), TX9, 36, rfl, by decide⟩
theorem mv_X9_gather : ab_MV yX9_gather 9 := ⟨tb_7 _ (List.mem_of_getElem? (i := 183) rfl), tb_7 _ (List.mem_of_getElem? (i := 184) rfl), TX9, 36, rfl, by decide⟩
theorem mv_X9_groups : ab_MV yX9_groups 9 := ⟨tb_7 _ (List.mem_of_getElem? (i := 207) rfl), tb_7 _ (List.mem_of_getElem? (i := 208) rfl), TX9, 36, rfl, by decide⟩
theorem mv_X9_having : ab_MV yX9_having 9 := ⟨tb_7 _ (List.mem_of_getElem? (i := 92) rfl), tb_7 _ (List.mem_of_getElem? (i := 93) rfl), TX9, 36, rfl, by decide⟩
theorem mv_X9_head : ab_MV yX9_head 9 := ⟨tb_7 _ (List.mem_of_getElem? (i := 29) rfl), tb_7 _ (List.mem_of_getElem? (i := 30) rfl), TX9, 36, rfl, by decide⟩
theorem mv_X9_law : ab_MV yX9_law 9 := ⟨tb_7 _ (List.mem_of_getElem? (i := 235) rfl), tb_7 _ (List.mem_of_getElem? (i := 236) rfl), TX9, 36, rfl, by decide⟩
theorem mv_X9_lead : ab_MV yX9_lead 9 := ⟨tb_7 _ (List.mem_of_getElem? (i := 239) rfl), tb_8 _ (List.mem_of_getElem? (i := 0) rfl), TX9, 36, rfl, by decide⟩
theorem mv_X9_letter : ab_MV yX9_letter 9 := ⟨tb_6 _ (List.mem_of_getElem? (i := 207) rfl), tb_6 _ (List.mem_of_getElem? (i := 208) rfl), TX9, 36, rfl, by decide⟩
theorem mv_X9_line : ab_MV yX9_line 9 := ⟨tb_7 _ (List.mem_of_getElem? (i := 0) rfl), tb_7 _ (List.mem_of_getElem? (i := 1) rfl), TX9, 36, rfl, by decide⟩
theorem mv_X9_longest : ab_MV yX9_longest 9 := ⟨tb_7 _ (List.mem_of_getElem? (i := 80) rfl), tb_7 _ (List.mem_of_getElem? (i := 81) rfl), TX9, 36, rfl, by decide⟩
theorem mv_X9_lost : ab_MV yX9_lost 9 := ⟨tb_7 _ (List.mem_of_getElem? (i := 195) rfl), tb_7 _ (List.mem_of_getElem? (i := 196) rfl), TX9, 36, rfl, by decide⟩
theorem mv_X9_most : ab_MV yX9_most 9 := ⟨tb_7 _ (List.mem_of_getElem? (i := 165) rfl), tb_7 _ (List.mem_of_getElem? (i := 166) rfl), TX9, 36, rfl, by decide⟩
theorem mv_X9_moves : ab_MV yX9_moves 9 := ⟨tb_8 _ (List.mem_of_getElem? (i := 19) rfl), tb_8 _ (List.mem_of_getElem? (i := 20) rfl), TX9, 36, rfl, by decide⟩
theorem mv_X9_nearest : ab_MV yX9_nearest 9 := ⟨tb_7 _ (List.mem_of_getElem? (i := 141) rfl), tb_7 _ (List.mem_of_getElem? (i := 142) rfl), TX9, 36, rfl, by decide⟩
theorem mv_X9_octet : ab_MV yX9_octet 9 := ⟨tb_7 _ (List.mem_of_getElem? (i := 76) rfl), tb_7 _ (List.mem_of_getElem? (i := 77) rfl), TX9, 36, rfl, by decide⟩
theorem mv_X9_often : ab_MV yX9_often 9 := ⟨tb_7 _ (List.mem_of_getElem? (i := 157) rfl), tb_7 _ (List.mem_of_getElem? (i := 158) rfl), TX9, 36, rfl, by decide⟩
theorem mv_X9_print : ab_MV yX9_print 9 := ⟨tb_7 _ (List.mem_of_getElem? (i := 44) rfl), tb_7 _ (List.mem_of_getElem? (i := 45) rfl), TX9, 36, rfl, by decide⟩
theorem mv_X9_printAll : ab_MV yX9_printAll 9 := ⟨tb_7 _ (List.mem_of_getElem? (i := 72) rfl), tb_7 _ (List.mem_of_getElem? (i := 73) rfl), TX9, 36, rfl, by decide⟩
theorem mv_X9_rarest : ab_MV yX9_rarest 9 := ⟨tb_7 _ (List.mem_of_getElem? (i := 219) rfl), tb_7 _ (List.mem_of_getElem? (i := 220) rfl), TX9, 36, rfl, by decide⟩
theorem mv_X9_rebuilt : ab_MV yX9_rebuilt 9 := ⟨tb_7 _ (List.mem_of_getElem? (i := 84) rfl), tb_7 _ (List.mem_of_getElem? (i := 85) rfl), TX9, 36, rfl, by decide⟩
theorem mv_X9_row : ab_MV yX9_row 9 := ⟨tb_6 _ (List.mem_of_getElem? (i := 236) rfl), tb_6 _ (List.mem_of_getElem? (i := 237) rfl), TX9, 36, rfl, by decide⟩
theorem mv_X9_see : ab_MV yX9_see 9 := ⟨tb_8 _ (List.mem_of_getElem? (i := 11) rfl), tb_8 _ (List.mem_of_getElem? (i := 12) rfl), TX9, 36, rfl, by decide⟩
theorem mv_X9_senses : ab_MV yX9_senses 9 := ⟨tb_7 _ (List.mem_of_getElem? (i := 145) rfl), tb_7 _ (List.mem_of_getElem? (i := 146) rfl), TX9, 36, rfl, by decide⟩
theorem mv_X9_shared : ab_MV yX9_shared 9 := ⟨tb_7 _ (List.mem_of_getElem? (i := 191) rfl), tb_7 _ (List.mem_of_getElem? (i := 192) rfl), TX9, 36, rfl, by decide⟩
theorem mv_X9_sharing : ab_MV yX9_sharing 9 := ⟨tb_7 _ (List.mem_of_getElem? (i := 105) rfl), tb_7 _ (List.mem_of_getElem? (i := 106) rfl), TX9, 36, rfl, by decide⟩
theorem mv_X9_shown : ab_MV yX9_shown 9 := ⟨tb_7 _ (List.mem_of_getElem? (i := 211) rfl), tb_7 _ (List.mem_of_getElem? (i := 212) rfl), TX9, 36, rfl, by decide⟩
theorem mv_X9_string : ab_MV yX9_string 9 := ⟨tb_6 _ (List.mem_of_getElem? (i := 175) rfl), tb_6 _ (List.mem_of_getElem? (i := 176) rfl), TX9, 36, rfl, by decide⟩
theorem mv_X9_swaps : ab_MV yX9_swaps 9 := ⟨tb_8 _ (List.mem_of_getElem? (i := 3) rfl), tb_8 _ (List.mem_of_getElem? (i := 4) rfl), TX9, 36, rfl, by decide⟩
theorem mv_X9_term : ab_MV yX9_term 9 := ⟨tb_6 _ (List.mem_of_getElem? (i := 192) rfl), tb_6 _ (List.mem_of_getElem? (i := 193) rfl), TX9, 36, rfl, by decide⟩
theorem mv_X9_text : ab_MV yX9_text 9 := ⟨tb_5 _ (List.mem_of_getElem? (i := 210) rfl), tb_5 _ (List.mem_of_getElem? (i := 211) rfl), TX9, 36, rfl, by decide⟩
theorem mv_X9_twins : ab_MV yX9_twins 9 := ⟨tb_7 _ (List.mem_of_getElem? (i := 215) rfl), tb_7 _ (List.mem_of_getElem? (i := 216) rfl), TX9, 36, rfl, by decide⟩
theorem mv_X9_undo : ab_MV yX9_undo 9 := ⟨tb_7 _ (List.mem_of_getElem? (i := 227) rfl), tb_7 _ (List.mem_of_getElem? (i := 228) rfl), TX9, 36, rfl, by decide⟩
theorem mv_X9_way : ab_MV yX9_way 9 := ⟨tb_6 _ (List.mem_of_getElem? (i := 215) rfl), tb_6 _ (List.mem_of_getElem? (i := 216) rfl), TX9, 36, rfl, by decide⟩
theorem mv_X9_would : ab_MV yX9_would 9 := ⟨tb_7 _ (List.mem_of_getElem? (i := 178) rfl), tb_7 _ (List.mem_of_getElem? (i := 179) rfl), TX9, 36, rfl, by decide⟩
theorem mi_X8_init : ab_MI yX8_init := ⟨tb_1 _ (List.mem_of_getElem? (i := 21) rfl), rfl⟩
theorem mi_X9_init : ab_MI yX9_init := ⟨tb_5 _ (List.mem_of_getElem? (i := 83) rfl), rfl⟩
theorem nw_RL_7 : ab_NW RL 7 8 := ⟨RX8, TX8, 11, cf_8, tb_1 _ (List.mem_of_getElem? (i := 18) rfl), tb_1 _ (List.mem_of_getElem? (i := 19) rfl), tb_1 _ (List.mem_of_getElem? (i := 1) rfl)⟩
theorem nw_RL_10 : ab_NW RL 10 9 := ⟨RX9, TX9, 36, cf_9, tb_5 _ (List.mem_of_getElem? (i := 80) rfl), tb_5 _ (List.mem_of_getElem? (i := 81) rfl), tb_1 _ (List.mem_of_getElem? (i := 15) rfl)⟩
