theorem wcl_word : Cond.static yL_word ∈ zWS ∧ Cond.initialized yL_word.cls ∈ zWS ∧ Cond.codeWith yL_word iL_word.2.1 iL_word.2.2.1 iL_word.2.2.2.1 [(0, 12, 15, 13)] ∈ zWS := ⟨zt4 53 rfl rfl, zt1 0 rfl rfl, zt4 54 rfl rfl⟩
theorem hyl_word : yL_word.cls ≠ "java/lang/invoke/MethodHandle" ∧ yL_word.cls ≠ "java/lang/invoke/VarHandle" ∧ (parseMethodDescriptor yL_word.desc).map (fun d => d.parameters.length) = some 5 := by decide +kernel
theorem wcl_tie : Cond.static yL_tie ∈ zWS ∧ Cond.initialized yL_tie.cls ∈ zWS ∧ Cond.codeWith yL_tie iL_tie.2.1 iL_tie.2.2.1 iL_tie.2.2.2.1 [(0, 9, 12, 13)] ∈ zWS := ⟨zt4 122 rfl rfl, zt1 0 rfl rfl, zt4 123 rfl rfl⟩
theorem hyl_tie : yL_tie.cls ≠ "java/lang/invoke/MethodHandle" ∧ yL_tie.cls ≠ "java/lang/invoke/VarHandle" ∧ (parseMethodDescriptor yL_tie.desc).map (fun d => d.parameters.length) = some 3 := by decide +kernel
theorem wcl_row : Cond.static yL_row ∈ zWS ∧ Cond.initialized yL_row.cls ∈ zWS ∧ Cond.codeWith yL_row iL_row.2.1 iL_row.2.2.1 iL_row.2.2.2.1 [(0, 8, 11, 13)] ∈ zWS := ⟨zt4 129 rfl rfl, zt1 0 rfl rfl, zt4 130 rfl rfl⟩
theorem hyl_row : yL_row.cls ≠ "java/lang/invoke/MethodHandle" ∧ yL_row.cls ≠ "java/lang/invoke/VarHandle" ∧ (parseMethodDescriptor yL_row.desc).map (fun d => d.parameters.length) = some 3 := by decide +kernel
theorem wml_27 : Cond.methodLink RL 27 yX6_sign ∈ zWS := zt2 18 rfl rfl
theorem wml_30 : Cond.methodLink RL 30 yX7_sign ∈ zWS := zt4 231 rfl rfl
theorem wml_31 : Cond.methodLink RL 31 yX6_end ∈ zWS := zt2 26 rfl rfl
theorem wml_35 : Cond.methodLink RL 35 yX7_end ∈ zWS := zt4 235 rfl rfl
theorem wml_36 : Cond.methodLink RL 36 yX6_words ∈ zWS := zt2 34 rfl rfl
theorem wml_39 : Cond.methodLink RL 39 yX7_words ∈ zWS := zt5 2 rfl rfl
theorem wml_40 : Cond.methodLink RL 40 yX6_ties ∈ zWS := zt2 100 rfl rfl
theorem wml_44 : Cond.methodLink RL 44 yX7_ties ∈ zWS := zt5 53 rfl rfl
theorem wml_45 : Cond.methodLink RL 45 yX6_sheet ∈ zWS := zt2 132 rfl rfl
theorem wml_49 : Cond.methodLink RL 49 yX7_sheet ∈ zWS := zt5 73 rfl rfl
theorem wml_50 : Cond.methodLink RL 50 yX6_pages ∈ zWS := zt2 150 rfl rfl
theorem wml_53 : Cond.methodLink RL 53 yX7_pages ∈ zWS := zt5 85 rfl rfl
theorem wml_54 : Cond.methodLink RL 54 yX6_part ∈ zWS := zt2 179 rfl rfl
theorem wml_57 : Cond.methodLink RL 57 yX7_part ∈ zWS := zt5 117 rfl rfl
theorem wml_58 : Cond.methodLink RL 58 yL_word ∈ zWS := zt4 52 rfl rfl
theorem wml_63 : Cond.methodLink RL 63 yX7_word ∈ zWS := zt5 129 rfl rfl
theorem wml_64 : Cond.methodLink RL 64 yX7_thrown ∈ zWS := zt4 227 rfl rfl
theorem wml_67 : Cond.methodLink RL 67 yX6_at ∈ zWS := zt2 200 rfl rfl
theorem wml_70 : Cond.methodLink RL 70 yX7_at ∈ zWS := zt5 145 rfl rfl
theorem wml_71 : Cond.methodLink RL 71 yX6_ends ∈ zWS := zt2 209 rfl rfl
theorem wml_74 : Cond.methodLink RL 74 yX7_ends ∈ zWS := zt5 153 rfl rfl
theorem wml_75 : Cond.methodLink RL 75 yX6_apart ∈ zWS := zt2 217 rfl rfl
theorem wml_78 : Cond.methodLink RL 78 yX7_apart ∈ zWS := zt5 165 rfl rfl
theorem wml_79 : Cond.methodLink RL 79 yX6_ragged ∈ zWS := zt2 237 rfl rfl
theorem wml_82 : Cond.methodLink RL 82 yX7_ragged ∈ zWS := zt5 177 rfl rfl
theorem wml_83 : Cond.methodLink RL 83 yX6_cost ∈ zWS := zt3 6 rfl rfl
theorem wml_86 : Cond.methodLink RL 86 yX7_cost ∈ zWS := zt5 189 rfl rfl
theorem wml_87 : Cond.methodLink RL 87 yX6_line ∈ zWS := zt3 29 rfl rfl
theorem wml_91 : Cond.methodLink RL 91 yX7_line ∈ zWS := zt5 149 rfl rfl
theorem wml_92 : Cond.methodLink RL 92 yX6_blank ∈ zWS := zt3 43 rfl rfl
theorem wml_95 : Cond.methodLink RL 95 yX7_blank ∈ zWS := zt5 213 rfl rfl
theorem wml_96 : Cond.methodLink RL 96 yL_tie ∈ zWS := zt4 121 rfl rfl
theorem wml_99 : Cond.methodLink RL 99 yX7_tie ∈ zWS := zt5 217 rfl rfl
theorem wml_100 : Cond.methodLink RL 100 yX6_broken ∈ zWS := zt3 51 rfl rfl
theorem wml_103 : Cond.methodLink RL 103 yX7_broken ∈ zWS := zt5 221 rfl rfl
theorem wml_104 : Cond.methodLink RL 104 yX6_loose ∈ zWS := zt3 57 rfl rfl
theorem wml_107 : Cond.methodLink RL 107 yX7_loose ∈ zWS := zt5 225 rfl rfl
theorem wml_108 : Cond.methodLink RL 108 yX6_by ∈ zWS := zt3 61 rfl rfl
theorem wml_111 : Cond.methodLink RL 111 yX7_by ∈ zWS := zt5 233 rfl rfl
theorem wml_112 : Cond.methodLink RL 112 yX6_best ∈ zWS := zt3 70 rfl rfl
theorem wml_115 : Cond.methodLink RL 115 yX7_best ∈ zWS := zt6 16 rfl rfl
theorem wml_116 : Cond.methodLink RL 116 yX6_near ∈ zWS := zt3 93 rfl rfl
theorem wml_119 : Cond.methodLink RL 119 yX7_near ∈ zWS := zt6 31 rfl rfl
theorem wml_120 : Cond.methodLink RL 120 yX6_climbs ∈ zWS := zt3 106 rfl rfl
theorem wml_123 : Cond.methodLink RL 123 yX7_climbs ∈ zWS := zt6 35 rfl rfl
theorem wml_124 : Cond.methodLink RL 124 yX6_narrow ∈ zWS := zt3 125 rfl rfl
theorem wml_127 : Cond.methodLink RL 127 yX7_narrow ∈ zWS := zt6 43 rfl rfl
theorem wml_128 : Cond.methodLink RL 128 yX6_low ∈ zWS := zt3 145 rfl rfl
theorem wml_131 : Cond.methodLink RL 131 yX7_low ∈ zWS := zt6 51 rfl rfl
theorem wml_132 : Cond.methodLink RL 132 yX6_more ∈ zWS := zt3 149 rfl rfl
theorem wml_135 : Cond.methodLink RL 135 yX7_more ∈ zWS := zt6 55 rfl rfl
theorem wml_136 : Cond.methodLink RL 136 yX6_less ∈ zWS := zt3 168 rfl rfl
theorem wml_139 : Cond.methodLink RL 139 yX7_less ∈ zWS := zt6 71 rfl rfl
theorem wml_140 : Cond.methodLink RL 140 yX6_spare ∈ zWS := zt3 179 rfl rfl
theorem wml_143 : Cond.methodLink RL 143 yX7_spare ∈ zWS := zt6 79 rfl rfl
theorem wml_144 : Cond.methodLink RL 144 yX6_sets ∈ zWS := zt3 183 rfl rfl
theorem wml_147 : Cond.methodLink RL 147 yX7_sets ∈ zWS := zt6 83 rfl rfl
theorem wml_148 : Cond.methodLink RL 148 yX6_weighs ∈ zWS := zt3 195 rfl rfl
theorem wml_151 : Cond.methodLink RL 151 yX7_weighs ∈ zWS := zt6 110 rfl rfl
theorem wml_152 : Cond.methodLink RL 152 yX6_swaps ∈ zWS := zt3 201 rfl rfl
theorem wml_155 : Cond.methodLink RL 155 yX7_swaps ∈ zWS := zt6 114 rfl rfl
theorem wml_156 : Cond.methodLink RL 156 yX6_plans ∈ zWS := zt3 213 rfl rfl
theorem wml_159 : Cond.methodLink RL 159 yX7_plans ∈ zWS := zt6 94 rfl rfl
theorem wml_160 : Cond.methodLink RL 160 yX6_takesBest ∈ zWS := zt3 225 rfl rfl
theorem wml_163 : Cond.methodLink RL 163 yX7_takesBest ∈ zWS := zt6 102 rfl rfl
theorem wml_164 : Cond.methodLink RL 164 yX6_comes ∈ zWS := zt3 233 rfl rfl
theorem wml_167 : Cond.methodLink RL 167 yX7_comes ∈ zWS := zt6 122 rfl rfl
theorem wml_168 : Cond.methodLink RL 168 yX6_goes ∈ zWS := zt3 237 rfl rfl
theorem wml_171 : Cond.methodLink RL 171 yX7_goes ∈ zWS := zt6 126 rfl rfl
theorem wml_172 : Cond.methodLink RL 172 yX6_day ∈ zWS := zt4 1 rfl rfl
theorem wml_175 : Cond.methodLink RL 175 yX7_day ∈ zWS := zt6 130 rfl rfl
theorem wml_176 : Cond.methodLink RL 176 yX6_undo ∈ zWS := zt4 17 rfl rfl
theorem wml_179 : Cond.methodLink RL 179 yX7_undo ∈ zWS := zt6 225 rfl rfl
theorem wml_180 : Cond.methodLink RL 180 yX6_years ∈ zWS := zt4 25 rfl rfl
theorem wml_183 : Cond.methodLink RL 183 yX7_years ∈ zWS := zt6 229 rfl rfl
theorem wml_184 : Cond.methodLink RL 184 yX6_keep ∈ zWS := zt4 36 rfl rfl
theorem wml_187 : Cond.methodLink RL 187 yX7_keep ∈ zWS := zt6 238 rfl rfl
theorem wml_188 : Cond.methodLink RL 188 yX6_again ∈ zWS := zt4 40 rfl rfl
theorem wml_191 : Cond.methodLink RL 191 yX7_again ∈ zWS := zt7 2 rfl rfl
theorem wml_192 : Cond.methodLink RL 192 yX6_count ∈ zWS := zt4 48 rfl rfl
theorem wml_195 : Cond.methodLink RL 195 yX7_count ∈ zWS := zt7 6 rfl rfl
theorem wml_196 : Cond.methodLink RL 196 yL_row ∈ zWS := zt4 128 rfl rfl
theorem wml_198 : Cond.methodLink RL 198 yX7_row ∈ zWS := zt7 10 rfl rfl
theorem wc_X6_sign : Cond.instanceMethod yX6_sign ∈ zWS ∧ Cond.selects RX6 yX6_sign yX6_sign ∈ zWS ∧ Cond.initialized yX6_sign.cls ∈ zWS ∧ Cond.code yX6_sign iX6_sign.2.1 iX6_sign.2.2.1 iX6_sign.2.2.2.1 ∈ zWS := ⟨zt2 19 rfl rfl, zt2 20 rfl rfl, zt1 1 rfl rfl, zt2 21 rfl rfl⟩
theorem wc_X7_sign : Cond.instanceMethod yX7_sign ∈ zWS ∧ Cond.selects RX7 yX7_sign yX7_sign ∈ zWS ∧ Cond.initialized yX7_sign.cls ∈ zWS ∧ Cond.code yX7_sign iX7_sign.2.1 iX7_sign.2.2.1 iX7_sign.2.2.2.1 ∈ zWS := ⟨zt4 232 rfl rfl, zt4 233 rfl rfl, zt1 8 rfl rfl, zt4 234 rfl rfl⟩
theorem wc_X6_end : Cond.instanceMethod yX6_end ∈ zWS ∧ Cond.selects RX6 yX6_end yX6_end ∈ zWS ∧ Cond.initialized yX6_end.cls ∈ zWS ∧ Cond.code yX6_end iX6_end.2.1 iX6_end.2.2.1 iX6_end.2.2.2.1 ∈ zWS := ⟨zt2 27 rfl rfl, zt2 28 rfl rfl, zt1 1 rfl rfl, zt2 29 rfl rfl⟩
theorem wc_X7_end : Cond.instanceMethod yX7_end ∈ zWS ∧ Cond.selects RX7 yX7_end yX7_end ∈ zWS ∧ Cond.initialized yX7_end.cls ∈ zWS ∧ Cond.code yX7_end iX7_end.2.1 iX7_end.2.2.1 iX7_end.2.2.2.1 ∈ zWS := ⟨zt4 236 rfl rfl, zt4 237 rfl rfl, zt1 8 rfl rfl, zt4 238 rfl rfl⟩
theorem wc_X6_words : Cond.instanceMethod yX6_words ∈ zWS ∧ Cond.selects RX6 yX6_words yX6_words ∈ zWS ∧ Cond.initialized yX6_words.cls ∈ zWS ∧ Cond.code yX6_words iX6_words.2.1 iX6_words.2.2.1 iX6_words.2.2.2.1 ∈ zWS := ⟨zt2 35 rfl rfl, zt2 36 rfl rfl, zt1 1 rfl rfl, zt2 37 rfl rfl⟩
theorem wc_X7_words : Cond.instanceMethod yX7_words ∈ zWS ∧ Cond.selects RX7 yX7_words yX7_words ∈ zWS ∧ Cond.initialized yX7_words.cls ∈ zWS ∧ Cond.code yX7_words iX7_words.2.1 iX7_words.2.2.1 iX7_words.2.2.2.1 ∈ zWS := ⟨zt5 3 rfl rfl, zt5 4 rfl rfl, zt1 8 rfl rfl, zt5 5 rfl rfl⟩
theorem wc_X6_ties : Cond.instanceMethod yX6_ties ∈ zWS ∧ Cond.selects RX6 yX6_ties yX6_ties ∈ zWS ∧ Cond.initialized yX6_ties.cls ∈ zWS ∧ Cond.code yX6_ties iX6_ties.2.1 iX6_ties.2.2.1 iX6_ties.2.2.2.1 ∈ zWS := ⟨zt2 101 rfl rfl, zt2 102 rfl rfl, zt1 1 rfl rfl, zt2 103 rfl rfl⟩
theorem wc_X7_ties : Cond.instanceMethod yX7_ties ∈ zWS ∧ Cond.selects RX7 yX7_ties yX7_ties ∈ zWS ∧ Cond.initialized yX7_ties.cls ∈ zWS ∧ Cond.code yX7_ties iX7_ties.2.1 iX7_ties.2.2.1 iX7_ties.2.2.2.1 ∈ zWS := ⟨zt5 54 rfl rfl, zt5 55 rfl rfl, zt1 8 rfl rfl, zt5 56 rfl rfl⟩
theorem wc_X6_sheet : Cond.instanceMethod yX6_sheet ∈ zWS ∧ Cond.selects RX6 yX6_sheet yX6_sheet ∈ zWS ∧ Cond.initialized yX6_sheet.cls ∈ zWS ∧ Cond.code yX6_sheet iX6_sheet.2.1 iX6_sheet.2.2.1 iX6_sheet.2.2.2.1 ∈ zWS := ⟨zt2 133 rfl rfl, zt2 134 rfl rfl, zt1 1 rfl rfl, zt2 135 rfl rfl⟩
theorem wc_X7_sheet : Cond.instanceMethod yX7_sheet ∈ zWS ∧ Cond.selects RX7 yX7_sheet yX7_sheet ∈ zWS ∧ Cond.initialized yX7_sheet.cls ∈ zWS ∧ Cond.code yX7_sheet iX7_sheet.2.1 iX7_sheet.2.2.1 iX7_sheet.2.2.2.1 ∈ zWS := ⟨zt5 74 rfl rfl, zt5 75 rfl rfl, zt1 8 rfl rfl, zt5 76 rfl rfl⟩
theorem wc_X6_pages : Cond.instanceMethod yX6_pages ∈ zWS ∧ Cond.selects RX6 yX6_pages yX6_pages ∈ zWS ∧ Cond.initialized yX6_pages.cls ∈ zWS ∧ Cond.code yX6_pages iX6_pages.2.1 iX6_pages.2.2.1 iX6_pages.2.2.2.1 ∈ zWS := ⟨zt2 151 rfl rfl, zt2 152 rfl rfl, zt1 1 rfl rfl, zt2 153 rfl rfl⟩
theorem wc_X7_pages : Cond.instanceMethod yX7_pages ∈ zWS ∧ Cond.selects RX7 yX7_pages yX7_pages ∈ zWS ∧ Cond.initialized yX7_pages.cls ∈ zWS ∧ Cond.code yX7_pages iX7_pages.2.1 iX7_pages.2.2.1 iX7_pages.2.2.2.1 ∈ zWS := ⟨zt5 86 rfl rfl, zt5 87 rfl rfl, zt1 8 rfl rfl, zt5 88 rfl rfl⟩
theorem wc_X6_part : Cond.instanceMethod yX6_part ∈ zWS ∧ Cond.selects RX6 yX6_part yX6_part ∈ zWS ∧ Cond.initialized yX6_part.cls ∈ zWS ∧ Cond.code yX6_part iX6_part.2.1 iX6_part.2.2.1 iX6_part.2.2.2.1 ∈ zWS := ⟨zt2 180 rfl rfl, zt2 181 rfl rfl, zt1 1 rfl rfl, zt2 182 rfl rfl⟩
theorem wc_X7_part : Cond.instanceMethod yX7_part ∈ zWS ∧ Cond.selects RX7 yX7_part yX7_part ∈ zWS ∧ Cond.initialized yX7_part.cls ∈ zWS ∧ Cond.code yX7_part iX7_part.2.1 iX7_part.2.2.1 iX7_part.2.2.2.1 ∈ zWS := ⟨zt5 118 rfl rfl, zt5 119 rfl rfl, zt1 8 rfl rfl, zt5 120 rfl rfl⟩
theorem wc_X7_word : Cond.instanceMethod yX7_word ∈ zWS ∧ Cond.selects RX7 yX7_word yX7_word ∈ zWS ∧ Cond.initialized yX7_word.cls ∈ zWS ∧ Cond.code yX7_word iX7_word.2.1 iX7_word.2.2.1 iX7_word.2.2.2.1 ∈ zWS := ⟨zt5 130 rfl rfl, zt5 131 rfl rfl, zt1 8 rfl rfl, zt5 132 rfl rfl⟩
theorem wc_X7_thrown : Cond.instanceMethod yX7_thrown ∈ zWS ∧ Cond.selects RX7 yX7_thrown yX7_thrown ∈ zWS ∧ Cond.initialized yX7_thrown.cls ∈ zWS ∧ Cond.code yX7_thrown iX7_thrown.2.1 iX7_thrown.2.2.1 iX7_thrown.2.2.2.1 ∈ zWS := ⟨zt4 228 rfl rfl, zt4 229 rfl rfl, zt1 8 rfl rfl, zt4 230 rfl rfl⟩
theorem wc_X6_at : Cond.instanceMethod yX6_at ∈ zWS ∧ Cond.selects RX6 yX6_at yX6_at ∈ zWS ∧ Cond.initialized yX6_at.cls ∈ zWS ∧ Cond.code yX6_at iX6_at.2.1 iX6_at.2.2.1 iX6_at.2.2.2.1 ∈ zWS := ⟨zt2 201 rfl rfl, zt2 202 rfl rfl, zt1 1 rfl rfl, zt2 203 rfl rfl⟩
theorem wc_X7_at : Cond.instanceMethod yX7_at ∈ zWS ∧ Cond.selects RX7 yX7_at yX7_at ∈ zWS ∧ Cond.initialized yX7_at.cls ∈ zWS ∧ Cond.code yX7_at iX7_at.2.1 iX7_at.2.2.1 iX7_at.2.2.2.1 ∈ zWS := ⟨zt5 146 rfl rfl, zt5 147 rfl rfl, zt1 8 rfl rfl, zt5 148 rfl rfl⟩
theorem wc_X6_ends : Cond.instanceMethod yX6_ends ∈ zWS ∧ Cond.selects RX6 yX6_ends yX6_ends ∈ zWS ∧ Cond.initialized yX6_ends.cls ∈ zWS ∧ Cond.code yX6_ends iX6_ends.2.1 iX6_ends.2.2.1 iX6_ends.2.2.2.1 ∈ zWS := ⟨zt2 210 rfl rfl, zt2 211 rfl rfl, zt1 1 rfl rfl, zt2 212 rfl rfl⟩
theorem wc_X7_ends : Cond.instanceMethod yX7_ends ∈ zWS ∧ Cond.selects RX7 yX7_ends yX7_ends ∈ zWS ∧ Cond.initialized yX7_ends.cls ∈ zWS ∧ Cond.code yX7_ends iX7_ends.2.1 iX7_ends.2.2.1 iX7_ends.2.2.2.1 ∈ zWS := ⟨zt5 154 rfl rfl, zt5 155 rfl rfl, zt1 8 rfl rfl, zt5 156 rfl rfl⟩
theorem wc_X6_apart : Cond.instanceMethod yX6_apart ∈ zWS ∧ Cond.selects RX6 yX6_apart yX6_apart ∈ zWS ∧ Cond.initialized yX6_apart.cls ∈ zWS ∧ Cond.code yX6_apart iX6_apart.2.1 iX6_apart.2.2.1 iX6_apart.2.2.2.1 ∈ zWS := ⟨zt2 218 rfl rfl, zt2 219 rfl rfl, zt1 1 rfl rfl, zt2 220 rfl rfl⟩
theorem wc_X7_apart : Cond.instanceMethod yX7_apart ∈ zWS ∧ Cond.selects RX7 yX7_apart yX7_apart ∈ zWS ∧ Cond.initialized yX7_apart.cls ∈ zWS ∧ Cond.code yX7_apart iX7_apart.2.1 iX7_apart.2.2.1 iX7_apart.2.2.2.1 ∈ zWS := ⟨zt5 166 rfl rfl, zt5 167 rfl rfl, zt1 8 rfl rfl, zt5 168 rfl rfl⟩
theorem wc_X6_ragged : Cond.instanceMethod yX6_ragged ∈ zWS ∧ Cond.selects RX6 yX6_ragged yX6_ragged ∈ zWS ∧ Cond.initialized yX6_ragged.cls ∈ zWS ∧ Cond.code yX6_ragged iX6_ragged.2.1 iX6_ragged.2.2.1 iX6_ragged.2.2.2.1 ∈ zWS := ⟨zt2 238 rfl rfl, zt2 239 rfl rfl, zt1 1 rfl rfl, zt3 0 rfl rfl⟩
theorem wc_X7_ragged : Cond.instanceMethod yX7_ragged ∈ zWS ∧ Cond.selects RX7 yX7_ragged yX7_ragged ∈ zWS ∧ Cond.initialized yX7_ragged.cls ∈ zWS ∧ Cond.code yX7_ragged iX7_ragged.2.1 iX7_ragged.2.2.1 iX7_ragged.2.2.2.1 ∈ zWS := ⟨zt5 178 rfl rfl, zt5 179 rfl rfl, zt1 8 rfl rfl, zt5 180 rfl rfl⟩
theorem wc_X6_cost : Cond.instanceMethod yX6_cost ∈ zWS ∧ Cond.selects RX6 yX6_cost yX6_cost ∈ zWS ∧ Cond.initialized yX6_cost.cls ∈ zWS ∧ Cond.code yX6_cost iX6_cost.2.1 iX6_cost.2.2.1 iX6_cost.2.2.2.1 ∈ zWS := ⟨zt3 7 rfl rfl, zt3 8 rfl rfl, zt1 1 rfl rfl, zt3 9 rfl rfl⟩
theorem wc_X7_cost : Cond.instanceMethod yX7_cost ∈ zWS ∧ Cond.selects RX7 yX7_cost yX7_cost ∈ zWS ∧ Cond.initialized yX7_cost.cls ∈ zWS ∧ Cond.code yX7_cost iX7_cost.2.1 iX7_cost.2.2.1 iX7_cost.2.2.2.1 ∈ zWS := ⟨zt5 190 rfl rfl, zt5 191 rfl rfl, zt1 8 rfl rfl, zt5 192 rfl rfl⟩
theorem wc_X6_line : Cond.instanceMethod yX6_line ∈ zWS ∧ Cond.selects RX6 yX6_line yX6_line ∈ zWS ∧ Cond.initialized yX6_line.cls ∈ zWS ∧ Cond.code yX6_line iX6_line.2.1 iX6_line.2.2.1 iX6_line.2.2.2.1 ∈ zWS := ⟨zt3 30 rfl rfl, zt3 31 rfl rfl, zt1 1 rfl rfl, zt3 32 rfl rfl⟩
theorem wc_X7_line : Cond.instanceMethod yX7_line ∈ zWS ∧ Cond.selects RX7 yX7_line yX7_line ∈ zWS ∧ Cond.initialized yX7_line.cls ∈ zWS ∧ Cond.code yX7_line iX7_line.2.1 iX7_line.2.2.1 iX7_line.2.2.2.1 ∈ zWS := ⟨zt5 150 rfl rfl, zt5 151 rfl rfl, zt1 8 rfl rfl, zt5 152 rfl rfl⟩
theorem wc_X6_blank : Cond.instanceMethod yX6_blank ∈ zWS ∧ Cond.selects RX6 yX6_blank yX6_blank ∈ zWS ∧ Cond.initialized yX6_blank.cls ∈ zWS ∧ Cond.code yX6_blank iX6_blank.2.1 iX6_blank.2.2.1 iX6_blank.2.2.2.1 ∈ zWS := ⟨zt3 44 rfl rfl, zt3 45 rfl rfl, zt1 1 rfl rfl, zt3 46 rfl rfl⟩
theorem wc_X7_blank : Cond.instanceMethod yX7_blank ∈ zWS ∧ Cond.selects RX7 yX7_blank yX7_blank ∈ zWS ∧ Cond.initialized yX7_blank.cls ∈ zWS ∧ Cond.code yX7_blank iX7_blank.2.1 iX7_blank.2.2.1 iX7_blank.2.2.2.1 ∈ zWS := ⟨zt5 214 rfl rfl, zt5 215 rfl rfl, zt1 8 rfl rfl, zt5 216 rfl rfl⟩
theorem wc_X7_tie : Cond.instanceMethod yX7_tie ∈ zWS ∧ Cond.selects RX7 yX7_tie yX7_tie ∈ zWS ∧ Cond.initialized yX7_tie.cls ∈ zWS ∧ Cond.code yX7_tie iX7_tie.2.1 iX7_tie.2.2.1 iX7_tie.2.2.2.1 ∈ zWS := ⟨zt5 218 rfl rfl, zt5 219 rfl rfl, zt1 8 rfl rfl, zt5 220 rfl rfl⟩
theorem wc_X6_broken : Cond.instanceMethod yX6_broken ∈ zWS ∧ Cond.selects RX6 yX6_broken yX6_broken ∈ zWS ∧ Cond.initialized yX6_broken.cls ∈ zWS ∧ Cond.code yX6_broken iX6_broken.2.1 iX6_broken.2.2.1 iX6_broken.2.2.2.1 ∈ zWS := ⟨zt3 52 rfl rfl, zt3 53 rfl rfl, zt1 1 rfl rfl, zt3 54 rfl rfl⟩
theorem wc_X7_broken : Cond.instanceMethod yX7_broken ∈ zWS ∧ Cond.selects RX7 yX7_broken yX7_broken ∈ zWS ∧ Cond.initialized yX7_broken.cls ∈ zWS ∧ Cond.code yX7_broken iX7_broken.2.1 iX7_broken.2.2.1 iX7_broken.2.2.2.1 ∈ zWS := ⟨zt5 222 rfl rfl, zt5 223 rfl rfl, zt1 8 rfl rfl, zt5 224 rfl rfl⟩
theorem wc_X6_loose : Cond.instanceMethod yX6_loose ∈ zWS ∧ Cond.selects RX6 yX6_loose yX6_loose ∈ zWS ∧ Cond.initialized yX6_loose.cls ∈ zWS ∧ Cond.code yX6_loose iX6_loose.2.1 iX6_loose.2.2.1 iX6_loose.2.2.2.1 ∈ zWS := ⟨zt3 58 rfl rfl, zt3 59 rfl rfl, zt1 1 rfl rfl, zt3 60 rfl rfl⟩
theorem wc_X7_loose : Cond.instanceMethod yX7_loose ∈ zWS ∧ Cond.selects RX7 yX7_loose yX7_loose ∈ zWS ∧ Cond.initialized yX7_loose.cls ∈ zWS ∧ Cond.code yX7_loose iX7_loose.2.1 iX7_loose.2.2.1 iX7_loose.2.2.2.1 ∈ zWS := ⟨zt5 226 rfl rfl, zt5 227 rfl rfl, zt1 8 rfl rfl, zt5 228 rfl rfl⟩
theorem wc_X6_by : Cond.instanceMethod yX6_by ∈ zWS ∧ Cond.selects RX6 yX6_by yX6_by ∈ zWS ∧ Cond.initialized yX6_by.cls ∈ zWS ∧ Cond.code yX6_by iX6_by.2.1 iX6_by.2.2.1 iX6_by.2.2.2.1 ∈ zWS := ⟨zt3 62 rfl rfl, zt3 63 rfl rfl, zt1 1 rfl rfl, zt3 64 rfl rfl⟩
theorem wc_X7_by : Cond.instanceMethod yX7_by ∈ zWS ∧ Cond.selects RX7 yX7_by yX7_by ∈ zWS ∧ Cond.initialized yX7_by.cls ∈ zWS ∧ Cond.code yX7_by iX7_by.2.1 iX7_by.2.2.1 iX7_by.2.2.2.1 ∈ zWS := ⟨zt5 234 rfl rfl, zt5 235 rfl rfl, zt1 8 rfl rfl, zt5 236 rfl rfl⟩
theorem wc_X6_best : Cond.instanceMethod yX6_best ∈ zWS ∧ Cond.selects RX6 yX6_best yX6_best ∈ zWS ∧ Cond.initialized yX6_best.cls ∈ zWS ∧ Cond.code yX6_best iX6_best.2.1 iX6_best.2.2.1 iX6_best.2.2.2.1 ∈ zWS := ⟨zt3 71 rfl rfl, zt3 72 rfl rfl, zt1 1 rfl rfl, zt3 73 rfl rfl⟩
theorem wc_X7_best : Cond.instanceMethod yX7_best ∈ zWS ∧ Cond.selects RX7 yX7_best yX7_best ∈ zWS ∧ Cond.initialized yX7_best.cls ∈ zWS ∧ Cond.code yX7_best iX7_best.2.1 iX7_best.2.2.1 iX7_best.2.2.2.1 ∈ zWS := ⟨zt6 17 rfl rfl, zt6 18 rfl rfl, zt1 8 rfl rfl, zt6 19 rfl rfl⟩
theorem wc_X6_near : Cond.instanceMethod yX6_near ∈ zWS ∧ Cond.selects RX6 yX6_near yX6_near ∈ zWS ∧ Cond.initialized yX6_near.cls ∈ zWS ∧ Cond.code yX6_near iX6_near.2.1 iX6_near.2.2.1 iX6_near.2.2.2.1 ∈ zWS := ⟨zt3 94 rfl rfl, zt3 95 rfl rfl, zt1 1 rfl rfl, zt3 96 rfl rfl⟩
theorem wc_X7_near : Cond.instanceMethod yX7_near ∈ zWS ∧ Cond.selects RX7 yX7_near yX7_near ∈ zWS ∧ Cond.initialized yX7_near.cls ∈ zWS ∧ Cond.code yX7_near iX7_near.2.1 iX7_near.2.2.1 iX7_near.2.2.2.1 ∈ zWS := ⟨zt6 32 rfl rfl, zt6 33 rfl rfl, zt1 8 rfl rfl, zt6 34 rfl rfl⟩
theorem wc_X6_climbs : Cond.instanceMethod yX6_climbs ∈ zWS ∧ Cond.selects RX6 yX6_climbs yX6_climbs ∈ zWS ∧ Cond.initialized yX6_climbs.cls ∈ zWS ∧ Cond.code yX6_climbs iX6_climbs.2.1 iX6_climbs.2.2.1 iX6_climbs.2.2.2.1 ∈ zWS := ⟨zt3 107 rfl rfl, zt3 108 rfl rfl, zt1 1 rfl rfl, zt3 109 rfl rfl⟩
theorem wc_X7_climbs : Cond.instanceMethod yX7_climbs ∈ zWS ∧ Cond.selects RX7 yX7_climbs yX7_climbs ∈ zWS ∧ Cond.initialized yX7_climbs.cls ∈ zWS ∧ Cond.code yX7_climbs iX7_climbs.2.1 iX7_climbs.2.2.1 iX7_climbs.2.2.2.1 ∈ zWS := ⟨zt6 36 rfl rfl, zt6 37 rfl rfl, zt1 8 rfl rfl, zt6 38 rfl rfl⟩
theorem wc_X6_narrow : Cond.instanceMethod yX6_narrow ∈ zWS ∧ Cond.selects RX6 yX6_narrow yX6_narrow ∈ zWS ∧ Cond.initialized yX6_narrow.cls ∈ zWS ∧ Cond.code yX6_narrow iX6_narrow.2.1 iX6_narrow.2.2.1 iX6_narrow.2.2.2.1 ∈ zWS := ⟨zt3 126 rfl rfl, zt3 127 rfl rfl, zt1 1 rfl rfl, zt3 128 rfl rfl⟩
theorem wc_X7_narrow : Cond.instanceMethod yX7_narrow ∈ zWS ∧ Cond.selects RX7 yX7_narrow yX7_narrow ∈ zWS ∧ Cond.initialized yX7_narrow.cls ∈ zWS ∧ Cond.code yX7_narrow iX7_narrow.2.1 iX7_narrow.2.2.1 iX7_narrow.2.2.2.1 ∈ zWS := ⟨zt6 44 rfl rfl, zt6 45 rfl rfl, zt1 8 rfl rfl, zt6 46 rfl rfl⟩
theorem wc_X6_low : Cond.instanceMethod yX6_low ∈ zWS ∧ Cond.selects RX6 yX6_low yX6_low ∈ zWS ∧ Cond.initialized yX6_low.cls ∈ zWS ∧ Cond.code yX6_low iX6_low.2.1 iX6_low.2.2.1 iX6_low.2.2.2.1 ∈ zWS := ⟨zt3 146 rfl rfl, zt3 147 rfl rfl, zt1 1 rfl rfl, zt3 148 rfl rfl⟩
theorem wc_X7_low : Cond.instanceMethod yX7_low ∈ zWS ∧ Cond.selects RX7 yX7_low yX7_low ∈ zWS ∧ Cond.initialized yX7_low.cls ∈ zWS ∧ Cond.code yX7_low iX7_low.2.1 iX7_low.2.2.1 iX7_low.2.2.2.1 ∈ zWS := ⟨zt6 52 rfl rfl, zt6 53 rfl rfl, zt1 8 rfl rfl, zt6 54 rfl rfl⟩
theorem wc_X6_more : Cond.instanceMethod yX6_more ∈ zWS ∧ Cond.selects RX6 yX6_more yX6_more ∈ zWS ∧ Cond.initialized yX6_more.cls ∈ zWS ∧ Cond.code yX6_more iX6_more.2.1 iX6_more.2.2.1 iX6_more.2.2.2.1 ∈ zWS := ⟨zt3 150 rfl rfl, zt3 151 rfl rfl, zt1 1 rfl rfl, zt3 152 rfl rfl⟩
theorem wc_X7_more : Cond.instanceMethod yX7_more ∈ zWS ∧ Cond.selects RX7 yX7_more yX7_more ∈ zWS ∧ Cond.initialized yX7_more.cls ∈ zWS ∧ Cond.code yX7_more iX7_more.2.1 iX7_more.2.2.1 iX7_more.2.2.2.1 ∈ zWS := ⟨zt6 56 rfl rfl, zt6 57 rfl rfl, zt1 8 rfl rfl, zt6 58 rfl rfl⟩
theorem wc_X6_less : Cond.instanceMethod yX6_less ∈ zWS ∧ Cond.selects RX6 yX6_less yX6_less ∈ zWS ∧ Cond.initialized yX6_less.cls ∈ zWS ∧ Cond.code yX6_less iX6_less.2.1 iX6_less.2.2.1 iX6_less.2.2.2.1 ∈ zWS := ⟨zt3 169 rfl rfl, zt3 170 rfl rfl, zt1 1 rfl rfl, zt3 171 rfl rfl⟩
theorem wc_X7_less : Cond.instanceMethod yX7_less ∈ zWS ∧ Cond.selects RX7 yX7_less yX7_less ∈ zWS ∧ Cond.initialized yX7_less.cls ∈ zWS ∧ Cond.code yX7_less iX7_less.2.1 iX7_less.2.2.1 iX7_less.2.2.2.1 ∈ zWS := ⟨zt6 72 rfl rfl, zt6 73 rfl rfl, zt1 8 rfl rfl, zt6 74 rfl rfl⟩
theorem wc_X6_spare : Cond.instanceMethod yX6_spare ∈ zWS ∧ Cond.selects RX6 yX6_spare yX6_spare ∈ zWS ∧ Cond.initialized yX6_spare.cls ∈ zWS ∧ Cond.code yX6_spare iX6_spare.2.1 iX6_spare.2.2.1 iX6_spare.2.2.2.1 ∈ zWS := ⟨zt3 180 rfl rfl, zt3 181 rfl rfl, zt1 1 rfl rfl, zt3 182 rfl rfl⟩
theorem wc_X7_spare : Cond.instanceMethod yX7_spare ∈ zWS ∧ Cond.selects RX7 yX7_spare yX7_spare ∈ zWS ∧ Cond.initialized yX7_spare.cls ∈ zWS ∧ Cond.code yX7_spare iX7_spare.2.1 iX7_spare.2.2.1 iX7_spare.2.2.2.1 ∈ zWS := ⟨zt6 80 rfl rfl, zt6 81 rfl rfl, zt1 8 rfl rfl, zt6 82 rfl rfl⟩
theorem wc_X6_sets : Cond.instanceMethod yX6_sets ∈ zWS ∧ Cond.selects RX6 yX6_sets yX6_sets ∈ zWS ∧ Cond.initialized yX6_sets.cls ∈ zWS ∧ Cond.code yX6_sets iX6_sets.2.1 iX6_sets.2.2.1 iX6_sets.2.2.2.1 ∈ zWS := ⟨zt3 184 rfl rfl, zt3 185 rfl rfl, zt1 1 rfl rfl, zt3 186 rfl rfl⟩
theorem wc_X7_sets : Cond.instanceMethod yX7_sets ∈ zWS ∧ Cond.selects RX7 yX7_sets yX7_sets ∈ zWS ∧ Cond.initialized yX7_sets.cls ∈ zWS ∧ Cond.code yX7_sets iX7_sets.2.1 iX7_sets.2.2.1 iX7_sets.2.2.2.1 ∈ zWS := ⟨zt6 84 rfl rfl, zt6 85 rfl rfl, zt1 8 rfl rfl, zt6 86 rfl rfl⟩
theorem wc_X6_weighs : Cond.instanceMethod yX6_weighs ∈ zWS ∧ Cond.selects RX6 yX6_weighs yX6_weighs ∈ zWS ∧ Cond.initialized yX6_weighs.cls ∈ zWS ∧ Cond.code yX6_weighs iX6_weighs.2.1 iX6_weighs.2.2.1 iX6_weighs.2.2.2.1 ∈ zWS := ⟨zt3 196 rfl rfl, zt3 197 rfl rfl, zt1 1 rfl rfl, zt3 198 rfl rfl⟩
theorem wc_X7_weighs : Cond.instanceMethod yX7_weighs ∈ zWS ∧ Cond.selects RX7 yX7_weighs yX7_weighs ∈ zWS ∧ Cond.initialized yX7_weighs.cls ∈ zWS ∧ Cond.code yX7_weighs iX7_weighs.2.1 iX7_weighs.2.2.1 iX7_weighs.2.2.2.1 ∈ zWS := ⟨zt6 111 rfl rfl, zt6 112 rfl rfl, zt1 8 rfl rfl, zt6 113 rfl rfl⟩
theorem wc_X6_swaps : Cond.instanceMethod yX6_swaps ∈ zWS ∧ Cond.selects RX6 yX6_swaps yX6_swaps ∈ zWS ∧ Cond.initialized yX6_swaps.cls ∈ zWS ∧ Cond.code yX6_swaps iX6_swaps.2.1 iX6_swaps.2.2.1 iX6_swaps.2.2.2.1 ∈ zWS := ⟨zt3 202 rfl rfl, zt3 203 rfl rfl, zt1 1 rfl rfl, zt3 204 rfl rfl⟩
theorem wc_X7_swaps : Cond.instanceMethod yX7_swaps ∈ zWS ∧ Cond.selects RX7 yX7_swaps yX7_swaps ∈ zWS ∧ Cond.initialized yX7_swaps.cls ∈ zWS ∧ Cond.code yX7_swaps iX7_swaps.2.1 iX7_swaps.2.2.1 iX7_swaps.2.2.2.1 ∈ zWS := ⟨zt6 115 rfl rfl, zt6 116 rfl rfl, zt1 8 rfl rfl, zt6 117 rfl rfl⟩
theorem wc_X6_plans : Cond.instanceMethod yX6_plans ∈ zWS ∧ Cond.selects RX6 yX6_plans yX6_plans ∈ zWS ∧ Cond.initialized yX6_plans.cls ∈ zWS ∧ Cond.code yX6_plans iX6_plans.2.1 iX6_plans.2.2.1 iX6_plans.2.2.2.1 ∈ zWS := ⟨zt3 214 rfl rfl, zt3 215 rfl rfl, zt1 1 rfl rfl, zt3 216 rfl rfl⟩
theorem wc_X7_plans : Cond.instanceMethod yX7_plans ∈ zWS ∧ Cond.selects RX7 yX7_plans yX7_plans ∈ zWS ∧ Cond.initialized yX7_plans.cls ∈ zWS ∧ Cond.code yX7_plans iX7_plans.2.1 iX7_plans.2.2.1 iX7_plans.2.2.2.1 ∈ zWS := ⟨zt6 95 rfl rfl, zt6 96 rfl rfl, zt1 8 rfl rfl, zt6 97 rfl rfl⟩
theorem wc_X6_takesBest : Cond.instanceMethod yX6_takesBest ∈ zWS ∧ Cond.selects RX6 yX6_takesBest yX6_takesBest ∈ zWS ∧ Cond.initialized yX6_takesBest.cls ∈ zWS ∧ Cond.code yX6_takesBest iX6_takesBest.2.1 iX6_takesBest.2.2.1 iX6_takesBest.2.2.2.1 ∈ zWS := ⟨zt3 226 rfl rfl, zt3 227 rfl rfl, zt1 1 rfl rfl, zt3 228 rfl rfl⟩
theorem wc_X7_takesBest : Cond.instanceMethod yX7_takesBest ∈ zWS ∧ Cond.selects RX7 yX7_takesBest yX7_takesBest ∈ zWS ∧ Cond.initialized yX7_takesBest.cls ∈ zWS ∧ Cond.code yX7_takesBest iX7_takesBest.2.1 iX7_takesBest.2.2.1 iX7_takesBest.2.2.2.1 ∈ zWS := ⟨zt6 103 rfl rfl, zt6 104 rfl rfl, zt1 8 rfl rfl, zt6 105 rfl rfl⟩
theorem wc_X6_comes : Cond.instanceMethod yX6_comes ∈ zWS ∧ Cond.selects RX6 yX6_comes yX6_comes ∈ zWS ∧ Cond.initialized yX6_comes.cls ∈ zWS ∧ Cond.code yX6_comes iX6_comes.2.1 iX6_comes.2.2.1 iX6_comes.2.2.2.1 ∈ zWS := ⟨zt3 234 rfl rfl, zt3 235 rfl rfl, zt1 1 rfl rfl, zt3 236 rfl rfl⟩
theorem wc_X7_comes : Cond.instanceMethod yX7_comes ∈ zWS ∧ Cond.selects RX7 yX7_comes yX7_comes ∈ zWS ∧ Cond.initialized yX7_comes.cls ∈ zWS ∧ Cond.code yX7_comes iX7_comes.2.1 iX7_comes.2.2.1 iX7_comes.2.2.2.1 ∈ zWS := ⟨zt6 123 rfl rfl, zt6 124 rfl rfl, zt1 8 rfl rfl, zt6 125 rfl rfl⟩
theorem wc_X6_goes : Cond.instanceMethod yX6_goes ∈ zWS ∧ Cond.selects RX6 yX6_goes yX6_goes ∈ zWS ∧ Cond.initialized yX6_goes.cls ∈ zWS ∧ Cond.code yX6_goes iX6_goes.2.1 iX6_goes.2.2.1 iX6_goes.2.2.2.1 ∈ zWS := ⟨zt3 238 rfl rfl, zt3 239 rfl rfl, zt1 1 rfl rfl, zt4 0 rfl rfl⟩
theorem wc_X7_goes : Cond.instanceMethod yX7_goes ∈ zWS ∧ Cond.selects RX7 yX7_goes yX7_goes ∈ zWS ∧ Cond.initialized yX7_goes.cls ∈ zWS ∧ Cond.code yX7_goes iX7_goes.2.1 iX7_goes.2.2.1 iX7_goes.2.2.2.1 ∈ zWS := ⟨zt6 127 rfl rfl, zt6 128 rfl rfl, zt1 8 rfl rfl, zt6 129 rfl rfl⟩
theorem wc_X6_day : Cond.instanceMethod yX6_day ∈ zWS ∧ Cond.selects RX6 yX6_day yX6_day ∈ zWS ∧ Cond.initialized yX6_day.cls ∈ zWS ∧ Cond.code yX6_day iX6_day.2.1 iX6_day.2.2.1 iX6_day.2.2.2.1 ∈ zWS := ⟨zt4 2 rfl rfl, zt4 3 rfl rfl, zt1 1 rfl rfl, zt4 4 rfl rfl⟩
theorem wc_X7_day : Cond.instanceMethod yX7_day ∈ zWS ∧ Cond.selects RX7 yX7_day yX7_day ∈ zWS ∧ Cond.initialized yX7_day.cls ∈ zWS ∧ Cond.code yX7_day iX7_day.2.1 iX7_day.2.2.1 iX7_day.2.2.2.1 ∈ zWS := ⟨zt6 131 rfl rfl, zt6 132 rfl rfl, zt1 8 rfl rfl, zt6 133 rfl rfl⟩
theorem wc_X6_undo : Cond.instanceMethod yX6_undo ∈ zWS ∧ Cond.selects RX6 yX6_undo yX6_undo ∈ zWS ∧ Cond.initialized yX6_undo.cls ∈ zWS ∧ Cond.code yX6_undo iX6_undo.2.1 iX6_undo.2.2.1 iX6_undo.2.2.2.1 ∈ zWS := ⟨zt4 18 rfl rfl, zt4 19 rfl rfl, zt1 1 rfl rfl, zt4 20 rfl rfl⟩
theorem wc_X7_undo : Cond.instanceMethod yX7_undo ∈ zWS ∧ Cond.selects RX7 yX7_undo yX7_undo ∈ zWS ∧ Cond.initialized yX7_undo.cls ∈ zWS ∧ Cond.code yX7_undo iX7_undo.2.1 iX7_undo.2.2.1 iX7_undo.2.2.2.1 ∈ zWS := ⟨zt6 226 rfl rfl, zt6 227 rfl rfl, zt1 8 rfl rfl, zt6 228 rfl rfl⟩
theorem wc_X6_years : Cond.instanceMethod yX6_years ∈ zWS ∧ Cond.selects RX6 yX6_years yX6_years ∈ zWS ∧ Cond.initialized yX6_years.cls ∈ zWS ∧ Cond.code yX6_years iX6_years.2.1 iX6_years.2.2.1 iX6_years.2.2.2.1 ∈ zWS := ⟨zt4 26 rfl rfl, zt4 27 rfl rfl, zt1 1 rfl rfl, zt4 28 rfl rfl⟩
theorem wc_X7_years : Cond.instanceMethod yX7_years ∈ zWS ∧ Cond.selects RX7 yX7_years yX7_years ∈ zWS ∧ Cond.initialized yX7_years.cls ∈ zWS ∧ Cond.code yX7_years iX7_years.2.1 iX7_years.2.2.1 iX7_years.2.2.2.1 ∈ zWS := ⟨zt6 230 rfl rfl, zt6 231 rfl rfl, zt1 8 rfl rfl, zt6 232 rfl rfl⟩
theorem wc_X6_keep : Cond.instanceMethod yX6_keep ∈ zWS ∧ Cond.selects RX6 yX6_keep yX6_keep ∈ zWS ∧ Cond.initialized yX6_keep.cls ∈ zWS ∧ Cond.code yX6_keep iX6_keep.2.1 iX6_keep.2.2.1 iX6_keep.2.2.2.1 ∈ zWS := ⟨zt4 37 rfl rfl, zt4 38 rfl rfl, zt1 1 rfl rfl, zt4 39 rfl rfl⟩
theorem wc_X7_keep : Cond.instanceMethod yX7_keep ∈ zWS ∧ Cond.selects RX7 yX7_keep yX7_keep ∈ zWS ∧ Cond.initialized yX7_keep.cls ∈ zWS ∧ Cond.code yX7_keep iX7_keep.2.1 iX7_keep.2.2.1 iX7_keep.2.2.2.1 ∈ zWS := ⟨zt6 239 rfl rfl, zt7 0 rfl rfl, zt1 8 rfl rfl, zt7 1 rfl rfl⟩
theorem wc_X6_again : Cond.instanceMethod yX6_again ∈ zWS ∧ Cond.selects RX6 yX6_again yX6_again ∈ zWS ∧ Cond.initialized yX6_again.cls ∈ zWS ∧ Cond.code yX6_again iX6_again.2.1 iX6_again.2.2.1 iX6_again.2.2.2.1 ∈ zWS := ⟨zt4 41 rfl rfl, zt4 42 rfl rfl, zt1 1 rfl rfl, zt4 43 rfl rfl⟩
theorem wc_X7_again : Cond.instanceMethod yX7_again ∈ zWS ∧ Cond.selects RX7 yX7_again yX7_again ∈ zWS ∧ Cond.initialized yX7_again.cls ∈ zWS ∧ Cond.code yX7_again iX7_again.2.1 iX7_again.2.2.1 iX7_again.2.2.2.1 ∈ zWS := ⟨zt7 3 rfl rfl, zt7 4 rfl rfl, zt1 8 rfl rfl, zt7 5 rfl rfl⟩
theorem wc_X6_count : Cond.instanceMethod yX6_count ∈ zWS ∧ Cond.selects RX6 yX6_count yX6_count ∈ zWS ∧ Cond.initialized yX6_count.cls ∈ zWS ∧ Cond.code yX6_count iX6_count.2.1 iX6_count.2.2.1 iX6_count.2.2.2.1 ∈ zWS := ⟨zt4 49 rfl rfl, zt4 50 rfl rfl, zt1 1 rfl rfl, zt4 51 rfl rfl⟩
theorem wc_X7_count : Cond.instanceMethod yX7_count ∈ zWS ∧ Cond.selects RX7 yX7_count yX7_count ∈ zWS ∧ Cond.initialized yX7_count.cls ∈ zWS ∧ Cond.code yX7_count iX7_count.2.1 iX7_count.2.2.1 iX7_count.2.2.2.1 ∈ zWS := ⟨zt7 7 rfl rfl, zt7 8 rfl rfl, zt1 8 rfl rfl, zt7 9 rfl rfl⟩
theorem wc_X7_row : Cond.instanceMethod yX7_row ∈ zWS ∧ Cond.selects RX7 yX7_row yX7_row ∈ zWS ∧ Cond.initialized yX7_row.cls ∈ zWS ∧ Cond.code yX7_row iX7_row.2.1 iX7_row.2.2.1 iX7_row.2.2.2.1 ∈ zWS := ⟨zt7 11 rfl rfl, zt7 12 rfl rfl, zt1 8 rfl rfl, zt7 13 rfl rfl⟩
def fL_c0 (Ln : Nat) (xs : Nat → Int32) (K : Int32 → zMM → Option Unit) (l4 : Int32) (M : zMM) : Option Unit :=
  if oob ((l4 + 1)) Ln then none else
  (fX6_sign ((xs (Int32.toNatClampNeg (l4 + 1)))) M).bind fun q2 =>
  (fX7_sign ((xs (Int32.toNatClampNeg (l4 + 1)))) q2.2).bind fun q3 =>
  if q2.1 = q3.1 then
    K (l4 + 7) q3.2
  else
    none
set_option maxRecDepth 100000 in
theorem tL_c0 (b Ln : Nat) (xs : Nat → Int32) (K : Int32 → zMM → Option Unit) (n : Nat) (hn : n ≤ 1000) (hK : ∀ (l4 : Int32) (M : zMM), K l4 M = some () → zEV iL_law (601024 - n) (7293034 - 6 * n) (zZL b Ln xs) 23 [(0, .inr (.inr 2000)), (1, .inr (.inr 157)), (2, .inr (.inr 158)), (3, .inr (.inr 174)), (4, .inl l4)] [] M) (l4 : Int32) (M : zMM) (h : fL_c0 Ln xs K l4 M = some ()) : zEV iL_law (601024 - (n + 1)) (7293034 - 6 * (n + 1)) (zZL b Ln xs) 220 [(0, .inr (.inr 2000)), (1, .inr (.inr 157)), (2, .inr (.inr 158)), (3, .inr (.inr 174)), (4, .inl l4)] [] M := by
  unfold fL_c0 at h
  refine zEV.aload_n dL_law_220 rfl 1 rfl ?_
  refine zEV.aload_n dL_law_221 rfl 0 rfl ?_
  refine zEV.iload dL_law_222 4 rfl ?_
  refine zEV.iconst (v := 1) dL_law_224 rfl ?_
  refine zEV.iadd dL_law_225 ?_
  obtain ⟨g1, h⟩ := ite_no h
  refine zEV.sld g1 dL_law_226 ?_
  obtain ⟨q2, hq2, h⟩ := bind_yes h
  refine zEV.callVi (kX6_sign ((xs (Int32.toNatClampNeg (l4 + 1)))) M q2 hq2) (by decide) rfl rfl wml_27 wc_X6_sign hy_X6_sign rfl ⟨Nat.le_of_ble_eq_true rfl, Nat.le_of_ble_eq_true rfl⟩ rfl (Nat.le_of_ble_eq_true rfl) dL_law_227 ?_
  refine zEV.aload_n dL_law_230 rfl 2 rfl ?_
  refine zEV.aload_n dL_law_231 rfl 0 rfl ?_
  refine zEV.iload dL_law_232 4 rfl ?_
  refine zEV.iconst (v := 1) dL_law_234 rfl ?_
  refine zEV.iadd dL_law_235 ?_
  refine zEV.sld g1 dL_law_236 ?_
  obtain ⟨q3, hq3, h⟩ := bind_yes h
  refine zEV.callVi (kX7_sign ((xs (Int32.toNatClampNeg (l4 + 1)))) q2.2 q3 hq3) (by decide) rfl rfl wml_30 wc_X7_sign hy_X7_sign rfl ⟨Nat.le_of_ble_eq_true rfl, Nat.le_of_ble_eq_true rfl⟩ rfl (Nat.le_of_ble_eq_true rfl) dL_law_237 ?_
  refine zEV.icmp_eq 1543 dL_law_240 (by decide) (fun c4 => ?_) (fun c4 => ?_)
  · rw [if_pos c4] at h
    refine zEV.iinc (v := (l4 + 7)) dL_law_1543 4 rfl rfl (Nat.le_of_ble_eq_true rfl) rfl ?_
    refine zEV.goto 23 dL_law_1546 (by decide) ?_
    refine zEV.more rfl (cs' := 601024 - n) (ss' := 7293034 - 6 * n) ⟨by omega, by omega⟩ ⟨by omega, by omega⟩ ?_
    exact zEV.perm [1, 2, 3, 4, 0] rfl (hK (l4 + 7) q3.2 h)
  · rw [if_neg c4] at h
    refine zEV.iconst (v := 0) dL_law_243 rfl ?_
    cases h
def fL_c1 (Ln : Nat) (xs : Nat → Int32) (K : Int32 → zMM → Option Unit) (l4 : Int32) (M : zMM) : Option Unit :=
  if oob ((l4 + 1)) Ln then none else
  (fX6_end ((xs (Int32.toNatClampNeg (l4 + 1)))) M).bind fun q2 =>
  (fX7_end ((xs (Int32.toNatClampNeg (l4 + 1)))) q2.2).bind fun q3 =>
  if q2.1 = q3.1 then
    K (l4 + 7) q3.2
  else
    none
set_option maxRecDepth 100000 in
theorem tL_c1 (b Ln : Nat) (xs : Nat → Int32) (K : Int32 → zMM → Option Unit) (n : Nat) (hn : n ≤ 1000) (hK : ∀ (l4 : Int32) (M : zMM), K l4 M = some () → zEV iL_law (601024 - n) (7293034 - 6 * n) (zZL b Ln xs) 23 [(0, .inr (.inr 2000)), (1, .inr (.inr 157)), (2, .inr (.inr 158)), (3, .inr (.inr 174)), (4, .inl l4)] [] M) (l4 : Int32) (M : zMM) (h : fL_c1 Ln xs K l4 M = some ()) : zEV iL_law (601024 - (n + 1)) (7293034 - 6 * (n + 1)) (zZL b Ln xs) 245 [(0, .inr (.inr 2000)), (1, .inr (.inr 157)), (2, .inr (.inr 158)), (3, .inr (.inr 174)), (4, .inl l4)] [] M := by
  unfold fL_c1 at h
  refine zEV.aload_n dL_law_245 rfl 1 rfl ?_
  refine zEV.aload_n dL_law_246 rfl 0 rfl ?_
  refine zEV.iload dL_law_247 4 rfl ?_
  refine zEV.iconst (v := 1) dL_law_249 rfl ?_
  refine zEV.iadd dL_law_250 ?_
  obtain ⟨g1, h⟩ := ite_no h
  refine zEV.sld g1 dL_law_251 ?_
  obtain ⟨q2, hq2, h⟩ := bind_yes h
  refine zEV.callVi (kX6_end ((xs (Int32.toNatClampNeg (l4 + 1)))) M q2 hq2) (by decide) rfl rfl wml_31 wc_X6_end hy_X6_end rfl ⟨Nat.le_of_ble_eq_true rfl, Nat.le_of_ble_eq_true rfl⟩ rfl (Nat.le_of_ble_eq_true rfl) dL_law_252 ?_
  refine zEV.aload_n dL_law_255 rfl 2 rfl ?_
  refine zEV.aload_n dL_law_256 rfl 0 rfl ?_
  refine zEV.iload dL_law_257 4 rfl ?_
  refine zEV.iconst (v := 1) dL_law_259 rfl ?_
  refine zEV.iadd dL_law_260 ?_
  refine zEV.sld g1 dL_law_261 ?_
  obtain ⟨q3, hq3, h⟩ := bind_yes h
  refine zEV.callVi (kX7_end ((xs (Int32.toNatClampNeg (l4 + 1)))) q2.2 q3 hq3) (by decide) rfl rfl wml_35 wc_X7_end hy_X7_end rfl ⟨Nat.le_of_ble_eq_true rfl, Nat.le_of_ble_eq_true rfl⟩ rfl (Nat.le_of_ble_eq_true rfl) dL_law_262 ?_
  refine zEV.icmp_eq 1543 dL_law_265 (by decide) (fun c4 => ?_) (fun c4 => ?_)
  · rw [if_pos c4] at h
    refine zEV.iinc (v := (l4 + 7)) dL_law_1543 4 rfl rfl (Nat.le_of_ble_eq_true rfl) rfl ?_
    refine zEV.goto 23 dL_law_1546 (by decide) ?_
    refine zEV.more rfl (cs' := 601024 - n) (ss' := 7293034 - 6 * n) ⟨by omega, by omega⟩ ⟨by omega, by omega⟩ ?_
    exact zEV.perm [1, 2, 3, 4, 0] rfl (hK (l4 + 7) q3.2 h)
  · rw [if_neg c4] at h
    refine zEV.iconst (v := 0) dL_law_268 rfl ?_
    cases h
def fL_c2 (Ln : Nat) (xs : Nat → Int32) (K : Int32 → zMM → Option Unit) (l4 : Int32) (M : zMM) : Option Unit :=
  if oob ((l4 + 1)) Ln then none else
  (fX6_words ((xs (Int32.toNatClampNeg (l4 + 1)))) M).bind fun q2 =>
  (fX7_words ((xs (Int32.toNatClampNeg (l4 + 1)))) q2.2).bind fun q3 =>
  if q2.1 = q3.1 then
    K (l4 + 7) q3.2
  else
    none
set_option maxRecDepth 100000 in
theorem tL_c2 (b Ln : Nat) (xs : Nat → Int32) (K : Int32 → zMM → Option Unit) (n : Nat) (hn : n ≤ 1000) (hK : ∀ (l4 : Int32) (M : zMM), K l4 M = some () → zEV iL_law (601024 - n) (7293034 - 6 * n) (zZL b Ln xs) 23 [(0, .inr (.inr 2000)), (1, .inr (.inr 157)), (2, .inr (.inr 158)), (3, .inr (.inr 174)), (4, .inl l4)] [] M) (l4 : Int32) (M : zMM) (h : fL_c2 Ln xs K l4 M = some ()) : zEV iL_law (601024 - (n + 1)) (7293034 - 6 * (n + 1)) (zZL b Ln xs) 270 [(0, .inr (.inr 2000)), (1, .inr (.inr 157)), (2, .inr (.inr 158)), (3, .inr (.inr 174)), (4, .inl l4)] [] M := by
  unfold fL_c2 at h
  refine zEV.aload_n dL_law_270 rfl 1 rfl ?_
  refine zEV.aload_n dL_law_271 rfl 0 rfl ?_
  refine zEV.iload dL_law_272 4 rfl ?_
  refine zEV.iconst (v := 1) dL_law_274 rfl ?_
  refine zEV.iadd dL_law_275 ?_
  obtain ⟨g1, h⟩ := ite_no h
  refine zEV.sld g1 dL_law_276 ?_
  obtain ⟨q2, hq2, h⟩ := bind_yes h
  refine zEV.callVi (kX6_words ((xs (Int32.toNatClampNeg (l4 + 1)))) M q2 hq2) (by decide) rfl rfl wml_36 wc_X6_words hy_X6_words rfl ⟨Nat.le_of_ble_eq_true rfl, Nat.le_of_ble_eq_true rfl⟩ rfl (Nat.le_of_ble_eq_true rfl) dL_law_277 ?_
  refine zEV.aload_n dL_law_280 rfl 2 rfl ?_
  refine zEV.aload_n dL_law_281 rfl 0 rfl ?_
  refine zEV.iload dL_law_282 4 rfl ?_
  refine zEV.iconst (v := 1) dL_law_284 rfl ?_
  refine zEV.iadd dL_law_285 ?_
  refine zEV.sld g1 dL_law_286 ?_
  obtain ⟨q3, hq3, h⟩ := bind_yes h
  refine zEV.callVi (kX7_words ((xs (Int32.toNatClampNeg (l4 + 1)))) q2.2 q3 hq3) (by decide) rfl rfl wml_39 wc_X7_words hy_X7_words rfl ⟨Nat.le_of_ble_eq_true rfl, Nat.le_of_ble_eq_true rfl⟩ rfl (Nat.le_of_ble_eq_true rfl) dL_law_287 ?_
  refine zEV.icmp_eq 1543 dL_law_290 (by decide) (fun c4 => ?_) (fun c4 => ?_)
  · rw [if_pos c4] at h
    refine zEV.iinc (v := (l4 + 7)) dL_law_1543 4 rfl rfl (Nat.le_of_ble_eq_true rfl) rfl ?_
    refine zEV.goto 23 dL_law_1546 (by decide) ?_
    refine zEV.more rfl (cs' := 601024 - n) (ss' := 7293034 - 6 * n) ⟨by omega, by omega⟩ ⟨by omega, by omega⟩ ?_
    exact zEV.perm [1, 2, 3, 4, 0] rfl (hK (l4 + 7) q3.2 h)
  · rw [if_neg c4] at h
    refine zEV.iconst (v := 0) dL_law_293 rfl ?_
    cases h
def fL_c3 (Ln : Nat) (xs : Nat → Int32) (K : Int32 → zMM → Option Unit) (l4 : Int32) (M : zMM) : Option Unit :=
  (fX6_ties  M).bind fun q1 =>
  (fX7_ties  q1.2).bind fun q2 =>
  if q1.1 = q2.1 then
    K (l4 + 7) q2.2
  else
    none
set_option maxRecDepth 100000 in
theorem tL_c3 (b Ln : Nat) (xs : Nat → Int32) (K : Int32 → zMM → Option Unit) (n : Nat) (hn : n ≤ 1000) (hK : ∀ (l4 : Int32) (M : zMM), K l4 M = some () → zEV iL_law (601024 - n) (7293034 - 6 * n) (zZL b Ln xs) 23 [(0, .inr (.inr 2000)), (1, .inr (.inr 157)), (2, .inr (.inr 158)), (3, .inr (.inr 174)), (4, .inl l4)] [] M) (l4 : Int32) (M : zMM) (h : fL_c3 Ln xs K l4 M = some ()) : zEV iL_law (601024 - (n + 1)) (7293034 - 6 * (n + 1)) (zZL b Ln xs) 295 [(0, .inr (.inr 2000)), (1, .inr (.inr 157)), (2, .inr (.inr 158)), (3, .inr (.inr 174)), (4, .inl l4)] [] M := by
  unfold fL_c3 at h
  refine zEV.aload_n dL_law_295 rfl 1 rfl ?_
  obtain ⟨q1, hq1, h⟩ := bind_yes h
  refine zEV.callVi (kX6_ties  M q1 hq1) (by decide) rfl rfl wml_40 wc_X6_ties hy_X6_ties rfl ⟨Nat.le_of_ble_eq_true rfl, Nat.le_of_ble_eq_true rfl⟩ rfl (Nat.le_of_ble_eq_true rfl) dL_law_296 ?_
  refine zEV.aload_n dL_law_299 rfl 2 rfl ?_
  obtain ⟨q2, hq2, h⟩ := bind_yes h
  refine zEV.callVi (kX7_ties  q1.2 q2 hq2) (by decide) rfl rfl wml_44 wc_X7_ties hy_X7_ties rfl ⟨Nat.le_of_ble_eq_true rfl, Nat.le_of_ble_eq_true rfl⟩ rfl (Nat.le_of_ble_eq_true rfl) dL_law_300 ?_
  refine zEV.icmp_eq 1543 dL_law_303 (by decide) (fun c3 => ?_) (fun c3 => ?_)
  · rw [if_pos c3] at h
    refine zEV.iinc (v := (l4 + 7)) dL_law_1543 4 rfl rfl (Nat.le_of_ble_eq_true rfl) rfl ?_
    refine zEV.goto 23 dL_law_1546 (by decide) ?_
    refine zEV.more rfl (cs' := 601024 - n) (ss' := 7293034 - 6 * n) ⟨by omega, by omega⟩ ⟨by omega, by omega⟩ ?_
    exact zEV.perm [1, 2, 3, 4, 0] rfl (hK (l4 + 7) q2.2 h)
  · rw [if_neg c3] at h
    refine zEV.iconst (v := 0) dL_law_306 rfl ?_
    cases h
def fL_c4 (Ln : Nat) (xs : Nat → Int32) (K : Int32 → zMM → Option Unit) (l4 : Int32) (M : zMM) : Option Unit :=
  if oob ((l4 + 1)) Ln then none else
  if oob ((l4 + 2)) Ln then none else
  if oob ((l4 + 3)) Ln then none else
  if oob ((l4 + 4)) Ln then none else
  if oob ((l4 + 5)) Ln then none else
  if oob ((l4 + 6)) Ln then none else
  (fX6_sheet ((xs (Int32.toNatClampNeg (l4 + 1)))) ((xs (Int32.toNatClampNeg (l4 + 2)))) ((xs (Int32.toNatClampNeg (l4 + 3)))) ((xs (Int32.toNatClampNeg (l4 + 4)))) ((xs (Int32.toNatClampNeg (l4 + 5)))) ((xs (Int32.toNatClampNeg (l4 + 6)))) M).bind fun q7 =>
  (fX7_sheet ((xs (Int32.toNatClampNeg (l4 + 1)))) ((xs (Int32.toNatClampNeg (l4 + 2)))) ((xs (Int32.toNatClampNeg (l4 + 3)))) ((xs (Int32.toNatClampNeg (l4 + 4)))) ((xs (Int32.toNatClampNeg (l4 + 5)))) ((xs (Int32.toNatClampNeg (l4 + 6)))) q7.2).bind fun q8 =>
  if q7.1 = q8.1 then
    K (l4 + 7) q8.2
  else
    none
set_option maxRecDepth 100000 in
theorem tL_c4 (b Ln : Nat) (xs : Nat → Int32) (K : Int32 → zMM → Option Unit) (n : Nat) (hn : n ≤ 1000) (hK : ∀ (l4 : Int32) (M : zMM), K l4 M = some () → zEV iL_law (601024 - n) (7293034 - 6 * n) (zZL b Ln xs) 23 [(0, .inr (.inr 2000)), (1, .inr (.inr 157)), (2, .inr (.inr 158)), (3, .inr (.inr 174)), (4, .inl l4)] [] M) (l4 : Int32) (M : zMM) (h : fL_c4 Ln xs K l4 M = some ()) : zEV iL_law (601024 - (n + 1)) (7293034 - 6 * (n + 1)) (zZL b Ln xs) 308 [(0, .inr (.inr 2000)), (1, .inr (.inr 157)), (2, .inr (.inr 158)), (3, .inr (.inr 174)), (4, .inl l4)] [] M := by
  unfold fL_c4 at h
  refine zEV.aload_n dL_law_308 rfl 1 rfl ?_
  refine zEV.aload_n dL_law_309 rfl 0 rfl ?_
  refine zEV.iload dL_law_310 4 rfl ?_
  refine zEV.iconst (v := 1) dL_law_312 rfl ?_
  refine zEV.iadd dL_law_313 ?_
  obtain ⟨g1, h⟩ := ite_no h
  refine zEV.sld g1 dL_law_314 ?_
  refine zEV.aload_n dL_law_315 rfl 0 rfl ?_
  refine zEV.iload dL_law_316 4 rfl ?_
  refine zEV.iconst (v := 2) dL_law_318 rfl ?_
  refine zEV.iadd dL_law_319 ?_
  obtain ⟨g2, h⟩ := ite_no h
  refine zEV.sld g2 dL_law_320 ?_
  refine zEV.aload_n dL_law_321 rfl 0 rfl ?_
  refine zEV.iload dL_law_322 4 rfl ?_
  refine zEV.iconst (v := 3) dL_law_324 rfl ?_
  refine zEV.iadd dL_law_325 ?_
  obtain ⟨g3, h⟩ := ite_no h
  refine zEV.sld g3 dL_law_326 ?_
  refine zEV.aload_n dL_law_327 rfl 0 rfl ?_
  refine zEV.iload dL_law_328 4 rfl ?_
  refine zEV.iconst (v := 4) dL_law_330 rfl ?_
  refine zEV.iadd dL_law_331 ?_
  obtain ⟨g4, h⟩ := ite_no h
  refine zEV.sld g4 dL_law_332 ?_
  refine zEV.aload_n dL_law_333 rfl 0 rfl ?_
  refine zEV.iload dL_law_334 4 rfl ?_
  refine zEV.iconst (v := 5) dL_law_336 rfl ?_
  refine zEV.iadd dL_law_337 ?_
  obtain ⟨g5, h⟩ := ite_no h
  refine zEV.sld g5 dL_law_338 ?_
  refine zEV.aload_n dL_law_339 rfl 0 rfl ?_
  refine zEV.iload dL_law_340 4 rfl ?_
  refine zEV.bipush (v := 6) dL_law_342 rfl ?_
  refine zEV.iadd dL_law_344 ?_
  obtain ⟨g6, h⟩ := ite_no h
  refine zEV.sld g6 dL_law_345 ?_
  obtain ⟨q7, hq7, h⟩ := bind_yes h
  refine zEV.callVi (kX6_sheet ((xs (Int32.toNatClampNeg (l4 + 1)))) ((xs (Int32.toNatClampNeg (l4 + 2)))) ((xs (Int32.toNatClampNeg (l4 + 3)))) ((xs (Int32.toNatClampNeg (l4 + 4)))) ((xs (Int32.toNatClampNeg (l4 + 5)))) ((xs (Int32.toNatClampNeg (l4 + 6)))) M q7 hq7) (by decide) rfl rfl wml_45 wc_X6_sheet hy_X6_sheet rfl ⟨Nat.le_of_ble_eq_true rfl, Nat.le_of_ble_eq_true rfl⟩ rfl (Nat.le_of_ble_eq_true rfl) dL_law_346 ?_
  refine zEV.aload_n dL_law_349 rfl 2 rfl ?_
  refine zEV.aload_n dL_law_350 rfl 0 rfl ?_
  refine zEV.iload dL_law_351 4 rfl ?_
  refine zEV.iconst (v := 1) dL_law_353 rfl ?_
  refine zEV.iadd dL_law_354 ?_
  refine zEV.sld g1 dL_law_355 ?_
  refine zEV.aload_n dL_law_356 rfl 0 rfl ?_
  refine zEV.iload dL_law_357 4 rfl ?_
  refine zEV.iconst (v := 2) dL_law_359 rfl ?_
  refine zEV.iadd dL_law_360 ?_
  refine zEV.sld g2 dL_law_361 ?_
  refine zEV.aload_n dL_law_362 rfl 0 rfl ?_
  refine zEV.iload dL_law_363 4 rfl ?_
  refine zEV.iconst (v := 3) dL_law_365 rfl ?_
  refine zEV.iadd dL_law_366 ?_
  refine zEV.sld g3 dL_law_367 ?_
  refine zEV.aload_n dL_law_368 rfl 0 rfl ?_
  refine zEV.iload dL_law_369 4 rfl ?_
  refine zEV.iconst (v := 4) dL_law_371 rfl ?_
  refine zEV.iadd dL_law_372 ?_
  refine zEV.sld g4 dL_law_373 ?_
  refine zEV.aload_n dL_law_374 rfl 0 rfl ?_
  refine zEV.iload dL_law_375 4 rfl ?_
  refine zEV.iconst (v := 5) dL_law_377 rfl ?_
  refine zEV.iadd dL_law_378 ?_
  refine zEV.sld g5 dL_law_379 ?_
  refine zEV.aload_n dL_law_380 rfl 0 rfl ?_
  refine zEV.iload dL_law_381 4 rfl ?_
  refine zEV.bipush (v := 6) dL_law_383 rfl ?_
  refine zEV.iadd dL_law_385 ?_
  refine zEV.sld g6 dL_law_386 ?_
  obtain ⟨q8, hq8, h⟩ := bind_yes h
  refine zEV.callVi (kX7_sheet ((xs (Int32.toNatClampNeg (l4 + 1)))) ((xs (Int32.toNatClampNeg (l4 + 2)))) ((xs (Int32.toNatClampNeg (l4 + 3)))) ((xs (Int32.toNatClampNeg (l4 + 4)))) ((xs (Int32.toNatClampNeg (l4 + 5)))) ((xs (Int32.toNatClampNeg (l4 + 6)))) q7.2 q8 hq8) (by decide) rfl rfl wml_49 wc_X7_sheet hy_X7_sheet rfl ⟨Nat.le_of_ble_eq_true rfl, Nat.le_of_ble_eq_true rfl⟩ rfl (Nat.le_of_ble_eq_true rfl) dL_law_387 ?_
  refine zEV.icmp_eq 1543 dL_law_390 (by decide) (fun c9 => ?_) (fun c9 => ?_)
  · rw [if_pos c9] at h
    refine zEV.iinc (v := (l4 + 7)) dL_law_1543 4 rfl rfl (Nat.le_of_ble_eq_true rfl) rfl ?_
    refine zEV.goto 23 dL_law_1546 (by decide) ?_
    refine zEV.more rfl (cs' := 601024 - n) (ss' := 7293034 - 6 * n) ⟨by omega, by omega⟩ ⟨by omega, by omega⟩ ?_
    exact zEV.perm [1, 2, 3, 4, 0] rfl (hK (l4 + 7) q8.2 h)
  · rw [if_neg c9] at h
    refine zEV.iconst (v := 0) dL_law_393 rfl ?_
    cases h
def fL_c5 (Ln : Nat) (xs : Nat → Int32) (K : Int32 → zMM → Option Unit) (l4 : Int32) (M : zMM) : Option Unit :=
  (fX6_pages  M).bind fun q1 =>
  (fX7_pages  q1.2).bind fun q2 =>
  if q1.1 = q2.1 then
    K (l4 + 7) q2.2
  else
    none
set_option maxRecDepth 100000 in
theorem tL_c5 (b Ln : Nat) (xs : Nat → Int32) (K : Int32 → zMM → Option Unit) (n : Nat) (hn : n ≤ 1000) (hK : ∀ (l4 : Int32) (M : zMM), K l4 M = some () → zEV iL_law (601024 - n) (7293034 - 6 * n) (zZL b Ln xs) 23 [(0, .inr (.inr 2000)), (1, .inr (.inr 157)), (2, .inr (.inr 158)), (3, .inr (.inr 174)), (4, .inl l4)] [] M) (l4 : Int32) (M : zMM) (h : fL_c5 Ln xs K l4 M = some ()) : zEV iL_law (601024 - (n + 1)) (7293034 - 6 * (n + 1)) (zZL b Ln xs) 395 [(0, .inr (.inr 2000)), (1, .inr (.inr 157)), (2, .inr (.inr 158)), (3, .inr (.inr 174)), (4, .inl l4)] [] M := by
  unfold fL_c5 at h
  refine zEV.aload_n dL_law_395 rfl 1 rfl ?_
  obtain ⟨q1, hq1, h⟩ := bind_yes h
  refine zEV.callVi (kX6_pages  M q1 hq1) (by decide) rfl rfl wml_50 wc_X6_pages hy_X6_pages rfl ⟨Nat.le_of_ble_eq_true rfl, Nat.le_of_ble_eq_true rfl⟩ rfl (Nat.le_of_ble_eq_true rfl) dL_law_396 ?_
  refine zEV.aload_n dL_law_399 rfl 2 rfl ?_
  obtain ⟨q2, hq2, h⟩ := bind_yes h
  refine zEV.callVi (kX7_pages  q1.2 q2 hq2) (by decide) rfl rfl wml_53 wc_X7_pages hy_X7_pages rfl ⟨Nat.le_of_ble_eq_true rfl, Nat.le_of_ble_eq_true rfl⟩ rfl (Nat.le_of_ble_eq_true rfl) dL_law_400 ?_
  refine zEV.icmp_eq 1543 dL_law_403 (by decide) (fun c3 => ?_) (fun c3 => ?_)
  · rw [if_pos c3] at h
    refine zEV.iinc (v := (l4 + 7)) dL_law_1543 4 rfl rfl (Nat.le_of_ble_eq_true rfl) rfl ?_
    refine zEV.goto 23 dL_law_1546 (by decide) ?_
    refine zEV.more rfl (cs' := 601024 - n) (ss' := 7293034 - 6 * n) ⟨by omega, by omega⟩ ⟨by omega, by omega⟩ ?_
    exact zEV.perm [1, 2, 3, 4, 0] rfl (hK (l4 + 7) q2.2 h)
  · rw [if_neg c3] at h
    refine zEV.iconst (v := 0) dL_law_406 rfl ?_
    cases h
def fL_c6 (Ln : Nat) (xs : Nat → Int32) (K : Int32 → zMM → Option Unit) (l4 : Int32) (M : zMM) : Option Unit :=
  if oob ((l4 + 1)) Ln then none else
  if oob ((l4 + 2)) Ln then none else
  if oob ((l4 + 3)) Ln then none else
  (fX6_part ((xs (Int32.toNatClampNeg (l4 + 1)))) ((xs (Int32.toNatClampNeg (l4 + 2)))) ((xs (Int32.toNatClampNeg (l4 + 3)))) M).bind fun q4 =>
  (fX7_part ((xs (Int32.toNatClampNeg (l4 + 1)))) ((xs (Int32.toNatClampNeg (l4 + 2)))) ((xs (Int32.toNatClampNeg (l4 + 3)))) q4.2).bind fun q5 =>
  if q4.1 = q5.1 then
    K (l4 + 7) q5.2
  else
    none
set_option maxRecDepth 100000 in
theorem tL_c6 (b Ln : Nat) (xs : Nat → Int32) (K : Int32 → zMM → Option Unit) (n : Nat) (hn : n ≤ 1000) (hK : ∀ (l4 : Int32) (M : zMM), K l4 M = some () → zEV iL_law (601024 - n) (7293034 - 6 * n) (zZL b Ln xs) 23 [(0, .inr (.inr 2000)), (1, .inr (.inr 157)), (2, .inr (.inr 158)), (3, .inr (.inr 174)), (4, .inl l4)] [] M) (l4 : Int32) (M : zMM) (h : fL_c6 Ln xs K l4 M = some ()) : zEV iL_law (601024 - (n + 1)) (7293034 - 6 * (n + 1)) (zZL b Ln xs) 408 [(0, .inr (.inr 2000)), (1, .inr (.inr 157)), (2, .inr (.inr 158)), (3, .inr (.inr 174)), (4, .inl l4)] [] M := by
  unfold fL_c6 at h
  refine zEV.aload_n dL_law_408 rfl 1 rfl ?_
  refine zEV.aload_n dL_law_409 rfl 0 rfl ?_
  refine zEV.iload dL_law_410 4 rfl ?_
  refine zEV.iconst (v := 1) dL_law_412 rfl ?_
  refine zEV.iadd dL_law_413 ?_
  obtain ⟨g1, h⟩ := ite_no h
  refine zEV.sld g1 dL_law_414 ?_
  refine zEV.aload_n dL_law_415 rfl 0 rfl ?_
  refine zEV.iload dL_law_416 4 rfl ?_
  refine zEV.iconst (v := 2) dL_law_418 rfl ?_
  refine zEV.iadd dL_law_419 ?_
  obtain ⟨g2, h⟩ := ite_no h
  refine zEV.sld g2 dL_law_420 ?_
  refine zEV.aload_n dL_law_421 rfl 0 rfl ?_
  refine zEV.iload dL_law_422 4 rfl ?_
  refine zEV.iconst (v := 3) dL_law_424 rfl ?_
  refine zEV.iadd dL_law_425 ?_
  obtain ⟨g3, h⟩ := ite_no h
  refine zEV.sld g3 dL_law_426 ?_
  obtain ⟨q4, hq4, h⟩ := bind_yes h
  refine zEV.callVi (kX6_part ((xs (Int32.toNatClampNeg (l4 + 1)))) ((xs (Int32.toNatClampNeg (l4 + 2)))) ((xs (Int32.toNatClampNeg (l4 + 3)))) M q4 hq4) (by decide) rfl rfl wml_54 wc_X6_part hy_X6_part rfl ⟨Nat.le_of_ble_eq_true rfl, Nat.le_of_ble_eq_true rfl⟩ rfl (Nat.le_of_ble_eq_true rfl) dL_law_427 ?_
  refine zEV.aload_n dL_law_430 rfl 2 rfl ?_
  refine zEV.aload_n dL_law_431 rfl 0 rfl ?_
  refine zEV.iload dL_law_432 4 rfl ?_
  refine zEV.iconst (v := 1) dL_law_434 rfl ?_
  refine zEV.iadd dL_law_435 ?_
  refine zEV.sld g1 dL_law_436 ?_
  refine zEV.aload_n dL_law_437 rfl 0 rfl ?_
  refine zEV.iload dL_law_438 4 rfl ?_
  refine zEV.iconst (v := 2) dL_law_440 rfl ?_
  refine zEV.iadd dL_law_441 ?_
  refine zEV.sld g2 dL_law_442 ?_
  refine zEV.aload_n dL_law_443 rfl 0 rfl ?_
  refine zEV.iload dL_law_444 4 rfl ?_
  refine zEV.iconst (v := 3) dL_law_446 rfl ?_
  refine zEV.iadd dL_law_447 ?_
  refine zEV.sld g3 dL_law_448 ?_
  obtain ⟨q5, hq5, h⟩ := bind_yes h
  refine zEV.callVi (kX7_part ((xs (Int32.toNatClampNeg (l4 + 1)))) ((xs (Int32.toNatClampNeg (l4 + 2)))) ((xs (Int32.toNatClampNeg (l4 + 3)))) q4.2 q5 hq5) (by decide) rfl rfl wml_57 wc_X7_part hy_X7_part rfl ⟨Nat.le_of_ble_eq_true rfl, Nat.le_of_ble_eq_true rfl⟩ rfl (Nat.le_of_ble_eq_true rfl) dL_law_449 ?_
  refine zEV.icmp_eq 1543 dL_law_452 (by decide) (fun c6 => ?_) (fun c6 => ?_)
  · rw [if_pos c6] at h
    refine zEV.iinc (v := (l4 + 7)) dL_law_1543 4 rfl rfl (Nat.le_of_ble_eq_true rfl) rfl ?_
    refine zEV.goto 23 dL_law_1546 (by decide) ?_
    refine zEV.more rfl (cs' := 601024 - n) (ss' := 7293034 - 6 * n) ⟨by omega, by omega⟩ ⟨by omega, by omega⟩ ?_
    exact zEV.perm [1, 2, 3, 4, 0] rfl (hK (l4 + 7) q5.2 h)
  · rw [if_neg c6] at h
    refine zEV.iconst (v := 0) dL_law_455 rfl ?_
    cases h
def fL_c7 (Ln : Nat) (xs : Nat → Int32) (K : Int32 → zMM → Option Unit) (l4 : Int32) (M : zMM) : Option Unit :=
  if oob ((l4 + 1)) Ln then none else
  if oob ((l4 + 2)) Ln then none else
  if oob ((l4 + 3)) Ln then none else
  (fL_word ((xs (Int32.toNatClampNeg (l4 + 1)))) ((xs (Int32.toNatClampNeg (l4 + 2)))) ((xs (Int32.toNatClampNeg (l4 + 3)))) M).bind fun q4 =>
  (fX7_word ((xs (Int32.toNatClampNeg (l4 + 1)))) ((xs (Int32.toNatClampNeg (l4 + 2)))) ((xs (Int32.toNatClampNeg (l4 + 3)))) q4.2).bind fun q5 =>
  (fX7_thrown  q5.2).bind fun q6 =>
  if q6.1 = q4.1 then
    if q4.1 = (0 : Int32) then
      if (lg_cmp (q6.2.2 174 0) (Int32.toInt64 q5.1)) = (0 : Int32) then
        K (l4 + 7) q6.2
      else
        none
    else
      K (l4 + 7) q6.2
  else
    none
set_option maxRecDepth 100000 in
theorem tL_c7 (b Ln : Nat) (xs : Nat → Int32) (K : Int32 → zMM → Option Unit) (n : Nat) (hn : n ≤ 1000) (hK : ∀ (l4 : Int32) (M : zMM), K l4 M = some () → zEV iL_law (601024 - n) (7293034 - 6 * n) (zZL b Ln xs) 23 [(0, .inr (.inr 2000)), (1, .inr (.inr 157)), (2, .inr (.inr 158)), (3, .inr (.inr 174)), (4, .inl l4)] [] M) (l4 : Int32) (M : zMM) (h : fL_c7 Ln xs K l4 M = some ()) : zEV iL_law (601024 - (n + 1)) (7293034 - 6 * (n + 1)) (zZL b Ln xs) 457 [(0, .inr (.inr 2000)), (1, .inr (.inr 157)), (2, .inr (.inr 158)), (3, .inr (.inr 174)), (4, .inl l4)] [] M := by
  unfold fL_c7 at h
  refine zEV.aload_n dL_law_457 rfl 1 rfl ?_
  refine zEV.aload_n dL_law_458 rfl 0 rfl ?_
  refine zEV.iload dL_law_459 4 rfl ?_
  refine zEV.iconst (v := 1) dL_law_461 rfl ?_
  refine zEV.iadd dL_law_462 ?_
  obtain ⟨g1, h⟩ := ite_no h
  refine zEV.sld g1 dL_law_463 ?_
  refine zEV.aload_n dL_law_464 rfl 0 rfl ?_
  refine zEV.iload dL_law_465 4 rfl ?_
  refine zEV.iconst (v := 2) dL_law_467 rfl ?_
  refine zEV.iadd dL_law_468 ?_
  obtain ⟨g2, h⟩ := ite_no h
  refine zEV.sld g2 dL_law_469 ?_
  refine zEV.aload_n dL_law_470 rfl 0 rfl ?_
  refine zEV.iload dL_law_471 4 rfl ?_
  refine zEV.iconst (v := 3) dL_law_473 rfl ?_
  refine zEV.iadd dL_law_474 ?_
  obtain ⟨g3, h⟩ := ite_no h
  refine zEV.sld g3 dL_law_475 ?_
  refine zEV.aload_n dL_law_476 rfl 3 rfl ?_
  obtain ⟨q4, hq4, h⟩ := bind_yes h
  refine zEV.callS1 (kL_word ((xs (Int32.toNatClampNeg (l4 + 1)))) ((xs (Int32.toNatClampNeg (l4 + 2)))) ((xs (Int32.toNatClampNeg (l4 + 3)))) M q4 hq4) rfl ⟨by omega, by omega⟩ ⟨by omega, by omega⟩ wml_58 wcl_word hyl_word rfl ⟨Nat.le_of_ble_eq_true rfl, Nat.le_of_ble_eq_true rfl⟩ rfl (Nat.le_of_ble_eq_true rfl) dL_law_477 ?_
  refine zEV.istore dL_law_480 (Nat.le_of_ble_eq_true rfl) rfl ?_
  refine zEV.aload_n dL_law_482 rfl 3 rfl ?_
  refine zEV.aload_n dL_law_483 rfl 1 rfl ?_
  refine zEV.iload dL_law_484 5 rfl ?_
  refine zEV.iconst (v := 1) dL_law_486 rfl ?_
  refine zEV.iadd dL_law_487 ?_
  refine zEV.sld g1 dL_law_488 ?_
  refine zEV.aload_n dL_law_489 rfl 1 rfl ?_
  refine zEV.iload dL_law_490 5 rfl ?_
  refine zEV.iconst (v := 2) dL_law_492 rfl ?_
  refine zEV.iadd dL_law_493 ?_
  refine zEV.sld g2 dL_law_494 ?_
  refine zEV.aload_n dL_law_495 rfl 1 rfl ?_
  refine zEV.iload dL_law_496 5 rfl ?_
  refine zEV.iconst (v := 3) dL_law_498 rfl ?_
  refine zEV.iadd dL_law_499 ?_
  refine zEV.sld g3 dL_law_500 ?_
  obtain ⟨q5, hq5, h⟩ := bind_yes h
  refine zEV.callVi (kX7_word ((xs (Int32.toNatClampNeg (l4 + 1)))) ((xs (Int32.toNatClampNeg (l4 + 2)))) ((xs (Int32.toNatClampNeg (l4 + 3)))) q4.2 q5 hq5) (by decide) rfl rfl wml_63 wc_X7_word hy_X7_word rfl ⟨Nat.le_of_ble_eq_true rfl, Nat.le_of_ble_eq_true rfl⟩ rfl (Nat.le_of_ble_eq_true rfl) dL_law_501 ?_
  refine zEV.istore dL_law_504 (Nat.le_of_ble_eq_true rfl) rfl ?_
  refine zEV.aload_n dL_law_506 rfl 4 rfl ?_
  obtain ⟨q6, hq6, h⟩ := bind_yes h
  refine zEV.callVi (kX7_thrown  q5.2 q6 hq6) (by decide) rfl rfl wml_64 wc_X7_thrown hy_X7_thrown rfl ⟨Nat.le_of_ble_eq_true rfl, Nat.le_of_ble_eq_true rfl⟩ rfl (Nat.le_of_ble_eq_true rfl) dL_law_507 ?_
  refine zEV.iload dL_law_510 1 rfl ?_
  refine zEV.icmp_eq 517 dL_law_512 (by decide) (fun c7 => ?_) (fun c7 => ?_)
  · rw [if_pos c7] at h
    refine zEV.iload dL_law_517 1 rfl ?_
    refine zEV.if_ne 534 dL_law_519 (by decide) (fun c8 => ?_) (fun c8 => ?_)
    · rw [if_neg c8] at h
      refine zEV.goto 1543 dL_law_534 (by decide) ?_
      refine zEV.iinc (v := (l4 + 7)) dL_law_1543 6 rfl rfl (Nat.le_of_ble_eq_true rfl) rfl ?_
      refine zEV.goto 23 dL_law_1546 (by decide) ?_
      refine zEV.more rfl (cs' := 601024 - n) (ss' := 7293034 - 6 * n) ⟨by omega, by omega⟩ ⟨by omega, by omega⟩ ?_
      exact zEV.perm [3, 4, 5, 6, 0] rfl (hK (l4 + 7) q6.2 h)
    · rw [if_pos c8] at h
      refine zEV.aload_n dL_law_522 rfl 5 rfl ?_
      refine zEV.iconst (v := 0) dL_law_523 rfl ?_
      refine zEV.laldL (j := 0) (by decide) rfl (by decide) (by decide) dL_law_524 ?_
      refine zEV.iload dL_law_525 0 rfl ?_
      refine zEV.i2l dL_law_527 ?_
      refine zEV.lcmp dL_law_528 ?_
      refine zEV.if_eq 534 dL_law_529 (by decide) (fun c9 => ?_) (fun c9 => ?_)
      · rw [if_pos c9] at h
        refine zEV.goto 1543 dL_law_534 (by decide) ?_
        refine zEV.iinc (v := (l4 + 7)) dL_law_1543 6 rfl rfl (Nat.le_of_ble_eq_true rfl) rfl ?_
        refine zEV.goto 23 dL_law_1546 (by decide) ?_
        refine zEV.more rfl (cs' := 601024 - n) (ss' := 7293034 - 6 * n) ⟨by omega, by omega⟩ ⟨by omega, by omega⟩ ?_
        exact zEV.perm [3, 4, 5, 6, 0] rfl (hK (l4 + 7) q6.2 h)
      · rw [if_neg c9] at h
        refine zEV.iconst (v := 0) dL_law_532 rfl ?_
        cases h
  · rw [if_neg c7] at h
    refine zEV.iconst (v := 0) dL_law_515 rfl ?_
    cases h
def fL_c8 (Ln : Nat) (xs : Nat → Int32) (K : Int32 → zMM → Option Unit) (l4 : Int32) (M : zMM) : Option Unit :=
  if oob ((l4 + 1)) Ln then none else
  if oob ((l4 + 2)) Ln then none else
  if oob ((l4 + 3)) Ln then none else
  (fX6_at ((xs (Int32.toNatClampNeg (l4 + 1)))) ((xs (Int32.toNatClampNeg (l4 + 2)))) ((xs (Int32.toNatClampNeg (l4 + 3)))) M).bind fun q4 =>
  (fX7_at ((xs (Int32.toNatClampNeg (l4 + 1)))) ((xs (Int32.toNatClampNeg (l4 + 2)))) ((xs (Int32.toNatClampNeg (l4 + 3)))) q4.2).bind fun q5 =>
  if q4.1 = q5.1 then
    K (l4 + 7) q5.2
  else
    none
set_option maxRecDepth 100000 in
theorem tL_c8 (b Ln : Nat) (xs : Nat → Int32) (K : Int32 → zMM → Option Unit) (n : Nat) (hn : n ≤ 1000) (hK : ∀ (l4 : Int32) (M : zMM), K l4 M = some () → zEV iL_law (601024 - n) (7293034 - 6 * n) (zZL b Ln xs) 23 [(0, .inr (.inr 2000)), (1, .inr (.inr 157)), (2, .inr (.inr 158)), (3, .inr (.inr 174)), (4, .inl l4)] [] M) (l4 : Int32) (M : zMM) (h : fL_c8 Ln xs K l4 M = some ()) : zEV iL_law (601024 - (n + 1)) (7293034 - 6 * (n + 1)) (zZL b Ln xs) 537 [(0, .inr (.inr 2000)), (1, .inr (.inr 157)), (2, .inr (.inr 158)), (3, .inr (.inr 174)), (4, .inl l4)] [] M := by
  unfold fL_c8 at h
  refine zEV.aload_n dL_law_537 rfl 1 rfl ?_
  refine zEV.aload_n dL_law_538 rfl 0 rfl ?_
  refine zEV.iload dL_law_539 4 rfl ?_
  refine zEV.iconst (v := 1) dL_law_541 rfl ?_
  refine zEV.iadd dL_law_542 ?_
  obtain ⟨g1, h⟩ := ite_no h
  refine zEV.sld g1 dL_law_543 ?_
  refine zEV.aload_n dL_law_544 rfl 0 rfl ?_
  refine zEV.iload dL_law_545 4 rfl ?_
  refine zEV.iconst (v := 2) dL_law_547 rfl ?_
  refine zEV.iadd dL_law_548 ?_
  obtain ⟨g2, h⟩ := ite_no h
  refine zEV.sld g2 dL_law_549 ?_
  refine zEV.aload_n dL_law_550 rfl 0 rfl ?_
  refine zEV.iload dL_law_551 4 rfl ?_
  refine zEV.iconst (v := 3) dL_law_553 rfl ?_
  refine zEV.iadd dL_law_554 ?_
  obtain ⟨g3, h⟩ := ite_no h
  refine zEV.sld g3 dL_law_555 ?_
  obtain ⟨q4, hq4, h⟩ := bind_yes h
  refine zEV.callVi (kX6_at ((xs (Int32.toNatClampNeg (l4 + 1)))) ((xs (Int32.toNatClampNeg (l4 + 2)))) ((xs (Int32.toNatClampNeg (l4 + 3)))) M q4 hq4) (by decide) rfl rfl wml_67 wc_X6_at hy_X6_at rfl ⟨Nat.le_of_ble_eq_true rfl, Nat.le_of_ble_eq_true rfl⟩ rfl (Nat.le_of_ble_eq_true rfl) dL_law_556 ?_
  refine zEV.aload_n dL_law_559 rfl 2 rfl ?_
  refine zEV.aload_n dL_law_560 rfl 0 rfl ?_
  refine zEV.iload dL_law_561 4 rfl ?_
  refine zEV.iconst (v := 1) dL_law_563 rfl ?_
  refine zEV.iadd dL_law_564 ?_
  refine zEV.sld g1 dL_law_565 ?_
  refine zEV.aload_n dL_law_566 rfl 0 rfl ?_
  refine zEV.iload dL_law_567 4 rfl ?_
  refine zEV.iconst (v := 2) dL_law_569 rfl ?_
  refine zEV.iadd dL_law_570 ?_
  refine zEV.sld g2 dL_law_571 ?_
  refine zEV.aload_n dL_law_572 rfl 0 rfl ?_
  refine zEV.iload dL_law_573 4 rfl ?_
  refine zEV.iconst (v := 3) dL_law_575 rfl ?_
  refine zEV.iadd dL_law_576 ?_
  refine zEV.sld g3 dL_law_577 ?_
  obtain ⟨q5, hq5, h⟩ := bind_yes h
  refine zEV.callVi (kX7_at ((xs (Int32.toNatClampNeg (l4 + 1)))) ((xs (Int32.toNatClampNeg (l4 + 2)))) ((xs (Int32.toNatClampNeg (l4 + 3)))) q4.2 q5 hq5) (by decide) rfl rfl wml_70 wc_X7_at hy_X7_at rfl ⟨Nat.le_of_ble_eq_true rfl, Nat.le_of_ble_eq_true rfl⟩ rfl (Nat.le_of_ble_eq_true rfl) dL_law_578 ?_
  refine zEV.icmp_eq 1543 dL_law_581 (by decide) (fun c6 => ?_) (fun c6 => ?_)
  · rw [if_pos c6] at h
    refine zEV.iinc (v := (l4 + 7)) dL_law_1543 4 rfl rfl (Nat.le_of_ble_eq_true rfl) rfl ?_
    refine zEV.goto 23 dL_law_1546 (by decide) ?_
    refine zEV.more rfl (cs' := 601024 - n) (ss' := 7293034 - 6 * n) ⟨by omega, by omega⟩ ⟨by omega, by omega⟩ ?_
    exact zEV.perm [1, 2, 3, 4, 0] rfl (hK (l4 + 7) q5.2 h)
  · rw [if_neg c6] at h
    refine zEV.iconst (v := 0) dL_law_584 rfl ?_
    cases h
def fL_c9 (Ln : Nat) (xs : Nat → Int32) (K : Int32 → zMM → Option Unit) (l4 : Int32) (M : zMM) : Option Unit :=
  if oob ((l4 + 1)) Ln then none else
  (fX6_ends ((xs (Int32.toNatClampNeg (l4 + 1)))) M).bind fun q2 =>
  (fX7_ends ((xs (Int32.toNatClampNeg (l4 + 1)))) q2.2).bind fun q3 =>
  if q2.1 = q3.1 then
    K (l4 + 7) q3.2
  else
    none
set_option maxRecDepth 100000 in
theorem tL_c9 (b Ln : Nat) (xs : Nat → Int32) (K : Int32 → zMM → Option Unit) (n : Nat) (hn : n ≤ 1000) (hK : ∀ (l4 : Int32) (M : zMM), K l4 M = some () → zEV iL_law (601024 - n) (7293034 - 6 * n) (zZL b Ln xs) 23 [(0, .inr (.inr 2000)), (1, .inr (.inr 157)), (2, .inr (.inr 158)), (3, .inr (.inr 174)), (4, .inl l4)] [] M) (l4 : Int32) (M : zMM) (h : fL_c9 Ln xs K l4 M = some ()) : zEV iL_law (601024 - (n + 1)) (7293034 - 6 * (n + 1)) (zZL b Ln xs) 586 [(0, .inr (.inr 2000)), (1, .inr (.inr 157)), (2, .inr (.inr 158)), (3, .inr (.inr 174)), (4, .inl l4)] [] M := by
  unfold fL_c9 at h
  refine zEV.aload_n dL_law_586 rfl 1 rfl ?_
  refine zEV.aload_n dL_law_587 rfl 0 rfl ?_
  refine zEV.iload dL_law_588 4 rfl ?_
  refine zEV.iconst (v := 1) dL_law_590 rfl ?_
  refine zEV.iadd dL_law_591 ?_
  obtain ⟨g1, h⟩ := ite_no h
  refine zEV.sld g1 dL_law_592 ?_
  obtain ⟨q2, hq2, h⟩ := bind_yes h
  refine zEV.callVi (kX6_ends ((xs (Int32.toNatClampNeg (l4 + 1)))) M q2 hq2) (by decide) rfl rfl wml_71 wc_X6_ends hy_X6_ends rfl ⟨Nat.le_of_ble_eq_true rfl, Nat.le_of_ble_eq_true rfl⟩ rfl (Nat.le_of_ble_eq_true rfl) dL_law_593 ?_
  refine zEV.aload_n dL_law_596 rfl 2 rfl ?_
  refine zEV.aload_n dL_law_597 rfl 0 rfl ?_
  refine zEV.iload dL_law_598 4 rfl ?_
  refine zEV.iconst (v := 1) dL_law_600 rfl ?_
  refine zEV.iadd dL_law_601 ?_
  refine zEV.sld g1 dL_law_602 ?_
  obtain ⟨q3, hq3, h⟩ := bind_yes h
  refine zEV.callVi (kX7_ends ((xs (Int32.toNatClampNeg (l4 + 1)))) q2.2 q3 hq3) (by decide) rfl rfl wml_74 wc_X7_ends hy_X7_ends rfl ⟨Nat.le_of_ble_eq_true rfl, Nat.le_of_ble_eq_true rfl⟩ rfl (Nat.le_of_ble_eq_true rfl) dL_law_603 ?_
  refine zEV.icmp_eq 1543 dL_law_606 (by decide) (fun c4 => ?_) (fun c4 => ?_)
  · rw [if_pos c4] at h
    refine zEV.iinc (v := (l4 + 7)) dL_law_1543 4 rfl rfl (Nat.le_of_ble_eq_true rfl) rfl ?_
    refine zEV.goto 23 dL_law_1546 (by decide) ?_
    refine zEV.more rfl (cs' := 601024 - n) (ss' := 7293034 - 6 * n) ⟨by omega, by omega⟩ ⟨by omega, by omega⟩ ?_
    exact zEV.perm [1, 2, 3, 4, 0] rfl (hK (l4 + 7) q3.2 h)
  · rw [if_neg c4] at h
    refine zEV.iconst (v := 0) dL_law_609 rfl ?_
    cases h
def fL_c10 (Ln : Nat) (xs : Nat → Int32) (K : Int32 → zMM → Option Unit) (l4 : Int32) (M : zMM) : Option Unit :=
  (fX6_apart  M).bind fun q1 =>
  (fX7_apart  q1.2).bind fun q2 =>
  if q1.1 = q2.1 then
    K (l4 + 7) q2.2
  else
    none
set_option maxRecDepth 100000 in
theorem tL_c10 (b Ln : Nat) (xs : Nat → Int32) (K : Int32 → zMM → Option Unit) (n : Nat) (hn : n ≤ 1000) (hK : ∀ (l4 : Int32) (M : zMM), K l4 M = some () → zEV iL_law (601024 - n) (7293034 - 6 * n) (zZL b Ln xs) 23 [(0, .inr (.inr 2000)), (1, .inr (.inr 157)), (2, .inr (.inr 158)), (3, .inr (.inr 174)), (4, .inl l4)] [] M) (l4 : Int32) (M : zMM) (h : fL_c10 Ln xs K l4 M = some ()) : zEV iL_law (601024 - (n + 1)) (7293034 - 6 * (n + 1)) (zZL b Ln xs) 611 [(0, .inr (.inr 2000)), (1, .inr (.inr 157)), (2, .inr (.inr 158)), (3, .inr (.inr 174)), (4, .inl l4)] [] M := by
  unfold fL_c10 at h
  refine zEV.aload_n dL_law_611 rfl 1 rfl ?_
  obtain ⟨q1, hq1, h⟩ := bind_yes h
  refine zEV.callVi (kX6_apart  M q1 hq1) (by decide) rfl rfl wml_75 wc_X6_apart hy_X6_apart rfl ⟨Nat.le_of_ble_eq_true rfl, Nat.le_of_ble_eq_true rfl⟩ rfl (Nat.le_of_ble_eq_true rfl) dL_law_612 ?_
  refine zEV.aload_n dL_law_615 rfl 2 rfl ?_
  obtain ⟨q2, hq2, h⟩ := bind_yes h
  refine zEV.callVi (kX7_apart  q1.2 q2 hq2) (by decide) rfl rfl wml_78 wc_X7_apart hy_X7_apart rfl ⟨Nat.le_of_ble_eq_true rfl, Nat.le_of_ble_eq_true rfl⟩ rfl (Nat.le_of_ble_eq_true rfl) dL_law_616 ?_
  refine zEV.icmp_eq 1543 dL_law_619 (by decide) (fun c3 => ?_) (fun c3 => ?_)
  · rw [if_pos c3] at h
    refine zEV.iinc (v := (l4 + 7)) dL_law_1543 4 rfl rfl (Nat.le_of_ble_eq_true rfl) rfl ?_
    refine zEV.goto 23 dL_law_1546 (by decide) ?_
    refine zEV.more rfl (cs' := 601024 - n) (ss' := 7293034 - 6 * n) ⟨by omega, by omega⟩ ⟨by omega, by omega⟩ ?_
    exact zEV.perm [1, 2, 3, 4, 0] rfl (hK (l4 + 7) q2.2 h)
  · rw [if_neg c3] at h
    refine zEV.iconst (v := 0) dL_law_622 rfl ?_
    cases h
def fL_c11 (Ln : Nat) (xs : Nat → Int32) (K : Int32 → zMM → Option Unit) (l4 : Int32) (M : zMM) : Option Unit :=
  (fX6_ragged  M).bind fun q1 =>
  (fX7_ragged  q1.2).bind fun q2 =>
  if q1.1 = q2.1 then
    K (l4 + 7) q2.2
  else
    none
set_option maxRecDepth 100000 in
theorem tL_c11 (b Ln : Nat) (xs : Nat → Int32) (K : Int32 → zMM → Option Unit) (n : Nat) (hn : n ≤ 1000) (hK : ∀ (l4 : Int32) (M : zMM), K l4 M = some () → zEV iL_law (601024 - n) (7293034 - 6 * n) (zZL b Ln xs) 23 [(0, .inr (.inr 2000)), (1, .inr (.inr 157)), (2, .inr (.inr 158)), (3, .inr (.inr 174)), (4, .inl l4)] [] M) (l4 : Int32) (M : zMM) (h : fL_c11 Ln xs K l4 M = some ()) : zEV iL_law (601024 - (n + 1)) (7293034 - 6 * (n + 1)) (zZL b Ln xs) 624 [(0, .inr (.inr 2000)), (1, .inr (.inr 157)), (2, .inr (.inr 158)), (3, .inr (.inr 174)), (4, .inl l4)] [] M := by
  unfold fL_c11 at h
  refine zEV.aload_n dL_law_624 rfl 1 rfl ?_
  obtain ⟨q1, hq1, h⟩ := bind_yes h
  refine zEV.callVi (kX6_ragged  M q1 hq1) (by decide) rfl rfl wml_79 wc_X6_ragged hy_X6_ragged rfl ⟨Nat.le_of_ble_eq_true rfl, Nat.le_of_ble_eq_true rfl⟩ rfl (Nat.le_of_ble_eq_true rfl) dL_law_625 ?_
  refine zEV.aload_n dL_law_628 rfl 2 rfl ?_
  obtain ⟨q2, hq2, h⟩ := bind_yes h
  refine zEV.callVi (kX7_ragged  q1.2 q2 hq2) (by decide) rfl rfl wml_82 wc_X7_ragged hy_X7_ragged rfl ⟨Nat.le_of_ble_eq_true rfl, Nat.le_of_ble_eq_true rfl⟩ rfl (Nat.le_of_ble_eq_true rfl) dL_law_629 ?_
  refine zEV.icmp_eq 1543 dL_law_632 (by decide) (fun c3 => ?_) (fun c3 => ?_)
  · rw [if_pos c3] at h
    refine zEV.iinc (v := (l4 + 7)) dL_law_1543 4 rfl rfl (Nat.le_of_ble_eq_true rfl) rfl ?_
    refine zEV.goto 23 dL_law_1546 (by decide) ?_
    refine zEV.more rfl (cs' := 601024 - n) (ss' := 7293034 - 6 * n) ⟨by omega, by omega⟩ ⟨by omega, by omega⟩ ?_
    exact zEV.perm [1, 2, 3, 4, 0] rfl (hK (l4 + 7) q2.2 h)
  · rw [if_neg c3] at h
    refine zEV.iconst (v := 0) dL_law_635 rfl ?_
    cases h
def fL_c12 (Ln : Nat) (xs : Nat → Int32) (K : Int32 → zMM → Option Unit) (l4 : Int32) (M : zMM) : Option Unit :=
  (fX6_cost  M).bind fun q1 =>
  (fX7_cost  q1.2).bind fun q2 =>
  if q1.1 = q2.1 then
    K (l4 + 7) q2.2
  else
    none
set_option maxRecDepth 100000 in
theorem tL_c12 (b Ln : Nat) (xs : Nat → Int32) (K : Int32 → zMM → Option Unit) (n : Nat) (hn : n ≤ 1000) (hK : ∀ (l4 : Int32) (M : zMM), K l4 M = some () → zEV iL_law (601024 - n) (7293034 - 6 * n) (zZL b Ln xs) 23 [(0, .inr (.inr 2000)), (1, .inr (.inr 157)), (2, .inr (.inr 158)), (3, .inr (.inr 174)), (4, .inl l4)] [] M) (l4 : Int32) (M : zMM) (h : fL_c12 Ln xs K l4 M = some ()) : zEV iL_law (601024 - (n + 1)) (7293034 - 6 * (n + 1)) (zZL b Ln xs) 637 [(0, .inr (.inr 2000)), (1, .inr (.inr 157)), (2, .inr (.inr 158)), (3, .inr (.inr 174)), (4, .inl l4)] [] M := by
  unfold fL_c12 at h
  refine zEV.aload_n dL_law_637 rfl 1 rfl ?_
  obtain ⟨q1, hq1, h⟩ := bind_yes h
  refine zEV.callVi (kX6_cost  M q1 hq1) (by decide) rfl rfl wml_83 wc_X6_cost hy_X6_cost rfl ⟨Nat.le_of_ble_eq_true rfl, Nat.le_of_ble_eq_true rfl⟩ rfl (Nat.le_of_ble_eq_true rfl) dL_law_638 ?_
  refine zEV.aload_n dL_law_641 rfl 2 rfl ?_
  obtain ⟨q2, hq2, h⟩ := bind_yes h
  refine zEV.callVi (kX7_cost  q1.2 q2 hq2) (by decide) rfl rfl wml_86 wc_X7_cost hy_X7_cost rfl ⟨Nat.le_of_ble_eq_true rfl, Nat.le_of_ble_eq_true rfl⟩ rfl (Nat.le_of_ble_eq_true rfl) dL_law_642 ?_
  refine zEV.icmp_eq 1543 dL_law_645 (by decide) (fun c3 => ?_) (fun c3 => ?_)
  · rw [if_pos c3] at h
    refine zEV.iinc (v := (l4 + 7)) dL_law_1543 4 rfl rfl (Nat.le_of_ble_eq_true rfl) rfl ?_
    refine zEV.goto 23 dL_law_1546 (by decide) ?_
    refine zEV.more rfl (cs' := 601024 - n) (ss' := 7293034 - 6 * n) ⟨by omega, by omega⟩ ⟨by omega, by omega⟩ ?_
    exact zEV.perm [1, 2, 3, 4, 0] rfl (hK (l4 + 7) q2.2 h)
  · rw [if_neg c3] at h
    refine zEV.iconst (v := 0) dL_law_648 rfl ?_
    cases h
def fL_c13 (Ln : Nat) (xs : Nat → Int32) (K : Int32 → zMM → Option Unit) (l4 : Int32) (M : zMM) : Option Unit :=
  if oob ((l4 + 1)) Ln then none else
  if oob ((l4 + 2)) Ln then none else
  (fX6_line ((xs (Int32.toNatClampNeg (l4 + 1)))) ((xs (Int32.toNatClampNeg (l4 + 2)))) M).bind fun q3 =>
  (fX7_line ((xs (Int32.toNatClampNeg (l4 + 1)))) ((xs (Int32.toNatClampNeg (l4 + 2)))) q3.2).bind fun q4 =>
  if q3.1 = q4.1 then
    K (l4 + 7) q4.2
  else
    none
set_option maxRecDepth 100000 in
theorem tL_c13 (b Ln : Nat) (xs : Nat → Int32) (K : Int32 → zMM → Option Unit) (n : Nat) (hn : n ≤ 1000) (hK : ∀ (l4 : Int32) (M : zMM), K l4 M = some () → zEV iL_law (601024 - n) (7293034 - 6 * n) (zZL b Ln xs) 23 [(0, .inr (.inr 2000)), (1, .inr (.inr 157)), (2, .inr (.inr 158)), (3, .inr (.inr 174)), (4, .inl l4)] [] M) (l4 : Int32) (M : zMM) (h : fL_c13 Ln xs K l4 M = some ()) : zEV iL_law (601024 - (n + 1)) (7293034 - 6 * (n + 1)) (zZL b Ln xs) 650 [(0, .inr (.inr 2000)), (1, .inr (.inr 157)), (2, .inr (.inr 158)), (3, .inr (.inr 174)), (4, .inl l4)] [] M := by
  unfold fL_c13 at h
  refine zEV.aload_n dL_law_650 rfl 1 rfl ?_
  refine zEV.aload_n dL_law_651 rfl 0 rfl ?_
  refine zEV.iload dL_law_652 4 rfl ?_
  refine zEV.iconst (v := 1) dL_law_654 rfl ?_
  refine zEV.iadd dL_law_655 ?_
  obtain ⟨g1, h⟩ := ite_no h
  refine zEV.sld g1 dL_law_656 ?_
  refine zEV.aload_n dL_law_657 rfl 0 rfl ?_
  refine zEV.iload dL_law_658 4 rfl ?_
  refine zEV.iconst (v := 2) dL_law_660 rfl ?_
  refine zEV.iadd dL_law_661 ?_
  obtain ⟨g2, h⟩ := ite_no h
  refine zEV.sld g2 dL_law_662 ?_
  obtain ⟨q3, hq3, h⟩ := bind_yes h
  refine zEV.callVi (kX6_line ((xs (Int32.toNatClampNeg (l4 + 1)))) ((xs (Int32.toNatClampNeg (l4 + 2)))) M q3 hq3) (by decide) rfl rfl wml_87 wc_X6_line hy_X6_line rfl ⟨Nat.le_of_ble_eq_true rfl, Nat.le_of_ble_eq_true rfl⟩ rfl (Nat.le_of_ble_eq_true rfl) dL_law_663 ?_
  refine zEV.aload_n dL_law_666 rfl 2 rfl ?_
  refine zEV.aload_n dL_law_667 rfl 0 rfl ?_
  refine zEV.iload dL_law_668 4 rfl ?_
  refine zEV.iconst (v := 1) dL_law_670 rfl ?_
  refine zEV.iadd dL_law_671 ?_
  refine zEV.sld g1 dL_law_672 ?_
  refine zEV.aload_n dL_law_673 rfl 0 rfl ?_
  refine zEV.iload dL_law_674 4 rfl ?_
  refine zEV.iconst (v := 2) dL_law_676 rfl ?_
  refine zEV.iadd dL_law_677 ?_
  refine zEV.sld g2 dL_law_678 ?_
  obtain ⟨q4, hq4, h⟩ := bind_yes h
  refine zEV.callVi (kX7_line ((xs (Int32.toNatClampNeg (l4 + 1)))) ((xs (Int32.toNatClampNeg (l4 + 2)))) q3.2 q4 hq4) (by decide) rfl rfl wml_91 wc_X7_line hy_X7_line rfl ⟨Nat.le_of_ble_eq_true rfl, Nat.le_of_ble_eq_true rfl⟩ rfl (Nat.le_of_ble_eq_true rfl) dL_law_679 ?_
  refine zEV.icmp_eq 1543 dL_law_682 (by decide) (fun c5 => ?_) (fun c5 => ?_)
  · rw [if_pos c5] at h
    refine zEV.iinc (v := (l4 + 7)) dL_law_1543 4 rfl rfl (Nat.le_of_ble_eq_true rfl) rfl ?_
    refine zEV.goto 23 dL_law_1546 (by decide) ?_
    refine zEV.more rfl (cs' := 601024 - n) (ss' := 7293034 - 6 * n) ⟨by omega, by omega⟩ ⟨by omega, by omega⟩ ?_
    exact zEV.perm [1, 2, 3, 4, 0] rfl (hK (l4 + 7) q4.2 h)
  · rw [if_neg c5] at h
    refine zEV.iconst (v := 0) dL_law_685 rfl ?_
    cases h
def fL_c14 (Ln : Nat) (xs : Nat → Int32) (K : Int32 → zMM → Option Unit) (l4 : Int32) (M : zMM) : Option Unit :=
  (fX6_blank  M).bind fun q1 =>
  (fX7_blank  q1.2).bind fun q2 =>
  if q1.1 = q2.1 then
    K (l4 + 7) q2.2
  else
    none
set_option maxRecDepth 100000 in
theorem tL_c14 (b Ln : Nat) (xs : Nat → Int32) (K : Int32 → zMM → Option Unit) (n : Nat) (hn : n ≤ 1000) (hK : ∀ (l4 : Int32) (M : zMM), K l4 M = some () → zEV iL_law (601024 - n) (7293034 - 6 * n) (zZL b Ln xs) 23 [(0, .inr (.inr 2000)), (1, .inr (.inr 157)), (2, .inr (.inr 158)), (3, .inr (.inr 174)), (4, .inl l4)] [] M) (l4 : Int32) (M : zMM) (h : fL_c14 Ln xs K l4 M = some ()) : zEV iL_law (601024 - (n + 1)) (7293034 - 6 * (n + 1)) (zZL b Ln xs) 687 [(0, .inr (.inr 2000)), (1, .inr (.inr 157)), (2, .inr (.inr 158)), (3, .inr (.inr 174)), (4, .inl l4)] [] M := by
  unfold fL_c14 at h
  refine zEV.aload_n dL_law_687 rfl 1 rfl ?_
  obtain ⟨q1, hq1, h⟩ := bind_yes h
  refine zEV.callVi (kX6_blank  M q1 hq1) (by decide) rfl rfl wml_92 wc_X6_blank hy_X6_blank rfl ⟨Nat.le_of_ble_eq_true rfl, Nat.le_of_ble_eq_true rfl⟩ rfl (Nat.le_of_ble_eq_true rfl) dL_law_688 ?_
  refine zEV.aload_n dL_law_691 rfl 2 rfl ?_
  obtain ⟨q2, hq2, h⟩ := bind_yes h
  refine zEV.callVi (kX7_blank  q1.2 q2 hq2) (by decide) rfl rfl wml_95 wc_X7_blank hy_X7_blank rfl ⟨Nat.le_of_ble_eq_true rfl, Nat.le_of_ble_eq_true rfl⟩ rfl (Nat.le_of_ble_eq_true rfl) dL_law_692 ?_
  refine zEV.icmp_eq 1543 dL_law_695 (by decide) (fun c3 => ?_) (fun c3 => ?_)
  · rw [if_pos c3] at h
    refine zEV.iinc (v := (l4 + 7)) dL_law_1543 4 rfl rfl (Nat.le_of_ble_eq_true rfl) rfl ?_
    refine zEV.goto 23 dL_law_1546 (by decide) ?_
    refine zEV.more rfl (cs' := 601024 - n) (ss' := 7293034 - 6 * n) ⟨by omega, by omega⟩ ⟨by omega, by omega⟩ ?_
    exact zEV.perm [1, 2, 3, 4, 0] rfl (hK (l4 + 7) q2.2 h)
  · rw [if_neg c3] at h
    refine zEV.iconst (v := 0) dL_law_698 rfl ?_
    cases h
def fL_c15 (Ln : Nat) (xs : Nat → Int32) (K : Int32 → zMM → Option Unit) (l4 : Int32) (M : zMM) : Option Unit :=
  if oob ((l4 + 1)) Ln then none else
  (fL_tie ((xs (Int32.toNatClampNeg (l4 + 1)))) M).bind fun q2 =>
  (fX7_tie ((xs (Int32.toNatClampNeg (l4 + 1)))) q2.2).bind fun q3 =>
  (fX7_thrown  q3.2).bind fun q4 =>
  if q4.1 = q2.1 then
    if q2.1 = (0 : Int32) then
      if (lg_cmp (q4.2.2 174 0) (Int32.toInt64 q3.1)) = (0 : Int32) then
        K (l4 + 7) q4.2
      else
        none
    else
      K (l4 + 7) q4.2
  else
    none
set_option maxRecDepth 100000 in
theorem tL_c15 (b Ln : Nat) (xs : Nat → Int32) (K : Int32 → zMM → Option Unit) (n : Nat) (hn : n ≤ 1000) (hK : ∀ (l4 : Int32) (M : zMM), K l4 M = some () → zEV iL_law (601024 - n) (7293034 - 6 * n) (zZL b Ln xs) 23 [(0, .inr (.inr 2000)), (1, .inr (.inr 157)), (2, .inr (.inr 158)), (3, .inr (.inr 174)), (4, .inl l4)] [] M) (l4 : Int32) (M : zMM) (h : fL_c15 Ln xs K l4 M = some ()) : zEV iL_law (601024 - (n + 1)) (7293034 - 6 * (n + 1)) (zZL b Ln xs) 700 [(0, .inr (.inr 2000)), (1, .inr (.inr 157)), (2, .inr (.inr 158)), (3, .inr (.inr 174)), (4, .inl l4)] [] M := by
  unfold fL_c15 at h
  refine zEV.aload_n dL_law_700 rfl 1 rfl ?_
  refine zEV.aload_n dL_law_701 rfl 0 rfl ?_
  refine zEV.iload dL_law_702 4 rfl ?_
  refine zEV.iconst (v := 1) dL_law_704 rfl ?_
  refine zEV.iadd dL_law_705 ?_
  obtain ⟨g1, h⟩ := ite_no h
  refine zEV.sld g1 dL_law_706 ?_
  refine zEV.aload_n dL_law_707 rfl 3 rfl ?_
  obtain ⟨q2, hq2, h⟩ := bind_yes h
  refine zEV.callS1 (kL_tie ((xs (Int32.toNatClampNeg (l4 + 1)))) M q2 hq2) rfl ⟨by omega, by omega⟩ ⟨by omega, by omega⟩ wml_96 wcl_tie hyl_tie rfl ⟨Nat.le_of_ble_eq_true rfl, Nat.le_of_ble_eq_true rfl⟩ rfl (Nat.le_of_ble_eq_true rfl) dL_law_708 ?_
  refine zEV.istore dL_law_711 (Nat.le_of_ble_eq_true rfl) rfl ?_
  refine zEV.aload_n dL_law_713 rfl 3 rfl ?_
  refine zEV.aload_n dL_law_714 rfl 1 rfl ?_
  refine zEV.iload dL_law_715 5 rfl ?_
  refine zEV.iconst (v := 1) dL_law_717 rfl ?_
  refine zEV.iadd dL_law_718 ?_
  refine zEV.sld g1 dL_law_719 ?_
  obtain ⟨q3, hq3, h⟩ := bind_yes h
  refine zEV.callVi (kX7_tie ((xs (Int32.toNatClampNeg (l4 + 1)))) q2.2 q3 hq3) (by decide) rfl rfl wml_99 wc_X7_tie hy_X7_tie rfl ⟨Nat.le_of_ble_eq_true rfl, Nat.le_of_ble_eq_true rfl⟩ rfl (Nat.le_of_ble_eq_true rfl) dL_law_720 ?_
  refine zEV.istore dL_law_723 (Nat.le_of_ble_eq_true rfl) rfl ?_
  refine zEV.aload_n dL_law_725 rfl 4 rfl ?_
  obtain ⟨q4, hq4, h⟩ := bind_yes h
  refine zEV.callVi (kX7_thrown  q3.2 q4 hq4) (by decide) rfl rfl wml_64 wc_X7_thrown hy_X7_thrown rfl ⟨Nat.le_of_ble_eq_true rfl, Nat.le_of_ble_eq_true rfl⟩ rfl (Nat.le_of_ble_eq_true rfl) dL_law_726 ?_
  refine zEV.iload dL_law_729 1 rfl ?_
  refine zEV.icmp_eq 736 dL_law_731 (by decide) (fun c5 => ?_) (fun c5 => ?_)
  · rw [if_pos c5] at h
    refine zEV.iload dL_law_736 1 rfl ?_
    refine zEV.if_ne 753 dL_law_738 (by decide) (fun c6 => ?_) (fun c6 => ?_)
    · rw [if_neg c6] at h
      refine zEV.goto 1543 dL_law_753 (by decide) ?_
      refine zEV.iinc (v := (l4 + 7)) dL_law_1543 6 rfl rfl (Nat.le_of_ble_eq_true rfl) rfl ?_
      refine zEV.goto 23 dL_law_1546 (by decide) ?_
      refine zEV.more rfl (cs' := 601024 - n) (ss' := 7293034 - 6 * n) ⟨by omega, by omega⟩ ⟨by omega, by omega⟩ ?_
      exact zEV.perm [3, 4, 5, 6, 0] rfl (hK (l4 + 7) q4.2 h)
    · rw [if_pos c6] at h
      refine zEV.aload_n dL_law_741 rfl 5 rfl ?_
      refine zEV.iconst (v := 0) dL_law_742 rfl ?_
      refine zEV.laldL (j := 0) (by decide) rfl (by decide) (by decide) dL_law_743 ?_
      refine zEV.iload dL_law_744 0 rfl ?_
      refine zEV.i2l dL_law_746 ?_
      refine zEV.lcmp dL_law_747 ?_
      refine zEV.if_eq 753 dL_law_748 (by decide) (fun c7 => ?_) (fun c7 => ?_)
      · rw [if_pos c7] at h
        refine zEV.goto 1543 dL_law_753 (by decide) ?_
        refine zEV.iinc (v := (l4 + 7)) dL_law_1543 6 rfl rfl (Nat.le_of_ble_eq_true rfl) rfl ?_
        refine zEV.goto 23 dL_law_1546 (by decide) ?_
        refine zEV.more rfl (cs' := 601024 - n) (ss' := 7293034 - 6 * n) ⟨by omega, by omega⟩ ⟨by omega, by omega⟩ ?_
        exact zEV.perm [3, 4, 5, 6, 0] rfl (hK (l4 + 7) q4.2 h)
      · rw [if_neg c7] at h
        refine zEV.iconst (v := 0) dL_law_751 rfl ?_
        cases h
  · rw [if_neg c5] at h
    refine zEV.iconst (v := 0) dL_law_734 rfl ?_
    cases h
def fL_c16 (Ln : Nat) (xs : Nat → Int32) (K : Int32 → zMM → Option Unit) (l4 : Int32) (M : zMM) : Option Unit :=
  (fX6_broken  M).bind fun q1 =>
  (fX7_broken  q1.2).bind fun q2 =>
  if q1.1 = q2.1 then
    K (l4 + 7) q2.2
  else
    none
set_option maxRecDepth 100000 in
theorem tL_c16 (b Ln : Nat) (xs : Nat → Int32) (K : Int32 → zMM → Option Unit) (n : Nat) (hn : n ≤ 1000) (hK : ∀ (l4 : Int32) (M : zMM), K l4 M = some () → zEV iL_law (601024 - n) (7293034 - 6 * n) (zZL b Ln xs) 23 [(0, .inr (.inr 2000)), (1, .inr (.inr 157)), (2, .inr (.inr 158)), (3, .inr (.inr 174)), (4, .inl l4)] [] M) (l4 : Int32) (M : zMM) (h : fL_c16 Ln xs K l4 M = some ()) : zEV iL_law (601024 - (n + 1)) (7293034 - 6 * (n + 1)) (zZL b Ln xs) 756 [(0, .inr (.inr 2000)), (1, .inr (.inr 157)), (2, .inr (.inr 158)), (3, .inr (.inr 174)), (4, .inl l4)] [] M := by
  unfold fL_c16 at h
  refine zEV.aload_n dL_law_756 rfl 1 rfl ?_
  obtain ⟨q1, hq1, h⟩ := bind_yes h
  refine zEV.callVi (kX6_broken  M q1 hq1) (by decide) rfl rfl wml_100 wc_X6_broken hy_X6_broken rfl ⟨Nat.le_of_ble_eq_true rfl, Nat.le_of_ble_eq_true rfl⟩ rfl (Nat.le_of_ble_eq_true rfl) dL_law_757 ?_
  refine zEV.aload_n dL_law_760 rfl 2 rfl ?_
  obtain ⟨q2, hq2, h⟩ := bind_yes h
  refine zEV.callVi (kX7_broken  q1.2 q2 hq2) (by decide) rfl rfl wml_103 wc_X7_broken hy_X7_broken rfl ⟨Nat.le_of_ble_eq_true rfl, Nat.le_of_ble_eq_true rfl⟩ rfl (Nat.le_of_ble_eq_true rfl) dL_law_761 ?_
  refine zEV.icmp_eq 1543 dL_law_764 (by decide) (fun c3 => ?_) (fun c3 => ?_)
  · rw [if_pos c3] at h
    refine zEV.iinc (v := (l4 + 7)) dL_law_1543 4 rfl rfl (Nat.le_of_ble_eq_true rfl) rfl ?_
    refine zEV.goto 23 dL_law_1546 (by decide) ?_
    refine zEV.more rfl (cs' := 601024 - n) (ss' := 7293034 - 6 * n) ⟨by omega, by omega⟩ ⟨by omega, by omega⟩ ?_
    exact zEV.perm [1, 2, 3, 4, 0] rfl (hK (l4 + 7) q2.2 h)
  · rw [if_neg c3] at h
    refine zEV.iconst (v := 0) dL_law_767 rfl ?_
    cases h
def fL_c17 (Ln : Nat) (xs : Nat → Int32) (K : Int32 → zMM → Option Unit) (l4 : Int32) (M : zMM) : Option Unit :=
  (fX6_loose  M).bind fun q1 =>
  (fX7_loose  q1.2).bind fun q2 =>
  if q1.1 = q2.1 then
    K (l4 + 7) q2.2
  else
    none
set_option maxRecDepth 100000 in
theorem tL_c17 (b Ln : Nat) (xs : Nat → Int32) (K : Int32 → zMM → Option Unit) (n : Nat) (hn : n ≤ 1000) (hK : ∀ (l4 : Int32) (M : zMM), K l4 M = some () → zEV iL_law (601024 - n) (7293034 - 6 * n) (zZL b Ln xs) 23 [(0, .inr (.inr 2000)), (1, .inr (.inr 157)), (2, .inr (.inr 158)), (3, .inr (.inr 174)), (4, .inl l4)] [] M) (l4 : Int32) (M : zMM) (h : fL_c17 Ln xs K l4 M = some ()) : zEV iL_law (601024 - (n + 1)) (7293034 - 6 * (n + 1)) (zZL b Ln xs) 769 [(0, .inr (.inr 2000)), (1, .inr (.inr 157)), (2, .inr (.inr 158)), (3, .inr (.inr 174)), (4, .inl l4)] [] M := by
  unfold fL_c17 at h
  refine zEV.aload_n dL_law_769 rfl 1 rfl ?_
  obtain ⟨q1, hq1, h⟩ := bind_yes h
  refine zEV.callVi (kX6_loose  M q1 hq1) (by decide) rfl rfl wml_104 wc_X6_loose hy_X6_loose rfl ⟨Nat.le_of_ble_eq_true rfl, Nat.le_of_ble_eq_true rfl⟩ rfl (Nat.le_of_ble_eq_true rfl) dL_law_770 ?_
  refine zEV.aload_n dL_law_773 rfl 2 rfl ?_
  obtain ⟨q2, hq2, h⟩ := bind_yes h
  refine zEV.callVi (kX7_loose  q1.2 q2 hq2) (by decide) rfl rfl wml_107 wc_X7_loose hy_X7_loose rfl ⟨Nat.le_of_ble_eq_true rfl, Nat.le_of_ble_eq_true rfl⟩ rfl (Nat.le_of_ble_eq_true rfl) dL_law_774 ?_
  refine zEV.icmp_eq 1543 dL_law_777 (by decide) (fun c3 => ?_) (fun c3 => ?_)
  · rw [if_pos c3] at h
    refine zEV.iinc (v := (l4 + 7)) dL_law_1543 4 rfl rfl (Nat.le_of_ble_eq_true rfl) rfl ?_
    refine zEV.goto 23 dL_law_1546 (by decide) ?_
    refine zEV.more rfl (cs' := 601024 - n) (ss' := 7293034 - 6 * n) ⟨by omega, by omega⟩ ⟨by omega, by omega⟩ ?_
    exact zEV.perm [1, 2, 3, 4, 0] rfl (hK (l4 + 7) q2.2 h)
  · rw [if_neg c3] at h
    refine zEV.iconst (v := 0) dL_law_780 rfl ?_
    cases h
def fL_c18 (Ln : Nat) (xs : Nat → Int32) (K : Int32 → zMM → Option Unit) (l4 : Int32) (M : zMM) : Option Unit :=
  if oob ((l4 + 1)) Ln then none else
  if oob ((l4 + 2)) Ln then none else
  if oob ((l4 + 3)) Ln then none else
  (fX6_by ((xs (Int32.toNatClampNeg (l4 + 1)))) ((xs (Int32.toNatClampNeg (l4 + 2)))) ((xs (Int32.toNatClampNeg (l4 + 3)))) M).bind fun q4 =>
  (fX7_by ((xs (Int32.toNatClampNeg (l4 + 1)))) ((xs (Int32.toNatClampNeg (l4 + 2)))) ((xs (Int32.toNatClampNeg (l4 + 3)))) q4.2).bind fun q5 =>
  if q4.1 = q5.1 then
    K (l4 + 7) q5.2
  else
    none
set_option maxRecDepth 100000 in
theorem tL_c18 (b Ln : Nat) (xs : Nat → Int32) (K : Int32 → zMM → Option Unit) (n : Nat) (hn : n ≤ 1000) (hK : ∀ (l4 : Int32) (M : zMM), K l4 M = some () → zEV iL_law (601024 - n) (7293034 - 6 * n) (zZL b Ln xs) 23 [(0, .inr (.inr 2000)), (1, .inr (.inr 157)), (2, .inr (.inr 158)), (3, .inr (.inr 174)), (4, .inl l4)] [] M) (l4 : Int32) (M : zMM) (h : fL_c18 Ln xs K l4 M = some ()) : zEV iL_law (601024 - (n + 1)) (7293034 - 6 * (n + 1)) (zZL b Ln xs) 782 [(0, .inr (.inr 2000)), (1, .inr (.inr 157)), (2, .inr (.inr 158)), (3, .inr (.inr 174)), (4, .inl l4)] [] M := by
  unfold fL_c18 at h
  refine zEV.aload_n dL_law_782 rfl 1 rfl ?_
  refine zEV.aload_n dL_law_783 rfl 0 rfl ?_
  refine zEV.iload dL_law_784 4 rfl ?_
  refine zEV.iconst (v := 1) dL_law_786 rfl ?_
  refine zEV.iadd dL_law_787 ?_
  obtain ⟨g1, h⟩ := ite_no h
  refine zEV.sld g1 dL_law_788 ?_
  refine zEV.aload_n dL_law_789 rfl 0 rfl ?_
  refine zEV.iload dL_law_790 4 rfl ?_
  refine zEV.iconst (v := 2) dL_law_792 rfl ?_
  refine zEV.iadd dL_law_793 ?_
  obtain ⟨g2, h⟩ := ite_no h
  refine zEV.sld g2 dL_law_794 ?_
  refine zEV.aload_n dL_law_795 rfl 0 rfl ?_
  refine zEV.iload dL_law_796 4 rfl ?_
  refine zEV.iconst (v := 3) dL_law_798 rfl ?_
  refine zEV.iadd dL_law_799 ?_
  obtain ⟨g3, h⟩ := ite_no h
  refine zEV.sld g3 dL_law_800 ?_
  obtain ⟨q4, hq4, h⟩ := bind_yes h
  refine zEV.callVi (kX6_by ((xs (Int32.toNatClampNeg (l4 + 1)))) ((xs (Int32.toNatClampNeg (l4 + 2)))) ((xs (Int32.toNatClampNeg (l4 + 3)))) M q4 hq4) (by decide) rfl rfl wml_108 wc_X6_by hy_X6_by rfl ⟨Nat.le_of_ble_eq_true rfl, Nat.le_of_ble_eq_true rfl⟩ rfl (Nat.le_of_ble_eq_true rfl) dL_law_801 ?_
  refine zEV.aload_n dL_law_804 rfl 2 rfl ?_
  refine zEV.aload_n dL_law_805 rfl 0 rfl ?_
  refine zEV.iload dL_law_806 4 rfl ?_
  refine zEV.iconst (v := 1) dL_law_808 rfl ?_
  refine zEV.iadd dL_law_809 ?_
  refine zEV.sld g1 dL_law_810 ?_
  refine zEV.aload_n dL_law_811 rfl 0 rfl ?_
  refine zEV.iload dL_law_812 4 rfl ?_
  refine zEV.iconst (v := 2) dL_law_814 rfl ?_
  refine zEV.iadd dL_law_815 ?_
  refine zEV.sld g2 dL_law_816 ?_
  refine zEV.aload_n dL_law_817 rfl 0 rfl ?_
  refine zEV.iload dL_law_818 4 rfl ?_
  refine zEV.iconst (v := 3) dL_law_820 rfl ?_
  refine zEV.iadd dL_law_821 ?_
  refine zEV.sld g3 dL_law_822 ?_
  obtain ⟨q5, hq5, h⟩ := bind_yes h
  refine zEV.callVi (kX7_by ((xs (Int32.toNatClampNeg (l4 + 1)))) ((xs (Int32.toNatClampNeg (l4 + 2)))) ((xs (Int32.toNatClampNeg (l4 + 3)))) q4.2 q5 hq5) (by decide) rfl rfl wml_111 wc_X7_by hy_X7_by rfl ⟨Nat.le_of_ble_eq_true rfl, Nat.le_of_ble_eq_true rfl⟩ rfl (Nat.le_of_ble_eq_true rfl) dL_law_823 ?_
  refine zEV.icmp_eq 1543 dL_law_826 (by decide) (fun c6 => ?_) (fun c6 => ?_)
  · rw [if_pos c6] at h
    refine zEV.iinc (v := (l4 + 7)) dL_law_1543 4 rfl rfl (Nat.le_of_ble_eq_true rfl) rfl ?_
    refine zEV.goto 23 dL_law_1546 (by decide) ?_
    refine zEV.more rfl (cs' := 601024 - n) (ss' := 7293034 - 6 * n) ⟨by omega, by omega⟩ ⟨by omega, by omega⟩ ?_
    exact zEV.perm [1, 2, 3, 4, 0] rfl (hK (l4 + 7) q5.2 h)
  · rw [if_neg c6] at h
    refine zEV.iconst (v := 0) dL_law_829 rfl ?_
    cases h
def fL_c19 (Ln : Nat) (xs : Nat → Int32) (K : Int32 → zMM → Option Unit) (l4 : Int32) (M : zMM) : Option Unit :=
  if oob ((l4 + 1)) Ln then none else
  if oob ((l4 + 2)) Ln then none else
  (fX6_best ((xs (Int32.toNatClampNeg (l4 + 1)))) ((xs (Int32.toNatClampNeg (l4 + 2)))) M).bind fun q3 =>
  (fX7_best ((xs (Int32.toNatClampNeg (l4 + 1)))) ((xs (Int32.toNatClampNeg (l4 + 2)))) q3.2).bind fun q4 =>
  if q3.1 = q4.1 then
    K (l4 + 7) q4.2
  else
    none
set_option maxRecDepth 100000 in
theorem tL_c19 (b Ln : Nat) (xs : Nat → Int32) (K : Int32 → zMM → Option Unit) (n : Nat) (hn : n ≤ 1000) (hK : ∀ (l4 : Int32) (M : zMM), K l4 M = some () → zEV iL_law (601024 - n) (7293034 - 6 * n) (zZL b Ln xs) 23 [(0, .inr (.inr 2000)), (1, .inr (.inr 157)), (2, .inr (.inr 158)), (3, .inr (.inr 174)), (4, .inl l4)] [] M) (l4 : Int32) (M : zMM) (h : fL_c19 Ln xs K l4 M = some ()) : zEV iL_law (601024 - (n + 1)) (7293034 - 6 * (n + 1)) (zZL b Ln xs) 831 [(0, .inr (.inr 2000)), (1, .inr (.inr 157)), (2, .inr (.inr 158)), (3, .inr (.inr 174)), (4, .inl l4)] [] M := by
  unfold fL_c19 at h
  refine zEV.aload_n dL_law_831 rfl 1 rfl ?_
  refine zEV.aload_n dL_law_832 rfl 0 rfl ?_
  refine zEV.iload dL_law_833 4 rfl ?_
  refine zEV.iconst (v := 1) dL_law_835 rfl ?_
  refine zEV.iadd dL_law_836 ?_
  obtain ⟨g1, h⟩ := ite_no h
  refine zEV.sld g1 dL_law_837 ?_
  refine zEV.aload_n dL_law_838 rfl 0 rfl ?_
  refine zEV.iload dL_law_839 4 rfl ?_
  refine zEV.iconst (v := 2) dL_law_841 rfl ?_
  refine zEV.iadd dL_law_842 ?_
  obtain ⟨g2, h⟩ := ite_no h
  refine zEV.sld g2 dL_law_843 ?_
  obtain ⟨q3, hq3, h⟩ := bind_yes h
  refine zEV.callVi (kX6_best ((xs (Int32.toNatClampNeg (l4 + 1)))) ((xs (Int32.toNatClampNeg (l4 + 2)))) M q3 hq3) (by decide) rfl rfl wml_112 wc_X6_best hy_X6_best rfl ⟨Nat.le_of_ble_eq_true rfl, Nat.le_of_ble_eq_true rfl⟩ rfl (Nat.le_of_ble_eq_true rfl) dL_law_844 ?_
  refine zEV.aload_n dL_law_847 rfl 2 rfl ?_
  refine zEV.aload_n dL_law_848 rfl 0 rfl ?_
  refine zEV.iload dL_law_849 4 rfl ?_
  refine zEV.iconst (v := 1) dL_law_851 rfl ?_
  refine zEV.iadd dL_law_852 ?_
  refine zEV.sld g1 dL_law_853 ?_
  refine zEV.aload_n dL_law_854 rfl 0 rfl ?_
  refine zEV.iload dL_law_855 4 rfl ?_
  refine zEV.iconst (v := 2) dL_law_857 rfl ?_
  refine zEV.iadd dL_law_858 ?_
  refine zEV.sld g2 dL_law_859 ?_
  obtain ⟨q4, hq4, h⟩ := bind_yes h
  refine zEV.callVi (kX7_best ((xs (Int32.toNatClampNeg (l4 + 1)))) ((xs (Int32.toNatClampNeg (l4 + 2)))) q3.2 q4 hq4) (by decide) rfl rfl wml_115 wc_X7_best hy_X7_best rfl ⟨Nat.le_of_ble_eq_true rfl, Nat.le_of_ble_eq_true rfl⟩ rfl (Nat.le_of_ble_eq_true rfl) dL_law_860 ?_
  refine zEV.icmp_eq 1543 dL_law_863 (by decide) (fun c5 => ?_) (fun c5 => ?_)
  · rw [if_pos c5] at h
    refine zEV.iinc (v := (l4 + 7)) dL_law_1543 4 rfl rfl (Nat.le_of_ble_eq_true rfl) rfl ?_
    refine zEV.goto 23 dL_law_1546 (by decide) ?_
    refine zEV.more rfl (cs' := 601024 - n) (ss' := 7293034 - 6 * n) ⟨by omega, by omega⟩ ⟨by omega, by omega⟩ ?_
    exact zEV.perm [1, 2, 3, 4, 0] rfl (hK (l4 + 7) q4.2 h)
  · rw [if_neg c5] at h
    refine zEV.iconst (v := 0) dL_law_866 rfl ?_
    cases h
def fL_c20 (Ln : Nat) (xs : Nat → Int32) (K : Int32 → zMM → Option Unit) (l4 : Int32) (M : zMM) : Option Unit :=
  if oob ((l4 + 1)) Ln then none else
  if oob ((l4 + 2)) Ln then none else
  if oob ((l4 + 3)) Ln then none else
  (fX6_near ((xs (Int32.toNatClampNeg (l4 + 1)))) ((xs (Int32.toNatClampNeg (l4 + 2)))) ((xs (Int32.toNatClampNeg (l4 + 3)))) M).bind fun q4 =>
  (fX7_near ((xs (Int32.toNatClampNeg (l4 + 1)))) ((xs (Int32.toNatClampNeg (l4 + 2)))) ((xs (Int32.toNatClampNeg (l4 + 3)))) q4.2).bind fun q5 =>
  if q4.1 = q5.1 then
    K (l4 + 7) q5.2
  else
    none
set_option maxRecDepth 100000 in
theorem tL_c20 (b Ln : Nat) (xs : Nat → Int32) (K : Int32 → zMM → Option Unit) (n : Nat) (hn : n ≤ 1000) (hK : ∀ (l4 : Int32) (M : zMM), K l4 M = some () → zEV iL_law (601024 - n) (7293034 - 6 * n) (zZL b Ln xs) 23 [(0, .inr (.inr 2000)), (1, .inr (.inr 157)), (2, .inr (.inr 158)), (3, .inr (.inr 174)), (4, .inl l4)] [] M) (l4 : Int32) (M : zMM) (h : fL_c20 Ln xs K l4 M = some ()) : zEV iL_law (601024 - (n + 1)) (7293034 - 6 * (n + 1)) (zZL b Ln xs) 868 [(0, .inr (.inr 2000)), (1, .inr (.inr 157)), (2, .inr (.inr 158)), (3, .inr (.inr 174)), (4, .inl l4)] [] M := by
  unfold fL_c20 at h
  refine zEV.aload_n dL_law_868 rfl 1 rfl ?_
  refine zEV.aload_n dL_law_869 rfl 0 rfl ?_
  refine zEV.iload dL_law_870 4 rfl ?_
  refine zEV.iconst (v := 1) dL_law_872 rfl ?_
  refine zEV.iadd dL_law_873 ?_
  obtain ⟨g1, h⟩ := ite_no h
  refine zEV.sld g1 dL_law_874 ?_
  refine zEV.aload_n dL_law_875 rfl 0 rfl ?_
  refine zEV.iload dL_law_876 4 rfl ?_
  refine zEV.iconst (v := 2) dL_law_878 rfl ?_
  refine zEV.iadd dL_law_879 ?_
  obtain ⟨g2, h⟩ := ite_no h
  refine zEV.sld g2 dL_law_880 ?_
  refine zEV.aload_n dL_law_881 rfl 0 rfl ?_
  refine zEV.iload dL_law_882 4 rfl ?_
  refine zEV.iconst (v := 3) dL_law_884 rfl ?_
  refine zEV.iadd dL_law_885 ?_
  obtain ⟨g3, h⟩ := ite_no h
  refine zEV.sld g3 dL_law_886 ?_
  obtain ⟨q4, hq4, h⟩ := bind_yes h
  refine zEV.callVi (kX6_near ((xs (Int32.toNatClampNeg (l4 + 1)))) ((xs (Int32.toNatClampNeg (l4 + 2)))) ((xs (Int32.toNatClampNeg (l4 + 3)))) M q4 hq4) (by decide) rfl rfl wml_116 wc_X6_near hy_X6_near rfl ⟨Nat.le_of_ble_eq_true rfl, Nat.le_of_ble_eq_true rfl⟩ rfl (Nat.le_of_ble_eq_true rfl) dL_law_887 ?_
  refine zEV.aload_n dL_law_890 rfl 2 rfl ?_
  refine zEV.aload_n dL_law_891 rfl 0 rfl ?_
  refine zEV.iload dL_law_892 4 rfl ?_
  refine zEV.iconst (v := 1) dL_law_894 rfl ?_
  refine zEV.iadd dL_law_895 ?_
  refine zEV.sld g1 dL_law_896 ?_
  refine zEV.aload_n dL_law_897 rfl 0 rfl ?_
  refine zEV.iload dL_law_898 4 rfl ?_
  refine zEV.iconst (v := 2) dL_law_900 rfl ?_
  refine zEV.iadd dL_law_901 ?_
  refine zEV.sld g2 dL_law_902 ?_
  refine zEV.aload_n dL_law_903 rfl 0 rfl ?_
  refine zEV.iload dL_law_904 4 rfl ?_
  refine zEV.iconst (v := 3) dL_law_906 rfl ?_
  refine zEV.iadd dL_law_907 ?_
  refine zEV.sld g3 dL_law_908 ?_
  obtain ⟨q5, hq5, h⟩ := bind_yes h
  refine zEV.callVi (kX7_near ((xs (Int32.toNatClampNeg (l4 + 1)))) ((xs (Int32.toNatClampNeg (l4 + 2)))) ((xs (Int32.toNatClampNeg (l4 + 3)))) q4.2 q5 hq5) (by decide) rfl rfl wml_119 wc_X7_near hy_X7_near rfl ⟨Nat.le_of_ble_eq_true rfl, Nat.le_of_ble_eq_true rfl⟩ rfl (Nat.le_of_ble_eq_true rfl) dL_law_909 ?_
  refine zEV.icmp_eq 1543 dL_law_912 (by decide) (fun c6 => ?_) (fun c6 => ?_)
  · rw [if_pos c6] at h
    refine zEV.iinc (v := (l4 + 7)) dL_law_1543 4 rfl rfl (Nat.le_of_ble_eq_true rfl) rfl ?_
    refine zEV.goto 23 dL_law_1546 (by decide) ?_
    refine zEV.more rfl (cs' := 601024 - n) (ss' := 7293034 - 6 * n) ⟨by omega, by omega⟩ ⟨by omega, by omega⟩ ?_
    exact zEV.perm [1, 2, 3, 4, 0] rfl (hK (l4 + 7) q5.2 h)
  · rw [if_neg c6] at h
    refine zEV.iconst (v := 0) dL_law_915 rfl ?_
    cases h
def fL_c21 (Ln : Nat) (xs : Nat → Int32) (K : Int32 → zMM → Option Unit) (l4 : Int32) (M : zMM) : Option Unit :=
  (fX6_climbs  M).bind fun q1 =>
  (fX7_climbs  q1.2).bind fun q2 =>
  if q1.1 = q2.1 then
    K (l4 + 7) q2.2
  else
    none
set_option maxRecDepth 100000 in
theorem tL_c21 (b Ln : Nat) (xs : Nat → Int32) (K : Int32 → zMM → Option Unit) (n : Nat) (hn : n ≤ 1000) (hK : ∀ (l4 : Int32) (M : zMM), K l4 M = some () → zEV iL_law (601024 - n) (7293034 - 6 * n) (zZL b Ln xs) 23 [(0, .inr (.inr 2000)), (1, .inr (.inr 157)), (2, .inr (.inr 158)), (3, .inr (.inr 174)), (4, .inl l4)] [] M) (l4 : Int32) (M : zMM) (h : fL_c21 Ln xs K l4 M = some ()) : zEV iL_law (601024 - (n + 1)) (7293034 - 6 * (n + 1)) (zZL b Ln xs) 917 [(0, .inr (.inr 2000)), (1, .inr (.inr 157)), (2, .inr (.inr 158)), (3, .inr (.inr 174)), (4, .inl l4)] [] M := by
  unfold fL_c21 at h
  refine zEV.aload_n dL_law_917 rfl 1 rfl ?_
  obtain ⟨q1, hq1, h⟩ := bind_yes h
  refine zEV.callVi (kX6_climbs  M q1 hq1) (by decide) rfl rfl wml_120 wc_X6_climbs hy_X6_climbs rfl ⟨Nat.le_of_ble_eq_true rfl, Nat.le_of_ble_eq_true rfl⟩ rfl (Nat.le_of_ble_eq_true rfl) dL_law_918 ?_
  refine zEV.aload_n dL_law_921 rfl 2 rfl ?_
  obtain ⟨q2, hq2, h⟩ := bind_yes h
  refine zEV.callVi (kX7_climbs  q1.2 q2 hq2) (by decide) rfl rfl wml_123 wc_X7_climbs hy_X7_climbs rfl ⟨Nat.le_of_ble_eq_true rfl, Nat.le_of_ble_eq_true rfl⟩ rfl (Nat.le_of_ble_eq_true rfl) dL_law_922 ?_
  refine zEV.icmp_eq 1543 dL_law_925 (by decide) (fun c3 => ?_) (fun c3 => ?_)
  · rw [if_pos c3] at h
    refine zEV.iinc (v := (l4 + 7)) dL_law_1543 4 rfl rfl (Nat.le_of_ble_eq_true rfl) rfl ?_
    refine zEV.goto 23 dL_law_1546 (by decide) ?_
    refine zEV.more rfl (cs' := 601024 - n) (ss' := 7293034 - 6 * n) ⟨by omega, by omega⟩ ⟨by omega, by omega⟩ ?_
    exact zEV.perm [1, 2, 3, 4, 0] rfl (hK (l4 + 7) q2.2 h)
  · rw [if_neg c3] at h
    refine zEV.iconst (v := 0) dL_law_928 rfl ?_
    cases h
def fL_c22 (Ln : Nat) (xs : Nat → Int32) (K : Int32 → zMM → Option Unit) (l4 : Int32) (M : zMM) : Option Unit :=
  if oob ((l4 + 1)) Ln then none else
  (fX6_narrow ((xs (Int32.toNatClampNeg (l4 + 1)))) M).bind fun q2 =>
  (fX7_narrow ((xs (Int32.toNatClampNeg (l4 + 1)))) q2.2).bind fun q3 =>
  if q2.1 = q3.1 then
    K (l4 + 7) q3.2
  else
    none
set_option maxRecDepth 100000 in
theorem tL_c22 (b Ln : Nat) (xs : Nat → Int32) (K : Int32 → zMM → Option Unit) (n : Nat) (hn : n ≤ 1000) (hK : ∀ (l4 : Int32) (M : zMM), K l4 M = some () → zEV iL_law (601024 - n) (7293034 - 6 * n) (zZL b Ln xs) 23 [(0, .inr (.inr 2000)), (1, .inr (.inr 157)), (2, .inr (.inr 158)), (3, .inr (.inr 174)), (4, .inl l4)] [] M) (l4 : Int32) (M : zMM) (h : fL_c22 Ln xs K l4 M = some ()) : zEV iL_law (601024 - (n + 1)) (7293034 - 6 * (n + 1)) (zZL b Ln xs) 930 [(0, .inr (.inr 2000)), (1, .inr (.inr 157)), (2, .inr (.inr 158)), (3, .inr (.inr 174)), (4, .inl l4)] [] M := by
  unfold fL_c22 at h
  refine zEV.aload_n dL_law_930 rfl 1 rfl ?_
  refine zEV.aload_n dL_law_931 rfl 0 rfl ?_
  refine zEV.iload dL_law_932 4 rfl ?_
  refine zEV.iconst (v := 1) dL_law_934 rfl ?_
  refine zEV.iadd dL_law_935 ?_
  obtain ⟨g1, h⟩ := ite_no h
  refine zEV.sld g1 dL_law_936 ?_
  obtain ⟨q2, hq2, h⟩ := bind_yes h
  refine zEV.callVi (kX6_narrow ((xs (Int32.toNatClampNeg (l4 + 1)))) M q2 hq2) (by decide) rfl rfl wml_124 wc_X6_narrow hy_X6_narrow rfl ⟨Nat.le_of_ble_eq_true rfl, Nat.le_of_ble_eq_true rfl⟩ rfl (Nat.le_of_ble_eq_true rfl) dL_law_937 ?_
  refine zEV.aload_n dL_law_940 rfl 2 rfl ?_
  refine zEV.aload_n dL_law_941 rfl 0 rfl ?_
  refine zEV.iload dL_law_942 4 rfl ?_
  refine zEV.iconst (v := 1) dL_law_944 rfl ?_
  refine zEV.iadd dL_law_945 ?_
  refine zEV.sld g1 dL_law_946 ?_
  obtain ⟨q3, hq3, h⟩ := bind_yes h
  refine zEV.callVi (kX7_narrow ((xs (Int32.toNatClampNeg (l4 + 1)))) q2.2 q3 hq3) (by decide) rfl rfl wml_127 wc_X7_narrow hy_X7_narrow rfl ⟨Nat.le_of_ble_eq_true rfl, Nat.le_of_ble_eq_true rfl⟩ rfl (Nat.le_of_ble_eq_true rfl) dL_law_947 ?_
  refine zEV.icmp_eq 1543 dL_law_950 (by decide) (fun c4 => ?_) (fun c4 => ?_)
  · rw [if_pos c4] at h
    refine zEV.iinc (v := (l4 + 7)) dL_law_1543 4 rfl rfl (Nat.le_of_ble_eq_true rfl) rfl ?_
    refine zEV.goto 23 dL_law_1546 (by decide) ?_
    refine zEV.more rfl (cs' := 601024 - n) (ss' := 7293034 - 6 * n) ⟨by omega, by omega⟩ ⟨by omega, by omega⟩ ?_
    exact zEV.perm [1, 2, 3, 4, 0] rfl (hK (l4 + 7) q3.2 h)
  · rw [if_neg c4] at h
    refine zEV.iconst (v := 0) dL_law_953 rfl ?_
    cases h
def fL_c23 (Ln : Nat) (xs : Nat → Int32) (K : Int32 → zMM → Option Unit) (l4 : Int32) (M : zMM) : Option Unit :=
  if oob ((l4 + 1)) Ln then none else
  (fX6_low ((xs (Int32.toNatClampNeg (l4 + 1)))) M).bind fun q2 =>
  (fX7_low ((xs (Int32.toNatClampNeg (l4 + 1)))) q2.2).bind fun q3 =>
  if q2.1 = q3.1 then
    K (l4 + 7) q3.2
  else
    none
set_option maxRecDepth 100000 in
theorem tL_c23 (b Ln : Nat) (xs : Nat → Int32) (K : Int32 → zMM → Option Unit) (n : Nat) (hn : n ≤ 1000) (hK : ∀ (l4 : Int32) (M : zMM), K l4 M = some () → zEV iL_law (601024 - n) (7293034 - 6 * n) (zZL b Ln xs) 23 [(0, .inr (.inr 2000)), (1, .inr (.inr 157)), (2, .inr (.inr 158)), (3, .inr (.inr 174)), (4, .inl l4)] [] M) (l4 : Int32) (M : zMM) (h : fL_c23 Ln xs K l4 M = some ()) : zEV iL_law (601024 - (n + 1)) (7293034 - 6 * (n + 1)) (zZL b Ln xs) 955 [(0, .inr (.inr 2000)), (1, .inr (.inr 157)), (2, .inr (.inr 158)), (3, .inr (.inr 174)), (4, .inl l4)] [] M := by
  unfold fL_c23 at h
  refine zEV.aload_n dL_law_955 rfl 1 rfl ?_
  refine zEV.aload_n dL_law_956 rfl 0 rfl ?_
  refine zEV.iload dL_law_957 4 rfl ?_
  refine zEV.iconst (v := 1) dL_law_959 rfl ?_
  refine zEV.iadd dL_law_960 ?_
  obtain ⟨g1, h⟩ := ite_no h
  refine zEV.sld g1 dL_law_961 ?_
  obtain ⟨q2, hq2, h⟩ := bind_yes h
  refine zEV.callVi (kX6_low ((xs (Int32.toNatClampNeg (l4 + 1)))) M q2 hq2) (by decide) rfl rfl wml_128 wc_X6_low hy_X6_low rfl ⟨Nat.le_of_ble_eq_true rfl, Nat.le_of_ble_eq_true rfl⟩ rfl (Nat.le_of_ble_eq_true rfl) dL_law_962 ?_
  refine zEV.aload_n dL_law_965 rfl 2 rfl ?_
  refine zEV.aload_n dL_law_966 rfl 0 rfl ?_
  refine zEV.iload dL_law_967 4 rfl ?_
  refine zEV.iconst (v := 1) dL_law_969 rfl ?_
  refine zEV.iadd dL_law_970 ?_
  refine zEV.sld g1 dL_law_971 ?_
  obtain ⟨q3, hq3, h⟩ := bind_yes h
  refine zEV.callVi (kX7_low ((xs (Int32.toNatClampNeg (l4 + 1)))) q2.2 q3 hq3) (by decide) rfl rfl wml_131 wc_X7_low hy_X7_low rfl ⟨Nat.le_of_ble_eq_true rfl, Nat.le_of_ble_eq_true rfl⟩ rfl (Nat.le_of_ble_eq_true rfl) dL_law_972 ?_
  refine zEV.icmp_eq 1543 dL_law_975 (by decide) (fun c4 => ?_) (fun c4 => ?_)
  · rw [if_pos c4] at h
    refine zEV.iinc (v := (l4 + 7)) dL_law_1543 4 rfl rfl (Nat.le_of_ble_eq_true rfl) rfl ?_
    refine zEV.goto 23 dL_law_1546 (by decide) ?_
    refine zEV.more rfl (cs' := 601024 - n) (ss' := 7293034 - 6 * n) ⟨by omega, by omega⟩ ⟨by omega, by omega⟩ ?_
    exact zEV.perm [1, 2, 3, 4, 0] rfl (hK (l4 + 7) q3.2 h)
  · rw [if_neg c4] at h
    refine zEV.iconst (v := 0) dL_law_978 rfl ?_
    cases h
def fL_c24 (Ln : Nat) (xs : Nat → Int32) (K : Int32 → zMM → Option Unit) (l4 : Int32) (M : zMM) : Option Unit :=
  if oob ((l4 + 1)) Ln then none else
  if oob ((l4 + 2)) Ln then none else
  if oob ((l4 + 3)) Ln then none else
  (fX6_more ((xs (Int32.toNatClampNeg (l4 + 1)))) ((xs (Int32.toNatClampNeg (l4 + 2)))) ((xs (Int32.toNatClampNeg (l4 + 3)))) M).bind fun q4 =>
  (fX7_more ((xs (Int32.toNatClampNeg (l4 + 1)))) ((xs (Int32.toNatClampNeg (l4 + 2)))) ((xs (Int32.toNatClampNeg (l4 + 3)))) q4.2).bind fun q5 =>
  if q4.1 = q5.1 then
    K (l4 + 7) q5.2
  else
    none
set_option maxRecDepth 100000 in
theorem tL_c24 (b Ln : Nat) (xs : Nat → Int32) (K : Int32 → zMM → Option Unit) (n : Nat) (hn : n ≤ 1000) (hK : ∀ (l4 : Int32) (M : zMM), K l4 M = some () → zEV iL_law (601024 - n) (7293034 - 6 * n) (zZL b Ln xs) 23 [(0, .inr (.inr 2000)), (1, .inr (.inr 157)), (2, .inr (.inr 158)), (3, .inr (.inr 174)), (4, .inl l4)] [] M) (l4 : Int32) (M : zMM) (h : fL_c24 Ln xs K l4 M = some ()) : zEV iL_law (601024 - (n + 1)) (7293034 - 6 * (n + 1)) (zZL b Ln xs) 980 [(0, .inr (.inr 2000)), (1, .inr (.inr 157)), (2, .inr (.inr 158)), (3, .inr (.inr 174)), (4, .inl l4)] [] M := by
  unfold fL_c24 at h
  refine zEV.aload_n dL_law_980 rfl 1 rfl ?_
  refine zEV.aload_n dL_law_981 rfl 0 rfl ?_
  refine zEV.iload dL_law_982 4 rfl ?_
  refine zEV.iconst (v := 1) dL_law_984 rfl ?_
  refine zEV.iadd dL_law_985 ?_
  obtain ⟨g1, h⟩ := ite_no h
  refine zEV.sld g1 dL_law_986 ?_
  refine zEV.aload_n dL_law_987 rfl 0 rfl ?_
  refine zEV.iload dL_law_988 4 rfl ?_
  refine zEV.iconst (v := 2) dL_law_990 rfl ?_
  refine zEV.iadd dL_law_991 ?_
  obtain ⟨g2, h⟩ := ite_no h
  refine zEV.sld g2 dL_law_992 ?_
  refine zEV.aload_n dL_law_993 rfl 0 rfl ?_
  refine zEV.iload dL_law_994 4 rfl ?_
  refine zEV.iconst (v := 3) dL_law_996 rfl ?_
  refine zEV.iadd dL_law_997 ?_
  obtain ⟨g3, h⟩ := ite_no h
  refine zEV.sld g3 dL_law_998 ?_
  obtain ⟨q4, hq4, h⟩ := bind_yes h
  refine zEV.callVi (kX6_more ((xs (Int32.toNatClampNeg (l4 + 1)))) ((xs (Int32.toNatClampNeg (l4 + 2)))) ((xs (Int32.toNatClampNeg (l4 + 3)))) M q4 hq4) (by decide) rfl rfl wml_132 wc_X6_more hy_X6_more rfl ⟨Nat.le_of_ble_eq_true rfl, Nat.le_of_ble_eq_true rfl⟩ rfl (Nat.le_of_ble_eq_true rfl) dL_law_999 ?_
  refine zEV.aload_n dL_law_1002 rfl 2 rfl ?_
  refine zEV.aload_n dL_law_1003 rfl 0 rfl ?_
  refine zEV.iload dL_law_1004 4 rfl ?_
  refine zEV.iconst (v := 1) dL_law_1006 rfl ?_
  refine zEV.iadd dL_law_1007 ?_
  refine zEV.sld g1 dL_law_1008 ?_
  refine zEV.aload_n dL_law_1009 rfl 0 rfl ?_
  refine zEV.iload dL_law_1010 4 rfl ?_
  refine zEV.iconst (v := 2) dL_law_1012 rfl ?_
  refine zEV.iadd dL_law_1013 ?_
  refine zEV.sld g2 dL_law_1014 ?_
  refine zEV.aload_n dL_law_1015 rfl 0 rfl ?_
  refine zEV.iload dL_law_1016 4 rfl ?_
  refine zEV.iconst (v := 3) dL_law_1018 rfl ?_
  refine zEV.iadd dL_law_1019 ?_
  refine zEV.sld g3 dL_law_1020 ?_
  obtain ⟨q5, hq5, h⟩ := bind_yes h
  refine zEV.callVi (kX7_more ((xs (Int32.toNatClampNeg (l4 + 1)))) ((xs (Int32.toNatClampNeg (l4 + 2)))) ((xs (Int32.toNatClampNeg (l4 + 3)))) q4.2 q5 hq5) (by decide) rfl rfl wml_135 wc_X7_more hy_X7_more rfl ⟨Nat.le_of_ble_eq_true rfl, Nat.le_of_ble_eq_true rfl⟩ rfl (Nat.le_of_ble_eq_true rfl) dL_law_1021 ?_
  refine zEV.icmp_eq 1543 dL_law_1024 (by decide) (fun c6 => ?_) (fun c6 => ?_)
  · rw [if_pos c6] at h
    refine zEV.iinc (v := (l4 + 7)) dL_law_1543 4 rfl rfl (Nat.le_of_ble_eq_true rfl) rfl ?_
    refine zEV.goto 23 dL_law_1546 (by decide) ?_
    refine zEV.more rfl (cs' := 601024 - n) (ss' := 7293034 - 6 * n) ⟨by omega, by omega⟩ ⟨by omega, by omega⟩ ?_
    exact zEV.perm [1, 2, 3, 4, 0] rfl (hK (l4 + 7) q5.2 h)
  · rw [if_neg c6] at h
    refine zEV.iconst (v := 0) dL_law_1027 rfl ?_
    cases h
def fL_c25 (Ln : Nat) (xs : Nat → Int32) (K : Int32 → zMM → Option Unit) (l4 : Int32) (M : zMM) : Option Unit :=
  if oob ((l4 + 1)) Ln then none else
  if oob ((l4 + 2)) Ln then none else
  (fX6_less ((xs (Int32.toNatClampNeg (l4 + 1)))) ((xs (Int32.toNatClampNeg (l4 + 2)))) M).bind fun q3 =>
  (fX7_less ((xs (Int32.toNatClampNeg (l4 + 1)))) ((xs (Int32.toNatClampNeg (l4 + 2)))) q3.2).bind fun q4 =>
  if q3.1 = q4.1 then
    K (l4 + 7) q4.2
  else
    none
set_option maxRecDepth 100000 in
theorem tL_c25 (b Ln : Nat) (xs : Nat → Int32) (K : Int32 → zMM → Option Unit) (n : Nat) (hn : n ≤ 1000) (hK : ∀ (l4 : Int32) (M : zMM), K l4 M = some () → zEV iL_law (601024 - n) (7293034 - 6 * n) (zZL b Ln xs) 23 [(0, .inr (.inr 2000)), (1, .inr (.inr 157)), (2, .inr (.inr 158)), (3, .inr (.inr 174)), (4, .inl l4)] [] M) (l4 : Int32) (M : zMM) (h : fL_c25 Ln xs K l4 M = some ()) : zEV iL_law (601024 - (n + 1)) (7293034 - 6 * (n + 1)) (zZL b Ln xs) 1029 [(0, .inr (.inr 2000)), (1, .inr (.inr 157)), (2, .inr (.inr 158)), (3, .inr (.inr 174)), (4, .inl l4)] [] M := by
  unfold fL_c25 at h
  refine zEV.aload_n dL_law_1029 rfl 1 rfl ?_
  refine zEV.aload_n dL_law_1030 rfl 0 rfl ?_
  refine zEV.iload dL_law_1031 4 rfl ?_
  refine zEV.iconst (v := 1) dL_law_1033 rfl ?_
  refine zEV.iadd dL_law_1034 ?_
  obtain ⟨g1, h⟩ := ite_no h
  refine zEV.sld g1 dL_law_1035 ?_
  refine zEV.aload_n dL_law_1036 rfl 0 rfl ?_
  refine zEV.iload dL_law_1037 4 rfl ?_
  refine zEV.iconst (v := 2) dL_law_1039 rfl ?_
  refine zEV.iadd dL_law_1040 ?_
  obtain ⟨g2, h⟩ := ite_no h
  refine zEV.sld g2 dL_law_1041 ?_
  obtain ⟨q3, hq3, h⟩ := bind_yes h
  refine zEV.callVi (kX6_less ((xs (Int32.toNatClampNeg (l4 + 1)))) ((xs (Int32.toNatClampNeg (l4 + 2)))) M q3 hq3) (by decide) rfl rfl wml_136 wc_X6_less hy_X6_less rfl ⟨Nat.le_of_ble_eq_true rfl, Nat.le_of_ble_eq_true rfl⟩ rfl (Nat.le_of_ble_eq_true rfl) dL_law_1042 ?_
  refine zEV.aload_n dL_law_1045 rfl 2 rfl ?_
  refine zEV.aload_n dL_law_1046 rfl 0 rfl ?_
  refine zEV.iload dL_law_1047 4 rfl ?_
  refine zEV.iconst (v := 1) dL_law_1049 rfl ?_
  refine zEV.iadd dL_law_1050 ?_
  refine zEV.sld g1 dL_law_1051 ?_
  refine zEV.aload_n dL_law_1052 rfl 0 rfl ?_
  refine zEV.iload dL_law_1053 4 rfl ?_
  refine zEV.iconst (v := 2) dL_law_1055 rfl ?_
  refine zEV.iadd dL_law_1056 ?_
  refine zEV.sld g2 dL_law_1057 ?_
  obtain ⟨q4, hq4, h⟩ := bind_yes h
  refine zEV.callVi (kX7_less ((xs (Int32.toNatClampNeg (l4 + 1)))) ((xs (Int32.toNatClampNeg (l4 + 2)))) q3.2 q4 hq4) (by decide) rfl rfl wml_139 wc_X7_less hy_X7_less rfl ⟨Nat.le_of_ble_eq_true rfl, Nat.le_of_ble_eq_true rfl⟩ rfl (Nat.le_of_ble_eq_true rfl) dL_law_1058 ?_
  refine zEV.icmp_eq 1543 dL_law_1061 (by decide) (fun c5 => ?_) (fun c5 => ?_)
  · rw [if_pos c5] at h
    refine zEV.iinc (v := (l4 + 7)) dL_law_1543 4 rfl rfl (Nat.le_of_ble_eq_true rfl) rfl ?_
    refine zEV.goto 23 dL_law_1546 (by decide) ?_
    refine zEV.more rfl (cs' := 601024 - n) (ss' := 7293034 - 6 * n) ⟨by omega, by omega⟩ ⟨by omega, by omega⟩ ?_
    exact zEV.perm [1, 2, 3, 4, 0] rfl (hK (l4 + 7) q4.2 h)
  · rw [if_neg c5] at h
    refine zEV.iconst (v := 0) dL_law_1064 rfl ?_
    cases h
def fL_c26 (Ln : Nat) (xs : Nat → Int32) (K : Int32 → zMM → Option Unit) (l4 : Int32) (M : zMM) : Option Unit :=
  if oob ((l4 + 1)) Ln then none else
  (fX6_spare ((xs (Int32.toNatClampNeg (l4 + 1)))) M).bind fun q2 =>
  (fX7_spare ((xs (Int32.toNatClampNeg (l4 + 1)))) q2.2).bind fun q3 =>
  if q2.1 = q3.1 then
    K (l4 + 7) q3.2
  else
    none
set_option maxRecDepth 100000 in
theorem tL_c26 (b Ln : Nat) (xs : Nat → Int32) (K : Int32 → zMM → Option Unit) (n : Nat) (hn : n ≤ 1000) (hK : ∀ (l4 : Int32) (M : zMM), K l4 M = some () → zEV iL_law (601024 - n) (7293034 - 6 * n) (zZL b Ln xs) 23 [(0, .inr (.inr 2000)), (1, .inr (.inr 157)), (2, .inr (.inr 158)), (3, .inr (.inr 174)), (4, .inl l4)] [] M) (l4 : Int32) (M : zMM) (h : fL_c26 Ln xs K l4 M = some ()) : zEV iL_law (601024 - (n + 1)) (7293034 - 6 * (n + 1)) (zZL b Ln xs) 1066 [(0, .inr (.inr 2000)), (1, .inr (.inr 157)), (2, .inr (.inr 158)), (3, .inr (.inr 174)), (4, .inl l4)] [] M := by
  unfold fL_c26 at h
  refine zEV.aload_n dL_law_1066 rfl 1 rfl ?_
  refine zEV.aload_n dL_law_1067 rfl 0 rfl ?_
  refine zEV.iload dL_law_1068 4 rfl ?_
  refine zEV.iconst (v := 1) dL_law_1070 rfl ?_
  refine zEV.iadd dL_law_1071 ?_
  obtain ⟨g1, h⟩ := ite_no h
  refine zEV.sld g1 dL_law_1072 ?_
  obtain ⟨q2, hq2, h⟩ := bind_yes h
  refine zEV.callVi (kX6_spare ((xs (Int32.toNatClampNeg (l4 + 1)))) M q2 hq2) (by decide) rfl rfl wml_140 wc_X6_spare hy_X6_spare rfl ⟨Nat.le_of_ble_eq_true rfl, Nat.le_of_ble_eq_true rfl⟩ rfl (Nat.le_of_ble_eq_true rfl) dL_law_1073 ?_
  refine zEV.aload_n dL_law_1076 rfl 2 rfl ?_
  refine zEV.aload_n dL_law_1077 rfl 0 rfl ?_
  refine zEV.iload dL_law_1078 4 rfl ?_
  refine zEV.iconst (v := 1) dL_law_1080 rfl ?_
  refine zEV.iadd dL_law_1081 ?_
  refine zEV.sld g1 dL_law_1082 ?_
  obtain ⟨q3, hq3, h⟩ := bind_yes h
  refine zEV.callVi (kX7_spare ((xs (Int32.toNatClampNeg (l4 + 1)))) q2.2 q3 hq3) (by decide) rfl rfl wml_143 wc_X7_spare hy_X7_spare rfl ⟨Nat.le_of_ble_eq_true rfl, Nat.le_of_ble_eq_true rfl⟩ rfl (Nat.le_of_ble_eq_true rfl) dL_law_1083 ?_
  refine zEV.icmp_eq 1543 dL_law_1086 (by decide) (fun c4 => ?_) (fun c4 => ?_)
  · rw [if_pos c4] at h
    refine zEV.iinc (v := (l4 + 7)) dL_law_1543 4 rfl rfl (Nat.le_of_ble_eq_true rfl) rfl ?_
    refine zEV.goto 23 dL_law_1546 (by decide) ?_
    refine zEV.more rfl (cs' := 601024 - n) (ss' := 7293034 - 6 * n) ⟨by omega, by omega⟩ ⟨by omega, by omega⟩ ?_
    exact zEV.perm [1, 2, 3, 4, 0] rfl (hK (l4 + 7) q3.2 h)
  · rw [if_neg c4] at h
    refine zEV.iconst (v := 0) dL_law_1089 rfl ?_
    cases h
def fL_c27 (Ln : Nat) (xs : Nat → Int32) (K : Int32 → zMM → Option Unit) (l4 : Int32) (M : zMM) : Option Unit :=
  if oob ((l4 + 1)) Ln then none else
  if oob ((l4 + 2)) Ln then none else
  (fX6_sets ((xs (Int32.toNatClampNeg (l4 + 1)))) ((xs (Int32.toNatClampNeg (l4 + 2)))) M).bind fun q3 =>
  (fX7_sets ((xs (Int32.toNatClampNeg (l4 + 1)))) ((xs (Int32.toNatClampNeg (l4 + 2)))) q3.2).bind fun q4 =>
  if q3.1 = q4.1 then
    K (l4 + 7) q4.2
  else
    none
set_option maxRecDepth 100000 in
theorem tL_c27 (b Ln : Nat) (xs : Nat → Int32) (K : Int32 → zMM → Option Unit) (n : Nat) (hn : n ≤ 1000) (hK : ∀ (l4 : Int32) (M : zMM), K l4 M = some () → zEV iL_law (601024 - n) (7293034 - 6 * n) (zZL b Ln xs) 23 [(0, .inr (.inr 2000)), (1, .inr (.inr 157)), (2, .inr (.inr 158)), (3, .inr (.inr 174)), (4, .inl l4)] [] M) (l4 : Int32) (M : zMM) (h : fL_c27 Ln xs K l4 M = some ()) : zEV iL_law (601024 - (n + 1)) (7293034 - 6 * (n + 1)) (zZL b Ln xs) 1091 [(0, .inr (.inr 2000)), (1, .inr (.inr 157)), (2, .inr (.inr 158)), (3, .inr (.inr 174)), (4, .inl l4)] [] M := by
  unfold fL_c27 at h
  refine zEV.aload_n dL_law_1091 rfl 1 rfl ?_
  refine zEV.aload_n dL_law_1092 rfl 0 rfl ?_
  refine zEV.iload dL_law_1093 4 rfl ?_
  refine zEV.iconst (v := 1) dL_law_1095 rfl ?_
  refine zEV.iadd dL_law_1096 ?_
  obtain ⟨g1, h⟩ := ite_no h
  refine zEV.sld g1 dL_law_1097 ?_
  refine zEV.aload_n dL_law_1098 rfl 0 rfl ?_
  refine zEV.iload dL_law_1099 4 rfl ?_
  refine zEV.iconst (v := 2) dL_law_1101 rfl ?_
  refine zEV.iadd dL_law_1102 ?_
  obtain ⟨g2, h⟩ := ite_no h
  refine zEV.sld g2 dL_law_1103 ?_
  obtain ⟨q3, hq3, h⟩ := bind_yes h
  refine zEV.callVi (kX6_sets ((xs (Int32.toNatClampNeg (l4 + 1)))) ((xs (Int32.toNatClampNeg (l4 + 2)))) M q3 hq3) (by decide) rfl rfl wml_144 wc_X6_sets hy_X6_sets rfl ⟨Nat.le_of_ble_eq_true rfl, Nat.le_of_ble_eq_true rfl⟩ rfl (Nat.le_of_ble_eq_true rfl) dL_law_1104 ?_
  refine zEV.aload_n dL_law_1107 rfl 2 rfl ?_
  refine zEV.aload_n dL_law_1108 rfl 0 rfl ?_
  refine zEV.iload dL_law_1109 4 rfl ?_
  refine zEV.iconst (v := 1) dL_law_1111 rfl ?_
  refine zEV.iadd dL_law_1112 ?_
  refine zEV.sld g1 dL_law_1113 ?_
  refine zEV.aload_n dL_law_1114 rfl 0 rfl ?_
  refine zEV.iload dL_law_1115 4 rfl ?_
  refine zEV.iconst (v := 2) dL_law_1117 rfl ?_
  refine zEV.iadd dL_law_1118 ?_
  refine zEV.sld g2 dL_law_1119 ?_
  obtain ⟨q4, hq4, h⟩ := bind_yes h
  refine zEV.callVi (kX7_sets ((xs (Int32.toNatClampNeg (l4 + 1)))) ((xs (Int32.toNatClampNeg (l4 + 2)))) q3.2 q4 hq4) (by decide) rfl rfl wml_147 wc_X7_sets hy_X7_sets rfl ⟨Nat.le_of_ble_eq_true rfl, Nat.le_of_ble_eq_true rfl⟩ rfl (Nat.le_of_ble_eq_true rfl) dL_law_1120 ?_
  refine zEV.icmp_eq 1543 dL_law_1123 (by decide) (fun c5 => ?_) (fun c5 => ?_)
  · rw [if_pos c5] at h
    refine zEV.iinc (v := (l4 + 7)) dL_law_1543 4 rfl rfl (Nat.le_of_ble_eq_true rfl) rfl ?_
    refine zEV.goto 23 dL_law_1546 (by decide) ?_
    refine zEV.more rfl (cs' := 601024 - n) (ss' := 7293034 - 6 * n) ⟨by omega, by omega⟩ ⟨by omega, by omega⟩ ?_
    exact zEV.perm [1, 2, 3, 4, 0] rfl (hK (l4 + 7) q4.2 h)
  · rw [if_neg c5] at h
    refine zEV.iconst (v := 0) dL_law_1126 rfl ?_
    cases h
def fL_c28 (Ln : Nat) (xs : Nat → Int32) (K : Int32 → zMM → Option Unit) (l4 : Int32) (M : zMM) : Option Unit :=
  if oob ((l4 + 1)) Ln then none else
  if oob ((l4 + 2)) Ln then none else
  (fX6_weighs ((xs (Int32.toNatClampNeg (l4 + 1)))) ((xs (Int32.toNatClampNeg (l4 + 2)))) M).bind fun q3 =>
  (fX7_weighs ((xs (Int32.toNatClampNeg (l4 + 1)))) ((xs (Int32.toNatClampNeg (l4 + 2)))) q3.2).bind fun q4 =>
  if q3.1 = q4.1 then
    K (l4 + 7) q4.2
  else
    none
set_option maxRecDepth 100000 in
theorem tL_c28 (b Ln : Nat) (xs : Nat → Int32) (K : Int32 → zMM → Option Unit) (n : Nat) (hn : n ≤ 1000) (hK : ∀ (l4 : Int32) (M : zMM), K l4 M = some () → zEV iL_law (601024 - n) (7293034 - 6 * n) (zZL b Ln xs) 23 [(0, .inr (.inr 2000)), (1, .inr (.inr 157)), (2, .inr (.inr 158)), (3, .inr (.inr 174)), (4, .inl l4)] [] M) (l4 : Int32) (M : zMM) (h : fL_c28 Ln xs K l4 M = some ()) : zEV iL_law (601024 - (n + 1)) (7293034 - 6 * (n + 1)) (zZL b Ln xs) 1128 [(0, .inr (.inr 2000)), (1, .inr (.inr 157)), (2, .inr (.inr 158)), (3, .inr (.inr 174)), (4, .inl l4)] [] M := by
  unfold fL_c28 at h
  refine zEV.aload_n dL_law_1128 rfl 1 rfl ?_
  refine zEV.aload_n dL_law_1129 rfl 0 rfl ?_
  refine zEV.iload dL_law_1130 4 rfl ?_
  refine zEV.iconst (v := 1) dL_law_1132 rfl ?_
  refine zEV.iadd dL_law_1133 ?_
  obtain ⟨g1, h⟩ := ite_no h
  refine zEV.sld g1 dL_law_1134 ?_
  refine zEV.aload_n dL_law_1135 rfl 0 rfl ?_
  refine zEV.iload dL_law_1136 4 rfl ?_
  refine zEV.iconst (v := 2) dL_law_1138 rfl ?_
  refine zEV.iadd dL_law_1139 ?_
  obtain ⟨g2, h⟩ := ite_no h
  refine zEV.sld g2 dL_law_1140 ?_
  obtain ⟨q3, hq3, h⟩ := bind_yes h
  refine zEV.callVi (kX6_weighs ((xs (Int32.toNatClampNeg (l4 + 1)))) ((xs (Int32.toNatClampNeg (l4 + 2)))) M q3 hq3) (by decide) rfl rfl wml_148 wc_X6_weighs hy_X6_weighs rfl ⟨Nat.le_of_ble_eq_true rfl, Nat.le_of_ble_eq_true rfl⟩ rfl (Nat.le_of_ble_eq_true rfl) dL_law_1141 ?_
  refine zEV.aload_n dL_law_1144 rfl 2 rfl ?_
  refine zEV.aload_n dL_law_1145 rfl 0 rfl ?_
  refine zEV.iload dL_law_1146 4 rfl ?_
  refine zEV.iconst (v := 1) dL_law_1148 rfl ?_
  refine zEV.iadd dL_law_1149 ?_
  refine zEV.sld g1 dL_law_1150 ?_
  refine zEV.aload_n dL_law_1151 rfl 0 rfl ?_
  refine zEV.iload dL_law_1152 4 rfl ?_
  refine zEV.iconst (v := 2) dL_law_1154 rfl ?_
  refine zEV.iadd dL_law_1155 ?_
  refine zEV.sld g2 dL_law_1156 ?_
  obtain ⟨q4, hq4, h⟩ := bind_yes h
  refine zEV.callVi (kX7_weighs ((xs (Int32.toNatClampNeg (l4 + 1)))) ((xs (Int32.toNatClampNeg (l4 + 2)))) q3.2 q4 hq4) (by decide) rfl rfl wml_151 wc_X7_weighs hy_X7_weighs rfl ⟨Nat.le_of_ble_eq_true rfl, Nat.le_of_ble_eq_true rfl⟩ rfl (Nat.le_of_ble_eq_true rfl) dL_law_1157 ?_
  refine zEV.icmp_eq 1543 dL_law_1160 (by decide) (fun c5 => ?_) (fun c5 => ?_)
  · rw [if_pos c5] at h
    refine zEV.iinc (v := (l4 + 7)) dL_law_1543 4 rfl rfl (Nat.le_of_ble_eq_true rfl) rfl ?_
    refine zEV.goto 23 dL_law_1546 (by decide) ?_
    refine zEV.more rfl (cs' := 601024 - n) (ss' := 7293034 - 6 * n) ⟨by omega, by omega⟩ ⟨by omega, by omega⟩ ?_
    exact zEV.perm [1, 2, 3, 4, 0] rfl (hK (l4 + 7) q4.2 h)
  · rw [if_neg c5] at h
    refine zEV.iconst (v := 0) dL_law_1163 rfl ?_
    cases h
def fL_c29 (Ln : Nat) (xs : Nat → Int32) (K : Int32 → zMM → Option Unit) (l4 : Int32) (M : zMM) : Option Unit :=
  (fX6_swaps  M).bind fun q1 =>
  (fX7_swaps  q1.2).bind fun q2 =>
  if q1.1 = q2.1 then
    K (l4 + 7) q2.2
  else
    none
set_option maxRecDepth 100000 in
theorem tL_c29 (b Ln : Nat) (xs : Nat → Int32) (K : Int32 → zMM → Option Unit) (n : Nat) (hn : n ≤ 1000) (hK : ∀ (l4 : Int32) (M : zMM), K l4 M = some () → zEV iL_law (601024 - n) (7293034 - 6 * n) (zZL b Ln xs) 23 [(0, .inr (.inr 2000)), (1, .inr (.inr 157)), (2, .inr (.inr 158)), (3, .inr (.inr 174)), (4, .inl l4)] [] M) (l4 : Int32) (M : zMM) (h : fL_c29 Ln xs K l4 M = some ()) : zEV iL_law (601024 - (n + 1)) (7293034 - 6 * (n + 1)) (zZL b Ln xs) 1165 [(0, .inr (.inr 2000)), (1, .inr (.inr 157)), (2, .inr (.inr 158)), (3, .inr (.inr 174)), (4, .inl l4)] [] M := by
  unfold fL_c29 at h
  refine zEV.aload_n dL_law_1165 rfl 1 rfl ?_
  obtain ⟨q1, hq1, h⟩ := bind_yes h
  refine zEV.callVi (kX6_swaps  M q1 hq1) (by decide) rfl rfl wml_152 wc_X6_swaps hy_X6_swaps rfl ⟨Nat.le_of_ble_eq_true rfl, Nat.le_of_ble_eq_true rfl⟩ rfl (Nat.le_of_ble_eq_true rfl) dL_law_1166 ?_
  refine zEV.aload_n dL_law_1169 rfl 2 rfl ?_
  obtain ⟨q2, hq2, h⟩ := bind_yes h
  refine zEV.callVi (kX7_swaps  q1.2 q2 hq2) (by decide) rfl rfl wml_155 wc_X7_swaps hy_X7_swaps rfl ⟨Nat.le_of_ble_eq_true rfl, Nat.le_of_ble_eq_true rfl⟩ rfl (Nat.le_of_ble_eq_true rfl) dL_law_1170 ?_
  refine zEV.icmp_eq 1543 dL_law_1173 (by decide) (fun c3 => ?_) (fun c3 => ?_)
  · rw [if_pos c3] at h
    refine zEV.iinc (v := (l4 + 7)) dL_law_1543 4 rfl rfl (Nat.le_of_ble_eq_true rfl) rfl ?_
    refine zEV.goto 23 dL_law_1546 (by decide) ?_
    refine zEV.more rfl (cs' := 601024 - n) (ss' := 7293034 - 6 * n) ⟨by omega, by omega⟩ ⟨by omega, by omega⟩ ?_
    exact zEV.perm [1, 2, 3, 4, 0] rfl (hK (l4 + 7) q2.2 h)
  · rw [if_neg c3] at h
    refine zEV.iconst (v := 0) dL_law_1176 rfl ?_
    cases h
def fL_c30 (Ln : Nat) (xs : Nat → Int32) (K : Int32 → zMM → Option Unit) (l4 : Int32) (M : zMM) : Option Unit :=
  if oob ((l4 + 1)) Ln then none else
  if oob ((l4 + 2)) Ln then none else
  if oob ((l4 + 3)) Ln then none else
  (fX6_plans ((xs (Int32.toNatClampNeg (l4 + 1)))) ((xs (Int32.toNatClampNeg (l4 + 2)))) ((xs (Int32.toNatClampNeg (l4 + 3)))) M).bind fun q4 =>
  (fX7_plans ((xs (Int32.toNatClampNeg (l4 + 1)))) ((xs (Int32.toNatClampNeg (l4 + 2)))) ((xs (Int32.toNatClampNeg (l4 + 3)))) q4.2).bind fun q5 =>
  if q4.1 = q5.1 then
    K (l4 + 7) q5.2
  else
    none
set_option maxRecDepth 100000 in
theorem tL_c30 (b Ln : Nat) (xs : Nat → Int32) (K : Int32 → zMM → Option Unit) (n : Nat) (hn : n ≤ 1000) (hK : ∀ (l4 : Int32) (M : zMM), K l4 M = some () → zEV iL_law (601024 - n) (7293034 - 6 * n) (zZL b Ln xs) 23 [(0, .inr (.inr 2000)), (1, .inr (.inr 157)), (2, .inr (.inr 158)), (3, .inr (.inr 174)), (4, .inl l4)] [] M) (l4 : Int32) (M : zMM) (h : fL_c30 Ln xs K l4 M = some ()) : zEV iL_law (601024 - (n + 1)) (7293034 - 6 * (n + 1)) (zZL b Ln xs) 1178 [(0, .inr (.inr 2000)), (1, .inr (.inr 157)), (2, .inr (.inr 158)), (3, .inr (.inr 174)), (4, .inl l4)] [] M := by
  unfold fL_c30 at h
  refine zEV.aload_n dL_law_1178 rfl 1 rfl ?_
  refine zEV.aload_n dL_law_1179 rfl 0 rfl ?_
  refine zEV.iload dL_law_1180 4 rfl ?_
  refine zEV.iconst (v := 1) dL_law_1182 rfl ?_
  refine zEV.iadd dL_law_1183 ?_
  obtain ⟨g1, h⟩ := ite_no h
  refine zEV.sld g1 dL_law_1184 ?_
  refine zEV.aload_n dL_law_1185 rfl 0 rfl ?_
  refine zEV.iload dL_law_1186 4 rfl ?_
  refine zEV.iconst (v := 2) dL_law_1188 rfl ?_
  refine zEV.iadd dL_law_1189 ?_
  obtain ⟨g2, h⟩ := ite_no h
  refine zEV.sld g2 dL_law_1190 ?_
  refine zEV.aload_n dL_law_1191 rfl 0 rfl ?_
  refine zEV.iload dL_law_1192 4 rfl ?_
  refine zEV.iconst (v := 3) dL_law_1194 rfl ?_
  refine zEV.iadd dL_law_1195 ?_
  obtain ⟨g3, h⟩ := ite_no h
  refine zEV.sld g3 dL_law_1196 ?_
  obtain ⟨q4, hq4, h⟩ := bind_yes h
  refine zEV.callVi (kX6_plans ((xs (Int32.toNatClampNeg (l4 + 1)))) ((xs (Int32.toNatClampNeg (l4 + 2)))) ((xs (Int32.toNatClampNeg (l4 + 3)))) M q4 hq4) (by decide) rfl rfl wml_156 wc_X6_plans hy_X6_plans rfl ⟨Nat.le_of_ble_eq_true rfl, Nat.le_of_ble_eq_true rfl⟩ rfl (Nat.le_of_ble_eq_true rfl) dL_law_1197 ?_
  refine zEV.aload_n dL_law_1200 rfl 2 rfl ?_
  refine zEV.aload_n dL_law_1201 rfl 0 rfl ?_
  refine zEV.iload dL_law_1202 4 rfl ?_
  refine zEV.iconst (v := 1) dL_law_1204 rfl ?_
  refine zEV.iadd dL_law_1205 ?_
  refine zEV.sld g1 dL_law_1206 ?_
  refine zEV.aload_n dL_law_1207 rfl 0 rfl ?_
  refine zEV.iload dL_law_1208 4 rfl ?_
  refine zEV.iconst (v := 2) dL_law_1210 rfl ?_
  refine zEV.iadd dL_law_1211 ?_
  refine zEV.sld g2 dL_law_1212 ?_
  refine zEV.aload_n dL_law_1213 rfl 0 rfl ?_
  refine zEV.iload dL_law_1214 4 rfl ?_
  refine zEV.iconst (v := 3) dL_law_1216 rfl ?_
  refine zEV.iadd dL_law_1217 ?_
  refine zEV.sld g3 dL_law_1218 ?_
  obtain ⟨q5, hq5, h⟩ := bind_yes h
  refine zEV.callVi (kX7_plans ((xs (Int32.toNatClampNeg (l4 + 1)))) ((xs (Int32.toNatClampNeg (l4 + 2)))) ((xs (Int32.toNatClampNeg (l4 + 3)))) q4.2 q5 hq5) (by decide) rfl rfl wml_159 wc_X7_plans hy_X7_plans rfl ⟨Nat.le_of_ble_eq_true rfl, Nat.le_of_ble_eq_true rfl⟩ rfl (Nat.le_of_ble_eq_true rfl) dL_law_1219 ?_
  refine zEV.icmp_eq 1543 dL_law_1222 (by decide) (fun c6 => ?_) (fun c6 => ?_)
  · rw [if_pos c6] at h
    refine zEV.iinc (v := (l4 + 7)) dL_law_1543 4 rfl rfl (Nat.le_of_ble_eq_true rfl) rfl ?_
    refine zEV.goto 23 dL_law_1546 (by decide) ?_
    refine zEV.more rfl (cs' := 601024 - n) (ss' := 7293034 - 6 * n) ⟨by omega, by omega⟩ ⟨by omega, by omega⟩ ?_
    exact zEV.perm [1, 2, 3, 4, 0] rfl (hK (l4 + 7) q5.2 h)
  · rw [if_neg c6] at h
    refine zEV.iconst (v := 0) dL_law_1225 rfl ?_
    cases h
def fL_c31 (Ln : Nat) (xs : Nat → Int32) (K : Int32 → zMM → Option Unit) (l4 : Int32) (M : zMM) : Option Unit :=
  if oob ((l4 + 1)) Ln then none else
  if oob ((l4 + 2)) Ln then none else
  (fX6_takesBest ((xs (Int32.toNatClampNeg (l4 + 1)))) ((xs (Int32.toNatClampNeg (l4 + 2)))) M).bind fun q3 =>
  (fX7_takesBest ((xs (Int32.toNatClampNeg (l4 + 1)))) ((xs (Int32.toNatClampNeg (l4 + 2)))) q3.2).bind fun q4 =>
  if q3.1 = q4.1 then
    K (l4 + 7) q4.2
  else
    none
set_option maxRecDepth 100000 in
theorem tL_c31 (b Ln : Nat) (xs : Nat → Int32) (K : Int32 → zMM → Option Unit) (n : Nat) (hn : n ≤ 1000) (hK : ∀ (l4 : Int32) (M : zMM), K l4 M = some () → zEV iL_law (601024 - n) (7293034 - 6 * n) (zZL b Ln xs) 23 [(0, .inr (.inr 2000)), (1, .inr (.inr 157)), (2, .inr (.inr 158)), (3, .inr (.inr 174)), (4, .inl l4)] [] M) (l4 : Int32) (M : zMM) (h : fL_c31 Ln xs K l4 M = some ()) : zEV iL_law (601024 - (n + 1)) (7293034 - 6 * (n + 1)) (zZL b Ln xs) 1227 [(0, .inr (.inr 2000)), (1, .inr (.inr 157)), (2, .inr (.inr 158)), (3, .inr (.inr 174)), (4, .inl l4)] [] M := by
  unfold fL_c31 at h
  refine zEV.aload_n dL_law_1227 rfl 1 rfl ?_
  refine zEV.aload_n dL_law_1228 rfl 0 rfl ?_
  refine zEV.iload dL_law_1229 4 rfl ?_
  refine zEV.iconst (v := 1) dL_law_1231 rfl ?_
  refine zEV.iadd dL_law_1232 ?_
  obtain ⟨g1, h⟩ := ite_no h
  refine zEV.sld g1 dL_law_1233 ?_
  refine zEV.aload_n dL_law_1234 rfl 0 rfl ?_
  refine zEV.iload dL_law_1235 4 rfl ?_
  refine zEV.iconst (v := 2) dL_law_1237 rfl ?_
  refine zEV.iadd dL_law_1238 ?_
  obtain ⟨g2, h⟩ := ite_no h
  refine zEV.sld g2 dL_law_1239 ?_
  obtain ⟨q3, hq3, h⟩ := bind_yes h
  refine zEV.callVi (kX6_takesBest ((xs (Int32.toNatClampNeg (l4 + 1)))) ((xs (Int32.toNatClampNeg (l4 + 2)))) M q3 hq3) (by decide) rfl rfl wml_160 wc_X6_takesBest hy_X6_takesBest rfl ⟨Nat.le_of_ble_eq_true rfl, Nat.le_of_ble_eq_true rfl⟩ rfl (Nat.le_of_ble_eq_true rfl) dL_law_1240 ?_
  refine zEV.aload_n dL_law_1243 rfl 2 rfl ?_
  refine zEV.aload_n dL_law_1244 rfl 0 rfl ?_
  refine zEV.iload dL_law_1245 4 rfl ?_
  refine zEV.iconst (v := 1) dL_law_1247 rfl ?_
  refine zEV.iadd dL_law_1248 ?_
  refine zEV.sld g1 dL_law_1249 ?_
  refine zEV.aload_n dL_law_1250 rfl 0 rfl ?_
  refine zEV.iload dL_law_1251 4 rfl ?_
  refine zEV.iconst (v := 2) dL_law_1253 rfl ?_
  refine zEV.iadd dL_law_1254 ?_
  refine zEV.sld g2 dL_law_1255 ?_
  obtain ⟨q4, hq4, h⟩ := bind_yes h
  refine zEV.callVi (kX7_takesBest ((xs (Int32.toNatClampNeg (l4 + 1)))) ((xs (Int32.toNatClampNeg (l4 + 2)))) q3.2 q4 hq4) (by decide) rfl rfl wml_163 wc_X7_takesBest hy_X7_takesBest rfl ⟨Nat.le_of_ble_eq_true rfl, Nat.le_of_ble_eq_true rfl⟩ rfl (Nat.le_of_ble_eq_true rfl) dL_law_1256 ?_
  refine zEV.icmp_eq 1543 dL_law_1259 (by decide) (fun c5 => ?_) (fun c5 => ?_)
  · rw [if_pos c5] at h
    refine zEV.iinc (v := (l4 + 7)) dL_law_1543 4 rfl rfl (Nat.le_of_ble_eq_true rfl) rfl ?_
    refine zEV.goto 23 dL_law_1546 (by decide) ?_
    refine zEV.more rfl (cs' := 601024 - n) (ss' := 7293034 - 6 * n) ⟨by omega, by omega⟩ ⟨by omega, by omega⟩ ?_
    exact zEV.perm [1, 2, 3, 4, 0] rfl (hK (l4 + 7) q4.2 h)
  · rw [if_neg c5] at h
    refine zEV.iconst (v := 0) dL_law_1262 rfl ?_
    cases h
def fL_c32 (Ln : Nat) (xs : Nat → Int32) (K : Int32 → zMM → Option Unit) (l4 : Int32) (M : zMM) : Option Unit :=
  if oob ((l4 + 1)) Ln then none else
  if oob ((l4 + 2)) Ln then none else
  if oob ((l4 + 3)) Ln then none else
  (fX6_comes ((xs (Int32.toNatClampNeg (l4 + 1)))) ((xs (Int32.toNatClampNeg (l4 + 2)))) ((xs (Int32.toNatClampNeg (l4 + 3)))) M).bind fun q4 =>
  (fX7_comes ((xs (Int32.toNatClampNeg (l4 + 1)))) ((xs (Int32.toNatClampNeg (l4 + 2)))) ((xs (Int32.toNatClampNeg (l4 + 3)))) q4.2).bind fun q5 =>
  if q4.1 = q5.1 then
    K (l4 + 7) q5.2
  else
    none
set_option maxRecDepth 100000 in
theorem tL_c32 (b Ln : Nat) (xs : Nat → Int32) (K : Int32 → zMM → Option Unit) (n : Nat) (hn : n ≤ 1000) (hK : ∀ (l4 : Int32) (M : zMM), K l4 M = some () → zEV iL_law (601024 - n) (7293034 - 6 * n) (zZL b Ln xs) 23 [(0, .inr (.inr 2000)), (1, .inr (.inr 157)), (2, .inr (.inr 158)), (3, .inr (.inr 174)), (4, .inl l4)] [] M) (l4 : Int32) (M : zMM) (h : fL_c32 Ln xs K l4 M = some ()) : zEV iL_law (601024 - (n + 1)) (7293034 - 6 * (n + 1)) (zZL b Ln xs) 1264 [(0, .inr (.inr 2000)), (1, .inr (.inr 157)), (2, .inr (.inr 158)), (3, .inr (.inr 174)), (4, .inl l4)] [] M := by
  unfold fL_c32 at h
  refine zEV.aload_n dL_law_1264 rfl 1 rfl ?_
  refine zEV.aload_n dL_law_1265 rfl 0 rfl ?_
  refine zEV.iload dL_law_1266 4 rfl ?_
  refine zEV.iconst (v := 1) dL_law_1268 rfl ?_
  refine zEV.iadd dL_law_1269 ?_
  obtain ⟨g1, h⟩ := ite_no h
  refine zEV.sld g1 dL_law_1270 ?_
  refine zEV.aload_n dL_law_1271 rfl 0 rfl ?_
  refine zEV.iload dL_law_1272 4 rfl ?_
  refine zEV.iconst (v := 2) dL_law_1274 rfl ?_
  refine zEV.iadd dL_law_1275 ?_
  obtain ⟨g2, h⟩ := ite_no h
  refine zEV.sld g2 dL_law_1276 ?_
  refine zEV.aload_n dL_law_1277 rfl 0 rfl ?_
  refine zEV.iload dL_law_1278 4 rfl ?_
  refine zEV.iconst (v := 3) dL_law_1280 rfl ?_
  refine zEV.iadd dL_law_1281 ?_
  obtain ⟨g3, h⟩ := ite_no h
  refine zEV.sld g3 dL_law_1282 ?_
  obtain ⟨q4, hq4, h⟩ := bind_yes h
  refine zEV.callVi (kX6_comes ((xs (Int32.toNatClampNeg (l4 + 1)))) ((xs (Int32.toNatClampNeg (l4 + 2)))) ((xs (Int32.toNatClampNeg (l4 + 3)))) M q4 hq4) (by decide) rfl rfl wml_164 wc_X6_comes hy_X6_comes rfl ⟨Nat.le_of_ble_eq_true rfl, Nat.le_of_ble_eq_true rfl⟩ rfl (Nat.le_of_ble_eq_true rfl) dL_law_1283 ?_
  refine zEV.aload_n dL_law_1286 rfl 2 rfl ?_
  refine zEV.aload_n dL_law_1287 rfl 0 rfl ?_
  refine zEV.iload dL_law_1288 4 rfl ?_
  refine zEV.iconst (v := 1) dL_law_1290 rfl ?_
  refine zEV.iadd dL_law_1291 ?_
  refine zEV.sld g1 dL_law_1292 ?_
  refine zEV.aload_n dL_law_1293 rfl 0 rfl ?_
  refine zEV.iload dL_law_1294 4 rfl ?_
  refine zEV.iconst (v := 2) dL_law_1296 rfl ?_
  refine zEV.iadd dL_law_1297 ?_
  refine zEV.sld g2 dL_law_1298 ?_
  refine zEV.aload_n dL_law_1299 rfl 0 rfl ?_
  refine zEV.iload dL_law_1300 4 rfl ?_
  refine zEV.iconst (v := 3) dL_law_1302 rfl ?_
  refine zEV.iadd dL_law_1303 ?_
  refine zEV.sld g3 dL_law_1304 ?_
  obtain ⟨q5, hq5, h⟩ := bind_yes h
  refine zEV.callVi (kX7_comes ((xs (Int32.toNatClampNeg (l4 + 1)))) ((xs (Int32.toNatClampNeg (l4 + 2)))) ((xs (Int32.toNatClampNeg (l4 + 3)))) q4.2 q5 hq5) (by decide) rfl rfl wml_167 wc_X7_comes hy_X7_comes rfl ⟨Nat.le_of_ble_eq_true rfl, Nat.le_of_ble_eq_true rfl⟩ rfl (Nat.le_of_ble_eq_true rfl) dL_law_1305 ?_
  refine zEV.icmp_eq 1543 dL_law_1308 (by decide) (fun c6 => ?_) (fun c6 => ?_)
  · rw [if_pos c6] at h
    refine zEV.iinc (v := (l4 + 7)) dL_law_1543 4 rfl rfl (Nat.le_of_ble_eq_true rfl) rfl ?_
    refine zEV.goto 23 dL_law_1546 (by decide) ?_
    refine zEV.more rfl (cs' := 601024 - n) (ss' := 7293034 - 6 * n) ⟨by omega, by omega⟩ ⟨by omega, by omega⟩ ?_
    exact zEV.perm [1, 2, 3, 4, 0] rfl (hK (l4 + 7) q5.2 h)
  · rw [if_neg c6] at h
    refine zEV.iconst (v := 0) dL_law_1311 rfl ?_
    cases h
def fL_c33 (Ln : Nat) (xs : Nat → Int32) (K : Int32 → zMM → Option Unit) (l4 : Int32) (M : zMM) : Option Unit :=
  if oob ((l4 + 1)) Ln then none else
  if oob ((l4 + 2)) Ln then none else
  (fX6_goes ((xs (Int32.toNatClampNeg (l4 + 1)))) ((xs (Int32.toNatClampNeg (l4 + 2)))) M).bind fun q3 =>
  (fX7_goes ((xs (Int32.toNatClampNeg (l4 + 1)))) ((xs (Int32.toNatClampNeg (l4 + 2)))) q3.2).bind fun q4 =>
  if q3.1 = q4.1 then
    K (l4 + 7) q4.2
  else
    none
set_option maxRecDepth 100000 in
theorem tL_c33 (b Ln : Nat) (xs : Nat → Int32) (K : Int32 → zMM → Option Unit) (n : Nat) (hn : n ≤ 1000) (hK : ∀ (l4 : Int32) (M : zMM), K l4 M = some () → zEV iL_law (601024 - n) (7293034 - 6 * n) (zZL b Ln xs) 23 [(0, .inr (.inr 2000)), (1, .inr (.inr 157)), (2, .inr (.inr 158)), (3, .inr (.inr 174)), (4, .inl l4)] [] M) (l4 : Int32) (M : zMM) (h : fL_c33 Ln xs K l4 M = some ()) : zEV iL_law (601024 - (n + 1)) (7293034 - 6 * (n + 1)) (zZL b Ln xs) 1313 [(0, .inr (.inr 2000)), (1, .inr (.inr 157)), (2, .inr (.inr 158)), (3, .inr (.inr 174)), (4, .inl l4)] [] M := by
  unfold fL_c33 at h
  refine zEV.aload_n dL_law_1313 rfl 1 rfl ?_
  refine zEV.aload_n dL_law_1314 rfl 0 rfl ?_
  refine zEV.iload dL_law_1315 4 rfl ?_
  refine zEV.iconst (v := 1) dL_law_1317 rfl ?_
  refine zEV.iadd dL_law_1318 ?_
  obtain ⟨g1, h⟩ := ite_no h
  refine zEV.sld g1 dL_law_1319 ?_
  refine zEV.aload_n dL_law_1320 rfl 0 rfl ?_
  refine zEV.iload dL_law_1321 4 rfl ?_
  refine zEV.iconst (v := 2) dL_law_1323 rfl ?_
  refine zEV.iadd dL_law_1324 ?_
  obtain ⟨g2, h⟩ := ite_no h
  refine zEV.sld g2 dL_law_1325 ?_
  obtain ⟨q3, hq3, h⟩ := bind_yes h
  refine zEV.callVi (kX6_goes ((xs (Int32.toNatClampNeg (l4 + 1)))) ((xs (Int32.toNatClampNeg (l4 + 2)))) M q3 hq3) (by decide) rfl rfl wml_168 wc_X6_goes hy_X6_goes rfl ⟨Nat.le_of_ble_eq_true rfl, Nat.le_of_ble_eq_true rfl⟩ rfl (Nat.le_of_ble_eq_true rfl) dL_law_1326 ?_
  refine zEV.aload_n dL_law_1329 rfl 2 rfl ?_
  refine zEV.aload_n dL_law_1330 rfl 0 rfl ?_
  refine zEV.iload dL_law_1331 4 rfl ?_
  refine zEV.iconst (v := 1) dL_law_1333 rfl ?_
  refine zEV.iadd dL_law_1334 ?_
  refine zEV.sld g1 dL_law_1335 ?_
  refine zEV.aload_n dL_law_1336 rfl 0 rfl ?_
  refine zEV.iload dL_law_1337 4 rfl ?_
  refine zEV.iconst (v := 2) dL_law_1339 rfl ?_
  refine zEV.iadd dL_law_1340 ?_
  refine zEV.sld g2 dL_law_1341 ?_
  obtain ⟨q4, hq4, h⟩ := bind_yes h
  refine zEV.callVi (kX7_goes ((xs (Int32.toNatClampNeg (l4 + 1)))) ((xs (Int32.toNatClampNeg (l4 + 2)))) q3.2 q4 hq4) (by decide) rfl rfl wml_171 wc_X7_goes hy_X7_goes rfl ⟨Nat.le_of_ble_eq_true rfl, Nat.le_of_ble_eq_true rfl⟩ rfl (Nat.le_of_ble_eq_true rfl) dL_law_1342 ?_
  refine zEV.icmp_eq 1543 dL_law_1345 (by decide) (fun c5 => ?_) (fun c5 => ?_)
  · rw [if_pos c5] at h
    refine zEV.iinc (v := (l4 + 7)) dL_law_1543 4 rfl rfl (Nat.le_of_ble_eq_true rfl) rfl ?_
    refine zEV.goto 23 dL_law_1546 (by decide) ?_
    refine zEV.more rfl (cs' := 601024 - n) (ss' := 7293034 - 6 * n) ⟨by omega, by omega⟩ ⟨by omega, by omega⟩ ?_
    exact zEV.perm [1, 2, 3, 4, 0] rfl (hK (l4 + 7) q4.2 h)
  · rw [if_neg c5] at h
    refine zEV.iconst (v := 0) dL_law_1348 rfl ?_
    cases h
def fL_c34 (Ln : Nat) (xs : Nat → Int32) (K : Int32 → zMM → Option Unit) (l4 : Int32) (M : zMM) : Option Unit :=
  (fX6_day  M).bind fun q1 =>
  (fX7_day  q1.2).bind fun q2 =>
  if q1.1 = q2.1 then
    K (l4 + 7) q2.2
  else
    none
set_option maxRecDepth 100000 in
theorem tL_c34 (b Ln : Nat) (xs : Nat → Int32) (K : Int32 → zMM → Option Unit) (n : Nat) (hn : n ≤ 1000) (hK : ∀ (l4 : Int32) (M : zMM), K l4 M = some () → zEV iL_law (601024 - n) (7293034 - 6 * n) (zZL b Ln xs) 23 [(0, .inr (.inr 2000)), (1, .inr (.inr 157)), (2, .inr (.inr 158)), (3, .inr (.inr 174)), (4, .inl l4)] [] M) (l4 : Int32) (M : zMM) (h : fL_c34 Ln xs K l4 M = some ()) : zEV iL_law (601024 - (n + 1)) (7293034 - 6 * (n + 1)) (zZL b Ln xs) 1350 [(0, .inr (.inr 2000)), (1, .inr (.inr 157)), (2, .inr (.inr 158)), (3, .inr (.inr 174)), (4, .inl l4)] [] M := by
  unfold fL_c34 at h
  refine zEV.aload_n dL_law_1350 rfl 1 rfl ?_
  obtain ⟨q1, hq1, h⟩ := bind_yes h
  refine zEV.callVi (kX6_day  M q1 hq1) (by decide) rfl rfl wml_172 wc_X6_day hy_X6_day rfl ⟨Nat.le_of_ble_eq_true rfl, Nat.le_of_ble_eq_true rfl⟩ rfl (Nat.le_of_ble_eq_true rfl) dL_law_1351 ?_
  refine zEV.aload_n dL_law_1354 rfl 2 rfl ?_
  obtain ⟨q2, hq2, h⟩ := bind_yes h
  refine zEV.callVi (kX7_day  q1.2 q2 hq2) (by decide) rfl rfl wml_175 wc_X7_day hy_X7_day rfl ⟨Nat.le_of_ble_eq_true rfl, Nat.le_of_ble_eq_true rfl⟩ rfl (Nat.le_of_ble_eq_true rfl) dL_law_1355 ?_
  refine zEV.icmp_eq 1543 dL_law_1358 (by decide) (fun c3 => ?_) (fun c3 => ?_)
  · rw [if_pos c3] at h
    refine zEV.iinc (v := (l4 + 7)) dL_law_1543 4 rfl rfl (Nat.le_of_ble_eq_true rfl) rfl ?_
    refine zEV.goto 23 dL_law_1546 (by decide) ?_
    refine zEV.more rfl (cs' := 601024 - n) (ss' := 7293034 - 6 * n) ⟨by omega, by omega⟩ ⟨by omega, by omega⟩ ?_
    exact zEV.perm [1, 2, 3, 4, 0] rfl (hK (l4 + 7) q2.2 h)
  · rw [if_neg c3] at h
    refine zEV.iconst (v := 0) dL_law_1361 rfl ?_
    cases h
def fL_c35 (Ln : Nat) (xs : Nat → Int32) (K : Int32 → zMM → Option Unit) (l4 : Int32) (M : zMM) : Option Unit :=
  (fX6_undo  M).bind fun q1 =>
  (fX7_undo  q1.2).bind fun q2 =>
  if q1.1 = q2.1 then
    K (l4 + 7) q2.2
  else
    none
set_option maxRecDepth 100000 in
theorem tL_c35 (b Ln : Nat) (xs : Nat → Int32) (K : Int32 → zMM → Option Unit) (n : Nat) (hn : n ≤ 1000) (hK : ∀ (l4 : Int32) (M : zMM), K l4 M = some () → zEV iL_law (601024 - n) (7293034 - 6 * n) (zZL b Ln xs) 23 [(0, .inr (.inr 2000)), (1, .inr (.inr 157)), (2, .inr (.inr 158)), (3, .inr (.inr 174)), (4, .inl l4)] [] M) (l4 : Int32) (M : zMM) (h : fL_c35 Ln xs K l4 M = some ()) : zEV iL_law (601024 - (n + 1)) (7293034 - 6 * (n + 1)) (zZL b Ln xs) 1363 [(0, .inr (.inr 2000)), (1, .inr (.inr 157)), (2, .inr (.inr 158)), (3, .inr (.inr 174)), (4, .inl l4)] [] M := by
  unfold fL_c35 at h
  refine zEV.aload_n dL_law_1363 rfl 1 rfl ?_
  obtain ⟨q1, hq1, h⟩ := bind_yes h
  refine zEV.callVi (kX6_undo  M q1 hq1) (by decide) rfl rfl wml_176 wc_X6_undo hy_X6_undo rfl ⟨Nat.le_of_ble_eq_true rfl, Nat.le_of_ble_eq_true rfl⟩ rfl (Nat.le_of_ble_eq_true rfl) dL_law_1364 ?_
  refine zEV.aload_n dL_law_1367 rfl 2 rfl ?_
  obtain ⟨q2, hq2, h⟩ := bind_yes h
  refine zEV.callVi (kX7_undo  q1.2 q2 hq2) (by decide) rfl rfl wml_179 wc_X7_undo hy_X7_undo rfl ⟨Nat.le_of_ble_eq_true rfl, Nat.le_of_ble_eq_true rfl⟩ rfl (Nat.le_of_ble_eq_true rfl) dL_law_1368 ?_
  refine zEV.icmp_eq 1543 dL_law_1371 (by decide) (fun c3 => ?_) (fun c3 => ?_)
  · rw [if_pos c3] at h
    refine zEV.iinc (v := (l4 + 7)) dL_law_1543 4 rfl rfl (Nat.le_of_ble_eq_true rfl) rfl ?_
    refine zEV.goto 23 dL_law_1546 (by decide) ?_
    refine zEV.more rfl (cs' := 601024 - n) (ss' := 7293034 - 6 * n) ⟨by omega, by omega⟩ ⟨by omega, by omega⟩ ?_
    exact zEV.perm [1, 2, 3, 4, 0] rfl (hK (l4 + 7) q2.2 h)
  · rw [if_neg c3] at h
    refine zEV.iconst (v := 0) dL_law_1374 rfl ?_
    cases h
def fL_c36 (Ln : Nat) (xs : Nat → Int32) (K : Int32 → zMM → Option Unit) (l4 : Int32) (M : zMM) : Option Unit :=
  if oob ((l4 + 1)) Ln then none else
  if oob ((l4 + 2)) Ln then none else
  (fX6_years ((xs (Int32.toNatClampNeg (l4 + 1)))) ((xs (Int32.toNatClampNeg (l4 + 2)))) M).bind fun q3 =>
  (fX7_years ((xs (Int32.toNatClampNeg (l4 + 1)))) ((xs (Int32.toNatClampNeg (l4 + 2)))) q3.2).bind fun q4 =>
  if q3.1 = q4.1 then
    K (l4 + 7) q4.2
  else
    none
set_option maxRecDepth 100000 in
theorem tL_c36 (b Ln : Nat) (xs : Nat → Int32) (K : Int32 → zMM → Option Unit) (n : Nat) (hn : n ≤ 1000) (hK : ∀ (l4 : Int32) (M : zMM), K l4 M = some () → zEV iL_law (601024 - n) (7293034 - 6 * n) (zZL b Ln xs) 23 [(0, .inr (.inr 2000)), (1, .inr (.inr 157)), (2, .inr (.inr 158)), (3, .inr (.inr 174)), (4, .inl l4)] [] M) (l4 : Int32) (M : zMM) (h : fL_c36 Ln xs K l4 M = some ()) : zEV iL_law (601024 - (n + 1)) (7293034 - 6 * (n + 1)) (zZL b Ln xs) 1376 [(0, .inr (.inr 2000)), (1, .inr (.inr 157)), (2, .inr (.inr 158)), (3, .inr (.inr 174)), (4, .inl l4)] [] M := by
  unfold fL_c36 at h
  refine zEV.aload_n dL_law_1376 rfl 1 rfl ?_
  refine zEV.aload_n dL_law_1377 rfl 0 rfl ?_
  refine zEV.iload dL_law_1378 4 rfl ?_
  refine zEV.iconst (v := 1) dL_law_1380 rfl ?_
  refine zEV.iadd dL_law_1381 ?_
  obtain ⟨g1, h⟩ := ite_no h
  refine zEV.sld g1 dL_law_1382 ?_
  refine zEV.aload_n dL_law_1383 rfl 0 rfl ?_
  refine zEV.iload dL_law_1384 4 rfl ?_
  refine zEV.iconst (v := 2) dL_law_1386 rfl ?_
  refine zEV.iadd dL_law_1387 ?_
  obtain ⟨g2, h⟩ := ite_no h
  refine zEV.sld g2 dL_law_1388 ?_
  obtain ⟨q3, hq3, h⟩ := bind_yes h
  refine zEV.callVi (kX6_years ((xs (Int32.toNatClampNeg (l4 + 1)))) ((xs (Int32.toNatClampNeg (l4 + 2)))) M q3 hq3) (by decide) rfl rfl wml_180 wc_X6_years hy_X6_years rfl ⟨Nat.le_of_ble_eq_true rfl, Nat.le_of_ble_eq_true rfl⟩ rfl (Nat.le_of_ble_eq_true rfl) dL_law_1389 ?_
  refine zEV.aload_n dL_law_1392 rfl 2 rfl ?_
  refine zEV.aload_n dL_law_1393 rfl 0 rfl ?_
  refine zEV.iload dL_law_1394 4 rfl ?_
  refine zEV.iconst (v := 1) dL_law_1396 rfl ?_
  refine zEV.iadd dL_law_1397 ?_
  refine zEV.sld g1 dL_law_1398 ?_
  refine zEV.aload_n dL_law_1399 rfl 0 rfl ?_
  refine zEV.iload dL_law_1400 4 rfl ?_
  refine zEV.iconst (v := 2) dL_law_1402 rfl ?_
  refine zEV.iadd dL_law_1403 ?_
  refine zEV.sld g2 dL_law_1404 ?_
  obtain ⟨q4, hq4, h⟩ := bind_yes h
  refine zEV.callVi (kX7_years ((xs (Int32.toNatClampNeg (l4 + 1)))) ((xs (Int32.toNatClampNeg (l4 + 2)))) q3.2 q4 hq4) (by decide) rfl rfl wml_183 wc_X7_years hy_X7_years rfl ⟨Nat.le_of_ble_eq_true rfl, Nat.le_of_ble_eq_true rfl⟩ rfl (Nat.le_of_ble_eq_true rfl) dL_law_1405 ?_
  refine zEV.icmp_eq 1543 dL_law_1408 (by decide) (fun c5 => ?_) (fun c5 => ?_)
  · rw [if_pos c5] at h
    refine zEV.iinc (v := (l4 + 7)) dL_law_1543 4 rfl rfl (Nat.le_of_ble_eq_true rfl) rfl ?_
    refine zEV.goto 23 dL_law_1546 (by decide) ?_
    refine zEV.more rfl (cs' := 601024 - n) (ss' := 7293034 - 6 * n) ⟨by omega, by omega⟩ ⟨by omega, by omega⟩ ?_
    exact zEV.perm [1, 2, 3, 4, 0] rfl (hK (l4 + 7) q4.2 h)
  · rw [if_neg c5] at h
    refine zEV.iconst (v := 0) dL_law_1411 rfl ?_
    cases h
def fL_c37 (Ln : Nat) (xs : Nat → Int32) (K : Int32 → zMM → Option Unit) (l4 : Int32) (M : zMM) : Option Unit :=
  if oob ((l4 + 1)) Ln then none else
  (fX6_keep ((xs (Int32.toNatClampNeg (l4 + 1)))) M).bind fun q2 =>
  (fX7_keep ((xs (Int32.toNatClampNeg (l4 + 1)))) q2.2).bind fun q3 =>
  if q2.1 = q3.1 then
    K (l4 + 7) q3.2
  else
    none
set_option maxRecDepth 100000 in
theorem tL_c37 (b Ln : Nat) (xs : Nat → Int32) (K : Int32 → zMM → Option Unit) (n : Nat) (hn : n ≤ 1000) (hK : ∀ (l4 : Int32) (M : zMM), K l4 M = some () → zEV iL_law (601024 - n) (7293034 - 6 * n) (zZL b Ln xs) 23 [(0, .inr (.inr 2000)), (1, .inr (.inr 157)), (2, .inr (.inr 158)), (3, .inr (.inr 174)), (4, .inl l4)] [] M) (l4 : Int32) (M : zMM) (h : fL_c37 Ln xs K l4 M = some ()) : zEV iL_law (601024 - (n + 1)) (7293034 - 6 * (n + 1)) (zZL b Ln xs) 1413 [(0, .inr (.inr 2000)), (1, .inr (.inr 157)), (2, .inr (.inr 158)), (3, .inr (.inr 174)), (4, .inl l4)] [] M := by
  unfold fL_c37 at h
  refine zEV.aload_n dL_law_1413 rfl 1 rfl ?_
  refine zEV.aload_n dL_law_1414 rfl 0 rfl ?_
  refine zEV.iload dL_law_1415 4 rfl ?_
  refine zEV.iconst (v := 1) dL_law_1417 rfl ?_
  refine zEV.iadd dL_law_1418 ?_
  obtain ⟨g1, h⟩ := ite_no h
  refine zEV.sld g1 dL_law_1419 ?_
  obtain ⟨q2, hq2, h⟩ := bind_yes h
  refine zEV.callVi (kX6_keep ((xs (Int32.toNatClampNeg (l4 + 1)))) M q2 hq2) (by decide) rfl rfl wml_184 wc_X6_keep hy_X6_keep rfl ⟨Nat.le_of_ble_eq_true rfl, Nat.le_of_ble_eq_true rfl⟩ rfl (Nat.le_of_ble_eq_true rfl) dL_law_1420 ?_
  refine zEV.aload_n dL_law_1423 rfl 2 rfl ?_
  refine zEV.aload_n dL_law_1424 rfl 0 rfl ?_
  refine zEV.iload dL_law_1425 4 rfl ?_
  refine zEV.iconst (v := 1) dL_law_1427 rfl ?_
  refine zEV.iadd dL_law_1428 ?_
  refine zEV.sld g1 dL_law_1429 ?_
  obtain ⟨q3, hq3, h⟩ := bind_yes h
  refine zEV.callVi (kX7_keep ((xs (Int32.toNatClampNeg (l4 + 1)))) q2.2 q3 hq3) (by decide) rfl rfl wml_187 wc_X7_keep hy_X7_keep rfl ⟨Nat.le_of_ble_eq_true rfl, Nat.le_of_ble_eq_true rfl⟩ rfl (Nat.le_of_ble_eq_true rfl) dL_law_1430 ?_
  refine zEV.icmp_eq 1543 dL_law_1433 (by decide) (fun c4 => ?_) (fun c4 => ?_)
  · rw [if_pos c4] at h
    refine zEV.iinc (v := (l4 + 7)) dL_law_1543 4 rfl rfl (Nat.le_of_ble_eq_true rfl) rfl ?_
    refine zEV.goto 23 dL_law_1546 (by decide) ?_
    refine zEV.more rfl (cs' := 601024 - n) (ss' := 7293034 - 6 * n) ⟨by omega, by omega⟩ ⟨by omega, by omega⟩ ?_
    exact zEV.perm [1, 2, 3, 4, 0] rfl (hK (l4 + 7) q3.2 h)
  · rw [if_neg c4] at h
    refine zEV.iconst (v := 0) dL_law_1436 rfl ?_
    cases h
def fL_c38 (Ln : Nat) (xs : Nat → Int32) (K : Int32 → zMM → Option Unit) (l4 : Int32) (M : zMM) : Option Unit :=
  if oob ((l4 + 1)) Ln then none else
  (fX6_again ((xs (Int32.toNatClampNeg (l4 + 1)))) M).bind fun q2 =>
  (fX7_again ((xs (Int32.toNatClampNeg (l4 + 1)))) q2.2).bind fun q3 =>
  if q2.1 = q3.1 then
    K (l4 + 7) q3.2
  else
    none
set_option maxRecDepth 100000 in
theorem tL_c38 (b Ln : Nat) (xs : Nat → Int32) (K : Int32 → zMM → Option Unit) (n : Nat) (hn : n ≤ 1000) (hK : ∀ (l4 : Int32) (M : zMM), K l4 M = some () → zEV iL_law (601024 - n) (7293034 - 6 * n) (zZL b Ln xs) 23 [(0, .inr (.inr 2000)), (1, .inr (.inr 157)), (2, .inr (.inr 158)), (3, .inr (.inr 174)), (4, .inl l4)] [] M) (l4 : Int32) (M : zMM) (h : fL_c38 Ln xs K l4 M = some ()) : zEV iL_law (601024 - (n + 1)) (7293034 - 6 * (n + 1)) (zZL b Ln xs) 1438 [(0, .inr (.inr 2000)), (1, .inr (.inr 157)), (2, .inr (.inr 158)), (3, .inr (.inr 174)), (4, .inl l4)] [] M := by
  unfold fL_c38 at h
  refine zEV.aload_n dL_law_1438 rfl 1 rfl ?_
  refine zEV.aload_n dL_law_1439 rfl 0 rfl ?_
  refine zEV.iload dL_law_1440 4 rfl ?_
  refine zEV.iconst (v := 1) dL_law_1442 rfl ?_
  refine zEV.iadd dL_law_1443 ?_
  obtain ⟨g1, h⟩ := ite_no h
  refine zEV.sld g1 dL_law_1444 ?_
  obtain ⟨q2, hq2, h⟩ := bind_yes h
  refine zEV.callVi (kX6_again ((xs (Int32.toNatClampNeg (l4 + 1)))) M q2 hq2) (by decide) rfl rfl wml_188 wc_X6_again hy_X6_again rfl ⟨Nat.le_of_ble_eq_true rfl, Nat.le_of_ble_eq_true rfl⟩ rfl (Nat.le_of_ble_eq_true rfl) dL_law_1445 ?_
  refine zEV.aload_n dL_law_1448 rfl 2 rfl ?_
  refine zEV.aload_n dL_law_1449 rfl 0 rfl ?_
  refine zEV.iload dL_law_1450 4 rfl ?_
  refine zEV.iconst (v := 1) dL_law_1452 rfl ?_
  refine zEV.iadd dL_law_1453 ?_
  refine zEV.sld g1 dL_law_1454 ?_
  obtain ⟨q3, hq3, h⟩ := bind_yes h
  refine zEV.callVi (kX7_again ((xs (Int32.toNatClampNeg (l4 + 1)))) q2.2 q3 hq3) (by decide) rfl rfl wml_191 wc_X7_again hy_X7_again rfl ⟨Nat.le_of_ble_eq_true rfl, Nat.le_of_ble_eq_true rfl⟩ rfl (Nat.le_of_ble_eq_true rfl) dL_law_1455 ?_
  refine zEV.icmp_eq 1543 dL_law_1458 (by decide) (fun c4 => ?_) (fun c4 => ?_)
  · rw [if_pos c4] at h
    refine zEV.iinc (v := (l4 + 7)) dL_law_1543 4 rfl rfl (Nat.le_of_ble_eq_true rfl) rfl ?_
    refine zEV.goto 23 dL_law_1546 (by decide) ?_
    refine zEV.more rfl (cs' := 601024 - n) (ss' := 7293034 - 6 * n) ⟨by omega, by omega⟩ ⟨by omega, by omega⟩ ?_
    exact zEV.perm [1, 2, 3, 4, 0] rfl (hK (l4 + 7) q3.2 h)
  · rw [if_neg c4] at h
    refine zEV.iconst (v := 0) dL_law_1461 rfl ?_
    cases h
def fL_c39 (Ln : Nat) (xs : Nat → Int32) (K : Int32 → zMM → Option Unit) (l4 : Int32) (M : zMM) : Option Unit :=
  if oob ((l4 + 1)) Ln then none else
  (fX6_count ((xs (Int32.toNatClampNeg (l4 + 1)))) M).bind fun q2 =>
  (fX7_count ((xs (Int32.toNatClampNeg (l4 + 1)))) q2.2).bind fun q3 =>
  if q2.1 = q3.1 then
    K (l4 + 7) q3.2
  else
    none
set_option maxRecDepth 100000 in
theorem tL_c39 (b Ln : Nat) (xs : Nat → Int32) (K : Int32 → zMM → Option Unit) (n : Nat) (hn : n ≤ 1000) (hK : ∀ (l4 : Int32) (M : zMM), K l4 M = some () → zEV iL_law (601024 - n) (7293034 - 6 * n) (zZL b Ln xs) 23 [(0, .inr (.inr 2000)), (1, .inr (.inr 157)), (2, .inr (.inr 158)), (3, .inr (.inr 174)), (4, .inl l4)] [] M) (l4 : Int32) (M : zMM) (h : fL_c39 Ln xs K l4 M = some ()) : zEV iL_law (601024 - (n + 1)) (7293034 - 6 * (n + 1)) (zZL b Ln xs) 1463 [(0, .inr (.inr 2000)), (1, .inr (.inr 157)), (2, .inr (.inr 158)), (3, .inr (.inr 174)), (4, .inl l4)] [] M := by
  unfold fL_c39 at h
  refine zEV.aload_n dL_law_1463 rfl 1 rfl ?_
  refine zEV.aload_n dL_law_1464 rfl 0 rfl ?_
  refine zEV.iload dL_law_1465 4 rfl ?_
  refine zEV.iconst (v := 1) dL_law_1467 rfl ?_
  refine zEV.iadd dL_law_1468 ?_
  obtain ⟨g1, h⟩ := ite_no h
  refine zEV.sld g1 dL_law_1469 ?_
  obtain ⟨q2, hq2, h⟩ := bind_yes h
  refine zEV.callVi (kX6_count ((xs (Int32.toNatClampNeg (l4 + 1)))) M q2 hq2) (by decide) rfl rfl wml_192 wc_X6_count hy_X6_count rfl ⟨Nat.le_of_ble_eq_true rfl, Nat.le_of_ble_eq_true rfl⟩ rfl (Nat.le_of_ble_eq_true rfl) dL_law_1470 ?_
  refine zEV.aload_n dL_law_1473 rfl 2 rfl ?_
  refine zEV.aload_n dL_law_1474 rfl 0 rfl ?_
  refine zEV.iload dL_law_1475 4 rfl ?_
  refine zEV.iconst (v := 1) dL_law_1477 rfl ?_
  refine zEV.iadd dL_law_1478 ?_
  refine zEV.sld g1 dL_law_1479 ?_
  obtain ⟨q3, hq3, h⟩ := bind_yes h
  refine zEV.callVi (kX7_count ((xs (Int32.toNatClampNeg (l4 + 1)))) q2.2 q3 hq3) (by decide) rfl rfl wml_195 wc_X7_count hy_X7_count rfl ⟨Nat.le_of_ble_eq_true rfl, Nat.le_of_ble_eq_true rfl⟩ rfl (Nat.le_of_ble_eq_true rfl) dL_law_1480 ?_
  refine zEV.icmp_eq 1543 dL_law_1483 (by decide) (fun c4 => ?_) (fun c4 => ?_)
  · rw [if_pos c4] at h
    refine zEV.iinc (v := (l4 + 7)) dL_law_1543 4 rfl rfl (Nat.le_of_ble_eq_true rfl) rfl ?_
    refine zEV.goto 23 dL_law_1546 (by decide) ?_
    refine zEV.more rfl (cs' := 601024 - n) (ss' := 7293034 - 6 * n) ⟨by omega, by omega⟩ ⟨by omega, by omega⟩ ?_
    exact zEV.perm [1, 2, 3, 4, 0] rfl (hK (l4 + 7) q3.2 h)
  · rw [if_neg c4] at h
    refine zEV.iconst (v := 0) dL_law_1486 rfl ?_
    cases h
def fL_c40 (Ln : Nat) (xs : Nat → Int32) (K : Int32 → zMM → Option Unit) (l4 : Int32) (M : zMM) : Option Unit :=
  if oob ((l4 + 1)) Ln then none else
  (fL_row ((xs (Int32.toNatClampNeg (l4 + 1)))) M).bind fun q2 =>
  (fX7_row ((xs (Int32.toNatClampNeg (l4 + 1)))) q2.2).bind fun q3 =>
  (fX7_thrown  q3.2).bind fun q4 =>
  if q4.1 = q2.1 then
    if q2.1 = (0 : Int32) then
      if (lg_cmp (q4.2.2 174 0) q3.1) = (0 : Int32) then
        K (l4 + 7) q4.2
      else
        none
    else
      K (l4 + 7) q4.2
  else
    none
set_option maxRecDepth 100000 in
theorem tL_c40 (b Ln : Nat) (xs : Nat → Int32) (K : Int32 → zMM → Option Unit) (n : Nat) (hn : n ≤ 1000) (hK : ∀ (l4 : Int32) (M : zMM), K l4 M = some () → zEV iL_law (601024 - n) (7293034 - 6 * n) (zZL b Ln xs) 23 [(0, .inr (.inr 2000)), (1, .inr (.inr 157)), (2, .inr (.inr 158)), (3, .inr (.inr 174)), (4, .inl l4)] [] M) (l4 : Int32) (M : zMM) (h : fL_c40 Ln xs K l4 M = some ()) : zEV iL_law (601024 - (n + 1)) (7293034 - 6 * (n + 1)) (zZL b Ln xs) 1488 [(0, .inr (.inr 2000)), (1, .inr (.inr 157)), (2, .inr (.inr 158)), (3, .inr (.inr 174)), (4, .inl l4)] [] M := by
  unfold fL_c40 at h
  refine zEV.aload_n dL_law_1488 rfl 1 rfl ?_
  refine zEV.aload_n dL_law_1489 rfl 0 rfl ?_
  refine zEV.iload dL_law_1490 4 rfl ?_
  refine zEV.iconst (v := 1) dL_law_1492 rfl ?_
  refine zEV.iadd dL_law_1493 ?_
  obtain ⟨g1, h⟩ := ite_no h
  refine zEV.sld g1 dL_law_1494 ?_
  refine zEV.aload_n dL_law_1495 rfl 3 rfl ?_
  obtain ⟨q2, hq2, h⟩ := bind_yes h
  refine zEV.callS1 (kL_row ((xs (Int32.toNatClampNeg (l4 + 1)))) M q2 hq2) rfl ⟨by omega, by omega⟩ ⟨by omega, by omega⟩ wml_196 wcl_row hyl_row rfl ⟨Nat.le_of_ble_eq_true rfl, Nat.le_of_ble_eq_true rfl⟩ rfl (Nat.le_of_ble_eq_true rfl) dL_law_1496 ?_
  refine zEV.istore dL_law_1499 (Nat.le_of_ble_eq_true rfl) rfl ?_
  refine zEV.aload_n dL_law_1501 rfl 3 rfl ?_
  refine zEV.aload_n dL_law_1502 rfl 1 rfl ?_
  refine zEV.iload dL_law_1503 5 rfl ?_
  refine zEV.iconst (v := 1) dL_law_1505 rfl ?_
  refine zEV.iadd dL_law_1506 ?_
  refine zEV.sld g1 dL_law_1507 ?_
  obtain ⟨q3, hq3, h⟩ := bind_yes h
  refine zEV.callVl (kX7_row ((xs (Int32.toNatClampNeg (l4 + 1)))) q2.2 q3 hq3) (by decide) rfl rfl wml_198 wc_X7_row hy_X7_row rfl ⟨Nat.le_of_ble_eq_true rfl, Nat.le_of_ble_eq_true rfl⟩ rfl (Nat.le_of_ble_eq_true rfl) dL_law_1508 ?_
  refine zEV.lstore dL_law_1511 (Nat.le_of_ble_eq_true rfl) rfl ?_
  refine zEV.aload_n dL_law_1513 rfl 4 rfl ?_
  obtain ⟨q4, hq4, h⟩ := bind_yes h
  refine zEV.callVi (kX7_thrown  q3.2 q4 hq4) (by decide) rfl rfl wml_64 wc_X7_thrown hy_X7_thrown rfl ⟨Nat.le_of_ble_eq_true rfl, Nat.le_of_ble_eq_true rfl⟩ rfl (Nat.le_of_ble_eq_true rfl) dL_law_1514 ?_
  refine zEV.iload dL_law_1517 1 rfl ?_
  refine zEV.icmp_eq 1524 dL_law_1519 (by decide) (fun c5 => ?_) (fun c5 => ?_)
  · rw [if_pos c5] at h
    refine zEV.iload dL_law_1524 1 rfl ?_
    refine zEV.if_ne 1540 dL_law_1526 (by decide) (fun c6 => ?_) (fun c6 => ?_)
    · rw [if_neg c6] at h
      refine zEV.goto 1543 dL_law_1540 (by decide) ?_
      refine zEV.iinc (v := (l4 + 7)) dL_law_1543 6 rfl rfl (Nat.le_of_ble_eq_true rfl) rfl ?_
      refine zEV.goto 23 dL_law_1546 (by decide) ?_
      refine zEV.more rfl (cs' := 601024 - n) (ss' := 7293034 - 6 * n) ⟨by omega, by omega⟩ ⟨by omega, by omega⟩ ?_
      exact zEV.perm [3, 4, 5, 6, 0] rfl (hK (l4 + 7) q4.2 h)
    · rw [if_pos c6] at h
      refine zEV.aload_n dL_law_1529 rfl 5 rfl ?_
      refine zEV.iconst (v := 0) dL_law_1530 rfl ?_
      refine zEV.laldL (j := 0) (by decide) rfl (by decide) (by decide) dL_law_1531 ?_
      refine zEV.lload dL_law_1532 0 rfl ?_
      refine zEV.lcmp dL_law_1534 ?_
      refine zEV.if_eq 1540 dL_law_1535 (by decide) (fun c7 => ?_) (fun c7 => ?_)
      · rw [if_pos c7] at h
        refine zEV.goto 1543 dL_law_1540 (by decide) ?_
        refine zEV.iinc (v := (l4 + 7)) dL_law_1543 6 rfl rfl (Nat.le_of_ble_eq_true rfl) rfl ?_
        refine zEV.goto 23 dL_law_1546 (by decide) ?_
        refine zEV.more rfl (cs' := 601024 - n) (ss' := 7293034 - 6 * n) ⟨by omega, by omega⟩ ⟨by omega, by omega⟩ ?_
        exact zEV.perm [3, 4, 5, 6, 0] rfl (hK (l4 + 7) q4.2 h)
      · rw [if_neg c7] at h
        refine zEV.iconst (v := 0) dL_law_1538 rfl ?_
        cases h
  · rw [if_neg c5] at h
    refine zEV.iconst (v := 0) dL_law_1522 rfl ?_
    cases h
def fL_sw (Ln : Nat) (xs : Nat → Int32) (K : Int32 → zMM → Option Unit) (x l4 : Int32) (M : zMM) : Option Unit :=
  if x = (0 : Int32) then fL_c0 Ln xs K l4 M else
  if x = (1 : Int32) then fL_c1 Ln xs K l4 M else
  if x = (2 : Int32) then fL_c2 Ln xs K l4 M else
  if x = (3 : Int32) then fL_c3 Ln xs K l4 M else
  if x = (4 : Int32) then fL_c4 Ln xs K l4 M else
  if x = (5 : Int32) then fL_c5 Ln xs K l4 M else
  if x = (6 : Int32) then fL_c6 Ln xs K l4 M else
  if x = (7 : Int32) then fL_c7 Ln xs K l4 M else
  if x = (8 : Int32) then fL_c8 Ln xs K l4 M else
  if x = (9 : Int32) then fL_c9 Ln xs K l4 M else
  if x = (10 : Int32) then fL_c10 Ln xs K l4 M else
  if x = (11 : Int32) then fL_c11 Ln xs K l4 M else
  if x = (12 : Int32) then fL_c12 Ln xs K l4 M else
  if x = (13 : Int32) then fL_c13 Ln xs K l4 M else
  if x = (14 : Int32) then fL_c14 Ln xs K l4 M else
  if x = (15 : Int32) then fL_c15 Ln xs K l4 M else
  if x = (16 : Int32) then fL_c16 Ln xs K l4 M else
  if x = (17 : Int32) then fL_c17 Ln xs K l4 M else
  if x = (18 : Int32) then fL_c18 Ln xs K l4 M else
  if x = (19 : Int32) then fL_c19 Ln xs K l4 M else
  if x = (20 : Int32) then fL_c20 Ln xs K l4 M else
  if x = (21 : Int32) then fL_c21 Ln xs K l4 M else
  if x = (22 : Int32) then fL_c22 Ln xs K l4 M else
  if x = (23 : Int32) then fL_c23 Ln xs K l4 M else
  if x = (24 : Int32) then fL_c24 Ln xs K l4 M else
  if x = (25 : Int32) then fL_c25 Ln xs K l4 M else
  if x = (26 : Int32) then fL_c26 Ln xs K l4 M else
  if x = (27 : Int32) then fL_c27 Ln xs K l4 M else
  if x = (28 : Int32) then fL_c28 Ln xs K l4 M else
  if x = (29 : Int32) then fL_c29 Ln xs K l4 M else
  if x = (30 : Int32) then fL_c30 Ln xs K l4 M else
  if x = (31 : Int32) then fL_c31 Ln xs K l4 M else
  if x = (32 : Int32) then fL_c32 Ln xs K l4 M else
  if x = (33 : Int32) then fL_c33 Ln xs K l4 M else
  if x = (34 : Int32) then fL_c34 Ln xs K l4 M else
  if x = (35 : Int32) then fL_c35 Ln xs K l4 M else
  if x = (36 : Int32) then fL_c36 Ln xs K l4 M else
  if x = (37 : Int32) then fL_c37 Ln xs K l4 M else
  if x = (38 : Int32) then fL_c38 Ln xs K l4 M else
  if x = (39 : Int32) then fL_c39 Ln xs K l4 M else
  if x = (40 : Int32) then fL_c40 Ln xs K l4 M else
  K (l4 + 7) M
set_option maxRecDepth 100000 in
theorem tL_sw (b Ln : Nat) (xs : Nat → Int32) (K : Int32 → zMM → Option Unit) (n : Nat) (hn : n ≤ 1000) (hK : ∀ (l4 : Int32) (M : zMM), K l4 M = some () → zEV iL_law (601024 - n) (7293034 - 6 * n) (zZL b Ln xs) 23 [(0, .inr (.inr 2000)), (1, .inr (.inr 157)), (2, .inr (.inr 158)), (3, .inr (.inr 174)), (4, .inl l4)] [] M) (x l4 : Int32) (M : zMM) (h : fL_sw Ln xs K x l4 M = some ()) : zEV iL_law (601024 - (n + 1)) (7293034 - 6 * (n + 1)) (zZL b Ln xs) 40 [(0, .inr (.inr 2000)), (1, .inr (.inr 157)), (2, .inr (.inr 158)), (3, .inr (.inr 174)), (4, .inl l4)] [.inl x] M := by
  unfold fL_sw at h
  by_cases c0 : x = (0 : Int32)
  · rw [if_pos c0] at h
    exact zEV.tabIn 220 dL_law_40 (0) c0 (by decide) (by decide) rfl (by decide) (tL_c0 b Ln xs K n hn hK l4 M h)
  rw [if_neg c0] at h
  by_cases c1 : x = (1 : Int32)
  · rw [if_pos c1] at h
    exact zEV.tabIn 245 dL_law_40 (1) c1 (by decide) (by decide) rfl (by decide) (tL_c1 b Ln xs K n hn hK l4 M h)
  rw [if_neg c1] at h
  by_cases c2 : x = (2 : Int32)
  · rw [if_pos c2] at h
    exact zEV.tabIn 270 dL_law_40 (2) c2 (by decide) (by decide) rfl (by decide) (tL_c2 b Ln xs K n hn hK l4 M h)
  rw [if_neg c2] at h
  by_cases c3 : x = (3 : Int32)
  · rw [if_pos c3] at h
    exact zEV.tabIn 295 dL_law_40 (3) c3 (by decide) (by decide) rfl (by decide) (tL_c3 b Ln xs K n hn hK l4 M h)
  rw [if_neg c3] at h
  by_cases c4 : x = (4 : Int32)
  · rw [if_pos c4] at h
    exact zEV.tabIn 308 dL_law_40 (4) c4 (by decide) (by decide) rfl (by decide) (tL_c4 b Ln xs K n hn hK l4 M h)
  rw [if_neg c4] at h
  by_cases c5 : x = (5 : Int32)
  · rw [if_pos c5] at h
    exact zEV.tabIn 395 dL_law_40 (5) c5 (by decide) (by decide) rfl (by decide) (tL_c5 b Ln xs K n hn hK l4 M h)
  rw [if_neg c5] at h
  by_cases c6 : x = (6 : Int32)
  · rw [if_pos c6] at h
    exact zEV.tabIn 408 dL_law_40 (6) c6 (by decide) (by decide) rfl (by decide) (tL_c6 b Ln xs K n hn hK l4 M h)
  rw [if_neg c6] at h
  by_cases c7 : x = (7 : Int32)
  · rw [if_pos c7] at h
    exact zEV.tabIn 457 dL_law_40 (7) c7 (by decide) (by decide) rfl (by decide) (tL_c7 b Ln xs K n hn hK l4 M h)
  rw [if_neg c7] at h
  by_cases c8 : x = (8 : Int32)
  · rw [if_pos c8] at h
    exact zEV.tabIn 537 dL_law_40 (8) c8 (by decide) (by decide) rfl (by decide) (tL_c8 b Ln xs K n hn hK l4 M h)
  rw [if_neg c8] at h
  by_cases c9 : x = (9 : Int32)
  · rw [if_pos c9] at h
    exact zEV.tabIn 586 dL_law_40 (9) c9 (by decide) (by decide) rfl (by decide) (tL_c9 b Ln xs K n hn hK l4 M h)
  rw [if_neg c9] at h
  by_cases c10 : x = (10 : Int32)
  · rw [if_pos c10] at h
    exact zEV.tabIn 611 dL_law_40 (10) c10 (by decide) (by decide) rfl (by decide) (tL_c10 b Ln xs K n hn hK l4 M h)
  rw [if_neg c10] at h
  by_cases c11 : x = (11 : Int32)
  · rw [if_pos c11] at h
    exact zEV.tabIn 624 dL_law_40 (11) c11 (by decide) (by decide) rfl (by decide) (tL_c11 b Ln xs K n hn hK l4 M h)
  rw [if_neg c11] at h
  by_cases c12 : x = (12 : Int32)
  · rw [if_pos c12] at h
    exact zEV.tabIn 637 dL_law_40 (12) c12 (by decide) (by decide) rfl (by decide) (tL_c12 b Ln xs K n hn hK l4 M h)
  rw [if_neg c12] at h
  by_cases c13 : x = (13 : Int32)
  · rw [if_pos c13] at h
    exact zEV.tabIn 650 dL_law_40 (13) c13 (by decide) (by decide) rfl (by decide) (tL_c13 b Ln xs K n hn hK l4 M h)
  rw [if_neg c13] at h
  by_cases c14 : x = (14 : Int32)
  · rw [if_pos c14] at h
    exact zEV.tabIn 687 dL_law_40 (14) c14 (by decide) (by decide) rfl (by decide) (tL_c14 b Ln xs K n hn hK l4 M h)
  rw [if_neg c14] at h
  by_cases c15 : x = (15 : Int32)
  · rw [if_pos c15] at h
    exact zEV.tabIn 700 dL_law_40 (15) c15 (by decide) (by decide) rfl (by decide) (tL_c15 b Ln xs K n hn hK l4 M h)
  rw [if_neg c15] at h
  by_cases c16 : x = (16 : Int32)
  · rw [if_pos c16] at h
    exact zEV.tabIn 756 dL_law_40 (16) c16 (by decide) (by decide) rfl (by decide) (tL_c16 b Ln xs K n hn hK l4 M h)
  rw [if_neg c16] at h
  by_cases c17 : x = (17 : Int32)
  · rw [if_pos c17] at h
    exact zEV.tabIn 769 dL_law_40 (17) c17 (by decide) (by decide) rfl (by decide) (tL_c17 b Ln xs K n hn hK l4 M h)
  rw [if_neg c17] at h
  by_cases c18 : x = (18 : Int32)
  · rw [if_pos c18] at h
    exact zEV.tabIn 782 dL_law_40 (18) c18 (by decide) (by decide) rfl (by decide) (tL_c18 b Ln xs K n hn hK l4 M h)
  rw [if_neg c18] at h
  by_cases c19 : x = (19 : Int32)
  · rw [if_pos c19] at h
    exact zEV.tabIn 831 dL_law_40 (19) c19 (by decide) (by decide) rfl (by decide) (tL_c19 b Ln xs K n hn hK l4 M h)
  rw [if_neg c19] at h
  by_cases c20 : x = (20 : Int32)
  · rw [if_pos c20] at h
    exact zEV.tabIn 868 dL_law_40 (20) c20 (by decide) (by decide) rfl (by decide) (tL_c20 b Ln xs K n hn hK l4 M h)
  rw [if_neg c20] at h
  by_cases c21 : x = (21 : Int32)
  · rw [if_pos c21] at h
    exact zEV.tabIn 917 dL_law_40 (21) c21 (by decide) (by decide) rfl (by decide) (tL_c21 b Ln xs K n hn hK l4 M h)
  rw [if_neg c21] at h
  by_cases c22 : x = (22 : Int32)
  · rw [if_pos c22] at h
    exact zEV.tabIn 930 dL_law_40 (22) c22 (by decide) (by decide) rfl (by decide) (tL_c22 b Ln xs K n hn hK l4 M h)
  rw [if_neg c22] at h
  by_cases c23 : x = (23 : Int32)
  · rw [if_pos c23] at h
    exact zEV.tabIn 955 dL_law_40 (23) c23 (by decide) (by decide) rfl (by decide) (tL_c23 b Ln xs K n hn hK l4 M h)
  rw [if_neg c23] at h
  by_cases c24 : x = (24 : Int32)
  · rw [if_pos c24] at h
    exact zEV.tabIn 980 dL_law_40 (24) c24 (by decide) (by decide) rfl (by decide) (tL_c24 b Ln xs K n hn hK l4 M h)
  rw [if_neg c24] at h
  by_cases c25 : x = (25 : Int32)
  · rw [if_pos c25] at h
    exact zEV.tabIn 1029 dL_law_40 (25) c25 (by decide) (by decide) rfl (by decide) (tL_c25 b Ln xs K n hn hK l4 M h)
  rw [if_neg c25] at h
  by_cases c26 : x = (26 : Int32)
  · rw [if_pos c26] at h
    exact zEV.tabIn 1066 dL_law_40 (26) c26 (by decide) (by decide) rfl (by decide) (tL_c26 b Ln xs K n hn hK l4 M h)
  rw [if_neg c26] at h
  by_cases c27 : x = (27 : Int32)
  · rw [if_pos c27] at h
    exact zEV.tabIn 1091 dL_law_40 (27) c27 (by decide) (by decide) rfl (by decide) (tL_c27 b Ln xs K n hn hK l4 M h)
  rw [if_neg c27] at h
  by_cases c28 : x = (28 : Int32)
  · rw [if_pos c28] at h
    exact zEV.tabIn 1128 dL_law_40 (28) c28 (by decide) (by decide) rfl (by decide) (tL_c28 b Ln xs K n hn hK l4 M h)
  rw [if_neg c28] at h
  by_cases c29 : x = (29 : Int32)
  · rw [if_pos c29] at h
    exact zEV.tabIn 1165 dL_law_40 (29) c29 (by decide) (by decide) rfl (by decide) (tL_c29 b Ln xs K n hn hK l4 M h)
  rw [if_neg c29] at h
  by_cases c30 : x = (30 : Int32)
  · rw [if_pos c30] at h
    exact zEV.tabIn 1178 dL_law_40 (30) c30 (by decide) (by decide) rfl (by decide) (tL_c30 b Ln xs K n hn hK l4 M h)
  rw [if_neg c30] at h
  by_cases c31 : x = (31 : Int32)
  · rw [if_pos c31] at h
    exact zEV.tabIn 1227 dL_law_40 (31) c31 (by decide) (by decide) rfl (by decide) (tL_c31 b Ln xs K n hn hK l4 M h)
  rw [if_neg c31] at h
  by_cases c32 : x = (32 : Int32)
  · rw [if_pos c32] at h
    exact zEV.tabIn 1264 dL_law_40 (32) c32 (by decide) (by decide) rfl (by decide) (tL_c32 b Ln xs K n hn hK l4 M h)
  rw [if_neg c32] at h
  by_cases c33 : x = (33 : Int32)
  · rw [if_pos c33] at h
    exact zEV.tabIn 1313 dL_law_40 (33) c33 (by decide) (by decide) rfl (by decide) (tL_c33 b Ln xs K n hn hK l4 M h)
  rw [if_neg c33] at h
  by_cases c34 : x = (34 : Int32)
  · rw [if_pos c34] at h
    exact zEV.tabIn 1350 dL_law_40 (34) c34 (by decide) (by decide) rfl (by decide) (tL_c34 b Ln xs K n hn hK l4 M h)
  rw [if_neg c34] at h
  by_cases c35 : x = (35 : Int32)
  · rw [if_pos c35] at h
    exact zEV.tabIn 1363 dL_law_40 (35) c35 (by decide) (by decide) rfl (by decide) (tL_c35 b Ln xs K n hn hK l4 M h)
  rw [if_neg c35] at h
  by_cases c36 : x = (36 : Int32)
  · rw [if_pos c36] at h
    exact zEV.tabIn 1376 dL_law_40 (36) c36 (by decide) (by decide) rfl (by decide) (tL_c36 b Ln xs K n hn hK l4 M h)
  rw [if_neg c36] at h
  by_cases c37 : x = (37 : Int32)
  · rw [if_pos c37] at h
    exact zEV.tabIn 1413 dL_law_40 (37) c37 (by decide) (by decide) rfl (by decide) (tL_c37 b Ln xs K n hn hK l4 M h)
  rw [if_neg c37] at h
  by_cases c38 : x = (38 : Int32)
  · rw [if_pos c38] at h
    exact zEV.tabIn 1438 dL_law_40 (38) c38 (by decide) (by decide) rfl (by decide) (tL_c38 b Ln xs K n hn hK l4 M h)
  rw [if_neg c38] at h
  by_cases c39 : x = (39 : Int32)
  · rw [if_pos c39] at h
    exact zEV.tabIn 1463 dL_law_40 (39) c39 (by decide) (by decide) rfl (by decide) (tL_c39 b Ln xs K n hn hK l4 M h)
  rw [if_neg c39] at h
  by_cases c40 : x = (40 : Int32)
  · rw [if_pos c40] at h
    exact zEV.tabIn 1488 dL_law_40 (40) c40 (by decide) (by decide) rfl (by decide) (tL_c40 b Ln xs K n hn hK l4 M h)
  rw [if_neg c40] at h
  refine zEV.tabOut 1543 40 dL_law_40 (by decide) (by decide) rfl (fun k hk => ?_) (by decide) ?_
  · match k, hk with
    | 0, _ => exact c0
    | 1, _ => exact c1
    | 2, _ => exact c2
    | 3, _ => exact c3
    | 4, _ => exact c4
    | 5, _ => exact c5
    | 6, _ => exact c6
    | 7, _ => exact c7
    | 8, _ => exact c8
    | 9, _ => exact c9
    | 10, _ => exact c10
    | 11, _ => exact c11
    | 12, _ => exact c12
    | 13, _ => exact c13
    | 14, _ => exact c14
    | 15, _ => exact c15
    | 16, _ => exact c16
    | 17, _ => exact c17
    | 18, _ => exact c18
    | 19, _ => exact c19
    | 20, _ => exact c20
    | 21, _ => exact c21
    | 22, _ => exact c22
    | 23, _ => exact c23
    | 24, _ => exact c24
    | 25, _ => exact c25
    | 26, _ => exact c26
    | 27, _ => exact c27
    | 28, _ => exact c28
    | 29, _ => exact c29
    | 30, _ => exact c30
    | 31, _ => exact c31
    | 32, _ => exact c32
    | 33, _ => exact c33
    | 34, _ => exact c34
    | 35, _ => exact c35
    | 36, _ => exact c36
    | 37, _ => exact c37
    | 38, _ => exact c38
    | 39, _ => exact c39
    | 40, _ => exact c40
    | k + 41, hk => exact absurd hk (by omega)
  refine zEV.iinc (v := (l4 + 7)) dL_law_1543 4 rfl rfl (Nat.le_of_ble_eq_true rfl) rfl ?_
  refine zEV.goto 23 dL_law_1546 (by decide) ?_
  refine zEV.more rfl (cs' := 601024 - n) (ss' := 7293034 - 6 * n) ⟨by omega, by omega⟩ ⟨by omega, by omega⟩ ?_
  exact zEV.perm [1, 2, 3, 4, 0] rfl (hK (l4 + 7) M h)
def fL_law (Ln : Nat) (xs : Nat → Int32) : Nat → Int32 → zMM → Option Unit
  | 0, _, _ => none
  | n + 1, l4, M =>
    if ((Int32.ofNat Ln) - 7) < l4 then
      some ()
    else
      if oob (l4) Ln then none else
      fL_sw Ln xs (fL_law Ln xs n) ((xs (Int32.toNatClampNeg l4)) &&& 63) l4 M
set_option maxRecDepth 100000 in
theorem tL_law (b Ln : Nat) (xs : Nat → Int32) : ∀ (n : Nat), n ≤ 1000 → ∀ (l4 : Int32) (M : zMM), fL_law Ln xs n l4 M = some () → zEV iL_law (601024 - n) (7293034 - 6 * n) (zZL b Ln xs) 23 [(0, .inr (.inr 2000)), (1, .inr (.inr 157)), (2, .inr (.inr 158)), (3, .inr (.inr 174)), (4, .inl l4)] [] M := by
  intro n
  induction n with
  | zero =>
    intro _ l4 M h
    rw [fL_law] at h
    cases h
  | succ n ih =>
    intro hn l4 M h
    rw [fL_law] at h
    refine zEV.iload dL_law_23 4 rfl ?_
    refine zEV.aload_n dL_law_25 rfl 0 rfl ?_
    refine zEV.slen dL_law_26 ?_
    refine zEV.bipush (v := 7) dL_law_27 rfl ?_
    refine zEV.isub dL_law_29 ?_
    refine zEV.icmp_gt 1549 dL_law_30 (by decide) (fun c1 => ?_) (fun c1 => ?_)
    · rw [if_pos c1] at h
      refine zEV.iconst (v := 1) dL_law_1549 rfl ?_
      exact zEV.lawret rfl ⟨by omega, by omega⟩ dL_law_1550
    · rw [if_neg c1] at h
      refine zEV.aload_n dL_law_33 rfl 0 rfl ?_
      refine zEV.iload dL_law_34 4 rfl ?_
      obtain ⟨g2, h⟩ := ite_no h
      refine zEV.sld g2 dL_law_36 ?_
      refine zEV.bipush (v := 63) dL_law_37 rfl ?_
      refine zEV.iand dL_law_39 ?_
      exact zEV.perm [0, 1, 2, 3, 4] rfl (tL_sw b Ln xs (fL_law Ln xs n) n (by omega) (fun l4 M h => ih (by omega) l4 M h) ((xs (Int32.toNatClampNeg l4)) &&& 63) l4 M h)
