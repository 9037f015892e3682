theorem mw_1_190 : Cond.code yX8_kind cX8_kind 5 (some .int) ∈ BG := mB (t1 (i := 190) rfl) (by decide +kernel)
theorem mw_1_187 : Cond.methodLink RL 13 yX8_kind ∈ BG := mB (t1 (i := 187) (by decide +kernel)) (by decide +kernel)
theorem mw_1_188 : Cond.instanceMethod yX8_kind ∈ BG := mB (t1 (i := 188) (by decide +kernel)) (by decide +kernel)
theorem mw_1_189 : Cond.selects RX8 yX8_kind yX8_kind ∈ BG := mB (t1 (i := 189) (by decide +kernel)) (by decide +kernel)
theorem mw_4_52 : Cond.code yX9_kind cX9_kind 8 (some .int) ∈ BG := mB (t4 (i := 52) rfl) (by decide +kernel)
theorem mw_4_49 : Cond.methodLink RL 17 yX9_kind ∈ BG := mB (t4 (i := 49) (by decide +kernel)) (by decide +kernel)
theorem mw_4_50 : Cond.instanceMethod yX9_kind ∈ BG := mB (t4 (i := 50) (by decide +kernel)) (by decide +kernel)
theorem mw_4_51 : Cond.selects RX9 yX9_kind yX9_kind ∈ BG := mB (t4 (i := 51) (by decide +kernel)) (by decide +kernel)
theorem mw_2_27 : Cond.code yX8_bare cX8_bare 4 (some .int) ∈ BG := mB (t2 (i := 27) rfl) (by decide +kernel)
theorem mw_2_24 : Cond.methodLink RL 18 yX8_bare ∈ BG := mB (t2 (i := 24) (by decide +kernel)) (by decide +kernel)
theorem mw_2_25 : Cond.instanceMethod yX8_bare ∈ BG := mB (t2 (i := 25) (by decide +kernel)) (by decide +kernel)
theorem mw_2_26 : Cond.selects RX8 yX8_bare yX8_bare ∈ BG := mB (t2 (i := 26) (by decide +kernel)) (by decide +kernel)
theorem mw_4_76 : Cond.code yX9_bare cX9_bare 4 (some .int) ∈ BG := mB (t4 (i := 76) rfl) (by decide +kernel)
theorem mw_4_73 : Cond.methodLink RL 22 yX9_bare ∈ BG := mB (t4 (i := 73) (by decide +kernel)) (by decide +kernel)
theorem mw_4_74 : Cond.instanceMethod yX9_bare ∈ BG := mB (t4 (i := 74) (by decide +kernel)) (by decide +kernel)
theorem mw_4_75 : Cond.selects RX9 yX9_bare yX9_bare ∈ BG := mB (t4 (i := 75) (by decide +kernel)) (by decide +kernel)
theorem mw_2_40 : Cond.code yX8_of cX8_of 3 (some .int) ∈ BG := mB (t2 (i := 40) rfl) (by decide +kernel)
theorem mw_2_37 : Cond.methodLink RL 23 yX8_of ∈ BG := mB (t2 (i := 37) (by decide +kernel)) (by decide +kernel)
theorem mw_2_38 : Cond.instanceMethod yX8_of ∈ BG := mB (t2 (i := 38) (by decide +kernel)) (by decide +kernel)
theorem mw_2_39 : Cond.selects RX8 yX8_of yX8_of ∈ BG := mB (t2 (i := 39) (by decide +kernel)) (by decide +kernel)
theorem mw_4_80 : Cond.code yX9_of cX9_of 3 (some .int) ∈ BG := mB (t4 (i := 80) rfl) (by decide +kernel)
theorem mw_4_77 : Cond.methodLink RL 27 yX9_of ∈ BG := mB (t4 (i := 77) (by decide +kernel)) (by decide +kernel)
theorem mw_4_78 : Cond.instanceMethod yX9_of ∈ BG := mB (t4 (i := 78) (by decide +kernel)) (by decide +kernel)
theorem mw_4_79 : Cond.selects RX9 yX9_of yX9_of ∈ BG := mB (t4 (i := 79) (by decide +kernel)) (by decide +kernel)
theorem mw_2_49 : Cond.code yX8_line cX8_line 3 (some .int) ∈ BG := mB (t2 (i := 49) rfl) (by decide +kernel)
theorem mw_2_46 : Cond.methodLink RL 28 yX8_line ∈ BG := mB (t2 (i := 46) (by decide +kernel)) (by decide +kernel)
theorem mw_2_47 : Cond.instanceMethod yX8_line ∈ BG := mB (t2 (i := 47) (by decide +kernel)) (by decide +kernel)
theorem mw_2_48 : Cond.selects RX8 yX8_line yX8_line ∈ BG := mB (t2 (i := 48) (by decide +kernel)) (by decide +kernel)
theorem mw_4_88 : Cond.code yX9_line cX9_line 3 (some .int) ∈ BG := mB (t4 (i := 88) rfl) (by decide +kernel)
theorem mw_4_85 : Cond.methodLink RL 31 yX9_line ∈ BG := mB (t4 (i := 85) (by decide +kernel)) (by decide +kernel)
theorem mw_4_86 : Cond.instanceMethod yX9_line ∈ BG := mB (t4 (i := 86) (by decide +kernel)) (by decide +kernel)
theorem mw_4_87 : Cond.selects RX9 yX9_line yX9_line ∈ BG := mB (t4 (i := 87) (by decide +kernel)) (by decide +kernel)
theorem mw_2_56 : Cond.code yX8_quarrel cX8_quarrel 2 (some .int) ∈ BG := mB (t2 (i := 56) rfl) (by decide +kernel)
theorem mw_2_53 : Cond.methodLink RL 32 yX8_quarrel ∈ BG := mB (t2 (i := 53) (by decide +kernel)) (by decide +kernel)
theorem mw_2_54 : Cond.instanceMethod yX8_quarrel ∈ BG := mB (t2 (i := 54) (by decide +kernel)) (by decide +kernel)
theorem mw_2_55 : Cond.selects RX8 yX8_quarrel yX8_quarrel ∈ BG := mB (t2 (i := 55) (by decide +kernel)) (by decide +kernel)
theorem mw_4_92 : Cond.code yX9_quarrel cX9_quarrel 2 (some .int) ∈ BG := mB (t4 (i := 92) rfl) (by decide +kernel)
theorem mw_4_89 : Cond.methodLink RL 36 yX9_quarrel ∈ BG := mB (t4 (i := 89) (by decide +kernel)) (by decide +kernel)
theorem mw_4_90 : Cond.instanceMethod yX9_quarrel ∈ BG := mB (t4 (i := 90) (by decide +kernel)) (by decide +kernel)
theorem mw_4_91 : Cond.selects RX9 yX9_quarrel yX9_quarrel ∈ BG := mB (t4 (i := 91) (by decide +kernel)) (by decide +kernel)
theorem mw_2_64 : Cond.code yX8_say cX8_say 2 (some .int) ∈ BG := mB (t2 (i := 64) rfl) (by decide +kernel)
theorem mw_2_61 : Cond.methodLink RL 37 yX8_say ∈ BG := mB (t2 (i := 61) (by decide +kernel)) (by decide +kernel)
theorem mw_2_62 : Cond.instanceMethod yX8_say ∈ BG := mB (t2 (i := 62) (by decide +kernel)) (by decide +kernel)
theorem mw_2_63 : Cond.selects RX8 yX8_say yX8_say ∈ BG := mB (t2 (i := 63) (by decide +kernel)) (by decide +kernel)
theorem mw_4_96 : Cond.code yX9_say cX9_say 2 (some .int) ∈ BG := mB (t4 (i := 96) rfl) (by decide +kernel)
theorem mw_4_93 : Cond.methodLink RL 40 yX9_say ∈ BG := mB (t4 (i := 93) (by decide +kernel)) (by decide +kernel)
theorem mw_4_94 : Cond.instanceMethod yX9_say ∈ BG := mB (t4 (i := 94) (by decide +kernel)) (by decide +kernel)
theorem mw_4_95 : Cond.selects RX9 yX9_say yX9_say ∈ BG := mB (t4 (i := 95) (by decide +kernel)) (by decide +kernel)
theorem mw_2_77 : Cond.code yX8_wipe cX8_wipe 1 (some .int) ∈ BG := mB (t2 (i := 77) rfl) (by decide +kernel)
theorem mw_2_74 : Cond.methodLink RL 41 yX8_wipe ∈ BG := mB (t2 (i := 74) (by decide +kernel)) (by decide +kernel)
theorem mw_2_75 : Cond.instanceMethod yX8_wipe ∈ BG := mB (t2 (i := 75) (by decide +kernel)) (by decide +kernel)
theorem mw_2_76 : Cond.selects RX8 yX8_wipe yX8_wipe ∈ BG := mB (t2 (i := 76) (by decide +kernel)) (by decide +kernel)
theorem mw_4_102 : Cond.code yX9_wipe cX9_wipe 2 (some .int) ∈ BG := mB (t4 (i := 102) rfl) (by decide +kernel)
theorem mw_4_99 : Cond.methodLink RL 45 yX9_wipe ∈ BG := mB (t4 (i := 99) (by decide +kernel)) (by decide +kernel)
theorem mw_4_100 : Cond.instanceMethod yX9_wipe ∈ BG := mB (t4 (i := 100) (by decide +kernel)) (by decide +kernel)
theorem mw_4_101 : Cond.selects RX9 yX9_wipe yX9_wipe ∈ BG := mB (t4 (i := 101) (by decide +kernel)) (by decide +kernel)
theorem mw_2_85 : Cond.code yX8_fault cX8_fault 1 (some .int) ∈ BG := mB (t2 (i := 85) rfl) (by decide +kernel)
theorem mw_2_82 : Cond.methodLink RL 46 yX8_fault ∈ BG := mB (t2 (i := 82) (by decide +kernel)) (by decide +kernel)
theorem mw_2_83 : Cond.instanceMethod yX8_fault ∈ BG := mB (t2 (i := 83) (by decide +kernel)) (by decide +kernel)
theorem mw_2_84 : Cond.selects RX8 yX8_fault yX8_fault ∈ BG := mB (t2 (i := 84) (by decide +kernel)) (by decide +kernel)
theorem mw_4_106 : Cond.code yX9_fault cX9_fault 3 (some .int) ∈ BG := mB (t4 (i := 106) rfl) (by decide +kernel)
theorem mw_4_103 : Cond.methodLink RL 49 yX9_fault ∈ BG := mB (t4 (i := 103) (by decide +kernel)) (by decide +kernel)
theorem mw_4_104 : Cond.instanceMethod yX9_fault ∈ BG := mB (t4 (i := 104) (by decide +kernel)) (by decide +kernel)
theorem mw_4_105 : Cond.selects RX9 yX9_fault yX9_fault ∈ BG := mB (t4 (i := 105) (by decide +kernel)) (by decide +kernel)
theorem mw_2_96 : Cond.code yX8_has cX8_has 4 (some .int) ∈ BG := mB (t2 (i := 96) rfl) (by decide +kernel)
theorem mw_2_93 : Cond.methodLink RL 50 yX8_has ∈ BG := mB (t2 (i := 93) (by decide +kernel)) (by decide +kernel)
theorem mw_2_94 : Cond.instanceMethod yX8_has ∈ BG := mB (t2 (i := 94) (by decide +kernel)) (by decide +kernel)
theorem mw_2_95 : Cond.selects RX8 yX8_has yX8_has ∈ BG := mB (t2 (i := 95) (by decide +kernel)) (by decide +kernel)
theorem mw_4_114 : Cond.code yX9_has cX9_has 5 (some .int) ∈ BG := mB (t4 (i := 114) rfl) (by decide +kernel)
theorem mw_4_111 : Cond.methodLink RL 53 yX9_has ∈ BG := mB (t4 (i := 111) (by decide +kernel)) (by decide +kernel)
theorem mw_4_112 : Cond.instanceMethod yX9_has ∈ BG := mB (t4 (i := 112) (by decide +kernel)) (by decide +kernel)
theorem mw_4_113 : Cond.selects RX9 yX9_has yX9_has ∈ BG := mB (t4 (i := 113) (by decide +kernel)) (by decide +kernel)
theorem mw_2_131 : Cond.code yX8_drop cX8_drop 3 (some .int) ∈ BG := mB (t2 (i := 131) rfl) (by decide +kernel)
theorem mw_2_128 : Cond.methodLink RL 54 yX8_drop ∈ BG := mB (t2 (i := 128) (by decide +kernel)) (by decide +kernel)
theorem mw_2_129 : Cond.instanceMethod yX8_drop ∈ BG := mB (t2 (i := 129) (by decide +kernel)) (by decide +kernel)
theorem mw_2_130 : Cond.selects RX8 yX8_drop yX8_drop ∈ BG := mB (t2 (i := 130) (by decide +kernel)) (by decide +kernel)
theorem mw_4_130 : Cond.code yX9_drop cX9_drop 3 (some .int) ∈ BG := mB (t4 (i := 130) rfl) (by decide +kernel)
theorem mw_4_127 : Cond.methodLink RL 57 yX9_drop ∈ BG := mB (t4 (i := 127) (by decide +kernel)) (by decide +kernel)
theorem mw_4_128 : Cond.instanceMethod yX9_drop ∈ BG := mB (t4 (i := 128) (by decide +kernel)) (by decide +kernel)
theorem mw_4_129 : Cond.selects RX9 yX9_drop yX9_drop ∈ BG := mB (t4 (i := 129) (by decide +kernel)) (by decide +kernel)
theorem mw_2_139 : Cond.code yX8_answer cX8_answer 3 (some .int) ∈ BG := mB (t2 (i := 139) rfl) (by decide +kernel)
theorem mw_2_136 : Cond.methodLink RL 58 yX8_answer ∈ BG := mB (t2 (i := 136) (by decide +kernel)) (by decide +kernel)
theorem mw_2_137 : Cond.instanceMethod yX8_answer ∈ BG := mB (t2 (i := 137) (by decide +kernel)) (by decide +kernel)
theorem mw_2_138 : Cond.selects RX8 yX8_answer yX8_answer ∈ BG := mB (t2 (i := 138) (by decide +kernel)) (by decide +kernel)
theorem mw_4_134 : Cond.code yX9_answer cX9_answer 3 (some .int) ∈ BG := mB (t4 (i := 134) rfl) (by decide +kernel)
theorem mw_4_131 : Cond.methodLink RL 61 yX9_answer ∈ BG := mB (t4 (i := 131) (by decide +kernel)) (by decide +kernel)
theorem mw_4_132 : Cond.instanceMethod yX9_answer ∈ BG := mB (t4 (i := 132) (by decide +kernel)) (by decide +kernel)
theorem mw_4_133 : Cond.selects RX9 yX9_answer yX9_answer ∈ BG := mB (t4 (i := 133) (by decide +kernel)) (by decide +kernel)
theorem mw_2_155 : Cond.code yX8_next cX8_next 5 (some .int) ∈ BG := mB (t2 (i := 155) rfl) (by decide +kernel)
theorem mw_2_152 : Cond.methodLink RL 62 yX8_next ∈ BG := mB (t2 (i := 152) (by decide +kernel)) (by decide +kernel)
theorem mw_2_153 : Cond.instanceMethod yX8_next ∈ BG := mB (t2 (i := 153) (by decide +kernel)) (by decide +kernel)
theorem mw_2_154 : Cond.selects RX8 yX8_next yX8_next ∈ BG := mB (t2 (i := 154) (by decide +kernel)) (by decide +kernel)
theorem mw_4_146 : Cond.code yX9_next cX9_next 5 (some .int) ∈ BG := mB (t4 (i := 146) rfl) (by decide +kernel)
theorem mw_4_143 : Cond.methodLink RL 66 yX9_next ∈ BG := mB (t4 (i := 143) (by decide +kernel)) (by decide +kernel)
theorem mw_4_144 : Cond.instanceMethod yX9_next ∈ BG := mB (t4 (i := 144) (by decide +kernel)) (by decide +kernel)
theorem mw_4_145 : Cond.selects RX9 yX9_next yX9_next ∈ BG := mB (t4 (i := 145) (by decide +kernel)) (by decide +kernel)
theorem mw_2_160 : Cond.code yX8_run cX8_run 5 (some .int) ∈ BG := mB (t2 (i := 160) rfl) (by decide +kernel)
theorem mw_2_157 : Cond.methodLink RL 67 yX8_run ∈ BG := mB (t2 (i := 157) (by decide +kernel)) (by decide +kernel)
theorem mw_2_158 : Cond.instanceMethod yX8_run ∈ BG := mB (t2 (i := 158) (by decide +kernel)) (by decide +kernel)
theorem mw_2_159 : Cond.selects RX8 yX8_run yX8_run ∈ BG := mB (t2 (i := 159) (by decide +kernel)) (by decide +kernel)
theorem mw_4_150 : Cond.code yX9_run cX9_run 4 (some .int) ∈ BG := mB (t4 (i := 150) rfl) (by decide +kernel)
theorem mw_4_147 : Cond.methodLink RL 70 yX9_run ∈ BG := mB (t4 (i := 147) (by decide +kernel)) (by decide +kernel)
theorem mw_4_148 : Cond.instanceMethod yX9_run ∈ BG := mB (t4 (i := 148) (by decide +kernel)) (by decide +kernel)
theorem mw_4_149 : Cond.selects RX9 yX9_run yX9_run ∈ BG := mB (t4 (i := 149) (by decide +kernel)) (by decide +kernel)
theorem mw_2_196 : Cond.code yX8_nearest cX8_nearest 3 (some .int) ∈ BG := mB (t2 (i := 196) rfl) (by decide +kernel)
theorem mw_2_193 : Cond.methodLink RL 71 yX8_nearest ∈ BG := mB (t2 (i := 193) (by decide +kernel)) (by decide +kernel)
theorem mw_2_194 : Cond.instanceMethod yX8_nearest ∈ BG := mB (t2 (i := 194) (by decide +kernel)) (by decide +kernel)
theorem mw_2_195 : Cond.selects RX8 yX8_nearest yX8_nearest ∈ BG := mB (t2 (i := 195) (by decide +kernel)) (by decide +kernel)
theorem mw_4_166 : Cond.code yX9_nearest cX9_nearest 3 (some .int) ∈ BG := mB (t4 (i := 166) rfl) (by decide +kernel)
theorem mw_4_163 : Cond.methodLink RL 74 yX9_nearest ∈ BG := mB (t4 (i := 163) (by decide +kernel)) (by decide +kernel)
theorem mw_4_164 : Cond.instanceMethod yX9_nearest ∈ BG := mB (t4 (i := 164) (by decide +kernel)) (by decide +kernel)
theorem mw_4_165 : Cond.selects RX9 yX9_nearest yX9_nearest ∈ BG := mB (t4 (i := 165) (by decide +kernel)) (by decide +kernel)
theorem mw_2_205 : Cond.code yX8_doubt cX8_doubt 2 (some .int) ∈ BG := mB (t2 (i := 205) rfl) (by decide +kernel)
theorem mw_2_202 : Cond.methodLink RL 75 yX8_doubt ∈ BG := mB (t2 (i := 202) (by decide +kernel)) (by decide +kernel)
theorem mw_2_203 : Cond.instanceMethod yX8_doubt ∈ BG := mB (t2 (i := 203) (by decide +kernel)) (by decide +kernel)
theorem mw_2_204 : Cond.selects RX8 yX8_doubt yX8_doubt ∈ BG := mB (t2 (i := 204) (by decide +kernel)) (by decide +kernel)
theorem mw_4_178 : Cond.code yX9_doubt cX9_doubt 2 (some .int) ∈ BG := mB (t4 (i := 178) rfl) (by decide +kernel)
theorem mw_4_175 : Cond.methodLink RL 78 yX9_doubt ∈ BG := mB (t4 (i := 175) (by decide +kernel)) (by decide +kernel)
theorem mw_4_176 : Cond.instanceMethod yX9_doubt ∈ BG := mB (t4 (i := 176) (by decide +kernel)) (by decide +kernel)
theorem mw_4_177 : Cond.selects RX9 yX9_doubt yX9_doubt ∈ BG := mB (t4 (i := 177) (by decide +kernel)) (by decide +kernel)
theorem mw_2_226 : Cond.code yX8_settle cX8_settle 3 (some .int) ∈ BG := mB (t2 (i := 226) rfl) (by decide +kernel)
theorem mw_2_223 : Cond.methodLink RL 79 yX8_settle ∈ BG := mB (t2 (i := 223) (by decide +kernel)) (by decide +kernel)
theorem mw_2_224 : Cond.instanceMethod yX8_settle ∈ BG := mB (t2 (i := 224) (by decide +kernel)) (by decide +kernel)
theorem mw_2_225 : Cond.selects RX8 yX8_settle yX8_settle ∈ BG := mB (t2 (i := 225) (by decide +kernel)) (by decide +kernel)
theorem mw_4_189 : Cond.code yX9_settle cX9_settle 7 (some .int) ∈ BG := mB (t4 (i := 189) rfl) (by decide +kernel)
theorem mw_4_186 : Cond.methodLink RL 82 yX9_settle ∈ BG := mB (t4 (i := 186) (by decide +kernel)) (by decide +kernel)
theorem mw_4_187 : Cond.instanceMethod yX9_settle ∈ BG := mB (t4 (i := 187) (by decide +kernel)) (by decide +kernel)
theorem mw_4_188 : Cond.selects RX9 yX9_settle yX9_settle ∈ BG := mB (t4 (i := 188) (by decide +kernel)) (by decide +kernel)
theorem mw_2_237 : Cond.code yX8_shift cX8_shift 3 (some .int) ∈ BG := mB (t2 (i := 237) rfl) (by decide +kernel)
theorem mw_2_234 : Cond.methodLink RL 83 yX8_shift ∈ BG := mB (t2 (i := 234) (by decide +kernel)) (by decide +kernel)
theorem mw_2_235 : Cond.instanceMethod yX8_shift ∈ BG := mB (t2 (i := 235) (by decide +kernel)) (by decide +kernel)
theorem mw_2_236 : Cond.selects RX8 yX8_shift yX8_shift ∈ BG := mB (t2 (i := 236) (by decide +kernel)) (by decide +kernel)
theorem mw_4_193 : Cond.code yX9_shift cX9_shift 7 (some .int) ∈ BG := mB (t4 (i := 193) rfl) (by decide +kernel)
theorem mw_4_190 : Cond.methodLink RL 86 yX9_shift ∈ BG := mB (t4 (i := 190) (by decide +kernel)) (by decide +kernel)
theorem mw_4_191 : Cond.instanceMethod yX9_shift ∈ BG := mB (t4 (i := 191) (by decide +kernel)) (by decide +kernel)
theorem mw_4_192 : Cond.selects RX9 yX9_shift yX9_shift ∈ BG := mB (t4 (i := 192) (by decide +kernel)) (by decide +kernel)
theorem mw_3_5 : Cond.code yX8_column cX8_column 3 (some .int) ∈ BG := mB (t3 (i := 5) rfl) (by decide +kernel)
theorem mw_3_2 : Cond.methodLink RL 87 yX8_column ∈ BG := mB (t3 (i := 2) (by decide +kernel)) (by decide +kernel)
theorem mw_3_3 : Cond.instanceMethod yX8_column ∈ BG := mB (t3 (i := 3) (by decide +kernel)) (by decide +kernel)
theorem mw_3_4 : Cond.selects RX8 yX8_column yX8_column ∈ BG := mB (t3 (i := 4) (by decide +kernel)) (by decide +kernel)
theorem mw_4_197 : Cond.code yX9_column cX9_column 2 (some .int) ∈ BG := mB (t4 (i := 197) rfl) (by decide +kernel)
theorem mw_4_194 : Cond.methodLink RL 90 yX9_column ∈ BG := mB (t4 (i := 194) (by decide +kernel)) (by decide +kernel)
theorem mw_4_195 : Cond.instanceMethod yX9_column ∈ BG := mB (t4 (i := 195) (by decide +kernel)) (by decide +kernel)
theorem mw_4_196 : Cond.selects RX9 yX9_column yX9_column ∈ BG := mB (t4 (i := 196) (by decide +kernel)) (by decide +kernel)
theorem mw_3_43 : Cond.code yX8_packed cX8_packed 3 (some .int) ∈ BG := mB (t3 (i := 43) rfl) (by decide +kernel)
theorem mw_3_40 : Cond.methodLink RL 91 yX8_packed ∈ BG := mB (t3 (i := 40) (by decide +kernel)) (by decide +kernel)
theorem mw_3_41 : Cond.instanceMethod yX8_packed ∈ BG := mB (t3 (i := 41) (by decide +kernel)) (by decide +kernel)
theorem mw_3_42 : Cond.selects RX8 yX8_packed yX8_packed ∈ BG := mB (t3 (i := 42) (by decide +kernel)) (by decide +kernel)
theorem mw_4_225 : Cond.code yX9_packed cX9_packed 2 (some .int) ∈ BG := mB (t4 (i := 225) rfl) (by decide +kernel)
theorem mw_4_222 : Cond.methodLink RL 94 yX9_packed ∈ BG := mB (t4 (i := 222) (by decide +kernel)) (by decide +kernel)
theorem mw_4_223 : Cond.instanceMethod yX9_packed ∈ BG := mB (t4 (i := 223) (by decide +kernel)) (by decide +kernel)
theorem mw_4_224 : Cond.selects RX9 yX9_packed yX9_packed ∈ BG := mB (t4 (i := 224) (by decide +kernel)) (by decide +kernel)
theorem mw_3_67 : Cond.code yX8_slot cX8_slot 2 (some .int) ∈ BG := mB (t3 (i := 67) rfl) (by decide +kernel)
theorem mw_3_64 : Cond.methodLink RL 95 yX8_slot ∈ BG := mB (t3 (i := 64) (by decide +kernel)) (by decide +kernel)
theorem mw_3_65 : Cond.instanceMethod yX8_slot ∈ BG := mB (t3 (i := 65) (by decide +kernel)) (by decide +kernel)
theorem mw_3_66 : Cond.selects RX8 yX8_slot yX8_slot ∈ BG := mB (t3 (i := 66) (by decide +kernel)) (by decide +kernel)
theorem mw_4_237 : Cond.code yX9_slot cX9_slot 2 (some .int) ∈ BG := mB (t4 (i := 237) rfl) (by decide +kernel)
theorem mw_4_234 : Cond.methodLink RL 98 yX9_slot ∈ BG := mB (t4 (i := 234) (by decide +kernel)) (by decide +kernel)
theorem mw_4_235 : Cond.instanceMethod yX9_slot ∈ BG := mB (t4 (i := 235) (by decide +kernel)) (by decide +kernel)
theorem mw_4_236 : Cond.selects RX9 yX9_slot yX9_slot ∈ BG := mB (t4 (i := 236) (by decide +kernel)) (by decide +kernel)
theorem mw_3_75 : Cond.code yX8_one cX8_one 4 (some .int) ∈ BG := mB (t3 (i := 75) rfl) (by decide +kernel)
theorem mw_3_72 : Cond.methodLink RL 99 yX8_one ∈ BG := mB (t3 (i := 72) (by decide +kernel)) (by decide +kernel)
theorem mw_3_73 : Cond.instanceMethod yX8_one ∈ BG := mB (t3 (i := 73) (by decide +kernel)) (by decide +kernel)
theorem mw_3_74 : Cond.selects RX8 yX8_one yX8_one ∈ BG := mB (t3 (i := 74) (by decide +kernel)) (by decide +kernel)
theorem mw_5_2 : Cond.code yX9_one cX9_one 8 (some .int) ∈ BG := mB (t5 (i := 2) rfl) (by decide +kernel)
theorem mw_4_239 : Cond.methodLink RL 102 yX9_one ∈ BG := mB (t4 (i := 239) (by decide +kernel)) (by decide +kernel)
theorem mw_5_0 : Cond.instanceMethod yX9_one ∈ BG := mB (t5 (i := 0) (by decide +kernel)) (by decide +kernel)
theorem mw_5_1 : Cond.selects RX9 yX9_one yX9_one ∈ BG := mB (t5 (i := 1) (by decide +kernel)) (by decide +kernel)
theorem mw_3_84 : Cond.code yX8_call cX8_call 3 (some .int) ∈ BG := mB (t3 (i := 84) rfl) (by decide +kernel)
theorem mw_3_81 : Cond.methodLink RL 103 yX8_call ∈ BG := mB (t3 (i := 81) (by decide +kernel)) (by decide +kernel)
theorem mw_3_82 : Cond.instanceMethod yX8_call ∈ BG := mB (t3 (i := 82) (by decide +kernel)) (by decide +kernel)
theorem mw_3_83 : Cond.selects RX8 yX8_call yX8_call ∈ BG := mB (t3 (i := 83) (by decide +kernel)) (by decide +kernel)
theorem mw_5_6 : Cond.code yX9_call cX9_call 3 (some .int) ∈ BG := mB (t5 (i := 6) rfl) (by decide +kernel)
theorem mw_5_3 : Cond.methodLink RL 106 yX9_call ∈ BG := mB (t5 (i := 3) (by decide +kernel)) (by decide +kernel)
theorem mw_5_4 : Cond.instanceMethod yX9_call ∈ BG := mB (t5 (i := 4) (by decide +kernel)) (by decide +kernel)
theorem mw_5_5 : Cond.selects RX9 yX9_call yX9_call ∈ BG := mB (t5 (i := 5) (by decide +kernel)) (by decide +kernel)
theorem mw_3_100 : Cond.code yX8_forget cX8_forget 1 (some .int) ∈ BG := mB (t3 (i := 100) rfl) (by decide +kernel)
theorem mw_3_97 : Cond.methodLink RL 107 yX8_forget ∈ BG := mB (t3 (i := 97) (by decide +kernel)) (by decide +kernel)
theorem mw_3_98 : Cond.instanceMethod yX8_forget ∈ BG := mB (t3 (i := 98) (by decide +kernel)) (by decide +kernel)
theorem mw_3_99 : Cond.selects RX8 yX8_forget yX8_forget ∈ BG := mB (t3 (i := 99) (by decide +kernel)) (by decide +kernel)
theorem mw_5_13 : Cond.code yX9_forget cX9_forget 2 (some .int) ∈ BG := mB (t5 (i := 13) rfl) (by decide +kernel)
theorem mw_5_10 : Cond.methodLink RL 110 yX9_forget ∈ BG := mB (t5 (i := 10) (by decide +kernel)) (by decide +kernel)
theorem mw_5_11 : Cond.instanceMethod yX9_forget ∈ BG := mB (t5 (i := 11) (by decide +kernel)) (by decide +kernel)
theorem mw_5_12 : Cond.selects RX9 yX9_forget yX9_forget ∈ BG := mB (t5 (i := 12) (by decide +kernel)) (by decide +kernel)
theorem mw_3_108 : Cond.code yX8_size cX8_size 3 (some .int) ∈ BG := mB (t3 (i := 108) rfl) (by decide +kernel)
theorem mw_3_105 : Cond.methodLink RL 111 yX8_size ∈ BG := mB (t3 (i := 105) (by decide +kernel)) (by decide +kernel)
theorem mw_3_106 : Cond.instanceMethod yX8_size ∈ BG := mB (t3 (i := 106) (by decide +kernel)) (by decide +kernel)
theorem mw_3_107 : Cond.selects RX8 yX8_size yX8_size ∈ BG := mB (t3 (i := 107) (by decide +kernel)) (by decide +kernel)
theorem mw_5_17 : Cond.code yX9_size cX9_size 4 (some .int) ∈ BG := mB (t5 (i := 17) rfl) (by decide +kernel)
theorem mw_5_14 : Cond.methodLink RL 114 yX9_size ∈ BG := mB (t5 (i := 14) (by decide +kernel)) (by decide +kernel)
theorem mw_5_15 : Cond.instanceMethod yX9_size ∈ BG := mB (t5 (i := 15) (by decide +kernel)) (by decide +kernel)
theorem mw_5_16 : Cond.selects RX9 yX9_size yX9_size ∈ BG := mB (t5 (i := 16) (by decide +kernel)) (by decide +kernel)
theorem mw_3_121 : Cond.code yX8_hits cX8_hits 3 (some .int) ∈ BG := mB (t3 (i := 121) rfl) (by decide +kernel)
theorem mw_3_118 : Cond.methodLink RL 115 yX8_hits ∈ BG := mB (t3 (i := 118) (by decide +kernel)) (by decide +kernel)
theorem mw_3_119 : Cond.instanceMethod yX8_hits ∈ BG := mB (t3 (i := 119) (by decide +kernel)) (by decide +kernel)
theorem mw_3_120 : Cond.selects RX8 yX8_hits yX8_hits ∈ BG := mB (t3 (i := 120) (by decide +kernel)) (by decide +kernel)
theorem mw_5_22 : Cond.code yX9_hits cX9_hits 5 (some .int) ∈ BG := mB (t5 (i := 22) rfl) (by decide +kernel)
theorem mw_5_19 : Cond.methodLink RL 118 yX9_hits ∈ BG := mB (t5 (i := 19) (by decide +kernel)) (by decide +kernel)
theorem mw_5_20 : Cond.instanceMethod yX9_hits ∈ BG := mB (t5 (i := 20) (by decide +kernel)) (by decide +kernel)
theorem mw_5_21 : Cond.selects RX9 yX9_hits yX9_hits ∈ BG := mB (t5 (i := 21) (by decide +kernel)) (by decide +kernel)
theorem mw_3_160 : Cond.code yX8_need cX8_need 4 (some .int) ∈ BG := mB (t3 (i := 160) rfl) (by decide +kernel)
theorem mw_3_157 : Cond.methodLink RL 119 yX8_need ∈ BG := mB (t3 (i := 157) (by decide +kernel)) (by decide +kernel)
theorem mw_3_158 : Cond.instanceMethod yX8_need ∈ BG := mB (t3 (i := 158) (by decide +kernel)) (by decide +kernel)
theorem mw_3_159 : Cond.selects RX8 yX8_need yX8_need ∈ BG := mB (t3 (i := 159) (by decide +kernel)) (by decide +kernel)
theorem mw_5_52 : Cond.code yX9_need cX9_need 4 (some .int) ∈ BG := mB (t5 (i := 52) rfl) (by decide +kernel)
theorem mw_5_49 : Cond.methodLink RL 122 yX9_need ∈ BG := mB (t5 (i := 49) (by decide +kernel)) (by decide +kernel)
theorem mw_5_50 : Cond.instanceMethod yX9_need ∈ BG := mB (t5 (i := 50) (by decide +kernel)) (by decide +kernel)
theorem mw_5_51 : Cond.selects RX9 yX9_need yX9_need ∈ BG := mB (t5 (i := 51) (by decide +kernel)) (by decide +kernel)
theorem mw_3_164 : Cond.code yX8_told cX8_told 2 (some .int) ∈ BG := mB (t3 (i := 164) rfl) (by decide +kernel)
theorem mw_3_161 : Cond.methodLink RL 123 yX8_told ∈ BG := mB (t3 (i := 161) (by decide +kernel)) (by decide +kernel)
theorem mw_3_162 : Cond.instanceMethod yX8_told ∈ BG := mB (t3 (i := 162) (by decide +kernel)) (by decide +kernel)
theorem mw_3_163 : Cond.selects RX8 yX8_told yX8_told ∈ BG := mB (t3 (i := 163) (by decide +kernel)) (by decide +kernel)
theorem mw_5_57 : Cond.code yX9_told cX9_told 2 (some .int) ∈ BG := mB (t5 (i := 57) rfl) (by decide +kernel)
theorem mw_5_54 : Cond.methodLink RL 126 yX9_told ∈ BG := mB (t5 (i := 54) (by decide +kernel)) (by decide +kernel)
theorem mw_5_55 : Cond.instanceMethod yX9_told ∈ BG := mB (t5 (i := 55) (by decide +kernel)) (by decide +kernel)
theorem mw_5_56 : Cond.selects RX9 yX9_told yX9_told ∈ BG := mB (t5 (i := 56) (by decide +kernel)) (by decide +kernel)
theorem dL_law_156 : decode cL_law 156 = .ok (.aload_n 1, 1) := by decide +kernel
theorem dL_law_157 : decode cL_law 157 = .ok (.aload_n 0, 1) := by decide +kernel
theorem dL_law_158 : decode cL_law 158 = .ok (.iload_n 3, 1) := by decide +kernel
theorem dL_law_159 : decode cL_law 159 = .ok (.iconst 1, 1) := by decide +kernel
theorem dL_law_160 : decode cL_law 160 = .ok (.iadd, 1) := by decide +kernel
theorem dL_law_161 : decode cL_law 161 = .ok (.iaload, 1) := by decide +kernel
theorem dL_law_162 : decode cL_law 162 = .ok (.aload_n 0, 1) := by decide +kernel
theorem dL_law_163 : decode cL_law 163 = .ok (.iload_n 3, 1) := by decide +kernel
theorem dL_law_164 : decode cL_law 164 = .ok (.iconst 2, 1) := by decide +kernel
theorem dL_law_165 : decode cL_law 165 = .ok (.iadd, 1) := by decide +kernel
theorem dL_law_166 : decode cL_law 166 = .ok (.iaload, 1) := by decide +kernel
theorem dL_law_167 : decode cL_law 167 = .ok (.aload_n 0, 1) := by decide +kernel
theorem dL_law_168 : decode cL_law 168 = .ok (.iload_n 3, 1) := by decide +kernel
theorem dL_law_169 : decode cL_law 169 = .ok (.iconst 3, 1) := by decide +kernel
theorem dL_law_170 : decode cL_law 170 = .ok (.iadd, 1) := by decide +kernel
theorem dL_law_171 : decode cL_law 171 = .ok (.iaload, 1) := by decide +kernel
theorem dL_law_172 : decode cL_law 172 = .ok (.aload_n 0, 1) := by decide +kernel
theorem dL_law_173 : decode cL_law 173 = .ok (.iload_n 3, 1) := by decide +kernel
theorem dL_law_174 : decode cL_law 174 = .ok (.iconst 4, 1) := by decide +kernel
theorem dL_law_175 : decode cL_law 175 = .ok (.iadd, 1) := by decide +kernel
theorem dL_law_176 : decode cL_law 176 = .ok (.iaload, 1) := by decide +kernel
theorem dL_law_177 : decode cL_law 177 = .ok (.invokevirtual 13, 3) := by decide +kernel
theorem dL_law_180 : decode cL_law 180 = .ok (.aload_n 2, 1) := by decide +kernel
theorem dL_law_181 : decode cL_law 181 = .ok (.aload_n 0, 1) := by decide +kernel
theorem dL_law_182 : decode cL_law 182 = .ok (.iload_n 3, 1) := by decide +kernel
theorem dL_law_183 : decode cL_law 183 = .ok (.iconst 1, 1) := by decide +kernel
theorem dL_law_184 : decode cL_law 184 = .ok (.iadd, 1) := by decide +kernel
theorem dL_law_185 : decode cL_law 185 = .ok (.iaload, 1) := by decide +kernel
theorem dL_law_186 : decode cL_law 186 = .ok (.aload_n 0, 1) := by decide +kernel
theorem dL_law_187 : decode cL_law 187 = .ok (.iload_n 3, 1) := by decide +kernel
theorem dL_law_188 : decode cL_law 188 = .ok (.iconst 2, 1) := by decide +kernel
theorem dL_law_189 : decode cL_law 189 = .ok (.iadd, 1) := by decide +kernel
theorem dL_law_190 : decode cL_law 190 = .ok (.iaload, 1) := by decide +kernel
theorem dL_law_191 : decode cL_law 191 = .ok (.aload_n 0, 1) := by decide +kernel
theorem dL_law_192 : decode cL_law 192 = .ok (.iload_n 3, 1) := by decide +kernel
theorem dL_law_193 : decode cL_law 193 = .ok (.iconst 3, 1) := by decide +kernel
theorem dL_law_194 : decode cL_law 194 = .ok (.iadd, 1) := by decide +kernel
theorem dL_law_195 : decode cL_law 195 = .ok (.iaload, 1) := by decide +kernel
theorem dL_law_196 : decode cL_law 196 = .ok (.aload_n 0, 1) := by decide +kernel
theorem dL_law_197 : decode cL_law 197 = .ok (.iload_n 3, 1) := by decide +kernel
theorem dL_law_198 : decode cL_law 198 = .ok (.iconst 4, 1) := by decide +kernel
theorem dL_law_199 : decode cL_law 199 = .ok (.iadd, 1) := by decide +kernel
theorem dL_law_200 : decode cL_law 200 = .ok (.iaload, 1) := by decide +kernel
theorem dL_law_201 : decode cL_law 201 = .ok (.invokevirtual 17, 3) := by decide +kernel
theorem dL_law_204 : decode cL_law 204 = .ok (.if_icmp .eq 779, 3) := by decide +kernel
theorem dL_law_209 : decode cL_law 209 = .ok (.aload_n 1, 1) := by decide +kernel
theorem dL_law_210 : decode cL_law 210 = .ok (.aload_n 0, 1) := by decide +kernel
theorem dL_law_211 : decode cL_law 211 = .ok (.iload_n 3, 1) := by decide +kernel
theorem dL_law_212 : decode cL_law 212 = .ok (.iconst 1, 1) := by decide +kernel
theorem dL_law_213 : decode cL_law 213 = .ok (.iadd, 1) := by decide +kernel
theorem dL_law_214 : decode cL_law 214 = .ok (.iaload, 1) := by decide +kernel
theorem dL_law_215 : decode cL_law 215 = .ok (.aload_n 0, 1) := by decide +kernel
theorem dL_law_216 : decode cL_law 216 = .ok (.iload_n 3, 1) := by decide +kernel
theorem dL_law_217 : decode cL_law 217 = .ok (.iconst 2, 1) := by decide +kernel
theorem dL_law_218 : decode cL_law 218 = .ok (.iadd, 1) := by decide +kernel
theorem dL_law_219 : decode cL_law 219 = .ok (.iaload, 1) := by decide +kernel
theorem dL_law_220 : decode cL_law 220 = .ok (.ifCond .eq 7, 3) := by decide +kernel
theorem dL_law_227 : decode cL_law 227 = .ok (.iconst 0, 1) := by decide +kernel
theorem dL_law_228 : decode cL_law 228 = .ok (.invokevirtual 18, 3) := by decide +kernel
theorem dL_law_231 : decode cL_law 231 = .ok (.aload_n 2, 1) := by decide +kernel
theorem dL_law_232 : decode cL_law 232 = .ok (.aload_n 0, 1) := by decide +kernel
theorem dL_law_233 : decode cL_law 233 = .ok (.iload_n 3, 1) := by decide +kernel
theorem dL_law_234 : decode cL_law 234 = .ok (.iconst 1, 1) := by decide +kernel
theorem dL_law_235 : decode cL_law 235 = .ok (.iadd, 1) := by decide +kernel
theorem dL_law_236 : decode cL_law 236 = .ok (.iaload, 1) := by decide +kernel
theorem dL_law_237 : decode cL_law 237 = .ok (.aload_n 0, 1) := by decide +kernel
theorem dL_law_238 : decode cL_law 238 = .ok (.iload_n 3, 1) := by decide +kernel
theorem dL_law_239 : decode cL_law 239 = .ok (.iconst 2, 1) := by decide +kernel
theorem dL_law_240 : decode cL_law 240 = .ok (.iadd, 1) := by decide +kernel
theorem dL_law_241 : decode cL_law 241 = .ok (.iaload, 1) := by decide +kernel
theorem dL_law_242 : decode cL_law 242 = .ok (.ifCond .eq 7, 3) := by decide +kernel
theorem dL_law_249 : decode cL_law 249 = .ok (.iconst 0, 1) := by decide +kernel
theorem dL_law_250 : decode cL_law 250 = .ok (.invokevirtual 22, 3) := by decide +kernel
theorem dL_law_253 : decode cL_law 253 = .ok (.if_icmp .eq 730, 3) := by decide +kernel
theorem dL_law_223 : decode cL_law 223 = .ok (.iconst 1, 1) := by decide +kernel
theorem dL_law_224 : decode cL_law 224 = .ok (.goto 4, 3) := by decide +kernel
theorem dL_law_245 : decode cL_law 245 = .ok (.iconst 1, 1) := by decide +kernel
theorem dL_law_246 : decode cL_law 246 = .ok (.goto 4, 3) := by decide +kernel
theorem dL_law_258 : decode cL_law 258 = .ok (.aload_n 1, 1) := by decide +kernel
theorem dL_law_259 : decode cL_law 259 = .ok (.aload_n 0, 1) := by decide +kernel
theorem dL_law_260 : decode cL_law 260 = .ok (.iload_n 3, 1) := by decide +kernel
theorem dL_law_261 : decode cL_law 261 = .ok (.iconst 1, 1) := by decide +kernel
theorem dL_law_262 : decode cL_law 262 = .ok (.iadd, 1) := by decide +kernel
theorem dL_law_263 : decode cL_law 263 = .ok (.iaload, 1) := by decide +kernel
theorem dL_law_264 : decode cL_law 264 = .ok (.aload_n 0, 1) := by decide +kernel
theorem dL_law_265 : decode cL_law 265 = .ok (.iload_n 3, 1) := by decide +kernel
theorem dL_law_266 : decode cL_law 266 = .ok (.iconst 2, 1) := by decide +kernel
theorem dL_law_267 : decode cL_law 267 = .ok (.iadd, 1) := by decide +kernel
theorem dL_law_268 : decode cL_law 268 = .ok (.iaload, 1) := by decide +kernel
theorem dL_law_269 : decode cL_law 269 = .ok (.invokevirtual 23, 3) := by decide +kernel
theorem dL_law_272 : decode cL_law 272 = .ok (.aload_n 2, 1) := by decide +kernel
theorem dL_law_273 : decode cL_law 273 = .ok (.aload_n 0, 1) := by decide +kernel
theorem dL_law_274 : decode cL_law 274 = .ok (.iload_n 3, 1) := by decide +kernel
theorem dL_law_275 : decode cL_law 275 = .ok (.iconst 1, 1) := by decide +kernel
theorem dL_law_276 : decode cL_law 276 = .ok (.iadd, 1) := by decide +kernel
theorem dL_law_277 : decode cL_law 277 = .ok (.iaload, 1) := by decide +kernel
theorem dL_law_278 : decode cL_law 278 = .ok (.aload_n 0, 1) := by decide +kernel
theorem dL_law_279 : decode cL_law 279 = .ok (.iload_n 3, 1) := by decide +kernel
theorem dL_law_280 : decode cL_law 280 = .ok (.iconst 2, 1) := by decide +kernel
theorem dL_law_281 : decode cL_law 281 = .ok (.iadd, 1) := by decide +kernel
theorem dL_law_282 : decode cL_law 282 = .ok (.iaload, 1) := by decide +kernel
theorem dL_law_283 : decode cL_law 283 = .ok (.invokevirtual 27, 3) := by decide +kernel
theorem dL_law_286 : decode cL_law 286 = .ok (.if_icmp .eq 697, 3) := by decide +kernel
theorem dL_law_291 : decode cL_law 291 = .ok (.aload_n 1, 1) := by decide +kernel
theorem dL_law_292 : decode cL_law 292 = .ok (.aload_n 0, 1) := by decide +kernel
theorem dL_law_293 : decode cL_law 293 = .ok (.iload_n 3, 1) := by decide +kernel
theorem dL_law_294 : decode cL_law 294 = .ok (.iconst 1, 1) := by decide +kernel
theorem dL_law_295 : decode cL_law 295 = .ok (.iadd, 1) := by decide +kernel
theorem dL_law_296 : decode cL_law 296 = .ok (.iaload, 1) := by decide +kernel
theorem dL_law_297 : decode cL_law 297 = .ok (.aload_n 0, 1) := by decide +kernel
theorem dL_law_298 : decode cL_law 298 = .ok (.iload_n 3, 1) := by decide +kernel
theorem dL_law_299 : decode cL_law 299 = .ok (.iconst 2, 1) := by decide +kernel
theorem dL_law_300 : decode cL_law 300 = .ok (.iadd, 1) := by decide +kernel
theorem dL_law_301 : decode cL_law 301 = .ok (.iaload, 1) := by decide +kernel
theorem dL_law_302 : decode cL_law 302 = .ok (.invokevirtual 28, 3) := by decide +kernel
theorem dL_law_305 : decode cL_law 305 = .ok (.aload_n 2, 1) := by decide +kernel
theorem dL_law_306 : decode cL_law 306 = .ok (.aload_n 0, 1) := by decide +kernel
theorem dL_law_307 : decode cL_law 307 = .ok (.iload_n 3, 1) := by decide +kernel
theorem dL_law_308 : decode cL_law 308 = .ok (.iconst 1, 1) := by decide +kernel
theorem dL_law_309 : decode cL_law 309 = .ok (.iadd, 1) := by decide +kernel
theorem dL_law_310 : decode cL_law 310 = .ok (.iaload, 1) := by decide +kernel
theorem dL_law_311 : decode cL_law 311 = .ok (.aload_n 0, 1) := by decide +kernel
theorem dL_law_312 : decode cL_law 312 = .ok (.iload_n 3, 1) := by decide +kernel
theorem dL_law_313 : decode cL_law 313 = .ok (.iconst 2, 1) := by decide +kernel
theorem dL_law_314 : decode cL_law 314 = .ok (.iadd, 1) := by decide +kernel
theorem dL_law_315 : decode cL_law 315 = .ok (.iaload, 1) := by decide +kernel
theorem dL_law_316 : decode cL_law 316 = .ok (.invokevirtual 31, 3) := by decide +kernel
theorem dL_law_319 : decode cL_law 319 = .ok (.if_icmp .eq 664, 3) := by decide +kernel
theorem dL_law_324 : decode cL_law 324 = .ok (.aload_n 1, 1) := by decide +kernel
theorem dL_law_325 : decode cL_law 325 = .ok (.aload_n 0, 1) := by decide +kernel
theorem dL_law_326 : decode cL_law 326 = .ok (.iload_n 3, 1) := by decide +kernel
theorem dL_law_327 : decode cL_law 327 = .ok (.iconst 1, 1) := by decide +kernel
theorem dL_law_328 : decode cL_law 328 = .ok (.iadd, 1) := by decide +kernel
theorem dL_law_329 : decode cL_law 329 = .ok (.iaload, 1) := by decide +kernel
theorem dL_law_330 : decode cL_law 330 = .ok (.invokevirtual 32, 3) := by decide +kernel
theorem dL_law_333 : decode cL_law 333 = .ok (.aload_n 2, 1) := by decide +kernel
theorem dL_law_334 : decode cL_law 334 = .ok (.aload_n 0, 1) := by decide +kernel
theorem dL_law_335 : decode cL_law 335 = .ok (.iload_n 3, 1) := by decide +kernel
theorem dL_law_336 : decode cL_law 336 = .ok (.iconst 1, 1) := by decide +kernel
theorem dL_law_337 : decode cL_law 337 = .ok (.iadd, 1) := by decide +kernel
theorem dL_law_338 : decode cL_law 338 = .ok (.iaload, 1) := by decide +kernel
theorem dL_law_339 : decode cL_law 339 = .ok (.invokevirtual 36, 3) := by decide +kernel
theorem dL_law_342 : decode cL_law 342 = .ok (.if_icmp .eq 641, 3) := by decide +kernel
theorem dL_law_347 : decode cL_law 347 = .ok (.aload_n 1, 1) := by decide +kernel
theorem dL_law_348 : decode cL_law 348 = .ok (.aload_n 0, 1) := by decide +kernel
theorem dL_law_349 : decode cL_law 349 = .ok (.iload_n 3, 1) := by decide +kernel
theorem dL_law_350 : decode cL_law 350 = .ok (.iconst 1, 1) := by decide +kernel
theorem dL_law_351 : decode cL_law 351 = .ok (.iadd, 1) := by decide +kernel
theorem dL_law_352 : decode cL_law 352 = .ok (.iaload, 1) := by decide +kernel
theorem dL_law_353 : decode cL_law 353 = .ok (.invokevirtual 37, 3) := by decide +kernel
theorem dL_law_356 : decode cL_law 356 = .ok (.aload_n 2, 1) := by decide +kernel
theorem dL_law_357 : decode cL_law 357 = .ok (.aload_n 0, 1) := by decide +kernel
theorem dL_law_358 : decode cL_law 358 = .ok (.iload_n 3, 1) := by decide +kernel
theorem dL_law_359 : decode cL_law 359 = .ok (.iconst 1, 1) := by decide +kernel
theorem dL_law_360 : decode cL_law 360 = .ok (.iadd, 1) := by decide +kernel
theorem dL_law_361 : decode cL_law 361 = .ok (.iaload, 1) := by decide +kernel
theorem dL_law_362 : decode cL_law 362 = .ok (.invokevirtual 40, 3) := by decide +kernel
theorem dL_law_365 : decode cL_law 365 = .ok (.if_icmp .eq 618, 3) := by decide +kernel
theorem dL_law_370 : decode cL_law 370 = .ok (.aload_n 1, 1) := by decide +kernel
theorem dL_law_371 : decode cL_law 371 = .ok (.invokevirtual 41, 3) := by decide +kernel
theorem dL_law_374 : decode cL_law 374 = .ok (.aload_n 2, 1) := by decide +kernel
theorem dL_law_375 : decode cL_law 375 = .ok (.invokevirtual 45, 3) := by decide +kernel
theorem dL_law_378 : decode cL_law 378 = .ok (.if_icmp .eq 605, 3) := by decide +kernel
theorem dL_law_383 : decode cL_law 383 = .ok (.aload_n 1, 1) := by decide +kernel
theorem dL_law_384 : decode cL_law 384 = .ok (.invokevirtual 46, 3) := by decide +kernel
theorem dL_law_387 : decode cL_law 387 = .ok (.aload_n 2, 1) := by decide +kernel
theorem dL_law_388 : decode cL_law 388 = .ok (.invokevirtual 49, 3) := by decide +kernel
theorem dL_law_391 : decode cL_law 391 = .ok (.if_icmp .eq 592, 3) := by decide +kernel
theorem dL_law_396 : decode cL_law 396 = .ok (.aload_n 1, 1) := by decide +kernel
theorem dL_law_397 : decode cL_law 397 = .ok (.aload_n 0, 1) := by decide +kernel
theorem dL_law_398 : decode cL_law 398 = .ok (.iload_n 3, 1) := by decide +kernel
theorem dL_law_399 : decode cL_law 399 = .ok (.iconst 1, 1) := by decide +kernel
theorem dL_law_400 : decode cL_law 400 = .ok (.iadd, 1) := by decide +kernel
theorem dL_law_401 : decode cL_law 401 = .ok (.iaload, 1) := by decide +kernel
theorem dL_law_402 : decode cL_law 402 = .ok (.aload_n 0, 1) := by decide +kernel
theorem dL_law_403 : decode cL_law 403 = .ok (.iload_n 3, 1) := by decide +kernel
theorem dL_law_404 : decode cL_law 404 = .ok (.iconst 2, 1) := by decide +kernel
theorem dL_law_405 : decode cL_law 405 = .ok (.iadd, 1) := by decide +kernel
theorem dL_law_406 : decode cL_law 406 = .ok (.iaload, 1) := by decide +kernel
theorem dL_law_407 : decode cL_law 407 = .ok (.invokevirtual 50, 3) := by decide +kernel
theorem dL_law_410 : decode cL_law 410 = .ok (.aload_n 2, 1) := by decide +kernel
theorem dL_law_411 : decode cL_law 411 = .ok (.aload_n 0, 1) := by decide +kernel
theorem dL_law_412 : decode cL_law 412 = .ok (.iload_n 3, 1) := by decide +kernel
theorem dL_law_413 : decode cL_law 413 = .ok (.iconst 1, 1) := by decide +kernel
theorem dL_law_414 : decode cL_law 414 = .ok (.iadd, 1) := by decide +kernel
theorem dL_law_415 : decode cL_law 415 = .ok (.iaload, 1) := by decide +kernel
theorem dL_law_416 : decode cL_law 416 = .ok (.aload_n 0, 1) := by decide +kernel
theorem dL_law_417 : decode cL_law 417 = .ok (.iload_n 3, 1) := by decide +kernel
theorem dL_law_418 : decode cL_law 418 = .ok (.iconst 2, 1) := by decide +kernel
theorem dL_law_419 : decode cL_law 419 = .ok (.iadd, 1) := by decide +kernel
theorem dL_law_420 : decode cL_law 420 = .ok (.iaload, 1) := by decide +kernel
theorem dL_law_421 : decode cL_law 421 = .ok (.invokevirtual 53, 3) := by decide +kernel
theorem dL_law_424 : decode cL_law 424 = .ok (.if_icmp .eq 559, 3) := by decide +kernel
set_option maxHeartbeats 4000000 in
set_option maxRecDepth 100000 in
theorem lc_0 {p : Program} {e : Env} {s : State} {m : MethodId} {below : List Frame} {meth : Method} {c : Code} (l : Launch) {b : Nat} {xs : Nat → Int32} {dC : Nat → ClassId} {dI : Nat → Nat → Nat} {x0 : Nat} {xq_1 : Nat} {xq_20 : Nat} {xq_24 : Nat} {xq_32 : Nat} {xq_36 : Nat} {xq_48 : Nat} {xa_3 : Nat} {xa_5 : Nat} {xa_7 : Nat} {xa_9 : Nat} {xa_11 : Nat} {xq_13 : Nat} {xk_4 : ClassId} {xk_6 : ClassId} {xk_8 : ClassId} {xk_10 : ClassId} {xk_12 : ClassId} {xa_14 : Nat} {xa_16 : Nat} {xa_18 : Nat} {xk_17 : ClassId} {xk_19 : ClassId} {m0 : Nat} {ma_1 : Nat} {ma_3 : Nat} {ma_5 : Nat} {ma_7 : Nat} {ma_9 : Nat} {ma_11 : Nat} {ma_13 : Nat} {ma_15 : Nat} {ma_17 : Nat} {ma_19 : Nat} {ma_21 : Nat} {ma_23 : Nat} {ma_25 : Nat} {ma_27 : Nat} {ma_29 : Nat} {ma_31 : Nat} {ma_33 : Nat} {ma_35 : Nat} {ma_37 : Nat} {ma_39 : Nat} {ma_41 : Nat} {ma_43 : Nat} {ma_45 : Nat} {ma_47 : Nat} {ma_49 : Nat} {mk_12 : ClassId} {mk_14 : ClassId} {mk_4 : ClassId} {mk_10 : ClassId} {mk_2 : ClassId} {mk_6 : ClassId} {mk_8 : ClassId} {mk_18 : ClassId} {mk_20 : ClassId} (C0 : lw_At p s m meth c b 5 xs) {H : Heap} {locs : List Loc} (hK : va_K (dC, dI) vwCl [(xk_4, .int), (xk_6, .int), (xk_8, .int), (xk_10, .int), (xk_12, .int), (xk_17, .int), (xk_19, .int), (mk_12, .int), (mk_14, .int), (mk_4, .int), (mk_10, .int), (mk_2, .int), (mk_6, .int), (mk_8, .boolean), (mk_18, .int), (mk_20, .int)] s) (hP : va_P (dC, dI) vwCl [(x0, .inr (7, [.ref xq_1, .ref xq_20, .ref xq_24, .ref xq_32, .ref xq_36, .ref xq_48])), (xq_1, .inr (1, [.ref xa_3, .ref xa_5, .ref xa_7, .ref xa_9, .ref xa_11, .ref xq_13, .int 0, .int 0])), (xa_3, .inl (xk_4, 10, .inl (fun _ => 0))), (xa_5, .inl (xk_6, 10, .inl (fun _ => 0))), (xa_7, .inl (xk_8, 10, .inl (fun _ => 0))), (xa_9, .inl (xk_10, 100, .inl (fun _ => 0))), (xa_11, .inl (xk_12, 3, .inl (fun _ => 0))), (xq_13, .inr (4, [.ref xa_14, .ref xa_16, .ref xa_18, .int 0])), (xa_16, .inl (xk_17, 4, .inl (fun _ => 0))), (xa_18, .inl (xk_19, 4, .inl (fun _ => 0))), (m0, .inr (8, [.ref ma_1, .ref ma_3, .ref ma_5, .ref ma_7, .int 0, .ref ma_9, .ref ma_11, .ref ma_13, .ref ma_15, .ref ma_17, .ref ma_19, .int 0, .ref ma_21, .ref ma_23, .ref ma_25, .ref ma_27, .ref ma_29, .ref ma_31, .int 0, .int 0, .ref ma_33, .int 0, .int 0, .ref ma_35, .ref ma_37, .int 0, .ref ma_39, .ref ma_41, .int 0, .ref ma_43, .ref ma_45, .int 0, .ref ma_47, .ref ma_49, .int 0])), (ma_11, .inl (mk_12, 10, .inl (fun _ => 0))), (ma_13, .inl (mk_14, 10, .inl (fun _ => 0))), (ma_3, .inl (mk_4, 10, .inl (fun _ => 0))), (ma_9, .inl (mk_10, 100, .inl (fun _ => 0))), (ma_1, .inl (mk_2, 30, .inl (fun _ => 0))), (ma_5, .inl (mk_6, 10, .inl (fun _ => 0))), (ma_7, .inl (mk_8, 10, .inl (fun _ => 0))), (ma_17, .inl (mk_18, 4, .inl (fun _ => 0))), (ma_19, .inl (mk_20, 4, .inl (fun _ => 0)))] H) (hD : va_D (fun q : Nat => s.heap.size ≤ q) [(x0, .inr (7, [.ref xq_1, .ref xq_20, .ref xq_24, .ref xq_32, .ref xq_36, .ref xq_48])), (xq_1, .inr (1, [.ref xa_3, .ref xa_5, .ref xa_7, .ref xa_9, .ref xa_11, .ref xq_13, .int 0, .int 0])), (xa_3, .inl (xk_4, 10, .inl (fun _ => 0))), (xa_5, .inl (xk_6, 10, .inl (fun _ => 0))), (xa_7, .inl (xk_8, 10, .inl (fun _ => 0))), (xa_9, .inl (xk_10, 100, .inl (fun _ => 0))), (xa_11, .inl (xk_12, 3, .inl (fun _ => 0))), (xq_13, .inr (4, [.ref xa_14, .ref xa_16, .ref xa_18, .int 0])), (xa_16, .inl (xk_17, 4, .inl (fun _ => 0))), (xa_18, .inl (xk_19, 4, .inl (fun _ => 0))), (m0, .inr (8, [.ref ma_1, .ref ma_3, .ref ma_5, .ref ma_7, .int 0, .ref ma_9, .ref ma_11, .ref ma_13, .ref ma_15, .ref ma_17, .ref ma_19, .int 0, .ref ma_21, .ref ma_23, .ref ma_25, .ref ma_27, .ref ma_29, .ref ma_31, .int 0, .int 0, .ref ma_33, .int 0, .int 0, .ref ma_35, .ref ma_37, .int 0, .ref ma_39, .ref ma_41, .int 0, .ref ma_43, .ref ma_45, .int 0, .ref ma_47, .ref ma_49, .int 0])), (ma_11, .inl (mk_12, 10, .inl (fun _ => 0))), (ma_13, .inl (mk_14, 10, .inl (fun _ => 0))), (ma_3, .inl (mk_4, 10, .inl (fun _ => 0))), (ma_9, .inl (mk_10, 100, .inl (fun _ => 0))), (ma_1, .inl (mk_2, 30, .inl (fun _ => 0))), (ma_5, .inl (mk_6, 10, .inl (fun _ => 0))), (ma_7, .inl (mk_8, 10, .inl (fun _ => 0))), (ma_17, .inl (mk_18, 4, .inl (fun _ => 0))), (ma_19, .inl (mk_20, 4, .inl (fun _ => 0)))]) (hS : va_S (fun q : Nat => s.heap.size ≤ q) s.heap H locs) (ls : Array Slot) (hl : lv_has ls 4 [(3, .int 0), (2, .ref m0), (1, .ref x0), (0, .ref b)]) : W p l e room_1 s m #[Value.ref b] below meth c H locs 56 3153 (lw_Z below #[Value.ref b] s) (F0 m 156 ls []) := by
  obtain ⟨hx, hb, hr, hml, hown, hts, hX, hbl, hlocks, hgv⟩ := id C0
  have hN := nw_start hts
  have hts : ∀ w ∈ BG, w.before _ s = true := fun w h => hts w (BG_lw h)
  have hown : s.vm.findClass RL = some m.cls := hown
  have hA : ∀ q : Nat, s.heap.size ≤ q → (fun q : Nat => s.heap.size ≤ q) q := fun _ h => h
  have hbA : ¬ (fun q : Nat => s.heap.size ≤ q) b := Nat.not_le.mpr hbl
  refine lv_aload_n hx hb dL_law_156 rfl (lv_at hl 2 rfl) ?_
  refine lv_aload_n hx hb dL_law_157 rfl (lv_at hl 3 rfl) ?_
  refine lv_iload_n hx hb dL_law_158 rfl (lv_at hl 0 rfl) ?_
  refine lv_iconst (v := 1) hx hb dL_law_159 (by decide) ?_
  refine lv_iadd hx hb dL_law_160 ?_
  refine hx_top (y := 1) (by decide) ?_
  refine va_sld hx hb hX hbl hbA hS (show vp_in 1 5 by unfold vp_in; decide) dL_law_161 ?_
  refine hx_top (y := (xs 1)) rfl ?_
  refine lv_aload_n hx hb dL_law_162 rfl (lv_at hl 3 rfl) ?_
  refine lv_iload_n hx hb dL_law_163 rfl (lv_at hl 0 rfl) ?_
  refine lv_iconst (v := 2) hx hb dL_law_164 (by decide) ?_
  refine lv_iadd hx hb dL_law_165 ?_
  refine hx_top (y := 2) (by decide) ?_
  refine va_sld hx hb hX hbl hbA hS (show vp_in 2 5 by unfold vp_in; decide) dL_law_166 ?_
  refine hx_top (y := (xs 2)) rfl ?_
  refine lv_aload_n hx hb dL_law_167 rfl (lv_at hl 3 rfl) ?_
  refine lv_iload_n hx hb dL_law_168 rfl (lv_at hl 0 rfl) ?_
  refine lv_iconst (v := 3) hx hb dL_law_169 (by decide) ?_
  refine lv_iadd hx hb dL_law_170 ?_
  refine hx_top (y := 3) (by decide) ?_
  refine va_sld hx hb hX hbl hbA hS (show vp_in 3 5 by unfold vp_in; decide) dL_law_171 ?_
  refine hx_top (y := (xs 3)) rfl ?_
  refine lv_aload_n hx hb dL_law_172 rfl (lv_at hl 3 rfl) ?_
  refine lv_iload_n hx hb dL_law_173 rfl (lv_at hl 0 rfl) ?_
  refine lv_iconst (v := 4) hx hb dL_law_174 (by decide) ?_
  refine lv_iadd hx hb dL_law_175 ?_
  refine hx_top (y := 4) (by decide) ?_
  refine va_sld hx hb hX hbl hbA hS (show vp_in 4 5 by unfold vp_in; decide) dL_law_176 ?_
  refine hx_top (y := (xs 4)) rfl ?_
  have hPc := hP.sub (ws' := [(x0, .inr (7, [.ref xq_1, .ref xq_20, .ref xq_24, .ref xq_32, .ref xq_36, .ref xq_48])), (xq_1, .inr (1, [.ref xa_3, .ref xa_5, .ref xa_7, .ref xa_9, .ref xa_11, .ref xq_13, .int 0, .int 0])), (xa_3, .inl (xk_4, 10, .inl (fun _ => 0))), (xa_5, .inl (xk_6, 10, .inl (fun _ => 0))), (xa_7, .inl (xk_8, 10, .inl (fun _ => 0))), (xa_9, .inl (xk_10, 100, .inl (fun _ => 0))), (xa_11, .inl (xk_12, 3, .inl (fun _ => 0))), (xq_13, .inr (4, [.ref xa_14, .ref xa_16, .ref xa_18, .int 0])), (xa_16, .inl (xk_17, 4, .inl (fun _ => 0))), (xa_18, .inl (xk_19, 4, .inl (fun _ => 0)))]) [0, 1, 2, 3, 4, 5, 6, 7, 8, 9] rfl
  have hDc := hD.sub (ws' := [(x0, .inr (7, [.ref xq_1, .ref xq_20, .ref xq_24, .ref xq_32, .ref xq_36, .ref xq_48])), (xq_1, .inr (1, [.ref xa_3, .ref xa_5, .ref xa_7, .ref xa_9, .ref xa_11, .ref xq_13, .int 0, .int 0])), (xa_3, .inl (xk_4, 10, .inl (fun _ => 0))), (xa_5, .inl (xk_6, 10, .inl (fun _ => 0))), (xa_7, .inl (xk_8, 10, .inl (fun _ => 0))), (xa_9, .inl (xk_10, 100, .inl (fun _ => 0))), (xa_11, .inl (xk_12, 3, .inl (fun _ => 0))), (xq_13, .inr (4, [.ref xa_14, .ref xa_16, .ref xa_18, .int 0])), (xa_16, .inl (xk_17, 4, .inl (fun _ => 0))), (xa_18, .inl (xk_19, 4, .inl (fun _ => 0)))]) [0, 1, 2, 3, 4, 5, 6, 7, 8, 9] (by decide) rfl
  have hKc := hK.sub (tys' := [(xk_4, .int), (xk_6, .int), (xk_8, .int), (xk_10, .int), (xk_12, .int), (xk_17, .int), (xk_19, .int)]) [0, 1, 2, 3, 4, 5, 6] rfl
  have hFc := va_free (wc := [(x0, .inr (7, [.ref xq_1, .ref xq_20, .ref xq_24, .ref xq_32, .ref xq_36, .ref xq_48])), (xq_1, .inr (1, [.ref xa_3, .ref xa_5, .ref xa_7, .ref xa_9, .ref xa_11, .ref xq_13, .int 0, .int 0])), (xa_3, .inl (xk_4, 10, .inl (fun _ => 0))), (xa_5, .inl (xk_6, 10, .inl (fun _ => 0))), (xa_7, .inl (xk_8, 10, .inl (fun _ => 0))), (xa_9, .inl (xk_10, 100, .inl (fun _ => 0))), (xa_11, .inl (xk_12, 3, .inl (fun _ => 0))), (xq_13, .inr (4, [.ref xa_14, .ref xa_16, .ref xa_18, .int 0])), (xa_16, .inl (xk_17, 4, .inl (fun _ => 0))), (xa_18, .inl (xk_19, 4, .inl (fun _ => 0)))]) hD hS hA [0, 1, 2, 3, 4, 5, 6, 7, 8, 9] rfl
  refine va_calli (va_runV (As := [.int (xs 1), .int (xs 2), .int (xs 3), .int (xs 4)]) (rest := []) ⟨hx, hb, hml, hown, hts⟩ (x_kind l dC dI H.size x0 xq_1 (.ref xq_20) (.ref xq_24) (.ref xq_32) (.ref xq_36) (.ref xq_48) xa_3 xa_5 xa_7 xa_9 xa_11 xq_13 (.int 0) xk_4 xk_6 xk_8 xk_10 xk_12 (.ref xa_14) xa_16 xa_18 xk_17 xk_19 (xs 1) (xs 2) (xs 3) (xs 4)) (cwV 4 hts (gV mw_1_187 mw_1_188 mw_1_189 mw_1_1 mw_1_190) rfl rfl rfl (by decide +kernel) ⟨Nat.le_of_ble_eq_true rfl, Nat.le_of_ble_eq_true rfl⟩) ⟨pcW_blind, va_recv hKc hPc (ci := 7) (q0 := 0) rfl rfl, pcW_at hPc hKc hDc hN⟩ rfl rfl hl.1 rfl (lv_room (Nat.le_of_ble_eq_true rfl)) dL_law_177 ⟨Nat.le_of_ble_eq_true rfl, Nat.le_of_ble_eq_true rfl⟩) hS (fun q _ h => hFc q h) hFc (fun r_1 u t H1 locs ht hvm hw_1 hB hz1 hk1 hS => ?_)
  obtain ⟨hP, hD⟩ := va_join (wr := [(m0, .inr (8, [.ref ma_1, .ref ma_3, .ref ma_5, .ref ma_7, .int 0, .ref ma_9, .ref ma_11, .ref ma_13, .ref ma_15, .ref ma_17, .ref ma_19, .int 0, .ref ma_21, .ref ma_23, .ref ma_25, .ref ma_27, .ref ma_29, .ref ma_31, .int 0, .int 0, .ref ma_33, .int 0, .int 0, .ref ma_35, .ref ma_37, .int 0, .ref ma_39, .ref ma_41, .int 0, .ref ma_43, .ref ma_45, .int 0, .ref ma_47, .ref ma_49, .int 0])), (ma_11, .inl (mk_12, 10, .inl (fun _ => 0))), (ma_13, .inl (mk_14, 10, .inl (fun _ => 0))), (ma_3, .inl (mk_4, 10, .inl (fun _ => 0))), (ma_9, .inl (mk_10, 100, .inl (fun _ => 0))), (ma_1, .inl (mk_2, 30, .inl (fun _ => 0))), (ma_5, .inl (mk_6, 10, .inl (fun _ => 0))), (ma_7, .inl (mk_8, 10, .inl (fun _ => 0))), (ma_17, .inl (mk_18, 4, .inl (fun _ => 0))), (ma_19, .inl (mk_20, 4, .inl (fun _ => 0)))]) (w1 := []) hP hD [0, 1, 2, 3, 4, 5, 6, 7, 8, 9] [10, 11, 12, 13, 14, 15, 16, 17, 18, 19] rfl rfl (by decide) (by decide) hk1 hFc nilP nilD
  rw [List.append_nil] at hP hD
  clear hz1 hk1 hPc hDc hKc hFc
  generalize H1 = H at hP hS ⊢
  have hK : va_K (dC, dI) vwCl [(xk_4, .int), (xk_6, .int), (xk_8, .int), (xk_10, .int), (xk_12, .int), (xk_17, .int), (xk_19, .int), (mk_12, .int), (mk_14, .int), (mk_4, .int), (mk_10, .int), (mk_2, .int), (mk_6, .int), (mk_8, .boolean), (mk_18, .int), (mk_20, .int)] s := hK
  have hP : va_P (dC, dI) vwCl [(m0, .inr (8, [.ref ma_1, .ref ma_3, .ref ma_5, .ref ma_7, .int 0, .ref ma_9, .ref ma_11, .ref ma_13, .ref ma_15, .ref ma_17, .ref ma_19, .int 0, .ref ma_21, .ref ma_23, .ref ma_25, .ref ma_27, .ref ma_29, .ref ma_31, .int 0, .int 0, .ref ma_33, .int 0, .int 0, .ref ma_35, .ref ma_37, .int 0, .ref ma_39, .ref ma_41, .int 0, .ref ma_43, .ref ma_45, .int 0, .ref ma_47, .ref ma_49, .int 0])), (ma_11, .inl (mk_12, 10, .inl (fun _ => 0))), (ma_13, .inl (mk_14, 10, .inl (fun _ => 0))), (ma_3, .inl (mk_4, 10, .inl (fun _ => 0))), (ma_9, .inl (mk_10, 100, .inl (fun _ => 0))), (ma_1, .inl (mk_2, 30, .inl (fun _ => 0))), (ma_5, .inl (mk_6, 10, .inl (fun _ => 0))), (ma_7, .inl (mk_8, 10, .inl (fun _ => 0))), (ma_17, .inl (mk_18, 4, .inl (fun _ => 0))), (ma_19, .inl (mk_20, 4, .inl (fun _ => 0)))] H := hP
  have hD : va_D (fun q : Nat => s.heap.size ≤ q) [(m0, .inr (8, [.ref ma_1, .ref ma_3, .ref ma_5, .ref ma_7, .int 0, .ref ma_9, .ref ma_11, .ref ma_13, .ref ma_15, .ref ma_17, .ref ma_19, .int 0, .ref ma_21, .ref ma_23, .ref ma_25, .ref ma_27, .ref ma_29, .ref ma_31, .int 0, .int 0, .ref ma_33, .int 0, .int 0, .ref ma_35, .ref ma_37, .int 0, .ref ma_39, .ref ma_41, .int 0, .ref ma_43, .ref ma_45, .int 0, .ref ma_47, .ref ma_49, .int 0])), (ma_11, .inl (mk_12, 10, .inl (fun _ => 0))), (ma_13, .inl (mk_14, 10, .inl (fun _ => 0))), (ma_3, .inl (mk_4, 10, .inl (fun _ => 0))), (ma_9, .inl (mk_10, 100, .inl (fun _ => 0))), (ma_1, .inl (mk_2, 30, .inl (fun _ => 0))), (ma_5, .inl (mk_6, 10, .inl (fun _ => 0))), (ma_7, .inl (mk_8, 10, .inl (fun _ => 0))), (ma_17, .inl (mk_18, 4, .inl (fun _ => 0))), (ma_19, .inl (mk_20, 4, .inl (fun _ => 0)))] := hD
  refine lv_aload_n hx hb dL_law_180 rfl (lv_at hl 1 rfl) ?_
  refine lv_aload_n hx hb dL_law_181 rfl (lv_at hl 3 rfl) ?_
  refine lv_iload_n hx hb dL_law_182 rfl (lv_at hl 0 rfl) ?_
  refine lv_iconst (v := 1) hx hb dL_law_183 (by decide) ?_
  refine lv_iadd hx hb dL_law_184 ?_
  refine hx_top (y := 1) (by decide) ?_
  refine va_sld hx hb hX hbl hbA hS (show vp_in 1 5 by unfold vp_in; decide) dL_law_185 ?_
  refine hx_top (y := (xs 1)) rfl ?_
  refine lv_aload_n hx hb dL_law_186 rfl (lv_at hl 3 rfl) ?_
  refine lv_iload_n hx hb dL_law_187 rfl (lv_at hl 0 rfl) ?_
  refine lv_iconst (v := 2) hx hb dL_law_188 (by decide) ?_
  refine lv_iadd hx hb dL_law_189 ?_
  refine hx_top (y := 2) (by decide) ?_
  refine va_sld hx hb hX hbl hbA hS (show vp_in 2 5 by unfold vp_in; decide) dL_law_190 ?_
  refine hx_top (y := (xs 2)) rfl ?_
  refine lv_aload_n hx hb dL_law_191 rfl (lv_at hl 3 rfl) ?_
  refine lv_iload_n hx hb dL_law_192 rfl (lv_at hl 0 rfl) ?_
  refine lv_iconst (v := 3) hx hb dL_law_193 (by decide) ?_
  refine lv_iadd hx hb dL_law_194 ?_
  refine hx_top (y := 3) (by decide) ?_
  refine va_sld hx hb hX hbl hbA hS (show vp_in 3 5 by unfold vp_in; decide) dL_law_195 ?_
  refine hx_top (y := (xs 3)) rfl ?_
  refine lv_aload_n hx hb dL_law_196 rfl (lv_at hl 3 rfl) ?_
  refine lv_iload_n hx hb dL_law_197 rfl (lv_at hl 0 rfl) ?_
  refine lv_iconst (v := 4) hx hb dL_law_198 (by decide) ?_
  refine lv_iadd hx hb dL_law_199 ?_
  refine hx_top (y := 4) (by decide) ?_
  refine va_sld hx hb hX hbl hbA hS (show vp_in 4 5 by unfold vp_in; decide) dL_law_200 ?_
  refine hx_top (y := (xs 4)) rfl ?_
  have hPc := hP.sub (ws' := [(m0, .inr (8, [.ref ma_1, .ref ma_3, .ref ma_5, .ref ma_7, .int 0, .ref ma_9, .ref ma_11, .ref ma_13, .ref ma_15, .ref ma_17, .ref ma_19, .int 0, .ref ma_21, .ref ma_23, .ref ma_25, .ref ma_27, .ref ma_29, .ref ma_31, .int 0, .int 0, .ref ma_33, .int 0, .int 0, .ref ma_35, .ref ma_37, .int 0, .ref ma_39, .ref ma_41, .int 0, .ref ma_43, .ref ma_45, .int 0, .ref ma_47, .ref ma_49, .int 0])), (ma_11, .inl (mk_12, 10, .inl (fun _ => 0))), (ma_13, .inl (mk_14, 10, .inl (fun _ => 0))), (ma_3, .inl (mk_4, 10, .inl (fun _ => 0))), (ma_9, .inl (mk_10, 100, .inl (fun _ => 0))), (ma_1, .inl (mk_2, 30, .inl (fun _ => 0))), (ma_5, .inl (mk_6, 10, .inl (fun _ => 0))), (ma_7, .inl (mk_8, 10, .inl (fun _ => 0))), (ma_17, .inl (mk_18, 4, .inl (fun _ => 0))), (ma_19, .inl (mk_20, 4, .inl (fun _ => 0)))]) [0, 1, 2, 3, 4, 5, 6, 7, 8, 9] rfl
  have hDc := hD.sub (ws' := [(m0, .inr (8, [.ref ma_1, .ref ma_3, .ref ma_5, .ref ma_7, .int 0, .ref ma_9, .ref ma_11, .ref ma_13, .ref ma_15, .ref ma_17, .ref ma_19, .int 0, .ref ma_21, .ref ma_23, .ref ma_25, .ref ma_27, .ref ma_29, .ref ma_31, .int 0, .int 0, .ref ma_33, .int 0, .int 0, .ref ma_35, .ref ma_37, .int 0, .ref ma_39, .ref ma_41, .int 0, .ref ma_43, .ref ma_45, .int 0, .ref ma_47, .ref ma_49, .int 0])), (ma_11, .inl (mk_12, 10, .inl (fun _ => 0))), (ma_13, .inl (mk_14, 10, .inl (fun _ => 0))), (ma_3, .inl (mk_4, 10, .inl (fun _ => 0))), (ma_9, .inl (mk_10, 100, .inl (fun _ => 0))), (ma_1, .inl (mk_2, 30, .inl (fun _ => 0))), (ma_5, .inl (mk_6, 10, .inl (fun _ => 0))), (ma_7, .inl (mk_8, 10, .inl (fun _ => 0))), (ma_17, .inl (mk_18, 4, .inl (fun _ => 0))), (ma_19, .inl (mk_20, 4, .inl (fun _ => 0)))]) [0, 1, 2, 3, 4, 5, 6, 7, 8, 9] (by decide) rfl
  have hKc := hK.sub (tys' := [(mk_12, .int), (mk_14, .int), (mk_4, .int), (mk_10, .int), (mk_2, .int), (mk_6, .int), (mk_8, .boolean), (mk_18, .int), (mk_20, .int)]) [7, 8, 9, 10, 11, 12, 13, 14, 15] rfl
  have hFc := va_free (wc := [(m0, .inr (8, [.ref ma_1, .ref ma_3, .ref ma_5, .ref ma_7, .int 0, .ref ma_9, .ref ma_11, .ref ma_13, .ref ma_15, .ref ma_17, .ref ma_19, .int 0, .ref ma_21, .ref ma_23, .ref ma_25, .ref ma_27, .ref ma_29, .ref ma_31, .int 0, .int 0, .ref ma_33, .int 0, .int 0, .ref ma_35, .ref ma_37, .int 0, .ref ma_39, .ref ma_41, .int 0, .ref ma_43, .ref ma_45, .int 0, .ref ma_47, .ref ma_49, .int 0])), (ma_11, .inl (mk_12, 10, .inl (fun _ => 0))), (ma_13, .inl (mk_14, 10, .inl (fun _ => 0))), (ma_3, .inl (mk_4, 10, .inl (fun _ => 0))), (ma_9, .inl (mk_10, 100, .inl (fun _ => 0))), (ma_1, .inl (mk_2, 30, .inl (fun _ => 0))), (ma_5, .inl (mk_6, 10, .inl (fun _ => 0))), (ma_7, .inl (mk_8, 10, .inl (fun _ => 0))), (ma_17, .inl (mk_18, 4, .inl (fun _ => 0))), (ma_19, .inl (mk_20, 4, .inl (fun _ => 0)))]) hD hS hA [0, 1, 2, 3, 4, 5, 6, 7, 8, 9] rfl
  refine va_calli (va_runV (As := [.int (xs 1), .int (xs 2), .int (xs 3), .int (xs 4)]) (rest := [.int r_1]) ⟨hx, hb, hml, hown, hts⟩ (m_kind l dC dI H.size m0 ma_1 ma_3 ma_5 ma_7 ma_9 ma_11 ma_13 (.ref ma_15) ma_17 ma_19 0 (.ref ma_21) (.ref ma_23) (.ref ma_25) (.ref ma_27) (.ref ma_29) (.ref ma_31) (.int 0) (.int 0) (.ref ma_33) (.int 0) (.int 0) (.ref ma_35) (.ref ma_37) (.int 0) (.ref ma_39) (.ref ma_41) (.int 0) (.ref ma_43) (.ref ma_45) (.int 0) (.ref ma_47) (.ref ma_49) (.int 0) mk_12 mk_14 mk_4 mk_10 mk_2 mk_6 mk_8 mk_18 mk_20 (xs 1) (xs 2) (xs 3) (xs 4)) (cwV 4 hts (gV mw_4_49 mw_4_50 mw_4_51 mw_1_9 mw_4_52) rfl rfl rfl (by decide +kernel) ⟨Nat.le_of_ble_eq_true rfl, Nat.le_of_ble_eq_true rfl⟩) ⟨pcW_blind, va_recv hKc hPc (ci := 8) (q0 := 0) rfl rfl, pcW_at hPc hKc hDc hN⟩ rfl rfl hl.1 rfl (lv_room (Nat.le_of_ble_eq_true rfl)) dL_law_201 ⟨Nat.le_of_ble_eq_true rfl, Nat.le_of_ble_eq_true rfl⟩) hS (fun q _ h => hFc q h) hFc (fun r_2 u t H1 locs ht hvm hw_2 hB hz1 hk1 hS => ?_)
  obtain ⟨hP, hD⟩ := va_join (wr := []) (w1 := []) hP hD [0, 1, 2, 3, 4, 5, 6, 7, 8, 9] [] rfl rfl (by decide) (by decide) hk1 hFc nilP nilD
  rw [List.append_nil] at hP hD
  clear hz1 hk1 hPc hDc hKc hFc
  generalize H1 = H at hP hS ⊢
  have hK : va_K (dC, dI) vwCl [(xk_4, .int), (xk_6, .int), (xk_8, .int), (xk_10, .int), (xk_12, .int), (xk_17, .int), (xk_19, .int), (mk_12, .int), (mk_14, .int), (mk_4, .int), (mk_10, .int), (mk_2, .int), (mk_6, .int), (mk_8, .boolean), (mk_18, .int), (mk_20, .int)] s := hK
  have hP : va_P (dC, dI) vwCl [] H := hP
  have hD : va_D (fun q : Nat => s.heap.size ≤ q) [] := hD
  refine lv_icmp_eq (tgt := 983) hx hb dL_law_204 (by decide) (fun _ => ?_) (fun h => absurd (hw_1.trans hw_2.symm) h)
  exact law_end l C0 hS ls (lv_sub hl [0, 3] rfl)
set_option maxHeartbeats 4000000 in
set_option maxRecDepth 100000 in
theorem lc_1 {p : Program} {e : Env} {s : State} {m : MethodId} {below : List Frame} {meth : Method} {c : Code} (l : Launch) {b : Nat} {xs : Nat → Int32} {dC : Nat → ClassId} {dI : Nat → Nat → Nat} {x0 : Nat} {xq_1 : Nat} {xq_20 : Nat} {xq_24 : Nat} {xq_32 : Nat} {xq_36 : Nat} {xq_48 : Nat} {xa_3 : Nat} {xa_5 : Nat} {xa_7 : Nat} {xa_9 : Nat} {xa_11 : Nat} {xq_13 : Nat} {m0 : Nat} {ma_1 : Nat} {ma_3 : Nat} {ma_5 : Nat} {ma_7 : Nat} {ma_9 : Nat} {ma_11 : Nat} {ma_13 : Nat} {ma_15 : Nat} {ma_17 : Nat} {ma_19 : Nat} {ma_21 : Nat} {ma_23 : Nat} {ma_25 : Nat} {ma_27 : Nat} {ma_29 : Nat} {ma_31 : Nat} {ma_33 : Nat} {ma_35 : Nat} {ma_37 : Nat} {ma_39 : Nat} {ma_41 : Nat} {ma_43 : Nat} {ma_45 : Nat} {ma_47 : Nat} {ma_49 : Nat} (C0 : lw_At p s m meth c b 5 xs) {H : Heap} {locs : List Loc} (hK : va_K (dC, dI) vwCl [] s) (hP : va_P (dC, dI) vwCl [(x0, .inr (7, [.ref xq_1, .ref xq_20, .ref xq_24, .ref xq_32, .ref xq_36, .ref xq_48])), (xq_1, .inr (1, [.ref xa_3, .ref xa_5, .ref xa_7, .ref xa_9, .ref xa_11, .ref xq_13, .int 0, .int 0])), (m0, .inr (8, [.ref ma_1, .ref ma_3, .ref ma_5, .ref ma_7, .int 0, .ref ma_9, .ref ma_11, .ref ma_13, .ref ma_15, .ref ma_17, .ref ma_19, .int 0, .ref ma_21, .ref ma_23, .ref ma_25, .ref ma_27, .ref ma_29, .ref ma_31, .int 0, .int 0, .ref ma_33, .int 0, .int 0, .ref ma_35, .ref ma_37, .int 0, .ref ma_39, .ref ma_41, .int 0, .ref ma_43, .ref ma_45, .int 0, .ref ma_47, .ref ma_49, .int 0]))] H) (hD : va_D (fun q : Nat => s.heap.size ≤ q) [(x0, .inr (7, [.ref xq_1, .ref xq_20, .ref xq_24, .ref xq_32, .ref xq_36, .ref xq_48])), (xq_1, .inr (1, [.ref xa_3, .ref xa_5, .ref xa_7, .ref xa_9, .ref xa_11, .ref xq_13, .int 0, .int 0])), (m0, .inr (8, [.ref ma_1, .ref ma_3, .ref ma_5, .ref ma_7, .int 0, .ref ma_9, .ref ma_11, .ref ma_13, .ref ma_15, .ref ma_17, .ref ma_19, .int 0, .ref ma_21, .ref ma_23, .ref ma_25, .ref ma_27, .ref ma_29, .ref ma_31, .int 0, .int 0, .ref ma_33, .int 0, .int 0, .ref ma_35, .ref ma_37, .int 0, .ref ma_39, .ref ma_41, .int 0, .ref ma_43, .ref ma_45, .int 0, .ref ma_47, .ref ma_49, .int 0]))]) (hS : va_S (fun q : Nat => s.heap.size ≤ q) s.heap H locs) (ls : Array Slot) (hl : lv_has ls 4 [(3, .int 0), (2, .ref m0), (1, .ref x0), (0, .ref b)]) : W p l e room_1 s m #[Value.ref b] below meth c H locs 56 3153 (lw_Z below #[Value.ref b] s) (F0 m 209 ls []) := by
  obtain ⟨hx, hb, hr, hml, hown, hts, hX, hbl, hlocks, hgv⟩ := id C0
  have hN := nw_start hts
  have hts : ∀ w ∈ BG, w.before _ s = true := fun w h => hts w (BG_lw h)
  have hown : s.vm.findClass RL = some m.cls := hown
  have hA : ∀ q : Nat, s.heap.size ≤ q → (fun q : Nat => s.heap.size ≤ q) q := fun _ h => h
  have hbA : ¬ (fun q : Nat => s.heap.size ≤ q) b := Nat.not_le.mpr hbl
  refine lv_aload_n hx hb dL_law_209 rfl (lv_at hl 2 rfl) ?_
  refine lv_aload_n hx hb dL_law_210 rfl (lv_at hl 3 rfl) ?_
  refine lv_iload_n hx hb dL_law_211 rfl (lv_at hl 0 rfl) ?_
  refine lv_iconst (v := 1) hx hb dL_law_212 (by decide) ?_
  refine lv_iadd hx hb dL_law_213 ?_
  refine hx_top (y := 1) (by decide) ?_
  refine va_sld hx hb hX hbl hbA hS (show vp_in 1 5 by unfold vp_in; decide) dL_law_214 ?_
  refine hx_top (y := (xs 1)) rfl ?_
  refine lv_aload_n hx hb dL_law_215 rfl (lv_at hl 3 rfl) ?_
  refine lv_iload_n hx hb dL_law_216 rfl (lv_at hl 0 rfl) ?_
  refine lv_iconst (v := 2) hx hb dL_law_217 (by decide) ?_
  refine lv_iadd hx hb dL_law_218 ?_
  refine hx_top (y := 2) (by decide) ?_
  refine va_sld hx hb hX hbl hbA hS (show vp_in 2 5 by unfold vp_in; decide) dL_law_219 ?_
  refine hx_top (y := (xs 2)) rfl ?_
  refine lv_if_eq (tgt := 227) hx hb dL_law_220 (by decide) (fun c_1 => ?_) (fun c_1 => ?_)
  · have b_2 := fx_eq (x := (xs 2)) (C := 0) (by decide) c_1
    refine lv_iconst (v := 0) hx hb dL_law_227 (by decide) ?_
    have hPc := hP.sub (ws' := [(x0, .inr (7, [.ref xq_1, .ref xq_20, .ref xq_24, .ref xq_32, .ref xq_36, .ref xq_48])), (xq_1, .inr (1, [.ref xa_3, .ref xa_5, .ref xa_7, .ref xa_9, .ref xa_11, .ref xq_13, .int 0, .int 0]))]) [0, 1] rfl
    have hDc := hD.sub (ws' := [(x0, .inr (7, [.ref xq_1, .ref xq_20, .ref xq_24, .ref xq_32, .ref xq_36, .ref xq_48])), (xq_1, .inr (1, [.ref xa_3, .ref xa_5, .ref xa_7, .ref xa_9, .ref xa_11, .ref xq_13, .int 0, .int 0]))]) [0, 1] (by decide) rfl
    have hKc := hK.sub (tys' := []) [] rfl
    refine va_calli (va_runV (As := [.int (xs 1), .int 0]) (rest := []) ⟨hx, hb, hml, hown, hts⟩ (x_bare l dC dI H.size x0 xq_1 (.ref xq_20) (.ref xq_24) (.ref xq_32) (.ref xq_36) (.ref xq_48) (.ref xa_3) (.ref xa_5) (.ref xa_7) (.ref xa_9) (.ref xa_11) (.ref xq_13) (.int 0) (xs 1) 0) (cwV 2 hts (gV mw_2_24 mw_2_25 mw_2_26 mw_1_1 mw_2_27) rfl rfl rfl (by decide +kernel) ⟨Nat.le_of_ble_eq_true rfl, Nat.le_of_ble_eq_true rfl⟩) ⟨pcW_blind, va_recv hKc hPc (ci := 7) (q0 := 0) rfl rfl, pcW_at hPc hKc hDc hN⟩ rfl rfl hl.1 rfl (lv_room (Nat.le_of_ble_eq_true rfl)) dL_law_228 ⟨Nat.le_of_ble_eq_true rfl, Nat.le_of_ble_eq_true rfl⟩) hS (fun q h1 h2 => absurd h2 (Nat.not_le.mpr h1)) (fun q h => hA q (Nat.le_trans hS.1 h)) (fun r_3 u t H1 locs ht hvm hw_3 hB hz1 hk1 hS => ?_)
    have hP := keepP hP hk1
    clear hz1 hk1 hB ht hvm hPc hDc hKc
    generalize H1 = H at hP hS ⊢
    obtain rfl : r_3 = (-1) := hw_3
    refine lv_aload_n hx hb dL_law_231 rfl (lv_at hl 1 rfl) ?_
    refine lv_aload_n hx hb dL_law_232 rfl (lv_at hl 3 rfl) ?_
    refine lv_iload_n hx hb dL_law_233 rfl (lv_at hl 0 rfl) ?_
    refine lv_iconst (v := 1) hx hb dL_law_234 (by decide) ?_
    refine lv_iadd hx hb dL_law_235 ?_
    refine hx_top (y := 1) (by decide) ?_
    refine va_sld hx hb hX hbl hbA hS (show vp_in 1 5 by unfold vp_in; decide) dL_law_236 ?_
    refine hx_top (y := (xs 1)) rfl ?_
    refine lv_aload_n hx hb dL_law_237 rfl (lv_at hl 3 rfl) ?_
    refine lv_iload_n hx hb dL_law_238 rfl (lv_at hl 0 rfl) ?_
    refine lv_iconst (v := 2) hx hb dL_law_239 (by decide) ?_
    refine lv_iadd hx hb dL_law_240 ?_
    refine hx_top (y := 2) (by decide) ?_
    refine va_sld hx hb hX hbl hbA hS (show vp_in 2 5 by unfold vp_in; decide) dL_law_241 ?_
    refine hx_top (y := (xs 2)) rfl ?_
    refine lv_if_eq (tgt := 249) hx hb dL_law_242 (by decide) (fun _ => ?_) (fun h => absurd (fn_eq (x := (xs 2)) (C := 0) (by decide) h) (by omega))
    refine lv_iconst (v := 0) hx hb dL_law_249 (by decide) ?_
    have hPc := hP.sub (ws' := [(m0, .inr (8, [.ref ma_1, .ref ma_3, .ref ma_5, .ref ma_7, .int 0, .ref ma_9, .ref ma_11, .ref ma_13, .ref ma_15, .ref ma_17, .ref ma_19, .int 0, .ref ma_21, .ref ma_23, .ref ma_25, .ref ma_27, .ref ma_29, .ref ma_31, .int 0, .int 0, .ref ma_33, .int 0, .int 0, .ref ma_35, .ref ma_37, .int 0, .ref ma_39, .ref ma_41, .int 0, .ref ma_43, .ref ma_45, .int 0, .ref ma_47, .ref ma_49, .int 0]))]) [2] rfl
    have hDc := hD.sub (ws' := [(m0, .inr (8, [.ref ma_1, .ref ma_3, .ref ma_5, .ref ma_7, .int 0, .ref ma_9, .ref ma_11, .ref ma_13, .ref ma_15, .ref ma_17, .ref ma_19, .int 0, .ref ma_21, .ref ma_23, .ref ma_25, .ref ma_27, .ref ma_29, .ref ma_31, .int 0, .int 0, .ref ma_33, .int 0, .int 0, .ref ma_35, .ref ma_37, .int 0, .ref ma_39, .ref ma_41, .int 0, .ref ma_43, .ref ma_45, .int 0, .ref ma_47, .ref ma_49, .int 0]))]) [2] (by decide) rfl
    have hKc := hK.sub (tys' := []) [] rfl
    refine va_calli (va_runV (As := [.int (xs 1), .int 0]) (rest := [.int (-1)]) ⟨hx, hb, hml, hown, hts⟩ (m_bare l dC dI H.size m0 (.ref ma_1) (.ref ma_3) (.ref ma_5) (.ref ma_7) (.ref ma_9) (.ref ma_11) (.ref ma_13) (.ref ma_15) (.ref ma_17) (.ref ma_19) (.int 0) (.ref ma_21) (.ref ma_23) (.ref ma_25) (.ref ma_27) (.ref ma_29) (.ref ma_31) (.int 0) (.int 0) (.ref ma_33) (.int 0) (.int 0) (.ref ma_35) (.ref ma_37) (.int 0) (.ref ma_39) (.ref ma_41) (.int 0) (.ref ma_43) (.ref ma_45) (.int 0) (.ref ma_47) (.ref ma_49) (.int 0) (xs 1) 0) (cwV 2 hts (gV mw_4_73 mw_4_74 mw_4_75 mw_1_9 mw_4_76) rfl rfl rfl (by decide +kernel) ⟨Nat.le_of_ble_eq_true rfl, Nat.le_of_ble_eq_true rfl⟩) ⟨pcW_blind, va_recv hKc hPc (ci := 8) (q0 := 0) rfl rfl, pcW_at hPc hKc hDc hN⟩ rfl rfl hl.1 rfl (lv_room (Nat.le_of_ble_eq_true rfl)) dL_law_250 ⟨Nat.le_of_ble_eq_true rfl, Nat.le_of_ble_eq_true rfl⟩) hS (fun q h1 h2 => absurd h2 (Nat.not_le.mpr h1)) (fun q h => hA q (Nat.le_trans hS.1 h)) (fun r_4 u t H1 locs ht hvm hw_4 hB hz1 hk1 hS => ?_)
    have hP := keepP hP hk1
    clear hz1 hk1 hB ht hvm hPc hDc hKc
    generalize H1 = H at hP hS ⊢
    obtain rfl : r_4 = (-1) := hw_4
    refine lv_icmp_eq (tgt := 983) hx hb dL_law_253 (by decide) (fun _ => ?_) (fun h => absurd (by decide) h)
    exact law_end l C0 hS ls (lv_sub hl [0, 3] rfl)
  · have b_2 := fn_eq (x := (xs 2)) (C := 0) (by decide) c_1
    refine lv_iconst (v := 1) hx hb dL_law_223 (by decide) ?_
    refine lv_goto (tgt := 228) hx hb dL_law_224 (by decide) ?_
    have hPc := hP.sub (ws' := [(x0, .inr (7, [.ref xq_1, .ref xq_20, .ref xq_24, .ref xq_32, .ref xq_36, .ref xq_48])), (xq_1, .inr (1, [.ref xa_3, .ref xa_5, .ref xa_7, .ref xa_9, .ref xa_11, .ref xq_13, .int 0, .int 0]))]) [0, 1] rfl
    have hDc := hD.sub (ws' := [(x0, .inr (7, [.ref xq_1, .ref xq_20, .ref xq_24, .ref xq_32, .ref xq_36, .ref xq_48])), (xq_1, .inr (1, [.ref xa_3, .ref xa_5, .ref xa_7, .ref xa_9, .ref xa_11, .ref xq_13, .int 0, .int 0]))]) [0, 1] (by decide) rfl
    have hKc := hK.sub (tys' := []) [] rfl
    refine va_calli (va_runV (As := [.int (xs 1), .int 1]) (rest := []) ⟨hx, hb, hml, hown, hts⟩ (x_bare l dC dI H.size x0 xq_1 (.ref xq_20) (.ref xq_24) (.ref xq_32) (.ref xq_36) (.ref xq_48) (.ref xa_3) (.ref xa_5) (.ref xa_7) (.ref xa_9) (.ref xa_11) (.ref xq_13) (.int 0) (xs 1) 1) (cwV 2 hts (gV mw_2_24 mw_2_25 mw_2_26 mw_1_1 mw_2_27) rfl rfl rfl (by decide +kernel) ⟨Nat.le_of_ble_eq_true rfl, Nat.le_of_ble_eq_true rfl⟩) ⟨pcW_blind, va_recv hKc hPc (ci := 7) (q0 := 0) rfl rfl, pcW_at hPc hKc hDc hN⟩ rfl rfl hl.1 rfl (lv_room (Nat.le_of_ble_eq_true rfl)) dL_law_228 ⟨Nat.le_of_ble_eq_true rfl, Nat.le_of_ble_eq_true rfl⟩) hS (fun q h1 h2 => absurd h2 (Nat.not_le.mpr h1)) (fun q h => hA q (Nat.le_trans hS.1 h)) (fun r_5 u t H1 locs ht hvm hw_5 hB hz1 hk1 hS => ?_)
    have hP := keepP hP hk1
    clear hz1 hk1 hB ht hvm hPc hDc hKc
    generalize H1 = H at hP hS ⊢
    obtain rfl : r_5 = (-1) := hw_5
    refine lv_aload_n hx hb dL_law_231 rfl (lv_at hl 1 rfl) ?_
    refine lv_aload_n hx hb dL_law_232 rfl (lv_at hl 3 rfl) ?_
    refine lv_iload_n hx hb dL_law_233 rfl (lv_at hl 0 rfl) ?_
    refine lv_iconst (v := 1) hx hb dL_law_234 (by decide) ?_
    refine lv_iadd hx hb dL_law_235 ?_
    refine hx_top (y := 1) (by decide) ?_
    refine va_sld hx hb hX hbl hbA hS (show vp_in 1 5 by unfold vp_in; decide) dL_law_236 ?_
    refine hx_top (y := (xs 1)) rfl ?_
    refine lv_aload_n hx hb dL_law_237 rfl (lv_at hl 3 rfl) ?_
    refine lv_iload_n hx hb dL_law_238 rfl (lv_at hl 0 rfl) ?_
    refine lv_iconst (v := 2) hx hb dL_law_239 (by decide) ?_
    refine lv_iadd hx hb dL_law_240 ?_
    refine hx_top (y := 2) (by decide) ?_
    refine va_sld hx hb hX hbl hbA hS (show vp_in 2 5 by unfold vp_in; decide) dL_law_241 ?_
    refine hx_top (y := (xs 2)) rfl ?_
    refine lv_if_eq (tgt := 249) hx hb dL_law_242 (by decide) (fun h => absurd (fx_eq (x := (xs 2)) (C := 0) (by decide) h) (by omega)) (fun _ => ?_)
    refine lv_iconst (v := 1) hx hb dL_law_245 (by decide) ?_
    refine lv_goto (tgt := 250) hx hb dL_law_246 (by decide) ?_
    have hPc := hP.sub (ws' := [(m0, .inr (8, [.ref ma_1, .ref ma_3, .ref ma_5, .ref ma_7, .int 0, .ref ma_9, .ref ma_11, .ref ma_13, .ref ma_15, .ref ma_17, .ref ma_19, .int 0, .ref ma_21, .ref ma_23, .ref ma_25, .ref ma_27, .ref ma_29, .ref ma_31, .int 0, .int 0, .ref ma_33, .int 0, .int 0, .ref ma_35, .ref ma_37, .int 0, .ref ma_39, .ref ma_41, .int 0, .ref ma_43, .ref ma_45, .int 0, .ref ma_47, .ref ma_49, .int 0]))]) [2] rfl
    have hDc := hD.sub (ws' := [(m0, .inr (8, [.ref ma_1, .ref ma_3, .ref ma_5, .ref ma_7, .int 0, .ref ma_9, .ref ma_11, .ref ma_13, .ref ma_15, .ref ma_17, .ref ma_19, .int 0, .ref ma_21, .ref ma_23, .ref ma_25, .ref ma_27, .ref ma_29, .ref ma_31, .int 0, .int 0, .ref ma_33, .int 0, .int 0, .ref ma_35, .ref ma_37, .int 0, .ref ma_39, .ref ma_41, .int 0, .ref ma_43, .ref ma_45, .int 0, .ref ma_47, .ref ma_49, .int 0]))]) [2] (by decide) rfl
    have hKc := hK.sub (tys' := []) [] rfl
    refine va_calli (va_runV (As := [.int (xs 1), .int 1]) (rest := [.int (-1)]) ⟨hx, hb, hml, hown, hts⟩ (m_bare l dC dI H.size m0 (.ref ma_1) (.ref ma_3) (.ref ma_5) (.ref ma_7) (.ref ma_9) (.ref ma_11) (.ref ma_13) (.ref ma_15) (.ref ma_17) (.ref ma_19) (.int 0) (.ref ma_21) (.ref ma_23) (.ref ma_25) (.ref ma_27) (.ref ma_29) (.ref ma_31) (.int 0) (.int 0) (.ref ma_33) (.int 0) (.int 0) (.ref ma_35) (.ref ma_37) (.int 0) (.ref ma_39) (.ref ma_41) (.int 0) (.ref ma_43) (.ref ma_45) (.int 0) (.ref ma_47) (.ref ma_49) (.int 0) (xs 1) 1) (cwV 2 hts (gV mw_4_73 mw_4_74 mw_4_75 mw_1_9 mw_4_76) rfl rfl rfl (by decide +kernel) ⟨Nat.le_of_ble_eq_true rfl, Nat.le_of_ble_eq_true rfl⟩) ⟨pcW_blind, va_recv hKc hPc (ci := 8) (q0 := 0) rfl rfl, pcW_at hPc hKc hDc hN⟩ rfl rfl hl.1 rfl (lv_room (Nat.le_of_ble_eq_true rfl)) dL_law_250 ⟨Nat.le_of_ble_eq_true rfl, Nat.le_of_ble_eq_true rfl⟩) hS (fun q h1 h2 => absurd h2 (Nat.not_le.mpr h1)) (fun q h => hA q (Nat.le_trans hS.1 h)) (fun r_6 u t H1 locs ht hvm hw_6 hB hz1 hk1 hS => ?_)
    have hP := keepP hP hk1
    clear hz1 hk1 hB ht hvm hPc hDc hKc
    generalize H1 = H at hP hS ⊢
    obtain rfl : r_6 = (-1) := hw_6
    refine lv_icmp_eq (tgt := 983) hx hb dL_law_253 (by decide) (fun _ => ?_) (fun h => absurd (by decide) h)
    exact law_end l C0 hS ls (lv_sub hl [0, 3] rfl)
set_option maxHeartbeats 4000000 in
set_option maxRecDepth 100000 in
theorem lc_2 {p : Program} {e : Env} {s : State} {m : MethodId} {below : List Frame} {meth : Method} {c : Code} (l : Launch) {b : Nat} {xs : Nat → Int32} {dC : Nat → ClassId} {dI : Nat → Nat → Nat} {x0 : Nat} {xq_1 : Nat} {xq_20 : Nat} {xq_24 : Nat} {xq_32 : Nat} {xq_36 : Nat} {xq_48 : Nat} {xa_3 : Nat} {xa_5 : Nat} {xa_7 : Nat} {xa_9 : Nat} {xa_11 : Nat} {xq_13 : Nat} {m0 : Nat} {ma_1 : Nat} {ma_3 : Nat} {ma_5 : Nat} {ma_7 : Nat} {ma_9 : Nat} {ma_11 : Nat} {ma_13 : Nat} {ma_15 : Nat} {ma_17 : Nat} {ma_19 : Nat} {ma_21 : Nat} {ma_23 : Nat} {ma_25 : Nat} {ma_27 : Nat} {ma_29 : Nat} {ma_31 : Nat} {ma_33 : Nat} {ma_35 : Nat} {ma_37 : Nat} {ma_39 : Nat} {ma_41 : Nat} {ma_43 : Nat} {ma_45 : Nat} {ma_47 : Nat} {ma_49 : Nat} (C0 : lw_At p s m meth c b 5 xs) {H : Heap} {locs : List Loc} (hK : va_K (dC, dI) vwCl [] s) (hP : va_P (dC, dI) vwCl [(x0, .inr (7, [.ref xq_1, .ref xq_20, .ref xq_24, .ref xq_32, .ref xq_36, .ref xq_48])), (xq_1, .inr (1, [.ref xa_3, .ref xa_5, .ref xa_7, .ref xa_9, .ref xa_11, .ref xq_13, .int 0, .int 0])), (m0, .inr (8, [.ref ma_1, .ref ma_3, .ref ma_5, .ref ma_7, .int 0, .ref ma_9, .ref ma_11, .ref ma_13, .ref ma_15, .ref ma_17, .ref ma_19, .int 0, .ref ma_21, .ref ma_23, .ref ma_25, .ref ma_27, .ref ma_29, .ref ma_31, .int 0, .int 0, .ref ma_33, .int 0, .int 0, .ref ma_35, .ref ma_37, .int 0, .ref ma_39, .ref ma_41, .int 0, .ref ma_43, .ref ma_45, .int 0, .ref ma_47, .ref ma_49, .int 0]))] H) (hD : va_D (fun q : Nat => s.heap.size ≤ q) [(x0, .inr (7, [.ref xq_1, .ref xq_20, .ref xq_24, .ref xq_32, .ref xq_36, .ref xq_48])), (xq_1, .inr (1, [.ref xa_3, .ref xa_5, .ref xa_7, .ref xa_9, .ref xa_11, .ref xq_13, .int 0, .int 0])), (m0, .inr (8, [.ref ma_1, .ref ma_3, .ref ma_5, .ref ma_7, .int 0, .ref ma_9, .ref ma_11, .ref ma_13, .ref ma_15, .ref ma_17, .ref ma_19, .int 0, .ref ma_21, .ref ma_23, .ref ma_25, .ref ma_27, .ref ma_29, .ref ma_31, .int 0, .int 0, .ref ma_33, .int 0, .int 0, .ref ma_35, .ref ma_37, .int 0, .ref ma_39, .ref ma_41, .int 0, .ref ma_43, .ref ma_45, .int 0, .ref ma_47, .ref ma_49, .int 0]))]) (hS : va_S (fun q : Nat => s.heap.size ≤ q) s.heap H locs) (ls : Array Slot) (hl : lv_has ls 4 [(3, .int 0), (2, .ref m0), (1, .ref x0), (0, .ref b)]) : W p l e room_1 s m #[Value.ref b] below meth c H locs 56 3153 (lw_Z below #[Value.ref b] s) (F0 m 258 ls []) := by
  obtain ⟨hx, hb, hr, hml, hown, hts, hX, hbl, hlocks, hgv⟩ := id C0
  have hN := nw_start hts
  have hts : ∀ w ∈ BG, w.before _ s = true := fun w h => hts w (BG_lw h)
  have hown : s.vm.findClass RL = some m.cls := hown
  have hA : ∀ q : Nat, s.heap.size ≤ q → (fun q : Nat => s.heap.size ≤ q) q := fun _ h => h
  have hbA : ¬ (fun q : Nat => s.heap.size ≤ q) b := Nat.not_le.mpr hbl
  refine lv_aload_n hx hb dL_law_258 rfl (lv_at hl 2 rfl) ?_
  refine lv_aload_n hx hb dL_law_259 rfl (lv_at hl 3 rfl) ?_
  refine lv_iload_n hx hb dL_law_260 rfl (lv_at hl 0 rfl) ?_
  refine lv_iconst (v := 1) hx hb dL_law_261 (by decide) ?_
  refine lv_iadd hx hb dL_law_262 ?_
  refine hx_top (y := 1) (by decide) ?_
  refine va_sld hx hb hX hbl hbA hS (show vp_in 1 5 by unfold vp_in; decide) dL_law_263 ?_
  refine hx_top (y := (xs 1)) rfl ?_
  refine lv_aload_n hx hb dL_law_264 rfl (lv_at hl 3 rfl) ?_
  refine lv_iload_n hx hb dL_law_265 rfl (lv_at hl 0 rfl) ?_
  refine lv_iconst (v := 2) hx hb dL_law_266 (by decide) ?_
  refine lv_iadd hx hb dL_law_267 ?_
  refine hx_top (y := 2) (by decide) ?_
  refine va_sld hx hb hX hbl hbA hS (show vp_in 2 5 by unfold vp_in; decide) dL_law_268 ?_
  refine hx_top (y := (xs 2)) rfl ?_
  have hPc := hP.sub (ws' := [(x0, .inr (7, [.ref xq_1, .ref xq_20, .ref xq_24, .ref xq_32, .ref xq_36, .ref xq_48])), (xq_1, .inr (1, [.ref xa_3, .ref xa_5, .ref xa_7, .ref xa_9, .ref xa_11, .ref xq_13, .int 0, .int 0]))]) [0, 1] rfl
  have hDc := hD.sub (ws' := [(x0, .inr (7, [.ref xq_1, .ref xq_20, .ref xq_24, .ref xq_32, .ref xq_36, .ref xq_48])), (xq_1, .inr (1, [.ref xa_3, .ref xa_5, .ref xa_7, .ref xa_9, .ref xa_11, .ref xq_13, .int 0, .int 0]))]) [0, 1] (by decide) rfl
  have hKc := hK.sub (tys' := []) [] rfl
  refine va_calli (va_runV (As := [.int (xs 1), .int (xs 2)]) (rest := []) ⟨hx, hb, hml, hown, hts⟩ (x_of l dC dI H.size x0 xq_1 (.ref xq_20) (.ref xq_24) (.ref xq_32) (.ref xq_36) (.ref xq_48) (.ref xa_3) (.ref xa_5) (.ref xa_7) (.ref xa_9) (.ref xa_11) (.ref xq_13) (.int 0) (xs 1) (xs 2)) (cwV 2 hts (gV mw_2_37 mw_2_38 mw_2_39 mw_1_1 mw_2_40) rfl rfl rfl (by decide +kernel) ⟨Nat.le_of_ble_eq_true rfl, Nat.le_of_ble_eq_true rfl⟩) ⟨pcW_blind, va_recv hKc hPc (ci := 7) (q0 := 0) rfl rfl, pcW_at hPc hKc hDc hN⟩ rfl rfl hl.1 rfl (lv_room (Nat.le_of_ble_eq_true rfl)) dL_law_269 ⟨Nat.le_of_ble_eq_true rfl, Nat.le_of_ble_eq_true rfl⟩) hS (fun q h1 h2 => absurd h2 (Nat.not_le.mpr h1)) (fun q h => hA q (Nat.le_trans hS.1 h)) (fun r_1 u t H1 locs ht hvm hw_1 hB hz1 hk1 hS => ?_)
  have hP := keepP hP hk1
  clear hz1 hk1 hB ht hvm hPc hDc hKc
  generalize H1 = H at hP hS ⊢
  obtain rfl : r_1 = (-1) := hw_1
  refine lv_aload_n hx hb dL_law_272 rfl (lv_at hl 1 rfl) ?_
  refine lv_aload_n hx hb dL_law_273 rfl (lv_at hl 3 rfl) ?_
  refine lv_iload_n hx hb dL_law_274 rfl (lv_at hl 0 rfl) ?_
  refine lv_iconst (v := 1) hx hb dL_law_275 (by decide) ?_
  refine lv_iadd hx hb dL_law_276 ?_
  refine hx_top (y := 1) (by decide) ?_
  refine va_sld hx hb hX hbl hbA hS (show vp_in 1 5 by unfold vp_in; decide) dL_law_277 ?_
  refine hx_top (y := (xs 1)) rfl ?_
  refine lv_aload_n hx hb dL_law_278 rfl (lv_at hl 3 rfl) ?_
  refine lv_iload_n hx hb dL_law_279 rfl (lv_at hl 0 rfl) ?_
  refine lv_iconst (v := 2) hx hb dL_law_280 (by decide) ?_
  refine lv_iadd hx hb dL_law_281 ?_
  refine hx_top (y := 2) (by decide) ?_
  refine va_sld hx hb hX hbl hbA hS (show vp_in 2 5 by unfold vp_in; decide) dL_law_282 ?_
  refine hx_top (y := (xs 2)) rfl ?_
  have hPc := hP.sub (ws' := [(m0, .inr (8, [.ref ma_1, .ref ma_3, .ref ma_5, .ref ma_7, .int 0, .ref ma_9, .ref ma_11, .ref ma_13, .ref ma_15, .ref ma_17, .ref ma_19, .int 0, .ref ma_21, .ref ma_23, .ref ma_25, .ref ma_27, .ref ma_29, .ref ma_31, .int 0, .int 0, .ref ma_33, .int 0, .int 0, .ref ma_35, .ref ma_37, .int 0, .ref ma_39, .ref ma_41, .int 0, .ref ma_43, .ref ma_45, .int 0, .ref ma_47, .ref ma_49, .int 0]))]) [2] rfl
  have hDc := hD.sub (ws' := [(m0, .inr (8, [.ref ma_1, .ref ma_3, .ref ma_5, .ref ma_7, .int 0, .ref ma_9, .ref ma_11, .ref ma_13, .ref ma_15, .ref ma_17, .ref ma_19, .int 0, .ref ma_21, .ref ma_23, .ref ma_25, .ref ma_27, .ref ma_29, .ref ma_31, .int 0, .int 0, .ref ma_33, .int 0, .int 0, .ref ma_35, .ref ma_37, .int 0, .ref ma_39, .ref ma_41, .int 0, .ref ma_43, .ref ma_45, .int 0, .ref ma_47, .ref ma_49, .int 0]))]) [2] (by decide) rfl
  have hKc := hK.sub (tys' := []) [] rfl
  refine va_calli (va_runV (As := [.int (xs 1), .int (xs 2)]) (rest := [.int (-1)]) ⟨hx, hb, hml, hown, hts⟩ (m_of l dC dI H.size m0 (.ref ma_1) (.ref ma_3) (.ref ma_5) (.ref ma_7) (.ref ma_9) (.ref ma_11) (.ref ma_13) (.ref ma_15) (.ref ma_17) (.ref ma_19) (.int 0) (.ref ma_21) (.ref ma_23) (.ref ma_25) (.ref ma_27) (.ref ma_29) (.ref ma_31) (.int 0) (.int 0) (.ref ma_33) (.int 0) (.int 0) (.ref ma_35) (.ref ma_37) (.int 0) (.ref ma_39) (.ref ma_41) (.int 0) (.ref ma_43) (.ref ma_45) (.int 0) (.ref ma_47) (.ref ma_49) (.int 0) (xs 1) (xs 2)) (cwV 2 hts (gV mw_4_77 mw_4_78 mw_4_79 mw_1_9 mw_4_80) rfl rfl rfl (by decide +kernel) ⟨Nat.le_of_ble_eq_true rfl, Nat.le_of_ble_eq_true rfl⟩) ⟨pcW_blind, va_recv hKc hPc (ci := 8) (q0 := 0) rfl rfl, pcW_at hPc hKc hDc hN⟩ rfl rfl hl.1 rfl (lv_room (Nat.le_of_ble_eq_true rfl)) dL_law_283 ⟨Nat.le_of_ble_eq_true rfl, Nat.le_of_ble_eq_true rfl⟩) hS (fun q h1 h2 => absurd h2 (Nat.not_le.mpr h1)) (fun q h => hA q (Nat.le_trans hS.1 h)) (fun r_2 u t H1 locs ht hvm hw_2 hB hz1 hk1 hS => ?_)
  have hP := keepP hP hk1
  clear hz1 hk1 hB ht hvm hPc hDc hKc
  generalize H1 = H at hP hS ⊢
  obtain rfl : r_2 = (-1) := hw_2
  refine lv_icmp_eq (tgt := 983) hx hb dL_law_286 (by decide) (fun _ => ?_) (fun h => absurd (by decide) h)
  exact law_end l C0 hS ls (lv_sub hl [0, 3] rfl)
set_option maxHeartbeats 4000000 in
set_option maxRecDepth 100000 in
theorem lc_3 {p : Program} {e : Env} {s : State} {m : MethodId} {below : List Frame} {meth : Method} {c : Code} (l : Launch) {b : Nat} {xs : Nat → Int32} {dC : Nat → ClassId} {dI : Nat → Nat → Nat} {x0 : Nat} {xq_1 : Nat} {xq_20 : Nat} {xq_24 : Nat} {xq_32 : Nat} {xq_36 : Nat} {xq_48 : Nat} {xa_3 : Nat} {xa_5 : Nat} {xa_7 : Nat} {xa_9 : Nat} {xa_11 : Nat} {xq_13 : Nat} {m0 : Nat} {ma_1 : Nat} {ma_3 : Nat} {ma_5 : Nat} {ma_7 : Nat} {ma_9 : Nat} {ma_11 : Nat} {ma_13 : Nat} {ma_15 : Nat} {ma_17 : Nat} {ma_19 : Nat} {ma_21 : Nat} {ma_23 : Nat} {ma_25 : Nat} {ma_27 : Nat} {ma_29 : Nat} {ma_31 : Nat} {ma_33 : Nat} {ma_35 : Nat} {ma_37 : Nat} {ma_39 : Nat} {ma_41 : Nat} {ma_43 : Nat} {ma_45 : Nat} {ma_47 : Nat} {ma_49 : Nat} (C0 : lw_At p s m meth c b 5 xs) {H : Heap} {locs : List Loc} (hK : va_K (dC, dI) vwCl [] s) (hP : va_P (dC, dI) vwCl [(x0, .inr (7, [.ref xq_1, .ref xq_20, .ref xq_24, .ref xq_32, .ref xq_36, .ref xq_48])), (xq_1, .inr (1, [.ref xa_3, .ref xa_5, .ref xa_7, .ref xa_9, .ref xa_11, .ref xq_13, .int 0, .int 0])), (m0, .inr (8, [.ref ma_1, .ref ma_3, .ref ma_5, .ref ma_7, .int 0, .ref ma_9, .ref ma_11, .ref ma_13, .ref ma_15, .ref ma_17, .ref ma_19, .int 0, .ref ma_21, .ref ma_23, .ref ma_25, .ref ma_27, .ref ma_29, .ref ma_31, .int 0, .int 0, .ref ma_33, .int 0, .int 0, .ref ma_35, .ref ma_37, .int 0, .ref ma_39, .ref ma_41, .int 0, .ref ma_43, .ref ma_45, .int 0, .ref ma_47, .ref ma_49, .int 0]))] H) (hD : va_D (fun q : Nat => s.heap.size ≤ q) [(x0, .inr (7, [.ref xq_1, .ref xq_20, .ref xq_24, .ref xq_32, .ref xq_36, .ref xq_48])), (xq_1, .inr (1, [.ref xa_3, .ref xa_5, .ref xa_7, .ref xa_9, .ref xa_11, .ref xq_13, .int 0, .int 0])), (m0, .inr (8, [.ref ma_1, .ref ma_3, .ref ma_5, .ref ma_7, .int 0, .ref ma_9, .ref ma_11, .ref ma_13, .ref ma_15, .ref ma_17, .ref ma_19, .int 0, .ref ma_21, .ref ma_23, .ref ma_25, .ref ma_27, .ref ma_29, .ref ma_31, .int 0, .int 0, .ref ma_33, .int 0, .int 0, .ref ma_35, .ref ma_37, .int 0, .ref ma_39, .ref ma_41, .int 0, .ref ma_43, .ref ma_45, .int 0, .ref ma_47, .ref ma_49, .int 0]))]) (hS : va_S (fun q : Nat => s.heap.size ≤ q) s.heap H locs) (ls : Array Slot) (hl : lv_has ls 4 [(3, .int 0), (2, .ref m0), (1, .ref x0), (0, .ref b)]) : W p l e room_1 s m #[Value.ref b] below meth c H locs 56 3153 (lw_Z below #[Value.ref b] s) (F0 m 291 ls []) := by
  obtain ⟨hx, hb, hr, hml, hown, hts, hX, hbl, hlocks, hgv⟩ := id C0
  have hN := nw_start hts
  have hts : ∀ w ∈ BG, w.before _ s = true := fun w h => hts w (BG_lw h)
  have hown : s.vm.findClass RL = some m.cls := hown
  have hA : ∀ q : Nat, s.heap.size ≤ q → (fun q : Nat => s.heap.size ≤ q) q := fun _ h => h
  have hbA : ¬ (fun q : Nat => s.heap.size ≤ q) b := Nat.not_le.mpr hbl
  refine lv_aload_n hx hb dL_law_291 rfl (lv_at hl 2 rfl) ?_
  refine lv_aload_n hx hb dL_law_292 rfl (lv_at hl 3 rfl) ?_
  refine lv_iload_n hx hb dL_law_293 rfl (lv_at hl 0 rfl) ?_
  refine lv_iconst (v := 1) hx hb dL_law_294 (by decide) ?_
  refine lv_iadd hx hb dL_law_295 ?_
  refine hx_top (y := 1) (by decide) ?_
  refine va_sld hx hb hX hbl hbA hS (show vp_in 1 5 by unfold vp_in; decide) dL_law_296 ?_
  refine hx_top (y := (xs 1)) rfl ?_
  refine lv_aload_n hx hb dL_law_297 rfl (lv_at hl 3 rfl) ?_
  refine lv_iload_n hx hb dL_law_298 rfl (lv_at hl 0 rfl) ?_
  refine lv_iconst (v := 2) hx hb dL_law_299 (by decide) ?_
  refine lv_iadd hx hb dL_law_300 ?_
  refine hx_top (y := 2) (by decide) ?_
  refine va_sld hx hb hX hbl hbA hS (show vp_in 2 5 by unfold vp_in; decide) dL_law_301 ?_
  refine hx_top (y := (xs 2)) rfl ?_
  have hPc := hP.sub (ws' := [(x0, .inr (7, [.ref xq_1, .ref xq_20, .ref xq_24, .ref xq_32, .ref xq_36, .ref xq_48])), (xq_1, .inr (1, [.ref xa_3, .ref xa_5, .ref xa_7, .ref xa_9, .ref xa_11, .ref xq_13, .int 0, .int 0]))]) [0, 1] rfl
  have hDc := hD.sub (ws' := [(x0, .inr (7, [.ref xq_1, .ref xq_20, .ref xq_24, .ref xq_32, .ref xq_36, .ref xq_48])), (xq_1, .inr (1, [.ref xa_3, .ref xa_5, .ref xa_7, .ref xa_9, .ref xa_11, .ref xq_13, .int 0, .int 0]))]) [0, 1] (by decide) rfl
  have hKc := hK.sub (tys' := []) [] rfl
  refine va_calli (va_runV (As := [.int (xs 1), .int (xs 2)]) (rest := []) ⟨hx, hb, hml, hown, hts⟩ (x_line l dC dI H.size x0 xq_1 (.ref xq_20) (.ref xq_24) (.ref xq_32) (.ref xq_36) (.ref xq_48) (.ref xa_3) (.ref xa_5) (.ref xa_7) (.ref xa_9) (.ref xa_11) (.ref xq_13) (.int 0) (xs 1) (xs 2)) (cwV 2 hts (gV mw_2_46 mw_2_47 mw_2_48 mw_1_1 mw_2_49) rfl rfl rfl (by decide +kernel) ⟨Nat.le_of_ble_eq_true rfl, Nat.le_of_ble_eq_true rfl⟩) ⟨pcW_blind, va_recv hKc hPc (ci := 7) (q0 := 0) rfl rfl, pcW_at hPc hKc hDc hN⟩ rfl rfl hl.1 rfl (lv_room (Nat.le_of_ble_eq_true rfl)) dL_law_302 ⟨Nat.le_of_ble_eq_true rfl, Nat.le_of_ble_eq_true rfl⟩) hS (fun q h1 h2 => absurd h2 (Nat.not_le.mpr h1)) (fun q h => hA q (Nat.le_trans hS.1 h)) (fun r_1 u t H1 locs ht hvm hw_1 hB hz1 hk1 hS => ?_)
  have hP := keepP hP hk1
  clear hz1 hk1 hB ht hvm hPc hDc hKc
  generalize H1 = H at hP hS ⊢
  obtain rfl : r_1 = (-1) := hw_1
  refine lv_aload_n hx hb dL_law_305 rfl (lv_at hl 1 rfl) ?_
  refine lv_aload_n hx hb dL_law_306 rfl (lv_at hl 3 rfl) ?_
  refine lv_iload_n hx hb dL_law_307 rfl (lv_at hl 0 rfl) ?_
  refine lv_iconst (v := 1) hx hb dL_law_308 (by decide) ?_
  refine lv_iadd hx hb dL_law_309 ?_
  refine hx_top (y := 1) (by decide) ?_
  refine va_sld hx hb hX hbl hbA hS (show vp_in 1 5 by unfold vp_in; decide) dL_law_310 ?_
  refine hx_top (y := (xs 1)) rfl ?_
  refine lv_aload_n hx hb dL_law_311 rfl (lv_at hl 3 rfl) ?_
  refine lv_iload_n hx hb dL_law_312 rfl (lv_at hl 0 rfl) ?_
  refine lv_iconst (v := 2) hx hb dL_law_313 (by decide) ?_
  refine lv_iadd hx hb dL_law_314 ?_
  refine hx_top (y := 2) (by decide) ?_
  refine va_sld hx hb hX hbl hbA hS (show vp_in 2 5 by unfold vp_in; decide) dL_law_315 ?_
  refine hx_top (y := (xs 2)) rfl ?_
  have hPc := hP.sub (ws' := [(m0, .inr (8, [.ref ma_1, .ref ma_3, .ref ma_5, .ref ma_7, .int 0, .ref ma_9, .ref ma_11, .ref ma_13, .ref ma_15, .ref ma_17, .ref ma_19, .int 0, .ref ma_21, .ref ma_23, .ref ma_25, .ref ma_27, .ref ma_29, .ref ma_31, .int 0, .int 0, .ref ma_33, .int 0, .int 0, .ref ma_35, .ref ma_37, .int 0, .ref ma_39, .ref ma_41, .int 0, .ref ma_43, .ref ma_45, .int 0, .ref ma_47, .ref ma_49, .int 0]))]) [2] rfl
  have hDc := hD.sub (ws' := [(m0, .inr (8, [.ref ma_1, .ref ma_3, .ref ma_5, .ref ma_7, .int 0, .ref ma_9, .ref ma_11, .ref ma_13, .ref ma_15, .ref ma_17, .ref ma_19, .int 0, .ref ma_21, .ref ma_23, .ref ma_25, .ref ma_27, .ref ma_29, .ref ma_31, .int 0, .int 0, .ref ma_33, .int 0, .int 0, .ref ma_35, .ref ma_37, .int 0, .ref ma_39, .ref ma_41, .int 0, .ref ma_43, .ref ma_45, .int 0, .ref ma_47, .ref ma_49, .int 0]))]) [2] (by decide) rfl
  have hKc := hK.sub (tys' := []) [] rfl
  refine va_calli (va_runV (As := [.int (xs 1), .int (xs 2)]) (rest := [.int (-1)]) ⟨hx, hb, hml, hown, hts⟩ (m_line l dC dI H.size m0 (.ref ma_1) (.ref ma_3) (.ref ma_5) (.ref ma_7) (.ref ma_9) (.ref ma_11) (.ref ma_13) (.ref ma_15) (.ref ma_17) (.ref ma_19) (.int 0) (.ref ma_21) (.ref ma_23) (.ref ma_25) (.ref ma_27) (.ref ma_29) (.ref ma_31) (.int 0) (.int 0) (.ref ma_33) (.int 0) (.int 0) (.ref ma_35) (.ref ma_37) (.int 0) (.ref ma_39) (.ref ma_41) (.int 0) (.ref ma_43) (.ref ma_45) (.int 0) (.ref ma_47) (.ref ma_49) (.int 0) (xs 1) (xs 2)) (cwV 2 hts (gV mw_4_85 mw_4_86 mw_4_87 mw_1_9 mw_4_88) rfl rfl rfl (by decide +kernel) ⟨Nat.le_of_ble_eq_true rfl, Nat.le_of_ble_eq_true rfl⟩) ⟨pcW_blind, va_recv hKc hPc (ci := 8) (q0 := 0) rfl rfl, pcW_at hPc hKc hDc hN⟩ rfl rfl hl.1 rfl (lv_room (Nat.le_of_ble_eq_true rfl)) dL_law_316 ⟨Nat.le_of_ble_eq_true rfl, Nat.le_of_ble_eq_true rfl⟩) hS (fun q h1 h2 => absurd h2 (Nat.not_le.mpr h1)) (fun q h => hA q (Nat.le_trans hS.1 h)) (fun r_2 u t H1 locs ht hvm hw_2 hB hz1 hk1 hS => ?_)
  have hP := keepP hP hk1
  clear hz1 hk1 hB ht hvm hPc hDc hKc
  generalize H1 = H at hP hS ⊢
  obtain rfl : r_2 = (-1) := hw_2
  refine lv_icmp_eq (tgt := 983) hx hb dL_law_319 (by decide) (fun _ => ?_) (fun h => absurd (by decide) h)
  exact law_end l C0 hS ls (lv_sub hl [0, 3] rfl)
set_option maxHeartbeats 4000000 in
set_option maxRecDepth 100000 in
theorem lc_4 {p : Program} {e : Env} {s : State} {m : MethodId} {below : List Frame} {meth : Method} {c : Code} (l : Launch) {b : Nat} {xs : Nat → Int32} {dC : Nat → ClassId} {dI : Nat → Nat → Nat} {x0 : Nat} {xq_1 : Nat} {xq_20 : Nat} {xq_24 : Nat} {xq_32 : Nat} {xq_36 : Nat} {xq_48 : Nat} {xa_3 : Nat} {xa_5 : Nat} {xa_7 : Nat} {xa_9 : Nat} {xa_11 : Nat} {xq_13 : Nat} {m0 : Nat} {ma_1 : Nat} {ma_3 : Nat} {ma_5 : Nat} {ma_7 : Nat} {ma_9 : Nat} {ma_11 : Nat} {ma_13 : Nat} {ma_15 : Nat} {ma_17 : Nat} {ma_19 : Nat} {ma_21 : Nat} {ma_23 : Nat} {ma_25 : Nat} {ma_27 : Nat} {ma_29 : Nat} {ma_31 : Nat} {ma_33 : Nat} {ma_35 : Nat} {ma_37 : Nat} {ma_39 : Nat} {ma_41 : Nat} {ma_43 : Nat} {ma_45 : Nat} {ma_47 : Nat} {ma_49 : Nat} (C0 : lw_At p s m meth c b 5 xs) {H : Heap} {locs : List Loc} (hK : va_K (dC, dI) vwCl [] s) (hP : va_P (dC, dI) vwCl [(x0, .inr (7, [.ref xq_1, .ref xq_20, .ref xq_24, .ref xq_32, .ref xq_36, .ref xq_48])), (xq_1, .inr (1, [.ref xa_3, .ref xa_5, .ref xa_7, .ref xa_9, .ref xa_11, .ref xq_13, .int 0, .int 0])), (m0, .inr (8, [.ref ma_1, .ref ma_3, .ref ma_5, .ref ma_7, .int 0, .ref ma_9, .ref ma_11, .ref ma_13, .ref ma_15, .ref ma_17, .ref ma_19, .int 0, .ref ma_21, .ref ma_23, .ref ma_25, .ref ma_27, .ref ma_29, .ref ma_31, .int 0, .int 0, .ref ma_33, .int 0, .int 0, .ref ma_35, .ref ma_37, .int 0, .ref ma_39, .ref ma_41, .int 0, .ref ma_43, .ref ma_45, .int 0, .ref ma_47, .ref ma_49, .int 0]))] H) (hD : va_D (fun q : Nat => s.heap.size ≤ q) [(x0, .inr (7, [.ref xq_1, .ref xq_20, .ref xq_24, .ref xq_32, .ref xq_36, .ref xq_48])), (xq_1, .inr (1, [.ref xa_3, .ref xa_5, .ref xa_7, .ref xa_9, .ref xa_11, .ref xq_13, .int 0, .int 0])), (m0, .inr (8, [.ref ma_1, .ref ma_3, .ref ma_5, .ref ma_7, .int 0, .ref ma_9, .ref ma_11, .ref ma_13, .ref ma_15, .ref ma_17, .ref ma_19, .int 0, .ref ma_21, .ref ma_23, .ref ma_25, .ref ma_27, .ref ma_29, .ref ma_31, .int 0, .int 0, .ref ma_33, .int 0, .int 0, .ref ma_35, .ref ma_37, .int 0, .ref ma_39, .ref ma_41, .int 0, .ref ma_43, .ref ma_45, .int 0, .ref ma_47, .ref ma_49, .int 0]))]) (hS : va_S (fun q : Nat => s.heap.size ≤ q) s.heap H locs) (ls : Array Slot) (hl : lv_has ls 4 [(3, .int 0), (2, .ref m0), (1, .ref x0), (0, .ref b)]) : W p l e room_1 s m #[Value.ref b] below meth c H locs 56 3153 (lw_Z below #[Value.ref b] s) (F0 m 324 ls []) := by
  obtain ⟨hx, hb, hr, hml, hown, hts, hX, hbl, hlocks, hgv⟩ := id C0
  have hN := nw_start hts
  have hts : ∀ w ∈ BG, w.before _ s = true := fun w h => hts w (BG_lw h)
  have hown : s.vm.findClass RL = some m.cls := hown
  have hA : ∀ q : Nat, s.heap.size ≤ q → (fun q : Nat => s.heap.size ≤ q) q := fun _ h => h
  have hbA : ¬ (fun q : Nat => s.heap.size ≤ q) b := Nat.not_le.mpr hbl
  refine lv_aload_n hx hb dL_law_324 rfl (lv_at hl 2 rfl) ?_
  refine lv_aload_n hx hb dL_law_325 rfl (lv_at hl 3 rfl) ?_
  refine lv_iload_n hx hb dL_law_326 rfl (lv_at hl 0 rfl) ?_
  refine lv_iconst (v := 1) hx hb dL_law_327 (by decide) ?_
  refine lv_iadd hx hb dL_law_328 ?_
  refine hx_top (y := 1) (by decide) ?_
  refine va_sld hx hb hX hbl hbA hS (show vp_in 1 5 by unfold vp_in; decide) dL_law_329 ?_
  refine hx_top (y := (xs 1)) rfl ?_
  have hPc := hP.sub (ws' := [(x0, .inr (7, [.ref xq_1, .ref xq_20, .ref xq_24, .ref xq_32, .ref xq_36, .ref xq_48])), (xq_1, .inr (1, [.ref xa_3, .ref xa_5, .ref xa_7, .ref xa_9, .ref xa_11, .ref xq_13, .int 0, .int 0]))]) [0, 1] rfl
  have hDc := hD.sub (ws' := [(x0, .inr (7, [.ref xq_1, .ref xq_20, .ref xq_24, .ref xq_32, .ref xq_36, .ref xq_48])), (xq_1, .inr (1, [.ref xa_3, .ref xa_5, .ref xa_7, .ref xa_9, .ref xa_11, .ref xq_13, .int 0, .int 0]))]) [0, 1] (by decide) rfl
  have hKc := hK.sub (tys' := []) [] rfl
  refine va_calli (va_runV (As := [.int (xs 1)]) (rest := []) ⟨hx, hb, hml, hown, hts⟩ (x_quarrel l dC dI H.size x0 xq_1 (.ref xq_20) (.ref xq_24) (.ref xq_32) (.ref xq_36) (.ref xq_48) (.ref xa_3) (.ref xa_5) (.ref xa_7) (.ref xa_9) (.ref xa_11) (.ref xq_13) (.int 0) (xs 1)) (cwV 1 hts (gV mw_2_53 mw_2_54 mw_2_55 mw_1_1 mw_2_56) rfl rfl rfl (by decide +kernel) ⟨Nat.le_of_ble_eq_true rfl, Nat.le_of_ble_eq_true rfl⟩) ⟨pcW_blind, va_recv hKc hPc (ci := 7) (q0 := 0) rfl rfl, pcW_at hPc hKc hDc hN⟩ rfl rfl hl.1 rfl (lv_room (Nat.le_of_ble_eq_true rfl)) dL_law_330 ⟨Nat.le_of_ble_eq_true rfl, Nat.le_of_ble_eq_true rfl⟩) hS (fun q h1 h2 => absurd h2 (Nat.not_le.mpr h1)) (fun q h => hA q (Nat.le_trans hS.1 h)) (fun r_1 u t H1 locs ht hvm hw_1 hB hz1 hk1 hS => ?_)
  have hP := keepP hP hk1
  clear hz1 hk1 hB ht hvm hPc hDc hKc
  generalize H1 = H at hP hS ⊢
  obtain rfl : r_1 = (-1) := hw_1
  refine lv_aload_n hx hb dL_law_333 rfl (lv_at hl 1 rfl) ?_
  refine lv_aload_n hx hb dL_law_334 rfl (lv_at hl 3 rfl) ?_
  refine lv_iload_n hx hb dL_law_335 rfl (lv_at hl 0 rfl) ?_
  refine lv_iconst (v := 1) hx hb dL_law_336 (by decide) ?_
  refine lv_iadd hx hb dL_law_337 ?_
  refine hx_top (y := 1) (by decide) ?_
  refine va_sld hx hb hX hbl hbA hS (show vp_in 1 5 by unfold vp_in; decide) dL_law_338 ?_
  refine hx_top (y := (xs 1)) rfl ?_
  have hPc := hP.sub (ws' := [(m0, .inr (8, [.ref ma_1, .ref ma_3, .ref ma_5, .ref ma_7, .int 0, .ref ma_9, .ref ma_11, .ref ma_13, .ref ma_15, .ref ma_17, .ref ma_19, .int 0, .ref ma_21, .ref ma_23, .ref ma_25, .ref ma_27, .ref ma_29, .ref ma_31, .int 0, .int 0, .ref ma_33, .int 0, .int 0, .ref ma_35, .ref ma_37, .int 0, .ref ma_39, .ref ma_41, .int 0, .ref ma_43, .ref ma_45, .int 0, .ref ma_47, .ref ma_49, .int 0]))]) [2] rfl
  have hDc := hD.sub (ws' := [(m0, .inr (8, [.ref ma_1, .ref ma_3, .ref ma_5, .ref ma_7, .int 0, .ref ma_9, .ref ma_11, .ref ma_13, .ref ma_15, .ref ma_17, .ref ma_19, .int 0, .ref ma_21, .ref ma_23, .ref ma_25, .ref ma_27, .ref ma_29, .ref ma_31, .int 0, .int 0, .ref ma_33, .int 0, .int 0, .ref ma_35, .ref ma_37, .int 0, .ref ma_39, .ref ma_41, .int 0, .ref ma_43, .ref ma_45, .int 0, .ref ma_47, .ref ma_49, .int 0]))]) [2] (by decide) rfl
  have hKc := hK.sub (tys' := []) [] rfl
  refine va_calli (va_runV (As := [.int (xs 1)]) (rest := [.int (-1)]) ⟨hx, hb, hml, hown, hts⟩ (m_quarrel l dC dI H.size m0 (.ref ma_1) (.ref ma_3) (.ref ma_5) (.ref ma_7) (.ref ma_9) (.ref ma_11) (.ref ma_13) (.ref ma_15) (.ref ma_17) (.ref ma_19) (.int 0) (.ref ma_21) (.ref ma_23) (.ref ma_25) (.ref ma_27) (.ref ma_29) (.ref ma_31) (.int 0) (.int 0) (.ref ma_33) (.int 0) (.int 0) (.ref ma_35) (.ref ma_37) (.int 0) (.ref ma_39) (.ref ma_41) (.int 0) (.ref ma_43) (.ref ma_45) (.int 0) (.ref ma_47) (.ref ma_49) (.int 0) (xs 1)) (cwV 1 hts (gV mw_4_89 mw_4_90 mw_4_91 mw_1_9 mw_4_92) rfl rfl rfl (by decide +kernel) ⟨Nat.le_of_ble_eq_true rfl, Nat.le_of_ble_eq_true rfl⟩) ⟨pcW_blind, va_recv hKc hPc (ci := 8) (q0 := 0) rfl rfl, pcW_at hPc hKc hDc hN⟩ rfl rfl hl.1 rfl (lv_room (Nat.le_of_ble_eq_true rfl)) dL_law_339 ⟨Nat.le_of_ble_eq_true rfl, Nat.le_of_ble_eq_true rfl⟩) hS (fun q h1 h2 => absurd h2 (Nat.not_le.mpr h1)) (fun q h => hA q (Nat.le_trans hS.1 h)) (fun r_2 u t H1 locs ht hvm hw_2 hB hz1 hk1 hS => ?_)
  have hP := keepP hP hk1
  clear hz1 hk1 hB ht hvm hPc hDc hKc
  generalize H1 = H at hP hS ⊢
  obtain rfl : r_2 = (-1) := hw_2
  refine lv_icmp_eq (tgt := 983) hx hb dL_law_342 (by decide) (fun _ => ?_) (fun h => absurd (by decide) h)
  exact law_end l C0 hS ls (lv_sub hl [0, 3] rfl)
set_option maxHeartbeats 4000000 in
set_option maxRecDepth 100000 in
theorem lc_5 {p : Program} {e : Env} {s : State} {m : MethodId} {below : List Frame} {meth : Method} {c : Code} (l : Launch) {b : Nat} {xs : Nat → Int32} {dC : Nat → ClassId} {dI : Nat → Nat → Nat} {x0 : Nat} {xq_1 : Nat} {xq_20 : Nat} {xq_24 : Nat} {xq_32 : Nat} {xq_36 : Nat} {xq_48 : Nat} {xa_22 : Nat} {xk_23 : ClassId} {m0 : Nat} {ma_1 : Nat} {ma_3 : Nat} {ma_5 : Nat} {ma_7 : Nat} {ma_9 : Nat} {ma_11 : Nat} {ma_13 : Nat} {ma_15 : Nat} {ma_17 : Nat} {ma_19 : Nat} {ma_21 : Nat} {ma_23 : Nat} {ma_25 : Nat} {ma_27 : Nat} {ma_29 : Nat} {ma_31 : Nat} {ma_33 : Nat} {ma_35 : Nat} {ma_37 : Nat} {ma_39 : Nat} {ma_41 : Nat} {ma_43 : Nat} {ma_45 : Nat} {ma_47 : Nat} {ma_49 : Nat} {mk_22 : ClassId} {mk_24 : ClassId} (C0 : lw_At p s m meth c b 5 xs) {H : Heap} {locs : List Loc} (hK : va_K (dC, dI) vwCl [(xk_23, .char), (mk_22, .int), (mk_24, .int)] s) (hP : va_P (dC, dI) vwCl [(x0, .inr (7, [.ref xq_1, .ref xq_20, .ref xq_24, .ref xq_32, .ref xq_36, .ref xq_48])), (xq_20, .inr (2, [.ref xa_22, .int 0])), (xa_22, .inl (xk_23, 12, .inl (fun _ => 0))), (m0, .inr (8, [.ref ma_1, .ref ma_3, .ref ma_5, .ref ma_7, .int 0, .ref ma_9, .ref ma_11, .ref ma_13, .ref ma_15, .ref ma_17, .ref ma_19, .int 0, .ref ma_21, .ref ma_23, .ref ma_25, .ref ma_27, .ref ma_29, .ref ma_31, .int 0, .int 0, .ref ma_33, .int 0, .int 0, .ref ma_35, .ref ma_37, .int 0, .ref ma_39, .ref ma_41, .int 0, .ref ma_43, .ref ma_45, .int 0, .ref ma_47, .ref ma_49, .int 0])), (ma_21, .inl (mk_22, 972, .inl (fun _ => 0))), (ma_23, .inl (mk_24, 81, .inl (fun _ => 0)))] H) (hD : va_D (fun q : Nat => s.heap.size ≤ q) [(x0, .inr (7, [.ref xq_1, .ref xq_20, .ref xq_24, .ref xq_32, .ref xq_36, .ref xq_48])), (xq_20, .inr (2, [.ref xa_22, .int 0])), (xa_22, .inl (xk_23, 12, .inl (fun _ => 0))), (m0, .inr (8, [.ref ma_1, .ref ma_3, .ref ma_5, .ref ma_7, .int 0, .ref ma_9, .ref ma_11, .ref ma_13, .ref ma_15, .ref ma_17, .ref ma_19, .int 0, .ref ma_21, .ref ma_23, .ref ma_25, .ref ma_27, .ref ma_29, .ref ma_31, .int 0, .int 0, .ref ma_33, .int 0, .int 0, .ref ma_35, .ref ma_37, .int 0, .ref ma_39, .ref ma_41, .int 0, .ref ma_43, .ref ma_45, .int 0, .ref ma_47, .ref ma_49, .int 0])), (ma_21, .inl (mk_22, 972, .inl (fun _ => 0))), (ma_23, .inl (mk_24, 81, .inl (fun _ => 0)))]) (hS : va_S (fun q : Nat => s.heap.size ≤ q) s.heap H locs) (ls : Array Slot) (hl : lv_has ls 4 [(3, .int 0), (2, .ref m0), (1, .ref x0), (0, .ref b)]) : W p l e room_1 s m #[Value.ref b] below meth c H locs 56 3153 (lw_Z below #[Value.ref b] s) (F0 m 347 ls []) := by
  obtain ⟨hx, hb, hr, hml, hown, hts, hX, hbl, hlocks, hgv⟩ := id C0
  have hN := nw_start hts
  have hts : ∀ w ∈ BG, w.before _ s = true := fun w h => hts w (BG_lw h)
  have hown : s.vm.findClass RL = some m.cls := hown
  have hA : ∀ q : Nat, s.heap.size ≤ q → (fun q : Nat => s.heap.size ≤ q) q := fun _ h => h
  have hbA : ¬ (fun q : Nat => s.heap.size ≤ q) b := Nat.not_le.mpr hbl
  refine lv_aload_n hx hb dL_law_347 rfl (lv_at hl 2 rfl) ?_
  refine lv_aload_n hx hb dL_law_348 rfl (lv_at hl 3 rfl) ?_
  refine lv_iload_n hx hb dL_law_349 rfl (lv_at hl 0 rfl) ?_
  refine lv_iconst (v := 1) hx hb dL_law_350 (by decide) ?_
  refine lv_iadd hx hb dL_law_351 ?_
  refine hx_top (y := 1) (by decide) ?_
  refine va_sld hx hb hX hbl hbA hS (show vp_in 1 5 by unfold vp_in; decide) dL_law_352 ?_
  refine hx_top (y := (xs 1)) rfl ?_
  have hPc := hP.sub (ws' := [(x0, .inr (7, [.ref xq_1, .ref xq_20, .ref xq_24, .ref xq_32, .ref xq_36, .ref xq_48])), (xq_20, .inr (2, [.ref xa_22, .int 0])), (xa_22, .inl (xk_23, 12, .inl (fun _ => 0)))]) [0, 1, 2] rfl
  have hDc := hD.sub (ws' := [(x0, .inr (7, [.ref xq_1, .ref xq_20, .ref xq_24, .ref xq_32, .ref xq_36, .ref xq_48])), (xq_20, .inr (2, [.ref xa_22, .int 0])), (xa_22, .inl (xk_23, 12, .inl (fun _ => 0)))]) [0, 1, 2] (by decide) rfl
  have hKc := hK.sub (tys' := [(xk_23, .char)]) [0] rfl
  have hFc := va_free (wc := [(x0, .inr (7, [.ref xq_1, .ref xq_20, .ref xq_24, .ref xq_32, .ref xq_36, .ref xq_48])), (xq_20, .inr (2, [.ref xa_22, .int 0])), (xa_22, .inl (xk_23, 12, .inl (fun _ => 0)))]) hD hS hA [0, 1, 2] rfl
  refine va_calli (va_runV (As := [.int (xs 1)]) (rest := []) ⟨hx, hb, hml, hown, hts⟩ (x_say l dC dI H.size x0 (.ref xq_1) xq_20 (.ref xq_24) (.ref xq_32) (.ref xq_36) (.ref xq_48) xa_22 xk_23 (xs 1)) (cwV 1 hts (gV mw_2_61 mw_2_62 mw_2_63 mw_1_1 mw_2_64) rfl rfl rfl (by decide +kernel) ⟨Nat.le_of_ble_eq_true rfl, Nat.le_of_ble_eq_true rfl⟩) ⟨pcW_blind, va_recv hKc hPc (ci := 7) (q0 := 0) rfl rfl, pcW_at hPc hKc hDc hN⟩ rfl rfl hl.1 rfl (lv_room (Nat.le_of_ble_eq_true rfl)) dL_law_353 ⟨Nat.le_of_ble_eq_true rfl, Nat.le_of_ble_eq_true rfl⟩) hS (fun q _ h => hFc q h) hFc (fun r_1 u t H1 locs ht hvm hw_1 hB hz1 hk1 hS => ?_)
  obtain ⟨hP, hD⟩ := va_join (wr := [(m0, .inr (8, [.ref ma_1, .ref ma_3, .ref ma_5, .ref ma_7, .int 0, .ref ma_9, .ref ma_11, .ref ma_13, .ref ma_15, .ref ma_17, .ref ma_19, .int 0, .ref ma_21, .ref ma_23, .ref ma_25, .ref ma_27, .ref ma_29, .ref ma_31, .int 0, .int 0, .ref ma_33, .int 0, .int 0, .ref ma_35, .ref ma_37, .int 0, .ref ma_39, .ref ma_41, .int 0, .ref ma_43, .ref ma_45, .int 0, .ref ma_47, .ref ma_49, .int 0])), (ma_21, .inl (mk_22, 972, .inl (fun _ => 0))), (ma_23, .inl (mk_24, 81, .inl (fun _ => 0)))]) (w1 := []) hP hD [0, 1, 2] [3, 4, 5] rfl rfl (by decide) (by decide) hk1 hFc nilP nilD
  rw [List.append_nil] at hP hD
  clear hz1 hk1 hPc hDc hKc hFc
  generalize H1 = H at hP hS ⊢
  have hK : va_K (dC, dI) vwCl [(xk_23, .char), (mk_22, .int), (mk_24, .int)] s := hK
  have hP : va_P (dC, dI) vwCl [(m0, .inr (8, [.ref ma_1, .ref ma_3, .ref ma_5, .ref ma_7, .int 0, .ref ma_9, .ref ma_11, .ref ma_13, .ref ma_15, .ref ma_17, .ref ma_19, .int 0, .ref ma_21, .ref ma_23, .ref ma_25, .ref ma_27, .ref ma_29, .ref ma_31, .int 0, .int 0, .ref ma_33, .int 0, .int 0, .ref ma_35, .ref ma_37, .int 0, .ref ma_39, .ref ma_41, .int 0, .ref ma_43, .ref ma_45, .int 0, .ref ma_47, .ref ma_49, .int 0])), (ma_21, .inl (mk_22, 972, .inl (fun _ => 0))), (ma_23, .inl (mk_24, 81, .inl (fun _ => 0)))] H := hP
  have hD : va_D (fun q : Nat => s.heap.size ≤ q) [(m0, .inr (8, [.ref ma_1, .ref ma_3, .ref ma_5, .ref ma_7, .int 0, .ref ma_9, .ref ma_11, .ref ma_13, .ref ma_15, .ref ma_17, .ref ma_19, .int 0, .ref ma_21, .ref ma_23, .ref ma_25, .ref ma_27, .ref ma_29, .ref ma_31, .int 0, .int 0, .ref ma_33, .int 0, .int 0, .ref ma_35, .ref ma_37, .int 0, .ref ma_39, .ref ma_41, .int 0, .ref ma_43, .ref ma_45, .int 0, .ref ma_47, .ref ma_49, .int 0])), (ma_21, .inl (mk_22, 972, .inl (fun _ => 0))), (ma_23, .inl (mk_24, 81, .inl (fun _ => 0)))] := hD
  refine lv_aload_n hx hb dL_law_356 rfl (lv_at hl 1 rfl) ?_
  refine lv_aload_n hx hb dL_law_357 rfl (lv_at hl 3 rfl) ?_
  refine lv_iload_n hx hb dL_law_358 rfl (lv_at hl 0 rfl) ?_
  refine lv_iconst (v := 1) hx hb dL_law_359 (by decide) ?_
  refine lv_iadd hx hb dL_law_360 ?_
  refine hx_top (y := 1) (by decide) ?_
  refine va_sld hx hb hX hbl hbA hS (show vp_in 1 5 by unfold vp_in; decide) dL_law_361 ?_
  refine hx_top (y := (xs 1)) rfl ?_
  have hPc := hP.sub (ws' := [(m0, .inr (8, [.ref ma_1, .ref ma_3, .ref ma_5, .ref ma_7, .int 0, .ref ma_9, .ref ma_11, .ref ma_13, .ref ma_15, .ref ma_17, .ref ma_19, .int 0, .ref ma_21, .ref ma_23, .ref ma_25, .ref ma_27, .ref ma_29, .ref ma_31, .int 0, .int 0, .ref ma_33, .int 0, .int 0, .ref ma_35, .ref ma_37, .int 0, .ref ma_39, .ref ma_41, .int 0, .ref ma_43, .ref ma_45, .int 0, .ref ma_47, .ref ma_49, .int 0])), (ma_21, .inl (mk_22, 972, .inl (fun _ => 0))), (ma_23, .inl (mk_24, 81, .inl (fun _ => 0)))]) [0, 1, 2] rfl
  have hDc := hD.sub (ws' := [(m0, .inr (8, [.ref ma_1, .ref ma_3, .ref ma_5, .ref ma_7, .int 0, .ref ma_9, .ref ma_11, .ref ma_13, .ref ma_15, .ref ma_17, .ref ma_19, .int 0, .ref ma_21, .ref ma_23, .ref ma_25, .ref ma_27, .ref ma_29, .ref ma_31, .int 0, .int 0, .ref ma_33, .int 0, .int 0, .ref ma_35, .ref ma_37, .int 0, .ref ma_39, .ref ma_41, .int 0, .ref ma_43, .ref ma_45, .int 0, .ref ma_47, .ref ma_49, .int 0])), (ma_21, .inl (mk_22, 972, .inl (fun _ => 0))), (ma_23, .inl (mk_24, 81, .inl (fun _ => 0)))]) [0, 1, 2] (by decide) rfl
  have hKc := hK.sub (tys' := [(mk_22, .int), (mk_24, .int)]) [1, 2] rfl
  have hFc := va_free (wc := [(m0, .inr (8, [.ref ma_1, .ref ma_3, .ref ma_5, .ref ma_7, .int 0, .ref ma_9, .ref ma_11, .ref ma_13, .ref ma_15, .ref ma_17, .ref ma_19, .int 0, .ref ma_21, .ref ma_23, .ref ma_25, .ref ma_27, .ref ma_29, .ref ma_31, .int 0, .int 0, .ref ma_33, .int 0, .int 0, .ref ma_35, .ref ma_37, .int 0, .ref ma_39, .ref ma_41, .int 0, .ref ma_43, .ref ma_45, .int 0, .ref ma_47, .ref ma_49, .int 0])), (ma_21, .inl (mk_22, 972, .inl (fun _ => 0))), (ma_23, .inl (mk_24, 81, .inl (fun _ => 0)))]) hD hS hA [0, 1, 2] rfl
  refine va_calli (va_runV (As := [.int (xs 1)]) (rest := [.int r_1]) ⟨hx, hb, hml, hown, hts⟩ (m_say l dC dI H.size m0 (.ref ma_1) (.ref ma_3) (.ref ma_5) (.ref ma_7) (.int 0) (.ref ma_9) (.ref ma_11) (.ref ma_13) (.ref ma_15) (.ref ma_17) (.ref ma_19) (.int 0) ma_21 ma_23 (.ref ma_25) (.ref ma_27) (.ref ma_29) (.ref ma_31) (.int 0) (.int 0) (.ref ma_33) (.int 0) (.int 0) (.ref ma_35) (.ref ma_37) (.int 0) (.ref ma_39) (.ref ma_41) (.int 0) (.ref ma_43) (.ref ma_45) (.int 0) (.ref ma_47) (.ref ma_49) (.int 0) mk_22 mk_24 (xs 1)) (cwV 1 hts (gV mw_4_93 mw_4_94 mw_4_95 mw_1_9 mw_4_96) rfl rfl rfl (by decide +kernel) ⟨Nat.le_of_ble_eq_true rfl, Nat.le_of_ble_eq_true rfl⟩) ⟨pcW_blind, va_recv hKc hPc (ci := 8) (q0 := 0) rfl rfl, pcW_at hPc hKc hDc hN⟩ rfl rfl hl.1 rfl (lv_room (Nat.le_of_ble_eq_true rfl)) dL_law_362 ⟨Nat.le_of_ble_eq_true rfl, Nat.le_of_ble_eq_true rfl⟩) hS (fun q _ h => hFc q h) hFc (fun r_2 u t H1 locs ht hvm hw_2 hB hz1 hk1 hS => ?_)
  obtain ⟨hP, hD⟩ := va_join (wr := []) (w1 := []) hP hD [0, 1, 2] [] rfl rfl (by decide) (by decide) hk1 hFc nilP nilD
  rw [List.append_nil] at hP hD
  clear hz1 hk1 hPc hDc hKc hFc
  generalize H1 = H at hP hS ⊢
  have hK : va_K (dC, dI) vwCl [(xk_23, .char), (mk_22, .int), (mk_24, .int)] s := hK
  have hP : va_P (dC, dI) vwCl [] H := hP
  have hD : va_D (fun q : Nat => s.heap.size ≤ q) [] := hD
  refine lv_icmp_eq (tgt := 983) hx hb dL_law_365 (by decide) (fun _ => ?_) (fun h => absurd (hw_1.trans hw_2.symm) h)
  exact law_end l C0 hS ls (lv_sub hl [0, 3] rfl)
set_option maxHeartbeats 4000000 in
set_option maxRecDepth 100000 in
theorem lc_6 {p : Program} {e : Env} {s : State} {m : MethodId} {below : List Frame} {meth : Method} {c : Code} (l : Launch) {b : Nat} {xs : Nat → Int32} {dC : Nat → ClassId} {dI : Nat → Nat → Nat} {x0 : Nat} {xq_1 : Nat} {xq_20 : Nat} {xq_24 : Nat} {xq_32 : Nat} {xq_36 : Nat} {xq_48 : Nat} {xa_22 : Nat} {m0 : Nat} {ma_1 : Nat} {ma_3 : Nat} {ma_5 : Nat} {ma_7 : Nat} {ma_9 : Nat} {ma_11 : Nat} {ma_13 : Nat} {ma_15 : Nat} {ma_17 : Nat} {ma_19 : Nat} {ma_21 : Nat} {ma_23 : Nat} {ma_25 : Nat} {ma_27 : Nat} {ma_29 : Nat} {ma_31 : Nat} {ma_33 : Nat} {ma_35 : Nat} {ma_37 : Nat} {ma_39 : Nat} {ma_41 : Nat} {ma_43 : Nat} {ma_45 : Nat} {ma_47 : Nat} {ma_49 : Nat} {mk_24 : ClassId} (C0 : lw_At p s m meth c b 5 xs) {H : Heap} {locs : List Loc} (hK : va_K (dC, dI) vwCl [(mk_24, .int)] s) (hP : va_P (dC, dI) vwCl [(x0, .inr (7, [.ref xq_1, .ref xq_20, .ref xq_24, .ref xq_32, .ref xq_36, .ref xq_48])), (xq_20, .inr (2, [.ref xa_22, .int 0])), (m0, .inr (8, [.ref ma_1, .ref ma_3, .ref ma_5, .ref ma_7, .int 0, .ref ma_9, .ref ma_11, .ref ma_13, .ref ma_15, .ref ma_17, .ref ma_19, .int 0, .ref ma_21, .ref ma_23, .ref ma_25, .ref ma_27, .ref ma_29, .ref ma_31, .int 0, .int 0, .ref ma_33, .int 0, .int 0, .ref ma_35, .ref ma_37, .int 0, .ref ma_39, .ref ma_41, .int 0, .ref ma_43, .ref ma_45, .int 0, .ref ma_47, .ref ma_49, .int 0])), (ma_23, .inl (mk_24, 81, .inl (fun _ => 0)))] H) (hD : va_D (fun q : Nat => s.heap.size ≤ q) [(x0, .inr (7, [.ref xq_1, .ref xq_20, .ref xq_24, .ref xq_32, .ref xq_36, .ref xq_48])), (xq_20, .inr (2, [.ref xa_22, .int 0])), (m0, .inr (8, [.ref ma_1, .ref ma_3, .ref ma_5, .ref ma_7, .int 0, .ref ma_9, .ref ma_11, .ref ma_13, .ref ma_15, .ref ma_17, .ref ma_19, .int 0, .ref ma_21, .ref ma_23, .ref ma_25, .ref ma_27, .ref ma_29, .ref ma_31, .int 0, .int 0, .ref ma_33, .int 0, .int 0, .ref ma_35, .ref ma_37, .int 0, .ref ma_39, .ref ma_41, .int 0, .ref ma_43, .ref ma_45, .int 0, .ref ma_47, .ref ma_49, .int 0])), (ma_23, .inl (mk_24, 81, .inl (fun _ => 0)))]) (hS : va_S (fun q : Nat => s.heap.size ≤ q) s.heap H locs) (ls : Array Slot) (hl : lv_has ls 4 [(3, .int 0), (2, .ref m0), (1, .ref x0), (0, .ref b)]) : W p l e room_1 s m #[Value.ref b] below meth c H locs 56 3153 (lw_Z below #[Value.ref b] s) (F0 m 370 ls []) := by
  obtain ⟨hx, hb, hr, hml, hown, hts, hX, hbl, hlocks, hgv⟩ := id C0
  have hN := nw_start hts
  have hts : ∀ w ∈ BG, w.before _ s = true := fun w h => hts w (BG_lw h)
  have hown : s.vm.findClass RL = some m.cls := hown
  have hA : ∀ q : Nat, s.heap.size ≤ q → (fun q : Nat => s.heap.size ≤ q) q := fun _ h => h
  have hbA : ¬ (fun q : Nat => s.heap.size ≤ q) b := Nat.not_le.mpr hbl
  refine lv_aload_n hx hb dL_law_370 rfl (lv_at hl 2 rfl) ?_
  have hPc := hP.sub (ws' := [(x0, .inr (7, [.ref xq_1, .ref xq_20, .ref xq_24, .ref xq_32, .ref xq_36, .ref xq_48])), (xq_20, .inr (2, [.ref xa_22, .int 0]))]) [0, 1] rfl
  have hDc := hD.sub (ws' := [(x0, .inr (7, [.ref xq_1, .ref xq_20, .ref xq_24, .ref xq_32, .ref xq_36, .ref xq_48])), (xq_20, .inr (2, [.ref xa_22, .int 0]))]) [0, 1] (by decide) rfl
  have hKc := hK.sub (tys' := []) [] rfl
  have hFc := va_free (wc := [(x0, .inr (7, [.ref xq_1, .ref xq_20, .ref xq_24, .ref xq_32, .ref xq_36, .ref xq_48])), (xq_20, .inr (2, [.ref xa_22, .int 0]))]) hD hS hA [0, 1] rfl
  refine va_calli (va_runV (As := []) (rest := []) ⟨hx, hb, hml, hown, hts⟩ (x_wipe l dC dI H.size x0 (.ref xq_1) xq_20 (.ref xq_24) (.ref xq_32) (.ref xq_36) (.ref xq_48) (.ref xa_22)) (cwV 0 hts (gV mw_2_74 mw_2_75 mw_2_76 mw_1_1 mw_2_77) rfl rfl rfl (by decide +kernel) ⟨Nat.le_of_ble_eq_true rfl, Nat.le_of_ble_eq_true rfl⟩) ⟨pcW_blind, va_recv hKc hPc (ci := 7) (q0 := 0) rfl rfl, pcW_at hPc hKc hDc hN⟩ rfl rfl hl.1 rfl (lv_room (Nat.le_of_ble_eq_true rfl)) dL_law_371 ⟨Nat.le_of_ble_eq_true rfl, Nat.le_of_ble_eq_true rfl⟩) hS (fun q _ h => hFc q h) hFc (fun r_1 u t H1 locs ht hvm hw_1 hB hz1 hk1 hS => ?_)
  obtain ⟨hP, hD⟩ := va_join (wr := [(m0, .inr (8, [.ref ma_1, .ref ma_3, .ref ma_5, .ref ma_7, .int 0, .ref ma_9, .ref ma_11, .ref ma_13, .ref ma_15, .ref ma_17, .ref ma_19, .int 0, .ref ma_21, .ref ma_23, .ref ma_25, .ref ma_27, .ref ma_29, .ref ma_31, .int 0, .int 0, .ref ma_33, .int 0, .int 0, .ref ma_35, .ref ma_37, .int 0, .ref ma_39, .ref ma_41, .int 0, .ref ma_43, .ref ma_45, .int 0, .ref ma_47, .ref ma_49, .int 0])), (ma_23, .inl (mk_24, 81, .inl (fun _ => 0)))]) (w1 := []) hP hD [0, 1] [2, 3] rfl rfl (by decide) (by decide) hk1 hFc nilP nilD
  rw [List.append_nil] at hP hD
  clear hz1 hk1 hPc hDc hKc hFc
  generalize H1 = H at hP hS ⊢
  have hK : va_K (dC, dI) vwCl [(mk_24, .int)] s := hK
  have hP : va_P (dC, dI) vwCl [(m0, .inr (8, [.ref ma_1, .ref ma_3, .ref ma_5, .ref ma_7, .int 0, .ref ma_9, .ref ma_11, .ref ma_13, .ref ma_15, .ref ma_17, .ref ma_19, .int 0, .ref ma_21, .ref ma_23, .ref ma_25, .ref ma_27, .ref ma_29, .ref ma_31, .int 0, .int 0, .ref ma_33, .int 0, .int 0, .ref ma_35, .ref ma_37, .int 0, .ref ma_39, .ref ma_41, .int 0, .ref ma_43, .ref ma_45, .int 0, .ref ma_47, .ref ma_49, .int 0])), (ma_23, .inl (mk_24, 81, .inl (fun _ => 0)))] H := hP
  have hD : va_D (fun q : Nat => s.heap.size ≤ q) [(m0, .inr (8, [.ref ma_1, .ref ma_3, .ref ma_5, .ref ma_7, .int 0, .ref ma_9, .ref ma_11, .ref ma_13, .ref ma_15, .ref ma_17, .ref ma_19, .int 0, .ref ma_21, .ref ma_23, .ref ma_25, .ref ma_27, .ref ma_29, .ref ma_31, .int 0, .int 0, .ref ma_33, .int 0, .int 0, .ref ma_35, .ref ma_37, .int 0, .ref ma_39, .ref ma_41, .int 0, .ref ma_43, .ref ma_45, .int 0, .ref ma_47, .ref ma_49, .int 0])), (ma_23, .inl (mk_24, 81, .inl (fun _ => 0)))] := hD
  obtain rfl : r_1 = 0 := hw_1
  refine lv_aload_n hx hb dL_law_374 rfl (lv_at hl 1 rfl) ?_
  have hPc := hP.sub (ws' := [(m0, .inr (8, [.ref ma_1, .ref ma_3, .ref ma_5, .ref ma_7, .int 0, .ref ma_9, .ref ma_11, .ref ma_13, .ref ma_15, .ref ma_17, .ref ma_19, .int 0, .ref ma_21, .ref ma_23, .ref ma_25, .ref ma_27, .ref ma_29, .ref ma_31, .int 0, .int 0, .ref ma_33, .int 0, .int 0, .ref ma_35, .ref ma_37, .int 0, .ref ma_39, .ref ma_41, .int 0, .ref ma_43, .ref ma_45, .int 0, .ref ma_47, .ref ma_49, .int 0])), (ma_23, .inl (mk_24, 81, .inl (fun _ => 0)))]) [0, 1] rfl
  have hDc := hD.sub (ws' := [(m0, .inr (8, [.ref ma_1, .ref ma_3, .ref ma_5, .ref ma_7, .int 0, .ref ma_9, .ref ma_11, .ref ma_13, .ref ma_15, .ref ma_17, .ref ma_19, .int 0, .ref ma_21, .ref ma_23, .ref ma_25, .ref ma_27, .ref ma_29, .ref ma_31, .int 0, .int 0, .ref ma_33, .int 0, .int 0, .ref ma_35, .ref ma_37, .int 0, .ref ma_39, .ref ma_41, .int 0, .ref ma_43, .ref ma_45, .int 0, .ref ma_47, .ref ma_49, .int 0])), (ma_23, .inl (mk_24, 81, .inl (fun _ => 0)))]) [0, 1] (by decide) rfl
  have hKc := hK.sub (tys' := [(mk_24, .int)]) [0] rfl
  have hFc := va_free (wc := [(m0, .inr (8, [.ref ma_1, .ref ma_3, .ref ma_5, .ref ma_7, .int 0, .ref ma_9, .ref ma_11, .ref ma_13, .ref ma_15, .ref ma_17, .ref ma_19, .int 0, .ref ma_21, .ref ma_23, .ref ma_25, .ref ma_27, .ref ma_29, .ref ma_31, .int 0, .int 0, .ref ma_33, .int 0, .int 0, .ref ma_35, .ref ma_37, .int 0, .ref ma_39, .ref ma_41, .int 0, .ref ma_43, .ref ma_45, .int 0, .ref ma_47, .ref ma_49, .int 0])), (ma_23, .inl (mk_24, 81, .inl (fun _ => 0)))]) hD hS hA [0, 1] rfl
  refine va_calli (va_runV (As := []) (rest := [.int 0]) ⟨hx, hb, hml, hown, hts⟩ (m_wipe l dC dI H.size m0 (.ref ma_1) (.ref ma_3) (.ref ma_5) (.ref ma_7) (.int 0) (.ref ma_9) (.ref ma_11) (.ref ma_13) (.ref ma_15) (.ref ma_17) (.ref ma_19) (.int 0) (.ref ma_21) ma_23 (.ref ma_25) (.ref ma_27) (.ref ma_29) (.ref ma_31) (.int 0) (.int 0) (.ref ma_33) (.int 0) (.int 0) (.ref ma_35) (.ref ma_37) (.int 0) (.ref ma_39) (.ref ma_41) (.int 0) (.ref ma_43) (.ref ma_45) (.int 0) (.ref ma_47) (.ref ma_49) (.int 0) mk_24) (cwV 0 hts (gV mw_4_99 mw_4_100 mw_4_101 mw_1_9 mw_4_102) rfl rfl rfl (by decide +kernel) ⟨Nat.le_of_ble_eq_true rfl, Nat.le_of_ble_eq_true rfl⟩) ⟨pcW_blind, va_recv hKc hPc (ci := 8) (q0 := 0) rfl rfl, pcW_at hPc hKc hDc hN⟩ rfl rfl hl.1 rfl (lv_room (Nat.le_of_ble_eq_true rfl)) dL_law_375 ⟨Nat.le_of_ble_eq_true rfl, Nat.le_of_ble_eq_true rfl⟩) hS (fun q _ h => hFc q h) hFc (fun r_2 u t H1 locs ht hvm hw_2 hB hz1 hk1 hS => ?_)
  obtain ⟨hP, hD⟩ := va_join (wr := []) (w1 := []) hP hD [0, 1] [] rfl rfl (by decide) (by decide) hk1 hFc nilP nilD
  rw [List.append_nil] at hP hD
  clear hz1 hk1 hPc hDc hKc hFc
  generalize H1 = H at hP hS ⊢
  have hK : va_K (dC, dI) vwCl [(mk_24, .int)] s := hK
  have hP : va_P (dC, dI) vwCl [] H := hP
  have hD : va_D (fun q : Nat => s.heap.size ≤ q) [] := hD
  obtain rfl : r_2 = 0 := hw_2
  refine lv_icmp_eq (tgt := 983) hx hb dL_law_378 (by decide) (fun _ => ?_) (fun h => absurd (by decide) h)
  exact law_end l C0 hS ls (lv_sub hl [0, 3] rfl)
set_option maxHeartbeats 4000000 in
set_option maxRecDepth 100000 in
theorem lc_7 {p : Program} {e : Env} {s : State} {m : MethodId} {below : List Frame} {meth : Method} {c : Code} (l : Launch) {b : Nat} {xs : Nat → Int32} {dC : Nat → ClassId} {dI : Nat → Nat → Nat} {x0 : Nat} {xq_1 : Nat} {xq_20 : Nat} {xq_24 : Nat} {xq_32 : Nat} {xq_36 : Nat} {xq_48 : Nat} {xa_22 : Nat} {m0 : Nat} {ma_1 : Nat} {ma_3 : Nat} {ma_5 : Nat} {ma_7 : Nat} {ma_9 : Nat} {ma_11 : Nat} {ma_13 : Nat} {ma_15 : Nat} {ma_17 : Nat} {ma_19 : Nat} {ma_21 : Nat} {ma_23 : Nat} {ma_25 : Nat} {ma_27 : Nat} {ma_29 : Nat} {ma_31 : Nat} {ma_33 : Nat} {ma_35 : Nat} {ma_37 : Nat} {ma_39 : Nat} {ma_41 : Nat} {ma_43 : Nat} {ma_45 : Nat} {ma_47 : Nat} {ma_49 : Nat} {mk_24 : ClassId} (C0 : lw_At p s m meth c b 5 xs) {H : Heap} {locs : List Loc} (hK : va_K (dC, dI) vwCl [(mk_24, .int)] s) (hP : va_P (dC, dI) vwCl [(x0, .inr (7, [.ref xq_1, .ref xq_20, .ref xq_24, .ref xq_32, .ref xq_36, .ref xq_48])), (xq_20, .inr (2, [.ref xa_22, .int 0])), (m0, .inr (8, [.ref ma_1, .ref ma_3, .ref ma_5, .ref ma_7, .int 0, .ref ma_9, .ref ma_11, .ref ma_13, .ref ma_15, .ref ma_17, .ref ma_19, .int 0, .ref ma_21, .ref ma_23, .ref ma_25, .ref ma_27, .ref ma_29, .ref ma_31, .int 0, .int 0, .ref ma_33, .int 0, .int 0, .ref ma_35, .ref ma_37, .int 0, .ref ma_39, .ref ma_41, .int 0, .ref ma_43, .ref ma_45, .int 0, .ref ma_47, .ref ma_49, .int 0])), (ma_23, .inl (mk_24, 81, .inl (fun _ => 0)))] H) (hD : va_D (fun q : Nat => s.heap.size ≤ q) [(x0, .inr (7, [.ref xq_1, .ref xq_20, .ref xq_24, .ref xq_32, .ref xq_36, .ref xq_48])), (xq_20, .inr (2, [.ref xa_22, .int 0])), (m0, .inr (8, [.ref ma_1, .ref ma_3, .ref ma_5, .ref ma_7, .int 0, .ref ma_9, .ref ma_11, .ref ma_13, .ref ma_15, .ref ma_17, .ref ma_19, .int 0, .ref ma_21, .ref ma_23, .ref ma_25, .ref ma_27, .ref ma_29, .ref ma_31, .int 0, .int 0, .ref ma_33, .int 0, .int 0, .ref ma_35, .ref ma_37, .int 0, .ref ma_39, .ref ma_41, .int 0, .ref ma_43, .ref ma_45, .int 0, .ref ma_47, .ref ma_49, .int 0])), (ma_23, .inl (mk_24, 81, .inl (fun _ => 0)))]) (hS : va_S (fun q : Nat => s.heap.size ≤ q) s.heap H locs) (ls : Array Slot) (hl : lv_has ls 4 [(3, .int 0), (2, .ref m0), (1, .ref x0), (0, .ref b)]) : W p l e room_1 s m #[Value.ref b] below meth c H locs 56 3153 (lw_Z below #[Value.ref b] s) (F0 m 383 ls []) := by
  obtain ⟨hx, hb, hr, hml, hown, hts, hX, hbl, hlocks, hgv⟩ := id C0
  have hN := nw_start hts
  have hts : ∀ w ∈ BG, w.before _ s = true := fun w h => hts w (BG_lw h)
  have hown : s.vm.findClass RL = some m.cls := hown
  have hA : ∀ q : Nat, s.heap.size ≤ q → (fun q : Nat => s.heap.size ≤ q) q := fun _ h => h
  have hbA : ¬ (fun q : Nat => s.heap.size ≤ q) b := Nat.not_le.mpr hbl
  refine lv_aload_n hx hb dL_law_383 rfl (lv_at hl 2 rfl) ?_
  have hPc := hP.sub (ws' := [(x0, .inr (7, [.ref xq_1, .ref xq_20, .ref xq_24, .ref xq_32, .ref xq_36, .ref xq_48])), (xq_20, .inr (2, [.ref xa_22, .int 0]))]) [0, 1] rfl
  have hDc := hD.sub (ws' := [(x0, .inr (7, [.ref xq_1, .ref xq_20, .ref xq_24, .ref xq_32, .ref xq_36, .ref xq_48])), (xq_20, .inr (2, [.ref xa_22, .int 0]))]) [0, 1] (by decide) rfl
  have hKc := hK.sub (tys' := []) [] rfl
  refine va_calli (va_runV (As := []) (rest := []) ⟨hx, hb, hml, hown, hts⟩ (x_fault l dC dI H.size x0 (.ref xq_1) xq_20 (.ref xq_24) (.ref xq_32) (.ref xq_36) (.ref xq_48) (.ref xa_22)) (cwV 0 hts (gV mw_2_82 mw_2_83 mw_2_84 mw_1_1 mw_2_85) rfl rfl rfl (by decide +kernel) ⟨Nat.le_of_ble_eq_true rfl, Nat.le_of_ble_eq_true rfl⟩) ⟨pcW_blind, va_recv hKc hPc (ci := 7) (q0 := 0) rfl rfl, pcW_at hPc hKc hDc hN⟩ rfl rfl hl.1 rfl (lv_room (Nat.le_of_ble_eq_true rfl)) dL_law_384 ⟨Nat.le_of_ble_eq_true rfl, Nat.le_of_ble_eq_true rfl⟩) hS (fun q h1 h2 => absurd h2 (Nat.not_le.mpr h1)) (fun q h => hA q (Nat.le_trans hS.1 h)) (fun r_1 u t H1 locs ht hvm hw_1 hB hz1 hk1 hS => ?_)
  have hP := keepP hP hk1
  clear hz1 hk1 hB ht hvm hPc hDc hKc
  generalize H1 = H at hP hS ⊢
  obtain rfl : r_1 = (-6) := hw_1
  refine lv_aload_n hx hb dL_law_387 rfl (lv_at hl 1 rfl) ?_
  have hPc := hP.sub (ws' := [(m0, .inr (8, [.ref ma_1, .ref ma_3, .ref ma_5, .ref ma_7, .int 0, .ref ma_9, .ref ma_11, .ref ma_13, .ref ma_15, .ref ma_17, .ref ma_19, .int 0, .ref ma_21, .ref ma_23, .ref ma_25, .ref ma_27, .ref ma_29, .ref ma_31, .int 0, .int 0, .ref ma_33, .int 0, .int 0, .ref ma_35, .ref ma_37, .int 0, .ref ma_39, .ref ma_41, .int 0, .ref ma_43, .ref ma_45, .int 0, .ref ma_47, .ref ma_49, .int 0])), (ma_23, .inl (mk_24, 81, .inl (fun _ => 0)))]) [2, 3] rfl
  have hDc := hD.sub (ws' := [(m0, .inr (8, [.ref ma_1, .ref ma_3, .ref ma_5, .ref ma_7, .int 0, .ref ma_9, .ref ma_11, .ref ma_13, .ref ma_15, .ref ma_17, .ref ma_19, .int 0, .ref ma_21, .ref ma_23, .ref ma_25, .ref ma_27, .ref ma_29, .ref ma_31, .int 0, .int 0, .ref ma_33, .int 0, .int 0, .ref ma_35, .ref ma_37, .int 0, .ref ma_39, .ref ma_41, .int 0, .ref ma_43, .ref ma_45, .int 0, .ref ma_47, .ref ma_49, .int 0])), (ma_23, .inl (mk_24, 81, .inl (fun _ => 0)))]) [2, 3] (by decide) rfl
  have hKc := hK.sub (tys' := [(mk_24, .int)]) [0] rfl
  refine va_calli (va_runV (As := []) (rest := [.int (-6)]) ⟨hx, hb, hml, hown, hts⟩ (m_fault l dC dI H.size m0 (.ref ma_1) (.ref ma_3) (.ref ma_5) (.ref ma_7) (.int 0) (.ref ma_9) (.ref ma_11) (.ref ma_13) (.ref ma_15) (.ref ma_17) (.ref ma_19) (.int 0) (.ref ma_21) ma_23 (.ref ma_25) (.ref ma_27) (.ref ma_29) (.ref ma_31) (.int 0) (.int 0) (.ref ma_33) (.int 0) (.int 0) (.ref ma_35) (.ref ma_37) (.int 0) (.ref ma_39) (.ref ma_41) (.int 0) (.ref ma_43) (.ref ma_45) (.int 0) (.ref ma_47) (.ref ma_49) (.int 0) mk_24) (cwV 0 hts (gV mw_4_103 mw_4_104 mw_4_105 mw_1_9 mw_4_106) rfl rfl rfl (by decide +kernel) ⟨Nat.le_of_ble_eq_true rfl, Nat.le_of_ble_eq_true rfl⟩) ⟨pcW_blind, va_recv hKc hPc (ci := 8) (q0 := 0) rfl rfl, pcW_at hPc hKc hDc hN⟩ rfl rfl hl.1 rfl (lv_room (Nat.le_of_ble_eq_true rfl)) dL_law_388 ⟨Nat.le_of_ble_eq_true rfl, Nat.le_of_ble_eq_true rfl⟩) hS (fun q h1 h2 => absurd h2 (Nat.not_le.mpr h1)) (fun q h => hA q (Nat.le_trans hS.1 h)) (fun r_2 u t H1 locs ht hvm hw_2 hB hz1 hk1 hS => ?_)
  have hP := keepP hP hk1
  clear hz1 hk1 hB ht hvm hPc hDc hKc
  generalize H1 = H at hP hS ⊢
  obtain rfl : r_2 = (-6) := hw_2
  refine lv_icmp_eq (tgt := 983) hx hb dL_law_391 (by decide) (fun _ => ?_) (fun h => absurd (by decide) h)
  exact law_end l C0 hS ls (lv_sub hl [0, 3] rfl)
set_option maxHeartbeats 4000000 in
set_option maxRecDepth 100000 in
theorem lc_8 {p : Program} {e : Env} {s : State} {m : MethodId} {below : List Frame} {meth : Method} {c : Code} (l : Launch) {b : Nat} {xs : Nat → Int32} {dC : Nat → ClassId} {dI : Nat → Nat → Nat} {x0 : Nat} {xq_1 : Nat} {xq_20 : Nat} {xq_24 : Nat} {xq_32 : Nat} {xq_36 : Nat} {xq_48 : Nat} {xa_3 : Nat} {xa_5 : Nat} {xa_7 : Nat} {xa_9 : Nat} {xa_11 : Nat} {xq_13 : Nat} {m0 : Nat} {ma_1 : Nat} {ma_3 : Nat} {ma_5 : Nat} {ma_7 : Nat} {ma_9 : Nat} {ma_11 : Nat} {ma_13 : Nat} {ma_15 : Nat} {ma_17 : Nat} {ma_19 : Nat} {ma_21 : Nat} {ma_23 : Nat} {ma_25 : Nat} {ma_27 : Nat} {ma_29 : Nat} {ma_31 : Nat} {ma_33 : Nat} {ma_35 : Nat} {ma_37 : Nat} {ma_39 : Nat} {ma_41 : Nat} {ma_43 : Nat} {ma_45 : Nat} {ma_47 : Nat} {ma_49 : Nat} (C0 : lw_At p s m meth c b 5 xs) {H : Heap} {locs : List Loc} (hK : va_K (dC, dI) vwCl [] s) (hP : va_P (dC, dI) vwCl [(x0, .inr (7, [.ref xq_1, .ref xq_20, .ref xq_24, .ref xq_32, .ref xq_36, .ref xq_48])), (xq_1, .inr (1, [.ref xa_3, .ref xa_5, .ref xa_7, .ref xa_9, .ref xa_11, .ref xq_13, .int 0, .int 0])), (m0, .inr (8, [.ref ma_1, .ref ma_3, .ref ma_5, .ref ma_7, .int 0, .ref ma_9, .ref ma_11, .ref ma_13, .ref ma_15, .ref ma_17, .ref ma_19, .int 0, .ref ma_21, .ref ma_23, .ref ma_25, .ref ma_27, .ref ma_29, .ref ma_31, .int 0, .int 0, .ref ma_33, .int 0, .int 0, .ref ma_35, .ref ma_37, .int 0, .ref ma_39, .ref ma_41, .int 0, .ref ma_43, .ref ma_45, .int 0, .ref ma_47, .ref ma_49, .int 0]))] H) (hD : va_D (fun q : Nat => s.heap.size ≤ q) [(x0, .inr (7, [.ref xq_1, .ref xq_20, .ref xq_24, .ref xq_32, .ref xq_36, .ref xq_48])), (xq_1, .inr (1, [.ref xa_3, .ref xa_5, .ref xa_7, .ref xa_9, .ref xa_11, .ref xq_13, .int 0, .int 0])), (m0, .inr (8, [.ref ma_1, .ref ma_3, .ref ma_5, .ref ma_7, .int 0, .ref ma_9, .ref ma_11, .ref ma_13, .ref ma_15, .ref ma_17, .ref ma_19, .int 0, .ref ma_21, .ref ma_23, .ref ma_25, .ref ma_27, .ref ma_29, .ref ma_31, .int 0, .int 0, .ref ma_33, .int 0, .int 0, .ref ma_35, .ref ma_37, .int 0, .ref ma_39, .ref ma_41, .int 0, .ref ma_43, .ref ma_45, .int 0, .ref ma_47, .ref ma_49, .int 0]))]) (hS : va_S (fun q : Nat => s.heap.size ≤ q) s.heap H locs) (ls : Array Slot) (hl : lv_has ls 4 [(3, .int 0), (2, .ref m0), (1, .ref x0), (0, .ref b)]) : W p l e room_1 s m #[Value.ref b] below meth c H locs 56 3153 (lw_Z below #[Value.ref b] s) (F0 m 396 ls []) := by
  obtain ⟨hx, hb, hr, hml, hown, hts, hX, hbl, hlocks, hgv⟩ := id C0
  have hN := nw_start hts
  have hts : ∀ w ∈ BG, w.before _ s = true := fun w h => hts w (BG_lw h)
  have hown : s.vm.findClass RL = some m.cls := hown
  have hA : ∀ q : Nat, s.heap.size ≤ q → (fun q : Nat => s.heap.size ≤ q) q := fun _ h => h
  have hbA : ¬ (fun q : Nat => s.heap.size ≤ q) b := Nat.not_le.mpr hbl
  refine lv_aload_n hx hb dL_law_396 rfl (lv_at hl 2 rfl) ?_
  refine lv_aload_n hx hb dL_law_397 rfl (lv_at hl 3 rfl) ?_
  refine lv_iload_n hx hb dL_law_398 rfl (lv_at hl 0 rfl) ?_
  refine lv_iconst (v := 1) hx hb dL_law_399 (by decide) ?_
  refine lv_iadd hx hb dL_law_400 ?_
  refine hx_top (y := 1) (by decide) ?_
  refine va_sld hx hb hX hbl hbA hS (show vp_in 1 5 by unfold vp_in; decide) dL_law_401 ?_
  refine hx_top (y := (xs 1)) rfl ?_
  refine lv_aload_n hx hb dL_law_402 rfl (lv_at hl 3 rfl) ?_
  refine lv_iload_n hx hb dL_law_403 rfl (lv_at hl 0 rfl) ?_
  refine lv_iconst (v := 2) hx hb dL_law_404 (by decide) ?_
  refine lv_iadd hx hb dL_law_405 ?_
  refine hx_top (y := 2) (by decide) ?_
  refine va_sld hx hb hX hbl hbA hS (show vp_in 2 5 by unfold vp_in; decide) dL_law_406 ?_
  refine hx_top (y := (xs 2)) rfl ?_
  have hPc := hP.sub (ws' := [(x0, .inr (7, [.ref xq_1, .ref xq_20, .ref xq_24, .ref xq_32, .ref xq_36, .ref xq_48])), (xq_1, .inr (1, [.ref xa_3, .ref xa_5, .ref xa_7, .ref xa_9, .ref xa_11, .ref xq_13, .int 0, .int 0]))]) [0, 1] rfl
  have hDc := hD.sub (ws' := [(x0, .inr (7, [.ref xq_1, .ref xq_20, .ref xq_24, .ref xq_32, .ref xq_36, .ref xq_48])), (xq_1, .inr (1, [.ref xa_3, .ref xa_5, .ref xa_7, .ref xa_9, .ref xa_11, .ref xq_13, .int 0, .int 0]))]) [0, 1] (by decide) rfl
  have hKc := hK.sub (tys' := []) [] rfl
  refine va_calli (va_runV (As := [.int (xs 1), .int (xs 2)]) (rest := []) ⟨hx, hb, hml, hown, hts⟩ (x_has l dC dI H.size x0 xq_1 (.ref xq_20) (.ref xq_24) (.ref xq_32) (.ref xq_36) (.ref xq_48) (.ref xa_3) (.ref xa_5) (.ref xa_7) (.ref xa_9) (.ref xa_11) (.ref xq_13) (.int 0) (xs 1) (xs 2)) (cwV 2 hts (gV mw_2_93 mw_2_94 mw_2_95 mw_1_1 mw_2_96) rfl rfl rfl (by decide +kernel) ⟨Nat.le_of_ble_eq_true rfl, Nat.le_of_ble_eq_true rfl⟩) ⟨pcW_blind, va_recv hKc hPc (ci := 7) (q0 := 0) rfl rfl, pcW_at hPc hKc hDc hN⟩ rfl rfl hl.1 rfl (lv_room (Nat.le_of_ble_eq_true rfl)) dL_law_407 ⟨Nat.le_of_ble_eq_true rfl, Nat.le_of_ble_eq_true rfl⟩) hS (fun q h1 h2 => absurd h2 (Nat.not_le.mpr h1)) (fun q h => hA q (Nat.le_trans hS.1 h)) (fun r_1 u t H1 locs ht hvm hw_1 hB hz1 hk1 hS => ?_)
  have hP := keepP hP hk1
  clear hz1 hk1 hB ht hvm hPc hDc hKc
  generalize H1 = H at hP hS ⊢
  obtain rfl : r_1 = (-1) := hw_1
  refine lv_aload_n hx hb dL_law_410 rfl (lv_at hl 1 rfl) ?_
  refine lv_aload_n hx hb dL_law_411 rfl (lv_at hl 3 rfl) ?_
  refine lv_iload_n hx hb dL_law_412 rfl (lv_at hl 0 rfl) ?_
  refine lv_iconst (v := 1) hx hb dL_law_413 (by decide) ?_
  refine lv_iadd hx hb dL_law_414 ?_
  refine hx_top (y := 1) (by decide) ?_
  refine va_sld hx hb hX hbl hbA hS (show vp_in 1 5 by unfold vp_in; decide) dL_law_415 ?_
  refine hx_top (y := (xs 1)) rfl ?_
  refine lv_aload_n hx hb dL_law_416 rfl (lv_at hl 3 rfl) ?_
  refine lv_iload_n hx hb dL_law_417 rfl (lv_at hl 0 rfl) ?_
  refine lv_iconst (v := 2) hx hb dL_law_418 (by decide) ?_
  refine lv_iadd hx hb dL_law_419 ?_
  refine hx_top (y := 2) (by decide) ?_
  refine va_sld hx hb hX hbl hbA hS (show vp_in 2 5 by unfold vp_in; decide) dL_law_420 ?_
  refine hx_top (y := (xs 2)) rfl ?_
  have hPc := hP.sub (ws' := [(m0, .inr (8, [.ref ma_1, .ref ma_3, .ref ma_5, .ref ma_7, .int 0, .ref ma_9, .ref ma_11, .ref ma_13, .ref ma_15, .ref ma_17, .ref ma_19, .int 0, .ref ma_21, .ref ma_23, .ref ma_25, .ref ma_27, .ref ma_29, .ref ma_31, .int 0, .int 0, .ref ma_33, .int 0, .int 0, .ref ma_35, .ref ma_37, .int 0, .ref ma_39, .ref ma_41, .int 0, .ref ma_43, .ref ma_45, .int 0, .ref ma_47, .ref ma_49, .int 0]))]) [2] rfl
  have hDc := hD.sub (ws' := [(m0, .inr (8, [.ref ma_1, .ref ma_3, .ref ma_5, .ref ma_7, .int 0, .ref ma_9, .ref ma_11, .ref ma_13, .ref ma_15, .ref ma_17, .ref ma_19, .int 0, .ref ma_21, .ref ma_23, .ref ma_25, .ref ma_27, .ref ma_29, .ref ma_31, .int 0, .int 0, .ref ma_33, .int 0, .int 0, .ref ma_35, .ref ma_37, .int 0, .ref ma_39, .ref ma_41, .int 0, .ref ma_43, .ref ma_45, .int 0, .ref ma_47, .ref ma_49, .int 0]))]) [2] (by decide) rfl
  have hKc := hK.sub (tys' := []) [] rfl
  refine va_calli (va_runV (As := [.int (xs 1), .int (xs 2)]) (rest := [.int (-1)]) ⟨hx, hb, hml, hown, hts⟩ (m_has l dC dI H.size m0 (.ref ma_1) (.ref ma_3) (.ref ma_5) (.ref ma_7) (.ref ma_9) (.ref ma_11) (.ref ma_13) (.ref ma_15) (.ref ma_17) (.ref ma_19) (.int 0) (.ref ma_21) (.ref ma_23) (.ref ma_25) (.ref ma_27) (.ref ma_29) (.ref ma_31) (.int 0) (.int 0) (.ref ma_33) (.int 0) (.int 0) (.ref ma_35) (.ref ma_37) (.int 0) (.ref ma_39) (.ref ma_41) (.int 0) (.ref ma_43) (.ref ma_45) (.int 0) (.ref ma_47) (.ref ma_49) (.int 0) (xs 1) (xs 2)) (cwV 2 hts (gV mw_4_111 mw_4_112 mw_4_113 mw_1_9 mw_4_114) rfl rfl rfl (by decide +kernel) ⟨Nat.le_of_ble_eq_true rfl, Nat.le_of_ble_eq_true rfl⟩) ⟨pcW_blind, va_recv hKc hPc (ci := 8) (q0 := 0) rfl rfl, pcW_at hPc hKc hDc hN⟩ rfl rfl hl.1 rfl (lv_room (Nat.le_of_ble_eq_true rfl)) dL_law_421 ⟨Nat.le_of_ble_eq_true rfl, Nat.le_of_ble_eq_true rfl⟩) hS (fun q h1 h2 => absurd h2 (Nat.not_le.mpr h1)) (fun q h => hA q (Nat.le_trans hS.1 h)) (fun r_2 u t H1 locs ht hvm hw_2 hB hz1 hk1 hS => ?_)
  have hP := keepP hP hk1
  clear hz1 hk1 hB ht hvm hPc hDc hKc
  generalize H1 = H at hP hS ⊢
  obtain rfl : r_2 = (-1) := hw_2
  refine lv_icmp_eq (tgt := 983) hx hb dL_law_424 (by decide) (fun _ => ?_) (fun h => absurd (by decide) h)
  exact law_end l C0 hS ls (lv_sub hl [0, 3] rfl)
