set_option maxRecDepth 20000 in
theorem k_0 : (.classLink "BuildGridLaw" 8 "BuildGrid" : Cond) ∈ gBIG := gIn 85 rfl rfl
set_option maxRecDepth 20000 in
theorem k_1 : (.methodLink "BuildGridLaw" 84 ⟨"BuildGrid", "<init>", "()V"⟩ : Cond) ∈ gBIG := gIn 87 rfl rfl
set_option maxRecDepth 20000 in
theorem k_2 : (.methodLink "BuildGrid" 1 ⟨"java/lang/Object", "<init>", "()V"⟩ : Cond) ∈ gBIG := gIn 90 rfl rfl
set_option maxRecDepth 20000 in
theorem k_3 : (.classLink "BuildGrid" 7 "BuildGrid$Sources" : Cond) ∈ gBIG := gIn 93 rfl rfl
set_option maxRecDepth 20000 in
theorem k_4 : (.methodLinkNest "BuildGrid" 9 ⟨"BuildGrid$Sources", "<init>", "()V"⟩ "BuildGrid" : Cond) ∈ gNest := gInN 95 rfl rfl
set_option maxRecDepth 20000 in
theorem k_5 : (.methodLink "BuildGrid$Sources" 3 ⟨"java/lang/Object", "<init>", "()V"⟩ : Cond) ∈ gBIG := gIn 98 rfl rfl
set_option maxRecDepth 20000 in
theorem k_6 : (.fieldLink "BuildGrid$Sources" 9 "BuildGrid$Sources" "files" "[I" : Cond) ∈ gBIG := gIn 99 rfl rfl
set_option maxRecDepth 20000 in
theorem k_7 : (.fieldLink "BuildGrid" 43 "BuildGrid$Sources" "files" "[I" : Cond) ∈ gBIG := gIn 100 rfl rfl
set_option maxRecDepth 20000 in
theorem k_8 : (.fieldLink "BuildGrid$Sources" 15 "BuildGrid$Sources" "settings" "[I" : Cond) ∈ gBIG := gIn 101 rfl rfl
set_option maxRecDepth 20000 in
theorem k_9 : (.fieldLink "BuildGrid" 18 "BuildGrid$Sources" "settings" "[I" : Cond) ∈ gBIG := gIn 102 rfl rfl
set_option maxRecDepth 20000 in
theorem k_10 : (.fieldLink "BuildGrid$Fresh" 21 "BuildGrid$Sources" "versions" "[I" : Cond) ∈ gBIG := gIn 103 rfl rfl
set_option maxRecDepth 20000 in
theorem k_11 : (.fieldLink "BuildGrid$Sources" 18 "BuildGrid$Sources" "versions" "[I" : Cond) ∈ gBIG := gIn 104 rfl rfl
set_option maxRecDepth 20000 in
theorem k_12 : (.fieldLink "BuildGrid" 40 "BuildGrid$Sources" "versions" "[I" : Cond) ∈ gBIG := gIn 105 rfl rfl
set_option maxRecDepth 20000 in
theorem k_13 : (.fieldLink "BuildGrid$Sources" 21 "BuildGrid$Sources" "changedFiles" "[I" : Cond) ∈ gBIG := gIn 106 rfl rfl
set_option maxRecDepth 20000 in
theorem k_14 : (.fieldLink "BuildGrid$Sources" 24 "BuildGrid$Sources" "contentsBefore" "[I" : Cond) ∈ gBIG := gIn 107 rfl rfl
set_option maxRecDepth 20000 in
theorem k_15 : (.fieldLink "BuildGrid$Sources" 35 "BuildGrid$Sources" "kept" "I" : Cond) ∈ gBIG := gIn 108 rfl rfl
set_option maxRecDepth 20000 in
theorem k_16 : (.fieldLink "BuildGrid$Fresh" 42 "BuildGrid$Sources" "kept" "I" : Cond) ∈ gBIG := gIn 109 rfl rfl
set_option maxRecDepth 20000 in
theorem k_17 : (.fieldLink "BuildGrid" 234 "BuildGrid$Sources" "kept" "I" : Cond) ∈ gBIG := gIn 110 rfl rfl
set_option maxRecDepth 20000 in
theorem k_18 : (.classLink "BuildGrid" 16 "BuildGrid$Graph" : Cond) ∈ gBIG := gIn 125 rfl rfl
set_option maxRecDepth 20000 in
theorem k_19 : (.methodLink "BuildGrid" 22 ⟨"BuildGrid$Graph", "<init>", "([I)V"⟩ : Cond) ∈ gBIG := gIn 127 rfl rfl
set_option maxRecDepth 20000 in
theorem k_20 : (.methodLink "BuildGrid$Graph" 3 ⟨"java/lang/Object", "<init>", "()V"⟩ : Cond) ∈ gBIG := gIn 130 rfl rfl
set_option maxRecDepth 20000 in
theorem k_21 : (.classLink "BuildGrid$Graph" 9 "BuildGrid$Target" : Cond) ∈ gBIG := gIn 131 rfl rfl
set_option maxRecDepth 20000 in
theorem k_22 : (.methodLink "BuildGrid$Graph" 24 ⟨"BuildGrid$Target", "<init>", "(I[I)V"⟩ : Cond) ∈ gBIG := gIn 134 rfl rfl
set_option maxRecDepth 20000 in
theorem k_23 : (.methodLink "BuildGrid$Target" 3 ⟨"java/lang/Object", "<init>", "()V"⟩ : Cond) ∈ gBIG := gIn 137 rfl rfl
set_option maxRecDepth 20000 in
theorem k_24 : (.classLink "BuildGrid$Target" 9 "BuildGrid$Action" : Cond) ∈ gBIG := gIn 138 rfl rfl
set_option maxRecDepth 20000 in
theorem k_25 : (.classLink "BuildGrid$Target" 24 "BuildGrid$Inputs" : Cond) ∈ gBIG := gIn 140 rfl rfl
set_option maxRecDepth 20000 in
theorem k_26 : (.methodLink "BuildGrid$Target" 26 ⟨"BuildGrid$Inputs", "<init>", "([I)V"⟩ : Cond) ∈ gBIG := gIn 142 rfl rfl
set_option maxRecDepth 20000 in
theorem k_27 : (.methodLink "BuildGrid$Inputs" 3 ⟨"java/lang/Object", "<init>", "()V"⟩ : Cond) ∈ gBIG := gIn 145 rfl rfl
set_option maxRecDepth 20000 in
theorem k_28 : (.fieldLink "BuildGrid$Inputs" 24 "BuildGrid$Inputs" "settingsOfNow" "[I" : Cond) ∈ gBIG := gIn 146 rfl rfl
set_option maxRecDepth 20000 in
theorem k_29 : (.fieldLink "BuildGrid$Inputs" 9 "BuildGrid$Inputs" "ones" "[I" : Cond) ∈ gBIG := gIn 147 rfl rfl
set_option maxRecDepth 20000 in
theorem k_30 : (.fieldLink "BuildGrid$Inputs" 15 "BuildGrid$Inputs" "others" "[I" : Cond) ∈ gBIG := gIn 148 rfl rfl
set_option maxRecDepth 20000 in
theorem k_31 : (.fieldLink "BuildGrid$Inputs" 18 "BuildGrid$Inputs" "settings" "[I" : Cond) ∈ gBIG := gIn 149 rfl rfl
set_option maxRecDepth 20000 in
theorem k_32 : (.fieldLink "BuildGrid$Inputs" 21 "BuildGrid$Inputs" "values" "[I" : Cond) ∈ gBIG := gIn 150 rfl rfl
set_option maxRecDepth 20000 in
theorem k_33 : (.fieldLink "BuildGrid$Inputs" 27 "BuildGrid$Inputs" "size" "I" : Cond) ∈ gBIG := gIn 151 rfl rfl
set_option maxRecDepth 20000 in
theorem k_34 : (.fieldLink "BuildGrid$View" 45 "BuildGrid$Inputs" "size" "I" : Cond) ∈ gBIG := gIn 152 rfl rfl
set_option maxRecDepth 20000 in
theorem k_35 : (.fieldLink "BuildGrid$Target" 64 "BuildGrid$Inputs" "size" "I" : Cond) ∈ gBIG := gIn 153 rfl rfl
set_option maxRecDepth 20000 in
theorem k_36 : (.fieldLink "BuildGrid$Graph" 59 "BuildGrid$Inputs" "size" "I" : Cond) ∈ gBIG := gIn 154 rfl rfl
set_option maxRecDepth 20000 in
theorem k_37 : (.fieldLink "BuildGrid" 96 "BuildGrid$Inputs" "size" "I" : Cond) ∈ gBIG := gIn 155 rfl rfl
set_option maxRecDepth 20000 in
theorem k_38 : (.methodLink "BuildGrid$Target" 33 ⟨"BuildGrid$Action", "<init>", "(II)V"⟩ : Cond) ∈ gBIG := gIn 170 rfl rfl
set_option maxRecDepth 20000 in
theorem k_39 : (.methodLink "BuildGrid$Action" 3 ⟨"java/lang/Object", "<init>", "()V"⟩ : Cond) ∈ gBIG := gIn 173 rfl rfl
set_option maxRecDepth 20000 in
theorem k_40 : (.fieldLink "BuildGrid$Action" 15 "BuildGrid$Action" "target" "I" : Cond) ∈ gBIG := gIn 174 rfl rfl
set_option maxRecDepth 20000 in
theorem k_41 : (.fieldLink "BuildGrid$Course" 164 "BuildGrid$Action" "target" "I" : Cond) ∈ gBIG := gIn 175 rfl rfl
set_option maxRecDepth 20000 in
theorem k_42 : (.fieldLink "BuildGrid$Action" 18 "BuildGrid$Action" "shard" "I" : Cond) ∈ gBIG := gIn 176 rfl rfl
set_option maxRecDepth 20000 in
theorem k_43 : (.fieldLink "BuildGrid$Course" 167 "BuildGrid$Action" "shard" "I" : Cond) ∈ gBIG := gIn 177 rfl rfl
set_option maxRecDepth 20000 in
theorem k_44 : (.fieldLink "BuildGrid$Action" 9 "BuildGrid$Action" "state" "I" : Cond) ∈ gBIG := gIn 178 rfl rfl
set_option maxRecDepth 20000 in
theorem k_45 : (.fieldLink "BuildGrid$Target" 61 "BuildGrid$Action" "state" "I" : Cond) ∈ gBIG := gIn 179 rfl rfl
set_option maxRecDepth 20000 in
theorem k_46 : (.fieldLink "BuildGrid$Course" 112 "BuildGrid$Action" "state" "I" : Cond) ∈ gBIG := gIn 180 rfl rfl
set_option maxRecDepth 20000 in
theorem k_47 : (.fieldLink "BuildGrid$Graph" 138 "BuildGrid$Action" "state" "I" : Cond) ∈ gBIG := gIn 181 rfl rfl
set_option maxRecDepth 20000 in
theorem k_48 : (.fieldLink "BuildGrid" 213 "BuildGrid$Action" "state" "I" : Cond) ∈ gBIG := gIn 182 rfl rfl
set_option maxRecDepth 20000 in
theorem k_49 : (.fieldLink "BuildGrid$Action" 24 "BuildGrid$Action" "result" "I" : Cond) ∈ gBIG := gIn 183 rfl rfl
set_option maxRecDepth 20000 in
theorem k_50 : (.fieldLink "BuildGrid$Fresh" 72 "BuildGrid$Action" "result" "I" : Cond) ∈ gBIG := gIn 184 rfl rfl
set_option maxRecDepth 20000 in
theorem k_51 : (.fieldLink "BuildGrid$Target" 81 "BuildGrid$Action" "result" "I" : Cond) ∈ gBIG := gIn 185 rfl rfl
set_option maxRecDepth 20000 in
theorem k_52 : (.fieldLink "BuildGrid$Graph" 120 "BuildGrid$Action" "result" "I" : Cond) ∈ gBIG := gIn 186 rfl rfl
set_option maxRecDepth 20000 in
theorem k_53 : (.fieldLink "BuildGrid" 218 "BuildGrid$Action" "result" "I" : Cond) ∈ gBIG := gIn 187 rfl rfl
set_option maxRecDepth 20000 in
theorem k_54 : (.fieldLink "BuildGrid$Action" 27 "BuildGrid$Action" "worker" "I" : Cond) ∈ gBIG := gIn 188 rfl rfl
set_option maxRecDepth 20000 in
theorem k_55 : (.fieldLink "BuildGrid$Graph" 128 "BuildGrid$Action" "worker" "I" : Cond) ∈ gBIG := gIn 189 rfl rfl
set_option maxRecDepth 20000 in
theorem k_56 : (.fieldLink "BuildGrid$Action" 30 "BuildGrid$Action" "isFlake" "Z" : Cond) ∈ gBIG := gIn 190 rfl rfl
set_option maxRecDepth 20000 in
theorem k_57 : (.fieldLink "BuildGrid$Course" 229 "BuildGrid$Action" "isFlake" "Z" : Cond) ∈ gBIG := gIn 191 rfl rfl
set_option maxRecDepth 20000 in
theorem k_58 : (.fieldLink "BuildGrid$Course" 154 "BuildGrid$Action" "attempts" "I" : Cond) ∈ gBIG := gIn 192 rfl rfl
set_option maxRecDepth 20000 in
theorem k_59 : (.fieldLink "BuildGrid$Action" 21 "BuildGrid$Action" "failures" "I" : Cond) ∈ gBIG := gIn 193 rfl rfl
set_option maxRecDepth 20000 in
theorem k_60 : (.fieldLink "BuildGrid$Course" 214 "BuildGrid$Action" "failures" "I" : Cond) ∈ gBIG := gIn 194 rfl rfl
set_option maxRecDepth 20000 in
theorem k_61 : (.fieldLink "BuildGrid$Target" 21 "BuildGrid$Target" "number" "I" : Cond) ∈ gBIG := gIn 212 rfl rfl
set_option maxRecDepth 20000 in
theorem k_62 : (.fieldLink "BuildGrid$Fresh" 48 "BuildGrid$Target" "number" "I" : Cond) ∈ gBIG := gIn 213 rfl rfl
set_option maxRecDepth 20000 in
theorem k_63 : (.fieldLink "BuildGrid$Course" 88 "BuildGrid$Target" "number" "I" : Cond) ∈ gBIG := gIn 214 rfl rfl
set_option maxRecDepth 20000 in
theorem k_64 : (.fieldLink "BuildGrid" 127 "BuildGrid$Target" "number" "I" : Cond) ∈ gBIG := gIn 215 rfl rfl
set_option maxRecDepth 20000 in
theorem k_65 : (.fieldLink "BuildGrid$Graph" 86 "BuildGrid$Target" "number" "I" : Cond) ∈ gBIG := gIn 216 rfl rfl
set_option maxRecDepth 20000 in
theorem k_66 : (.fieldLink "BuildGrid$Target" 29 "BuildGrid$Target" "inputs" "LBuildGrid$Inputs;" : Cond) ∈ gBIG := gIn 217 rfl rfl
set_option maxRecDepth 20000 in
theorem k_67 : (.fieldLink "BuildGrid$View" 41 "BuildGrid$Target" "inputs" "LBuildGrid$Inputs;" : Cond) ∈ gBIG := gIn 218 rfl rfl
set_option maxRecDepth 20000 in
theorem k_68 : (.fieldLink "BuildGrid$Graph" 56 "BuildGrid$Target" "inputs" "LBuildGrid$Inputs;" : Cond) ∈ gBIG := gIn 219 rfl rfl
set_option maxRecDepth 20000 in
theorem k_69 : (.fieldLink "BuildGrid" 120 "BuildGrid$Target" "inputs" "LBuildGrid$Inputs;" : Cond) ∈ gBIG := gIn 220 rfl rfl
set_option maxRecDepth 20000 in
theorem k_70 : (.fieldLink "BuildGrid$Target" 11 "BuildGrid$Target" "actions" "[LBuildGrid$Action;" : Cond) ∈ gBIG := gIn 221 rfl rfl
set_option maxRecDepth 20000 in
theorem k_71 : (.fieldLink "BuildGrid$Graph" 131 "BuildGrid$Target" "actions" "[LBuildGrid$Action;" : Cond) ∈ gBIG := gIn 222 rfl rfl
set_option maxRecDepth 20000 in
theorem k_72 : (.fieldLink "BuildGrid$Course" 261 "BuildGrid$Target" "actions" "[LBuildGrid$Action;" : Cond) ∈ gBIG := gIn 223 rfl rfl
set_option maxRecDepth 20000 in
theorem k_73 : (.fieldLink "BuildGrid$Target" 36 "BuildGrid$Target" "kind" "I" : Cond) ∈ gBIG := gIn 224 rfl rfl
set_option maxRecDepth 20000 in
theorem k_74 : (.fieldLink "BuildGrid$View" 21 "BuildGrid$Target" "kind" "I" : Cond) ∈ gBIG := gIn 225 rfl rfl
set_option maxRecDepth 20000 in
theorem k_75 : (.fieldLink "BuildGrid" 137 "BuildGrid$Target" "kind" "I" : Cond) ∈ gBIG := gIn 226 rfl rfl
set_option maxRecDepth 20000 in
theorem k_76 : (.fieldLink "BuildGrid$Target" 39 "BuildGrid$Target" "tool" "I" : Cond) ∈ gBIG := gIn 227 rfl rfl
set_option maxRecDepth 20000 in
theorem k_77 : (.fieldLink "BuildGrid$View" 31 "BuildGrid$Target" "tool" "I" : Cond) ∈ gBIG := gIn 228 rfl rfl
set_option maxRecDepth 20000 in
theorem k_78 : (.fieldLink "BuildGrid$Worker" 47 "BuildGrid$Target" "tool" "I" : Cond) ∈ gBIG := gIn 229 rfl rfl
set_option maxRecDepth 20000 in
theorem k_79 : (.fieldLink "BuildGrid" 140 "BuildGrid$Target" "tool" "I" : Cond) ∈ gBIG := gIn 230 rfl rfl
set_option maxRecDepth 20000 in
theorem k_80 : (.fieldLink "BuildGrid$Course" 189 "BuildGrid$Target" "tool" "I" : Cond) ∈ gBIG := gIn 231 rfl rfl
set_option maxRecDepth 20000 in
theorem k_81 : (.fieldLink "BuildGrid$Target" 42 "BuildGrid$Target" "option" "I" : Cond) ∈ gBIG := gIn 232 rfl rfl
set_option maxRecDepth 20000 in
theorem k_82 : (.fieldLink "BuildGrid$View" 38 "BuildGrid$Target" "option" "I" : Cond) ∈ gBIG := gIn 233 rfl rfl
set_option maxRecDepth 20000 in
theorem k_83 : (.fieldLink "BuildGrid$Target" 45 "BuildGrid$Target" "shards" "I" : Cond) ∈ gBIG := gIn 234 rfl rfl
set_option maxRecDepth 20000 in
theorem k_84 : (.fieldLink "BuildGrid$Course" 82 "BuildGrid$Target" "shards" "I" : Cond) ∈ gBIG := gIn 235 rfl rfl
set_option maxRecDepth 20000 in
theorem k_85 : (.fieldLink "BuildGrid$Fresh" 61 "BuildGrid$Target" "shards" "I" : Cond) ∈ gBIG := gIn 236 rfl rfl
set_option maxRecDepth 20000 in
theorem k_86 : (.fieldLink "BuildGrid" 143 "BuildGrid$Target" "shards" "I" : Cond) ∈ gBIG := gIn 237 rfl rfl
set_option maxRecDepth 20000 in
theorem k_87 : (.fieldLink "BuildGrid$Graph" 113 "BuildGrid$Target" "shards" "I" : Cond) ∈ gBIG := gIn 238 rfl rfl
set_option maxRecDepth 20000 in
theorem k_88 : (.fieldLink "BuildGrid$Target" 48 "BuildGrid$Target" "finds" "I" : Cond) ∈ gBIG := gIn 239 rfl rfl
set_option maxRecDepth 20000 in
theorem k_89 : (.fieldLink "BuildGrid" 146 "BuildGrid$Target" "finds" "I" : Cond) ∈ gBIG := gIn 240 rfl rfl
set_option maxRecDepth 20000 in
theorem k_90 : (.fieldLink "BuildGrid$Target" 51 "BuildGrid$Target" "flakiness" "I" : Cond) ∈ gBIG := gIn 241 rfl rfl
set_option maxRecDepth 20000 in
theorem k_91 : (.fieldLink "BuildGrid" 149 "BuildGrid$Target" "flakiness" "I" : Cond) ∈ gBIG := gIn 242 rfl rfl
set_option maxRecDepth 20000 in
theorem k_92 : (.fieldLink "BuildGrid$Target" 17 "BuildGrid$Target" "ticksTaken" "I" : Cond) ∈ gBIG := gIn 243 rfl rfl
set_option maxRecDepth 20000 in
theorem k_93 : (.fieldLink "BuildGrid$Graph" 92 "BuildGrid$Target" "ticksTaken" "I" : Cond) ∈ gBIG := gIn 244 rfl rfl
set_option maxRecDepth 20000 in
theorem k_94 : (.fieldLink "BuildGrid$Course" 223 "BuildGrid$Target" "ticksTaken" "I" : Cond) ∈ gBIG := gIn 245 rfl rfl
set_option maxRecDepth 20000 in
theorem k_95 : (.fieldLink "BuildGrid$Course" 95 "BuildGrid$Target" "way" "I" : Cond) ∈ gBIG := gIn 246 rfl rfl
set_option maxRecDepth 20000 in
theorem k_96 : (.fieldLink "BuildGrid$Graph" 89 "BuildGrid$Target" "way" "I" : Cond) ∈ gBIG := gIn 247 rfl rfl
set_option maxRecDepth 20000 in
theorem k_97 : (.fieldLink "BuildGrid$Target" 78 "BuildGrid$Target" "flakyBuilds" "I" : Cond) ∈ gBIG := gIn 248 rfl rfl
set_option maxRecDepth 20000 in
theorem k_98 : (.fieldLink "BuildGrid$Target" 75 "BuildGrid$Target" "lastFlakyBuild" "I" : Cond) ∈ gBIG := gIn 249 rfl rfl
set_option maxRecDepth 20000 in
theorem k_99 : (.classLink "BuildGrid$Graph" 31 "BuildGrid$Inputs" : Cond) ∈ gBIG := gIn 277 rfl rfl
set_option maxRecDepth 20000 in
theorem k_100 : (.methodLink "BuildGrid$Graph" 33 ⟨"BuildGrid$Inputs", "<init>", "([I)V"⟩ : Cond) ∈ gBIG := gIn 278 rfl rfl
set_option maxRecDepth 20000 in
theorem k_101 : (.fieldLink "BuildGrid$Graph" 11 "BuildGrid$Graph" "targets" "[LBuildGrid$Target;" : Cond) ∈ gBIG := gIn 279 rfl rfl
set_option maxRecDepth 20000 in
theorem k_102 : (.fieldLink "BuildGrid$Graph" 27 "BuildGrid$Graph" "nobody" "LBuildGrid$Target;" : Cond) ∈ gBIG := gIn 280 rfl rfl
set_option maxRecDepth 20000 in
theorem k_103 : (.fieldLink "BuildGrid$Graph" 17 "BuildGrid$Graph" "proofs" "[I" : Cond) ∈ gBIG := gIn 281 rfl rfl
set_option maxRecDepth 20000 in
theorem k_104 : (.fieldLink "BuildGrid$Graph" 21 "BuildGrid$Graph" "distances" "[I" : Cond) ∈ gBIG := gIn 282 rfl rfl
set_option maxRecDepth 20000 in
theorem k_105 : (.fieldLink "BuildGrid$Graph" 36 "BuildGrid$Graph" "row" "LBuildGrid$Inputs;" : Cond) ∈ gBIG := gIn 283 rfl rfl
set_option maxRecDepth 20000 in
theorem k_106 : (.fieldLink "BuildGrid" 92 "BuildGrid$Graph" "row" "LBuildGrid$Inputs;" : Cond) ∈ gBIG := gIn 284 rfl rfl
set_option maxRecDepth 20000 in
theorem k_107 : (.fieldLink "BuildGrid$Graph" 40 "BuildGrid$Graph" "told" "I" : Cond) ∈ gBIG := gIn 285 rfl rfl
set_option maxRecDepth 20000 in
theorem k_108 : (.fieldLink "BuildGrid$Course" 65 "BuildGrid$Graph" "told" "I" : Cond) ∈ gBIG := gIn 286 rfl rfl
set_option maxRecDepth 20000 in
theorem k_109 : (.fieldLink "BuildGrid$Fresh" 91 "BuildGrid$Graph" "told" "I" : Cond) ∈ gBIG := gIn 287 rfl rfl
set_option maxRecDepth 20000 in
theorem k_110 : (.fieldLink "BuildGrid" 107 "BuildGrid$Graph" "told" "I" : Cond) ∈ gBIG := gIn 288 rfl rfl
set_option maxRecDepth 20000 in
theorem k_111 : (.classLink "BuildGrid" 29 "BuildGrid$Cache" : Cond) ∈ gBIG := gIn 302 rfl rfl
set_option maxRecDepth 20000 in
theorem k_112 : (.methodLink "BuildGrid" 31 ⟨"BuildGrid$Cache", "<init>", "()V"⟩ : Cond) ∈ gBIG := gIn 304 rfl rfl
set_option maxRecDepth 20000 in
theorem k_113 : (.methodLink "BuildGrid$Cache" 3 ⟨"java/lang/Object", "<init>", "()V"⟩ : Cond) ∈ gBIG := gIn 307 rfl rfl
set_option maxRecDepth 20000 in
theorem k_114 : (.classLink "BuildGrid$Cache" 9 "BuildGrid$Entry" : Cond) ∈ gBIG := gIn 308 rfl rfl
set_option maxRecDepth 20000 in
theorem k_115 : (.methodLinkNest "BuildGrid$Cache" 17 ⟨"BuildGrid$Entry", "<init>", "()V"⟩ "BuildGrid" : Cond) ∈ gNest := gInN 311 rfl rfl
set_option maxRecDepth 20000 in
theorem k_116 : (.methodLink "BuildGrid$Entry" 3 ⟨"java/lang/Object", "<init>", "()V"⟩ : Cond) ∈ gBIG := gIn 314 rfl rfl
set_option maxRecDepth 20000 in
theorem k_117 : (.fieldLink "BuildGrid$Entry" 9 "BuildGrid$Entry" "key" "I" : Cond) ∈ gBIG := gIn 315 rfl rfl
set_option maxRecDepth 20000 in
theorem k_118 : (.fieldLink "BuildGrid$Entry" 15 "BuildGrid$Entry" "file" "I" : Cond) ∈ gBIG := gIn 316 rfl rfl
set_option maxRecDepth 20000 in
theorem k_119 : (.fieldLink "BuildGrid$Entry" 18 "BuildGrid$Entry" "content" "I" : Cond) ∈ gBIG := gIn 317 rfl rfl
set_option maxRecDepth 20000 in
theorem k_120 : (.fieldLink "BuildGrid$Entry" 21 "BuildGrid$Entry" "result" "I" : Cond) ∈ gBIG := gIn 318 rfl rfl
set_option maxRecDepth 20000 in
theorem k_121 : (.fieldLink "BuildGrid$Cache" 47 "BuildGrid$Entry" "result" "I" : Cond) ∈ gBIG := gIn 319 rfl rfl
set_option maxRecDepth 20000 in
theorem k_122 : (.fieldLink "BuildGrid" 192 "BuildGrid$Entry" "result" "I" : Cond) ∈ gBIG := gIn 320 rfl rfl
set_option maxRecDepth 20000 in
theorem k_123 : (.fieldLink "BuildGrid$Course" 280 "BuildGrid$Entry" "result" "I" : Cond) ∈ gBIG := gIn 321 rfl rfl
set_option maxRecDepth 20000 in
theorem k_124 : (.fieldLink "BuildGrid$Entry" 24 "BuildGrid$Entry" "worker" "I" : Cond) ∈ gBIG := gIn 322 rfl rfl
set_option maxRecDepth 20000 in
theorem k_125 : (.fieldLink "BuildGrid$Cache" 50 "BuildGrid$Entry" "worker" "I" : Cond) ∈ gBIG := gIn 323 rfl rfl
set_option maxRecDepth 20000 in
theorem k_126 : (.fieldLink "BuildGrid$Course" 285 "BuildGrid$Entry" "worker" "I" : Cond) ∈ gBIG := gIn 324 rfl rfl
set_option maxRecDepth 20000 in
theorem k_127 : (.fieldLink "BuildGrid$Entry" 35 "BuildGrid$Entry" "signature" "I" : Cond) ∈ gBIG := gIn 325 rfl rfl
set_option maxRecDepth 20000 in
theorem k_128 : (.fieldLink "BuildGrid$Entry" 27 "BuildGrid$Entry" "isThere" "Z" : Cond) ∈ gBIG := gIn 326 rfl rfl
set_option maxRecDepth 20000 in
theorem k_129 : (.fieldLink "BuildGrid" 197 "BuildGrid$Entry" "isThere" "Z" : Cond) ∈ gBIG := gIn 327 rfl rfl
set_option maxRecDepth 20000 in
theorem k_130 : (.fieldLink "BuildGrid$Cache" 11 "BuildGrid$Cache" "ring" "[LBuildGrid$Entry;" : Cond) ∈ gBIG := gIn 343 rfl rfl
set_option maxRecDepth 20000 in
theorem k_131 : (.fieldLink "BuildGrid$Cache" 22 "BuildGrid$Cache" "first" "I" : Cond) ∈ gBIG := gIn 344 rfl rfl
set_option maxRecDepth 20000 in
theorem k_132 : (.fieldLink "BuildGrid$Cache" 18 "BuildGrid$Cache" "size" "I" : Cond) ∈ gBIG := gIn 345 rfl rfl
set_option maxRecDepth 20000 in
theorem k_133 : (.fieldLink "BuildGrid" 171 "BuildGrid$Cache" "size" "I" : Cond) ∈ gBIG := gIn 346 rfl rfl
set_option maxRecDepth 20000 in
theorem k_134 : (.classLink "BuildGrid" 36 "BuildGrid$Course" : Cond) ∈ gBIG := gIn 354 rfl rfl
set_option maxRecDepth 20000 in
theorem k_135 : (.classLink "BuildGrid" 38 "BuildGrid$View" : Cond) ∈ gBIG := gIn 356 rfl rfl
set_option maxRecDepth 20000 in
theorem k_136 : (.methodLink "BuildGrid" 46 ⟨"BuildGrid$View", "<init>", "([I[I)V"⟩ : Cond) ∈ gBIG := gIn 358 rfl rfl
set_option maxRecDepth 20000 in
theorem k_137 : (.methodLink "BuildGrid$View" 3 ⟨"java/lang/Object", "<init>", "()V"⟩ : Cond) ∈ gBIG := gIn 361 rfl rfl
set_option maxRecDepth 20000 in
theorem k_138 : (.fieldLink "BuildGrid$View" 15 "BuildGrid$View" "versions" "[I" : Cond) ∈ gBIG := gIn 362 rfl rfl
set_option maxRecDepth 20000 in
theorem k_139 : (.fieldLink "BuildGrid$View" 18 "BuildGrid$View" "contents" "[I" : Cond) ∈ gBIG := gIn 363 rfl rfl
set_option maxRecDepth 20000 in
theorem k_140 : (.fieldLink "BuildGrid$Fresh" 84 "BuildGrid$View" "contents" "[I" : Cond) ∈ gBIG := gIn 364 rfl rfl
set_option maxRecDepth 20000 in
theorem k_141 : (.fieldLink "BuildGrid$View" 9 "BuildGrid$View" "digests" "[I" : Cond) ∈ gBIG := gIn 365 rfl rfl
set_option maxRecDepth 20000 in
theorem k_142 : (.fieldLink "BuildGrid$Fresh" 45 "BuildGrid$View" "digests" "[I" : Cond) ∈ gBIG := gIn 366 rfl rfl
set_option maxRecDepth 20000 in
theorem k_143 : (.fieldLink "BuildGrid$Course" 252 "BuildGrid$View" "digests" "[I" : Cond) ∈ gBIG := gIn 367 rfl rfl
set_option maxRecDepth 20000 in
theorem k_144 : (.methodLink "BuildGrid" 49 ⟨"BuildGrid$Course", "<init>", "(LBuildGrid$Graph;LBuildGrid$Cache;LBuildGrid$View;)V"⟩ : Cond) ∈ gBIG := gIn 375 rfl rfl
set_option maxRecDepth 20000 in
theorem k_145 : (.methodLink "BuildGrid$Course" 3 ⟨"java/lang/Object", "<init>", "()V"⟩ : Cond) ∈ gBIG := gIn 378 rfl rfl
set_option maxRecDepth 20000 in
theorem k_146 : (.classLink "BuildGrid$Course" 9 "BuildGrid$Worker" : Cond) ∈ gBIG := gIn 379 rfl rfl
set_option maxRecDepth 20000 in
theorem k_147 : (.methodLink "BuildGrid$Course" 11 ⟨"BuildGrid$Worker", "<init>", "(II)V"⟩ : Cond) ∈ gBIG := gIn 381 rfl rfl
set_option maxRecDepth 20000 in
theorem k_148 : (.methodLink "BuildGrid$Worker" 3 ⟨"java/lang/Object", "<init>", "()V"⟩ : Cond) ∈ gBIG := gIn 384 rfl rfl
set_option maxRecDepth 20000 in
theorem k_149 : (.fieldLink "BuildGrid$Worker" 15 "BuildGrid$Worker" "number" "I" : Cond) ∈ gBIG := gIn 385 rfl rfl
set_option maxRecDepth 20000 in
theorem k_150 : (.fieldLink "BuildGrid$Course" 224 "BuildGrid$Worker" "number" "I" : Cond) ∈ gBIG := gIn 386 rfl rfl
set_option maxRecDepth 20000 in
theorem k_151 : (.fieldLink "BuildGrid$Worker" 18 "BuildGrid$Worker" "power" "I" : Cond) ∈ gBIG := gIn 387 rfl rfl
set_option maxRecDepth 20000 in
theorem k_152 : (.fieldLink "BuildGrid$Course" 102 "BuildGrid$Worker" "power" "I" : Cond) ∈ gBIG := gIn 388 rfl rfl
set_option maxRecDepth 20000 in
theorem k_153 : (.fieldLink "BuildGrid" 156 "BuildGrid$Worker" "power" "I" : Cond) ∈ gBIG := gIn 389 rfl rfl
set_option maxRecDepth 20000 in
theorem k_154 : (.fieldLink "BuildGrid$Worker" 9 "BuildGrid$Worker" "warmTool" "I" : Cond) ∈ gBIG := gIn 390 rfl rfl
set_option maxRecDepth 20000 in
theorem k_155 : (.fieldLink "BuildGrid$Worker" 21 "BuildGrid$Worker" "action" "LBuildGrid$Action;" : Cond) ∈ gBIG := gIn 391 rfl rfl
set_option maxRecDepth 20000 in
theorem k_156 : (.fieldLink "BuildGrid$Course" 98 "BuildGrid$Worker" "action" "LBuildGrid$Action;" : Cond) ∈ gBIG := gIn 392 rfl rfl
set_option maxRecDepth 20000 in
theorem k_157 : (.fieldLink "BuildGrid$Worker" 28 "BuildGrid$Worker" "key" "I" : Cond) ∈ gBIG := gIn 393 rfl rfl
set_option maxRecDepth 20000 in
theorem k_158 : (.fieldLink "BuildGrid$Course" 235 "BuildGrid$Worker" "key" "I" : Cond) ∈ gBIG := gIn 394 rfl rfl
set_option maxRecDepth 20000 in
theorem k_159 : (.fieldLink "BuildGrid$Worker" 31 "BuildGrid$Worker" "content" "I" : Cond) ∈ gBIG := gIn 395 rfl rfl
set_option maxRecDepth 20000 in
theorem k_160 : (.fieldLink "BuildGrid$Course" 241 "BuildGrid$Worker" "content" "I" : Cond) ∈ gBIG := gIn 396 rfl rfl
set_option maxRecDepth 20000 in
theorem k_161 : (.fieldLink "BuildGrid$Worker" 25 "BuildGrid$Worker" "ticksLeft" "I" : Cond) ∈ gBIG := gIn 397 rfl rfl
set_option maxRecDepth 20000 in
theorem k_162 : (.fieldLink "BuildGrid$Course" 124 "BuildGrid$Worker" "ticksLeft" "I" : Cond) ∈ gBIG := gIn 398 rfl rfl
set_option maxRecDepth 20000 in
theorem k_163 : (.fieldLink "BuildGrid$Worker" 38 "BuildGrid$Worker" "ticksTaken" "I" : Cond) ∈ gBIG := gIn 399 rfl rfl
set_option maxRecDepth 20000 in
theorem k_164 : (.fieldLink "BuildGrid$Course" 220 "BuildGrid$Worker" "ticksTaken" "I" : Cond) ∈ gBIG := gIn 400 rfl rfl
set_option maxRecDepth 20000 in
theorem k_165 : (.fieldLink "BuildGrid$Course" 32 "BuildGrid$Course" "graph" "LBuildGrid$Graph;" : Cond) ∈ gBIG := gIn 419 rfl rfl
set_option maxRecDepth 20000 in
theorem k_166 : (.fieldLink "BuildGrid$Course" 36 "BuildGrid$Course" "cache" "LBuildGrid$Cache;" : Cond) ∈ gBIG := gIn 420 rfl rfl
set_option maxRecDepth 20000 in
theorem k_167 : (.fieldLink "BuildGrid$Course" 40 "BuildGrid$Course" "view" "LBuildGrid$View;" : Cond) ∈ gBIG := gIn 421 rfl rfl
set_option maxRecDepth 20000 in
theorem k_168 : (.fieldLink "BuildGrid$Course" 14 "BuildGrid$Course" "home" "LBuildGrid$Worker;" : Cond) ∈ gBIG := gIn 422 rfl rfl
set_option maxRecDepth 20000 in
theorem k_169 : (.fieldLink "BuildGrid$Course" 20 "BuildGrid$Course" "workers" "[LBuildGrid$Worker;" : Cond) ∈ gBIG := gIn 423 rfl rfl
set_option maxRecDepth 20000 in
theorem k_170 : (.fieldLink "BuildGrid$Course" 24 "BuildGrid$Course" "counts" "[I" : Cond) ∈ gBIG := gIn 424 rfl rfl
set_option maxRecDepth 20000 in
theorem k_171 : (.fieldLink "BuildGrid" 257 "BuildGrid$Course" "counts" "[I" : Cond) ∈ gBIG := gIn 425 rfl rfl
set_option maxRecDepth 20000 in
theorem k_172 : (.fieldLink "BuildGrid$Course" 58 "BuildGrid$Course" "needed" "I" : Cond) ∈ gBIG := gIn 426 rfl rfl
set_option maxRecDepth 20000 in
theorem k_173 : (.fieldLink "BuildGrid$Course" 62 "BuildGrid$Course" "builds" "I" : Cond) ∈ gBIG := gIn 427 rfl rfl
set_option maxRecDepth 20000 in
theorem k_174 : (.fieldLink "BuildGrid" 77 "BuildGrid$Course" "goesOn" "Z" : Cond) ∈ gBIG := gIn 428 rfl rfl
set_option maxRecDepth 20000 in
theorem k_175 : (.fieldLink "BuildGrid$Course" 258 "BuildGrid$Course" "goesOn" "Z" : Cond) ∈ gBIG := gIn 429 rfl rfl
set_option maxRecDepth 20000 in
theorem k_176 : (.fieldLink "BuildGrid$Course" 28 "BuildGrid$Course" "looksAtSignatures" "Z" : Cond) ∈ gBIG := gIn 430 rfl rfl
set_option maxRecDepth 20000 in
theorem k_177 : (.fieldLink "BuildGrid" 165 "BuildGrid$Course" "looksAtSignatures" "Z" : Cond) ∈ gBIG := gIn 431 rfl rfl
set_option maxRecDepth 20000 in
theorem k_178 : (.fieldLink "BuildGrid" 168 "BuildGrid$Course" "speculates" "Z" : Cond) ∈ gBIG := gIn 432 rfl rfl
set_option maxRecDepth 20000 in
theorem k_179 : (.fieldLink "BuildGrid$Course" 130 "BuildGrid$Course" "speculates" "Z" : Cond) ∈ gBIG := gIn 433 rfl rfl
set_option maxRecDepth 20000 in
theorem k_180 : (.classLink "BuildGrid" 56 "BuildGrid$Fresh" : Cond) ∈ gBIG := gIn 457 rfl rfl
set_option maxRecDepth 20000 in
theorem k_181 : (.methodLink "BuildGrid" 58 ⟨"BuildGrid$Fresh", "<init>", "(LBuildGrid$Graph;LBuildGrid$Sources;)V"⟩ : Cond) ∈ gBIG := gIn 459 rfl rfl
set_option maxRecDepth 20000 in
theorem k_182 : (.methodLink "BuildGrid$Fresh" 3 ⟨"java/lang/Object", "<init>", "()V"⟩ : Cond) ∈ gBIG := gIn 462 rfl rfl
set_option maxRecDepth 20000 in
theorem k_183 : (.classLink "BuildGrid$Fresh" 19 "BuildGrid$View" : Cond) ∈ gBIG := gIn 463 rfl rfl
set_option maxRecDepth 20000 in
theorem k_184 : (.methodLink "BuildGrid$Fresh" 27 ⟨"BuildGrid$View", "<init>", "([I[I)V"⟩ : Cond) ∈ gBIG := gIn 464 rfl rfl
set_option maxRecDepth 20000 in
theorem k_185 : (.fieldLink "BuildGrid$Fresh" 9 "BuildGrid$Fresh" "graph" "LBuildGrid$Graph;" : Cond) ∈ gBIG := gIn 465 rfl rfl
set_option maxRecDepth 20000 in
theorem k_186 : (.fieldLink "BuildGrid$Fresh" 15 "BuildGrid$Fresh" "sources" "LBuildGrid$Sources;" : Cond) ∈ gBIG := gIn 466 rfl rfl
set_option maxRecDepth 20000 in
theorem k_187 : (.fieldLink "BuildGrid$Fresh" 30 "BuildGrid$Fresh" "view" "LBuildGrid$View;" : Cond) ∈ gBIG := gIn 467 rfl rfl
set_option maxRecDepth 20000 in
theorem k_188 : (.fieldLink "BuildGrid$Fresh" 38 "BuildGrid$Fresh" "good" "I" : Cond) ∈ gBIG := gIn 468 rfl rfl
set_option maxRecDepth 20000 in
theorem k_189 : (.fieldLink "BuildGrid" 10 "BuildGrid" "sources" "LBuildGrid$Sources;" : Cond) ∈ gBIG := gIn 478 rfl rfl
set_option maxRecDepth 20000 in
theorem k_190 : (.fieldLink "BuildGrid" 25 "BuildGrid" "graph" "LBuildGrid$Graph;" : Cond) ∈ gBIG := gIn 479 rfl rfl
set_option maxRecDepth 20000 in
theorem k_191 : (.fieldLink "BuildGrid" 32 "BuildGrid" "cache" "LBuildGrid$Cache;" : Cond) ∈ gBIG := gIn 480 rfl rfl
set_option maxRecDepth 20000 in
theorem k_192 : (.fieldLink "BuildGrid" 52 "BuildGrid" "course" "LBuildGrid$Course;" : Cond) ∈ gBIG := gIn 481 rfl rfl
set_option maxRecDepth 20000 in
theorem k_193 : (.fieldLink "BuildGrid" 61 "BuildGrid" "fresh" "LBuildGrid$Fresh;" : Cond) ∈ gBIG := gIn 482 rfl rfl
set_option maxRecDepth 20000 in
theorem k_194 : (.fieldLink "BuildGrid" 206 "BuildGrid" "now" "I" : Cond) ∈ gBIG := gIn 483 rfl rfl
set_option maxRecDepth 20000 in
theorem k_195 : (.fieldLink "BuildGrid" 270 "BuildGrid" "looksAtMiddle" "I" : Cond) ∈ gBIG := gIn 484 rfl rfl
set_option maxRecDepth 20000 in
theorem k_196 : (.methodLink "BuildGridLaw" 118 ⟨"BuildGrid", "setWays", "(ZZ)V"⟩ : Cond) ∈ gBIG := gIn 500 rfl rfl
set_option maxRecDepth 20000 in
theorem k_197 : (.methodLink "BuildGridLaw" 123 ⟨"BuildGrid", "entries", "()I"⟩ : Cond) ∈ gBIG := gIn 504 rfl rfl
set_option maxRecDepth 20000 in
theorem k_198 : (.methodLink "BuildGridLaw" 144 ⟨"BuildGrid", "goesOn", "()Z"⟩ : Cond) ∈ gBIG := gIn 508 rfl rfl
set_option maxRecDepth 20000 in
theorem k_199 : (.methodLink "BuildGridLaw" 173 ⟨"BuildGrid", "changes", "()I"⟩ : Cond) ∈ gBIG := gIn 512 rfl rfl
set_option maxRecDepth 20000 in
theorem k_200 : (.methodLink "BuildGridLaw" 180 ⟨"BuildGrid", "looks", "()I"⟩ : Cond) ∈ gBIG := gIn 516 rfl rfl
set_option maxRecDepth 20000 in
theorem k_201 : (.methodLink "BuildGridLaw" 88 ⟨"BuildGridLaw", "write", "(LBuildGrid;II[J)I"⟩ : Cond) ∈ gBIG := gIn 520 rfl rfl
set_option maxRecDepth 20000 in
theorem k_202 : (.classLink "BuildGridLaw" 13 "java/lang/IllegalArgumentException" : Cond) ∈ gBIG := gIn 523 rfl rfl
set_option maxRecDepth 20000 in
theorem k_203 : (.methodLink "BuildGridLaw" 7 ⟨"BuildGrid", "write", "(II)I"⟩ : Cond) ∈ gBIG := gIn 524 rfl rfl
set_option maxRecDepth 20000 in
theorem k_204 : (.methodLink "BuildGrid" 65 ⟨"BuildGrid", "isBelow", "(II)Z"⟩ : Cond) ∈ gBIG := gIn 528 rfl rfl
set_option maxRecDepth 20000 in
theorem k_205 : (.methodLink "BuildGrid" 69 ⟨"BuildGrid", "checkArgument", "(Z)V"⟩ : Cond) ∈ gBIG := gIn 531 rfl rfl
set_option maxRecDepth 20000 in
theorem k_206 : (.classLink "BuildGrid" 176 "java/lang/IllegalArgumentException" : Cond) ∈ gBIG := gIn 534 rfl rfl
set_option maxRecDepth 20000 in
theorem k_207 : (.methodLink "BuildGrid" 180 ⟨"java/lang/IllegalArgumentException", "<init>", "(Ljava/lang/String;)V"⟩ : Cond) ∈ gBIG := gIn 576 rfl rfl
set_option maxRecDepth 20000 in
theorem k_208 : (.methodLink "BuildGrid" 73 ⟨"BuildGrid$Sources", "rewrite", "(II)I"⟩ : Cond) ∈ gBIG := gIn 602 rfl rfl
set_option maxRecDepth 20000 in
theorem k_209 : (.methodLinkNest "BuildGrid$Sources" 27 ⟨"BuildGrid", "exchange", "([III)I"⟩ "BuildGrid" : Cond) ∈ gNest := gInN 606 rfl rfl
set_option maxRecDepth 20000 in
theorem k_210 : (.methodLink "BuildGrid" 260 ⟨"BuildGrid", "at", "([II)I"⟩ : Cond) ∈ gBIG := gIn 609 rfl rfl
set_option maxRecDepth 20000 in
theorem k_211 : (.methodLink "BuildGrid" 295 ⟨"BuildGrid", "store", "([III)V"⟩ : Cond) ∈ gBIG := gIn 612 rfl rfl
set_option maxRecDepth 20000 in
theorem k_212 : (.methodLink "BuildGrid$Sources" 31 ⟨"BuildGrid$Sources", "keepChange", "(II)V"⟩ : Cond) ∈ gBIG := gIn 615 rfl rfl
set_option maxRecDepth 20000 in
theorem k_213 : (.methodLink "BuildGrid$Sources" 39 ⟨"BuildGrid$Sources", "forgetFirstChange", "()V"⟩ : Cond) ∈ gBIG := gIn 619 rfl rfl
set_option maxRecDepth 20000 in
theorem k_214 : (.methodLinkNest "BuildGrid$Sources" 46 ⟨"BuildGrid", "at", "([II)I"⟩ "BuildGrid" : Cond) ∈ gNest := gInN 623 rfl rfl
set_option maxRecDepth 20000 in
theorem k_215 : (.methodLinkNest "BuildGrid$Sources" 42 ⟨"BuildGrid", "store", "([III)V"⟩ "BuildGrid" : Cond) ∈ gNest := gInN 624 rfl rfl
set_option maxRecDepth 20000 in
theorem k_216 : (.methodLink "BuildGridLaw" 98 ⟨"BuildGridLaw", "set", "(LBuildGrid;II[J)I"⟩ : Cond) ∈ gBIG := gIn 625 rfl rfl
set_option maxRecDepth 20000 in
theorem k_217 : (.classLink "BuildGridLaw" 18 "java/lang/IllegalStateException" : Cond) ∈ gBIG := gIn 628 rfl rfl
set_option maxRecDepth 20000 in
theorem k_218 : (.methodLink "BuildGridLaw" 15 ⟨"BuildGrid", "set", "(II)I"⟩ : Cond) ∈ gBIG := gIn 629 rfl rfl
set_option maxRecDepth 20000 in
theorem k_219 : (.methodLink "BuildGrid" 81 ⟨"BuildGrid", "checkState", "(Z)V"⟩ : Cond) ∈ gBIG := gIn 633 rfl rfl
set_option maxRecDepth 20000 in
theorem k_220 : (.classLink "BuildGrid" 278 "java/lang/IllegalStateException" : Cond) ∈ gBIG := gIn 636 rfl rfl
set_option maxRecDepth 20000 in
theorem k_221 : (.methodLink "BuildGrid" 282 ⟨"java/lang/IllegalStateException", "<init>", "(Ljava/lang/String;)V"⟩ : Cond) ∈ gBIG := gIn 646 rfl rfl
set_option maxRecDepth 20000 in
theorem k_222 : (.methodLink "BuildGrid" 84 ⟨"BuildGrid", "exchange", "([III)I"⟩ : Cond) ∈ gBIG := gIn 652 rfl rfl
set_option maxRecDepth 20000 in
theorem k_223 : (.methodLink "BuildGridLaw" 101 ⟨"BuildGridLaw", "setTool", "(LBuildGrid;II[J)I"⟩ : Cond) ∈ gBIG := gIn 653 rfl rfl
set_option maxRecDepth 20000 in
theorem k_224 : (.methodLink "BuildGridLaw" 20 ⟨"BuildGrid", "setTool", "(II)I"⟩ : Cond) ∈ gBIG := gIn 656 rfl rfl
set_option maxRecDepth 20000 in
theorem k_225 : (.methodLink "BuildGridLaw" 104 ⟨"BuildGridLaw", "input", "(LBuildGrid;IIII[J)I"⟩ : Cond) ∈ gBIG := gIn 660 rfl rfl
set_option maxRecDepth 20000 in
theorem k_226 : (.classLink "BuildGridLaw" 27 "java/lang/IndexOutOfBoundsException" : Cond) ∈ gBIG := gIn 663 rfl rfl
set_option maxRecDepth 20000 in
theorem k_227 : (.methodLink "BuildGridLaw" 23 ⟨"BuildGrid", "input", "(IIII)I"⟩ : Cond) ∈ gBIG := gIn 664 rfl rfl
set_option maxRecDepth 20000 in
theorem k_228 : (.methodLink "BuildGrid" 88 ⟨"BuildGrid", "checkThing", "(I)V"⟩ : Cond) ∈ gBIG := gIn 668 rfl rfl
set_option maxRecDepth 20000 in
theorem k_229 : (.methodLink "BuildGrid" 288 ⟨"BuildGrid", "isTarget", "(I)Z"⟩ : Cond) ∈ gBIG := gIn 672 rfl rfl
set_option maxRecDepth 20000 in
theorem k_230 : (.methodLink "BuildGrid" 130 ⟨"BuildGrid", "checkTarget", "(I)V"⟩ : Cond) ∈ gBIG := gIn 675 rfl rfl
set_option maxRecDepth 20000 in
theorem k_231 : (.classLink "BuildGrid" 283 "java/lang/IndexOutOfBoundsException" : Cond) ∈ gBIG := gIn 679 rfl rfl
set_option maxRecDepth 20000 in
theorem k_232 : (.methodLink "BuildGrid" 287 ⟨"java/lang/IndexOutOfBoundsException", "<init>", "(Ljava/lang/String;)V"⟩ : Cond) ∈ gBIG := gIn 689 rfl rfl
set_option maxRecDepth 20000 in
theorem k_233 : (.methodLink "BuildGrid" 102 ⟨"BuildGrid$Inputs", "append", "(IIII)I"⟩ : Cond) ∈ gBIG := gIn 695 rfl rfl
set_option maxRecDepth 20000 in
theorem k_234 : (.methodLinkNest "BuildGrid$Inputs" 31 ⟨"BuildGrid", "store", "([III)V"⟩ "BuildGrid" : Cond) ∈ gNest := gInN 699 rfl rfl
set_option maxRecDepth 20000 in
theorem k_235 : (.methodLink "BuildGridLaw" 108 ⟨"BuildGridLaw", "target", "(LBuildGrid;IIIIII[J)I"⟩ : Cond) ∈ gBIG := gIn 700 rfl rfl
set_option maxRecDepth 20000 in
theorem k_236 : (.methodLink "BuildGridLaw" 29 ⟨"BuildGrid", "target", "(IIIIII)I"⟩ : Cond) ∈ gBIG := gIn 703 rfl rfl
set_option maxRecDepth 20000 in
theorem k_237 : (.constant "BuildGrid" 106 (65536 : Int32) : Cond) ∈ gBIG := gIn 707 rfl rfl
set_option maxRecDepth 20000 in
theorem k_238 : (.methodLink "BuildGrid" 110 ⟨"BuildGrid$Graph", "tellNext", "()LBuildGrid$Target;"⟩ : Cond) ∈ gBIG := gIn 708 rfl rfl
set_option maxRecDepth 20000 in
theorem k_239 : (.methodLink "BuildGrid$Graph" 44 ⟨"BuildGrid$Graph", "targetAt", "(I)LBuildGrid$Target;"⟩ : Cond) ∈ gBIG := gIn 712 rfl rfl
set_option maxRecDepth 20000 in
theorem k_240 : (.methodLink "BuildGrid" 114 ⟨"BuildGrid$Target", "describe", "(IIIIII)V"⟩ : Cond) ∈ gBIG := gIn 716 rfl rfl
set_option maxRecDepth 20000 in
theorem k_241 : (.methodLink "BuildGrid" 123 ⟨"BuildGrid$Inputs", "become", "(LBuildGrid$Inputs;)V"⟩ : Cond) ∈ gBIG := gIn 720 rfl rfl
set_option maxRecDepth 20000 in
theorem k_242 : (.methodLinkNest "BuildGrid$Inputs" 35 ⟨"BuildGrid", "at", "([II)I"⟩ "BuildGrid" : Cond) ∈ gNest := gInN 724 rfl rfl
set_option maxRecDepth 20000 in
theorem k_243 : (.methodLink "BuildGrid$Inputs" 39 ⟨"BuildGrid$Inputs", "append", "(IIII)I"⟩ : Cond) ∈ gBIG := gIn 725 rfl rfl
set_option maxRecDepth 20000 in
theorem k_244 : (.methodLink "BuildGridLaw" 112 ⟨"BuildGridLaw", "copy", "(LBuildGrid;II[J)I"⟩ : Cond) ∈ gBIG := gIn 726 rfl rfl
set_option maxRecDepth 20000 in
theorem k_245 : (.methodLink "BuildGridLaw" 33 ⟨"BuildGrid", "copy", "(II)I"⟩ : Cond) ∈ gBIG := gIn 729 rfl rfl
set_option maxRecDepth 20000 in
theorem k_246 : (.methodLink "BuildGrid" 133 ⟨"BuildGrid$Graph", "targetAt", "(I)LBuildGrid$Target;"⟩ : Cond) ∈ gBIG := gIn 733 rfl rfl
set_option maxRecDepth 20000 in
theorem k_247 : (.methodLink "BuildGridLaw" 115 ⟨"BuildGridLaw", "setPower", "(LBuildGrid;II[J)I"⟩ : Cond) ∈ gBIG := gIn 734 rfl rfl
set_option maxRecDepth 20000 in
theorem k_248 : (.methodLink "BuildGridLaw" 36 ⟨"BuildGrid", "setPower", "(II)I"⟩ : Cond) ∈ gBIG := gIn 737 rfl rfl
set_option maxRecDepth 20000 in
theorem k_249 : (.methodLink "BuildGrid" 152 ⟨"BuildGrid$Course", "workerAt", "(I)LBuildGrid$Worker;"⟩ : Cond) ∈ gBIG := gIn 741 rfl rfl
set_option maxRecDepth 20000 in
theorem k_250 : (.methodLink "BuildGrid" 161 ⟨"BuildGrid$Course", "changePower", "(LBuildGrid$Worker;I)V"⟩ : Cond) ∈ gBIG := gIn 745 rfl rfl
set_option maxRecDepth 20000 in
theorem k_251 : (.methodLink "BuildGrid$Course" 105 ⟨"BuildGrid$Worker", "rest", "(I)V"⟩ : Cond) ∈ gBIG := gIn 749 rfl rfl
set_option maxRecDepth 20000 in
theorem k_252 : (.methodLink "BuildGrid$Course" 108 ⟨"BuildGrid$Course", "isAnyAt", "(LBuildGrid$Action;)Z"⟩ : Cond) ∈ gBIG := gIn 753 rfl rfl
set_option maxRecDepth 20000 in
theorem k_253 : (.methodLink "BuildGrid$Course" 117 ⟨"BuildGrid$Course", "tally", "(I)V"⟩ : Cond) ∈ gBIG := gIn 757 rfl rfl
set_option maxRecDepth 20000 in
theorem k_254 : (.methodLinkNest "BuildGrid$Course" 44 ⟨"BuildGrid", "at", "([II)I"⟩ "BuildGrid" : Cond) ∈ gNest := gInN 761 rfl rfl
set_option maxRecDepth 20000 in
theorem k_255 : (.methodLinkNest "BuildGrid$Course" 48 ⟨"BuildGrid", "store", "([III)V"⟩ "BuildGrid" : Cond) ∈ gNest := gInN 762 rfl rfl
set_option maxRecDepth 20000 in
theorem k_256 : (.methodLink "BuildGridLaw" 127 ⟨"BuildGridLaw", "entry", "(LBuildGrid;II[J)I"⟩ : Cond) ∈ gBIG := gIn 763 rfl rfl
set_option maxRecDepth 20000 in
theorem k_257 : (.methodLink "BuildGridLaw" 39 ⟨"BuildGrid", "entry", "(II)I"⟩ : Cond) ∈ gBIG := gIn 766 rfl rfl
set_option maxRecDepth 20000 in
theorem k_258 : (.methodLink "BuildGrid" 172 ⟨"BuildGrid$Cache", "entryAt", "(I)LBuildGrid$Entry;"⟩ : Cond) ∈ gBIG := gIn 770 rfl rfl
set_option maxRecDepth 20000 in
theorem k_259 : (.methodLink "BuildGrid$Cache" 25 ⟨"java/lang/Math", "floorMod", "(II)I"⟩ : Cond) ∈ gBIG := gIn 774 rfl rfl
set_option maxRecDepth 20000 in
theorem k_260 : (.methodLink "BuildGrid" 183 ⟨"BuildGrid$Entry", "tell", "(I)I"⟩ : Cond) ∈ gBIG := gIn 778 rfl rfl
set_option maxRecDepth 20000 in
theorem k_261 : (.methodLink "BuildGrid$Entry" 42 ⟨"BuildGrid$Entry", "isRightlySigned", "()Z"⟩ : Cond) ∈ gBIG := gIn 782 rfl rfl
set_option maxRecDepth 20000 in
theorem k_262 : (.methodLink "BuildGrid$Entry" 31 ⟨"BuildGrid$Entry", "rightSignature", "()I"⟩ : Cond) ∈ gBIG := gIn 786 rfl rfl
set_option maxRecDepth 20000 in
theorem k_263 : (.methodLinkNest "BuildGrid$Entry" 38 ⟨"BuildGrid", "plus", "(II)I"⟩ "BuildGrid" : Cond) ∈ gNest := gInN 790 rfl rfl
set_option maxRecDepth 20000 in
theorem k_264 : (.constant "BuildGrid" 189 (100003 : Int32) : Cond) ∈ gBIG := gIn 793 rfl rfl
set_option maxRecDepth 20000 in
theorem k_265 : (.methodLink "BuildGridLaw" 130 ⟨"BuildGridLaw", "lie", "(LBuildGrid;II)I"⟩ : Cond) ∈ gBIG := gIn 794 rfl rfl
set_option maxRecDepth 20000 in
theorem k_266 : (.methodLink "BuildGridLaw" 42 ⟨"BuildGrid", "lie", "(II)V"⟩ : Cond) ∈ gBIG := gIn 797 rfl rfl
set_option maxRecDepth 20000 in
theorem k_267 : (.methodLink "BuildGridLaw" 134 ⟨"BuildGridLaw", "lose", "(LBuildGrid;I[J)I"⟩ : Cond) ∈ gBIG := gIn 802 rfl rfl
set_option maxRecDepth 20000 in
theorem k_268 : (.methodLink "BuildGridLaw" 46 ⟨"BuildGrid", "lose", "(I)Z"⟩ : Cond) ∈ gBIG := gIn 805 rfl rfl
set_option maxRecDepth 20000 in
theorem k_269 : (.methodLink "BuildGridLaw" 138 ⟨"BuildGridLaw", "build", "(LBuildGrid;I[J)I"⟩ : Cond) ∈ gBIG := gIn 810 rfl rfl
set_option maxRecDepth 20000 in
theorem k_270 : (.methodLink "BuildGridLaw" 50 ⟨"BuildGrid", "build", "(I)I"⟩ : Cond) ∈ gBIG := gIn 813 rfl rfl
set_option maxRecDepth 20000 in
theorem k_271 : (.methodLink "BuildGrid" 200 ⟨"BuildGrid$Course", "begin", "(I)I"⟩ : Cond) ∈ gBIG := gIn 817 rfl rfl
set_option maxRecDepth 20000 in
theorem k_272 : (.methodLink "BuildGrid$Course" 52 ⟨"BuildGrid$Graph", "withNeeded", "(I)I"⟩ : Cond) ∈ gBIG := gIn 821 rfl rfl
set_option maxRecDepth 20000 in
theorem k_273 : (.methodLinkNest "BuildGrid$Graph" 48 ⟨"BuildGrid", "bitOf", "(II)I"⟩ "BuildGrid" : Cond) ∈ gNest := gInN 825 rfl rfl
set_option maxRecDepth 20000 in
theorem k_274 : (.methodLink "BuildGrid$Graph" 52 ⟨"BuildGrid$Graph", "inputTargets", "(LBuildGrid$Target;)I"⟩ : Cond) ∈ gBIG := gIn 828 rfl rfl
set_option maxRecDepth 20000 in
theorem k_275 : (.methodLink "BuildGrid$Graph" 62 ⟨"BuildGrid$Inputs", "chosen", "(I)I"⟩ : Cond) ∈ gBIG := gIn 832 rfl rfl
set_option maxRecDepth 20000 in
theorem k_276 : (.methodLinkNest "BuildGrid$Graph" 66 ⟨"BuildGrid", "isTarget", "(I)Z"⟩ "BuildGrid" : Cond) ∈ gNest := gInN 836 rfl rfl
set_option maxRecDepth 20000 in
theorem k_277 : (.methodLink "BuildGrid$Course" 68 ⟨"BuildGrid$Graph", "targetAt", "(I)LBuildGrid$Target;"⟩ : Cond) ∈ gBIG := gIn 837 rfl rfl
set_option maxRecDepth 20000 in
theorem k_278 : (.methodLinkNest "BuildGrid$Course" 72 ⟨"BuildGrid", "bitOf", "(II)I"⟩ "BuildGrid" : Cond) ∈ gNest := gInN 838 rfl rfl
set_option maxRecDepth 20000 in
theorem k_279 : (.methodLink "BuildGrid$Course" 76 ⟨"BuildGrid$Target", "startOver", "(Z)V"⟩ : Cond) ∈ gBIG := gIn 839 rfl rfl
set_option maxRecDepth 20000 in
theorem k_280 : (.methodLink "BuildGrid$Target" 54 ⟨"BuildGrid$Target", "actionAt", "(I)LBuildGrid$Action;"⟩ : Cond) ∈ gBIG := gIn 843 rfl rfl
set_option maxRecDepth 20000 in
theorem k_281 : (.methodLink "BuildGrid$Target" 58 ⟨"BuildGrid$Action", "open", "()V"⟩ : Cond) ∈ gBIG := gIn 847 rfl rfl
set_option maxRecDepth 20000 in
theorem k_282 : (.methodLink "BuildGrid$Course" 85 ⟨"BuildGrid$Course", "settle", "()V"⟩ : Cond) ∈ gBIG := gIn 851 rfl rfl
set_option maxRecDepth 20000 in
theorem k_283 : (.methodLink "BuildGrid$Course" 265 ⟨"BuildGrid$Course", "leaveOpen", "(LBuildGrid$Target;LBuildGrid$Action;)V"⟩ : Cond) ∈ gBIG := gIn 855 rfl rfl
set_option maxRecDepth 20000 in
theorem k_284 : (.methodLink "BuildGrid$Course" 272 ⟨"BuildGrid$Graph", "stateOfInputs", "(LBuildGrid$Target;)I"⟩ : Cond) ∈ gBIG := gIn 859 rfl rfl
set_option maxRecDepth 20000 in
theorem k_285 : (.methodLink "BuildGrid$Graph" 135 ⟨"BuildGrid$Action", "isUnfinished", "()Z"⟩ : Cond) ∈ gBIG := gIn 863 rfl rfl
set_option maxRecDepth 20000 in
theorem k_286 : (.methodLink "BuildGrid$Course" 170 ⟨"BuildGrid$View", "keyOf", "(LBuildGrid$Target;I)I"⟩ : Cond) ∈ gBIG := gIn 867 rfl rfl
set_option maxRecDepth 20000 in
theorem k_287 : (.methodLinkNest "BuildGrid$View" 27 ⟨"BuildGrid", "plus", "(II)I"⟩ "BuildGrid" : Cond) ∈ gNest := gInN 871 rfl rfl
set_option maxRecDepth 20000 in
theorem k_288 : (.methodLinkNest "BuildGrid$View" 34 ⟨"BuildGrid", "at", "([II)I"⟩ "BuildGrid" : Cond) ∈ gNest := gInN 872 rfl rfl
set_option maxRecDepth 20000 in
theorem k_289 : (.methodLink "BuildGrid$View" 50 ⟨"BuildGrid$Inputs", "chosen", "(I)I"⟩ : Cond) ∈ gBIG := gIn 873 rfl rfl
set_option maxRecDepth 20000 in
theorem k_290 : (.methodLinkNest "BuildGrid$View" 54 ⟨"BuildGrid", "isTarget", "(I)Z"⟩ "BuildGrid" : Cond) ∈ gNest := gInN 874 rfl rfl
set_option maxRecDepth 20000 in
theorem k_291 : (.methodLink "BuildGrid$Course" 199 ⟨"BuildGrid$Target", "breaksOut", "(I)Z"⟩ : Cond) ∈ gBIG := gIn 875 rfl rfl
set_option maxRecDepth 20000 in
theorem k_292 : (.methodLinkNest "BuildGrid$Target" 67 ⟨"BuildGrid", "bitOf", "(II)I"⟩ "BuildGrid" : Cond) ∈ gNest := gInN 879 rfl rfl
set_option maxRecDepth 20000 in
theorem k_293 : (.methodLink "BuildGrid$Course" 176 ⟨"BuildGrid$View", "contentFound", "(LBuildGrid$Target;I)I"⟩ : Cond) ∈ gBIG := gIn 880 rfl rfl
set_option maxRecDepth 20000 in
theorem k_294 : (.methodLink "BuildGrid$View" 58 ⟨"BuildGrid$Target", "fileFound", "(I)I"⟩ : Cond) ∈ gBIG := gIn 884 rfl rfl
set_option maxRecDepth 20000 in
theorem k_295 : (.methodLink "BuildGrid$Course" 238 ⟨"BuildGrid$Target", "fileFound", "(I)I"⟩ : Cond) ∈ gBIG := gIn 888 rfl rfl
set_option maxRecDepth 20000 in
theorem k_296 : (.methodLink "BuildGrid$Course" 276 ⟨"BuildGrid$Cache", "firstFit", "(IIIZ)LBuildGrid$Entry;"⟩ : Cond) ∈ gBIG := gIn 889 rfl rfl
set_option maxRecDepth 20000 in
theorem k_297 : (.methodLink "BuildGrid$Cache" 35 ⟨"BuildGrid$Cache", "entryAt", "(I)LBuildGrid$Entry;"⟩ : Cond) ∈ gBIG := gIn 893 rfl rfl
set_option maxRecDepth 20000 in
theorem k_298 : (.methodLink "BuildGrid$Cache" 43 ⟨"BuildGrid$Entry", "isOf", "(III)Z"⟩ : Cond) ∈ gBIG := gIn 894 rfl rfl
set_option maxRecDepth 20000 in
theorem k_299 : (.methodLink "BuildGrid$Cache" 53 ⟨"BuildGrid$Entry", "isRightlySigned", "()Z"⟩ : Cond) ∈ gBIG := gIn 898 rfl rfl
set_option maxRecDepth 20000 in
theorem k_300 : (.methodLink "BuildGrid$Course" 225 ⟨"BuildGrid$Course", "finish", "(LBuildGrid$Target;LBuildGrid$Action;II)V"⟩ : Cond) ∈ gBIG := gIn 899 rfl rfl
set_option maxRecDepth 20000 in
theorem k_301 : (.methodLink "BuildGrid$Course" 250 ⟨"BuildGrid$Action", "finish", "(II)V"⟩ : Cond) ∈ gBIG := gIn 903 rfl rfl
set_option maxRecDepth 20000 in
theorem k_302 : (.methodLink "BuildGrid$Course" 255 ⟨"BuildGrid$Target", "digestOfResults", "()I"⟩ : Cond) ∈ gBIG := gIn 907 rfl rfl
set_option maxRecDepth 20000 in
theorem k_303 : (.methodLinkNest "BuildGrid$Target" 84 ⟨"BuildGrid", "plus", "(II)I"⟩ "BuildGrid" : Cond) ∈ gNest := gInN 911 rfl rfl
set_option maxRecDepth 20000 in
theorem k_304 : (.methodLink "BuildGrid$Course" 269 ⟨"BuildGrid$Action", "isUnfinished", "()Z"⟩ : Cond) ∈ gBIG := gIn 912 rfl rfl
set_option maxRecDepth 20000 in
theorem k_305 : (.methodLink "BuildGridLaw" 141 ⟨"BuildGridLaw", "pass", "(LBuildGrid;I[J)I"⟩ : Cond) ∈ gBIG := gIn 913 rfl rfl
set_option maxRecDepth 20000 in
theorem k_306 : (.methodLink "BuildGridLaw" 54 ⟨"BuildGrid", "pass", "(I)I"⟩ : Cond) ∈ gBIG := gIn 916 rfl rfl
set_option maxRecDepth 20000 in
theorem k_307 : (.methodLink "BuildGrid" 203 ⟨"BuildGrid$Course", "passTick", "()V"⟩ : Cond) ∈ gBIG := gIn 920 rfl rfl
set_option maxRecDepth 20000 in
theorem k_308 : (.methodLink "BuildGrid$Course" 127 ⟨"BuildGrid$Course", "beginReady", "()V"⟩ : Cond) ∈ gBIG := gIn 924 rfl rfl
set_option maxRecDepth 20000 in
theorem k_309 : (.methodLink "BuildGrid$Course" 91 ⟨"BuildGrid$Graph", "findWays", "(I)V"⟩ : Cond) ∈ gBIG := gIn 928 rfl rfl
set_option maxRecDepth 20000 in
theorem k_310 : (.methodLink "BuildGrid$Graph" 95 ⟨"BuildGrid$Graph", "spreadWay", "(LBuildGrid$Target;)V"⟩ : Cond) ∈ gBIG := gIn 932 rfl rfl
set_option maxRecDepth 20000 in
theorem k_311 : (.methodLink "BuildGrid$Graph" 98 ⟨"java/lang/Math", "max", "(II)I"⟩ : Cond) ∈ gBIG := gIn 936 rfl rfl
set_option maxRecDepth 20000 in
theorem k_312 : (.methodLink "BuildGrid$Course" 146 ⟨"BuildGrid$Course", "strongestIdle", "()LBuildGrid$Worker;"⟩ : Cond) ∈ gBIG := gIn 939 rfl rfl
set_option maxRecDepth 20000 in
theorem k_313 : (.methodLink "BuildGrid$Course" 120 ⟨"BuildGrid$Worker", "isIdle", "()Z"⟩ : Cond) ∈ gBIG := gIn 943 rfl rfl
set_option maxRecDepth 20000 in
theorem k_314 : (.methodLink "BuildGrid$Course" 150 ⟨"BuildGrid$Course", "longestReady", "()LBuildGrid$Action;"⟩ : Cond) ∈ gBIG := gIn 947 rfl rfl
set_option maxRecDepth 20000 in
theorem k_315 : (.methodLink "BuildGrid$Course" 161 ⟨"BuildGrid$Target", "firstReady", "()LBuildGrid$Action;"⟩ : Cond) ∈ gBIG := gIn 951 rfl rfl
set_option maxRecDepth 20000 in
theorem k_316 : (.methodLink "BuildGrid$Course" 157 ⟨"BuildGrid$Course", "start", "(LBuildGrid$Worker;LBuildGrid$Action;)V"⟩ : Cond) ∈ gBIG := gIn 955 rfl rfl
set_option maxRecDepth 20000 in
theorem k_317 : (.methodLink "BuildGrid$Course" 179 ⟨"BuildGrid$Worker", "start", "(LBuildGrid$Action;LBuildGrid$Target;II)V"⟩ : Cond) ∈ gBIG := gIn 959 rfl rfl
set_option maxRecDepth 20000 in
theorem k_318 : (.methodLink "BuildGrid$Worker" 34 ⟨"BuildGrid$Worker", "ticksFor", "(LBuildGrid$Target;)I"⟩ : Cond) ∈ gBIG := gIn 963 rfl rfl
set_option maxRecDepth 20000 in
theorem k_319 : (.methodLink "BuildGrid$Worker" 41 ⟨"BuildGrid$Target", "work", "()I"⟩ : Cond) ∈ gBIG := gIn 967 rfl rfl
set_option maxRecDepth 20000 in
theorem k_320 : (.methodLink "BuildGrid$Worker" 50 ⟨"java/lang/Math", "max", "(II)I"⟩ : Cond) ∈ gBIG := gIn 971 rfl rfl
set_option maxRecDepth 20000 in
theorem k_321 : (.methodLink "BuildGrid$Course" 133 ⟨"BuildGrid$Course", "speculate", "()V"⟩ : Cond) ∈ gBIG := gIn 972 rfl rfl
set_option maxRecDepth 20000 in
theorem k_322 : (.methodLink "BuildGrid$Course" 182 ⟨"BuildGrid$Course", "longestBusy", "()LBuildGrid$Worker;"⟩ : Cond) ∈ gBIG := gIn 976 rfl rfl
set_option maxRecDepth 20000 in
theorem k_323 : (.methodLink "BuildGrid$Course" 136 ⟨"BuildGrid$Worker", "spendTick", "()V"⟩ : Cond) ∈ gBIG := gIn 980 rfl rfl
set_option maxRecDepth 20000 in
theorem k_324 : (.methodLink "BuildGrid$Course" 139 ⟨"BuildGrid$Worker", "hasEnded", "()Z"⟩ : Cond) ∈ gBIG := gIn 984 rfl rfl
set_option maxRecDepth 20000 in
theorem k_325 : (.methodLink "BuildGrid$Course" 142 ⟨"BuildGrid$Course", "end", "(LBuildGrid$Worker;)V"⟩ : Cond) ∈ gBIG := gIn 988 rfl rfl
set_option maxRecDepth 20000 in
theorem k_326 : (.methodLink "BuildGrid$Course" 185 ⟨"BuildGrid$Course", "dismissFrom", "(LBuildGrid$Action;)V"⟩ : Cond) ∈ gBIG := gIn 992 rfl rfl
set_option maxRecDepth 20000 in
theorem k_327 : (.methodLink "BuildGrid$Course" 192 ⟨"BuildGrid$Worker", "beganWith", "(II)Z"⟩ : Cond) ∈ gBIG := gIn 996 rfl rfl
set_option maxRecDepth 20000 in
theorem k_328 : (.methodLink "BuildGrid$Course" 196 ⟨"BuildGrid$Action", "open", "()V"⟩ : Cond) ∈ gBIG := gIn 1000 rfl rfl
set_option maxRecDepth 20000 in
theorem k_329 : (.methodLink "BuildGrid$Course" 203 ⟨"BuildGrid$Course", "judge", "(LBuildGrid$Target;LBuildGrid$Action;LBuildGrid$Worker;)V"⟩ : Cond) ∈ gBIG := gIn 1001 rfl rfl
set_option maxRecDepth 20000 in
theorem k_330 : (.methodLink "BuildGrid$Course" 207 ⟨"BuildGrid$Worker", "resultMade", "()I"⟩ : Cond) ∈ gBIG := gIn 1005 rfl rfl
set_option maxRecDepth 20000 in
theorem k_331 : (.methodLinkNest "BuildGrid$Worker" 56 ⟨"BuildGrid", "resultOf", "(II)I"⟩ "BuildGrid" : Cond) ∈ gNest := gInN 1009 rfl rfl
set_option maxRecDepth 20000 in
theorem k_332 : (.methodLink "BuildGrid" 299 ⟨"BuildGrid", "plus", "(II)I"⟩ : Cond) ∈ gBIG := gIn 1012 rfl rfl
set_option maxRecDepth 20000 in
theorem k_333 : (.methodLink "BuildGrid$Course" 211 ⟨"BuildGrid$Target", "failsAt", "(II)Z"⟩ : Cond) ∈ gBIG := gIn 1013 rfl rfl
set_option maxRecDepth 20000 in
theorem k_334 : (.methodLink "BuildGrid$Target" 71 ⟨"BuildGrid$Target", "isGoodResult", "(I)Z"⟩ : Cond) ∈ gBIG := gIn 1017 rfl rfl
set_option maxRecDepth 20000 in
theorem k_335 : (.methodLink "BuildGrid$Course" 217 ⟨"BuildGrid$Target", "isInQuarantine", "()Z"⟩ : Cond) ∈ gBIG := gIn 1021 rfl rfl
set_option maxRecDepth 20000 in
theorem k_336 : (.methodLink "BuildGrid$Course" 232 ⟨"BuildGrid$Target", "noteFlakeIn", "(I)V"⟩ : Cond) ∈ gBIG := gIn 1025 rfl rfl
set_option maxRecDepth 20000 in
theorem k_337 : (.methodLink "BuildGrid$Course" 244 ⟨"BuildGrid$Cache", "keep", "(IIIII)V"⟩ : Cond) ∈ gBIG := gIn 1029 rfl rfl
set_option maxRecDepth 20000 in
theorem k_338 : (.methodLink "BuildGrid$Cache" 31 ⟨"BuildGrid$Cache", "hasAlike", "(IIIII)Z"⟩ : Cond) ∈ gBIG := gIn 1033 rfl rfl
set_option maxRecDepth 20000 in
theorem k_339 : (.methodLink "BuildGrid$Cache" 39 ⟨"BuildGrid$Entry", "fill", "(IIIII)V"⟩ : Cond) ∈ gBIG := gIn 1037 rfl rfl
set_option maxRecDepth 20000 in
theorem k_340 : (.methodLink "BuildGridLaw" 149 ⟨"BuildGridLaw", "state", "(LBuildGrid;II[J)I"⟩ : Cond) ∈ gBIG := gIn 1041 rfl rfl
set_option maxRecDepth 20000 in
theorem k_341 : (.methodLink "BuildGridLaw" 57 ⟨"BuildGrid", "state", "(II)I"⟩ : Cond) ∈ gBIG := gIn 1044 rfl rfl
set_option maxRecDepth 20000 in
theorem k_342 : (.methodLink "BuildGrid" 209 ⟨"BuildGrid", "checkedAction", "(II)LBuildGrid$Action;"⟩ : Cond) ∈ gBIG := gIn 1048 rfl rfl
set_option maxRecDepth 20000 in
theorem k_343 : (.methodLink "BuildGrid" 291 ⟨"BuildGrid$Target", "actionAt", "(I)LBuildGrid$Action;"⟩ : Cond) ∈ gBIG := gIn 1052 rfl rfl
set_option maxRecDepth 20000 in
theorem k_344 : (.methodLink "BuildGridLaw" 152 ⟨"BuildGridLaw", "result", "(LBuildGrid;II[J)I"⟩ : Cond) ∈ gBIG := gIn 1053 rfl rfl
set_option maxRecDepth 20000 in
theorem k_345 : (.methodLink "BuildGridLaw" 60 ⟨"BuildGrid", "result", "(II)I"⟩ : Cond) ∈ gBIG := gIn 1056 rfl rfl
set_option maxRecDepth 20000 in
theorem k_346 : (.methodLink "BuildGridLaw" 155 ⟨"BuildGridLaw", "about", "(LBuildGrid;II[J)I"⟩ : Cond) ∈ gBIG := gIn 1060 rfl rfl
set_option maxRecDepth 20000 in
theorem k_347 : (.methodLink "BuildGridLaw" 63 ⟨"BuildGrid", "about", "(II)I"⟩ : Cond) ∈ gBIG := gIn 1063 rfl rfl
set_option maxRecDepth 20000 in
theorem k_348 : (.methodLink "BuildGrid" 219 ⟨"BuildGrid$Graph", "soundTargets", "()I"⟩ : Cond) ∈ gBIG := gIn 1067 rfl rfl
set_option maxRecDepth 20000 in
theorem k_349 : (.methodLink "BuildGrid$Graph" 107 ⟨"BuildGrid$Target", "isSoundAlone", "()Z"⟩ : Cond) ∈ gBIG := gIn 1071 rfl rfl
set_option maxRecDepth 20000 in
theorem k_350 : (.methodLink "BuildGrid$Target" 87 ⟨"BuildGrid$Action", "isSound", "()Z"⟩ : Cond) ∈ gBIG := gIn 1075 rfl rfl
set_option maxRecDepth 20000 in
theorem k_351 : (.methodLink "BuildGrid" 223 ⟨"BuildGrid", "bitOf", "(II)I"⟩ : Cond) ∈ gBIG := gIn 1079 rfl rfl
set_option maxRecDepth 20000 in
theorem k_352 : (.methodLink "BuildGrid" 226 ⟨"BuildGrid$Fresh", "isStale", "(LBuildGrid$Target;)Z"⟩ : Cond) ∈ gBIG := gIn 1080 rfl rfl
set_option maxRecDepth 20000 in
theorem k_353 : (.methodLink "BuildGrid$Fresh" 57 ⟨"BuildGrid$Target", "isAllDone", "()Z"⟩ : Cond) ∈ gBIG := gIn 1084 rfl rfl
set_option maxRecDepth 20000 in
theorem k_354 : (.methodLink "BuildGrid$Fresh" 34 ⟨"BuildGrid$Fresh", "make", "(I)V"⟩ : Cond) ∈ gBIG := gIn 1088 rfl rfl
set_option maxRecDepth 20000 in
theorem k_355 : (.methodLink "BuildGrid$Fresh" 87 ⟨"BuildGrid$Sources", "filesAfter", "(I[I)V"⟩ : Cond) ∈ gBIG := gIn 1092 rfl rfl
set_option maxRecDepth 20000 in
theorem k_356 : (.methodLink "BuildGrid$Fresh" 96 ⟨"BuildGrid$Graph", "targetAt", "(I)LBuildGrid$Target;"⟩ : Cond) ∈ gBIG := gIn 1096 rfl rfl
set_option maxRecDepth 20000 in
theorem k_357 : (.methodLink "BuildGrid$Fresh" 100 ⟨"BuildGrid$Fresh", "makeTarget", "(LBuildGrid$Target;)V"⟩ : Cond) ∈ gBIG := gIn 1097 rfl rfl
set_option maxRecDepth 20000 in
theorem k_358 : (.methodLink "BuildGrid$Fresh" 104 ⟨"BuildGrid$Graph", "inputTargets", "(LBuildGrid$Target;)I"⟩ : Cond) ∈ gBIG := gIn 1101 rfl rfl
set_option maxRecDepth 20000 in
theorem k_359 : (.methodLink "BuildGrid$Fresh" 64 ⟨"BuildGrid$View", "keyOf", "(LBuildGrid$Target;I)I"⟩ : Cond) ∈ gBIG := gIn 1102 rfl rfl
set_option maxRecDepth 20000 in
theorem k_360 : (.methodLink "BuildGrid$Fresh" 77 ⟨"BuildGrid$View", "contentFound", "(LBuildGrid$Target;I)I"⟩ : Cond) ∈ gBIG := gIn 1103 rfl rfl
set_option maxRecDepth 20000 in
theorem k_361 : (.methodLinkNest "BuildGrid$Fresh" 80 ⟨"BuildGrid", "resultOf", "(II)I"⟩ "BuildGrid" : Cond) ∈ gNest := gInN 1104 rfl rfl
set_option maxRecDepth 20000 in
theorem k_362 : (.methodLinkNest "BuildGrid$Fresh" 108 ⟨"BuildGrid", "plus", "(II)I"⟩ "BuildGrid" : Cond) ∈ gNest := gInN 1105 rfl rfl
set_option maxRecDepth 20000 in
theorem k_363 : (.methodLink "BuildGrid$Fresh" 111 ⟨"BuildGrid$Target", "breaksOut", "(I)Z"⟩ : Cond) ∈ gBIG := gIn 1106 rfl rfl
set_option maxRecDepth 20000 in
theorem k_364 : (.methodLink "BuildGrid$Fresh" 115 ⟨"BuildGrid$Target", "isGoodResult", "(I)Z"⟩ : Cond) ∈ gBIG := gIn 1107 rfl rfl
set_option maxRecDepth 20000 in
theorem k_365 : (.methodLinkNest "BuildGrid$Fresh" 118 ⟨"BuildGrid", "store", "([III)V"⟩ "BuildGrid" : Cond) ∈ gNest := gInN 1108 rfl rfl
set_option maxRecDepth 20000 in
theorem k_366 : (.methodLink "BuildGrid$Fresh" 68 ⟨"BuildGrid$Target", "actionAt", "(I)LBuildGrid$Action;"⟩ : Cond) ∈ gBIG := gIn 1109 rfl rfl
set_option maxRecDepth 20000 in
theorem k_367 : (.methodLink "BuildGrid" 230 ⟨"BuildGrid$Target", "isInQuarantine", "()Z"⟩ : Cond) ∈ gBIG := gIn 1110 rfl rfl
set_option maxRecDepth 20000 in
theorem k_368 : (.methodLink "BuildGrid" 237 ⟨"BuildGrid$Fresh", "goodTargets", "(I)I"⟩ : Cond) ∈ gBIG := gIn 1111 rfl rfl
set_option maxRecDepth 20000 in
theorem k_369 : (.methodLink "BuildGrid" 240 ⟨"BuildGrid$Fresh", "digestOf", "(LBuildGrid$Target;)I"⟩ : Cond) ∈ gBIG := gIn 1115 rfl rfl
set_option maxRecDepth 20000 in
theorem k_370 : (.methodLinkNest "BuildGrid$Fresh" 53 ⟨"BuildGrid", "at", "([II)I"⟩ "BuildGrid" : Cond) ∈ gNest := gInN 1119 rfl rfl
set_option maxRecDepth 20000 in
theorem k_371 : (.methodLink "BuildGrid" 244 ⟨"BuildGrid$Course", "wayOf", "(LBuildGrid$Target;)I"⟩ : Cond) ∈ gBIG := gIn 1120 rfl rfl
set_option maxRecDepth 20000 in
theorem k_372 : (.methodLink "BuildGridLaw" 158 ⟨"BuildGridLaw", "proof", "(LBuildGrid;I[J)I"⟩ : Cond) ∈ gBIG := gIn 1124 rfl rfl
set_option maxRecDepth 20000 in
theorem k_373 : (.methodLink "BuildGridLaw" 66 ⟨"BuildGrid", "proof", "(I)I"⟩ : Cond) ∈ gBIG := gIn 1127 rfl rfl
set_option maxRecDepth 20000 in
theorem k_374 : (.methodLink "BuildGrid" 247 ⟨"BuildGrid$Graph", "withNeeded", "(I)I"⟩ : Cond) ∈ gBIG := gIn 1131 rfl rfl
set_option maxRecDepth 20000 in
theorem k_375 : (.methodLink "BuildGrid" 250 ⟨"BuildGrid$Graph", "isAllDone", "(I)Z"⟩ : Cond) ∈ gBIG := gIn 1132 rfl rfl
set_option maxRecDepth 20000 in
theorem k_376 : (.methodLink "BuildGrid$Graph" 103 ⟨"BuildGrid$Target", "isAllDone", "()Z"⟩ : Cond) ∈ gBIG := gIn 1136 rfl rfl
set_option maxRecDepth 20000 in
theorem k_377 : (.methodLink "BuildGrid" 254 ⟨"BuildGrid$Graph", "proofOf", "(I)I"⟩ : Cond) ∈ gBIG := gIn 1137 rfl rfl
set_option maxRecDepth 20000 in
theorem k_378 : (.methodLink "BuildGrid$Graph" 110 ⟨"BuildGrid$Graph", "proofOverInputs", "(LBuildGrid$Target;)I"⟩ : Cond) ∈ gBIG := gIn 1141 rfl rfl
set_option maxRecDepth 20000 in
theorem k_379 : (.methodLink "BuildGrid$Graph" 116 ⟨"BuildGrid$Target", "actionAt", "(I)LBuildGrid$Action;"⟩ : Cond) ∈ gBIG := gIn 1145 rfl rfl
set_option maxRecDepth 20000 in
theorem k_380 : (.methodLinkNest "BuildGrid$Graph" 125 ⟨"BuildGrid", "plus", "(II)I"⟩ "BuildGrid" : Cond) ∈ gNest := gInN 1146 rfl rfl
set_option maxRecDepth 20000 in
theorem k_381 : (.methodLinkNest "BuildGrid$Graph" 78 ⟨"BuildGrid", "at", "([II)I"⟩ "BuildGrid" : Cond) ∈ gNest := gInN 1147 rfl rfl
set_option maxRecDepth 20000 in
theorem k_382 : (.methodLinkNest "BuildGrid$Graph" 74 ⟨"BuildGrid", "store", "([III)V"⟩ "BuildGrid" : Cond) ∈ gNest := gInN 1148 rfl rfl
set_option maxRecDepth 20000 in
theorem k_383 : (.methodLink "BuildGridLaw" 161 ⟨"BuildGridLaw", "count", "(LBuildGrid;I[J)I"⟩ : Cond) ∈ gBIG := gIn 1149 rfl rfl
set_option maxRecDepth 20000 in
theorem k_384 : (.methodLink "BuildGridLaw" 69 ⟨"BuildGrid", "count", "(I)I"⟩ : Cond) ∈ gBIG := gIn 1152 rfl rfl
set_option maxRecDepth 20000 in
theorem k_385 : (.methodLink "BuildGridLaw" 164 ⟨"BuildGridLaw", "needed", "(LBuildGrid;I[J)I"⟩ : Cond) ∈ gBIG := gIn 1156 rfl rfl
set_option maxRecDepth 20000 in
theorem k_386 : (.methodLink "BuildGridLaw" 72 ⟨"BuildGrid", "needed", "(I)I"⟩ : Cond) ∈ gBIG := gIn 1159 rfl rfl
set_option maxRecDepth 20000 in
theorem k_387 : (.methodLink "BuildGridLaw" 167 ⟨"BuildGridLaw", "needing", "(LBuildGrid;I[J)I"⟩ : Cond) ∈ gBIG := gIn 1163 rfl rfl
set_option maxRecDepth 20000 in
theorem k_388 : (.methodLink "BuildGridLaw" 75 ⟨"BuildGrid", "needing", "(I)I"⟩ : Cond) ∈ gBIG := gIn 1166 rfl rfl
set_option maxRecDepth 20000 in
theorem k_389 : (.methodLink "BuildGrid" 264 ⟨"BuildGrid$Graph", "targetsOver", "(I)I"⟩ : Cond) ∈ gBIG := gIn 1170 rfl rfl
set_option maxRecDepth 20000 in
theorem k_390 : (.methodLink "BuildGrid$Graph" 70 ⟨"BuildGrid$Graph", "hasInput", "(LBuildGrid$Target;I)Z"⟩ : Cond) ∈ gBIG := gIn 1174 rfl rfl
set_option maxRecDepth 20000 in
theorem k_391 : (.methodLink "BuildGridLaw" 170 ⟨"BuildGridLaw", "steps", "(LBuildGrid;II[J)I"⟩ : Cond) ∈ gBIG := gIn 1178 rfl rfl
set_option maxRecDepth 20000 in
theorem k_392 : (.methodLink "BuildGridLaw" 78 ⟨"BuildGrid", "steps", "(II)I"⟩ : Cond) ∈ gBIG := gIn 1181 rfl rfl
set_option maxRecDepth 20000 in
theorem k_393 : (.methodLink "BuildGrid" 267 ⟨"BuildGrid$Graph", "distance", "(II)I"⟩ : Cond) ∈ gBIG := gIn 1185 rfl rfl
set_option maxRecDepth 20000 in
theorem k_394 : (.methodLink "BuildGrid$Graph" 82 ⟨"BuildGrid$Graph", "spreadDistance", "(LBuildGrid$Target;)V"⟩ : Cond) ∈ gBIG := gIn 1189 rfl rfl
set_option maxRecDepth 20000 in
theorem k_395 : (.methodLink "BuildGridLaw" 177 ⟨"BuildGridLaw", "bisect", "(LBuildGrid;I[J)I"⟩ : Cond) ∈ gBIG := gIn 1193 rfl rfl
set_option maxRecDepth 20000 in
theorem k_396 : (.methodLink "BuildGridLaw" 81 ⟨"BuildGrid", "bisect", "(I)I"⟩ : Cond) ∈ gBIG := gIn 1196 rfl rfl
set_option maxRecDepth 20000 in
theorem k_397 : (.methodLink "BuildGrid" 273 ⟨"BuildGrid", "isGoodAfter", "(II)Z"⟩ : Cond) ∈ gBIG := gIn 1200 rfl rfl
set_option maxRecDepth 20000 in
theorem k_398 : (.classLink "BuildGridLaw" 85 "BuildGridModel" : Cond) ∈ gBIG := gIn 1204 rfl rfl
set_option maxRecDepth 20000 in
theorem k_399 : (.methodLink "BuildGridLaw" 87 ⟨"BuildGridModel", "<init>", "()V"⟩ : Cond) ∈ gBIG := gIn 1206 rfl rfl
set_option maxRecDepth 20000 in
theorem k_400 : (.methodLink "BuildGridModel" 1 ⟨"java/lang/Object", "<init>", "()V"⟩ : Cond) ∈ gBIG := gIn 1209 rfl rfl
set_option maxRecDepth 20000 in
theorem k_401 : (.fieldLink "BuildGridModel" 150 "BuildGridModel" "thrown" "I" : Cond) ∈ gBIG := gIn 1210 rfl rfl
set_option maxRecDepth 20000 in
theorem k_402 : (.fieldLink "BuildGridModel" 7 "BuildGridModel" "files" "[I" : Cond) ∈ gBIG := gIn 1211 rfl rfl
set_option maxRecDepth 20000 in
theorem k_403 : (.fieldLink "BuildGridModel" 13 "BuildGridModel" "settings" "[I" : Cond) ∈ gBIG := gIn 1212 rfl rfl
set_option maxRecDepth 20000 in
theorem k_404 : (.fieldLink "BuildGridModel" 16 "BuildGridModel" "tools" "[I" : Cond) ∈ gBIG := gIn 1213 rfl rfl
set_option maxRecDepth 20000 in
theorem k_405 : (.fieldLink "BuildGridModel" 165 "BuildGridModel" "changes" "I" : Cond) ∈ gBIG := gIn 1214 rfl rfl
set_option maxRecDepth 20000 in
theorem k_406 : (.fieldLink "BuildGridModel" 19 "BuildGridModel" "changed" "[I" : Cond) ∈ gBIG := gIn 1215 rfl rfl
set_option maxRecDepth 20000 in
theorem k_407 : (.fieldLink "BuildGridModel" 22 "BuildGridModel" "before" "[I" : Cond) ∈ gBIG := gIn 1216 rfl rfl
set_option maxRecDepth 20000 in
theorem k_408 : (.fieldLink "BuildGridModel" 154 "BuildGridModel" "targets" "I" : Cond) ∈ gBIG := gIn 1217 rfl rfl
set_option maxRecDepth 20000 in
theorem k_409 : (.fieldLink "BuildGridModel" 25 "BuildGridModel" "kind" "[I" : Cond) ∈ gBIG := gIn 1218 rfl rfl
set_option maxRecDepth 20000 in
theorem k_410 : (.fieldLink "BuildGridModel" 28 "BuildGridModel" "tool" "[I" : Cond) ∈ gBIG := gIn 1219 rfl rfl
set_option maxRecDepth 20000 in
theorem k_411 : (.fieldLink "BuildGridModel" 31 "BuildGridModel" "option" "[I" : Cond) ∈ gBIG := gIn 1220 rfl rfl
set_option maxRecDepth 20000 in
theorem k_412 : (.fieldLink "BuildGridModel" 34 "BuildGridModel" "shards" "[I" : Cond) ∈ gBIG := gIn 1221 rfl rfl
set_option maxRecDepth 20000 in
theorem k_413 : (.fieldLink "BuildGridModel" 37 "BuildGridModel" "finds" "[I" : Cond) ∈ gBIG := gIn 1222 rfl rfl
set_option maxRecDepth 20000 in
theorem k_414 : (.fieldLink "BuildGridModel" 40 "BuildGridModel" "flakiness" "[I" : Cond) ∈ gBIG := gIn 1223 rfl rfl
set_option maxRecDepth 20000 in
theorem k_415 : (.fieldLink "BuildGridModel" 43 "BuildGridModel" "inputs" "[I" : Cond) ∈ gBIG := gIn 1224 rfl rfl
set_option maxRecDepth 20000 in
theorem k_416 : (.fieldLink "BuildGridModel" 46 "BuildGridModel" "one" "[I" : Cond) ∈ gBIG := gIn 1225 rfl rfl
set_option maxRecDepth 20000 in
theorem k_417 : (.fieldLink "BuildGridModel" 49 "BuildGridModel" "other" "[I" : Cond) ∈ gBIG := gIn 1226 rfl rfl
set_option maxRecDepth 20000 in
theorem k_418 : (.fieldLink "BuildGridModel" 52 "BuildGridModel" "setting" "[I" : Cond) ∈ gBIG := gIn 1227 rfl rfl
set_option maxRecDepth 20000 in
theorem k_419 : (.fieldLink "BuildGridModel" 55 "BuildGridModel" "value" "[I" : Cond) ∈ gBIG := gIn 1228 rfl rfl
set_option maxRecDepth 20000 in
theorem k_420 : (.fieldLink "BuildGridModel" 58 "BuildGridModel" "looks" "Z" : Cond) ∈ gBIG := gIn 1229 rfl rfl
set_option maxRecDepth 20000 in
theorem k_421 : (.fieldLink "BuildGridModel" 228 "BuildGridModel" "speculates" "Z" : Cond) ∈ gBIG := gIn 1230 rfl rfl
set_option maxRecDepth 20000 in
theorem k_422 : (.fieldLink "BuildGridModel" 218 "BuildGridModel" "entries" "I" : Cond) ∈ gBIG := gIn 1231 rfl rfl
set_option maxRecDepth 20000 in
theorem k_423 : (.fieldLink "BuildGridModel" 62 "BuildGridModel" "cKey" "[I" : Cond) ∈ gBIG := gIn 1232 rfl rfl
set_option maxRecDepth 20000 in
theorem k_424 : (.fieldLink "BuildGridModel" 65 "BuildGridModel" "cFile" "[I" : Cond) ∈ gBIG := gIn 1233 rfl rfl
set_option maxRecDepth 20000 in
theorem k_425 : (.fieldLink "BuildGridModel" 68 "BuildGridModel" "cContent" "[I" : Cond) ∈ gBIG := gIn 1234 rfl rfl
set_option maxRecDepth 20000 in
theorem k_426 : (.fieldLink "BuildGridModel" 71 "BuildGridModel" "cResult" "[I" : Cond) ∈ gBIG := gIn 1235 rfl rfl
set_option maxRecDepth 20000 in
theorem k_427 : (.fieldLink "BuildGridModel" 74 "BuildGridModel" "cWorker" "[I" : Cond) ∈ gBIG := gIn 1236 rfl rfl
set_option maxRecDepth 20000 in
theorem k_428 : (.fieldLink "BuildGridModel" 77 "BuildGridModel" "cSign" "[I" : Cond) ∈ gBIG := gIn 1237 rfl rfl
set_option maxRecDepth 20000 in
theorem k_429 : (.fieldLink "BuildGridModel" 80 "BuildGridModel" "cGone" "[Z" : Cond) ∈ gBIG := gIn 1238 rfl rfl
set_option maxRecDepth 20000 in
theorem k_430 : (.fieldLink "BuildGridModel" 84 "BuildGridModel" "power" "[I" : Cond) ∈ gBIG := gIn 1239 rfl rfl
set_option maxRecDepth 20000 in
theorem k_431 : (.fieldLink "BuildGridModel" 87 "BuildGridModel" "at" "[I" : Cond) ∈ gBIG := gIn 1240 rfl rfl
set_option maxRecDepth 20000 in
theorem k_432 : (.fieldLink "BuildGridModel" 90 "BuildGridModel" "left" "[I" : Cond) ∈ gBIG := gIn 1241 rfl rfl
set_option maxRecDepth 20000 in
theorem k_433 : (.fieldLink "BuildGridModel" 93 "BuildGridModel" "takes" "[I" : Cond) ∈ gBIG := gIn 1242 rfl rfl
set_option maxRecDepth 20000 in
theorem k_434 : (.fieldLink "BuildGridModel" 96 "BuildGridModel" "key" "[I" : Cond) ∈ gBIG := gIn 1243 rfl rfl
set_option maxRecDepth 20000 in
theorem k_435 : (.fieldLink "BuildGridModel" 99 "BuildGridModel" "content" "[I" : Cond) ∈ gBIG := gIn 1244 rfl rfl
set_option maxRecDepth 20000 in
theorem k_436 : (.fieldLink "BuildGridModel" 102 "BuildGridModel" "warm" "[I" : Cond) ∈ gBIG := gIn 1245 rfl rfl
set_option maxRecDepth 20000 in
theorem k_437 : (.fieldLink "BuildGridModel" 168 "BuildGridModel" "goes" "Z" : Cond) ∈ gBIG := gIn 1246 rfl rfl
set_option maxRecDepth 20000 in
theorem k_438 : (.fieldLink "BuildGridModel" 231 "BuildGridModel" "roots" "I" : Cond) ∈ gBIG := gIn 1247 rfl rfl
set_option maxRecDepth 20000 in
theorem k_439 : (.fieldLink "BuildGridModel" 105 "BuildGridModel" "state" "[I" : Cond) ∈ gBIG := gIn 1248 rfl rfl
set_option maxRecDepth 20000 in
theorem k_440 : (.fieldLink "BuildGridModel" 108 "BuildGridModel" "result" "[I" : Cond) ∈ gBIG := gIn 1249 rfl rfl
set_option maxRecDepth 20000 in
theorem k_441 : (.fieldLink "BuildGridModel" 111 "BuildGridModel" "by" "[I" : Cond) ∈ gBIG := gIn 1250 rfl rfl
set_option maxRecDepth 20000 in
theorem k_442 : (.fieldLink "BuildGridModel" 114 "BuildGridModel" "failures" "[I" : Cond) ∈ gBIG := gIn 1251 rfl rfl
set_option maxRecDepth 20000 in
theorem k_443 : (.fieldLink "BuildGridModel" 117 "BuildGridModel" "flake" "[Z" : Cond) ∈ gBIG := gIn 1252 rfl rfl
set_option maxRecDepth 20000 in
theorem k_444 : (.fieldLink "BuildGridModel" 237 "BuildGridModel" "flaked" "I" : Cond) ∈ gBIG := gIn 1253 rfl rfl
set_option maxRecDepth 20000 in
theorem k_445 : (.fieldLink "BuildGridModel" 120 "BuildGridModel" "attempts" "[I" : Cond) ∈ gBIG := gIn 1254 rfl rfl
set_option maxRecDepth 20000 in
theorem k_446 : (.fieldLink "BuildGridModel" 123 "BuildGridModel" "flakes" "[I" : Cond) ∈ gBIG := gIn 1255 rfl rfl
set_option maxRecDepth 20000 in
theorem k_447 : (.fieldLink "BuildGridModel" 126 "BuildGridModel" "took" "[I" : Cond) ∈ gBIG := gIn 1256 rfl rfl
set_option maxRecDepth 20000 in
theorem k_448 : (.fieldLink "BuildGridModel" 129 "BuildGridModel" "counts" "[I" : Cond) ∈ gBIG := gIn 1257 rfl rfl
set_option maxRecDepth 20000 in
theorem k_449 : (.fieldLink "BuildGridModel" 282 "BuildGridModel" "now" "I" : Cond) ∈ gBIG := gIn 1258 rfl rfl
set_option maxRecDepth 20000 in
theorem k_450 : (.fieldLink "BuildGridModel" 298 "BuildGridModel" "looked" "I" : Cond) ∈ gBIG := gIn 1259 rfl rfl
set_option maxRecDepth 20000 in
theorem k_451 : (.fieldLink "BuildGridModel" 132 "BuildGridModel" "seen" "[I" : Cond) ∈ gBIG := gIn 1260 rfl rfl
set_option maxRecDepth 20000 in
theorem k_452 : (.fieldLink "BuildGridModel" 135 "BuildGridModel" "fresh" "[I" : Cond) ∈ gBIG := gIn 1261 rfl rfl
set_option maxRecDepth 20000 in
theorem k_453 : (.fieldLink "BuildGridModel" 138 "BuildGridModel" "digest" "[I" : Cond) ∈ gBIG := gIn 1262 rfl rfl
set_option maxRecDepth 20000 in
theorem k_454 : (.fieldLink "BuildGridModel" 141 "BuildGridModel" "good" "[Z" : Cond) ∈ gBIG := gIn 1263 rfl rfl
set_option maxRecDepth 20000 in
theorem k_455 : (.fieldLink "BuildGridModel" 144 "BuildGridModel" "ways" "[I" : Cond) ∈ gBIG := gIn 1264 rfl rfl
set_option maxRecDepth 20000 in
theorem k_456 : (.fieldLink "BuildGridModel" 147 "BuildGridModel" "proofs" "[I" : Cond) ∈ gBIG := gIn 1265 rfl rfl
set_option maxRecDepth 20000 in
theorem k_457 : (.methodLink "BuildGridLaw" 94 ⟨"BuildGridModel", "thrown", "()I"⟩ : Cond) ∈ gBIG := gIn 1380 rfl rfl
set_option maxRecDepth 20000 in
theorem k_458 : (.methodLink "BuildGridLaw" 93 ⟨"BuildGridModel", "write", "(II)I"⟩ : Cond) ∈ gBIG := gIn 1384 rfl rfl
set_option maxRecDepth 20000 in
theorem k_459 : (.methodLink "BuildGridModel" 157 ⟨"BuildGridModel", "in", "(III)Z"⟩ : Cond) ∈ gBIG := gIn 1388 rfl rfl
set_option maxRecDepth 20000 in
theorem k_460 : (.methodLink "BuildGridModel" 161 ⟨"BuildGridModel", "asked", "(Z)Z"⟩ : Cond) ∈ gBIG := gIn 1391 rfl rfl
set_option maxRecDepth 20000 in
theorem k_461 : (.methodLink "BuildGridLaw" 100 ⟨"BuildGridModel", "set", "(II)I"⟩ : Cond) ∈ gBIG := gIn 1395 rfl rfl
set_option maxRecDepth 20000 in
theorem k_462 : (.methodLink "BuildGridModel" 171 ⟨"BuildGridModel", "asked", "(ZZ)Z"⟩ : Cond) ∈ gBIG := gIn 1399 rfl rfl
set_option maxRecDepth 20000 in
theorem k_463 : (.methodLink "BuildGridLaw" 103 ⟨"BuildGridModel", "setTool", "(II)I"⟩ : Cond) ∈ gBIG := gIn 1403 rfl rfl
set_option maxRecDepth 20000 in
theorem k_464 : (.methodLink "BuildGridLaw" 107 ⟨"BuildGridModel", "input", "(IIII)I"⟩ : Cond) ∈ gBIG := gIn 1407 rfl rfl
set_option maxRecDepth 20000 in
theorem k_465 : (.methodLink "BuildGridModel" 178 ⟨"BuildGridModel", "isInput", "(I)Z"⟩ : Cond) ∈ gBIG := gIn 1411 rfl rfl
set_option maxRecDepth 20000 in
theorem k_466 : (.methodLink "BuildGridModel" 174 ⟨"BuildGridModel", "isTarget", "(I)Z"⟩ : Cond) ∈ gBIG := gIn 1415 rfl rfl
set_option maxRecDepth 20000 in
theorem k_467 : (.methodLink "BuildGridLaw" 111 ⟨"BuildGridModel", "target", "(IIIIII)I"⟩ : Cond) ∈ gBIG := gIn 1419 rfl rfl
set_option maxRecDepth 20000 in
theorem k_468 : (.constant "BuildGridModel" 181 (65535 : Int32) : Cond) ∈ gBIG := gIn 1423 rfl rfl
set_option maxRecDepth 20000 in
theorem k_469 : (.methodLink "BuildGridModel" 182 ⟨"BuildGridModel", "lay", "(II)V"⟩ : Cond) ∈ gBIG := gIn 1424 rfl rfl
set_option maxRecDepth 20000 in
theorem k_470 : (.methodLink "BuildGridLaw" 114 ⟨"BuildGridModel", "copy", "(II)I"⟩ : Cond) ∈ gBIG := gIn 1428 rfl rfl
set_option maxRecDepth 20000 in
theorem k_471 : (.methodLink "BuildGridLaw" 126 ⟨"BuildGridModel", "entries", "()I"⟩ : Cond) ∈ gBIG := gIn 1432 rfl rfl
set_option maxRecDepth 20000 in
theorem k_472 : (.methodLink "BuildGridLaw" 129 ⟨"BuildGridModel", "entry", "(II)I"⟩ : Cond) ∈ gBIG := gIn 1436 rfl rfl
set_option maxRecDepth 20000 in
theorem k_473 : (.methodLink "BuildGridModel" 221 ⟨"BuildGridModel", "isSigned", "(I)Z"⟩ : Cond) ∈ gBIG := gIn 1440 rfl rfl
set_option maxRecDepth 20000 in
theorem k_474 : (.methodLink "BuildGridModel" 211 ⟨"BuildGridModel", "signature", "(III)I"⟩ : Cond) ∈ gBIG := gIn 1444 rfl rfl
set_option maxRecDepth 20000 in
theorem k_475 : (.methodLink "BuildGridModel" 191 ⟨"BuildGridModel", "put", "(II)I"⟩ : Cond) ∈ gBIG := gIn 1448 rfl rfl
set_option maxRecDepth 20000 in
theorem k_476 : (.constant "BuildGridModel" 190 (100003 : Int32) : Cond) ∈ gBIG := gIn 1451 rfl rfl
set_option maxRecDepth 20000 in
theorem k_477 : (.methodLink "BuildGridLaw" 133 ⟨"BuildGridModel", "lie", "(II)V"⟩ : Cond) ∈ gBIG := gIn 1452 rfl rfl
set_option maxRecDepth 20000 in
theorem k_478 : (.constant "BuildGridModel" 224 (100002 : Int32) : Cond) ∈ gBIG := gIn 1456 rfl rfl
set_option maxRecDepth 20000 in
theorem k_479 : (.methodLink "BuildGridLaw" 137 ⟨"BuildGridModel", "lose", "(I)Z"⟩ : Cond) ∈ gBIG := gIn 1457 rfl rfl
set_option maxRecDepth 20000 in
theorem k_480 : (.methodLink "BuildGridLaw" 117 ⟨"BuildGridModel", "setPower", "(II)I"⟩ : Cond) ∈ gBIG := gIn 1461 rfl rfl
set_option maxRecDepth 20000 in
theorem k_481 : (.methodLink "BuildGridModel" 225 ⟨"BuildGridModel", "workerAt", "(I)I"⟩ : Cond) ∈ gBIG := gIn 1465 rfl rfl
set_option maxRecDepth 20000 in
theorem k_482 : (.methodLink "BuildGridLaw" 122 ⟨"BuildGridModel", "setWays", "(ZZ)V"⟩ : Cond) ∈ gBIG := gIn 1469 rfl rfl
set_option maxRecDepth 20000 in
theorem k_483 : (.methodLink "BuildGridLaw" 140 ⟨"BuildGridModel", "build", "(I)I"⟩ : Cond) ∈ gBIG := gIn 1473 rfl rfl
set_option maxRecDepth 20000 in
theorem k_484 : (.methodLink "BuildGridModel" 234 ⟨"BuildGridModel", "neededBy", "(I)I"⟩ : Cond) ∈ gBIG := gIn 1477 rfl rfl
set_option maxRecDepth 20000 in
theorem k_485 : (.methodLink "BuildGridModel" 186 ⟨"BuildGridModel", "inputOf", "(II)I"⟩ : Cond) ∈ gBIG := gIn 1481 rfl rfl
set_option maxRecDepth 20000 in
theorem k_486 : (.methodLink "BuildGridModel" 240 ⟨"BuildGridModel", "isNeeded", "(I)Z"⟩ : Cond) ∈ gBIG := gIn 1485 rfl rfl
set_option maxRecDepth 20000 in
theorem k_487 : (.methodLink "BuildGridModel" 243 ⟨"BuildGridModel", "opens", "()V"⟩ : Cond) ∈ gBIG := gIn 1489 rfl rfl
set_option maxRecDepth 20000 in
theorem k_488 : (.methodLink "BuildGridModel" 246 ⟨"BuildGridModel", "opensOne", "(II)V"⟩ : Cond) ∈ gBIG := gIn 1493 rfl rfl
set_option maxRecDepth 20000 in
theorem k_489 : (.methodLink "BuildGridModel" 249 ⟨"BuildGridModel", "hit", "(I)I"⟩ : Cond) ∈ gBIG := gIn 1497 rfl rfl
set_option maxRecDepth 20000 in
theorem k_490 : (.methodLink "BuildGridModel" 215 ⟨"BuildGridModel", "keyOf", "(I)I"⟩ : Cond) ∈ gBIG := gIn 1501 rfl rfl
set_option maxRecDepth 20000 in
theorem k_491 : (.methodLink "BuildGridModel" 194 ⟨"BuildGridModel", "keyBegin", "(II)I"⟩ : Cond) ∈ gBIG := gIn 1505 rfl rfl
set_option maxRecDepth 20000 in
theorem k_492 : (.methodLink "BuildGridModel" 207 ⟨"BuildGridModel", "digestOf", "(I)I"⟩ : Cond) ∈ gBIG := gIn 1509 rfl rfl
set_option maxRecDepth 20000 in
theorem k_493 : (.methodLink "BuildGridModel" 197 ⟨"BuildGridModel", "foundBy", "(II)I"⟩ : Cond) ∈ gBIG := gIn 1513 rfl rfl
set_option maxRecDepth 20000 in
theorem k_494 : (.methodLink "BuildGridModel" 200 ⟨"BuildGridModel", "breaks", "(II)Z"⟩ : Cond) ∈ gBIG := gIn 1517 rfl rfl
set_option maxRecDepth 20000 in
theorem k_495 : (.methodLink "BuildGridLaw" 143 ⟨"BuildGridModel", "pass", "(I)I"⟩ : Cond) ∈ gBIG := gIn 1521 rfl rfl
set_option maxRecDepth 20000 in
theorem k_496 : (.methodLink "BuildGridModel" 279 ⟨"BuildGridModel", "builds", "()V"⟩ : Cond) ∈ gBIG := gIn 1525 rfl rfl
set_option maxRecDepth 20000 in
theorem k_497 : (.methodLink "BuildGridModel" 265 ⟨"BuildGridModel", "next", "()I"⟩ : Cond) ∈ gBIG := gIn 1529 rfl rfl
set_option maxRecDepth 20000 in
theorem k_498 : (.methodLink "BuildGridModel" 258 ⟨"BuildGridModel", "wayOf", "(I)I"⟩ : Cond) ∈ gBIG := gIn 1533 rfl rfl
set_option maxRecDepth 20000 in
theorem k_499 : (.methodLink "BuildGridModel" 252 ⟨"BuildGridModel", "hasInput", "(II)Z"⟩ : Cond) ∈ gBIG := gIn 1537 rfl rfl
set_option maxRecDepth 20000 in
theorem k_500 : (.methodLink "BuildGridModel" 269 ⟨"BuildGridModel", "idle", "()I"⟩ : Cond) ∈ gBIG := gIn 1541 rfl rfl
set_option maxRecDepth 20000 in
theorem k_501 : (.methodLink "BuildGridModel" 272 ⟨"BuildGridModel", "begins", "(II)V"⟩ : Cond) ∈ gBIG := gIn 1545 rfl rfl
set_option maxRecDepth 20000 in
theorem k_502 : (.methodLink "BuildGridModel" 255 ⟨"BuildGridModel", "ticksOf", "(II)I"⟩ : Cond) ∈ gBIG := gIn 1549 rfl rfl
set_option maxRecDepth 20000 in
theorem k_503 : (.methodLink "BuildGridModel" 275 ⟨"BuildGridModel", "ends", "(I)V"⟩ : Cond) ∈ gBIG := gIn 1553 rfl rfl
set_option maxRecDepth 20000 in
theorem k_504 : (.methodLink "BuildGridModel" 261 ⟨"BuildGridModel", "keep", "(IIIII)V"⟩ : Cond) ∈ gBIG := gIn 1557 rfl rfl
set_option maxRecDepth 20000 in
theorem k_505 : (.methodLink "BuildGridLaw" 148 ⟨"BuildGridModel", "goesOn", "()Z"⟩ : Cond) ∈ gBIG := gIn 1561 rfl rfl
set_option maxRecDepth 20000 in
theorem k_506 : (.methodLink "BuildGridLaw" 151 ⟨"BuildGridModel", "state", "(II)I"⟩ : Cond) ∈ gBIG := gIn 1565 rfl rfl
set_option maxRecDepth 20000 in
theorem k_507 : (.methodLink "BuildGridLaw" 154 ⟨"BuildGridModel", "result", "(II)I"⟩ : Cond) ∈ gBIG := gIn 1569 rfl rfl
set_option maxRecDepth 20000 in
theorem k_508 : (.methodLink "BuildGridLaw" 157 ⟨"BuildGridModel", "about", "(II)I"⟩ : Cond) ∈ gBIG := gIn 1573 rfl rfl
set_option maxRecDepth 20000 in
theorem k_509 : (.methodLink "BuildGridModel" 288 ⟨"BuildGridModel", "freshenNow", "()V"⟩ : Cond) ∈ gBIG := gIn 1577 rfl rfl
set_option maxRecDepth 20000 in
theorem k_510 : (.methodLink "BuildGridModel" 204 ⟨"BuildGridModel", "freshen", "()V"⟩ : Cond) ∈ gBIG := gIn 1581 rfl rfl
set_option maxRecDepth 20000 in
theorem k_511 : (.methodLink "BuildGridModel" 291 ⟨"BuildGridModel", "isSound", "(IZ)Z"⟩ : Cond) ∈ gBIG := gIn 1585 rfl rfl
set_option maxRecDepth 20000 in
theorem k_512 : (.methodLink "BuildGridModel" 285 ⟨"BuildGridModel", "isDone", "(I)Z"⟩ : Cond) ∈ gBIG := gIn 1589 rfl rfl
set_option maxRecDepth 20000 in
theorem k_513 : (.methodLink "BuildGridModel" 295 ⟨"BuildGridModel", "isStale", "(I)Z"⟩ : Cond) ∈ gBIG := gIn 1593 rfl rfl
set_option maxRecDepth 20000 in
theorem k_514 : (.methodLink "BuildGridLaw" 160 ⟨"BuildGridModel", "proof", "(I)I"⟩ : Cond) ∈ gBIG := gIn 1597 rfl rfl
set_option maxRecDepth 20000 in
theorem k_515 : (.methodLink "BuildGridLaw" 163 ⟨"BuildGridModel", "count", "(I)I"⟩ : Cond) ∈ gBIG := gIn 1601 rfl rfl
set_option maxRecDepth 20000 in
theorem k_516 : (.methodLink "BuildGridLaw" 166 ⟨"BuildGridModel", "needed", "(I)I"⟩ : Cond) ∈ gBIG := gIn 1605 rfl rfl
set_option maxRecDepth 20000 in
theorem k_517 : (.methodLink "BuildGridLaw" 169 ⟨"BuildGridModel", "needing", "(I)I"⟩ : Cond) ∈ gBIG := gIn 1609 rfl rfl
set_option maxRecDepth 20000 in
theorem k_518 : (.methodLink "BuildGridLaw" 172 ⟨"BuildGridModel", "steps", "(II)I"⟩ : Cond) ∈ gBIG := gIn 1613 rfl rfl
set_option maxRecDepth 20000 in
theorem k_519 : (.methodLink "BuildGridLaw" 176 ⟨"BuildGridModel", "changes", "()I"⟩ : Cond) ∈ gBIG := gIn 1617 rfl rfl
set_option maxRecDepth 20000 in
theorem k_520 : (.methodLink "BuildGridLaw" 179 ⟨"BuildGridModel", "bisect", "(I)I"⟩ : Cond) ∈ gBIG := gIn 1621 rfl rfl
set_option maxRecDepth 20000 in
theorem k_521 : (.methodLink "BuildGridModel" 301 ⟨"BuildGridModel", "isGood", "(II)Z"⟩ : Cond) ∈ gBIG := gIn 1625 rfl rfl
set_option maxRecDepth 20000 in
theorem k_522 : (.methodLink "BuildGridLaw" 183 ⟨"BuildGridModel", "looks", "()I"⟩ : Cond) ∈ gBIG := gIn 1629 rfl rfl
set_option maxRecDepth 20000 in
theorem k_523 : (.castable "java/lang/IllegalArgumentException" "java/lang/IllegalArgumentException" : Cond) ∈ gNest := gInN 536 rfl rfl
set_option maxRecDepth 20000 in
theorem k_524 : (.castable "java/lang/IllegalStateException" "java/lang/IllegalStateException" : Cond) ∈ gNest := gInN 638 rfl rfl
set_option maxRecDepth 20000 in
theorem k_525 : (.castable "java/lang/IndexOutOfBoundsException" "java/lang/IndexOutOfBoundsException" : Cond) ∈ gNest := gInN 681 rfl rfl
set_option maxRecDepth 20000 in
theorem k_526 : (.initialized "BuildGridLaw" : Cond) ∈ gBIG := gIn 64 rfl rfl
set_option maxRecDepth 20000 in
theorem k_527 : (.initialized "BuildGrid" : Cond) ∈ gBIG := gIn 65 rfl rfl
set_option maxRecDepth 20000 in
theorem k_528 : (.initialized "BuildGrid$Sources" : Cond) ∈ gBIG := gIn 66 rfl rfl
set_option maxRecDepth 20000 in
theorem k_529 : (.initialized "BuildGrid$Graph" : Cond) ∈ gBIG := gIn 67 rfl rfl
set_option maxRecDepth 20000 in
theorem k_530 : (.initialized "BuildGrid$Target" : Cond) ∈ gBIG := gIn 68 rfl rfl
set_option maxRecDepth 20000 in
theorem k_531 : (.initialized "BuildGrid$Inputs" : Cond) ∈ gBIG := gIn 69 rfl rfl
set_option maxRecDepth 20000 in
theorem k_532 : (.initialized "BuildGrid$Action" : Cond) ∈ gBIG := gIn 70 rfl rfl
set_option maxRecDepth 20000 in
theorem k_533 : (.initialized "BuildGrid$Cache" : Cond) ∈ gBIG := gIn 71 rfl rfl
set_option maxRecDepth 20000 in
theorem k_534 : (.initialized "BuildGrid$Entry" : Cond) ∈ gBIG := gIn 72 rfl rfl
set_option maxRecDepth 20000 in
theorem k_535 : (.initialized "BuildGrid$Course" : Cond) ∈ gBIG := gIn 73 rfl rfl
set_option maxRecDepth 20000 in
theorem k_536 : (.initialized "BuildGrid$View" : Cond) ∈ gBIG := gIn 74 rfl rfl
set_option maxRecDepth 20000 in
theorem k_537 : (.initialized "BuildGrid$Worker" : Cond) ∈ gBIG := gIn 75 rfl rfl
set_option maxRecDepth 20000 in
theorem k_538 : (.initialized "BuildGrid$Fresh" : Cond) ∈ gBIG := gIn 76 rfl rfl
set_option maxRecDepth 20000 in
theorem k_539 : (.initialized "BuildGridModel" : Cond) ∈ gBIG := gIn 77 rfl rfl
set_option maxRecDepth 20000 in
theorem k_540 : (.initialized "java/lang/Throwable" : Cond) ∈ gBIG := gIn 78 rfl rfl
set_option maxRecDepth 20000 in
theorem k_541 : (.initialized "java/lang/Exception" : Cond) ∈ gBIG := gIn 79 rfl rfl
set_option maxRecDepth 20000 in
theorem k_542 : (.initialized "java/lang/RuntimeException" : Cond) ∈ gBIG := gIn 80 rfl rfl
set_option maxRecDepth 20000 in
theorem k_543 : (.initialized "java/lang/IllegalArgumentException" : Cond) ∈ gBIG := gIn 81 rfl rfl
set_option maxRecDepth 20000 in
theorem k_544 : (.initialized "java/lang/IllegalStateException" : Cond) ∈ gBIG := gIn 82 rfl rfl
set_option maxRecDepth 20000 in
theorem k_545 : (.initialized "java/lang/IndexOutOfBoundsException" : Cond) ∈ gBIG := gIn 83 rfl rfl
set_option maxRecDepth 20000 in
theorem k_546 : (.initialized "java/lang/Math" : Cond) ∈ gBIG := gIn 84 rfl rfl
set_option maxRecDepth 20000 in
theorem k_547 : (.instanceMethod ⟨"BuildGrid", "<init>", "()V"⟩ : Cond) ∈ gBIG := gIn 88 rfl rfl
set_option maxRecDepth 20000 in
theorem k_548 : (.code ⟨"BuildGrid", "<init>", "()V"⟩ prog_1_method_1_code 1 (none : Option FieldType) : Cond) ∈ gBIG := gIn 89 rfl rfl
set_option maxRecDepth 20000 in
theorem k_549 : (.instanceMethod ⟨"BuildGrid$Sources", "<init>", "()V"⟩ : Cond) ∈ gBIG := gIn 96 rfl rfl
set_option maxRecDepth 20000 in
theorem k_550 : (.code ⟨"BuildGrid$Sources", "<init>", "()V"⟩ prog_9_method_1_code 1 (none : Option FieldType) : Cond) ∈ gBIG := gIn 97 rfl rfl
set_option maxRecDepth 20000 in
theorem k_551 : (.instanceMethod ⟨"BuildGrid$Graph", "<init>", "([I)V"⟩ : Cond) ∈ gBIG := gIn 128 rfl rfl
set_option maxRecDepth 20000 in
theorem k_552 : (.code ⟨"BuildGrid$Graph", "<init>", "([I)V"⟩ prog_7_method_1_code 3 (none : Option FieldType) : Cond) ∈ gBIG := gIn 129 rfl rfl
set_option maxRecDepth 20000 in
theorem k_553 : (.instanceMethod ⟨"BuildGrid$Target", "<init>", "(I[I)V"⟩ : Cond) ∈ gBIG := gIn 135 rfl rfl
set_option maxRecDepth 20000 in
theorem k_554 : (.code ⟨"BuildGrid$Target", "<init>", "(I[I)V"⟩ prog_10_method_1_code 4 (none : Option FieldType) : Cond) ∈ gBIG := gIn 136 rfl rfl
set_option maxRecDepth 20000 in
theorem k_555 : (.instanceMethod ⟨"BuildGrid$Inputs", "<init>", "([I)V"⟩ : Cond) ∈ gBIG := gIn 143 rfl rfl
set_option maxRecDepth 20000 in
theorem k_556 : (.code ⟨"BuildGrid$Inputs", "<init>", "([I)V"⟩ prog_8_method_1_code 2 (none : Option FieldType) : Cond) ∈ gBIG := gIn 144 rfl rfl
set_option maxRecDepth 20000 in
theorem k_557 : (.instanceMethod ⟨"BuildGrid$Action", "<init>", "(II)V"⟩ : Cond) ∈ gBIG := gIn 171 rfl rfl
set_option maxRecDepth 20000 in
theorem k_558 : (.code ⟨"BuildGrid$Action", "<init>", "(II)V"⟩ prog_2_method_1_code 3 (none : Option FieldType) : Cond) ∈ gBIG := gIn 172 rfl rfl
set_option maxRecDepth 20000 in
theorem k_559 : (.instanceMethod ⟨"BuildGrid$Cache", "<init>", "()V"⟩ : Cond) ∈ gBIG := gIn 305 rfl rfl
set_option maxRecDepth 20000 in
theorem k_560 : (.code ⟨"BuildGrid$Cache", "<init>", "()V"⟩ prog_3_method_1_code 2 (none : Option FieldType) : Cond) ∈ gBIG := gIn 306 rfl rfl
set_option maxRecDepth 20000 in
theorem k_561 : (.instanceMethod ⟨"BuildGrid$Entry", "<init>", "()V"⟩ : Cond) ∈ gBIG := gIn 312 rfl rfl
set_option maxRecDepth 20000 in
theorem k_562 : (.code ⟨"BuildGrid$Entry", "<init>", "()V"⟩ prog_5_method_1_code 1 (none : Option FieldType) : Cond) ∈ gBIG := gIn 313 rfl rfl
set_option maxRecDepth 20000 in
theorem k_563 : (.instanceMethod ⟨"BuildGrid$View", "<init>", "([I[I)V"⟩ : Cond) ∈ gBIG := gIn 359 rfl rfl
set_option maxRecDepth 20000 in
theorem k_564 : (.code ⟨"BuildGrid$View", "<init>", "([I[I)V"⟩ prog_11_method_1_code 3 (none : Option FieldType) : Cond) ∈ gBIG := gIn 360 rfl rfl
set_option maxRecDepth 20000 in
theorem k_565 : (.instanceMethod ⟨"BuildGrid$Course", "<init>", "(LBuildGrid$Graph;LBuildGrid$Cache;LBuildGrid$View;)V"⟩ : Cond) ∈ gBIG := gIn 376 rfl rfl
set_option maxRecDepth 20000 in
theorem k_566 : (.code ⟨"BuildGrid$Course", "<init>", "(LBuildGrid$Graph;LBuildGrid$Cache;LBuildGrid$View;)V"⟩ prog_4_method_1_code 5 (none : Option FieldType) : Cond) ∈ gBIG := gIn 377 rfl rfl
set_option maxRecDepth 20000 in
theorem k_567 : (.instanceMethod ⟨"BuildGrid$Worker", "<init>", "(II)V"⟩ : Cond) ∈ gBIG := gIn 382 rfl rfl
set_option maxRecDepth 20000 in
theorem k_568 : (.code ⟨"BuildGrid$Worker", "<init>", "(II)V"⟩ prog_12_method_1_code 3 (none : Option FieldType) : Cond) ∈ gBIG := gIn 383 rfl rfl
set_option maxRecDepth 20000 in
theorem k_569 : (.instanceMethod ⟨"BuildGrid$Fresh", "<init>", "(LBuildGrid$Graph;LBuildGrid$Sources;)V"⟩ : Cond) ∈ gBIG := gIn 460 rfl rfl
set_option maxRecDepth 20000 in
theorem k_570 : (.code ⟨"BuildGrid$Fresh", "<init>", "(LBuildGrid$Graph;LBuildGrid$Sources;)V"⟩ prog_6_method_1_code 3 (none : Option FieldType) : Cond) ∈ gBIG := gIn 461 rfl rfl
set_option maxRecDepth 20000 in
theorem k_571 : (.instanceMethod ⟨"BuildGrid", "setWays", "(ZZ)V"⟩ : Cond) ∈ gBIG := gIn 501 rfl rfl
set_option maxRecDepth 20000 in
theorem k_572 : (.selects "BuildGrid" ⟨"BuildGrid", "setWays", "(ZZ)V"⟩ ⟨"BuildGrid", "setWays", "(ZZ)V"⟩ : Cond) ∈ gBIG := gIn 502 rfl rfl
set_option maxRecDepth 20000 in
theorem k_573 : (.code ⟨"BuildGrid", "setWays", "(ZZ)V"⟩ prog_1_method_9_code 3 (none : Option FieldType) : Cond) ∈ gBIG := gIn 503 rfl rfl
set_option maxRecDepth 20000 in
theorem k_574 : (.instanceMethod ⟨"BuildGrid", "entries", "()I"⟩ : Cond) ∈ gBIG := gIn 505 rfl rfl
set_option maxRecDepth 20000 in
theorem k_575 : (.selects "BuildGrid" ⟨"BuildGrid", "entries", "()I"⟩ ⟨"BuildGrid", "entries", "()I"⟩ : Cond) ∈ gBIG := gIn 506 rfl rfl
set_option maxRecDepth 20000 in
theorem k_576 : (.code ⟨"BuildGrid", "entries", "()I"⟩ prog_1_method_10_code 1 (some Jvm.ClassFile.FieldType.int) : Cond) ∈ gBIG := gIn 507 rfl rfl
set_option maxRecDepth 20000 in
theorem k_577 : (.instanceMethod ⟨"BuildGrid", "goesOn", "()Z"⟩ : Cond) ∈ gBIG := gIn 509 rfl rfl
set_option maxRecDepth 20000 in
theorem k_578 : (.selects "BuildGrid" ⟨"BuildGrid", "goesOn", "()Z"⟩ ⟨"BuildGrid", "goesOn", "()Z"⟩ : Cond) ∈ gBIG := gIn 510 rfl rfl
set_option maxRecDepth 20000 in
theorem k_579 : (.code ⟨"BuildGrid", "goesOn", "()Z"⟩ prog_1_method_16_code 1 (some Jvm.ClassFile.FieldType.boolean) : Cond) ∈ gBIG := gIn 511 rfl rfl
set_option maxRecDepth 20000 in
theorem k_580 : (.instanceMethod ⟨"BuildGrid", "changes", "()I"⟩ : Cond) ∈ gBIG := gIn 513 rfl rfl
set_option maxRecDepth 20000 in
theorem k_581 : (.selects "BuildGrid" ⟨"BuildGrid", "changes", "()I"⟩ ⟨"BuildGrid", "changes", "()I"⟩ : Cond) ∈ gBIG := gIn 514 rfl rfl
set_option maxRecDepth 20000 in
theorem k_582 : (.code ⟨"BuildGrid", "changes", "()I"⟩ prog_1_method_25_code 1 (some Jvm.ClassFile.FieldType.int) : Cond) ∈ gBIG := gIn 515 rfl rfl
set_option maxRecDepth 20000 in
theorem k_583 : (.instanceMethod ⟨"BuildGrid", "looks", "()I"⟩ : Cond) ∈ gBIG := gIn 517 rfl rfl
set_option maxRecDepth 20000 in
theorem k_584 : (.selects "BuildGrid" ⟨"BuildGrid", "looks", "()I"⟩ ⟨"BuildGrid", "looks", "()I"⟩ : Cond) ∈ gBIG := gIn 518 rfl rfl
set_option maxRecDepth 20000 in
theorem k_585 : (.code ⟨"BuildGrid", "looks", "()I"⟩ prog_1_method_27_code 1 (some Jvm.ClassFile.FieldType.int) : Cond) ∈ gBIG := gIn 519 rfl rfl
set_option maxRecDepth 20000 in
theorem k_586 : (.static ⟨"BuildGridLaw", "write", "(LBuildGrid;II[J)I"⟩ : Cond) ∈ gBIG := gIn 521 rfl rfl
set_option maxRecDepth 20000 in
theorem k_587 : (.instanceMethod ⟨"BuildGrid", "write", "(II)I"⟩ : Cond) ∈ gBIG := gIn 525 rfl rfl
set_option maxRecDepth 20000 in
theorem k_588 : (.selects "BuildGrid" ⟨"BuildGrid", "write", "(II)I"⟩ ⟨"BuildGrid", "write", "(II)I"⟩ : Cond) ∈ gBIG := gIn 526 rfl rfl
set_option maxRecDepth 20000 in
theorem k_589 : (.code ⟨"BuildGrid", "write", "(II)I"⟩ prog_1_method_2_code 3 (some Jvm.ClassFile.FieldType.int) : Cond) ∈ gBIG := gIn 527 rfl rfl
set_option maxRecDepth 20000 in
theorem k_590 : (.static ⟨"BuildGrid", "isBelow", "(II)Z"⟩ : Cond) ∈ gBIG := gIn 529 rfl rfl
set_option maxRecDepth 20000 in
theorem k_591 : (.code ⟨"BuildGrid", "isBelow", "(II)Z"⟩ prog_1_method_34_code 2 (some Jvm.ClassFile.FieldType.boolean) : Cond) ∈ gBIG := gIn 530 rfl rfl
set_option maxRecDepth 20000 in
theorem k_592 : (.static ⟨"BuildGrid", "checkArgument", "(Z)V"⟩ : Cond) ∈ gBIG := gIn 532 rfl rfl
set_option maxRecDepth 20000 in
theorem k_593 : (.code ⟨"BuildGrid", "checkArgument", "(Z)V"⟩ prog_1_method_28_code 1 (none : Option FieldType) : Cond) ∈ gBIG := gIn 533 rfl rfl
set_option maxRecDepth 20000 in
theorem k_594 : (.instanceMethod ⟨"BuildGrid$Sources", "rewrite", "(II)I"⟩ : Cond) ∈ gBIG := gIn 603 rfl rfl
set_option maxRecDepth 20000 in
theorem k_595 : (.selects "BuildGrid$Sources" ⟨"BuildGrid$Sources", "rewrite", "(II)I"⟩ ⟨"BuildGrid$Sources", "rewrite", "(II)I"⟩ : Cond) ∈ gBIG := gIn 604 rfl rfl
set_option maxRecDepth 20000 in
theorem k_596 : (.code ⟨"BuildGrid$Sources", "rewrite", "(II)I"⟩ prog_9_method_2_code 4 (some Jvm.ClassFile.FieldType.int) : Cond) ∈ gBIG := gIn 605 rfl rfl
set_option maxRecDepth 20000 in
theorem k_597 : (.static ⟨"BuildGrid", "exchange", "([III)I"⟩ : Cond) ∈ gBIG := gIn 607 rfl rfl
set_option maxRecDepth 20000 in
theorem k_598 : (.code ⟨"BuildGrid", "exchange", "([III)I"⟩ prog_1_method_39_code 4 (some Jvm.ClassFile.FieldType.int) : Cond) ∈ gBIG := gIn 608 rfl rfl
set_option maxRecDepth 20000 in
theorem k_599 : (.static ⟨"BuildGrid", "at", "([II)I"⟩ : Cond) ∈ gBIG := gIn 610 rfl rfl
set_option maxRecDepth 20000 in
theorem k_600 : (.code ⟨"BuildGrid", "at", "([II)I"⟩ prog_1_method_37_code 2 (some Jvm.ClassFile.FieldType.int) : Cond) ∈ gBIG := gIn 611 rfl rfl
set_option maxRecDepth 20000 in
theorem k_601 : (.static ⟨"BuildGrid", "store", "([III)V"⟩ : Cond) ∈ gBIG := gIn 613 rfl rfl
set_option maxRecDepth 20000 in
theorem k_602 : (.code ⟨"BuildGrid", "store", "([III)V"⟩ prog_1_method_38_code 3 (none : Option FieldType) : Cond) ∈ gBIG := gIn 614 rfl rfl
set_option maxRecDepth 20000 in
theorem k_603 : (.instanceMethod ⟨"BuildGrid$Sources", "keepChange", "(II)V"⟩ : Cond) ∈ gBIG := gIn 617 rfl rfl
set_option maxRecDepth 20000 in
theorem k_604 : (.code ⟨"BuildGrid$Sources", "keepChange", "(II)V"⟩ prog_9_method_3_code 3 (none : Option FieldType) : Cond) ∈ gBIG := gIn 618 rfl rfl
set_option maxRecDepth 20000 in
theorem k_605 : (.instanceMethod ⟨"BuildGrid$Sources", "forgetFirstChange", "()V"⟩ : Cond) ∈ gBIG := gIn 621 rfl rfl
set_option maxRecDepth 20000 in
theorem k_606 : (.code ⟨"BuildGrid$Sources", "forgetFirstChange", "()V"⟩ prog_9_method_4_code 2 (none : Option FieldType) : Cond) ∈ gBIG := gIn 622 rfl rfl
set_option maxRecDepth 20000 in
theorem k_607 : (.static ⟨"BuildGridLaw", "set", "(LBuildGrid;II[J)I"⟩ : Cond) ∈ gBIG := gIn 626 rfl rfl
set_option maxRecDepth 20000 in
theorem k_608 : (.instanceMethod ⟨"BuildGrid", "set", "(II)I"⟩ : Cond) ∈ gBIG := gIn 630 rfl rfl
set_option maxRecDepth 20000 in
theorem k_609 : (.selects "BuildGrid" ⟨"BuildGrid", "set", "(II)I"⟩ ⟨"BuildGrid", "set", "(II)I"⟩ : Cond) ∈ gBIG := gIn 631 rfl rfl
set_option maxRecDepth 20000 in
theorem k_610 : (.code ⟨"BuildGrid", "set", "(II)I"⟩ prog_1_method_3_code 3 (some Jvm.ClassFile.FieldType.int) : Cond) ∈ gBIG := gIn 632 rfl rfl
set_option maxRecDepth 20000 in
theorem k_611 : (.static ⟨"BuildGrid", "checkState", "(Z)V"⟩ : Cond) ∈ gBIG := gIn 634 rfl rfl
set_option maxRecDepth 20000 in
theorem k_612 : (.code ⟨"BuildGrid", "checkState", "(Z)V"⟩ prog_1_method_29_code 1 (none : Option FieldType) : Cond) ∈ gBIG := gIn 635 rfl rfl
set_option maxRecDepth 20000 in
theorem k_613 : (.static ⟨"BuildGridLaw", "setTool", "(LBuildGrid;II[J)I"⟩ : Cond) ∈ gBIG := gIn 654 rfl rfl
set_option maxRecDepth 20000 in
theorem k_614 : (.instanceMethod ⟨"BuildGrid", "setTool", "(II)I"⟩ : Cond) ∈ gBIG := gIn 657 rfl rfl
set_option maxRecDepth 20000 in
theorem k_615 : (.selects "BuildGrid" ⟨"BuildGrid", "setTool", "(II)I"⟩ ⟨"BuildGrid", "setTool", "(II)I"⟩ : Cond) ∈ gBIG := gIn 658 rfl rfl
set_option maxRecDepth 20000 in
theorem k_616 : (.code ⟨"BuildGrid", "setTool", "(II)I"⟩ prog_1_method_4_code 3 (some Jvm.ClassFile.FieldType.int) : Cond) ∈ gBIG := gIn 659 rfl rfl
set_option maxRecDepth 20000 in
theorem k_617 : (.static ⟨"BuildGridLaw", "input", "(LBuildGrid;IIII[J)I"⟩ : Cond) ∈ gBIG := gIn 661 rfl rfl
set_option maxRecDepth 20000 in
theorem k_618 : (.instanceMethod ⟨"BuildGrid", "input", "(IIII)I"⟩ : Cond) ∈ gBIG := gIn 665 rfl rfl
set_option maxRecDepth 20000 in
theorem k_619 : (.selects "BuildGrid" ⟨"BuildGrid", "input", "(IIII)I"⟩ ⟨"BuildGrid", "input", "(IIII)I"⟩ : Cond) ∈ gBIG := gIn 666 rfl rfl
set_option maxRecDepth 20000 in
theorem k_620 : (.code ⟨"BuildGrid", "input", "(IIII)I"⟩ prog_1_method_5_code 5 (some Jvm.ClassFile.FieldType.int) : Cond) ∈ gBIG := gIn 667 rfl rfl
set_option maxRecDepth 20000 in
theorem k_621 : (.instanceMethod ⟨"BuildGrid", "checkThing", "(I)V"⟩ : Cond) ∈ gBIG := gIn 670 rfl rfl
set_option maxRecDepth 20000 in
theorem k_622 : (.code ⟨"BuildGrid", "checkThing", "(I)V"⟩ prog_1_method_31_code 2 (none : Option FieldType) : Cond) ∈ gBIG := gIn 671 rfl rfl
set_option maxRecDepth 20000 in
theorem k_623 : (.static ⟨"BuildGrid", "isTarget", "(I)Z"⟩ : Cond) ∈ gBIG := gIn 673 rfl rfl
set_option maxRecDepth 20000 in
theorem k_624 : (.code ⟨"BuildGrid", "isTarget", "(I)Z"⟩ prog_1_method_35_code 1 (some Jvm.ClassFile.FieldType.boolean) : Cond) ∈ gBIG := gIn 674 rfl rfl
set_option maxRecDepth 20000 in
theorem k_625 : (.instanceMethod ⟨"BuildGrid", "checkTarget", "(I)V"⟩ : Cond) ∈ gBIG := gIn 677 rfl rfl
set_option maxRecDepth 20000 in
theorem k_626 : (.code ⟨"BuildGrid", "checkTarget", "(I)V"⟩ prog_1_method_30_code 2 (none : Option FieldType) : Cond) ∈ gBIG := gIn 678 rfl rfl
set_option maxRecDepth 20000 in
theorem k_627 : (.instanceMethod ⟨"BuildGrid$Inputs", "append", "(IIII)I"⟩ : Cond) ∈ gBIG := gIn 696 rfl rfl
set_option maxRecDepth 20000 in
theorem k_628 : (.selects "BuildGrid$Inputs" ⟨"BuildGrid$Inputs", "append", "(IIII)I"⟩ ⟨"BuildGrid$Inputs", "append", "(IIII)I"⟩ : Cond) ∈ gBIG := gIn 697 rfl rfl
set_option maxRecDepth 20000 in
theorem k_629 : (.code ⟨"BuildGrid$Inputs", "append", "(IIII)I"⟩ prog_8_method_2_code 5 (some Jvm.ClassFile.FieldType.int) : Cond) ∈ gBIG := gIn 698 rfl rfl
set_option maxRecDepth 20000 in
theorem k_630 : (.static ⟨"BuildGridLaw", "target", "(LBuildGrid;IIIIII[J)I"⟩ : Cond) ∈ gBIG := gIn 701 rfl rfl
set_option maxRecDepth 20000 in
theorem k_631 : (.instanceMethod ⟨"BuildGrid", "target", "(IIIIII)I"⟩ : Cond) ∈ gBIG := gIn 704 rfl rfl
set_option maxRecDepth 20000 in
theorem k_632 : (.selects "BuildGrid" ⟨"BuildGrid", "target", "(IIIIII)I"⟩ ⟨"BuildGrid", "target", "(IIIIII)I"⟩ : Cond) ∈ gBIG := gIn 705 rfl rfl
set_option maxRecDepth 20000 in
theorem k_633 : (.code ⟨"BuildGrid", "target", "(IIIIII)I"⟩ prog_1_method_6_code 8 (some Jvm.ClassFile.FieldType.int) : Cond) ∈ gBIG := gIn 706 rfl rfl
set_option maxRecDepth 20000 in
theorem k_634 : (.instanceMethod ⟨"BuildGrid$Graph", "tellNext", "()LBuildGrid$Target;"⟩ : Cond) ∈ gBIG := gIn 709 rfl rfl
set_option maxRecDepth 20000 in
theorem k_635 : (.selects "BuildGrid$Graph" ⟨"BuildGrid$Graph", "tellNext", "()LBuildGrid$Target;"⟩ ⟨"BuildGrid$Graph", "tellNext", "()LBuildGrid$Target;"⟩ : Cond) ∈ gBIG := gIn 710 rfl rfl
set_option maxRecDepth 20000 in
theorem k_636 : (.code ⟨"BuildGrid$Graph", "tellNext", "()LBuildGrid$Target;"⟩ prog_7_method_2_code 1 (some (Jvm.ClassFile.FieldType.object "BuildGrid$Target")) : Cond) ∈ gBIG := gIn 711 rfl rfl
set_option maxRecDepth 20000 in
theorem k_637 : (.instanceMethod ⟨"BuildGrid$Graph", "targetAt", "(I)LBuildGrid$Target;"⟩ : Cond) ∈ gBIG := gIn 713 rfl rfl
set_option maxRecDepth 20000 in
theorem k_638 : (.selects "BuildGrid$Graph" ⟨"BuildGrid$Graph", "targetAt", "(I)LBuildGrid$Target;"⟩ ⟨"BuildGrid$Graph", "targetAt", "(I)LBuildGrid$Target;"⟩ : Cond) ∈ gBIG := gIn 714 rfl rfl
set_option maxRecDepth 20000 in
theorem k_639 : (.code ⟨"BuildGrid$Graph", "targetAt", "(I)LBuildGrid$Target;"⟩ prog_7_method_3_code 2 (some (Jvm.ClassFile.FieldType.object "BuildGrid$Target")) : Cond) ∈ gBIG := gIn 715 rfl rfl
set_option maxRecDepth 20000 in
theorem k_640 : (.instanceMethod ⟨"BuildGrid$Target", "describe", "(IIIIII)V"⟩ : Cond) ∈ gBIG := gIn 717 rfl rfl
set_option maxRecDepth 20000 in
theorem k_641 : (.selects "BuildGrid$Target" ⟨"BuildGrid$Target", "describe", "(IIIIII)V"⟩ ⟨"BuildGrid$Target", "describe", "(IIIIII)V"⟩ : Cond) ∈ gBIG := gIn 718 rfl rfl
set_option maxRecDepth 20000 in
theorem k_642 : (.code ⟨"BuildGrid$Target", "describe", "(IIIIII)V"⟩ prog_10_method_2_code 7 (none : Option FieldType) : Cond) ∈ gBIG := gIn 719 rfl rfl
set_option maxRecDepth 20000 in
theorem k_643 : (.instanceMethod ⟨"BuildGrid$Inputs", "become", "(LBuildGrid$Inputs;)V"⟩ : Cond) ∈ gBIG := gIn 721 rfl rfl
set_option maxRecDepth 20000 in
theorem k_644 : (.selects "BuildGrid$Inputs" ⟨"BuildGrid$Inputs", "become", "(LBuildGrid$Inputs;)V"⟩ ⟨"BuildGrid$Inputs", "become", "(LBuildGrid$Inputs;)V"⟩ : Cond) ∈ gBIG := gIn 722 rfl rfl
set_option maxRecDepth 20000 in
theorem k_645 : (.code ⟨"BuildGrid$Inputs", "become", "(LBuildGrid$Inputs;)V"⟩ prog_8_method_3_code 3 (none : Option FieldType) : Cond) ∈ gBIG := gIn 723 rfl rfl
set_option maxRecDepth 20000 in
theorem k_646 : (.static ⟨"BuildGridLaw", "copy", "(LBuildGrid;II[J)I"⟩ : Cond) ∈ gBIG := gIn 727 rfl rfl
set_option maxRecDepth 20000 in
theorem k_647 : (.instanceMethod ⟨"BuildGrid", "copy", "(II)I"⟩ : Cond) ∈ gBIG := gIn 730 rfl rfl
set_option maxRecDepth 20000 in
theorem k_648 : (.selects "BuildGrid" ⟨"BuildGrid", "copy", "(II)I"⟩ ⟨"BuildGrid", "copy", "(II)I"⟩ : Cond) ∈ gBIG := gIn 731 rfl rfl
set_option maxRecDepth 20000 in
theorem k_649 : (.code ⟨"BuildGrid", "copy", "(II)I"⟩ prog_1_method_7_code 5 (some Jvm.ClassFile.FieldType.int) : Cond) ∈ gBIG := gIn 732 rfl rfl
set_option maxRecDepth 20000 in
theorem k_650 : (.static ⟨"BuildGridLaw", "setPower", "(LBuildGrid;II[J)I"⟩ : Cond) ∈ gBIG := gIn 735 rfl rfl
set_option maxRecDepth 20000 in
theorem k_651 : (.instanceMethod ⟨"BuildGrid", "setPower", "(II)I"⟩ : Cond) ∈ gBIG := gIn 738 rfl rfl
set_option maxRecDepth 20000 in
theorem k_652 : (.selects "BuildGrid" ⟨"BuildGrid", "setPower", "(II)I"⟩ ⟨"BuildGrid", "setPower", "(II)I"⟩ : Cond) ∈ gBIG := gIn 739 rfl rfl
set_option maxRecDepth 20000 in
theorem k_653 : (.code ⟨"BuildGrid", "setPower", "(II)I"⟩ prog_1_method_8_code 5 (some Jvm.ClassFile.FieldType.int) : Cond) ∈ gBIG := gIn 740 rfl rfl
set_option maxRecDepth 20000 in
theorem k_654 : (.instanceMethod ⟨"BuildGrid$Course", "workerAt", "(I)LBuildGrid$Worker;"⟩ : Cond) ∈ gBIG := gIn 742 rfl rfl
set_option maxRecDepth 20000 in
theorem k_655 : (.selects "BuildGrid$Course" ⟨"BuildGrid$Course", "workerAt", "(I)LBuildGrid$Worker;"⟩ ⟨"BuildGrid$Course", "workerAt", "(I)LBuildGrid$Worker;"⟩ : Cond) ∈ gBIG := gIn 743 rfl rfl
set_option maxRecDepth 20000 in
theorem k_656 : (.code ⟨"BuildGrid$Course", "workerAt", "(I)LBuildGrid$Worker;"⟩ prog_4_method_5_code 2 (some (Jvm.ClassFile.FieldType.object "BuildGrid$Worker")) : Cond) ∈ gBIG := gIn 744 rfl rfl
set_option maxRecDepth 20000 in
theorem k_657 : (.instanceMethod ⟨"BuildGrid$Course", "changePower", "(LBuildGrid$Worker;I)V"⟩ : Cond) ∈ gBIG := gIn 746 rfl rfl
set_option maxRecDepth 20000 in
theorem k_658 : (.selects "BuildGrid$Course" ⟨"BuildGrid$Course", "changePower", "(LBuildGrid$Worker;I)V"⟩ ⟨"BuildGrid$Course", "changePower", "(LBuildGrid$Worker;I)V"⟩ : Cond) ∈ gBIG := gIn 747 rfl rfl
set_option maxRecDepth 20000 in
theorem k_659 : (.code ⟨"BuildGrid$Course", "changePower", "(LBuildGrid$Worker;I)V"⟩ prog_4_method_6_code 4 (none : Option FieldType) : Cond) ∈ gBIG := gIn 748 rfl rfl
set_option maxRecDepth 20000 in
theorem k_660 : (.instanceMethod ⟨"BuildGrid$Worker", "rest", "(I)V"⟩ : Cond) ∈ gBIG := gIn 750 rfl rfl
set_option maxRecDepth 20000 in
theorem k_661 : (.selects "BuildGrid$Worker" ⟨"BuildGrid$Worker", "rest", "(I)V"⟩ ⟨"BuildGrid$Worker", "rest", "(I)V"⟩ : Cond) ∈ gBIG := gIn 751 rfl rfl
set_option maxRecDepth 20000 in
theorem k_662 : (.code ⟨"BuildGrid$Worker", "rest", "(I)V"⟩ prog_12_method_9_code 2 (none : Option FieldType) : Cond) ∈ gBIG := gIn 752 rfl rfl
set_option maxRecDepth 20000 in
theorem k_663 : (.instanceMethod ⟨"BuildGrid$Course", "isAnyAt", "(LBuildGrid$Action;)Z"⟩ : Cond) ∈ gBIG := gIn 755 rfl rfl
set_option maxRecDepth 20000 in
theorem k_664 : (.code ⟨"BuildGrid$Course", "isAnyAt", "(LBuildGrid$Action;)Z"⟩ prog_4_method_7_code 6 (some Jvm.ClassFile.FieldType.boolean) : Cond) ∈ gBIG := gIn 756 rfl rfl
set_option maxRecDepth 20000 in
theorem k_665 : (.instanceMethod ⟨"BuildGrid$Course", "tally", "(I)V"⟩ : Cond) ∈ gBIG := gIn 759 rfl rfl
set_option maxRecDepth 20000 in
theorem k_666 : (.code ⟨"BuildGrid$Course", "tally", "(I)V"⟩ prog_4_method_2_code 2 (none : Option FieldType) : Cond) ∈ gBIG := gIn 760 rfl rfl
set_option maxRecDepth 20000 in
theorem k_667 : (.static ⟨"BuildGridLaw", "entry", "(LBuildGrid;II[J)I"⟩ : Cond) ∈ gBIG := gIn 764 rfl rfl
set_option maxRecDepth 20000 in
theorem k_668 : (.instanceMethod ⟨"BuildGrid", "entry", "(II)I"⟩ : Cond) ∈ gBIG := gIn 767 rfl rfl
set_option maxRecDepth 20000 in
theorem k_669 : (.selects "BuildGrid" ⟨"BuildGrid", "entry", "(II)I"⟩ ⟨"BuildGrid", "entry", "(II)I"⟩ : Cond) ∈ gBIG := gIn 768 rfl rfl
set_option maxRecDepth 20000 in
theorem k_670 : (.code ⟨"BuildGrid", "entry", "(II)I"⟩ prog_1_method_11_code 4 (some Jvm.ClassFile.FieldType.int) : Cond) ∈ gBIG := gIn 769 rfl rfl
set_option maxRecDepth 20000 in
theorem k_671 : (.instanceMethod ⟨"BuildGrid$Cache", "entryAt", "(I)LBuildGrid$Entry;"⟩ : Cond) ∈ gBIG := gIn 771 rfl rfl
set_option maxRecDepth 20000 in
theorem k_672 : (.selects "BuildGrid$Cache" ⟨"BuildGrid$Cache", "entryAt", "(I)LBuildGrid$Entry;"⟩ ⟨"BuildGrid$Cache", "entryAt", "(I)LBuildGrid$Entry;"⟩ : Cond) ∈ gBIG := gIn 772 rfl rfl
set_option maxRecDepth 20000 in
theorem k_673 : (.code ⟨"BuildGrid$Cache", "entryAt", "(I)LBuildGrid$Entry;"⟩ prog_3_method_2_code 2 (some (Jvm.ClassFile.FieldType.object "BuildGrid$Entry")) : Cond) ∈ gBIG := gIn 773 rfl rfl
set_option maxRecDepth 20000 in
theorem k_674 : (.static ⟨"java/lang/Math", "floorMod", "(II)I"⟩ : Cond) ∈ gBIG := gIn 775 rfl rfl
set_option maxRecDepth 20000 in
theorem k_675 : (.code ⟨"java/lang/Math", "floorMod", "(II)I"⟩ prog_19_method_50_code 3 (some Jvm.ClassFile.FieldType.int) : Cond) ∈ gBIG := gIn 776 rfl rfl
set_option maxRecDepth 20000 in
theorem k_676 : (.instanceMethod ⟨"BuildGrid$Entry", "tell", "(I)I"⟩ : Cond) ∈ gBIG := gIn 779 rfl rfl
set_option maxRecDepth 20000 in
theorem k_677 : (.selects "BuildGrid$Entry" ⟨"BuildGrid$Entry", "tell", "(I)I"⟩ ⟨"BuildGrid$Entry", "tell", "(I)I"⟩ : Cond) ∈ gBIG := gIn 780 rfl rfl
set_option maxRecDepth 20000 in
theorem k_678 : (.code ⟨"BuildGrid$Entry", "tell", "(I)I"⟩ prog_5_method_6_code 2 (some Jvm.ClassFile.FieldType.int) : Cond) ∈ gBIG := gIn 781 rfl rfl
set_option maxRecDepth 20000 in
theorem k_679 : (.instanceMethod ⟨"BuildGrid$Entry", "isRightlySigned", "()Z"⟩ : Cond) ∈ gBIG := gIn 783 rfl rfl
set_option maxRecDepth 20000 in
theorem k_680 : (.selects "BuildGrid$Entry" ⟨"BuildGrid$Entry", "isRightlySigned", "()Z"⟩ ⟨"BuildGrid$Entry", "isRightlySigned", "()Z"⟩ : Cond) ∈ gBIG := gIn 784 rfl rfl
set_option maxRecDepth 20000 in
theorem k_681 : (.code ⟨"BuildGrid$Entry", "isRightlySigned", "()Z"⟩ prog_5_method_4_code 1 (some Jvm.ClassFile.FieldType.boolean) : Cond) ∈ gBIG := gIn 785 rfl rfl
set_option maxRecDepth 20000 in
theorem k_682 : (.instanceMethod ⟨"BuildGrid$Entry", "rightSignature", "()I"⟩ : Cond) ∈ gBIG := gIn 788 rfl rfl
set_option maxRecDepth 20000 in
theorem k_683 : (.code ⟨"BuildGrid$Entry", "rightSignature", "()I"⟩ prog_5_method_3_code 1 (some Jvm.ClassFile.FieldType.int) : Cond) ∈ gBIG := gIn 789 rfl rfl
set_option maxRecDepth 20000 in
theorem k_684 : (.static ⟨"BuildGrid", "plus", "(II)I"⟩ : Cond) ∈ gBIG := gIn 791 rfl rfl
set_option maxRecDepth 20000 in
theorem k_685 : (.code ⟨"BuildGrid", "plus", "(II)I"⟩ prog_1_method_40_code 2 (some Jvm.ClassFile.FieldType.int) : Cond) ∈ gBIG := gIn 792 rfl rfl
set_option maxRecDepth 20000 in
theorem k_686 : (.static ⟨"BuildGridLaw", "lie", "(LBuildGrid;II)I"⟩ : Cond) ∈ gBIG := gIn 795 rfl rfl
set_option maxRecDepth 20000 in
theorem k_687 : (.instanceMethod ⟨"BuildGrid", "lie", "(II)V"⟩ : Cond) ∈ gBIG := gIn 798 rfl rfl
set_option maxRecDepth 20000 in
theorem k_688 : (.selects "BuildGrid" ⟨"BuildGrid", "lie", "(II)V"⟩ ⟨"BuildGrid", "lie", "(II)V"⟩ : Cond) ∈ gBIG := gIn 799 rfl rfl
set_option maxRecDepth 20000 in
theorem k_689 : (.code ⟨"BuildGrid", "lie", "(II)V"⟩ prog_1_method_12_code 4 (none : Option FieldType) : Cond) ∈ gBIG := gIn 800 rfl rfl
set_option maxRecDepth 20000 in
theorem k_690 : (.static ⟨"BuildGridLaw", "lose", "(LBuildGrid;I[J)I"⟩ : Cond) ∈ gBIG := gIn 803 rfl rfl
set_option maxRecDepth 20000 in
theorem k_691 : (.instanceMethod ⟨"BuildGrid", "lose", "(I)Z"⟩ : Cond) ∈ gBIG := gIn 806 rfl rfl
set_option maxRecDepth 20000 in
theorem k_692 : (.selects "BuildGrid" ⟨"BuildGrid", "lose", "(I)Z"⟩ ⟨"BuildGrid", "lose", "(I)Z"⟩ : Cond) ∈ gBIG := gIn 807 rfl rfl
set_option maxRecDepth 20000 in
theorem k_693 : (.code ⟨"BuildGrid", "lose", "(I)Z"⟩ prog_1_method_13_code 4 (some Jvm.ClassFile.FieldType.boolean) : Cond) ∈ gBIG := gIn 808 rfl rfl
set_option maxRecDepth 20000 in
theorem k_694 : (.static ⟨"BuildGridLaw", "build", "(LBuildGrid;I[J)I"⟩ : Cond) ∈ gBIG := gIn 811 rfl rfl
set_option maxRecDepth 20000 in
theorem k_695 : (.instanceMethod ⟨"BuildGrid", "build", "(I)I"⟩ : Cond) ∈ gBIG := gIn 814 rfl rfl
set_option maxRecDepth 20000 in
theorem k_696 : (.selects "BuildGrid" ⟨"BuildGrid", "build", "(I)I"⟩ ⟨"BuildGrid", "build", "(I)I"⟩ : Cond) ∈ gBIG := gIn 815 rfl rfl
set_option maxRecDepth 20000 in
theorem k_697 : (.code ⟨"BuildGrid", "build", "(I)I"⟩ prog_1_method_14_code 2 (some Jvm.ClassFile.FieldType.int) : Cond) ∈ gBIG := gIn 816 rfl rfl
set_option maxRecDepth 20000 in
theorem k_698 : (.instanceMethod ⟨"BuildGrid$Course", "begin", "(I)I"⟩ : Cond) ∈ gBIG := gIn 818 rfl rfl
set_option maxRecDepth 20000 in
theorem k_699 : (.selects "BuildGrid$Course" ⟨"BuildGrid$Course", "begin", "(I)I"⟩ ⟨"BuildGrid$Course", "begin", "(I)I"⟩ : Cond) ∈ gBIG := gIn 819 rfl rfl
set_option maxRecDepth 20000 in
theorem k_700 : (.code ⟨"BuildGrid$Course", "begin", "(I)I"⟩ prog_4_method_3_code 6 (some Jvm.ClassFile.FieldType.int) : Cond) ∈ gBIG := gIn 820 rfl rfl
set_option maxRecDepth 20000 in
theorem k_701 : (.instanceMethod ⟨"BuildGrid$Graph", "withNeeded", "(I)I"⟩ : Cond) ∈ gBIG := gIn 822 rfl rfl
set_option maxRecDepth 20000 in
theorem k_702 : (.selects "BuildGrid$Graph" ⟨"BuildGrid$Graph", "withNeeded", "(I)I"⟩ ⟨"BuildGrid$Graph", "withNeeded", "(I)I"⟩ : Cond) ∈ gBIG := gIn 823 rfl rfl
set_option maxRecDepth 20000 in
theorem k_703 : (.code ⟨"BuildGrid$Graph", "withNeeded", "(I)I"⟩ prog_7_method_4_code 4 (some Jvm.ClassFile.FieldType.int) : Cond) ∈ gBIG := gIn 824 rfl rfl
set_option maxRecDepth 20000 in
theorem k_704 : (.static ⟨"BuildGrid", "bitOf", "(II)I"⟩ : Cond) ∈ gBIG := gIn 826 rfl rfl
set_option maxRecDepth 20000 in
theorem k_705 : (.code ⟨"BuildGrid", "bitOf", "(II)I"⟩ prog_1_method_36_code 2 (some Jvm.ClassFile.FieldType.int) : Cond) ∈ gBIG := gIn 827 rfl rfl
set_option maxRecDepth 20000 in
theorem k_706 : (.instanceMethod ⟨"BuildGrid$Graph", "inputTargets", "(LBuildGrid$Target;)I"⟩ : Cond) ∈ gBIG := gIn 829 rfl rfl
set_option maxRecDepth 20000 in
theorem k_707 : (.selects "BuildGrid$Graph" ⟨"BuildGrid$Graph", "inputTargets", "(LBuildGrid$Target;)I"⟩ ⟨"BuildGrid$Graph", "inputTargets", "(LBuildGrid$Target;)I"⟩ : Cond) ∈ gBIG := gIn 830 rfl rfl
set_option maxRecDepth 20000 in
theorem k_708 : (.code ⟨"BuildGrid$Graph", "inputTargets", "(LBuildGrid$Target;)I"⟩ prog_7_method_5_code 5 (some Jvm.ClassFile.FieldType.int) : Cond) ∈ gBIG := gIn 831 rfl rfl
set_option maxRecDepth 20000 in
theorem k_709 : (.instanceMethod ⟨"BuildGrid$Inputs", "chosen", "(I)I"⟩ : Cond) ∈ gBIG := gIn 833 rfl rfl
set_option maxRecDepth 20000 in
theorem k_710 : (.selects "BuildGrid$Inputs" ⟨"BuildGrid$Inputs", "chosen", "(I)I"⟩ ⟨"BuildGrid$Inputs", "chosen", "(I)I"⟩ : Cond) ∈ gBIG := gIn 834 rfl rfl
set_option maxRecDepth 20000 in
theorem k_711 : (.code ⟨"BuildGrid$Inputs", "chosen", "(I)I"⟩ prog_8_method_4_code 4 (some Jvm.ClassFile.FieldType.int) : Cond) ∈ gBIG := gIn 835 rfl rfl
set_option maxRecDepth 20000 in
theorem k_712 : (.instanceMethod ⟨"BuildGrid$Target", "startOver", "(Z)V"⟩ : Cond) ∈ gBIG := gIn 840 rfl rfl
set_option maxRecDepth 20000 in
theorem k_713 : (.selects "BuildGrid$Target" ⟨"BuildGrid$Target", "startOver", "(Z)V"⟩ ⟨"BuildGrid$Target", "startOver", "(Z)V"⟩ : Cond) ∈ gBIG := gIn 841 rfl rfl
set_option maxRecDepth 20000 in
theorem k_714 : (.code ⟨"BuildGrid$Target", "startOver", "(Z)V"⟩ prog_10_method_3_code 4 (none : Option FieldType) : Cond) ∈ gBIG := gIn 842 rfl rfl
set_option maxRecDepth 20000 in
theorem k_715 : (.instanceMethod ⟨"BuildGrid$Target", "actionAt", "(I)LBuildGrid$Action;"⟩ : Cond) ∈ gBIG := gIn 844 rfl rfl
set_option maxRecDepth 20000 in
theorem k_716 : (.selects "BuildGrid$Target" ⟨"BuildGrid$Target", "actionAt", "(I)LBuildGrid$Action;"⟩ ⟨"BuildGrid$Target", "actionAt", "(I)LBuildGrid$Action;"⟩ : Cond) ∈ gBIG := gIn 845 rfl rfl
set_option maxRecDepth 20000 in
theorem k_717 : (.code ⟨"BuildGrid$Target", "actionAt", "(I)LBuildGrid$Action;"⟩ prog_10_method_4_code 2 (some (Jvm.ClassFile.FieldType.object "BuildGrid$Action")) : Cond) ∈ gBIG := gIn 846 rfl rfl
set_option maxRecDepth 20000 in
theorem k_718 : (.instanceMethod ⟨"BuildGrid$Action", "open", "()V"⟩ : Cond) ∈ gBIG := gIn 848 rfl rfl
set_option maxRecDepth 20000 in
theorem k_719 : (.selects "BuildGrid$Action" ⟨"BuildGrid$Action", "open", "()V"⟩ ⟨"BuildGrid$Action", "open", "()V"⟩ : Cond) ∈ gBIG := gIn 849 rfl rfl
set_option maxRecDepth 20000 in
theorem k_720 : (.code ⟨"BuildGrid$Action", "open", "()V"⟩ prog_2_method_2_code 1 (none : Option FieldType) : Cond) ∈ gBIG := gIn 850 rfl rfl
set_option maxRecDepth 20000 in
theorem k_721 : (.instanceMethod ⟨"BuildGrid$Course", "settle", "()V"⟩ : Cond) ∈ gBIG := gIn 853 rfl rfl
set_option maxRecDepth 20000 in
theorem k_722 : (.code ⟨"BuildGrid$Course", "settle", "()V"⟩ prog_4_method_19_code 7 (none : Option FieldType) : Cond) ∈ gBIG := gIn 854 rfl rfl
set_option maxRecDepth 20000 in
theorem k_723 : (.instanceMethod ⟨"BuildGrid$Course", "leaveOpen", "(LBuildGrid$Target;LBuildGrid$Action;)V"⟩ : Cond) ∈ gBIG := gIn 857 rfl rfl
set_option maxRecDepth 20000 in
theorem k_724 : (.code ⟨"BuildGrid$Course", "leaveOpen", "(LBuildGrid$Target;LBuildGrid$Action;)V"⟩ prog_4_method_20_code 7 (none : Option FieldType) : Cond) ∈ gBIG := gIn 858 rfl rfl
set_option maxRecDepth 20000 in
theorem k_725 : (.instanceMethod ⟨"BuildGrid$Graph", "stateOfInputs", "(LBuildGrid$Target;)I"⟩ : Cond) ∈ gBIG := gIn 860 rfl rfl
set_option maxRecDepth 20000 in
theorem k_726 : (.selects "BuildGrid$Graph" ⟨"BuildGrid$Graph", "stateOfInputs", "(LBuildGrid$Target;)I"⟩ ⟨"BuildGrid$Graph", "stateOfInputs", "(LBuildGrid$Target;)I"⟩ : Cond) ∈ gBIG := gIn 861 rfl rfl
set_option maxRecDepth 20000 in
theorem k_727 : (.code ⟨"BuildGrid$Graph", "stateOfInputs", "(LBuildGrid$Target;)I"⟩ prog_7_method_16_code 9 (some Jvm.ClassFile.FieldType.int) : Cond) ∈ gBIG := gIn 862 rfl rfl
set_option maxRecDepth 20000 in
theorem k_728 : (.instanceMethod ⟨"BuildGrid$Action", "isUnfinished", "()Z"⟩ : Cond) ∈ gBIG := gIn 864 rfl rfl
set_option maxRecDepth 20000 in
theorem k_729 : (.selects "BuildGrid$Action" ⟨"BuildGrid$Action", "isUnfinished", "()Z"⟩ ⟨"BuildGrid$Action", "isUnfinished", "()Z"⟩ : Cond) ∈ gBIG := gIn 865 rfl rfl
set_option maxRecDepth 20000 in
theorem k_730 : (.code ⟨"BuildGrid$Action", "isUnfinished", "()Z"⟩ prog_2_method_4_code 1 (some Jvm.ClassFile.FieldType.boolean) : Cond) ∈ gBIG := gIn 866 rfl rfl
set_option maxRecDepth 20000 in
theorem k_731 : (.instanceMethod ⟨"BuildGrid$View", "keyOf", "(LBuildGrid$Target;I)I"⟩ : Cond) ∈ gBIG := gIn 868 rfl rfl
set_option maxRecDepth 20000 in
theorem k_732 : (.selects "BuildGrid$View" ⟨"BuildGrid$View", "keyOf", "(LBuildGrid$Target;I)I"⟩ ⟨"BuildGrid$View", "keyOf", "(LBuildGrid$Target;I)I"⟩ : Cond) ∈ gBIG := gIn 869 rfl rfl
set_option maxRecDepth 20000 in
theorem k_733 : (.code ⟨"BuildGrid$View", "keyOf", "(LBuildGrid$Target;I)I"⟩ prog_11_method_2_code 6 (some Jvm.ClassFile.FieldType.int) : Cond) ∈ gBIG := gIn 870 rfl rfl
set_option maxRecDepth 20000 in
theorem k_734 : (.instanceMethod ⟨"BuildGrid$Target", "breaksOut", "(I)Z"⟩ : Cond) ∈ gBIG := gIn 876 rfl rfl
set_option maxRecDepth 20000 in
theorem k_735 : (.selects "BuildGrid$Target" ⟨"BuildGrid$Target", "breaksOut", "(I)Z"⟩ ⟨"BuildGrid$Target", "breaksOut", "(I)Z"⟩ : Cond) ∈ gBIG := gIn 877 rfl rfl
set_option maxRecDepth 20000 in
theorem k_736 : (.code ⟨"BuildGrid$Target", "breaksOut", "(I)Z"⟩ prog_10_method_7_code 2 (some Jvm.ClassFile.FieldType.boolean) : Cond) ∈ gBIG := gIn 878 rfl rfl
set_option maxRecDepth 20000 in
theorem k_737 : (.instanceMethod ⟨"BuildGrid$View", "contentFound", "(LBuildGrid$Target;I)I"⟩ : Cond) ∈ gBIG := gIn 881 rfl rfl
set_option maxRecDepth 20000 in
theorem k_738 : (.selects "BuildGrid$View" ⟨"BuildGrid$View", "contentFound", "(LBuildGrid$Target;I)I"⟩ ⟨"BuildGrid$View", "contentFound", "(LBuildGrid$Target;I)I"⟩ : Cond) ∈ gBIG := gIn 882 rfl rfl
set_option maxRecDepth 20000 in
theorem k_739 : (.code ⟨"BuildGrid$View", "contentFound", "(LBuildGrid$Target;I)I"⟩ prog_11_method_3_code 3 (some Jvm.ClassFile.FieldType.int) : Cond) ∈ gBIG := gIn 883 rfl rfl
set_option maxRecDepth 20000 in
theorem k_740 : (.instanceMethod ⟨"BuildGrid$Target", "fileFound", "(I)I"⟩ : Cond) ∈ gBIG := gIn 885 rfl rfl
set_option maxRecDepth 20000 in
theorem k_741 : (.selects "BuildGrid$Target" ⟨"BuildGrid$Target", "fileFound", "(I)I"⟩ ⟨"BuildGrid$Target", "fileFound", "(I)I"⟩ : Cond) ∈ gBIG := gIn 886 rfl rfl
set_option maxRecDepth 20000 in
theorem k_742 : (.code ⟨"BuildGrid$Target", "fileFound", "(I)I"⟩ prog_10_method_6_code 2 (some Jvm.ClassFile.FieldType.int) : Cond) ∈ gBIG := gIn 887 rfl rfl
set_option maxRecDepth 20000 in
theorem k_743 : (.instanceMethod ⟨"BuildGrid$Cache", "firstFit", "(IIIZ)LBuildGrid$Entry;"⟩ : Cond) ∈ gBIG := gIn 890 rfl rfl
set_option maxRecDepth 20000 in
theorem k_744 : (.selects "BuildGrid$Cache" ⟨"BuildGrid$Cache", "firstFit", "(IIIZ)LBuildGrid$Entry;"⟩ ⟨"BuildGrid$Cache", "firstFit", "(IIIZ)LBuildGrid$Entry;"⟩ : Cond) ∈ gBIG := gIn 891 rfl rfl
set_option maxRecDepth 20000 in
theorem k_745 : (.code ⟨"BuildGrid$Cache", "firstFit", "(IIIZ)LBuildGrid$Entry;"⟩ prog_3_method_5_code 7 (some (Jvm.ClassFile.FieldType.object "BuildGrid$Entry")) : Cond) ∈ gBIG := gIn 892 rfl rfl
set_option maxRecDepth 20000 in
theorem k_746 : (.instanceMethod ⟨"BuildGrid$Entry", "isOf", "(III)Z"⟩ : Cond) ∈ gBIG := gIn 895 rfl rfl
set_option maxRecDepth 20000 in
theorem k_747 : (.selects "BuildGrid$Entry" ⟨"BuildGrid$Entry", "isOf", "(III)Z"⟩ ⟨"BuildGrid$Entry", "isOf", "(III)Z"⟩ : Cond) ∈ gBIG := gIn 896 rfl rfl
set_option maxRecDepth 20000 in
theorem k_748 : (.code ⟨"BuildGrid$Entry", "isOf", "(III)Z"⟩ prog_5_method_5_code 4 (some Jvm.ClassFile.FieldType.boolean) : Cond) ∈ gBIG := gIn 897 rfl rfl
set_option maxRecDepth 20000 in
theorem k_749 : (.instanceMethod ⟨"BuildGrid$Course", "finish", "(LBuildGrid$Target;LBuildGrid$Action;II)V"⟩ : Cond) ∈ gBIG := gIn 901 rfl rfl
set_option maxRecDepth 20000 in
theorem k_750 : (.code ⟨"BuildGrid$Course", "finish", "(LBuildGrid$Target;LBuildGrid$Action;II)V"⟩ prog_4_method_18_code 5 (none : Option FieldType) : Cond) ∈ gBIG := gIn 902 rfl rfl
set_option maxRecDepth 20000 in
theorem k_751 : (.instanceMethod ⟨"BuildGrid$Action", "finish", "(II)V"⟩ : Cond) ∈ gBIG := gIn 904 rfl rfl
set_option maxRecDepth 20000 in
theorem k_752 : (.selects "BuildGrid$Action" ⟨"BuildGrid$Action", "finish", "(II)V"⟩ ⟨"BuildGrid$Action", "finish", "(II)V"⟩ : Cond) ∈ gBIG := gIn 905 rfl rfl
set_option maxRecDepth 20000 in
theorem k_753 : (.code ⟨"BuildGrid$Action", "finish", "(II)V"⟩ prog_2_method_3_code 3 (none : Option FieldType) : Cond) ∈ gBIG := gIn 906 rfl rfl
set_option maxRecDepth 20000 in
theorem k_754 : (.instanceMethod ⟨"BuildGrid$Target", "digestOfResults", "()I"⟩ : Cond) ∈ gBIG := gIn 908 rfl rfl
set_option maxRecDepth 20000 in
theorem k_755 : (.selects "BuildGrid$Target" ⟨"BuildGrid$Target", "digestOfResults", "()I"⟩ ⟨"BuildGrid$Target", "digestOfResults", "()I"⟩ : Cond) ∈ gBIG := gIn 909 rfl rfl
set_option maxRecDepth 20000 in
theorem k_756 : (.code ⟨"BuildGrid$Target", "digestOfResults", "()I"⟩ prog_10_method_12_code 3 (some Jvm.ClassFile.FieldType.int) : Cond) ∈ gBIG := gIn 910 rfl rfl
set_option maxRecDepth 20000 in
theorem k_757 : (.static ⟨"BuildGridLaw", "pass", "(LBuildGrid;I[J)I"⟩ : Cond) ∈ gBIG := gIn 914 rfl rfl
set_option maxRecDepth 20000 in
theorem k_758 : (.instanceMethod ⟨"BuildGrid", "pass", "(I)I"⟩ : Cond) ∈ gBIG := gIn 917 rfl rfl
set_option maxRecDepth 20000 in
theorem k_759 : (.selects "BuildGrid" ⟨"BuildGrid", "pass", "(I)I"⟩ ⟨"BuildGrid", "pass", "(I)I"⟩ : Cond) ∈ gBIG := gIn 918 rfl rfl
set_option maxRecDepth 20000 in
theorem k_760 : (.code ⟨"BuildGrid", "pass", "(I)I"⟩ prog_1_method_15_code 3 (some Jvm.ClassFile.FieldType.int) : Cond) ∈ gBIG := gIn 919 rfl rfl
set_option maxRecDepth 20000 in
theorem k_761 : (.instanceMethod ⟨"BuildGrid$Course", "passTick", "()V"⟩ : Cond) ∈ gBIG := gIn 921 rfl rfl
set_option maxRecDepth 20000 in
theorem k_762 : (.selects "BuildGrid$Course" ⟨"BuildGrid$Course", "passTick", "()V"⟩ ⟨"BuildGrid$Course", "passTick", "()V"⟩ : Cond) ∈ gBIG := gIn 922 rfl rfl
set_option maxRecDepth 20000 in
theorem k_763 : (.code ⟨"BuildGrid$Course", "passTick", "()V"⟩ prog_4_method_11_code 6 (none : Option FieldType) : Cond) ∈ gBIG := gIn 923 rfl rfl
set_option maxRecDepth 20000 in
theorem k_764 : (.instanceMethod ⟨"BuildGrid$Course", "beginReady", "()V"⟩ : Cond) ∈ gBIG := gIn 926 rfl rfl
set_option maxRecDepth 20000 in
theorem k_765 : (.code ⟨"BuildGrid$Course", "beginReady", "()V"⟩ prog_4_method_12_code 4 (none : Option FieldType) : Cond) ∈ gBIG := gIn 927 rfl rfl
set_option maxRecDepth 20000 in
theorem k_766 : (.instanceMethod ⟨"BuildGrid$Graph", "findWays", "(I)V"⟩ : Cond) ∈ gBIG := gIn 929 rfl rfl
set_option maxRecDepth 20000 in
theorem k_767 : (.selects "BuildGrid$Graph" ⟨"BuildGrid$Graph", "findWays", "(I)V"⟩ ⟨"BuildGrid$Graph", "findWays", "(I)V"⟩ : Cond) ∈ gBIG := gIn 930 rfl rfl
set_option maxRecDepth 20000 in
theorem k_768 : (.code ⟨"BuildGrid$Graph", "findWays", "(I)V"⟩ prog_7_method_10_code 4 (none : Option FieldType) : Cond) ∈ gBIG := gIn 931 rfl rfl
set_option maxRecDepth 20000 in
theorem k_769 : (.instanceMethod ⟨"BuildGrid$Graph", "spreadWay", "(LBuildGrid$Target;)V"⟩ : Cond) ∈ gBIG := gIn 934 rfl rfl
set_option maxRecDepth 20000 in
theorem k_770 : (.code ⟨"BuildGrid$Graph", "spreadWay", "(LBuildGrid$Target;)V"⟩ prog_7_method_11_code 4 (none : Option FieldType) : Cond) ∈ gBIG := gIn 935 rfl rfl
set_option maxRecDepth 20000 in
theorem k_771 : (.static ⟨"java/lang/Math", "max", "(II)I"⟩ : Cond) ∈ gBIG := gIn 937 rfl rfl
set_option maxRecDepth 20000 in
theorem k_772 : (.code ⟨"java/lang/Math", "max", "(II)I"⟩ prog_19_method_65_code 2 (some Jvm.ClassFile.FieldType.int) : Cond) ∈ gBIG := gIn 938 rfl rfl
set_option maxRecDepth 20000 in
theorem k_773 : (.instanceMethod ⟨"BuildGrid$Course", "strongestIdle", "()LBuildGrid$Worker;"⟩ : Cond) ∈ gBIG := gIn 941 rfl rfl
set_option maxRecDepth 20000 in
theorem k_774 : (.code ⟨"BuildGrid$Course", "strongestIdle", "()LBuildGrid$Worker;"⟩ prog_4_method_9_code 6 (some (Jvm.ClassFile.FieldType.object "BuildGrid$Worker")) : Cond) ∈ gBIG := gIn 942 rfl rfl
set_option maxRecDepth 20000 in
theorem k_775 : (.instanceMethod ⟨"BuildGrid$Worker", "isIdle", "()Z"⟩ : Cond) ∈ gBIG := gIn 944 rfl rfl
set_option maxRecDepth 20000 in
theorem k_776 : (.selects "BuildGrid$Worker" ⟨"BuildGrid$Worker", "isIdle", "()Z"⟩ ⟨"BuildGrid$Worker", "isIdle", "()Z"⟩ : Cond) ∈ gBIG := gIn 945 rfl rfl
set_option maxRecDepth 20000 in
theorem k_777 : (.code ⟨"BuildGrid$Worker", "isIdle", "()Z"⟩ prog_12_method_2_code 1 (some Jvm.ClassFile.FieldType.boolean) : Cond) ∈ gBIG := gIn 946 rfl rfl
set_option maxRecDepth 20000 in
theorem k_778 : (.instanceMethod ⟨"BuildGrid$Course", "longestReady", "()LBuildGrid$Action;"⟩ : Cond) ∈ gBIG := gIn 949 rfl rfl
set_option maxRecDepth 20000 in
theorem k_779 : (.code ⟨"BuildGrid$Course", "longestReady", "()LBuildGrid$Action;"⟩ prog_4_method_13_code 6 (some (Jvm.ClassFile.FieldType.object "BuildGrid$Action")) : Cond) ∈ gBIG := gIn 950 rfl rfl
set_option maxRecDepth 20000 in
theorem k_780 : (.instanceMethod ⟨"BuildGrid$Target", "firstReady", "()LBuildGrid$Action;"⟩ : Cond) ∈ gBIG := gIn 952 rfl rfl
set_option maxRecDepth 20000 in
theorem k_781 : (.selects "BuildGrid$Target" ⟨"BuildGrid$Target", "firstReady", "()LBuildGrid$Action;"⟩ ⟨"BuildGrid$Target", "firstReady", "()LBuildGrid$Action;"⟩ : Cond) ∈ gBIG := gIn 953 rfl rfl
set_option maxRecDepth 20000 in
theorem k_782 : (.code ⟨"BuildGrid$Target", "firstReady", "()LBuildGrid$Action;"⟩ prog_10_method_15_code 3 (some (Jvm.ClassFile.FieldType.object "BuildGrid$Action")) : Cond) ∈ gBIG := gIn 954 rfl rfl
set_option maxRecDepth 20000 in
theorem k_783 : (.instanceMethod ⟨"BuildGrid$Course", "start", "(LBuildGrid$Worker;LBuildGrid$Action;)V"⟩ : Cond) ∈ gBIG := gIn 957 rfl rfl
set_option maxRecDepth 20000 in
theorem k_784 : (.code ⟨"BuildGrid$Course", "start", "(LBuildGrid$Worker;LBuildGrid$Action;)V"⟩ prog_4_method_14_code 5 (none : Option FieldType) : Cond) ∈ gBIG := gIn 958 rfl rfl
set_option maxRecDepth 20000 in
theorem k_785 : (.instanceMethod ⟨"BuildGrid$Worker", "start", "(LBuildGrid$Action;LBuildGrid$Target;II)V"⟩ : Cond) ∈ gBIG := gIn 960 rfl rfl
set_option maxRecDepth 20000 in
theorem k_786 : (.selects "BuildGrid$Worker" ⟨"BuildGrid$Worker", "start", "(LBuildGrid$Action;LBuildGrid$Target;II)V"⟩ ⟨"BuildGrid$Worker", "start", "(LBuildGrid$Action;LBuildGrid$Target;II)V"⟩ : Cond) ∈ gBIG := gIn 961 rfl rfl
set_option maxRecDepth 20000 in
theorem k_787 : (.code ⟨"BuildGrid$Worker", "start", "(LBuildGrid$Action;LBuildGrid$Target;II)V"⟩ prog_12_method_4_code 5 (none : Option FieldType) : Cond) ∈ gBIG := gIn 962 rfl rfl
set_option maxRecDepth 20000 in
theorem k_788 : (.instanceMethod ⟨"BuildGrid$Worker", "ticksFor", "(LBuildGrid$Target;)I"⟩ : Cond) ∈ gBIG := gIn 965 rfl rfl
set_option maxRecDepth 20000 in
theorem k_789 : (.code ⟨"BuildGrid$Worker", "ticksFor", "(LBuildGrid$Target;)I"⟩ prog_12_method_5_code 3 (some Jvm.ClassFile.FieldType.int) : Cond) ∈ gBIG := gIn 966 rfl rfl
set_option maxRecDepth 20000 in
theorem k_790 : (.instanceMethod ⟨"BuildGrid$Target", "work", "()I"⟩ : Cond) ∈ gBIG := gIn 968 rfl rfl
set_option maxRecDepth 20000 in
theorem k_791 : (.selects "BuildGrid$Target" ⟨"BuildGrid$Target", "work", "()I"⟩ ⟨"BuildGrid$Target", "work", "()I"⟩ : Cond) ∈ gBIG := gIn 969 rfl rfl
set_option maxRecDepth 20000 in
theorem k_792 : (.code ⟨"BuildGrid$Target", "work", "()I"⟩ prog_10_method_5_code 1 (some Jvm.ClassFile.FieldType.int) : Cond) ∈ gBIG := gIn 970 rfl rfl
set_option maxRecDepth 20000 in
theorem k_793 : (.instanceMethod ⟨"BuildGrid$Course", "speculate", "()V"⟩ : Cond) ∈ gBIG := gIn 974 rfl rfl
set_option maxRecDepth 20000 in
theorem k_794 : (.code ⟨"BuildGrid$Course", "speculate", "()V"⟩ prog_4_method_15_code 2 (none : Option FieldType) : Cond) ∈ gBIG := gIn 975 rfl rfl
set_option maxRecDepth 20000 in
theorem k_795 : (.instanceMethod ⟨"BuildGrid$Course", "longestBusy", "()LBuildGrid$Worker;"⟩ : Cond) ∈ gBIG := gIn 978 rfl rfl
set_option maxRecDepth 20000 in
theorem k_796 : (.code ⟨"BuildGrid$Course", "longestBusy", "()LBuildGrid$Worker;"⟩ prog_4_method_10_code 6 (some (Jvm.ClassFile.FieldType.object "BuildGrid$Worker")) : Cond) ∈ gBIG := gIn 979 rfl rfl
set_option maxRecDepth 20000 in
theorem k_797 : (.instanceMethod ⟨"BuildGrid$Worker", "spendTick", "()V"⟩ : Cond) ∈ gBIG := gIn 981 rfl rfl
set_option maxRecDepth 20000 in
theorem k_798 : (.selects "BuildGrid$Worker" ⟨"BuildGrid$Worker", "spendTick", "()V"⟩ ⟨"BuildGrid$Worker", "spendTick", "()V"⟩ : Cond) ∈ gBIG := gIn 982 rfl rfl
set_option maxRecDepth 20000 in
theorem k_799 : (.code ⟨"BuildGrid$Worker", "spendTick", "()V"⟩ prog_12_method_6_code 1 (none : Option FieldType) : Cond) ∈ gBIG := gIn 983 rfl rfl
set_option maxRecDepth 20000 in
theorem k_800 : (.instanceMethod ⟨"BuildGrid$Worker", "hasEnded", "()Z"⟩ : Cond) ∈ gBIG := gIn 985 rfl rfl
set_option maxRecDepth 20000 in
theorem k_801 : (.selects "BuildGrid$Worker" ⟨"BuildGrid$Worker", "hasEnded", "()Z"⟩ ⟨"BuildGrid$Worker", "hasEnded", "()Z"⟩ : Cond) ∈ gBIG := gIn 986 rfl rfl
set_option maxRecDepth 20000 in
theorem k_802 : (.code ⟨"BuildGrid$Worker", "hasEnded", "()Z"⟩ prog_12_method_3_code 1 (some Jvm.ClassFile.FieldType.boolean) : Cond) ∈ gBIG := gIn 987 rfl rfl
set_option maxRecDepth 20000 in
theorem k_803 : (.instanceMethod ⟨"BuildGrid$Course", "end", "(LBuildGrid$Worker;)V"⟩ : Cond) ∈ gBIG := gIn 990 rfl rfl
set_option maxRecDepth 20000 in
theorem k_804 : (.code ⟨"BuildGrid$Course", "end", "(LBuildGrid$Worker;)V"⟩ prog_4_method_16_code 5 (none : Option FieldType) : Cond) ∈ gBIG := gIn 991 rfl rfl
set_option maxRecDepth 20000 in
theorem k_805 : (.instanceMethod ⟨"BuildGrid$Course", "dismissFrom", "(LBuildGrid$Action;)V"⟩ : Cond) ∈ gBIG := gIn 994 rfl rfl
set_option maxRecDepth 20000 in
theorem k_806 : (.code ⟨"BuildGrid$Course", "dismissFrom", "(LBuildGrid$Action;)V"⟩ prog_4_method_8_code 6 (none : Option FieldType) : Cond) ∈ gBIG := gIn 995 rfl rfl
set_option maxRecDepth 20000 in
theorem k_807 : (.instanceMethod ⟨"BuildGrid$Worker", "beganWith", "(II)Z"⟩ : Cond) ∈ gBIG := gIn 997 rfl rfl
set_option maxRecDepth 20000 in
theorem k_808 : (.selects "BuildGrid$Worker" ⟨"BuildGrid$Worker", "beganWith", "(II)Z"⟩ ⟨"BuildGrid$Worker", "beganWith", "(II)Z"⟩ : Cond) ∈ gBIG := gIn 998 rfl rfl
set_option maxRecDepth 20000 in
theorem k_809 : (.code ⟨"BuildGrid$Worker", "beganWith", "(II)Z"⟩ prog_12_method_8_code 3 (some Jvm.ClassFile.FieldType.boolean) : Cond) ∈ gBIG := gIn 999 rfl rfl
set_option maxRecDepth 20000 in
theorem k_810 : (.instanceMethod ⟨"BuildGrid$Course", "judge", "(LBuildGrid$Target;LBuildGrid$Action;LBuildGrid$Worker;)V"⟩ : Cond) ∈ gBIG := gIn 1003 rfl rfl
set_option maxRecDepth 20000 in
theorem k_811 : (.code ⟨"BuildGrid$Course", "judge", "(LBuildGrid$Target;LBuildGrid$Action;LBuildGrid$Worker;)V"⟩ prog_4_method_17_code 7 (none : Option FieldType) : Cond) ∈ gBIG := gIn 1004 rfl rfl
set_option maxRecDepth 20000 in
theorem k_812 : (.instanceMethod ⟨"BuildGrid$Worker", "resultMade", "()I"⟩ : Cond) ∈ gBIG := gIn 1006 rfl rfl
set_option maxRecDepth 20000 in
theorem k_813 : (.selects "BuildGrid$Worker" ⟨"BuildGrid$Worker", "resultMade", "()I"⟩ ⟨"BuildGrid$Worker", "resultMade", "()I"⟩ : Cond) ∈ gBIG := gIn 1007 rfl rfl
set_option maxRecDepth 20000 in
theorem k_814 : (.code ⟨"BuildGrid$Worker", "resultMade", "()I"⟩ prog_12_method_7_code 1 (some Jvm.ClassFile.FieldType.int) : Cond) ∈ gBIG := gIn 1008 rfl rfl
set_option maxRecDepth 20000 in
theorem k_815 : (.static ⟨"BuildGrid", "resultOf", "(II)I"⟩ : Cond) ∈ gBIG := gIn 1010 rfl rfl
set_option maxRecDepth 20000 in
theorem k_816 : (.code ⟨"BuildGrid", "resultOf", "(II)I"⟩ prog_1_method_41_code 2 (some Jvm.ClassFile.FieldType.int) : Cond) ∈ gBIG := gIn 1011 rfl rfl
set_option maxRecDepth 20000 in
theorem k_817 : (.instanceMethod ⟨"BuildGrid$Target", "failsAt", "(II)Z"⟩ : Cond) ∈ gBIG := gIn 1014 rfl rfl
set_option maxRecDepth 20000 in
theorem k_818 : (.selects "BuildGrid$Target" ⟨"BuildGrid$Target", "failsAt", "(II)Z"⟩ ⟨"BuildGrid$Target", "failsAt", "(II)Z"⟩ : Cond) ∈ gBIG := gIn 1015 rfl rfl
set_option maxRecDepth 20000 in
theorem k_819 : (.code ⟨"BuildGrid$Target", "failsAt", "(II)Z"⟩ prog_10_method_9_code 3 (some Jvm.ClassFile.FieldType.boolean) : Cond) ∈ gBIG := gIn 1016 rfl rfl
set_option maxRecDepth 20000 in
theorem k_820 : (.instanceMethod ⟨"BuildGrid$Target", "isGoodResult", "(I)Z"⟩ : Cond) ∈ gBIG := gIn 1018 rfl rfl
set_option maxRecDepth 20000 in
theorem k_821 : (.selects "BuildGrid$Target" ⟨"BuildGrid$Target", "isGoodResult", "(I)Z"⟩ ⟨"BuildGrid$Target", "isGoodResult", "(I)Z"⟩ : Cond) ∈ gBIG := gIn 1019 rfl rfl
set_option maxRecDepth 20000 in
theorem k_822 : (.code ⟨"BuildGrid$Target", "isGoodResult", "(I)Z"⟩ prog_10_method_8_code 2 (some Jvm.ClassFile.FieldType.boolean) : Cond) ∈ gBIG := gIn 1020 rfl rfl
set_option maxRecDepth 20000 in
theorem k_823 : (.instanceMethod ⟨"BuildGrid$Target", "isInQuarantine", "()Z"⟩ : Cond) ∈ gBIG := gIn 1022 rfl rfl
set_option maxRecDepth 20000 in
theorem k_824 : (.selects "BuildGrid$Target" ⟨"BuildGrid$Target", "isInQuarantine", "()Z"⟩ ⟨"BuildGrid$Target", "isInQuarantine", "()Z"⟩ : Cond) ∈ gBIG := gIn 1023 rfl rfl
set_option maxRecDepth 20000 in
theorem k_825 : (.code ⟨"BuildGrid$Target", "isInQuarantine", "()Z"⟩ prog_10_method_11_code 1 (some Jvm.ClassFile.FieldType.boolean) : Cond) ∈ gBIG := gIn 1024 rfl rfl
set_option maxRecDepth 20000 in
theorem k_826 : (.instanceMethod ⟨"BuildGrid$Target", "noteFlakeIn", "(I)V"⟩ : Cond) ∈ gBIG := gIn 1026 rfl rfl
set_option maxRecDepth 20000 in
theorem k_827 : (.selects "BuildGrid$Target" ⟨"BuildGrid$Target", "noteFlakeIn", "(I)V"⟩ ⟨"BuildGrid$Target", "noteFlakeIn", "(I)V"⟩ : Cond) ∈ gBIG := gIn 1027 rfl rfl
set_option maxRecDepth 20000 in
theorem k_828 : (.code ⟨"BuildGrid$Target", "noteFlakeIn", "(I)V"⟩ prog_10_method_10_code 2 (none : Option FieldType) : Cond) ∈ gBIG := gIn 1028 rfl rfl
set_option maxRecDepth 20000 in
theorem k_829 : (.instanceMethod ⟨"BuildGrid$Cache", "keep", "(IIIII)V"⟩ : Cond) ∈ gBIG := gIn 1030 rfl rfl
set_option maxRecDepth 20000 in
theorem k_830 : (.selects "BuildGrid$Cache" ⟨"BuildGrid$Cache", "keep", "(IIIII)V"⟩ ⟨"BuildGrid$Cache", "keep", "(IIIII)V"⟩ : Cond) ∈ gBIG := gIn 1031 rfl rfl
set_option maxRecDepth 20000 in
theorem k_831 : (.code ⟨"BuildGrid$Cache", "keep", "(IIIII)V"⟩ prog_3_method_3_code 7 (none : Option FieldType) : Cond) ∈ gBIG := gIn 1032 rfl rfl
set_option maxRecDepth 20000 in
theorem k_832 : (.instanceMethod ⟨"BuildGrid$Cache", "hasAlike", "(IIIII)Z"⟩ : Cond) ∈ gBIG := gIn 1035 rfl rfl
set_option maxRecDepth 20000 in
theorem k_833 : (.code ⟨"BuildGrid$Cache", "hasAlike", "(IIIII)Z"⟩ prog_3_method_4_code 8 (some Jvm.ClassFile.FieldType.boolean) : Cond) ∈ gBIG := gIn 1036 rfl rfl
set_option maxRecDepth 20000 in
theorem k_834 : (.instanceMethod ⟨"BuildGrid$Entry", "fill", "(IIIII)V"⟩ : Cond) ∈ gBIG := gIn 1038 rfl rfl
set_option maxRecDepth 20000 in
theorem k_835 : (.selects "BuildGrid$Entry" ⟨"BuildGrid$Entry", "fill", "(IIIII)V"⟩ ⟨"BuildGrid$Entry", "fill", "(IIIII)V"⟩ : Cond) ∈ gBIG := gIn 1039 rfl rfl
set_option maxRecDepth 20000 in
theorem k_836 : (.code ⟨"BuildGrid$Entry", "fill", "(IIIII)V"⟩ prog_5_method_2_code 6 (none : Option FieldType) : Cond) ∈ gBIG := gIn 1040 rfl rfl
set_option maxRecDepth 20000 in
theorem k_837 : (.static ⟨"BuildGridLaw", "state", "(LBuildGrid;II[J)I"⟩ : Cond) ∈ gBIG := gIn 1042 rfl rfl
set_option maxRecDepth 20000 in
theorem k_838 : (.instanceMethod ⟨"BuildGrid", "state", "(II)I"⟩ : Cond) ∈ gBIG := gIn 1045 rfl rfl
set_option maxRecDepth 20000 in
theorem k_839 : (.selects "BuildGrid" ⟨"BuildGrid", "state", "(II)I"⟩ ⟨"BuildGrid", "state", "(II)I"⟩ : Cond) ∈ gBIG := gIn 1046 rfl rfl
set_option maxRecDepth 20000 in
theorem k_840 : (.code ⟨"BuildGrid", "state", "(II)I"⟩ prog_1_method_17_code 3 (some Jvm.ClassFile.FieldType.int) : Cond) ∈ gBIG := gIn 1047 rfl rfl
set_option maxRecDepth 20000 in
theorem k_841 : (.instanceMethod ⟨"BuildGrid", "checkedAction", "(II)LBuildGrid$Action;"⟩ : Cond) ∈ gBIG := gIn 1050 rfl rfl
set_option maxRecDepth 20000 in
theorem k_842 : (.code ⟨"BuildGrid", "checkedAction", "(II)LBuildGrid$Action;"⟩ prog_1_method_32_code 4 (some (Jvm.ClassFile.FieldType.object "BuildGrid$Action")) : Cond) ∈ gBIG := gIn 1051 rfl rfl
set_option maxRecDepth 20000 in
theorem k_843 : (.static ⟨"BuildGridLaw", "result", "(LBuildGrid;II[J)I"⟩ : Cond) ∈ gBIG := gIn 1054 rfl rfl
set_option maxRecDepth 20000 in
theorem k_844 : (.instanceMethod ⟨"BuildGrid", "result", "(II)I"⟩ : Cond) ∈ gBIG := gIn 1057 rfl rfl
set_option maxRecDepth 20000 in
theorem k_845 : (.selects "BuildGrid" ⟨"BuildGrid", "result", "(II)I"⟩ ⟨"BuildGrid", "result", "(II)I"⟩ : Cond) ∈ gBIG := gIn 1058 rfl rfl
set_option maxRecDepth 20000 in
theorem k_846 : (.code ⟨"BuildGrid", "result", "(II)I"⟩ prog_1_method_18_code 4 (some Jvm.ClassFile.FieldType.int) : Cond) ∈ gBIG := gIn 1059 rfl rfl
set_option maxRecDepth 20000 in
theorem k_847 : (.static ⟨"BuildGridLaw", "about", "(LBuildGrid;II[J)I"⟩ : Cond) ∈ gBIG := gIn 1061 rfl rfl
set_option maxRecDepth 20000 in
theorem k_848 : (.instanceMethod ⟨"BuildGrid", "about", "(II)I"⟩ : Cond) ∈ gBIG := gIn 1064 rfl rfl
set_option maxRecDepth 20000 in
theorem k_849 : (.selects "BuildGrid" ⟨"BuildGrid", "about", "(II)I"⟩ ⟨"BuildGrid", "about", "(II)I"⟩ : Cond) ∈ gBIG := gIn 1065 rfl rfl
set_option maxRecDepth 20000 in
theorem k_850 : (.code ⟨"BuildGrid", "about", "(II)I"⟩ prog_1_method_19_code 4 (some Jvm.ClassFile.FieldType.int) : Cond) ∈ gBIG := gIn 1066 rfl rfl
set_option maxRecDepth 20000 in
theorem k_851 : (.instanceMethod ⟨"BuildGrid$Graph", "soundTargets", "()I"⟩ : Cond) ∈ gBIG := gIn 1068 rfl rfl
set_option maxRecDepth 20000 in
theorem k_852 : (.selects "BuildGrid$Graph" ⟨"BuildGrid$Graph", "soundTargets", "()I"⟩ ⟨"BuildGrid$Graph", "soundTargets", "()I"⟩ : Cond) ∈ gBIG := gIn 1069 rfl rfl
set_option maxRecDepth 20000 in
theorem k_853 : (.code ⟨"BuildGrid$Graph", "soundTargets", "()I"⟩ prog_7_method_13_code 4 (some Jvm.ClassFile.FieldType.int) : Cond) ∈ gBIG := gIn 1070 rfl rfl
set_option maxRecDepth 20000 in
theorem k_854 : (.instanceMethod ⟨"BuildGrid$Target", "isSoundAlone", "()Z"⟩ : Cond) ∈ gBIG := gIn 1072 rfl rfl
set_option maxRecDepth 20000 in
theorem k_855 : (.selects "BuildGrid$Target" ⟨"BuildGrid$Target", "isSoundAlone", "()Z"⟩ ⟨"BuildGrid$Target", "isSoundAlone", "()Z"⟩ : Cond) ∈ gBIG := gIn 1073 rfl rfl
set_option maxRecDepth 20000 in
theorem k_856 : (.code ⟨"BuildGrid$Target", "isSoundAlone", "()Z"⟩ prog_10_method_14_code 2 (some Jvm.ClassFile.FieldType.boolean) : Cond) ∈ gBIG := gIn 1074 rfl rfl
set_option maxRecDepth 20000 in
theorem k_857 : (.instanceMethod ⟨"BuildGrid$Action", "isSound", "()Z"⟩ : Cond) ∈ gBIG := gIn 1076 rfl rfl
set_option maxRecDepth 20000 in
theorem k_858 : (.selects "BuildGrid$Action" ⟨"BuildGrid$Action", "isSound", "()Z"⟩ ⟨"BuildGrid$Action", "isSound", "()Z"⟩ : Cond) ∈ gBIG := gIn 1077 rfl rfl
set_option maxRecDepth 20000 in
theorem k_859 : (.code ⟨"BuildGrid$Action", "isSound", "()Z"⟩ prog_2_method_5_code 1 (some Jvm.ClassFile.FieldType.boolean) : Cond) ∈ gBIG := gIn 1078 rfl rfl
set_option maxRecDepth 20000 in
theorem k_860 : (.instanceMethod ⟨"BuildGrid$Fresh", "isStale", "(LBuildGrid$Target;)Z"⟩ : Cond) ∈ gBIG := gIn 1081 rfl rfl
set_option maxRecDepth 20000 in
theorem k_861 : (.selects "BuildGrid$Fresh" ⟨"BuildGrid$Fresh", "isStale", "(LBuildGrid$Target;)Z"⟩ ⟨"BuildGrid$Fresh", "isStale", "(LBuildGrid$Target;)Z"⟩ : Cond) ∈ gBIG := gIn 1082 rfl rfl
set_option maxRecDepth 20000 in
theorem k_862 : (.code ⟨"BuildGrid$Fresh", "isStale", "(LBuildGrid$Target;)Z"⟩ prog_6_method_4_code 4 (some Jvm.ClassFile.FieldType.boolean) : Cond) ∈ gBIG := gIn 1083 rfl rfl
set_option maxRecDepth 20000 in
theorem k_863 : (.instanceMethod ⟨"BuildGrid$Target", "isAllDone", "()Z"⟩ : Cond) ∈ gBIG := gIn 1085 rfl rfl
set_option maxRecDepth 20000 in
theorem k_864 : (.selects "BuildGrid$Target" ⟨"BuildGrid$Target", "isAllDone", "()Z"⟩ ⟨"BuildGrid$Target", "isAllDone", "()Z"⟩ : Cond) ∈ gBIG := gIn 1086 rfl rfl
set_option maxRecDepth 20000 in
theorem k_865 : (.code ⟨"BuildGrid$Target", "isAllDone", "()Z"⟩ prog_10_method_13_code 2 (some Jvm.ClassFile.FieldType.boolean) : Cond) ∈ gBIG := gIn 1087 rfl rfl
set_option maxRecDepth 20000 in
theorem k_866 : (.instanceMethod ⟨"BuildGrid$Fresh", "make", "(I)V"⟩ : Cond) ∈ gBIG := gIn 1090 rfl rfl
set_option maxRecDepth 20000 in
theorem k_867 : (.code ⟨"BuildGrid$Fresh", "make", "(I)V"⟩ prog_6_method_5_code 3 (none : Option FieldType) : Cond) ∈ gBIG := gIn 1091 rfl rfl
set_option maxRecDepth 20000 in
theorem k_868 : (.instanceMethod ⟨"BuildGrid$Sources", "filesAfter", "(I[I)V"⟩ : Cond) ∈ gBIG := gIn 1093 rfl rfl
set_option maxRecDepth 20000 in
theorem k_869 : (.selects "BuildGrid$Sources" ⟨"BuildGrid$Sources", "filesAfter", "(I[I)V"⟩ ⟨"BuildGrid$Sources", "filesAfter", "(I[I)V"⟩ : Cond) ∈ gBIG := gIn 1094 rfl rfl
set_option maxRecDepth 20000 in
theorem k_870 : (.code ⟨"BuildGrid$Sources", "filesAfter", "(I[I)V"⟩ prog_9_method_5_code 4 (none : Option FieldType) : Cond) ∈ gBIG := gIn 1095 rfl rfl
set_option maxRecDepth 20000 in
theorem k_871 : (.instanceMethod ⟨"BuildGrid$Fresh", "makeTarget", "(LBuildGrid$Target;)V"⟩ : Cond) ∈ gBIG := gIn 1099 rfl rfl
set_option maxRecDepth 20000 in
theorem k_872 : (.code ⟨"BuildGrid$Fresh", "makeTarget", "(LBuildGrid$Target;)V"⟩ prog_6_method_6_code 7 (none : Option FieldType) : Cond) ∈ gBIG := gIn 1100 rfl rfl
set_option maxRecDepth 20000 in
theorem k_873 : (.instanceMethod ⟨"BuildGrid$Fresh", "goodTargets", "(I)I"⟩ : Cond) ∈ gBIG := gIn 1112 rfl rfl
set_option maxRecDepth 20000 in
theorem k_874 : (.selects "BuildGrid$Fresh" ⟨"BuildGrid$Fresh", "goodTargets", "(I)I"⟩ ⟨"BuildGrid$Fresh", "goodTargets", "(I)I"⟩ : Cond) ∈ gBIG := gIn 1113 rfl rfl
set_option maxRecDepth 20000 in
theorem k_875 : (.code ⟨"BuildGrid$Fresh", "goodTargets", "(I)I"⟩ prog_6_method_2_code 2 (some Jvm.ClassFile.FieldType.int) : Cond) ∈ gBIG := gIn 1114 rfl rfl
set_option maxRecDepth 20000 in
theorem k_876 : (.instanceMethod ⟨"BuildGrid$Fresh", "digestOf", "(LBuildGrid$Target;)I"⟩ : Cond) ∈ gBIG := gIn 1116 rfl rfl
set_option maxRecDepth 20000 in
theorem k_877 : (.selects "BuildGrid$Fresh" ⟨"BuildGrid$Fresh", "digestOf", "(LBuildGrid$Target;)I"⟩ ⟨"BuildGrid$Fresh", "digestOf", "(LBuildGrid$Target;)I"⟩ : Cond) ∈ gBIG := gIn 1117 rfl rfl
set_option maxRecDepth 20000 in
theorem k_878 : (.code ⟨"BuildGrid$Fresh", "digestOf", "(LBuildGrid$Target;)I"⟩ prog_6_method_3_code 2 (some Jvm.ClassFile.FieldType.int) : Cond) ∈ gBIG := gIn 1118 rfl rfl
set_option maxRecDepth 20000 in
theorem k_879 : (.instanceMethod ⟨"BuildGrid$Course", "wayOf", "(LBuildGrid$Target;)I"⟩ : Cond) ∈ gBIG := gIn 1121 rfl rfl
set_option maxRecDepth 20000 in
theorem k_880 : (.selects "BuildGrid$Course" ⟨"BuildGrid$Course", "wayOf", "(LBuildGrid$Target;)I"⟩ ⟨"BuildGrid$Course", "wayOf", "(LBuildGrid$Target;)I"⟩ : Cond) ∈ gBIG := gIn 1122 rfl rfl
set_option maxRecDepth 20000 in
theorem k_881 : (.code ⟨"BuildGrid$Course", "wayOf", "(LBuildGrid$Target;)I"⟩ prog_4_method_4_code 2 (some Jvm.ClassFile.FieldType.int) : Cond) ∈ gBIG := gIn 1123 rfl rfl
set_option maxRecDepth 20000 in
theorem k_882 : (.static ⟨"BuildGridLaw", "proof", "(LBuildGrid;I[J)I"⟩ : Cond) ∈ gBIG := gIn 1125 rfl rfl
set_option maxRecDepth 20000 in
theorem k_883 : (.instanceMethod ⟨"BuildGrid", "proof", "(I)I"⟩ : Cond) ∈ gBIG := gIn 1128 rfl rfl
set_option maxRecDepth 20000 in
theorem k_884 : (.selects "BuildGrid" ⟨"BuildGrid", "proof", "(I)I"⟩ ⟨"BuildGrid", "proof", "(I)I"⟩ : Cond) ∈ gBIG := gIn 1129 rfl rfl
set_option maxRecDepth 20000 in
theorem k_885 : (.code ⟨"BuildGrid", "proof", "(I)I"⟩ prog_1_method_20_code 2 (some Jvm.ClassFile.FieldType.int) : Cond) ∈ gBIG := gIn 1130 rfl rfl
set_option maxRecDepth 20000 in
theorem k_886 : (.instanceMethod ⟨"BuildGrid$Graph", "isAllDone", "(I)Z"⟩ : Cond) ∈ gBIG := gIn 1133 rfl rfl
set_option maxRecDepth 20000 in
theorem k_887 : (.selects "BuildGrid$Graph" ⟨"BuildGrid$Graph", "isAllDone", "(I)Z"⟩ ⟨"BuildGrid$Graph", "isAllDone", "(I)Z"⟩ : Cond) ∈ gBIG := gIn 1134 rfl rfl
set_option maxRecDepth 20000 in
theorem k_888 : (.code ⟨"BuildGrid$Graph", "isAllDone", "(I)Z"⟩ prog_7_method_12_code 3 (some Jvm.ClassFile.FieldType.boolean) : Cond) ∈ gBIG := gIn 1135 rfl rfl
set_option maxRecDepth 20000 in
theorem k_889 : (.instanceMethod ⟨"BuildGrid$Graph", "proofOf", "(I)I"⟩ : Cond) ∈ gBIG := gIn 1138 rfl rfl
set_option maxRecDepth 20000 in
theorem k_890 : (.selects "BuildGrid$Graph" ⟨"BuildGrid$Graph", "proofOf", "(I)I"⟩ ⟨"BuildGrid$Graph", "proofOf", "(I)I"⟩ : Cond) ∈ gBIG := gIn 1139 rfl rfl
set_option maxRecDepth 20000 in
theorem k_891 : (.code ⟨"BuildGrid$Graph", "proofOf", "(I)I"⟩ prog_7_method_14_code 3 (some Jvm.ClassFile.FieldType.int) : Cond) ∈ gBIG := gIn 1140 rfl rfl
set_option maxRecDepth 20000 in
theorem k_892 : (.instanceMethod ⟨"BuildGrid$Graph", "proofOverInputs", "(LBuildGrid$Target;)I"⟩ : Cond) ∈ gBIG := gIn 1143 rfl rfl
set_option maxRecDepth 20000 in
theorem k_893 : (.code ⟨"BuildGrid$Graph", "proofOverInputs", "(LBuildGrid$Target;)I"⟩ prog_7_method_15_code 5 (some Jvm.ClassFile.FieldType.int) : Cond) ∈ gBIG := gIn 1144 rfl rfl
set_option maxRecDepth 20000 in
theorem k_894 : (.static ⟨"BuildGridLaw", "count", "(LBuildGrid;I[J)I"⟩ : Cond) ∈ gBIG := gIn 1150 rfl rfl
set_option maxRecDepth 20000 in
theorem k_895 : (.instanceMethod ⟨"BuildGrid", "count", "(I)I"⟩ : Cond) ∈ gBIG := gIn 1153 rfl rfl
set_option maxRecDepth 20000 in
theorem k_896 : (.selects "BuildGrid" ⟨"BuildGrid", "count", "(I)I"⟩ ⟨"BuildGrid", "count", "(I)I"⟩ : Cond) ∈ gBIG := gIn 1154 rfl rfl
set_option maxRecDepth 20000 in
theorem k_897 : (.code ⟨"BuildGrid", "count", "(I)I"⟩ prog_1_method_21_code 2 (some Jvm.ClassFile.FieldType.int) : Cond) ∈ gBIG := gIn 1155 rfl rfl
set_option maxRecDepth 20000 in
theorem k_898 : (.static ⟨"BuildGridLaw", "needed", "(LBuildGrid;I[J)I"⟩ : Cond) ∈ gBIG := gIn 1157 rfl rfl
set_option maxRecDepth 20000 in
theorem k_899 : (.instanceMethod ⟨"BuildGrid", "needed", "(I)I"⟩ : Cond) ∈ gBIG := gIn 1160 rfl rfl
set_option maxRecDepth 20000 in
theorem k_900 : (.selects "BuildGrid" ⟨"BuildGrid", "needed", "(I)I"⟩ ⟨"BuildGrid", "needed", "(I)I"⟩ : Cond) ∈ gBIG := gIn 1161 rfl rfl
set_option maxRecDepth 20000 in
theorem k_901 : (.code ⟨"BuildGrid", "needed", "(I)I"⟩ prog_1_method_22_code 2 (some Jvm.ClassFile.FieldType.int) : Cond) ∈ gBIG := gIn 1162 rfl rfl
set_option maxRecDepth 20000 in
theorem k_902 : (.static ⟨"BuildGridLaw", "needing", "(LBuildGrid;I[J)I"⟩ : Cond) ∈ gBIG := gIn 1164 rfl rfl
set_option maxRecDepth 20000 in
theorem k_903 : (.instanceMethod ⟨"BuildGrid", "needing", "(I)I"⟩ : Cond) ∈ gBIG := gIn 1167 rfl rfl
set_option maxRecDepth 20000 in
theorem k_904 : (.selects "BuildGrid" ⟨"BuildGrid", "needing", "(I)I"⟩ ⟨"BuildGrid", "needing", "(I)I"⟩ : Cond) ∈ gBIG := gIn 1168 rfl rfl
set_option maxRecDepth 20000 in
theorem k_905 : (.code ⟨"BuildGrid", "needing", "(I)I"⟩ prog_1_method_23_code 2 (some Jvm.ClassFile.FieldType.int) : Cond) ∈ gBIG := gIn 1169 rfl rfl
set_option maxRecDepth 20000 in
theorem k_906 : (.instanceMethod ⟨"BuildGrid$Graph", "targetsOver", "(I)I"⟩ : Cond) ∈ gBIG := gIn 1171 rfl rfl
set_option maxRecDepth 20000 in
theorem k_907 : (.selects "BuildGrid$Graph" ⟨"BuildGrid$Graph", "targetsOver", "(I)I"⟩ ⟨"BuildGrid$Graph", "targetsOver", "(I)I"⟩ : Cond) ∈ gBIG := gIn 1172 rfl rfl
set_option maxRecDepth 20000 in
theorem k_908 : (.code ⟨"BuildGrid$Graph", "targetsOver", "(I)I"⟩ prog_7_method_6_code 5 (some Jvm.ClassFile.FieldType.int) : Cond) ∈ gBIG := gIn 1173 rfl rfl
set_option maxRecDepth 20000 in
theorem k_909 : (.instanceMethod ⟨"BuildGrid$Graph", "hasInput", "(LBuildGrid$Target;I)Z"⟩ : Cond) ∈ gBIG := gIn 1176 rfl rfl
set_option maxRecDepth 20000 in
theorem k_910 : (.code ⟨"BuildGrid$Graph", "hasInput", "(LBuildGrid$Target;I)Z"⟩ prog_7_method_7_code 4 (some Jvm.ClassFile.FieldType.boolean) : Cond) ∈ gBIG := gIn 1177 rfl rfl
set_option maxRecDepth 20000 in
theorem k_911 : (.static ⟨"BuildGridLaw", "steps", "(LBuildGrid;II[J)I"⟩ : Cond) ∈ gBIG := gIn 1179 rfl rfl
set_option maxRecDepth 20000 in
theorem k_912 : (.instanceMethod ⟨"BuildGrid", "steps", "(II)I"⟩ : Cond) ∈ gBIG := gIn 1182 rfl rfl
set_option maxRecDepth 20000 in
theorem k_913 : (.selects "BuildGrid" ⟨"BuildGrid", "steps", "(II)I"⟩ ⟨"BuildGrid", "steps", "(II)I"⟩ : Cond) ∈ gBIG := gIn 1183 rfl rfl
set_option maxRecDepth 20000 in
theorem k_914 : (.code ⟨"BuildGrid", "steps", "(II)I"⟩ prog_1_method_24_code 3 (some Jvm.ClassFile.FieldType.int) : Cond) ∈ gBIG := gIn 1184 rfl rfl
set_option maxRecDepth 20000 in
theorem k_915 : (.instanceMethod ⟨"BuildGrid$Graph", "distance", "(II)I"⟩ : Cond) ∈ gBIG := gIn 1186 rfl rfl
set_option maxRecDepth 20000 in
theorem k_916 : (.selects "BuildGrid$Graph" ⟨"BuildGrid$Graph", "distance", "(II)I"⟩ ⟨"BuildGrid$Graph", "distance", "(II)I"⟩ : Cond) ∈ gBIG := gIn 1187 rfl rfl
set_option maxRecDepth 20000 in
theorem k_917 : (.code ⟨"BuildGrid$Graph", "distance", "(II)I"⟩ prog_7_method_8_code 4 (some Jvm.ClassFile.FieldType.int) : Cond) ∈ gBIG := gIn 1188 rfl rfl
set_option maxRecDepth 20000 in
theorem k_918 : (.instanceMethod ⟨"BuildGrid$Graph", "spreadDistance", "(LBuildGrid$Target;)V"⟩ : Cond) ∈ gBIG := gIn 1191 rfl rfl
set_option maxRecDepth 20000 in
theorem k_919 : (.code ⟨"BuildGrid$Graph", "spreadDistance", "(LBuildGrid$Target;)V"⟩ prog_7_method_9_code 6 (none : Option FieldType) : Cond) ∈ gBIG := gIn 1192 rfl rfl
set_option maxRecDepth 20000 in
theorem k_920 : (.static ⟨"BuildGridLaw", "bisect", "(LBuildGrid;I[J)I"⟩ : Cond) ∈ gBIG := gIn 1194 rfl rfl
set_option maxRecDepth 20000 in
theorem k_921 : (.instanceMethod ⟨"BuildGrid", "bisect", "(I)I"⟩ : Cond) ∈ gBIG := gIn 1197 rfl rfl
set_option maxRecDepth 20000 in
theorem k_922 : (.selects "BuildGrid" ⟨"BuildGrid", "bisect", "(I)I"⟩ ⟨"BuildGrid", "bisect", "(I)I"⟩ : Cond) ∈ gBIG := gIn 1198 rfl rfl
set_option maxRecDepth 20000 in
theorem k_923 : (.code ⟨"BuildGrid", "bisect", "(I)I"⟩ prog_1_method_26_code 6 (some Jvm.ClassFile.FieldType.int) : Cond) ∈ gBIG := gIn 1199 rfl rfl
set_option maxRecDepth 20000 in
theorem k_924 : (.instanceMethod ⟨"BuildGrid", "isGoodAfter", "(II)Z"⟩ : Cond) ∈ gBIG := gIn 1202 rfl rfl
set_option maxRecDepth 20000 in
theorem k_925 : (.code ⟨"BuildGrid", "isGoodAfter", "(II)Z"⟩ prog_1_method_33_code 3 (some Jvm.ClassFile.FieldType.boolean) : Cond) ∈ gBIG := gIn 1203 rfl rfl
set_option maxRecDepth 20000 in
theorem k_926 : (.instanceMethod ⟨"BuildGridModel", "<init>", "()V"⟩ : Cond) ∈ gBIG := gIn 1207 rfl rfl
set_option maxRecDepth 20000 in
theorem k_927 : (.code ⟨"BuildGridModel", "<init>", "()V"⟩ prog_14_method_1_code 2 (none : Option FieldType) : Cond) ∈ gBIG := gIn 1208 rfl rfl
set_option maxRecDepth 20000 in
theorem k_928 : (.instanceMethod ⟨"BuildGridModel", "thrown", "()I"⟩ : Cond) ∈ gBIG := gIn 1381 rfl rfl
set_option maxRecDepth 20000 in
theorem k_929 : (.selects "BuildGridModel" ⟨"BuildGridModel", "thrown", "()I"⟩ ⟨"BuildGridModel", "thrown", "()I"⟩ : Cond) ∈ gBIG := gIn 1382 rfl rfl
set_option maxRecDepth 20000 in
theorem k_930 : (.code ⟨"BuildGridModel", "thrown", "()I"⟩ prog_14_method_2_code 1 (some Jvm.ClassFile.FieldType.int) : Cond) ∈ gBIG := gIn 1383 rfl rfl
set_option maxRecDepth 20000 in
theorem k_931 : (.instanceMethod ⟨"BuildGridModel", "write", "(II)I"⟩ : Cond) ∈ gBIG := gIn 1385 rfl rfl
set_option maxRecDepth 20000 in
theorem k_932 : (.selects "BuildGridModel" ⟨"BuildGridModel", "write", "(II)I"⟩ ⟨"BuildGridModel", "write", "(II)I"⟩ : Cond) ∈ gBIG := gIn 1386 rfl rfl
set_option maxRecDepth 20000 in
theorem k_933 : (.code ⟨"BuildGridModel", "write", "(II)I"⟩ prog_14_method_7_code 5 (some Jvm.ClassFile.FieldType.int) : Cond) ∈ gBIG := gIn 1387 rfl rfl
set_option maxRecDepth 20000 in
theorem k_934 : (.static ⟨"BuildGridModel", "in", "(III)Z"⟩ : Cond) ∈ gBIG := gIn 1389 rfl rfl
set_option maxRecDepth 20000 in
theorem k_935 : (.code ⟨"BuildGridModel", "in", "(III)Z"⟩ prog_14_method_5_code 3 (some Jvm.ClassFile.FieldType.boolean) : Cond) ∈ gBIG := gIn 1390 rfl rfl
set_option maxRecDepth 20000 in
theorem k_936 : (.instanceMethod ⟨"BuildGridModel", "asked", "(Z)Z"⟩ : Cond) ∈ gBIG := gIn 1393 rfl rfl
set_option maxRecDepth 20000 in
theorem k_937 : (.code ⟨"BuildGridModel", "asked", "(Z)Z"⟩ prog_14_method_3_code 2 (some Jvm.ClassFile.FieldType.boolean) : Cond) ∈ gBIG := gIn 1394 rfl rfl
set_option maxRecDepth 20000 in
theorem k_938 : (.instanceMethod ⟨"BuildGridModel", "set", "(II)I"⟩ : Cond) ∈ gBIG := gIn 1396 rfl rfl
set_option maxRecDepth 20000 in
theorem k_939 : (.selects "BuildGridModel" ⟨"BuildGridModel", "set", "(II)I"⟩ ⟨"BuildGridModel", "set", "(II)I"⟩ : Cond) ∈ gBIG := gIn 1397 rfl rfl
set_option maxRecDepth 20000 in
theorem k_940 : (.code ⟨"BuildGridModel", "set", "(II)I"⟩ prog_14_method_8_code 4 (some Jvm.ClassFile.FieldType.int) : Cond) ∈ gBIG := gIn 1398 rfl rfl
set_option maxRecDepth 20000 in
theorem k_941 : (.instanceMethod ⟨"BuildGridModel", "asked", "(ZZ)Z"⟩ : Cond) ∈ gBIG := gIn 1401 rfl rfl
set_option maxRecDepth 20000 in
theorem k_942 : (.code ⟨"BuildGridModel", "asked", "(ZZ)Z"⟩ prog_14_method_4_code 3 (some Jvm.ClassFile.FieldType.boolean) : Cond) ∈ gBIG := gIn 1402 rfl rfl
set_option maxRecDepth 20000 in
theorem k_943 : (.instanceMethod ⟨"BuildGridModel", "setTool", "(II)I"⟩ : Cond) ∈ gBIG := gIn 1404 rfl rfl
set_option maxRecDepth 20000 in
theorem k_944 : (.selects "BuildGridModel" ⟨"BuildGridModel", "setTool", "(II)I"⟩ ⟨"BuildGridModel", "setTool", "(II)I"⟩ : Cond) ∈ gBIG := gIn 1405 rfl rfl
set_option maxRecDepth 20000 in
theorem k_945 : (.code ⟨"BuildGridModel", "setTool", "(II)I"⟩ prog_14_method_9_code 4 (some Jvm.ClassFile.FieldType.int) : Cond) ∈ gBIG := gIn 1406 rfl rfl
set_option maxRecDepth 20000 in
theorem k_946 : (.instanceMethod ⟨"BuildGridModel", "input", "(IIII)I"⟩ : Cond) ∈ gBIG := gIn 1408 rfl rfl
set_option maxRecDepth 20000 in
theorem k_947 : (.selects "BuildGridModel" ⟨"BuildGridModel", "input", "(IIII)I"⟩ ⟨"BuildGridModel", "input", "(IIII)I"⟩ : Cond) ∈ gBIG := gIn 1409 rfl rfl
set_option maxRecDepth 20000 in
theorem k_948 : (.code ⟨"BuildGridModel", "input", "(IIII)I"⟩ prog_14_method_11_code 7 (some Jvm.ClassFile.FieldType.int) : Cond) ∈ gBIG := gIn 1410 rfl rfl
set_option maxRecDepth 20000 in
theorem k_949 : (.instanceMethod ⟨"BuildGridModel", "isInput", "(I)Z"⟩ : Cond) ∈ gBIG := gIn 1413 rfl rfl
set_option maxRecDepth 20000 in
theorem k_950 : (.code ⟨"BuildGridModel", "isInput", "(I)Z"⟩ prog_14_method_10_code 2 (some Jvm.ClassFile.FieldType.boolean) : Cond) ∈ gBIG := gIn 1414 rfl rfl
set_option maxRecDepth 20000 in
theorem k_951 : (.instanceMethod ⟨"BuildGridModel", "isTarget", "(I)Z"⟩ : Cond) ∈ gBIG := gIn 1417 rfl rfl
set_option maxRecDepth 20000 in
theorem k_952 : (.code ⟨"BuildGridModel", "isTarget", "(I)Z"⟩ prog_14_method_6_code 2 (some Jvm.ClassFile.FieldType.boolean) : Cond) ∈ gBIG := gIn 1418 rfl rfl
set_option maxRecDepth 20000 in
theorem k_953 : (.instanceMethod ⟨"BuildGridModel", "target", "(IIIIII)I"⟩ : Cond) ∈ gBIG := gIn 1420 rfl rfl
set_option maxRecDepth 20000 in
theorem k_954 : (.selects "BuildGridModel" ⟨"BuildGridModel", "target", "(IIIIII)I"⟩ ⟨"BuildGridModel", "target", "(IIIIII)I"⟩ : Cond) ∈ gBIG := gIn 1421 rfl rfl
set_option maxRecDepth 20000 in
theorem k_955 : (.code ⟨"BuildGridModel", "target", "(IIIIII)I"⟩ prog_14_method_13_code 8 (some Jvm.ClassFile.FieldType.int) : Cond) ∈ gBIG := gIn 1422 rfl rfl
set_option maxRecDepth 20000 in
theorem k_956 : (.instanceMethod ⟨"BuildGridModel", "lay", "(II)V"⟩ : Cond) ∈ gBIG := gIn 1426 rfl rfl
set_option maxRecDepth 20000 in
theorem k_957 : (.code ⟨"BuildGridModel", "lay", "(II)V"⟩ prog_14_method_12_code 4 (none : Option FieldType) : Cond) ∈ gBIG := gIn 1427 rfl rfl
set_option maxRecDepth 20000 in
theorem k_958 : (.instanceMethod ⟨"BuildGridModel", "copy", "(II)I"⟩ : Cond) ∈ gBIG := gIn 1429 rfl rfl
set_option maxRecDepth 20000 in
theorem k_959 : (.selects "BuildGridModel" ⟨"BuildGridModel", "copy", "(II)I"⟩ ⟨"BuildGridModel", "copy", "(II)I"⟩ : Cond) ∈ gBIG := gIn 1430 rfl rfl
set_option maxRecDepth 20000 in
theorem k_960 : (.code ⟨"BuildGridModel", "copy", "(II)I"⟩ prog_14_method_14_code 3 (some Jvm.ClassFile.FieldType.int) : Cond) ∈ gBIG := gIn 1431 rfl rfl
set_option maxRecDepth 20000 in
theorem k_961 : (.instanceMethod ⟨"BuildGridModel", "entries", "()I"⟩ : Cond) ∈ gBIG := gIn 1433 rfl rfl
set_option maxRecDepth 20000 in
theorem k_962 : (.selects "BuildGridModel" ⟨"BuildGridModel", "entries", "()I"⟩ ⟨"BuildGridModel", "entries", "()I"⟩ : Cond) ∈ gBIG := gIn 1434 rfl rfl
set_option maxRecDepth 20000 in
theorem k_963 : (.code ⟨"BuildGridModel", "entries", "()I"⟩ prog_14_method_29_code 1 (some Jvm.ClassFile.FieldType.int) : Cond) ∈ gBIG := gIn 1435 rfl rfl
set_option maxRecDepth 20000 in
theorem k_964 : (.instanceMethod ⟨"BuildGridModel", "entry", "(II)I"⟩ : Cond) ∈ gBIG := gIn 1437 rfl rfl
set_option maxRecDepth 20000 in
theorem k_965 : (.selects "BuildGridModel" ⟨"BuildGridModel", "entry", "(II)I"⟩ ⟨"BuildGridModel", "entry", "(II)I"⟩ : Cond) ∈ gBIG := gIn 1438 rfl rfl
set_option maxRecDepth 20000 in
theorem k_966 : (.code ⟨"BuildGridModel", "entry", "(II)I"⟩ prog_14_method_30_code 3 (some Jvm.ClassFile.FieldType.int) : Cond) ∈ gBIG := gIn 1439 rfl rfl
set_option maxRecDepth 20000 in
theorem k_967 : (.instanceMethod ⟨"BuildGridModel", "isSigned", "(I)Z"⟩ : Cond) ∈ gBIG := gIn 1442 rfl rfl
set_option maxRecDepth 20000 in
theorem k_968 : (.code ⟨"BuildGridModel", "isSigned", "(I)Z"⟩ prog_14_method_26_code 2 (some Jvm.ClassFile.FieldType.boolean) : Cond) ∈ gBIG := gIn 1443 rfl rfl
set_option maxRecDepth 20000 in
theorem k_969 : (.instanceMethod ⟨"BuildGridModel", "signature", "(III)I"⟩ : Cond) ∈ gBIG := gIn 1446 rfl rfl
set_option maxRecDepth 20000 in
theorem k_970 : (.code ⟨"BuildGridModel", "signature", "(III)I"⟩ prog_14_method_25_code 4 (some Jvm.ClassFile.FieldType.int) : Cond) ∈ gBIG := gIn 1447 rfl rfl
set_option maxRecDepth 20000 in
theorem k_971 : (.static ⟨"BuildGridModel", "put", "(II)I"⟩ : Cond) ∈ gBIG := gIn 1449 rfl rfl
set_option maxRecDepth 20000 in
theorem k_972 : (.code ⟨"BuildGridModel", "put", "(II)I"⟩ prog_14_method_17_code 2 (some Jvm.ClassFile.FieldType.int) : Cond) ∈ gBIG := gIn 1450 rfl rfl
set_option maxRecDepth 20000 in
theorem k_973 : (.instanceMethod ⟨"BuildGridModel", "lie", "(II)V"⟩ : Cond) ∈ gBIG := gIn 1453 rfl rfl
set_option maxRecDepth 20000 in
theorem k_974 : (.selects "BuildGridModel" ⟨"BuildGridModel", "lie", "(II)V"⟩ ⟨"BuildGridModel", "lie", "(II)V"⟩ : Cond) ∈ gBIG := gIn 1454 rfl rfl
set_option maxRecDepth 20000 in
theorem k_975 : (.code ⟨"BuildGridModel", "lie", "(II)V"⟩ prog_14_method_31_code 3 (none : Option FieldType) : Cond) ∈ gBIG := gIn 1455 rfl rfl
set_option maxRecDepth 20000 in
theorem k_976 : (.instanceMethod ⟨"BuildGridModel", "lose", "(I)Z"⟩ : Cond) ∈ gBIG := gIn 1458 rfl rfl
set_option maxRecDepth 20000 in
theorem k_977 : (.selects "BuildGridModel" ⟨"BuildGridModel", "lose", "(I)Z"⟩ ⟨"BuildGridModel", "lose", "(I)Z"⟩ : Cond) ∈ gBIG := gIn 1459 rfl rfl
set_option maxRecDepth 20000 in
theorem k_978 : (.code ⟨"BuildGridModel", "lose", "(I)Z"⟩ prog_14_method_32_code 3 (some Jvm.ClassFile.FieldType.boolean) : Cond) ∈ gBIG := gIn 1460 rfl rfl
set_option maxRecDepth 20000 in
theorem k_979 : (.instanceMethod ⟨"BuildGridModel", "setPower", "(II)I"⟩ : Cond) ∈ gBIG := gIn 1462 rfl rfl
set_option maxRecDepth 20000 in
theorem k_980 : (.selects "BuildGridModel" ⟨"BuildGridModel", "setPower", "(II)I"⟩ ⟨"BuildGridModel", "setPower", "(II)I"⟩ : Cond) ∈ gBIG := gIn 1463 rfl rfl
set_option maxRecDepth 20000 in
theorem k_981 : (.code ⟨"BuildGridModel", "setPower", "(II)I"⟩ prog_14_method_33_code 5 (some Jvm.ClassFile.FieldType.int) : Cond) ∈ gBIG := gIn 1464 rfl rfl
set_option maxRecDepth 20000 in
theorem k_982 : (.instanceMethod ⟨"BuildGridModel", "workerAt", "(I)I"⟩ : Cond) ∈ gBIG := gIn 1467 rfl rfl
set_option maxRecDepth 20000 in
theorem k_983 : (.code ⟨"BuildGridModel", "workerAt", "(I)I"⟩ prog_14_method_34_code 3 (some Jvm.ClassFile.FieldType.int) : Cond) ∈ gBIG := gIn 1468 rfl rfl
set_option maxRecDepth 20000 in
theorem k_984 : (.instanceMethod ⟨"BuildGridModel", "setWays", "(ZZ)V"⟩ : Cond) ∈ gBIG := gIn 1470 rfl rfl
set_option maxRecDepth 20000 in
theorem k_985 : (.selects "BuildGridModel" ⟨"BuildGridModel", "setWays", "(ZZ)V"⟩ ⟨"BuildGridModel", "setWays", "(ZZ)V"⟩ : Cond) ∈ gBIG := gIn 1471 rfl rfl
set_option maxRecDepth 20000 in
theorem k_986 : (.code ⟨"BuildGridModel", "setWays", "(ZZ)V"⟩ prog_14_method_35_code 3 (none : Option FieldType) : Cond) ∈ gBIG := gIn 1472 rfl rfl
set_option maxRecDepth 20000 in
theorem k_987 : (.instanceMethod ⟨"BuildGridModel", "build", "(I)I"⟩ : Cond) ∈ gBIG := gIn 1474 rfl rfl
set_option maxRecDepth 20000 in
theorem k_988 : (.selects "BuildGridModel" ⟨"BuildGridModel", "build", "(I)I"⟩ ⟨"BuildGridModel", "build", "(I)I"⟩ : Cond) ∈ gBIG := gIn 1475 rfl rfl
set_option maxRecDepth 20000 in
theorem k_989 : (.code ⟨"BuildGridModel", "build", "(I)I"⟩ prog_14_method_37_code 6 (some Jvm.ClassFile.FieldType.int) : Cond) ∈ gBIG := gIn 1476 rfl rfl
set_option maxRecDepth 20000 in
theorem k_990 : (.instanceMethod ⟨"BuildGridModel", "neededBy", "(I)I"⟩ : Cond) ∈ gBIG := gIn 1479 rfl rfl
set_option maxRecDepth 20000 in
theorem k_991 : (.code ⟨"BuildGridModel", "neededBy", "(I)I"⟩ prog_14_method_16_code 6 (some Jvm.ClassFile.FieldType.int) : Cond) ∈ gBIG := gIn 1480 rfl rfl
set_option maxRecDepth 20000 in
theorem k_992 : (.instanceMethod ⟨"BuildGridModel", "inputOf", "(II)I"⟩ : Cond) ∈ gBIG := gIn 1483 rfl rfl
set_option maxRecDepth 20000 in
theorem k_993 : (.code ⟨"BuildGridModel", "inputOf", "(II)I"⟩ prog_14_method_15_code 4 (some Jvm.ClassFile.FieldType.int) : Cond) ∈ gBIG := gIn 1484 rfl rfl
set_option maxRecDepth 20000 in
theorem k_994 : (.instanceMethod ⟨"BuildGridModel", "isNeeded", "(I)Z"⟩ : Cond) ∈ gBIG := gIn 1487 rfl rfl
set_option maxRecDepth 20000 in
theorem k_995 : (.code ⟨"BuildGridModel", "isNeeded", "(I)Z"⟩ prog_14_method_36_code 2 (some Jvm.ClassFile.FieldType.boolean) : Cond) ∈ gBIG := gIn 1488 rfl rfl
set_option maxRecDepth 20000 in
theorem k_996 : (.instanceMethod ⟨"BuildGridModel", "opens", "()V"⟩ : Cond) ∈ gBIG := gIn 1491 rfl rfl
set_option maxRecDepth 20000 in
theorem k_997 : (.code ⟨"BuildGridModel", "opens", "()V"⟩ prog_14_method_38_code 4 (none : Option FieldType) : Cond) ∈ gBIG := gIn 1492 rfl rfl
set_option maxRecDepth 20000 in
theorem k_998 : (.instanceMethod ⟨"BuildGridModel", "opensOne", "(II)V"⟩ : Cond) ∈ gBIG := gIn 1495 rfl rfl
set_option maxRecDepth 20000 in
theorem k_999 : (.code ⟨"BuildGridModel", "opensOne", "(II)V"⟩ prog_14_method_39_code 8 (none : Option FieldType) : Cond) ∈ gBIG := gIn 1496 rfl rfl
set_option maxRecDepth 20000 in
theorem k_1000 : (.instanceMethod ⟨"BuildGridModel", "hit", "(I)I"⟩ : Cond) ∈ gBIG := gIn 1499 rfl rfl
set_option maxRecDepth 20000 in
theorem k_1001 : (.code ⟨"BuildGridModel", "hit", "(I)I"⟩ prog_14_method_27_code 8 (some Jvm.ClassFile.FieldType.int) : Cond) ∈ gBIG := gIn 1500 rfl rfl
set_option maxRecDepth 20000 in
theorem k_1002 : (.instanceMethod ⟨"BuildGridModel", "keyOf", "(I)I"⟩ : Cond) ∈ gBIG := gIn 1503 rfl rfl
set_option maxRecDepth 20000 in
theorem k_1003 : (.code ⟨"BuildGridModel", "keyOf", "(I)I"⟩ prog_14_method_24_code 6 (some Jvm.ClassFile.FieldType.int) : Cond) ∈ gBIG := gIn 1504 rfl rfl
set_option maxRecDepth 20000 in
theorem k_1004 : (.instanceMethod ⟨"BuildGridModel", "keyBegin", "(II)I"⟩ : Cond) ∈ gBIG := gIn 1507 rfl rfl
set_option maxRecDepth 20000 in
theorem k_1005 : (.code ⟨"BuildGridModel", "keyBegin", "(II)I"⟩ prog_14_method_18_code 4 (some Jvm.ClassFile.FieldType.int) : Cond) ∈ gBIG := gIn 1508 rfl rfl
set_option maxRecDepth 20000 in
theorem k_1006 : (.instanceMethod ⟨"BuildGridModel", "digestOf", "(I)I"⟩ : Cond) ∈ gBIG := gIn 1511 rfl rfl
set_option maxRecDepth 20000 in
theorem k_1007 : (.code ⟨"BuildGridModel", "digestOf", "(I)I"⟩ prog_14_method_23_code 4 (some Jvm.ClassFile.FieldType.int) : Cond) ∈ gBIG := gIn 1512 rfl rfl
set_option maxRecDepth 20000 in
theorem k_1008 : (.instanceMethod ⟨"BuildGridModel", "foundBy", "(II)I"⟩ : Cond) ∈ gBIG := gIn 1515 rfl rfl
set_option maxRecDepth 20000 in
theorem k_1009 : (.code ⟨"BuildGridModel", "foundBy", "(II)I"⟩ prog_14_method_19_code 3 (some Jvm.ClassFile.FieldType.int) : Cond) ∈ gBIG := gIn 1516 rfl rfl
set_option maxRecDepth 20000 in
theorem k_1010 : (.instanceMethod ⟨"BuildGridModel", "breaks", "(II)Z"⟩ : Cond) ∈ gBIG := gIn 1519 rfl rfl
set_option maxRecDepth 20000 in
theorem k_1011 : (.code ⟨"BuildGridModel", "breaks", "(II)Z"⟩ prog_14_method_20_code 3 (some Jvm.ClassFile.FieldType.boolean) : Cond) ∈ gBIG := gIn 1520 rfl rfl
set_option maxRecDepth 20000 in
theorem k_1012 : (.instanceMethod ⟨"BuildGridModel", "pass", "(I)I"⟩ : Cond) ∈ gBIG := gIn 1522 rfl rfl
set_option maxRecDepth 20000 in
theorem k_1013 : (.selects "BuildGridModel" ⟨"BuildGridModel", "pass", "(I)I"⟩ ⟨"BuildGridModel", "pass", "(I)I"⟩ : Cond) ∈ gBIG := gIn 1523 rfl rfl
set_option maxRecDepth 20000 in
theorem k_1014 : (.code ⟨"BuildGridModel", "pass", "(I)I"⟩ prog_14_method_48_code 3 (some Jvm.ClassFile.FieldType.int) : Cond) ∈ gBIG := gIn 1524 rfl rfl
set_option maxRecDepth 20000 in
theorem k_1015 : (.instanceMethod ⟨"BuildGridModel", "builds", "()V"⟩ : Cond) ∈ gBIG := gIn 1527 rfl rfl
set_option maxRecDepth 20000 in
theorem k_1016 : (.code ⟨"BuildGridModel", "builds", "()V"⟩ prog_14_method_47_code 5 (none : Option FieldType) : Cond) ∈ gBIG := gIn 1528 rfl rfl
set_option maxRecDepth 20000 in
theorem k_1017 : (.instanceMethod ⟨"BuildGridModel", "next", "()I"⟩ : Cond) ∈ gBIG := gIn 1531 rfl rfl
set_option maxRecDepth 20000 in
theorem k_1018 : (.code ⟨"BuildGridModel", "next", "()I"⟩ prog_14_method_44_code 5 (some Jvm.ClassFile.FieldType.int) : Cond) ∈ gBIG := gIn 1532 rfl rfl
set_option maxRecDepth 20000 in
theorem k_1019 : (.instanceMethod ⟨"BuildGridModel", "wayOf", "(I)I"⟩ : Cond) ∈ gBIG := gIn 1535 rfl rfl
set_option maxRecDepth 20000 in
theorem k_1020 : (.code ⟨"BuildGridModel", "wayOf", "(I)I"⟩ prog_14_method_40_code 6 (some Jvm.ClassFile.FieldType.int) : Cond) ∈ gBIG := gIn 1536 rfl rfl
set_option maxRecDepth 20000 in
theorem k_1021 : (.instanceMethod ⟨"BuildGridModel", "hasInput", "(II)Z"⟩ : Cond) ∈ gBIG := gIn 1539 rfl rfl
set_option maxRecDepth 20000 in
theorem k_1022 : (.code ⟨"BuildGridModel", "hasInput", "(II)Z"⟩ prog_14_method_41_code 5 (some Jvm.ClassFile.FieldType.boolean) : Cond) ∈ gBIG := gIn 1540 rfl rfl
set_option maxRecDepth 20000 in
theorem k_1023 : (.instanceMethod ⟨"BuildGridModel", "idle", "()I"⟩ : Cond) ∈ gBIG := gIn 1543 rfl rfl
set_option maxRecDepth 20000 in
theorem k_1024 : (.code ⟨"BuildGridModel", "idle", "()I"⟩ prog_14_method_45_code 3 (some Jvm.ClassFile.FieldType.int) : Cond) ∈ gBIG := gIn 1544 rfl rfl
set_option maxRecDepth 20000 in
theorem k_1025 : (.instanceMethod ⟨"BuildGridModel", "begins", "(II)V"⟩ : Cond) ∈ gBIG := gIn 1547 rfl rfl
set_option maxRecDepth 20000 in
theorem k_1026 : (.code ⟨"BuildGridModel", "begins", "(II)V"⟩ prog_14_method_43_code 4 (none : Option FieldType) : Cond) ∈ gBIG := gIn 1548 rfl rfl
set_option maxRecDepth 20000 in
theorem k_1027 : (.instanceMethod ⟨"BuildGridModel", "ticksOf", "(II)I"⟩ : Cond) ∈ gBIG := gIn 1551 rfl rfl
set_option maxRecDepth 20000 in
theorem k_1028 : (.code ⟨"BuildGridModel", "ticksOf", "(II)I"⟩ prog_14_method_42_code 6 (some Jvm.ClassFile.FieldType.int) : Cond) ∈ gBIG := gIn 1552 rfl rfl
set_option maxRecDepth 20000 in
theorem k_1029 : (.instanceMethod ⟨"BuildGridModel", "ends", "(I)V"⟩ : Cond) ∈ gBIG := gIn 1555 rfl rfl
set_option maxRecDepth 20000 in
theorem k_1030 : (.code ⟨"BuildGridModel", "ends", "(I)V"⟩ prog_14_method_46_code 8 (none : Option FieldType) : Cond) ∈ gBIG := gIn 1556 rfl rfl
set_option maxRecDepth 20000 in
theorem k_1031 : (.instanceMethod ⟨"BuildGridModel", "keep", "(IIIII)V"⟩ : Cond) ∈ gBIG := gIn 1559 rfl rfl
set_option maxRecDepth 20000 in
theorem k_1032 : (.code ⟨"BuildGridModel", "keep", "(IIIII)V"⟩ prog_14_method_28_code 7 (none : Option FieldType) : Cond) ∈ gBIG := gIn 1560 rfl rfl
set_option maxRecDepth 20000 in
theorem k_1033 : (.instanceMethod ⟨"BuildGridModel", "goesOn", "()Z"⟩ : Cond) ∈ gBIG := gIn 1562 rfl rfl
set_option maxRecDepth 20000 in
theorem k_1034 : (.selects "BuildGridModel" ⟨"BuildGridModel", "goesOn", "()Z"⟩ ⟨"BuildGridModel", "goesOn", "()Z"⟩ : Cond) ∈ gBIG := gIn 1563 rfl rfl
set_option maxRecDepth 20000 in
theorem k_1035 : (.code ⟨"BuildGridModel", "goesOn", "()Z"⟩ prog_14_method_49_code 1 (some Jvm.ClassFile.FieldType.boolean) : Cond) ∈ gBIG := gIn 1564 rfl rfl
set_option maxRecDepth 20000 in
theorem k_1036 : (.instanceMethod ⟨"BuildGridModel", "state", "(II)I"⟩ : Cond) ∈ gBIG := gIn 1566 rfl rfl
set_option maxRecDepth 20000 in
theorem k_1037 : (.selects "BuildGridModel" ⟨"BuildGridModel", "state", "(II)I"⟩ ⟨"BuildGridModel", "state", "(II)I"⟩ : Cond) ∈ gBIG := gIn 1567 rfl rfl
set_option maxRecDepth 20000 in
theorem k_1038 : (.code ⟨"BuildGridModel", "state", "(II)I"⟩ prog_14_method_50_code 3 (some Jvm.ClassFile.FieldType.int) : Cond) ∈ gBIG := gIn 1568 rfl rfl
set_option maxRecDepth 20000 in
theorem k_1039 : (.instanceMethod ⟨"BuildGridModel", "result", "(II)I"⟩ : Cond) ∈ gBIG := gIn 1570 rfl rfl
set_option maxRecDepth 20000 in
theorem k_1040 : (.selects "BuildGridModel" ⟨"BuildGridModel", "result", "(II)I"⟩ ⟨"BuildGridModel", "result", "(II)I"⟩ : Cond) ∈ gBIG := gIn 1571 rfl rfl
set_option maxRecDepth 20000 in
theorem k_1041 : (.code ⟨"BuildGridModel", "result", "(II)I"⟩ prog_14_method_51_code 3 (some Jvm.ClassFile.FieldType.int) : Cond) ∈ gBIG := gIn 1572 rfl rfl
set_option maxRecDepth 20000 in
theorem k_1042 : (.instanceMethod ⟨"BuildGridModel", "about", "(II)I"⟩ : Cond) ∈ gBIG := gIn 1574 rfl rfl
set_option maxRecDepth 20000 in
theorem k_1043 : (.selects "BuildGridModel" ⟨"BuildGridModel", "about", "(II)I"⟩ ⟨"BuildGridModel", "about", "(II)I"⟩ : Cond) ∈ gBIG := gIn 1575 rfl rfl
set_option maxRecDepth 20000 in
theorem k_1044 : (.code ⟨"BuildGridModel", "about", "(II)I"⟩ prog_14_method_55_code 4 (some Jvm.ClassFile.FieldType.int) : Cond) ∈ gBIG := gIn 1576 rfl rfl
set_option maxRecDepth 20000 in
theorem k_1045 : (.instanceMethod ⟨"BuildGridModel", "freshenNow", "()V"⟩ : Cond) ∈ gBIG := gIn 1579 rfl rfl
set_option maxRecDepth 20000 in
theorem k_1046 : (.code ⟨"BuildGridModel", "freshenNow", "()V"⟩ prog_14_method_22_code 2 (none : Option FieldType) : Cond) ∈ gBIG := gIn 1580 rfl rfl
set_option maxRecDepth 20000 in
theorem k_1047 : (.instanceMethod ⟨"BuildGridModel", "freshen", "()V"⟩ : Cond) ∈ gBIG := gIn 1583 rfl rfl
set_option maxRecDepth 20000 in
theorem k_1048 : (.code ⟨"BuildGridModel", "freshen", "()V"⟩ prog_14_method_21_code 6 (none : Option FieldType) : Cond) ∈ gBIG := gIn 1584 rfl rfl
set_option maxRecDepth 20000 in
theorem k_1049 : (.instanceMethod ⟨"BuildGridModel", "isSound", "(IZ)Z"⟩ : Cond) ∈ gBIG := gIn 1587 rfl rfl
set_option maxRecDepth 20000 in
theorem k_1050 : (.code ⟨"BuildGridModel", "isSound", "(IZ)Z"⟩ prog_14_method_53_code 7 (some Jvm.ClassFile.FieldType.boolean) : Cond) ∈ gBIG := gIn 1588 rfl rfl
set_option maxRecDepth 20000 in
theorem k_1051 : (.instanceMethod ⟨"BuildGridModel", "isDone", "(I)Z"⟩ : Cond) ∈ gBIG := gIn 1591 rfl rfl
set_option maxRecDepth 20000 in
theorem k_1052 : (.code ⟨"BuildGridModel", "isDone", "(I)Z"⟩ prog_14_method_52_code 4 (some Jvm.ClassFile.FieldType.boolean) : Cond) ∈ gBIG := gIn 1592 rfl rfl
set_option maxRecDepth 20000 in
theorem k_1053 : (.instanceMethod ⟨"BuildGridModel", "isStale", "(I)Z"⟩ : Cond) ∈ gBIG := gIn 1595 rfl rfl
set_option maxRecDepth 20000 in
theorem k_1054 : (.code ⟨"BuildGridModel", "isStale", "(I)Z"⟩ prog_14_method_54_code 4 (some Jvm.ClassFile.FieldType.boolean) : Cond) ∈ gBIG := gIn 1596 rfl rfl
set_option maxRecDepth 20000 in
theorem k_1055 : (.instanceMethod ⟨"BuildGridModel", "proof", "(I)I"⟩ : Cond) ∈ gBIG := gIn 1598 rfl rfl
set_option maxRecDepth 20000 in
theorem k_1056 : (.selects "BuildGridModel" ⟨"BuildGridModel", "proof", "(I)I"⟩ ⟨"BuildGridModel", "proof", "(I)I"⟩ : Cond) ∈ gBIG := gIn 1599 rfl rfl
set_option maxRecDepth 20000 in
theorem k_1057 : (.code ⟨"BuildGridModel", "proof", "(I)I"⟩ prog_14_method_56_code 7 (some Jvm.ClassFile.FieldType.int) : Cond) ∈ gBIG := gIn 1600 rfl rfl
set_option maxRecDepth 20000 in
theorem k_1058 : (.instanceMethod ⟨"BuildGridModel", "count", "(I)I"⟩ : Cond) ∈ gBIG := gIn 1602 rfl rfl
set_option maxRecDepth 20000 in
theorem k_1059 : (.selects "BuildGridModel" ⟨"BuildGridModel", "count", "(I)I"⟩ ⟨"BuildGridModel", "count", "(I)I"⟩ : Cond) ∈ gBIG := gIn 1603 rfl rfl
set_option maxRecDepth 20000 in
theorem k_1060 : (.code ⟨"BuildGridModel", "count", "(I)I"⟩ prog_14_method_57_code 2 (some Jvm.ClassFile.FieldType.int) : Cond) ∈ gBIG := gIn 1604 rfl rfl
set_option maxRecDepth 20000 in
theorem k_1061 : (.instanceMethod ⟨"BuildGridModel", "needed", "(I)I"⟩ : Cond) ∈ gBIG := gIn 1606 rfl rfl
set_option maxRecDepth 20000 in
theorem k_1062 : (.selects "BuildGridModel" ⟨"BuildGridModel", "needed", "(I)I"⟩ ⟨"BuildGridModel", "needed", "(I)I"⟩ : Cond) ∈ gBIG := gIn 1607 rfl rfl
set_option maxRecDepth 20000 in
theorem k_1063 : (.code ⟨"BuildGridModel", "needed", "(I)I"⟩ prog_14_method_58_code 2 (some Jvm.ClassFile.FieldType.int) : Cond) ∈ gBIG := gIn 1608 rfl rfl
set_option maxRecDepth 20000 in
theorem k_1064 : (.instanceMethod ⟨"BuildGridModel", "needing", "(I)I"⟩ : Cond) ∈ gBIG := gIn 1610 rfl rfl
set_option maxRecDepth 20000 in
theorem k_1065 : (.selects "BuildGridModel" ⟨"BuildGridModel", "needing", "(I)I"⟩ ⟨"BuildGridModel", "needing", "(I)I"⟩ : Cond) ∈ gBIG := gIn 1611 rfl rfl
set_option maxRecDepth 20000 in
theorem k_1066 : (.code ⟨"BuildGridModel", "needing", "(I)I"⟩ prog_14_method_59_code 8 (some Jvm.ClassFile.FieldType.int) : Cond) ∈ gBIG := gIn 1612 rfl rfl
set_option maxRecDepth 20000 in
theorem k_1067 : (.instanceMethod ⟨"BuildGridModel", "steps", "(II)I"⟩ : Cond) ∈ gBIG := gIn 1614 rfl rfl
set_option maxRecDepth 20000 in
theorem k_1068 : (.selects "BuildGridModel" ⟨"BuildGridModel", "steps", "(II)I"⟩ ⟨"BuildGridModel", "steps", "(II)I"⟩ : Cond) ∈ gBIG := gIn 1615 rfl rfl
set_option maxRecDepth 20000 in
theorem k_1069 : (.code ⟨"BuildGridModel", "steps", "(II)I"⟩ prog_14_method_60_code 9 (some Jvm.ClassFile.FieldType.int) : Cond) ∈ gBIG := gIn 1616 rfl rfl
set_option maxRecDepth 20000 in
theorem k_1070 : (.instanceMethod ⟨"BuildGridModel", "changes", "()I"⟩ : Cond) ∈ gBIG := gIn 1618 rfl rfl
set_option maxRecDepth 20000 in
theorem k_1071 : (.selects "BuildGridModel" ⟨"BuildGridModel", "changes", "()I"⟩ ⟨"BuildGridModel", "changes", "()I"⟩ : Cond) ∈ gBIG := gIn 1619 rfl rfl
set_option maxRecDepth 20000 in
theorem k_1072 : (.code ⟨"BuildGridModel", "changes", "()I"⟩ prog_14_method_61_code 1 (some Jvm.ClassFile.FieldType.int) : Cond) ∈ gBIG := gIn 1620 rfl rfl
set_option maxRecDepth 20000 in
theorem k_1073 : (.instanceMethod ⟨"BuildGridModel", "bisect", "(I)I"⟩ : Cond) ∈ gBIG := gIn 1622 rfl rfl
set_option maxRecDepth 20000 in
theorem k_1074 : (.selects "BuildGridModel" ⟨"BuildGridModel", "bisect", "(I)I"⟩ ⟨"BuildGridModel", "bisect", "(I)I"⟩ : Cond) ∈ gBIG := gIn 1623 rfl rfl
set_option maxRecDepth 20000 in
theorem k_1075 : (.code ⟨"BuildGridModel", "bisect", "(I)I"⟩ prog_14_method_63_code 5 (some Jvm.ClassFile.FieldType.int) : Cond) ∈ gBIG := gIn 1624 rfl rfl
set_option maxRecDepth 20000 in
theorem k_1076 : (.instanceMethod ⟨"BuildGridModel", "isGood", "(II)Z"⟩ : Cond) ∈ gBIG := gIn 1627 rfl rfl
set_option maxRecDepth 20000 in
theorem k_1077 : (.code ⟨"BuildGridModel", "isGood", "(II)Z"⟩ prog_14_method_62_code 4 (some Jvm.ClassFile.FieldType.boolean) : Cond) ∈ gBIG := gIn 1628 rfl rfl
set_option maxRecDepth 20000 in
theorem k_1078 : (.instanceMethod ⟨"BuildGridModel", "looks", "()I"⟩ : Cond) ∈ gBIG := gIn 1630 rfl rfl
set_option maxRecDepth 20000 in
theorem k_1079 : (.selects "BuildGridModel" ⟨"BuildGridModel", "looks", "()I"⟩ ⟨"BuildGridModel", "looks", "()I"⟩ : Cond) ∈ gBIG := gIn 1631 rfl rfl
set_option maxRecDepth 20000 in
theorem k_1080 : (.code ⟨"BuildGridModel", "looks", "()I"⟩ prog_14_method_64_code 1 (some Jvm.ClassFile.FieldType.int) : Cond) ∈ gBIG := gIn 1632 rfl rfl
set_option maxRecDepth 20000 in
theorem k_1081 : (.selects "java/lang/Throwable" ⟨"java/lang/Throwable", "fillInStackTrace", "(I)Ljava/lang/Throwable;"⟩ ⟨"java/lang/Throwable", "fillInStackTrace", "(I)Ljava/lang/Throwable;"⟩ : Cond) ∈ gBIG := gIn 0 rfl rfl
set_option maxRecDepth 20000 in
theorem k_1082 : (.selects "BuildGrid$Sources" ⟨"BuildGrid$Sources", "keepChange", "(II)V"⟩ ⟨"BuildGrid$Sources", "keepChange", "(II)V"⟩ : Cond) ∈ gBIG := gIn 1 rfl rfl
set_option maxRecDepth 20000 in
theorem k_1083 : (.selects "BuildGrid$Sources" ⟨"BuildGrid$Sources", "forgetFirstChange", "()V"⟩ ⟨"BuildGrid$Sources", "forgetFirstChange", "()V"⟩ : Cond) ∈ gBIG := gIn 2 rfl rfl
set_option maxRecDepth 20000 in
theorem k_1084 : (.selects "BuildGrid" ⟨"BuildGrid", "checkThing", "(I)V"⟩ ⟨"BuildGrid", "checkThing", "(I)V"⟩ : Cond) ∈ gBIG := gIn 3 rfl rfl
set_option maxRecDepth 20000 in
theorem k_1085 : (.selects "BuildGrid" ⟨"BuildGrid", "checkTarget", "(I)V"⟩ ⟨"BuildGrid", "checkTarget", "(I)V"⟩ : Cond) ∈ gBIG := gIn 4 rfl rfl
set_option maxRecDepth 20000 in
theorem k_1086 : (.selects "BuildGrid$Course" ⟨"BuildGrid$Course", "isAnyAt", "(LBuildGrid$Action;)Z"⟩ ⟨"BuildGrid$Course", "isAnyAt", "(LBuildGrid$Action;)Z"⟩ : Cond) ∈ gBIG := gIn 5 rfl rfl
set_option maxRecDepth 20000 in
theorem k_1087 : (.selects "BuildGrid$Course" ⟨"BuildGrid$Course", "tally", "(I)V"⟩ ⟨"BuildGrid$Course", "tally", "(I)V"⟩ : Cond) ∈ gBIG := gIn 6 rfl rfl
set_option maxRecDepth 20000 in
theorem k_1088 : (.selects "BuildGrid$Entry" ⟨"BuildGrid$Entry", "rightSignature", "()I"⟩ ⟨"BuildGrid$Entry", "rightSignature", "()I"⟩ : Cond) ∈ gBIG := gIn 7 rfl rfl
set_option maxRecDepth 20000 in
theorem k_1089 : (.selects "BuildGrid$Course" ⟨"BuildGrid$Course", "settle", "()V"⟩ ⟨"BuildGrid$Course", "settle", "()V"⟩ : Cond) ∈ gBIG := gIn 8 rfl rfl
set_option maxRecDepth 20000 in
theorem k_1090 : (.selects "BuildGrid$Course" ⟨"BuildGrid$Course", "leaveOpen", "(LBuildGrid$Target;LBuildGrid$Action;)V"⟩ ⟨"BuildGrid$Course", "leaveOpen", "(LBuildGrid$Target;LBuildGrid$Action;)V"⟩ : Cond) ∈ gBIG := gIn 9 rfl rfl
set_option maxRecDepth 20000 in
theorem k_1091 : (.selects "BuildGrid$Course" ⟨"BuildGrid$Course", "finish", "(LBuildGrid$Target;LBuildGrid$Action;II)V"⟩ ⟨"BuildGrid$Course", "finish", "(LBuildGrid$Target;LBuildGrid$Action;II)V"⟩ : Cond) ∈ gBIG := gIn 10 rfl rfl
set_option maxRecDepth 20000 in
theorem k_1092 : (.selects "BuildGrid$Course" ⟨"BuildGrid$Course", "beginReady", "()V"⟩ ⟨"BuildGrid$Course", "beginReady", "()V"⟩ : Cond) ∈ gBIG := gIn 11 rfl rfl
set_option maxRecDepth 20000 in
theorem k_1093 : (.selects "BuildGrid$Graph" ⟨"BuildGrid$Graph", "spreadWay", "(LBuildGrid$Target;)V"⟩ ⟨"BuildGrid$Graph", "spreadWay", "(LBuildGrid$Target;)V"⟩ : Cond) ∈ gBIG := gIn 12 rfl rfl
set_option maxRecDepth 20000 in
theorem k_1094 : (.selects "BuildGrid$Course" ⟨"BuildGrid$Course", "strongestIdle", "()LBuildGrid$Worker;"⟩ ⟨"BuildGrid$Course", "strongestIdle", "()LBuildGrid$Worker;"⟩ : Cond) ∈ gBIG := gIn 13 rfl rfl
set_option maxRecDepth 20000 in
theorem k_1095 : (.selects "BuildGrid$Course" ⟨"BuildGrid$Course", "longestReady", "()LBuildGrid$Action;"⟩ ⟨"BuildGrid$Course", "longestReady", "()LBuildGrid$Action;"⟩ : Cond) ∈ gBIG := gIn 14 rfl rfl
set_option maxRecDepth 20000 in
theorem k_1096 : (.selects "BuildGrid$Course" ⟨"BuildGrid$Course", "start", "(LBuildGrid$Worker;LBuildGrid$Action;)V"⟩ ⟨"BuildGrid$Course", "start", "(LBuildGrid$Worker;LBuildGrid$Action;)V"⟩ : Cond) ∈ gBIG := gIn 15 rfl rfl
set_option maxRecDepth 20000 in
theorem k_1097 : (.selects "BuildGrid$Worker" ⟨"BuildGrid$Worker", "ticksFor", "(LBuildGrid$Target;)I"⟩ ⟨"BuildGrid$Worker", "ticksFor", "(LBuildGrid$Target;)I"⟩ : Cond) ∈ gBIG := gIn 16 rfl rfl
set_option maxRecDepth 20000 in
theorem k_1098 : (.selects "BuildGrid$Course" ⟨"BuildGrid$Course", "speculate", "()V"⟩ ⟨"BuildGrid$Course", "speculate", "()V"⟩ : Cond) ∈ gBIG := gIn 17 rfl rfl
set_option maxRecDepth 20000 in
theorem k_1099 : (.selects "BuildGrid$Course" ⟨"BuildGrid$Course", "longestBusy", "()LBuildGrid$Worker;"⟩ ⟨"BuildGrid$Course", "longestBusy", "()LBuildGrid$Worker;"⟩ : Cond) ∈ gBIG := gIn 18 rfl rfl
set_option maxRecDepth 20000 in
theorem k_1100 : (.selects "BuildGrid$Course" ⟨"BuildGrid$Course", "end", "(LBuildGrid$Worker;)V"⟩ ⟨"BuildGrid$Course", "end", "(LBuildGrid$Worker;)V"⟩ : Cond) ∈ gBIG := gIn 19 rfl rfl
set_option maxRecDepth 20000 in
theorem k_1101 : (.selects "BuildGrid$Course" ⟨"BuildGrid$Course", "dismissFrom", "(LBuildGrid$Action;)V"⟩ ⟨"BuildGrid$Course", "dismissFrom", "(LBuildGrid$Action;)V"⟩ : Cond) ∈ gBIG := gIn 20 rfl rfl
set_option maxRecDepth 20000 in
theorem k_1102 : (.selects "BuildGrid$Course" ⟨"BuildGrid$Course", "judge", "(LBuildGrid$Target;LBuildGrid$Action;LBuildGrid$Worker;)V"⟩ ⟨"BuildGrid$Course", "judge", "(LBuildGrid$Target;LBuildGrid$Action;LBuildGrid$Worker;)V"⟩ : Cond) ∈ gBIG := gIn 21 rfl rfl
set_option maxRecDepth 20000 in
theorem k_1103 : (.selects "BuildGrid$Cache" ⟨"BuildGrid$Cache", "hasAlike", "(IIIII)Z"⟩ ⟨"BuildGrid$Cache", "hasAlike", "(IIIII)Z"⟩ : Cond) ∈ gBIG := gIn 22 rfl rfl
set_option maxRecDepth 20000 in
theorem k_1104 : (.selects "BuildGrid" ⟨"BuildGrid", "checkedAction", "(II)LBuildGrid$Action;"⟩ ⟨"BuildGrid", "checkedAction", "(II)LBuildGrid$Action;"⟩ : Cond) ∈ gBIG := gIn 23 rfl rfl
set_option maxRecDepth 20000 in
theorem k_1105 : (.selects "BuildGrid$Fresh" ⟨"BuildGrid$Fresh", "make", "(I)V"⟩ ⟨"BuildGrid$Fresh", "make", "(I)V"⟩ : Cond) ∈ gBIG := gIn 24 rfl rfl
set_option maxRecDepth 20000 in
theorem k_1106 : (.selects "BuildGrid$Fresh" ⟨"BuildGrid$Fresh", "makeTarget", "(LBuildGrid$Target;)V"⟩ ⟨"BuildGrid$Fresh", "makeTarget", "(LBuildGrid$Target;)V"⟩ : Cond) ∈ gBIG := gIn 25 rfl rfl
set_option maxRecDepth 20000 in
theorem k_1107 : (.selects "BuildGrid$Graph" ⟨"BuildGrid$Graph", "proofOverInputs", "(LBuildGrid$Target;)I"⟩ ⟨"BuildGrid$Graph", "proofOverInputs", "(LBuildGrid$Target;)I"⟩ : Cond) ∈ gBIG := gIn 26 rfl rfl
set_option maxRecDepth 20000 in
theorem k_1108 : (.selects "BuildGrid$Graph" ⟨"BuildGrid$Graph", "hasInput", "(LBuildGrid$Target;I)Z"⟩ ⟨"BuildGrid$Graph", "hasInput", "(LBuildGrid$Target;I)Z"⟩ : Cond) ∈ gBIG := gIn 27 rfl rfl
set_option maxRecDepth 20000 in
theorem k_1109 : (.selects "BuildGrid$Graph" ⟨"BuildGrid$Graph", "spreadDistance", "(LBuildGrid$Target;)V"⟩ ⟨"BuildGrid$Graph", "spreadDistance", "(LBuildGrid$Target;)V"⟩ : Cond) ∈ gBIG := gIn 28 rfl rfl
set_option maxRecDepth 20000 in
theorem k_1110 : (.selects "BuildGrid" ⟨"BuildGrid", "isGoodAfter", "(II)Z"⟩ ⟨"BuildGrid", "isGoodAfter", "(II)Z"⟩ : Cond) ∈ gBIG := gIn 29 rfl rfl
set_option maxRecDepth 20000 in
theorem k_1111 : (.selects "BuildGridModel" ⟨"BuildGridModel", "asked", "(Z)Z"⟩ ⟨"BuildGridModel", "asked", "(Z)Z"⟩ : Cond) ∈ gBIG := gIn 30 rfl rfl
set_option maxRecDepth 20000 in
theorem k_1112 : (.selects "BuildGridModel" ⟨"BuildGridModel", "asked", "(ZZ)Z"⟩ ⟨"BuildGridModel", "asked", "(ZZ)Z"⟩ : Cond) ∈ gBIG := gIn 31 rfl rfl
set_option maxRecDepth 20000 in
theorem k_1113 : (.selects "BuildGridModel" ⟨"BuildGridModel", "isInput", "(I)Z"⟩ ⟨"BuildGridModel", "isInput", "(I)Z"⟩ : Cond) ∈ gBIG := gIn 32 rfl rfl
set_option maxRecDepth 20000 in
theorem k_1114 : (.selects "BuildGridModel" ⟨"BuildGridModel", "isTarget", "(I)Z"⟩ ⟨"BuildGridModel", "isTarget", "(I)Z"⟩ : Cond) ∈ gBIG := gIn 33 rfl rfl
set_option maxRecDepth 20000 in
theorem k_1115 : (.selects "BuildGridModel" ⟨"BuildGridModel", "lay", "(II)V"⟩ ⟨"BuildGridModel", "lay", "(II)V"⟩ : Cond) ∈ gBIG := gIn 34 rfl rfl
set_option maxRecDepth 20000 in
theorem k_1116 : (.selects "BuildGridModel" ⟨"BuildGridModel", "isSigned", "(I)Z"⟩ ⟨"BuildGridModel", "isSigned", "(I)Z"⟩ : Cond) ∈ gBIG := gIn 35 rfl rfl
set_option maxRecDepth 20000 in
theorem k_1117 : (.selects "BuildGridModel" ⟨"BuildGridModel", "signature", "(III)I"⟩ ⟨"BuildGridModel", "signature", "(III)I"⟩ : Cond) ∈ gBIG := gIn 36 rfl rfl
set_option maxRecDepth 20000 in
theorem k_1118 : (.selects "BuildGridModel" ⟨"BuildGridModel", "workerAt", "(I)I"⟩ ⟨"BuildGridModel", "workerAt", "(I)I"⟩ : Cond) ∈ gBIG := gIn 37 rfl rfl
set_option maxRecDepth 20000 in
theorem k_1119 : (.selects "BuildGridModel" ⟨"BuildGridModel", "neededBy", "(I)I"⟩ ⟨"BuildGridModel", "neededBy", "(I)I"⟩ : Cond) ∈ gBIG := gIn 38 rfl rfl
set_option maxRecDepth 20000 in
theorem k_1120 : (.selects "BuildGridModel" ⟨"BuildGridModel", "inputOf", "(II)I"⟩ ⟨"BuildGridModel", "inputOf", "(II)I"⟩ : Cond) ∈ gBIG := gIn 39 rfl rfl
set_option maxRecDepth 20000 in
theorem k_1121 : (.selects "BuildGridModel" ⟨"BuildGridModel", "isNeeded", "(I)Z"⟩ ⟨"BuildGridModel", "isNeeded", "(I)Z"⟩ : Cond) ∈ gBIG := gIn 40 rfl rfl
set_option maxRecDepth 20000 in
theorem k_1122 : (.selects "BuildGridModel" ⟨"BuildGridModel", "opens", "()V"⟩ ⟨"BuildGridModel", "opens", "()V"⟩ : Cond) ∈ gBIG := gIn 41 rfl rfl
set_option maxRecDepth 20000 in
theorem k_1123 : (.selects "BuildGridModel" ⟨"BuildGridModel", "opensOne", "(II)V"⟩ ⟨"BuildGridModel", "opensOne", "(II)V"⟩ : Cond) ∈ gBIG := gIn 42 rfl rfl
set_option maxRecDepth 20000 in
theorem k_1124 : (.selects "BuildGridModel" ⟨"BuildGridModel", "hit", "(I)I"⟩ ⟨"BuildGridModel", "hit", "(I)I"⟩ : Cond) ∈ gBIG := gIn 43 rfl rfl
set_option maxRecDepth 20000 in
theorem k_1125 : (.selects "BuildGridModel" ⟨"BuildGridModel", "keyOf", "(I)I"⟩ ⟨"BuildGridModel", "keyOf", "(I)I"⟩ : Cond) ∈ gBIG := gIn 44 rfl rfl
set_option maxRecDepth 20000 in
theorem k_1126 : (.selects "BuildGridModel" ⟨"BuildGridModel", "keyBegin", "(II)I"⟩ ⟨"BuildGridModel", "keyBegin", "(II)I"⟩ : Cond) ∈ gBIG := gIn 45 rfl rfl
set_option maxRecDepth 20000 in
theorem k_1127 : (.selects "BuildGridModel" ⟨"BuildGridModel", "digestOf", "(I)I"⟩ ⟨"BuildGridModel", "digestOf", "(I)I"⟩ : Cond) ∈ gBIG := gIn 46 rfl rfl
set_option maxRecDepth 20000 in
theorem k_1128 : (.selects "BuildGridModel" ⟨"BuildGridModel", "foundBy", "(II)I"⟩ ⟨"BuildGridModel", "foundBy", "(II)I"⟩ : Cond) ∈ gBIG := gIn 47 rfl rfl
set_option maxRecDepth 20000 in
theorem k_1129 : (.selects "BuildGridModel" ⟨"BuildGridModel", "breaks", "(II)Z"⟩ ⟨"BuildGridModel", "breaks", "(II)Z"⟩ : Cond) ∈ gBIG := gIn 48 rfl rfl
set_option maxRecDepth 20000 in
theorem k_1130 : (.selects "BuildGridModel" ⟨"BuildGridModel", "builds", "()V"⟩ ⟨"BuildGridModel", "builds", "()V"⟩ : Cond) ∈ gBIG := gIn 49 rfl rfl
set_option maxRecDepth 20000 in
theorem k_1131 : (.selects "BuildGridModel" ⟨"BuildGridModel", "next", "()I"⟩ ⟨"BuildGridModel", "next", "()I"⟩ : Cond) ∈ gBIG := gIn 50 rfl rfl
set_option maxRecDepth 20000 in
theorem k_1132 : (.selects "BuildGridModel" ⟨"BuildGridModel", "wayOf", "(I)I"⟩ ⟨"BuildGridModel", "wayOf", "(I)I"⟩ : Cond) ∈ gBIG := gIn 51 rfl rfl
set_option maxRecDepth 20000 in
theorem k_1133 : (.selects "BuildGridModel" ⟨"BuildGridModel", "hasInput", "(II)Z"⟩ ⟨"BuildGridModel", "hasInput", "(II)Z"⟩ : Cond) ∈ gBIG := gIn 52 rfl rfl
set_option maxRecDepth 20000 in
theorem k_1134 : (.selects "BuildGridModel" ⟨"BuildGridModel", "idle", "()I"⟩ ⟨"BuildGridModel", "idle", "()I"⟩ : Cond) ∈ gBIG := gIn 53 rfl rfl
set_option maxRecDepth 20000 in
theorem k_1135 : (.selects "BuildGridModel" ⟨"BuildGridModel", "begins", "(II)V"⟩ ⟨"BuildGridModel", "begins", "(II)V"⟩ : Cond) ∈ gBIG := gIn 54 rfl rfl
set_option maxRecDepth 20000 in
theorem k_1136 : (.selects "BuildGridModel" ⟨"BuildGridModel", "ticksOf", "(II)I"⟩ ⟨"BuildGridModel", "ticksOf", "(II)I"⟩ : Cond) ∈ gBIG := gIn 55 rfl rfl
set_option maxRecDepth 20000 in
theorem k_1137 : (.selects "BuildGridModel" ⟨"BuildGridModel", "ends", "(I)V"⟩ ⟨"BuildGridModel", "ends", "(I)V"⟩ : Cond) ∈ gBIG := gIn 56 rfl rfl
set_option maxRecDepth 20000 in
theorem k_1138 : (.selects "BuildGridModel" ⟨"BuildGridModel", "keep", "(IIIII)V"⟩ ⟨"BuildGridModel", "keep", "(IIIII)V"⟩ : Cond) ∈ gBIG := gIn 57 rfl rfl
set_option maxRecDepth 20000 in
theorem k_1139 : (.selects "BuildGridModel" ⟨"BuildGridModel", "freshenNow", "()V"⟩ ⟨"BuildGridModel", "freshenNow", "()V"⟩ : Cond) ∈ gBIG := gIn 58 rfl rfl
set_option maxRecDepth 20000 in
theorem k_1140 : (.selects "BuildGridModel" ⟨"BuildGridModel", "freshen", "()V"⟩ ⟨"BuildGridModel", "freshen", "()V"⟩ : Cond) ∈ gBIG := gIn 59 rfl rfl
set_option maxRecDepth 20000 in
theorem k_1141 : (.selects "BuildGridModel" ⟨"BuildGridModel", "isSound", "(IZ)Z"⟩ ⟨"BuildGridModel", "isSound", "(IZ)Z"⟩ : Cond) ∈ gBIG := gIn 60 rfl rfl
set_option maxRecDepth 20000 in
theorem k_1142 : (.selects "BuildGridModel" ⟨"BuildGridModel", "isDone", "(I)Z"⟩ ⟨"BuildGridModel", "isDone", "(I)Z"⟩ : Cond) ∈ gBIG := gIn 61 rfl rfl
set_option maxRecDepth 20000 in
theorem k_1143 : (.selects "BuildGridModel" ⟨"BuildGridModel", "isStale", "(I)Z"⟩ ⟨"BuildGridModel", "isStale", "(I)Z"⟩ : Cond) ∈ gBIG := gIn 62 rfl rfl
set_option maxRecDepth 20000 in
theorem k_1144 : (.selects "BuildGridModel" ⟨"BuildGridModel", "isGood", "(II)Z"⟩ ⟨"BuildGridModel", "isGood", "(II)Z"⟩ : Cond) ∈ gBIG := gIn 63 rfl rfl
theorem cX0 : gCO 0 RX0 TX0 8 tyX0 := ⟨rfl, (by decide +kernel : ∀ w ∈ u_ws RX0 TX0 8, w ∈ gBIG), tyX0_ok, nmX0⟩
theorem cX1 : gCO 1 RX1 TX1 3 tyX1 := ⟨rfl, (by decide +kernel : ∀ w ∈ u_ws RX1 TX1 3, w ∈ gBIG), tyX1_ok, nmX1⟩
theorem cX2 : gCO 2 RX2 TX2 11 tyX2 := ⟨rfl, (by decide +kernel : ∀ w ∈ u_ws RX2 TX2 11, w ∈ gBIG), tyX2_ok, nmX2⟩
theorem cX3 : gCO 3 RX3 TX3 7 tyX3 := ⟨rfl, (by decide +kernel : ∀ w ∈ u_ws RX3 TX3 7, w ∈ gBIG), tyX3_ok, nmX3⟩
theorem cX4 : gCO 4 RX4 TX4 4 tyX4 := ⟨rfl, (by decide +kernel : ∀ w ∈ u_ws RX4 TX4 4, w ∈ gBIG), tyX4_ok, nmX4⟩
theorem cX5 : gCO 5 RX5 TX5 6 tyX5 := ⟨rfl, (by decide +kernel : ∀ w ∈ u_ws RX5 TX5 6, w ∈ gBIG), tyX5_ok, nmX5⟩
theorem cX6 : gCO 6 RX6 TX6 6 tyX6 := ⟨rfl, (by decide +kernel : ∀ w ∈ u_ws RX6 TX6 6, w ∈ gBIG), tyX6_ok, nmX6⟩
theorem cX7 : gCO 7 RX7 TX7 6 tyX7 := ⟨rfl, (by decide +kernel : ∀ w ∈ u_ws RX7 TX7 6, w ∈ gBIG), tyX7_ok, nmX7⟩
theorem cX8 : gCO 8 RX8 TX8 13 tyX8 := ⟨rfl, (by decide +kernel : ∀ w ∈ u_ws RX8 TX8 13, w ∈ gBIG), tyX8_ok, nmX8⟩
theorem cX9 : gCO 9 RX9 TX9 3 tyX9 := ⟨rfl, (by decide +kernel : ∀ w ∈ u_ws RX9 TX9 3, w ∈ gBIG), tyX9_ok, nmX9⟩
theorem cX10 : gCO 10 RX10 TX10 8 tyX10 := ⟨rfl, (by decide +kernel : ∀ w ∈ u_ws RX10 TX10 8, w ∈ gBIG), tyX10_ok, nmX10⟩
theorem cX11 : gCO 11 RX11 TX11 7 tyX11 := ⟨rfl, (by decide +kernel : ∀ w ∈ u_ws RX11 TX11 7, w ∈ gBIG), tyX11_ok, nmX11⟩
theorem cX12 : gCO 12 RX12 TX12 56 tyX12 := ⟨rfl, (by decide +kernel : ∀ w ∈ u_ws RX12 TX12 56, w ∈ gBIG), tyX12_ok, nmX12⟩
theorem calX0_init : gCal yX0_init cX0_init 3 none 2 RX0 := ⟨k_558, k_532, rfl, ⟨by decide, by decide⟩, by decide +kernel⟩
theorem calX0_open : gCal yX0_open cX0_open 1 none 0 RX0 := ⟨k_720, k_532, rfl, ⟨by decide, by decide⟩, by decide +kernel⟩
theorem calX0_finish : gCal yX0_finish cX0_finish 3 none 2 RX0 := ⟨k_753, k_532, rfl, ⟨by decide, by decide⟩, by decide +kernel⟩
theorem calX0_isUnfinished : gCal yX0_isUnfinished cX0_isUnfinished 1 (some .boolean) 0 RX0 := ⟨k_730, k_532, rfl, ⟨by decide, by decide⟩, by decide +kernel⟩
theorem calX0_isSound : gCal yX0_isSound cX0_isSound 1 (some .boolean) 0 RX0 := ⟨k_859, k_532, rfl, ⟨by decide, by decide⟩, by decide +kernel⟩
theorem calX1_init : gCal yX1_init cX1_init 2 none 0 RX1 := ⟨k_560, k_533, rfl, ⟨by decide, by decide⟩, by decide +kernel⟩
theorem calX1_entryAt : gCal yX1_entryAt cX1_entryAt 2 (some (.object "BuildGrid$Entry")) 1 RX1 := ⟨k_673, k_533, rfl, ⟨by decide, by decide⟩, by decide +kernel⟩
theorem calX1_keep : gCal yX1_keep cX1_keep 7 none 5 RX1 := ⟨k_831, k_533, rfl, ⟨by decide, by decide⟩, by decide +kernel⟩
theorem calX1_hasAlike : gCal yX1_hasAlike cX1_hasAlike 8 (some .boolean) 5 RX1 := ⟨k_833, k_533, rfl, ⟨by decide, by decide⟩, by decide +kernel⟩
theorem calX1_firstFit : gCal yX1_firstFit cX1_firstFit 7 (some (.object "BuildGrid$Entry")) 4 RX1 := ⟨k_745, k_533, rfl, ⟨by decide, by decide⟩, by decide +kernel⟩
theorem calX2_init : gCal yX2_init cX2_init 5 none 3 RX2 := ⟨k_566, k_535, rfl, ⟨by decide, by decide⟩, by decide +kernel⟩
theorem calX2_tally : gCal yX2_tally cX2_tally 2 none 1 RX2 := ⟨k_666, k_535, rfl, ⟨by decide, by decide⟩, by decide +kernel⟩
theorem calX2_begin : gCal yX2_begin cX2_begin 6 (some .int) 1 RX2 := ⟨k_700, k_535, rfl, ⟨by decide, by decide⟩, by decide +kernel⟩
theorem calX2_wayOf : gCal yX2_wayOf cX2_wayOf 2 (some .int) 1 RX2 := ⟨k_881, k_535, rfl, ⟨by decide, by decide⟩, by decide +kernel⟩
theorem calX2_workerAt : gCal yX2_workerAt cX2_workerAt 2 (some (.object "BuildGrid$Worker")) 1 RX2 := ⟨k_656, k_535, rfl, ⟨by decide, by decide⟩, by decide +kernel⟩
theorem calX2_changePower : gCal yX2_changePower cX2_changePower 4 none 2 RX2 := ⟨k_659, k_535, rfl, ⟨by decide, by decide⟩, by decide +kernel⟩
theorem calX2_isAnyAt : gCal yX2_isAnyAt cX2_isAnyAt 6 (some .boolean) 1 RX2 := ⟨k_664, k_535, rfl, ⟨by decide, by decide⟩, by decide +kernel⟩
theorem calX2_dismissFrom : gCal yX2_dismissFrom cX2_dismissFrom 6 none 1 RX2 := ⟨k_806, k_535, rfl, ⟨by decide, by decide⟩, by decide +kernel⟩
theorem calX2_strongestIdle : gCal yX2_strongestIdle cX2_strongestIdle 6 (some (.object "BuildGrid$Worker")) 0 RX2 := ⟨k_774, k_535, rfl, ⟨by decide, by decide⟩, by decide +kernel⟩
theorem calX2_longestBusy : gCal yX2_longestBusy cX2_longestBusy 6 (some (.object "BuildGrid$Worker")) 0 RX2 := ⟨k_796, k_535, rfl, ⟨by decide, by decide⟩, by decide +kernel⟩
theorem calX2_passTick : gCal yX2_passTick cX2_passTick 6 none 0 RX2 := ⟨k_763, k_535, rfl, ⟨by decide, by decide⟩, by decide +kernel⟩
theorem calX2_beginReady : gCal yX2_beginReady cX2_beginReady 4 none 0 RX2 := ⟨k_765, k_535, rfl, ⟨by decide, by decide⟩, by decide +kernel⟩
theorem calX2_longestReady : gCal yX2_longestReady cX2_longestReady 6 (some (.object "BuildGrid$Action")) 0 RX2 := ⟨k_779, k_535, rfl, ⟨by decide, by decide⟩, by decide +kernel⟩
theorem calX2_start : gCal yX2_start cX2_start 5 none 2 RX2 := ⟨k_784, k_535, rfl, ⟨by decide, by decide⟩, by decide +kernel⟩
theorem calX2_speculate : gCal yX2_speculate cX2_speculate 2 none 0 RX2 := ⟨k_794, k_535, rfl, ⟨by decide, by decide⟩, by decide +kernel⟩
theorem calX2_end : gCal yX2_end cX2_end 5 none 1 RX2 := ⟨k_804, k_535, rfl, ⟨by decide, by decide⟩, by decide +kernel⟩
theorem calX2_judge : gCal yX2_judge cX2_judge 7 none 3 RX2 := ⟨k_811, k_535, rfl, ⟨by decide, by decide⟩, by decide +kernel⟩
theorem calX2_finish : gCal yX2_finish cX2_finish 5 none 4 RX2 := ⟨k_750, k_535, rfl, ⟨by decide, by decide⟩, by decide +kernel⟩
theorem calX2_settle : gCal yX2_settle cX2_settle 7 none 0 RX2 := ⟨k_722, k_535, rfl, ⟨by decide, by decide⟩, by decide +kernel⟩
theorem calX2_leaveOpen : gCal yX2_leaveOpen cX2_leaveOpen 7 none 2 RX2 := ⟨k_724, k_535, rfl, ⟨by decide, by decide⟩, by decide +kernel⟩
theorem calX3_init : gCal yX3_init cX3_init 1 none 0 RX3 := ⟨k_562, k_534, rfl, ⟨by decide, by decide⟩, by decide +kernel⟩
theorem calX3_fill : gCal yX3_fill cX3_fill 6 none 5 RX3 := ⟨k_836, k_534, rfl, ⟨by decide, by decide⟩, by decide +kernel⟩
theorem calX3_rightSignature : gCal yX3_rightSignature cX3_rightSignature 1 (some .int) 0 RX3 := ⟨k_683, k_534, rfl, ⟨by decide, by decide⟩, by decide +kernel⟩
theorem calX3_isRightlySigned : gCal yX3_isRightlySigned cX3_isRightlySigned 1 (some .boolean) 0 RX3 := ⟨k_681, k_534, rfl, ⟨by decide, by decide⟩, by decide +kernel⟩
theorem calX3_isOf : gCal yX3_isOf cX3_isOf 4 (some .boolean) 3 RX3 := ⟨k_748, k_534, rfl, ⟨by decide, by decide⟩, by decide +kernel⟩
theorem calX3_tell : gCal yX3_tell cX3_tell 2 (some .int) 1 RX3 := ⟨k_678, k_534, rfl, ⟨by decide, by decide⟩, by decide +kernel⟩
theorem calX4_init : gCal yX4_init cX4_init 3 none 2 RX4 := ⟨k_570, k_538, rfl, ⟨by decide, by decide⟩, by decide +kernel⟩
theorem calX4_goodTargets : gCal yX4_goodTargets cX4_goodTargets 2 (some .int) 1 RX4 := ⟨k_875, k_538, rfl, ⟨by decide, by decide⟩, by decide +kernel⟩
theorem calX4_digestOf : gCal yX4_digestOf cX4_digestOf 2 (some .int) 1 RX4 := ⟨k_878, k_538, rfl, ⟨by decide, by decide⟩, by decide +kernel⟩
theorem calX4_isStale : gCal yX4_isStale cX4_isStale 4 (some .boolean) 1 RX4 := ⟨k_862, k_538, rfl, ⟨by decide, by decide⟩, by decide +kernel⟩
theorem calX4_make : gCal yX4_make cX4_make 3 none 1 RX4 := ⟨k_867, k_538, rfl, ⟨by decide, by decide⟩, by decide +kernel⟩
theorem calX4_makeTarget : gCal yX4_makeTarget cX4_makeTarget 7 none 1 RX4 := ⟨k_872, k_538, rfl, ⟨by decide, by decide⟩, by decide +kernel⟩
theorem calX5_init : gCal yX5_init cX5_init 3 none 1 RX5 := ⟨k_552, k_529, rfl, ⟨by decide, by decide⟩, by decide +kernel⟩
theorem calX5_tellNext : gCal yX5_tellNext cX5_tellNext 1 (some (.object "BuildGrid$Target")) 0 RX5 := ⟨k_636, k_529, rfl, ⟨by decide, by decide⟩, by decide +kernel⟩
theorem calX5_targetAt : gCal yX5_targetAt cX5_targetAt 2 (some (.object "BuildGrid$Target")) 1 RX5 := ⟨k_639, k_529, rfl, ⟨by decide, by decide⟩, by decide +kernel⟩
theorem calX5_withNeeded : gCal yX5_withNeeded cX5_withNeeded 4 (some .int) 1 RX5 := ⟨k_703, k_529, rfl, ⟨by decide, by decide⟩, by decide +kernel⟩
theorem calX5_inputTargets : gCal yX5_inputTargets cX5_inputTargets 5 (some .int) 1 RX5 := ⟨k_708, k_529, rfl, ⟨by decide, by decide⟩, by decide +kernel⟩
theorem calX5_targetsOver : gCal yX5_targetsOver cX5_targetsOver 5 (some .int) 1 RX5 := ⟨k_908, k_529, rfl, ⟨by decide, by decide⟩, by decide +kernel⟩
theorem calX5_hasInput : gCal yX5_hasInput cX5_hasInput 4 (some .boolean) 2 RX5 := ⟨k_910, k_529, rfl, ⟨by decide, by decide⟩, by decide +kernel⟩
theorem calX5_distance : gCal yX5_distance cX5_distance 4 (some .int) 2 RX5 := ⟨k_917, k_529, rfl, ⟨by decide, by decide⟩, by decide +kernel⟩
theorem calX5_spreadDistance : gCal yX5_spreadDistance cX5_spreadDistance 6 none 1 RX5 := ⟨k_919, k_529, rfl, ⟨by decide, by decide⟩, by decide +kernel⟩
theorem calX5_findWays : gCal yX5_findWays cX5_findWays 4 none 1 RX5 := ⟨k_768, k_529, rfl, ⟨by decide, by decide⟩, by decide +kernel⟩
theorem calX5_spreadWay : gCal yX5_spreadWay cX5_spreadWay 4 none 1 RX5 := ⟨k_770, k_529, rfl, ⟨by decide, by decide⟩, by decide +kernel⟩
theorem calX5_isAllDone : gCal yX5_isAllDone cX5_isAllDone 3 (some .boolean) 1 RX5 := ⟨k_888, k_529, rfl, ⟨by decide, by decide⟩, by decide +kernel⟩
theorem calX5_soundTargets : gCal yX5_soundTargets cX5_soundTargets 4 (some .int) 0 RX5 := ⟨k_853, k_529, rfl, ⟨by decide, by decide⟩, by decide +kernel⟩
theorem calX5_proofOf : gCal yX5_proofOf cX5_proofOf 3 (some .int) 1 RX5 := ⟨k_891, k_529, rfl, ⟨by decide, by decide⟩, by decide +kernel⟩
theorem calX5_proofOverInputs : gCal yX5_proofOverInputs cX5_proofOverInputs 5 (some .int) 1 RX5 := ⟨k_893, k_529, rfl, ⟨by decide, by decide⟩, by decide +kernel⟩
theorem calX5_stateOfInputs : gCal yX5_stateOfInputs cX5_stateOfInputs 9 (some .int) 1 RX5 := ⟨k_727, k_529, rfl, ⟨by decide, by decide⟩, by decide +kernel⟩
theorem calX6_init : gCal yX6_init cX6_init 2 none 1 RX6 := ⟨k_556, k_531, rfl, ⟨by decide, by decide⟩, by decide +kernel⟩
theorem calX6_append : gCal yX6_append cX6_append 5 (some .int) 4 RX6 := ⟨k_629, k_531, rfl, ⟨by decide, by decide⟩, by decide +kernel⟩
theorem calX6_become : gCal yX6_become cX6_become 3 none 1 RX6 := ⟨k_645, k_531, rfl, ⟨by decide, by decide⟩, by decide +kernel⟩
theorem calX6_chosen : gCal yX6_chosen cX6_chosen 4 (some .int) 1 RX6 := ⟨k_711, k_531, rfl, ⟨by decide, by decide⟩, by decide +kernel⟩
theorem calX7_init : gCal yX7_init cX7_init 1 none 0 RX7 := ⟨k_550, k_528, rfl, ⟨by decide, by decide⟩, by decide +kernel⟩
theorem calX7_rewrite : gCal yX7_rewrite cX7_rewrite 4 (some .int) 2 RX7 := ⟨k_596, k_528, rfl, ⟨by decide, by decide⟩, by decide +kernel⟩
theorem calX7_keepChange : gCal yX7_keepChange cX7_keepChange 3 none 2 RX7 := ⟨k_604, k_528, rfl, ⟨by decide, by decide⟩, by decide +kernel⟩
theorem calX7_forgetFirstChange : gCal yX7_forgetFirstChange cX7_forgetFirstChange 2 none 0 RX7 := ⟨k_606, k_528, rfl, ⟨by decide, by decide⟩, by decide +kernel⟩
theorem calX7_filesAfter : gCal yX7_filesAfter cX7_filesAfter 4 none 2 RX7 := ⟨k_870, k_528, rfl, ⟨by decide, by decide⟩, by decide +kernel⟩
theorem calX8_init : gCal yX8_init cX8_init 4 none 2 RX8 := ⟨k_554, k_530, rfl, ⟨by decide, by decide⟩, by decide +kernel⟩
theorem calX8_describe : gCal yX8_describe cX8_describe 7 none 6 RX8 := ⟨k_642, k_530, rfl, ⟨by decide, by decide⟩, by decide +kernel⟩
theorem calX8_startOver : gCal yX8_startOver cX8_startOver 4 none 1 RX8 := ⟨k_714, k_530, rfl, ⟨by decide, by decide⟩, by decide +kernel⟩
theorem calX8_actionAt : gCal yX8_actionAt cX8_actionAt 2 (some (.object "BuildGrid$Action")) 1 RX8 := ⟨k_717, k_530, rfl, ⟨by decide, by decide⟩, by decide +kernel⟩
theorem calX8_work : gCal yX8_work cX8_work 1 (some .int) 0 RX8 := ⟨k_792, k_530, rfl, ⟨by decide, by decide⟩, by decide +kernel⟩
theorem calX8_fileFound : gCal yX8_fileFound cX8_fileFound 2 (some .int) 1 RX8 := ⟨k_742, k_530, rfl, ⟨by decide, by decide⟩, by decide +kernel⟩
theorem calX8_breaksOut : gCal yX8_breaksOut cX8_breaksOut 2 (some .boolean) 1 RX8 := ⟨k_736, k_530, rfl, ⟨by decide, by decide⟩, by decide +kernel⟩
theorem calX8_isGoodResult : gCal yX8_isGoodResult cX8_isGoodResult 2 (some .boolean) 1 RX8 := ⟨k_822, k_530, rfl, ⟨by decide, by decide⟩, by decide +kernel⟩
theorem calX8_failsAt : gCal yX8_failsAt cX8_failsAt 3 (some .boolean) 2 RX8 := ⟨k_819, k_530, rfl, ⟨by decide, by decide⟩, by decide +kernel⟩
theorem calX8_noteFlakeIn : gCal yX8_noteFlakeIn cX8_noteFlakeIn 2 none 1 RX8 := ⟨k_828, k_530, rfl, ⟨by decide, by decide⟩, by decide +kernel⟩
theorem calX8_isInQuarantine : gCal yX8_isInQuarantine cX8_isInQuarantine 1 (some .boolean) 0 RX8 := ⟨k_825, k_530, rfl, ⟨by decide, by decide⟩, by decide +kernel⟩
theorem calX8_digestOfResults : gCal yX8_digestOfResults cX8_digestOfResults 3 (some .int) 0 RX8 := ⟨k_756, k_530, rfl, ⟨by decide, by decide⟩, by decide +kernel⟩
theorem calX8_isAllDone : gCal yX8_isAllDone cX8_isAllDone 2 (some .boolean) 0 RX8 := ⟨k_865, k_530, rfl, ⟨by decide, by decide⟩, by decide +kernel⟩
theorem calX8_isSoundAlone : gCal yX8_isSoundAlone cX8_isSoundAlone 2 (some .boolean) 0 RX8 := ⟨k_856, k_530, rfl, ⟨by decide, by decide⟩, by decide +kernel⟩
theorem calX8_firstReady : gCal yX8_firstReady cX8_firstReady 3 (some (.object "BuildGrid$Action")) 0 RX8 := ⟨k_782, k_530, rfl, ⟨by decide, by decide⟩, by decide +kernel⟩
theorem calX9_init : gCal yX9_init cX9_init 3 none 2 RX9 := ⟨k_564, k_536, rfl, ⟨by decide, by decide⟩, by decide +kernel⟩
theorem calX9_keyOf : gCal yX9_keyOf cX9_keyOf 6 (some .int) 2 RX9 := ⟨k_733, k_536, rfl, ⟨by decide, by decide⟩, by decide +kernel⟩
theorem calX9_contentFound : gCal yX9_contentFound cX9_contentFound 3 (some .int) 2 RX9 := ⟨k_739, k_536, rfl, ⟨by decide, by decide⟩, by decide +kernel⟩
theorem calX10_init : gCal yX10_init cX10_init 3 none 2 RX10 := ⟨k_568, k_537, rfl, ⟨by decide, by decide⟩, by decide +kernel⟩
theorem calX10_isIdle : gCal yX10_isIdle cX10_isIdle 1 (some .boolean) 0 RX10 := ⟨k_777, k_537, rfl, ⟨by decide, by decide⟩, by decide +kernel⟩
theorem calX10_hasEnded : gCal yX10_hasEnded cX10_hasEnded 1 (some .boolean) 0 RX10 := ⟨k_802, k_537, rfl, ⟨by decide, by decide⟩, by decide +kernel⟩
theorem calX10_start : gCal yX10_start cX10_start 5 none 4 RX10 := ⟨k_787, k_537, rfl, ⟨by decide, by decide⟩, by decide +kernel⟩
theorem calX10_ticksFor : gCal yX10_ticksFor cX10_ticksFor 3 (some .int) 1 RX10 := ⟨k_789, k_537, rfl, ⟨by decide, by decide⟩, by decide +kernel⟩
theorem calX10_spendTick : gCal yX10_spendTick cX10_spendTick 1 none 0 RX10 := ⟨k_799, k_537, rfl, ⟨by decide, by decide⟩, by decide +kernel⟩
theorem calX10_resultMade : gCal yX10_resultMade cX10_resultMade 1 (some .int) 0 RX10 := ⟨k_814, k_537, rfl, ⟨by decide, by decide⟩, by decide +kernel⟩
theorem calX10_beganWith : gCal yX10_beganWith cX10_beganWith 3 (some .boolean) 2 RX10 := ⟨k_809, k_537, rfl, ⟨by decide, by decide⟩, by decide +kernel⟩
theorem calX10_rest : gCal yX10_rest cX10_rest 2 none 1 RX10 := ⟨k_662, k_537, rfl, ⟨by decide, by decide⟩, by decide +kernel⟩
theorem calX11_init : gCal yX11_init cX11_init 1 none 0 RX11 := ⟨k_548, k_527, rfl, ⟨by decide, by decide⟩, by decide +kernel⟩
theorem calX11_write : gCal yX11_write cX11_write 3 (some .int) 2 RX11 := ⟨k_589, k_527, rfl, ⟨by decide, by decide⟩, by decide +kernel⟩
theorem calX11_set : gCal yX11_set cX11_set 3 (some .int) 2 RX11 := ⟨k_610, k_527, rfl, ⟨by decide, by decide⟩, by decide +kernel⟩
theorem calX11_setTool : gCal yX11_setTool cX11_setTool 3 (some .int) 2 RX11 := ⟨k_616, k_527, rfl, ⟨by decide, by decide⟩, by decide +kernel⟩
theorem calX11_input : gCal yX11_input cX11_input 5 (some .int) 4 RX11 := ⟨k_620, k_527, rfl, ⟨by decide, by decide⟩, by decide +kernel⟩
theorem calX11_target : gCal yX11_target cX11_target 8 (some .int) 6 RX11 := ⟨k_633, k_527, rfl, ⟨by decide, by decide⟩, by decide +kernel⟩
theorem calX11_copy : gCal yX11_copy cX11_copy 5 (some .int) 2 RX11 := ⟨k_649, k_527, rfl, ⟨by decide, by decide⟩, by decide +kernel⟩
theorem calX11_setPower : gCal yX11_setPower cX11_setPower 5 (some .int) 2 RX11 := ⟨k_653, k_527, rfl, ⟨by decide, by decide⟩, by decide +kernel⟩
theorem calX11_setWays : gCal yX11_setWays cX11_setWays 3 none 2 RX11 := ⟨k_573, k_527, rfl, ⟨by decide, by decide⟩, by decide +kernel⟩
theorem calX11_entries : gCal yX11_entries cX11_entries 1 (some .int) 0 RX11 := ⟨k_576, k_527, rfl, ⟨by decide, by decide⟩, by decide +kernel⟩
theorem calX11_entry : gCal yX11_entry cX11_entry 4 (some .int) 2 RX11 := ⟨k_670, k_527, rfl, ⟨by decide, by decide⟩, by decide +kernel⟩
theorem calX11_lie : gCal yX11_lie cX11_lie 4 none 2 RX11 := ⟨k_689, k_527, rfl, ⟨by decide, by decide⟩, by decide +kernel⟩
theorem calX11_lose : gCal yX11_lose cX11_lose 4 (some .boolean) 1 RX11 := ⟨k_693, k_527, rfl, ⟨by decide, by decide⟩, by decide +kernel⟩
theorem calX11_build : gCal yX11_build cX11_build 2 (some .int) 1 RX11 := ⟨k_697, k_527, rfl, ⟨by decide, by decide⟩, by decide +kernel⟩
theorem calX11_pass : gCal yX11_pass cX11_pass 3 (some .int) 1 RX11 := ⟨k_760, k_527, rfl, ⟨by decide, by decide⟩, by decide +kernel⟩
theorem calX11_goesOn : gCal yX11_goesOn cX11_goesOn 1 (some .boolean) 0 RX11 := ⟨k_579, k_527, rfl, ⟨by decide, by decide⟩, by decide +kernel⟩
theorem calX11_state : gCal yX11_state cX11_state 3 (some .int) 2 RX11 := ⟨k_840, k_527, rfl, ⟨by decide, by decide⟩, by decide +kernel⟩
theorem calX11_result : gCal yX11_result cX11_result 4 (some .int) 2 RX11 := ⟨k_846, k_527, rfl, ⟨by decide, by decide⟩, by decide +kernel⟩
theorem calX11_about : gCal yX11_about cX11_about 4 (some .int) 2 RX11 := ⟨k_850, k_527, rfl, ⟨by decide, by decide⟩, by decide +kernel⟩
theorem calX11_proof : gCal yX11_proof cX11_proof 2 (some .int) 1 RX11 := ⟨k_885, k_527, rfl, ⟨by decide, by decide⟩, by decide +kernel⟩
theorem calX11_count : gCal yX11_count cX11_count 2 (some .int) 1 RX11 := ⟨k_897, k_527, rfl, ⟨by decide, by decide⟩, by decide +kernel⟩
theorem calX11_needed : gCal yX11_needed cX11_needed 2 (some .int) 1 RX11 := ⟨k_901, k_527, rfl, ⟨by decide, by decide⟩, by decide +kernel⟩
theorem calX11_needing : gCal yX11_needing cX11_needing 2 (some .int) 1 RX11 := ⟨k_905, k_527, rfl, ⟨by decide, by decide⟩, by decide +kernel⟩
theorem calX11_steps : gCal yX11_steps cX11_steps 3 (some .int) 2 RX11 := ⟨k_914, k_527, rfl, ⟨by decide, by decide⟩, by decide +kernel⟩
theorem calX11_changes : gCal yX11_changes cX11_changes 1 (some .int) 0 RX11 := ⟨k_582, k_527, rfl, ⟨by decide, by decide⟩, by decide +kernel⟩
theorem calX11_bisect : gCal yX11_bisect cX11_bisect 6 (some .int) 1 RX11 := ⟨k_923, k_527, rfl, ⟨by decide, by decide⟩, by decide +kernel⟩
theorem calX11_looks : gCal yX11_looks cX11_looks 1 (some .int) 0 RX11 := ⟨k_585, k_527, rfl, ⟨by decide, by decide⟩, by decide +kernel⟩
theorem calX11_checkArgument : gCal yX11_checkArgument cX11_checkArgument 1 none 1 RX11 := ⟨k_593, k_527, rfl, ⟨by decide, by decide⟩, by decide +kernel⟩
theorem calX11_checkState : gCal yX11_checkState cX11_checkState 1 none 1 RX11 := ⟨k_612, k_527, rfl, ⟨by decide, by decide⟩, by decide +kernel⟩
theorem calX11_checkTarget : gCal yX11_checkTarget cX11_checkTarget 2 none 1 RX11 := ⟨k_626, k_527, rfl, ⟨by decide, by decide⟩, by decide +kernel⟩
theorem calX11_checkThing : gCal yX11_checkThing cX11_checkThing 2 none 1 RX11 := ⟨k_622, k_527, rfl, ⟨by decide, by decide⟩, by decide +kernel⟩
theorem calX11_checkedAction : gCal yX11_checkedAction cX11_checkedAction 4 (some (.object "BuildGrid$Action")) 2 RX11 := ⟨k_842, k_527, rfl, ⟨by decide, by decide⟩, by decide +kernel⟩
theorem calX11_isGoodAfter : gCal yX11_isGoodAfter cX11_isGoodAfter 3 (some .boolean) 2 RX11 := ⟨k_925, k_527, rfl, ⟨by decide, by decide⟩, by decide +kernel⟩
theorem calX11_isBelow : gCal yX11_isBelow cX11_isBelow 2 (some .boolean) 2 RX11 := ⟨k_591, k_527, rfl, ⟨by decide, by decide⟩, by decide +kernel⟩
theorem calX11_isTarget : gCal yX11_isTarget cX11_isTarget 1 (some .boolean) 1 RX11 := ⟨k_624, k_527, rfl, ⟨by decide, by decide⟩, by decide +kernel⟩
theorem calX11_bitOf : gCal yX11_bitOf cX11_bitOf 2 (some .int) 2 RX11 := ⟨k_705, k_527, rfl, ⟨by decide, by decide⟩, by decide +kernel⟩
theorem calX11_at : gCal yX11_at cX11_at 2 (some .int) 2 RX11 := ⟨k_600, k_527, rfl, ⟨by decide, by decide⟩, by decide +kernel⟩
theorem calX11_store : gCal yX11_store cX11_store 3 none 3 RX11 := ⟨k_602, k_527, rfl, ⟨by decide, by decide⟩, by decide +kernel⟩
theorem calX11_exchange : gCal yX11_exchange cX11_exchange 4 (some .int) 3 RX11 := ⟨k_598, k_527, rfl, ⟨by decide, by decide⟩, by decide +kernel⟩
theorem calX11_plus : gCal yX11_plus cX11_plus 2 (some .int) 2 RX11 := ⟨k_685, k_527, rfl, ⟨by decide, by decide⟩, by decide +kernel⟩
theorem calX11_resultOf : gCal yX11_resultOf cX11_resultOf 2 (some .int) 2 RX11 := ⟨k_816, k_527, rfl, ⟨by decide, by decide⟩, by decide +kernel⟩
theorem calX12_init : gCal yX12_init cX12_init 2 none 0 RX12 := ⟨k_927, k_539, rfl, ⟨by decide, by decide⟩, by decide +kernel⟩
theorem calX12_thrown : gCal yX12_thrown cX12_thrown 1 (some .int) 0 RX12 := ⟨k_930, k_539, rfl, ⟨by decide, by decide⟩, by decide +kernel⟩
theorem calX12_asked : gCal yX12_asked cX12_asked 2 (some .boolean) 1 RX12 := ⟨k_937, k_539, rfl, ⟨by decide, by decide⟩, by decide +kernel⟩
theorem calX12_asked_ : gCal yX12_asked_ cX12_asked_ 3 (some .boolean) 2 RX12 := ⟨k_942, k_539, rfl, ⟨by decide, by decide⟩, by decide +kernel⟩
theorem calX12_in : gCal yX12_in cX12_in 3 (some .boolean) 3 RX12 := ⟨k_935, k_539, rfl, ⟨by decide, by decide⟩, by decide +kernel⟩
theorem calX12_isTarget : gCal yX12_isTarget cX12_isTarget 2 (some .boolean) 1 RX12 := ⟨k_952, k_539, rfl, ⟨by decide, by decide⟩, by decide +kernel⟩
theorem calX12_write : gCal yX12_write cX12_write 5 (some .int) 2 RX12 := ⟨k_933, k_539, rfl, ⟨by decide, by decide⟩, by decide +kernel⟩
theorem calX12_set : gCal yX12_set cX12_set 4 (some .int) 2 RX12 := ⟨k_940, k_539, rfl, ⟨by decide, by decide⟩, by decide +kernel⟩
theorem calX12_setTool : gCal yX12_setTool cX12_setTool 4 (some .int) 2 RX12 := ⟨k_945, k_539, rfl, ⟨by decide, by decide⟩, by decide +kernel⟩
theorem calX12_isInput : gCal yX12_isInput cX12_isInput 2 (some .boolean) 1 RX12 := ⟨k_950, k_539, rfl, ⟨by decide, by decide⟩, by decide +kernel⟩
theorem calX12_input : gCal yX12_input cX12_input 7 (some .int) 4 RX12 := ⟨k_948, k_539, rfl, ⟨by decide, by decide⟩, by decide +kernel⟩
theorem calX12_lay : gCal yX12_lay cX12_lay 4 none 2 RX12 := ⟨k_957, k_539, rfl, ⟨by decide, by decide⟩, by decide +kernel⟩
theorem calX12_target : gCal yX12_target cX12_target 8 (some .int) 6 RX12 := ⟨k_955, k_539, rfl, ⟨by decide, by decide⟩, by decide +kernel⟩
theorem calX12_copy : gCal yX12_copy cX12_copy 3 (some .int) 2 RX12 := ⟨k_960, k_539, rfl, ⟨by decide, by decide⟩, by decide +kernel⟩
theorem calX12_inputOf : gCal yX12_inputOf cX12_inputOf 4 (some .int) 2 RX12 := ⟨k_993, k_539, rfl, ⟨by decide, by decide⟩, by decide +kernel⟩
theorem calX12_neededBy : gCal yX12_neededBy cX12_neededBy 6 (some .int) 1 RX12 := ⟨k_991, k_539, rfl, ⟨by decide, by decide⟩, by decide +kernel⟩
theorem calX12_put : gCal yX12_put cX12_put 2 (some .int) 2 RX12 := ⟨k_972, k_539, rfl, ⟨by decide, by decide⟩, by decide +kernel⟩
theorem calX12_keyBegin : gCal yX12_keyBegin cX12_keyBegin 4 (some .int) 2 RX12 := ⟨k_1005, k_539, rfl, ⟨by decide, by decide⟩, by decide +kernel⟩
theorem calX12_foundBy : gCal yX12_foundBy cX12_foundBy 3 (some .int) 2 RX12 := ⟨k_1009, k_539, rfl, ⟨by decide, by decide⟩, by decide +kernel⟩
theorem calX12_breaks : gCal yX12_breaks cX12_breaks 3 (some .boolean) 2 RX12 := ⟨k_1011, k_539, rfl, ⟨by decide, by decide⟩, by decide +kernel⟩
theorem calX12_freshen : gCal yX12_freshen cX12_freshen 6 none 0 RX12 := ⟨k_1048, k_539, rfl, ⟨by decide, by decide⟩, by decide +kernel⟩
theorem calX12_freshenNow : gCal yX12_freshenNow cX12_freshenNow 2 none 0 RX12 := ⟨k_1046, k_539, rfl, ⟨by decide, by decide⟩, by decide +kernel⟩
theorem calX12_digestOf : gCal yX12_digestOf cX12_digestOf 4 (some .int) 1 RX12 := ⟨k_1007, k_539, rfl, ⟨by decide, by decide⟩, by decide +kernel⟩
theorem calX12_keyOf : gCal yX12_keyOf cX12_keyOf 6 (some .int) 1 RX12 := ⟨k_1003, k_539, rfl, ⟨by decide, by decide⟩, by decide +kernel⟩
theorem calX12_signature : gCal yX12_signature cX12_signature 4 (some .int) 3 RX12 := ⟨k_970, k_539, rfl, ⟨by decide, by decide⟩, by decide +kernel⟩
theorem calX12_isSigned : gCal yX12_isSigned cX12_isSigned 2 (some .boolean) 1 RX12 := ⟨k_968, k_539, rfl, ⟨by decide, by decide⟩, by decide +kernel⟩
theorem calX12_hit : gCal yX12_hit cX12_hit 8 (some .int) 1 RX12 := ⟨k_1001, k_539, rfl, ⟨by decide, by decide⟩, by decide +kernel⟩
theorem calX12_keep : gCal yX12_keep cX12_keep 7 none 5 RX12 := ⟨k_1032, k_539, rfl, ⟨by decide, by decide⟩, by decide +kernel⟩
theorem calX12_entries : gCal yX12_entries cX12_entries 1 (some .int) 0 RX12 := ⟨k_963, k_539, rfl, ⟨by decide, by decide⟩, by decide +kernel⟩
theorem calX12_entry : gCal yX12_entry cX12_entry 3 (some .int) 2 RX12 := ⟨k_966, k_539, rfl, ⟨by decide, by decide⟩, by decide +kernel⟩
theorem calX12_lie : gCal yX12_lie cX12_lie 3 none 2 RX12 := ⟨k_975, k_539, rfl, ⟨by decide, by decide⟩, by decide +kernel⟩
theorem calX12_lose : gCal yX12_lose cX12_lose 3 (some .boolean) 1 RX12 := ⟨k_978, k_539, rfl, ⟨by decide, by decide⟩, by decide +kernel⟩
theorem calX12_setPower : gCal yX12_setPower cX12_setPower 5 (some .int) 2 RX12 := ⟨k_981, k_539, rfl, ⟨by decide, by decide⟩, by decide +kernel⟩
theorem calX12_workerAt : gCal yX12_workerAt cX12_workerAt 3 (some .int) 1 RX12 := ⟨k_983, k_539, rfl, ⟨by decide, by decide⟩, by decide +kernel⟩
theorem calX12_setWays : gCal yX12_setWays cX12_setWays 3 none 2 RX12 := ⟨k_986, k_539, rfl, ⟨by decide, by decide⟩, by decide +kernel⟩
theorem calX12_isNeeded : gCal yX12_isNeeded cX12_isNeeded 2 (some .boolean) 1 RX12 := ⟨k_995, k_539, rfl, ⟨by decide, by decide⟩, by decide +kernel⟩
theorem calX12_build : gCal yX12_build cX12_build 6 (some .int) 1 RX12 := ⟨k_989, k_539, rfl, ⟨by decide, by decide⟩, by decide +kernel⟩
theorem calX12_opens : gCal yX12_opens cX12_opens 4 none 0 RX12 := ⟨k_997, k_539, rfl, ⟨by decide, by decide⟩, by decide +kernel⟩
theorem calX12_opensOne : gCal yX12_opensOne cX12_opensOne 8 none 2 RX12 := ⟨k_999, k_539, rfl, ⟨by decide, by decide⟩, by decide +kernel⟩
theorem calX12_wayOf : gCal yX12_wayOf cX12_wayOf 6 (some .int) 1 RX12 := ⟨k_1020, k_539, rfl, ⟨by decide, by decide⟩, by decide +kernel⟩
theorem calX12_hasInput : gCal yX12_hasInput cX12_hasInput 5 (some .boolean) 2 RX12 := ⟨k_1022, k_539, rfl, ⟨by decide, by decide⟩, by decide +kernel⟩
theorem calX12_ticksOf : gCal yX12_ticksOf cX12_ticksOf 6 (some .int) 2 RX12 := ⟨k_1028, k_539, rfl, ⟨by decide, by decide⟩, by decide +kernel⟩
theorem calX12_begins : gCal yX12_begins cX12_begins 4 none 2 RX12 := ⟨k_1026, k_539, rfl, ⟨by decide, by decide⟩, by decide +kernel⟩
theorem calX12_next : gCal yX12_next cX12_next 5 (some .int) 0 RX12 := ⟨k_1018, k_539, rfl, ⟨by decide, by decide⟩, by decide +kernel⟩
theorem calX12_idle : gCal yX12_idle cX12_idle 3 (some .int) 0 RX12 := ⟨k_1024, k_539, rfl, ⟨by decide, by decide⟩, by decide +kernel⟩
theorem calX12_ends : gCal yX12_ends cX12_ends 8 none 1 RX12 := ⟨k_1030, k_539, rfl, ⟨by decide, by decide⟩, by decide +kernel⟩
theorem calX12_builds : gCal yX12_builds cX12_builds 5 none 0 RX12 := ⟨k_1016, k_539, rfl, ⟨by decide, by decide⟩, by decide +kernel⟩
theorem calX12_pass : gCal yX12_pass cX12_pass 3 (some .int) 1 RX12 := ⟨k_1014, k_539, rfl, ⟨by decide, by decide⟩, by decide +kernel⟩
theorem calX12_goesOn : gCal yX12_goesOn cX12_goesOn 1 (some .boolean) 0 RX12 := ⟨k_1035, k_539, rfl, ⟨by decide, by decide⟩, by decide +kernel⟩
theorem calX12_state : gCal yX12_state cX12_state 3 (some .int) 2 RX12 := ⟨k_1038, k_539, rfl, ⟨by decide, by decide⟩, by decide +kernel⟩
theorem calX12_result : gCal yX12_result cX12_result 3 (some .int) 2 RX12 := ⟨k_1041, k_539, rfl, ⟨by decide, by decide⟩, by decide +kernel⟩
theorem calX12_isDone : gCal yX12_isDone cX12_isDone 4 (some .boolean) 1 RX12 := ⟨k_1052, k_539, rfl, ⟨by decide, by decide⟩, by decide +kernel⟩
theorem calX12_isSound : gCal yX12_isSound cX12_isSound 7 (some .boolean) 2 RX12 := ⟨k_1050, k_539, rfl, ⟨by decide, by decide⟩, by decide +kernel⟩
theorem calX12_isStale : gCal yX12_isStale cX12_isStale 4 (some .boolean) 1 RX12 := ⟨k_1054, k_539, rfl, ⟨by decide, by decide⟩, by decide +kernel⟩
theorem calX12_about : gCal yX12_about cX12_about 4 (some .int) 2 RX12 := ⟨k_1044, k_539, rfl, ⟨by decide, by decide⟩, by decide +kernel⟩
theorem calX12_proof : gCal yX12_proof cX12_proof 7 (some .int) 1 RX12 := ⟨k_1057, k_539, rfl, ⟨by decide, by decide⟩, by decide +kernel⟩
theorem calX12_count : gCal yX12_count cX12_count 2 (some .int) 1 RX12 := ⟨k_1060, k_539, rfl, ⟨by decide, by decide⟩, by decide +kernel⟩
theorem calX12_needed : gCal yX12_needed cX12_needed 2 (some .int) 1 RX12 := ⟨k_1063, k_539, rfl, ⟨by decide, by decide⟩, by decide +kernel⟩
theorem calX12_needing : gCal yX12_needing cX12_needing 8 (some .int) 1 RX12 := ⟨k_1066, k_539, rfl, ⟨by decide, by decide⟩, by decide +kernel⟩
theorem calX12_steps : gCal yX12_steps cX12_steps 9 (some .int) 2 RX12 := ⟨k_1069, k_539, rfl, ⟨by decide, by decide⟩, by decide +kernel⟩
theorem calX12_changes : gCal yX12_changes cX12_changes 1 (some .int) 0 RX12 := ⟨k_1072, k_539, rfl, ⟨by decide, by decide⟩, by decide +kernel⟩
theorem calX12_isGood : gCal yX12_isGood cX12_isGood 4 (some .boolean) 2 RX12 := ⟨k_1077, k_539, rfl, ⟨by decide, by decide⟩, by decide +kernel⟩
theorem calX12_bisect : gCal yX12_bisect cX12_bisect 5 (some .int) 1 RX12 := ⟨k_1075, k_539, rfl, ⟨by decide, by decide⟩, by decide +kernel⟩
theorem calX12_looks : gCal yX12_looks cX12_looks 1 (some .int) 0 RX12 := ⟨k_1080, k_539, rfl, ⟨by decide, by decide⟩, by decide +kernel⟩
theorem calJ9_floorMod_7cf53 : gCal yJ9_floorMod_7cf53 cJ9_floorMod_7cf53 3 (some .int) 2 RJ9 := ⟨k_675, k_546, rfl, ⟨by decide, by decide⟩, by decide +kernel⟩
theorem calJ9_max_7cf53 : gCal yJ9_max_7cf53 cJ9_max_7cf53 2 (some .int) 2 RJ9 := ⟨k_772, k_546, rfl, ⟨by decide, by decide⟩, by decide +kernel⟩
