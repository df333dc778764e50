set_option maxRecDepth 20000 in
theorem k_50 : (.classLink "BuildGridLaw" 9 "BuildGrid" : Cond) ∈ gBIG := gIn 50 rfl rfl
set_option maxRecDepth 20000 in
theorem k_52 : (.methodLink "BuildGridLaw" 96 ⟨"BuildGrid", "<init>", "()V"⟩ : Cond) ∈ gBIG := gIn 52 rfl rfl
set_option maxRecDepth 20000 in
theorem k_55 : (.methodLink "BuildGrid" 1 ⟨"java/lang/Object", "<init>", "()V"⟩ : Cond) ∈ gBIG := gIn 55 rfl rfl
set_option maxRecDepth 20000 in
theorem k_58 : (.classLink "BuildGrid" 7 "BuildGrid$Sources" : Cond) ∈ gBIG := gIn 58 rfl rfl
set_option maxRecDepth 20000 in
theorem k_60 : (.methodLinkNest "BuildGrid" 9 ⟨"BuildGrid$Sources", "<init>", "()V"⟩ "BuildGrid" : Cond) ∈ gNest := gInN 60 rfl rfl
set_option maxRecDepth 20000 in
theorem k_63 : (.methodLink "BuildGrid$Sources" 3 ⟨"java/lang/Object", "<init>", "()V"⟩ : Cond) ∈ gBIG := gIn 63 rfl rfl
set_option maxRecDepth 20000 in
theorem k_64 : (.fieldLink "BuildGrid$Sources" 9 "BuildGrid$Sources" "files" "[I" : Cond) ∈ gBIG := gIn 64 rfl rfl
set_option maxRecDepth 20000 in
theorem k_65 : (.fieldLink "BuildGrid" 43 "BuildGrid$Sources" "files" "[I" : Cond) ∈ gBIG := gIn 65 rfl rfl
set_option maxRecDepth 20000 in
theorem k_66 : (.fieldLink "BuildGrid$Sources" 15 "BuildGrid$Sources" "settings" "[I" : Cond) ∈ gBIG := gIn 66 rfl rfl
set_option maxRecDepth 20000 in
theorem k_67 : (.fieldLink "BuildGrid" 18 "BuildGrid$Sources" "settings" "[I" : Cond) ∈ gBIG := gIn 67 rfl rfl
set_option maxRecDepth 20000 in
theorem k_68 : (.fieldLink "BuildGrid$Fresh" 21 "BuildGrid$Sources" "versions" "[I" : Cond) ∈ gBIG := gIn 68 rfl rfl
set_option maxRecDepth 20000 in
theorem k_69 : (.fieldLink "BuildGrid$Sources" 18 "BuildGrid$Sources" "versions" "[I" : Cond) ∈ gBIG := gIn 69 rfl rfl
set_option maxRecDepth 20000 in
theorem k_70 : (.fieldLink "BuildGrid" 40 "BuildGrid$Sources" "versions" "[I" : Cond) ∈ gBIG := gIn 70 rfl rfl
set_option maxRecDepth 20000 in
theorem k_71 : (.fieldLink "BuildGrid$Sources" 21 "BuildGrid$Sources" "changedFiles" "[I" : Cond) ∈ gBIG := gIn 71 rfl rfl
set_option maxRecDepth 20000 in
theorem k_72 : (.fieldLink "BuildGrid$Sources" 24 "BuildGrid$Sources" "contentsBefore" "[I" : Cond) ∈ gBIG := gIn 72 rfl rfl
set_option maxRecDepth 20000 in
theorem k_73 : (.fieldLink "BuildGrid$Sources" 35 "BuildGrid$Sources" "kept" "I" : Cond) ∈ gBIG := gIn 73 rfl rfl
set_option maxRecDepth 20000 in
theorem k_74 : (.fieldLink "BuildGrid$Fresh" 42 "BuildGrid$Sources" "kept" "I" : Cond) ∈ gBIG := gIn 74 rfl rfl
set_option maxRecDepth 20000 in
theorem k_75 : (.fieldLink "BuildGrid" 234 "BuildGrid$Sources" "kept" "I" : Cond) ∈ gBIG := gIn 75 rfl rfl
set_option maxRecDepth 20000 in
theorem k_90 : (.classLink "BuildGrid" 16 "BuildGrid$Graph" : Cond) ∈ gBIG := gIn 90 rfl rfl
set_option maxRecDepth 20000 in
theorem k_92 : (.methodLink "BuildGrid" 22 ⟨"BuildGrid$Graph", "<init>", "([I)V"⟩ : Cond) ∈ gBIG := gIn 92 rfl rfl
set_option maxRecDepth 20000 in
theorem k_95 : (.methodLink "BuildGrid$Graph" 3 ⟨"java/lang/Object", "<init>", "()V"⟩ : Cond) ∈ gBIG := gIn 95 rfl rfl
set_option maxRecDepth 20000 in
theorem k_96 : (.classLink "BuildGrid$Graph" 9 "BuildGrid$Target" : Cond) ∈ gBIG := gIn 96 rfl rfl
set_option maxRecDepth 20000 in
theorem k_99 : (.methodLink "BuildGrid$Graph" 24 ⟨"BuildGrid$Target", "<init>", "(I[I)V"⟩ : Cond) ∈ gBIG := gIn 99 rfl rfl
set_option maxRecDepth 20000 in
theorem k_102 : (.methodLink "BuildGrid$Target" 3 ⟨"java/lang/Object", "<init>", "()V"⟩ : Cond) ∈ gBIG := gIn 102 rfl rfl
set_option maxRecDepth 20000 in
theorem k_103 : (.classLink "BuildGrid$Target" 9 "BuildGrid$Action" : Cond) ∈ gBIG := gIn 103 rfl rfl
set_option maxRecDepth 20000 in
theorem k_105 : (.classLink "BuildGrid$Target" 24 "BuildGrid$Inputs" : Cond) ∈ gBIG := gIn 105 rfl rfl
set_option maxRecDepth 20000 in
theorem k_107 : (.methodLink "BuildGrid$Target" 26 ⟨"BuildGrid$Inputs", "<init>", "([I)V"⟩ : Cond) ∈ gBIG := gIn 107 rfl rfl
set_option maxRecDepth 20000 in
theorem k_110 : (.methodLink "BuildGrid$Inputs" 3 ⟨"java/lang/Object", "<init>", "()V"⟩ : Cond) ∈ gBIG := gIn 110 rfl rfl
set_option maxRecDepth 20000 in
theorem k_111 : (.fieldLink "BuildGrid$Inputs" 24 "BuildGrid$Inputs" "settingsOfNow" "[I" : Cond) ∈ gBIG := gIn 111 rfl rfl
set_option maxRecDepth 20000 in
theorem k_112 : (.fieldLink "BuildGrid$Inputs" 9 "BuildGrid$Inputs" "ones" "[I" : Cond) ∈ gBIG := gIn 112 rfl rfl
set_option maxRecDepth 20000 in
theorem k_113 : (.fieldLink "BuildGrid$Inputs" 15 "BuildGrid$Inputs" "others" "[I" : Cond) ∈ gBIG := gIn 113 rfl rfl
set_option maxRecDepth 20000 in
theorem k_114 : (.fieldLink "BuildGrid$Inputs" 18 "BuildGrid$Inputs" "settings" "[I" : Cond) ∈ gBIG := gIn 114 rfl rfl
set_option maxRecDepth 20000 in
theorem k_115 : (.fieldLink "BuildGrid$Inputs" 21 "BuildGrid$Inputs" "values" "[I" : Cond) ∈ gBIG := gIn 115 rfl rfl
set_option maxRecDepth 20000 in
theorem k_116 : (.fieldLink "BuildGrid$Inputs" 27 "BuildGrid$Inputs" "size" "I" : Cond) ∈ gBIG := gIn 116 rfl rfl
set_option maxRecDepth 20000 in
theorem k_117 : (.fieldLink "BuildGrid$View" 45 "BuildGrid$Inputs" "size" "I" : Cond) ∈ gBIG := gIn 117 rfl rfl
set_option maxRecDepth 20000 in
theorem k_118 : (.fieldLink "BuildGrid$Target" 64 "BuildGrid$Inputs" "size" "I" : Cond) ∈ gBIG := gIn 118 rfl rfl
set_option maxRecDepth 20000 in
theorem k_119 : (.fieldLink "BuildGrid$Graph" 59 "BuildGrid$Inputs" "size" "I" : Cond) ∈ gBIG := gIn 119 rfl rfl
set_option maxRecDepth 20000 in
theorem k_120 : (.fieldLink "BuildGrid" 96 "BuildGrid$Inputs" "size" "I" : Cond) ∈ gBIG := gIn 120 rfl rfl
set_option maxRecDepth 20000 in
theorem k_135 : (.methodLink "BuildGrid$Target" 33 ⟨"BuildGrid$Action", "<init>", "(II)V"⟩ : Cond) ∈ gBIG := gIn 135 rfl rfl
set_option maxRecDepth 20000 in
theorem k_138 : (.methodLink "BuildGrid$Action" 3 ⟨"java/lang/Object", "<init>", "()V"⟩ : Cond) ∈ gBIG := gIn 138 rfl rfl
set_option maxRecDepth 20000 in
theorem k_139 : (.fieldLink "BuildGrid$Action" 15 "BuildGrid$Action" "target" "I" : Cond) ∈ gBIG := gIn 139 rfl rfl
set_option maxRecDepth 20000 in
theorem k_140 : (.fieldLink "BuildGrid$Course" 164 "BuildGrid$Action" "target" "I" : Cond) ∈ gBIG := gIn 140 rfl rfl
set_option maxRecDepth 20000 in
theorem k_141 : (.fieldLink "BuildGrid$Action" 18 "BuildGrid$Action" "shard" "I" : Cond) ∈ gBIG := gIn 141 rfl rfl
set_option maxRecDepth 20000 in
theorem k_142 : (.fieldLink "BuildGrid$Course" 167 "BuildGrid$Action" "shard" "I" : Cond) ∈ gBIG := gIn 142 rfl rfl
set_option maxRecDepth 20000 in
theorem k_143 : (.fieldLink "BuildGrid$Action" 9 "BuildGrid$Action" "state" "I" : Cond) ∈ gBIG := gIn 143 rfl rfl
set_option maxRecDepth 20000 in
theorem k_144 : (.fieldLink "BuildGrid$Target" 61 "BuildGrid$Action" "state" "I" : Cond) ∈ gBIG := gIn 144 rfl rfl
set_option maxRecDepth 20000 in
theorem k_145 : (.fieldLink "BuildGrid$Course" 112 "BuildGrid$Action" "state" "I" : Cond) ∈ gBIG := gIn 145 rfl rfl
set_option maxRecDepth 20000 in
theorem k_146 : (.fieldLink "BuildGrid$Graph" 138 "BuildGrid$Action" "state" "I" : Cond) ∈ gBIG := gIn 146 rfl rfl
set_option maxRecDepth 20000 in
theorem k_147 : (.fieldLink "BuildGrid" 213 "BuildGrid$Action" "state" "I" : Cond) ∈ gBIG := gIn 147 rfl rfl
set_option maxRecDepth 20000 in
theorem k_148 : (.fieldLink "BuildGrid$Action" 24 "BuildGrid$Action" "result" "I" : Cond) ∈ gBIG := gIn 148 rfl rfl
set_option maxRecDepth 20000 in
theorem k_149 : (.fieldLink "BuildGrid$Fresh" 72 "BuildGrid$Action" "result" "I" : Cond) ∈ gBIG := gIn 149 rfl rfl
set_option maxRecDepth 20000 in
theorem k_150 : (.fieldLink "BuildGrid$Target" 81 "BuildGrid$Action" "result" "I" : Cond) ∈ gBIG := gIn 150 rfl rfl
set_option maxRecDepth 20000 in
theorem k_151 : (.fieldLink "BuildGrid$Graph" 120 "BuildGrid$Action" "result" "I" : Cond) ∈ gBIG := gIn 151 rfl rfl
set_option maxRecDepth 20000 in
theorem k_152 : (.fieldLink "BuildGrid" 218 "BuildGrid$Action" "result" "I" : Cond) ∈ gBIG := gIn 152 rfl rfl
set_option maxRecDepth 20000 in
theorem k_153 : (.fieldLink "BuildGrid$Action" 27 "BuildGrid$Action" "worker" "I" : Cond) ∈ gBIG := gIn 153 rfl rfl
set_option maxRecDepth 20000 in
theorem k_154 : (.fieldLink "BuildGrid$Graph" 128 "BuildGrid$Action" "worker" "I" : Cond) ∈ gBIG := gIn 154 rfl rfl
set_option maxRecDepth 20000 in
theorem k_155 : (.fieldLink "BuildGrid$Action" 30 "BuildGrid$Action" "isFlake" "Z" : Cond) ∈ gBIG := gIn 155 rfl rfl
set_option maxRecDepth 20000 in
theorem k_156 : (.fieldLink "BuildGrid$Course" 229 "BuildGrid$Action" "isFlake" "Z" : Cond) ∈ gBIG := gIn 156 rfl rfl
set_option maxRecDepth 20000 in
theorem k_157 : (.fieldLink "BuildGrid$Course" 154 "BuildGrid$Action" "attempts" "I" : Cond) ∈ gBIG := gIn 157 rfl rfl
set_option maxRecDepth 20000 in
theorem k_158 : (.fieldLink "BuildGrid$Action" 21 "BuildGrid$Action" "failures" "I" : Cond) ∈ gBIG := gIn 158 rfl rfl
set_option maxRecDepth 20000 in
theorem k_159 : (.fieldLink "BuildGrid$Course" 214 "BuildGrid$Action" "failures" "I" : Cond) ∈ gBIG := gIn 159 rfl rfl
set_option maxRecDepth 20000 in
theorem k_177 : (.fieldLink "BuildGrid$Target" 21 "BuildGrid$Target" "number" "I" : Cond) ∈ gBIG := gIn 177 rfl rfl
set_option maxRecDepth 20000 in
theorem k_178 : (.fieldLink "BuildGrid$Fresh" 48 "BuildGrid$Target" "number" "I" : Cond) ∈ gBIG := gIn 178 rfl rfl
set_option maxRecDepth 20000 in
theorem k_179 : (.fieldLink "BuildGrid$Course" 88 "BuildGrid$Target" "number" "I" : Cond) ∈ gBIG := gIn 179 rfl rfl
set_option maxRecDepth 20000 in
theorem k_180 : (.fieldLink "BuildGrid" 127 "BuildGrid$Target" "number" "I" : Cond) ∈ gBIG := gIn 180 rfl rfl
set_option maxRecDepth 20000 in
theorem k_181 : (.fieldLink "BuildGrid$Graph" 86 "BuildGrid$Target" "number" "I" : Cond) ∈ gBIG := gIn 181 rfl rfl
set_option maxRecDepth 20000 in
theorem k_182 : (.fieldLink "BuildGrid$Target" 29 "BuildGrid$Target" "inputs" "LBuildGrid$Inputs;" : Cond) ∈ gBIG := gIn 182 rfl rfl
set_option maxRecDepth 20000 in
theorem k_183 : (.fieldLink "BuildGrid$View" 41 "BuildGrid$Target" "inputs" "LBuildGrid$Inputs;" : Cond) ∈ gBIG := gIn 183 rfl rfl
set_option maxRecDepth 20000 in
theorem k_184 : (.fieldLink "BuildGrid$Graph" 56 "BuildGrid$Target" "inputs" "LBuildGrid$Inputs;" : Cond) ∈ gBIG := gIn 184 rfl rfl
set_option maxRecDepth 20000 in
theorem k_185 : (.fieldLink "BuildGrid" 120 "BuildGrid$Target" "inputs" "LBuildGrid$Inputs;" : Cond) ∈ gBIG := gIn 185 rfl rfl
set_option maxRecDepth 20000 in
theorem k_186 : (.fieldLink "BuildGrid$Target" 11 "BuildGrid$Target" "actions" "[LBuildGrid$Action;" : Cond) ∈ gBIG := gIn 186 rfl rfl
set_option maxRecDepth 20000 in
theorem k_187 : (.fieldLink "BuildGrid$Graph" 131 "BuildGrid$Target" "actions" "[LBuildGrid$Action;" : Cond) ∈ gBIG := gIn 187 rfl rfl
set_option maxRecDepth 20000 in
theorem k_188 : (.fieldLink "BuildGrid$Course" 261 "BuildGrid$Target" "actions" "[LBuildGrid$Action;" : Cond) ∈ gBIG := gIn 188 rfl rfl
set_option maxRecDepth 20000 in
theorem k_189 : (.fieldLink "BuildGrid$Target" 36 "BuildGrid$Target" "kind" "I" : Cond) ∈ gBIG := gIn 189 rfl rfl
set_option maxRecDepth 20000 in
theorem k_190 : (.fieldLink "BuildGrid$View" 21 "BuildGrid$Target" "kind" "I" : Cond) ∈ gBIG := gIn 190 rfl rfl
set_option maxRecDepth 20000 in
theorem k_191 : (.fieldLink "BuildGrid" 137 "BuildGrid$Target" "kind" "I" : Cond) ∈ gBIG := gIn 191 rfl rfl
set_option maxRecDepth 20000 in
theorem k_192 : (.fieldLink "BuildGrid$Target" 39 "BuildGrid$Target" "tool" "I" : Cond) ∈ gBIG := gIn 192 rfl rfl
set_option maxRecDepth 20000 in
theorem k_193 : (.fieldLink "BuildGrid$View" 31 "BuildGrid$Target" "tool" "I" : Cond) ∈ gBIG := gIn 193 rfl rfl
set_option maxRecDepth 20000 in
theorem k_194 : (.fieldLink "BuildGrid$Worker" 47 "BuildGrid$Target" "tool" "I" : Cond) ∈ gBIG := gIn 194 rfl rfl
set_option maxRecDepth 20000 in
theorem k_195 : (.fieldLink "BuildGrid" 140 "BuildGrid$Target" "tool" "I" : Cond) ∈ gBIG := gIn 195 rfl rfl
set_option maxRecDepth 20000 in
theorem k_196 : (.fieldLink "BuildGrid$Course" 189 "BuildGrid$Target" "tool" "I" : Cond) ∈ gBIG := gIn 196 rfl rfl
set_option maxRecDepth 20000 in
theorem k_197 : (.fieldLink "BuildGrid$Target" 42 "BuildGrid$Target" "option" "I" : Cond) ∈ gBIG := gIn 197 rfl rfl
set_option maxRecDepth 20000 in
theorem k_198 : (.fieldLink "BuildGrid$View" 38 "BuildGrid$Target" "option" "I" : Cond) ∈ gBIG := gIn 198 rfl rfl
set_option maxRecDepth 20000 in
theorem k_199 : (.fieldLink "BuildGrid$Target" 45 "BuildGrid$Target" "shards" "I" : Cond) ∈ gBIG := gIn 199 rfl rfl
set_option maxRecDepth 20000 in
theorem k_200 : (.fieldLink "BuildGrid$Course" 82 "BuildGrid$Target" "shards" "I" : Cond) ∈ gBIG := gIn 200 rfl rfl
set_option maxRecDepth 20000 in
theorem k_201 : (.fieldLink "BuildGrid$Fresh" 61 "BuildGrid$Target" "shards" "I" : Cond) ∈ gBIG := gIn 201 rfl rfl
set_option maxRecDepth 20000 in
theorem k_202 : (.fieldLink "BuildGrid" 143 "BuildGrid$Target" "shards" "I" : Cond) ∈ gBIG := gIn 202 rfl rfl
set_option maxRecDepth 20000 in
theorem k_203 : (.fieldLink "BuildGrid$Graph" 113 "BuildGrid$Target" "shards" "I" : Cond) ∈ gBIG := gIn 203 rfl rfl
set_option maxRecDepth 20000 in
theorem k_204 : (.fieldLink "BuildGrid$Target" 48 "BuildGrid$Target" "finds" "I" : Cond) ∈ gBIG := gIn 204 rfl rfl
set_option maxRecDepth 20000 in
theorem k_205 : (.fieldLink "BuildGrid" 146 "BuildGrid$Target" "finds" "I" : Cond) ∈ gBIG := gIn 205 rfl rfl
set_option maxRecDepth 20000 in
theorem k_206 : (.fieldLink "BuildGrid$Target" 51 "BuildGrid$Target" "flakiness" "I" : Cond) ∈ gBIG := gIn 206 rfl rfl
set_option maxRecDepth 20000 in
theorem k_207 : (.fieldLink "BuildGrid" 149 "BuildGrid$Target" "flakiness" "I" : Cond) ∈ gBIG := gIn 207 rfl rfl
set_option maxRecDepth 20000 in
theorem k_208 : (.fieldLink "BuildGrid$Target" 17 "BuildGrid$Target" "ticksTaken" "I" : Cond) ∈ gBIG := gIn 208 rfl rfl
set_option maxRecDepth 20000 in
theorem k_209 : (.fieldLink "BuildGrid$Graph" 92 "BuildGrid$Target" "ticksTaken" "I" : Cond) ∈ gBIG := gIn 209 rfl rfl
set_option maxRecDepth 20000 in
theorem k_210 : (.fieldLink "BuildGrid$Course" 223 "BuildGrid$Target" "ticksTaken" "I" : Cond) ∈ gBIG := gIn 210 rfl rfl
set_option maxRecDepth 20000 in
theorem k_211 : (.fieldLink "BuildGrid$Course" 95 "BuildGrid$Target" "way" "I" : Cond) ∈ gBIG := gIn 211 rfl rfl
set_option maxRecDepth 20000 in
theorem k_212 : (.fieldLink "BuildGrid$Graph" 89 "BuildGrid$Target" "way" "I" : Cond) ∈ gBIG := gIn 212 rfl rfl
set_option maxRecDepth 20000 in
theorem k_213 : (.fieldLink "BuildGrid$Target" 78 "BuildGrid$Target" "flakyBuilds" "I" : Cond) ∈ gBIG := gIn 213 rfl rfl
set_option maxRecDepth 20000 in
theorem k_214 : (.fieldLink "BuildGrid$Target" 75 "BuildGrid$Target" "lastFlakyBuild" "I" : Cond) ∈ gBIG := gIn 214 rfl rfl
set_option maxRecDepth 20000 in
theorem k_242 : (.classLink "BuildGrid$Graph" 31 "BuildGrid$Inputs" : Cond) ∈ gBIG := gIn 242 rfl rfl
set_option maxRecDepth 20000 in
theorem k_243 : (.methodLink "BuildGrid$Graph" 33 ⟨"BuildGrid$Inputs", "<init>", "([I)V"⟩ : Cond) ∈ gBIG := gIn 243 rfl rfl
set_option maxRecDepth 20000 in
theorem k_244 : (.fieldLink "BuildGrid$Graph" 11 "BuildGrid$Graph" "targets" "[LBuildGrid$Target;" : Cond) ∈ gBIG := gIn 244 rfl rfl
set_option maxRecDepth 20000 in
theorem k_245 : (.fieldLink "BuildGrid$Graph" 27 "BuildGrid$Graph" "nobody" "LBuildGrid$Target;" : Cond) ∈ gBIG := gIn 245 rfl rfl
set_option maxRecDepth 20000 in
theorem k_246 : (.fieldLink "BuildGrid$Graph" 17 "BuildGrid$Graph" "proofs" "[I" : Cond) ∈ gBIG := gIn 246 rfl rfl
set_option maxRecDepth 20000 in
theorem k_247 : (.fieldLink "BuildGrid$Graph" 21 "BuildGrid$Graph" "distances" "[I" : Cond) ∈ gBIG := gIn 247 rfl rfl
set_option maxRecDepth 20000 in
theorem k_248 : (.fieldLink "BuildGrid$Graph" 36 "BuildGrid$Graph" "row" "LBuildGrid$Inputs;" : Cond) ∈ gBIG := gIn 248 rfl rfl
set_option maxRecDepth 20000 in
theorem k_249 : (.fieldLink "BuildGrid" 92 "BuildGrid$Graph" "row" "LBuildGrid$Inputs;" : Cond) ∈ gBIG := gIn 249 rfl rfl
set_option maxRecDepth 20000 in
theorem k_250 : (.fieldLink "BuildGrid$Graph" 40 "BuildGrid$Graph" "told" "I" : Cond) ∈ gBIG := gIn 250 rfl rfl
set_option maxRecDepth 20000 in
theorem k_251 : (.fieldLink "BuildGrid$Course" 65 "BuildGrid$Graph" "told" "I" : Cond) ∈ gBIG := gIn 251 rfl rfl
set_option maxRecDepth 20000 in
theorem k_252 : (.fieldLink "BuildGrid$Fresh" 91 "BuildGrid$Graph" "told" "I" : Cond) ∈ gBIG := gIn 252 rfl rfl
set_option maxRecDepth 20000 in
theorem k_253 : (.fieldLink "BuildGrid" 107 "BuildGrid$Graph" "told" "I" : Cond) ∈ gBIG := gIn 253 rfl rfl
set_option maxRecDepth 20000 in
theorem k_267 : (.classLink "BuildGrid" 29 "BuildGrid$Cache" : Cond) ∈ gBIG := gIn 267 rfl rfl
set_option maxRecDepth 20000 in
theorem k_269 : (.methodLink "BuildGrid" 31 ⟨"BuildGrid$Cache", "<init>", "()V"⟩ : Cond) ∈ gBIG := gIn 269 rfl rfl
set_option maxRecDepth 20000 in
theorem k_272 : (.methodLink "BuildGrid$Cache" 3 ⟨"java/lang/Object", "<init>", "()V"⟩ : Cond) ∈ gBIG := gIn 272 rfl rfl
set_option maxRecDepth 20000 in
theorem k_273 : (.classLink "BuildGrid$Cache" 9 "BuildGrid$Entry" : Cond) ∈ gBIG := gIn 273 rfl rfl
set_option maxRecDepth 20000 in
theorem k_276 : (.methodLinkNest "BuildGrid$Cache" 17 ⟨"BuildGrid$Entry", "<init>", "()V"⟩ "BuildGrid" : Cond) ∈ gNest := gInN 276 rfl rfl
set_option maxRecDepth 20000 in
theorem k_279 : (.methodLink "BuildGrid$Entry" 3 ⟨"java/lang/Object", "<init>", "()V"⟩ : Cond) ∈ gBIG := gIn 279 rfl rfl
set_option maxRecDepth 20000 in
theorem k_280 : (.fieldLink "BuildGrid$Entry" 9 "BuildGrid$Entry" "key" "I" : Cond) ∈ gBIG := gIn 280 rfl rfl
set_option maxRecDepth 20000 in
theorem k_281 : (.fieldLink "BuildGrid$Entry" 15 "BuildGrid$Entry" "file" "I" : Cond) ∈ gBIG := gIn 281 rfl rfl
set_option maxRecDepth 20000 in
theorem k_282 : (.fieldLink "BuildGrid$Entry" 18 "BuildGrid$Entry" "content" "I" : Cond) ∈ gBIG := gIn 282 rfl rfl
set_option maxRecDepth 20000 in
theorem k_283 : (.fieldLink "BuildGrid$Entry" 21 "BuildGrid$Entry" "result" "I" : Cond) ∈ gBIG := gIn 283 rfl rfl
set_option maxRecDepth 20000 in
theorem k_284 : (.fieldLink "BuildGrid$Cache" 47 "BuildGrid$Entry" "result" "I" : Cond) ∈ gBIG := gIn 284 rfl rfl
set_option maxRecDepth 20000 in
theorem k_285 : (.fieldLink "BuildGrid$Course" 280 "BuildGrid$Entry" "result" "I" : Cond) ∈ gBIG := gIn 285 rfl rfl
set_option maxRecDepth 20000 in
theorem k_286 : (.fieldLink "BuildGrid$Entry" 24 "BuildGrid$Entry" "worker" "I" : Cond) ∈ gBIG := gIn 286 rfl rfl
set_option maxRecDepth 20000 in
theorem k_287 : (.fieldLink "BuildGrid$Cache" 50 "BuildGrid$Entry" "worker" "I" : Cond) ∈ gBIG := gIn 287 rfl rfl
set_option maxRecDepth 20000 in
theorem k_288 : (.fieldLink "BuildGrid$Course" 285 "BuildGrid$Entry" "worker" "I" : Cond) ∈ gBIG := gIn 288 rfl rfl
set_option maxRecDepth 20000 in
theorem k_289 : (.fieldLink "BuildGrid$Entry" 35 "BuildGrid$Entry" "signature" "I" : Cond) ∈ gBIG := gIn 289 rfl rfl
set_option maxRecDepth 20000 in
theorem k_290 : (.fieldLink "BuildGrid$Entry" 27 "BuildGrid$Entry" "isThere" "Z" : Cond) ∈ gBIG := gIn 290 rfl rfl
set_option maxRecDepth 20000 in
theorem k_306 : (.fieldLink "BuildGrid$Cache" 11 "BuildGrid$Cache" "ring" "[LBuildGrid$Entry;" : Cond) ∈ gBIG := gIn 306 rfl rfl
set_option maxRecDepth 20000 in
theorem k_307 : (.fieldLink "BuildGrid$Cache" 22 "BuildGrid$Cache" "first" "I" : Cond) ∈ gBIG := gIn 307 rfl rfl
set_option maxRecDepth 20000 in
theorem k_308 : (.fieldLink "BuildGrid$Cache" 18 "BuildGrid$Cache" "size" "I" : Cond) ∈ gBIG := gIn 308 rfl rfl
set_option maxRecDepth 20000 in
theorem k_309 : (.fieldLink "BuildGrid" 171 "BuildGrid$Cache" "size" "I" : Cond) ∈ gBIG := gIn 309 rfl rfl
set_option maxRecDepth 20000 in
theorem k_317 : (.classLink "BuildGrid" 36 "BuildGrid$Course" : Cond) ∈ gBIG := gIn 317 rfl rfl
set_option maxRecDepth 20000 in
theorem k_319 : (.classLink "BuildGrid" 38 "BuildGrid$View" : Cond) ∈ gBIG := gIn 319 rfl rfl
set_option maxRecDepth 20000 in
theorem k_321 : (.methodLink "BuildGrid" 46 ⟨"BuildGrid$View", "<init>", "([I[I)V"⟩ : Cond) ∈ gBIG := gIn 321 rfl rfl
set_option maxRecDepth 20000 in
theorem k_324 : (.methodLink "BuildGrid$View" 3 ⟨"java/lang/Object", "<init>", "()V"⟩ : Cond) ∈ gBIG := gIn 324 rfl rfl
set_option maxRecDepth 20000 in
theorem k_325 : (.fieldLink "BuildGrid$View" 15 "BuildGrid$View" "versions" "[I" : Cond) ∈ gBIG := gIn 325 rfl rfl
set_option maxRecDepth 20000 in
theorem k_326 : (.fieldLink "BuildGrid$View" 18 "BuildGrid$View" "contents" "[I" : Cond) ∈ gBIG := gIn 326 rfl rfl
set_option maxRecDepth 20000 in
theorem k_327 : (.fieldLink "BuildGrid$Fresh" 84 "BuildGrid$View" "contents" "[I" : Cond) ∈ gBIG := gIn 327 rfl rfl
set_option maxRecDepth 20000 in
theorem k_328 : (.fieldLink "BuildGrid$View" 9 "BuildGrid$View" "digests" "[I" : Cond) ∈ gBIG := gIn 328 rfl rfl
set_option maxRecDepth 20000 in
theorem k_329 : (.fieldLink "BuildGrid$Fresh" 45 "BuildGrid$View" "digests" "[I" : Cond) ∈ gBIG := gIn 329 rfl rfl
set_option maxRecDepth 20000 in
theorem k_330 : (.fieldLink "BuildGrid$Course" 252 "BuildGrid$View" "digests" "[I" : Cond) ∈ gBIG := gIn 330 rfl rfl
set_option maxRecDepth 20000 in
theorem k_338 : (.methodLink "BuildGrid" 49 ⟨"BuildGrid$Course", "<init>", "(LBuildGrid$Graph;LBuildGrid$Cache;LBuildGrid$View;)V"⟩ : Cond) ∈ gBIG := gIn 338 rfl rfl
set_option maxRecDepth 20000 in
theorem k_341 : (.methodLink "BuildGrid$Course" 3 ⟨"java/lang/Object", "<init>", "()V"⟩ : Cond) ∈ gBIG := gIn 341 rfl rfl
set_option maxRecDepth 20000 in
theorem k_342 : (.classLink "BuildGrid$Course" 9 "BuildGrid$Worker" : Cond) ∈ gBIG := gIn 342 rfl rfl
set_option maxRecDepth 20000 in
theorem k_344 : (.methodLink "BuildGrid$Course" 11 ⟨"BuildGrid$Worker", "<init>", "(II)V"⟩ : Cond) ∈ gBIG := gIn 344 rfl rfl
set_option maxRecDepth 20000 in
theorem k_347 : (.methodLink "BuildGrid$Worker" 3 ⟨"java/lang/Object", "<init>", "()V"⟩ : Cond) ∈ gBIG := gIn 347 rfl rfl
set_option maxRecDepth 20000 in
theorem k_348 : (.fieldLink "BuildGrid$Worker" 15 "BuildGrid$Worker" "number" "I" : Cond) ∈ gBIG := gIn 348 rfl rfl
set_option maxRecDepth 20000 in
theorem k_349 : (.fieldLink "BuildGrid$Course" 224 "BuildGrid$Worker" "number" "I" : Cond) ∈ gBIG := gIn 349 rfl rfl
set_option maxRecDepth 20000 in
theorem k_350 : (.fieldLink "BuildGrid$Worker" 18 "BuildGrid$Worker" "power" "I" : Cond) ∈ gBIG := gIn 350 rfl rfl
set_option maxRecDepth 20000 in
theorem k_351 : (.fieldLink "BuildGrid$Course" 102 "BuildGrid$Worker" "power" "I" : Cond) ∈ gBIG := gIn 351 rfl rfl
set_option maxRecDepth 20000 in
theorem k_352 : (.fieldLink "BuildGrid" 156 "BuildGrid$Worker" "power" "I" : Cond) ∈ gBIG := gIn 352 rfl rfl
set_option maxRecDepth 20000 in
theorem k_353 : (.fieldLink "BuildGrid$Worker" 9 "BuildGrid$Worker" "warmTool" "I" : Cond) ∈ gBIG := gIn 353 rfl rfl
set_option maxRecDepth 20000 in
theorem k_354 : (.fieldLink "BuildGrid$Worker" 21 "BuildGrid$Worker" "action" "LBuildGrid$Action;" : Cond) ∈ gBIG := gIn 354 rfl rfl
set_option maxRecDepth 20000 in
theorem k_355 : (.fieldLink "BuildGrid$Course" 98 "BuildGrid$Worker" "action" "LBuildGrid$Action;" : Cond) ∈ gBIG := gIn 355 rfl rfl
set_option maxRecDepth 20000 in
theorem k_356 : (.fieldLink "BuildGrid$Worker" 28 "BuildGrid$Worker" "key" "I" : Cond) ∈ gBIG := gIn 356 rfl rfl
set_option maxRecDepth 20000 in
theorem k_357 : (.fieldLink "BuildGrid$Course" 235 "BuildGrid$Worker" "key" "I" : Cond) ∈ gBIG := gIn 357 rfl rfl
set_option maxRecDepth 20000 in
theorem k_358 : (.fieldLink "BuildGrid$Worker" 31 "BuildGrid$Worker" "content" "I" : Cond) ∈ gBIG := gIn 358 rfl rfl
set_option maxRecDepth 20000 in
theorem k_359 : (.fieldLink "BuildGrid$Course" 241 "BuildGrid$Worker" "content" "I" : Cond) ∈ gBIG := gIn 359 rfl rfl
set_option maxRecDepth 20000 in
theorem k_360 : (.fieldLink "BuildGrid$Worker" 25 "BuildGrid$Worker" "ticksLeft" "I" : Cond) ∈ gBIG := gIn 360 rfl rfl
set_option maxRecDepth 20000 in
theorem k_361 : (.fieldLink "BuildGrid$Course" 124 "BuildGrid$Worker" "ticksLeft" "I" : Cond) ∈ gBIG := gIn 361 rfl rfl
set_option maxRecDepth 20000 in
theorem k_362 : (.fieldLink "BuildGrid$Worker" 38 "BuildGrid$Worker" "ticksTaken" "I" : Cond) ∈ gBIG := gIn 362 rfl rfl
set_option maxRecDepth 20000 in
theorem k_363 : (.fieldLink "BuildGrid$Course" 220 "BuildGrid$Worker" "ticksTaken" "I" : Cond) ∈ gBIG := gIn 363 rfl rfl
set_option maxRecDepth 20000 in
theorem k_382 : (.fieldLink "BuildGrid$Course" 32 "BuildGrid$Course" "graph" "LBuildGrid$Graph;" : Cond) ∈ gBIG := gIn 382 rfl rfl
set_option maxRecDepth 20000 in
theorem k_383 : (.fieldLink "BuildGrid$Course" 36 "BuildGrid$Course" "cache" "LBuildGrid$Cache;" : Cond) ∈ gBIG := gIn 383 rfl rfl
set_option maxRecDepth 20000 in
theorem k_384 : (.fieldLink "BuildGrid$Course" 40 "BuildGrid$Course" "view" "LBuildGrid$View;" : Cond) ∈ gBIG := gIn 384 rfl rfl
set_option maxRecDepth 20000 in
theorem k_385 : (.fieldLink "BuildGrid$Course" 14 "BuildGrid$Course" "home" "LBuildGrid$Worker;" : Cond) ∈ gBIG := gIn 385 rfl rfl
set_option maxRecDepth 20000 in
theorem k_386 : (.fieldLink "BuildGrid$Course" 20 "BuildGrid$Course" "workers" "[LBuildGrid$Worker;" : Cond) ∈ gBIG := gIn 386 rfl rfl
set_option maxRecDepth 20000 in
theorem k_387 : (.fieldLink "BuildGrid$Course" 24 "BuildGrid$Course" "counts" "[I" : Cond) ∈ gBIG := gIn 387 rfl rfl
set_option maxRecDepth 20000 in
theorem k_388 : (.fieldLink "BuildGrid" 257 "BuildGrid$Course" "counts" "[I" : Cond) ∈ gBIG := gIn 388 rfl rfl
set_option maxRecDepth 20000 in
theorem k_389 : (.fieldLink "BuildGrid$Course" 58 "BuildGrid$Course" "needed" "I" : Cond) ∈ gBIG := gIn 389 rfl rfl
set_option maxRecDepth 20000 in
theorem k_390 : (.fieldLink "BuildGrid$Course" 62 "BuildGrid$Course" "builds" "I" : Cond) ∈ gBIG := gIn 390 rfl rfl
set_option maxRecDepth 20000 in
theorem k_391 : (.fieldLink "BuildGrid" 77 "BuildGrid$Course" "goesOn" "Z" : Cond) ∈ gBIG := gIn 391 rfl rfl
set_option maxRecDepth 20000 in
theorem k_392 : (.fieldLink "BuildGrid$Course" 258 "BuildGrid$Course" "goesOn" "Z" : Cond) ∈ gBIG := gIn 392 rfl rfl
set_option maxRecDepth 20000 in
theorem k_393 : (.fieldLink "BuildGrid$Course" 28 "BuildGrid$Course" "looksAtSignatures" "Z" : Cond) ∈ gBIG := gIn 393 rfl rfl
set_option maxRecDepth 20000 in
theorem k_394 : (.fieldLink "BuildGrid" 165 "BuildGrid$Course" "looksAtSignatures" "Z" : Cond) ∈ gBIG := gIn 394 rfl rfl
set_option maxRecDepth 20000 in
theorem k_395 : (.fieldLink "BuildGrid" 168 "BuildGrid$Course" "speculates" "Z" : Cond) ∈ gBIG := gIn 395 rfl rfl
set_option maxRecDepth 20000 in
theorem k_396 : (.fieldLink "BuildGrid$Course" 130 "BuildGrid$Course" "speculates" "Z" : Cond) ∈ gBIG := gIn 396 rfl rfl
set_option maxRecDepth 20000 in
theorem k_420 : (.classLink "BuildGrid" 56 "BuildGrid$Fresh" : Cond) ∈ gBIG := gIn 420 rfl rfl
set_option maxRecDepth 20000 in
theorem k_422 : (.methodLink "BuildGrid" 58 ⟨"BuildGrid$Fresh", "<init>", "(LBuildGrid$Graph;LBuildGrid$Sources;)V"⟩ : Cond) ∈ gBIG := gIn 422 rfl rfl
set_option maxRecDepth 20000 in
theorem k_425 : (.methodLink "BuildGrid$Fresh" 3 ⟨"java/lang/Object", "<init>", "()V"⟩ : Cond) ∈ gBIG := gIn 425 rfl rfl
set_option maxRecDepth 20000 in
theorem k_426 : (.classLink "BuildGrid$Fresh" 19 "BuildGrid$View" : Cond) ∈ gBIG := gIn 426 rfl rfl
set_option maxRecDepth 20000 in
theorem k_427 : (.methodLink "BuildGrid$Fresh" 27 ⟨"BuildGrid$View", "<init>", "([I[I)V"⟩ : Cond) ∈ gBIG := gIn 427 rfl rfl
set_option maxRecDepth 20000 in
theorem k_428 : (.fieldLink "BuildGrid$Fresh" 9 "BuildGrid$Fresh" "graph" "LBuildGrid$Graph;" : Cond) ∈ gBIG := gIn 428 rfl rfl
set_option maxRecDepth 20000 in
theorem k_429 : (.fieldLink "BuildGrid$Fresh" 15 "BuildGrid$Fresh" "sources" "LBuildGrid$Sources;" : Cond) ∈ gBIG := gIn 429 rfl rfl
set_option maxRecDepth 20000 in
theorem k_430 : (.fieldLink "BuildGrid$Fresh" 30 "BuildGrid$Fresh" "view" "LBuildGrid$View;" : Cond) ∈ gBIG := gIn 430 rfl rfl
set_option maxRecDepth 20000 in
theorem k_431 : (.fieldLink "BuildGrid$Fresh" 38 "BuildGrid$Fresh" "good" "I" : Cond) ∈ gBIG := gIn 431 rfl rfl
set_option maxRecDepth 20000 in
theorem k_441 : (.fieldLink "BuildGrid" 10 "BuildGrid" "sources" "LBuildGrid$Sources;" : Cond) ∈ gBIG := gIn 441 rfl rfl
set_option maxRecDepth 20000 in
theorem k_442 : (.fieldLink "BuildGrid" 25 "BuildGrid" "graph" "LBuildGrid$Graph;" : Cond) ∈ gBIG := gIn 442 rfl rfl
set_option maxRecDepth 20000 in
theorem k_443 : (.fieldLink "BuildGrid" 32 "BuildGrid" "cache" "LBuildGrid$Cache;" : Cond) ∈ gBIG := gIn 443 rfl rfl
set_option maxRecDepth 20000 in
theorem k_444 : (.fieldLink "BuildGrid" 52 "BuildGrid" "course" "LBuildGrid$Course;" : Cond) ∈ gBIG := gIn 444 rfl rfl
set_option maxRecDepth 20000 in
theorem k_445 : (.fieldLink "BuildGrid" 61 "BuildGrid" "fresh" "LBuildGrid$Fresh;" : Cond) ∈ gBIG := gIn 445 rfl rfl
set_option maxRecDepth 20000 in
theorem k_446 : (.fieldLink "BuildGrid" 206 "BuildGrid" "now" "I" : Cond) ∈ gBIG := gIn 446 rfl rfl
set_option maxRecDepth 20000 in
theorem k_447 : (.fieldLink "BuildGrid" 270 "BuildGrid" "looksAtMiddle" "I" : Cond) ∈ gBIG := gIn 447 rfl rfl
set_option maxRecDepth 20000 in
theorem k_463 : (.methodLink "BuildGridLaw" 108 ⟨"BuildGrid", "setWays", "(ZZ)V"⟩ : Cond) ∈ gBIG := gIn 463 rfl rfl
set_option maxRecDepth 20000 in
theorem k_467 : (.methodLink "BuildGridLaw" 97 ⟨"BuildGridLaw", "drawn", "([II)I"⟩ : Cond) ∈ gBIG := gIn 467 rfl rfl
set_option maxRecDepth 20000 in
theorem k_470 : (.constant "BuildGridLaw" 7 (1073741823 : Int32) : Cond) ∈ gBIG := gIn 470 rfl rfl
set_option maxRecDepth 20000 in
theorem k_471 : (.methodLink "BuildGridLaw" 82 ⟨"BuildGridLaw", "does", "(LBuildGrid;III)I"⟩ : Cond) ∈ gBIG := gIn 471 rfl rfl
set_option maxRecDepth 20000 in
theorem k_474 : (.classLink "BuildGridLaw" 63 "java/lang/IndexOutOfBoundsException" : Cond) ∈ gBIG := gIn 474 rfl rfl
set_option maxRecDepth 20000 in
theorem k_475 : (.classLink "BuildGridLaw" 65 "java/lang/IllegalArgumentException" : Cond) ∈ gBIG := gIn 475 rfl rfl
set_option maxRecDepth 20000 in
theorem k_476 : (.classLink "BuildGridLaw" 67 "java/lang/IllegalStateException" : Cond) ∈ gBIG := gIn 476 rfl rfl
set_option maxRecDepth 20000 in
theorem k_477 : (.methodLink "BuildGridLaw" 8 ⟨"BuildGrid", "write", "(II)I"⟩ : Cond) ∈ gBIG := gIn 477 rfl rfl
set_option maxRecDepth 20000 in
theorem k_481 : (.methodLink "BuildGrid" 65 ⟨"BuildGrid", "isBelow", "(II)Z"⟩ : Cond) ∈ gBIG := gIn 481 rfl rfl
set_option maxRecDepth 20000 in
theorem k_484 : (.methodLink "BuildGrid" 69 ⟨"BuildGrid", "checkArgument", "(Z)V"⟩ : Cond) ∈ gBIG := gIn 484 rfl rfl
set_option maxRecDepth 20000 in
theorem k_487 : (.classLink "BuildGrid" 176 "java/lang/IllegalArgumentException" : Cond) ∈ gBIG := gIn 487 rfl rfl
set_option maxRecDepth 20000 in
theorem k_529 : (.methodLink "BuildGrid" 180 ⟨"java/lang/IllegalArgumentException", "<init>", "(Ljava/lang/String;)V"⟩ : Cond) ∈ gBIG := gIn 529 rfl rfl
set_option maxRecDepth 20000 in
theorem k_555 : (.methodLink "BuildGrid" 73 ⟨"BuildGrid$Sources", "rewrite", "(II)I"⟩ : Cond) ∈ gBIG := gIn 555 rfl rfl
set_option maxRecDepth 20000 in
theorem k_559 : (.methodLinkNest "BuildGrid$Sources" 27 ⟨"BuildGrid", "exchange", "([III)I"⟩ "BuildGrid" : Cond) ∈ gNest := gInN 559 rfl rfl
set_option maxRecDepth 20000 in
theorem k_562 : (.methodLink "BuildGrid" 260 ⟨"BuildGrid", "at", "([II)I"⟩ : Cond) ∈ gBIG := gIn 562 rfl rfl
set_option maxRecDepth 20000 in
theorem k_565 : (.methodLink "BuildGrid" 295 ⟨"BuildGrid", "store", "([III)V"⟩ : Cond) ∈ gBIG := gIn 565 rfl rfl
set_option maxRecDepth 20000 in
theorem k_568 : (.methodLink "BuildGrid$Sources" 31 ⟨"BuildGrid$Sources", "keepChange", "(II)V"⟩ : Cond) ∈ gBIG := gIn 568 rfl rfl
set_option maxRecDepth 20000 in
theorem k_572 : (.methodLink "BuildGrid$Sources" 39 ⟨"BuildGrid$Sources", "forgetFirstChange", "()V"⟩ : Cond) ∈ gBIG := gIn 572 rfl rfl
set_option maxRecDepth 20000 in
theorem k_576 : (.methodLinkNest "BuildGrid$Sources" 46 ⟨"BuildGrid", "at", "([II)I"⟩ "BuildGrid" : Cond) ∈ gNest := gInN 576 rfl rfl
set_option maxRecDepth 20000 in
theorem k_577 : (.methodLinkNest "BuildGrid$Sources" 42 ⟨"BuildGrid", "store", "([III)V"⟩ "BuildGrid" : Cond) ∈ gNest := gInN 577 rfl rfl
set_option maxRecDepth 20000 in
theorem k_578 : (.methodLink "BuildGridLaw" 14 ⟨"BuildGrid", "set", "(II)I"⟩ : Cond) ∈ gBIG := gIn 578 rfl rfl
set_option maxRecDepth 20000 in
theorem k_582 : (.methodLink "BuildGrid" 81 ⟨"BuildGrid", "checkState", "(Z)V"⟩ : Cond) ∈ gBIG := gIn 582 rfl rfl
set_option maxRecDepth 20000 in
theorem k_585 : (.classLink "BuildGrid" 278 "java/lang/IllegalStateException" : Cond) ∈ gBIG := gIn 585 rfl rfl
set_option maxRecDepth 20000 in
theorem k_595 : (.methodLink "BuildGrid" 282 ⟨"java/lang/IllegalStateException", "<init>", "(Ljava/lang/String;)V"⟩ : Cond) ∈ gBIG := gIn 595 rfl rfl
set_option maxRecDepth 20000 in
theorem k_601 : (.methodLink "BuildGrid" 84 ⟨"BuildGrid", "exchange", "([III)I"⟩ : Cond) ∈ gBIG := gIn 601 rfl rfl
set_option maxRecDepth 20000 in
theorem k_602 : (.methodLink "BuildGridLaw" 17 ⟨"BuildGrid", "setTool", "(II)I"⟩ : Cond) ∈ gBIG := gIn 602 rfl rfl
set_option maxRecDepth 20000 in
theorem k_606 : (.methodLink "BuildGridLaw" 20 ⟨"BuildGrid", "copy", "(II)I"⟩ : Cond) ∈ gBIG := gIn 606 rfl rfl
set_option maxRecDepth 20000 in
theorem k_610 : (.methodLink "BuildGrid" 130 ⟨"BuildGrid", "checkTarget", "(I)V"⟩ : Cond) ∈ gBIG := gIn 610 rfl rfl
set_option maxRecDepth 20000 in
theorem k_614 : (.classLink "BuildGrid" 283 "java/lang/IndexOutOfBoundsException" : Cond) ∈ gBIG := gIn 614 rfl rfl
set_option maxRecDepth 20000 in
theorem k_624 : (.methodLink "BuildGrid" 287 ⟨"java/lang/IndexOutOfBoundsException", "<init>", "(Ljava/lang/String;)V"⟩ : Cond) ∈ gBIG := gIn 624 rfl rfl
set_option maxRecDepth 20000 in
theorem k_630 : (.methodLink "BuildGrid" 133 ⟨"BuildGrid$Graph", "targetAt", "(I)LBuildGrid$Target;"⟩ : Cond) ∈ gBIG := gIn 630 rfl rfl
set_option maxRecDepth 20000 in
theorem k_634 : (.methodLink "BuildGrid" 110 ⟨"BuildGrid$Graph", "tellNext", "()LBuildGrid$Target;"⟩ : Cond) ∈ gBIG := gIn 634 rfl rfl
set_option maxRecDepth 20000 in
theorem k_638 : (.methodLink "BuildGrid$Graph" 44 ⟨"BuildGrid$Graph", "targetAt", "(I)LBuildGrid$Target;"⟩ : Cond) ∈ gBIG := gIn 638 rfl rfl
set_option maxRecDepth 20000 in
theorem k_639 : (.methodLink "BuildGrid" 114 ⟨"BuildGrid$Target", "describe", "(IIIIII)V"⟩ : Cond) ∈ gBIG := gIn 639 rfl rfl
set_option maxRecDepth 20000 in
theorem k_643 : (.methodLink "BuildGrid" 123 ⟨"BuildGrid$Inputs", "become", "(LBuildGrid$Inputs;)V"⟩ : Cond) ∈ gBIG := gIn 643 rfl rfl
set_option maxRecDepth 20000 in
theorem k_647 : (.methodLinkNest "BuildGrid$Inputs" 35 ⟨"BuildGrid", "at", "([II)I"⟩ "BuildGrid" : Cond) ∈ gNest := gInN 647 rfl rfl
set_option maxRecDepth 20000 in
theorem k_648 : (.methodLink "BuildGrid$Inputs" 39 ⟨"BuildGrid$Inputs", "append", "(IIII)I"⟩ : Cond) ∈ gBIG := gIn 648 rfl rfl
set_option maxRecDepth 20000 in
theorem k_652 : (.methodLinkNest "BuildGrid$Inputs" 31 ⟨"BuildGrid", "store", "([III)V"⟩ "BuildGrid" : Cond) ∈ gNest := gInN 652 rfl rfl
set_option maxRecDepth 20000 in
theorem k_653 : (.methodLink "BuildGridLaw" 23 ⟨"BuildGrid", "setPower", "(II)I"⟩ : Cond) ∈ gBIG := gIn 653 rfl rfl
set_option maxRecDepth 20000 in
theorem k_657 : (.methodLink "BuildGrid" 152 ⟨"BuildGrid$Course", "workerAt", "(I)LBuildGrid$Worker;"⟩ : Cond) ∈ gBIG := gIn 657 rfl rfl
set_option maxRecDepth 20000 in
theorem k_661 : (.methodLink "BuildGrid" 161 ⟨"BuildGrid$Course", "changePower", "(LBuildGrid$Worker;I)V"⟩ : Cond) ∈ gBIG := gIn 661 rfl rfl
set_option maxRecDepth 20000 in
theorem k_665 : (.methodLink "BuildGrid$Course" 105 ⟨"BuildGrid$Worker", "rest", "(I)V"⟩ : Cond) ∈ gBIG := gIn 665 rfl rfl
set_option maxRecDepth 20000 in
theorem k_669 : (.methodLink "BuildGrid$Course" 108 ⟨"BuildGrid$Course", "isAnyAt", "(LBuildGrid$Action;)Z"⟩ : Cond) ∈ gBIG := gIn 669 rfl rfl
set_option maxRecDepth 20000 in
theorem k_673 : (.methodLink "BuildGrid$Course" 117 ⟨"BuildGrid$Course", "tally", "(I)V"⟩ : Cond) ∈ gBIG := gIn 673 rfl rfl
set_option maxRecDepth 20000 in
theorem k_677 : (.methodLinkNest "BuildGrid$Course" 44 ⟨"BuildGrid", "at", "([II)I"⟩ "BuildGrid" : Cond) ∈ gNest := gInN 677 rfl rfl
set_option maxRecDepth 20000 in
theorem k_678 : (.methodLinkNest "BuildGrid$Course" 48 ⟨"BuildGrid", "store", "([III)V"⟩ "BuildGrid" : Cond) ∈ gNest := gInN 678 rfl rfl
set_option maxRecDepth 20000 in
theorem k_679 : (.methodLink "BuildGridLaw" 26 ⟨"BuildGrid", "entry", "(II)I"⟩ : Cond) ∈ gBIG := gIn 679 rfl rfl
set_option maxRecDepth 20000 in
theorem k_683 : (.methodLink "BuildGrid" 172 ⟨"BuildGrid$Cache", "entryAt", "(I)LBuildGrid$Entry;"⟩ : Cond) ∈ gBIG := gIn 683 rfl rfl
set_option maxRecDepth 20000 in
theorem k_687 : (.methodLink "BuildGrid$Cache" 25 ⟨"java/lang/Math", "floorMod", "(II)I"⟩ : Cond) ∈ gBIG := gIn 687 rfl rfl
set_option maxRecDepth 20000 in
theorem k_691 : (.methodLink "BuildGrid" 183 ⟨"BuildGrid$Entry", "tell", "(I)I"⟩ : Cond) ∈ gBIG := gIn 691 rfl rfl
set_option maxRecDepth 20000 in
theorem k_695 : (.methodLink "BuildGrid$Entry" 42 ⟨"BuildGrid$Entry", "isRightlySigned", "()Z"⟩ : Cond) ∈ gBIG := gIn 695 rfl rfl
set_option maxRecDepth 20000 in
theorem k_699 : (.methodLink "BuildGrid$Entry" 31 ⟨"BuildGrid$Entry", "rightSignature", "()I"⟩ : Cond) ∈ gBIG := gIn 699 rfl rfl
set_option maxRecDepth 20000 in
theorem k_703 : (.methodLinkNest "BuildGrid$Entry" 38 ⟨"BuildGrid", "plus", "(II)I"⟩ "BuildGrid" : Cond) ∈ gNest := gInN 703 rfl rfl
set_option maxRecDepth 20000 in
theorem k_706 : (.constant "BuildGrid" 189 (100003 : Int32) : Cond) ∈ gBIG := gIn 706 rfl rfl
set_option maxRecDepth 20000 in
theorem k_707 : (.methodLink "BuildGridLaw" 29 ⟨"BuildGrid", "build", "(I)I"⟩ : Cond) ∈ gBIG := gIn 707 rfl rfl
set_option maxRecDepth 20000 in
theorem k_711 : (.methodLink "BuildGrid" 200 ⟨"BuildGrid$Course", "begin", "(I)I"⟩ : Cond) ∈ gBIG := gIn 711 rfl rfl
set_option maxRecDepth 20000 in
theorem k_715 : (.methodLink "BuildGrid$Course" 52 ⟨"BuildGrid$Graph", "withNeeded", "(I)I"⟩ : Cond) ∈ gBIG := gIn 715 rfl rfl
set_option maxRecDepth 20000 in
theorem k_719 : (.methodLinkNest "BuildGrid$Graph" 48 ⟨"BuildGrid", "bitOf", "(II)I"⟩ "BuildGrid" : Cond) ∈ gNest := gInN 719 rfl rfl
set_option maxRecDepth 20000 in
theorem k_722 : (.methodLink "BuildGrid$Graph" 52 ⟨"BuildGrid$Graph", "inputTargets", "(LBuildGrid$Target;)I"⟩ : Cond) ∈ gBIG := gIn 722 rfl rfl
set_option maxRecDepth 20000 in
theorem k_726 : (.methodLink "BuildGrid$Graph" 62 ⟨"BuildGrid$Inputs", "chosen", "(I)I"⟩ : Cond) ∈ gBIG := gIn 726 rfl rfl
set_option maxRecDepth 20000 in
theorem k_730 : (.methodLinkNest "BuildGrid$Graph" 66 ⟨"BuildGrid", "isTarget", "(I)Z"⟩ "BuildGrid" : Cond) ∈ gNest := gInN 730 rfl rfl
set_option maxRecDepth 20000 in
theorem k_733 : (.methodLink "BuildGrid$Course" 68 ⟨"BuildGrid$Graph", "targetAt", "(I)LBuildGrid$Target;"⟩ : Cond) ∈ gBIG := gIn 733 rfl rfl
set_option maxRecDepth 20000 in
theorem k_734 : (.methodLinkNest "BuildGrid$Course" 72 ⟨"BuildGrid", "bitOf", "(II)I"⟩ "BuildGrid" : Cond) ∈ gNest := gInN 734 rfl rfl
set_option maxRecDepth 20000 in
theorem k_735 : (.methodLink "BuildGrid$Course" 76 ⟨"BuildGrid$Target", "startOver", "(Z)V"⟩ : Cond) ∈ gBIG := gIn 735 rfl rfl
set_option maxRecDepth 20000 in
theorem k_739 : (.methodLink "BuildGrid$Target" 54 ⟨"BuildGrid$Target", "actionAt", "(I)LBuildGrid$Action;"⟩ : Cond) ∈ gBIG := gIn 739 rfl rfl
set_option maxRecDepth 20000 in
theorem k_743 : (.methodLink "BuildGrid$Target" 58 ⟨"BuildGrid$Action", "open", "()V"⟩ : Cond) ∈ gBIG := gIn 743 rfl rfl
set_option maxRecDepth 20000 in
theorem k_747 : (.methodLink "BuildGrid$Course" 85 ⟨"BuildGrid$Course", "settle", "()V"⟩ : Cond) ∈ gBIG := gIn 747 rfl rfl
set_option maxRecDepth 20000 in
theorem k_751 : (.methodLink "BuildGrid$Course" 265 ⟨"BuildGrid$Course", "leaveOpen", "(LBuildGrid$Target;LBuildGrid$Action;)V"⟩ : Cond) ∈ gBIG := gIn 751 rfl rfl
set_option maxRecDepth 20000 in
theorem k_755 : (.methodLink "BuildGrid$Course" 272 ⟨"BuildGrid$Graph", "stateOfInputs", "(LBuildGrid$Target;)I"⟩ : Cond) ∈ gBIG := gIn 755 rfl rfl
set_option maxRecDepth 20000 in
theorem k_759 : (.methodLink "BuildGrid$Graph" 135 ⟨"BuildGrid$Action", "isUnfinished", "()Z"⟩ : Cond) ∈ gBIG := gIn 759 rfl rfl
set_option maxRecDepth 20000 in
theorem k_763 : (.methodLink "BuildGrid$Course" 170 ⟨"BuildGrid$View", "keyOf", "(LBuildGrid$Target;I)I"⟩ : Cond) ∈ gBIG := gIn 763 rfl rfl
set_option maxRecDepth 20000 in
theorem k_767 : (.methodLinkNest "BuildGrid$View" 27 ⟨"BuildGrid", "plus", "(II)I"⟩ "BuildGrid" : Cond) ∈ gNest := gInN 767 rfl rfl
set_option maxRecDepth 20000 in
theorem k_768 : (.methodLinkNest "BuildGrid$View" 34 ⟨"BuildGrid", "at", "([II)I"⟩ "BuildGrid" : Cond) ∈ gNest := gInN 768 rfl rfl
set_option maxRecDepth 20000 in
theorem k_769 : (.methodLink "BuildGrid$View" 50 ⟨"BuildGrid$Inputs", "chosen", "(I)I"⟩ : Cond) ∈ gBIG := gIn 769 rfl rfl
set_option maxRecDepth 20000 in
theorem k_770 : (.methodLinkNest "BuildGrid$View" 54 ⟨"BuildGrid", "isTarget", "(I)Z"⟩ "BuildGrid" : Cond) ∈ gNest := gInN 770 rfl rfl
set_option maxRecDepth 20000 in
theorem k_771 : (.methodLink "BuildGrid$Course" 199 ⟨"BuildGrid$Target", "breaksOut", "(I)Z"⟩ : Cond) ∈ gBIG := gIn 771 rfl rfl
set_option maxRecDepth 20000 in
theorem k_775 : (.methodLinkNest "BuildGrid$Target" 67 ⟨"BuildGrid", "bitOf", "(II)I"⟩ "BuildGrid" : Cond) ∈ gNest := gInN 775 rfl rfl
set_option maxRecDepth 20000 in
theorem k_776 : (.methodLink "BuildGrid$Course" 176 ⟨"BuildGrid$View", "contentFound", "(LBuildGrid$Target;I)I"⟩ : Cond) ∈ gBIG := gIn 776 rfl rfl
set_option maxRecDepth 20000 in
theorem k_780 : (.methodLink "BuildGrid$View" 58 ⟨"BuildGrid$Target", "fileFound", "(I)I"⟩ : Cond) ∈ gBIG := gIn 780 rfl rfl
set_option maxRecDepth 20000 in
theorem k_784 : (.methodLink "BuildGrid$Course" 238 ⟨"BuildGrid$Target", "fileFound", "(I)I"⟩ : Cond) ∈ gBIG := gIn 784 rfl rfl
set_option maxRecDepth 20000 in
theorem k_785 : (.methodLink "BuildGrid$Course" 276 ⟨"BuildGrid$Cache", "firstFit", "(IIIZ)LBuildGrid$Entry;"⟩ : Cond) ∈ gBIG := gIn 785 rfl rfl
set_option maxRecDepth 20000 in
theorem k_789 : (.methodLink "BuildGrid$Cache" 35 ⟨"BuildGrid$Cache", "entryAt", "(I)LBuildGrid$Entry;"⟩ : Cond) ∈ gBIG := gIn 789 rfl rfl
set_option maxRecDepth 20000 in
theorem k_790 : (.methodLink "BuildGrid$Cache" 43 ⟨"BuildGrid$Entry", "isOf", "(III)Z"⟩ : Cond) ∈ gBIG := gIn 790 rfl rfl
set_option maxRecDepth 20000 in
theorem k_794 : (.methodLink "BuildGrid$Cache" 53 ⟨"BuildGrid$Entry", "isRightlySigned", "()Z"⟩ : Cond) ∈ gBIG := gIn 794 rfl rfl
set_option maxRecDepth 20000 in
theorem k_795 : (.methodLink "BuildGrid$Course" 225 ⟨"BuildGrid$Course", "finish", "(LBuildGrid$Target;LBuildGrid$Action;II)V"⟩ : Cond) ∈ gBIG := gIn 795 rfl rfl
set_option maxRecDepth 20000 in
theorem k_799 : (.methodLink "BuildGrid$Course" 250 ⟨"BuildGrid$Action", "finish", "(II)V"⟩ : Cond) ∈ gBIG := gIn 799 rfl rfl
set_option maxRecDepth 20000 in
theorem k_803 : (.methodLink "BuildGrid$Course" 255 ⟨"BuildGrid$Target", "digestOfResults", "()I"⟩ : Cond) ∈ gBIG := gIn 803 rfl rfl
set_option maxRecDepth 20000 in
theorem k_807 : (.methodLinkNest "BuildGrid$Target" 84 ⟨"BuildGrid", "plus", "(II)I"⟩ "BuildGrid" : Cond) ∈ gNest := gInN 807 rfl rfl
set_option maxRecDepth 20000 in
theorem k_808 : (.methodLink "BuildGrid$Course" 269 ⟨"BuildGrid$Action", "isUnfinished", "()Z"⟩ : Cond) ∈ gBIG := gIn 808 rfl rfl
set_option maxRecDepth 20000 in
theorem k_809 : (.methodLink "BuildGridLaw" 33 ⟨"BuildGrid", "pass", "(I)I"⟩ : Cond) ∈ gBIG := gIn 809 rfl rfl
set_option maxRecDepth 20000 in
theorem k_813 : (.methodLink "BuildGrid" 203 ⟨"BuildGrid$Course", "passTick", "()V"⟩ : Cond) ∈ gBIG := gIn 813 rfl rfl
set_option maxRecDepth 20000 in
theorem k_817 : (.methodLink "BuildGrid$Course" 127 ⟨"BuildGrid$Course", "beginReady", "()V"⟩ : Cond) ∈ gBIG := gIn 817 rfl rfl
set_option maxRecDepth 20000 in
theorem k_821 : (.methodLink "BuildGrid$Course" 91 ⟨"BuildGrid$Graph", "findWays", "(I)V"⟩ : Cond) ∈ gBIG := gIn 821 rfl rfl
set_option maxRecDepth 20000 in
theorem k_825 : (.methodLink "BuildGrid$Graph" 95 ⟨"BuildGrid$Graph", "spreadWay", "(LBuildGrid$Target;)V"⟩ : Cond) ∈ gBIG := gIn 825 rfl rfl
set_option maxRecDepth 20000 in
theorem k_829 : (.methodLink "BuildGrid$Graph" 98 ⟨"java/lang/Math", "max", "(II)I"⟩ : Cond) ∈ gBIG := gIn 829 rfl rfl
set_option maxRecDepth 20000 in
theorem k_832 : (.methodLink "BuildGrid$Course" 146 ⟨"BuildGrid$Course", "strongestIdle", "()LBuildGrid$Worker;"⟩ : Cond) ∈ gBIG := gIn 832 rfl rfl
set_option maxRecDepth 20000 in
theorem k_836 : (.methodLink "BuildGrid$Course" 120 ⟨"BuildGrid$Worker", "isIdle", "()Z"⟩ : Cond) ∈ gBIG := gIn 836 rfl rfl
set_option maxRecDepth 20000 in
theorem k_840 : (.methodLink "BuildGrid$Course" 150 ⟨"BuildGrid$Course", "longestReady", "()LBuildGrid$Action;"⟩ : Cond) ∈ gBIG := gIn 840 rfl rfl
set_option maxRecDepth 20000 in
theorem k_844 : (.methodLink "BuildGrid$Course" 161 ⟨"BuildGrid$Target", "firstReady", "()LBuildGrid$Action;"⟩ : Cond) ∈ gBIG := gIn 844 rfl rfl
set_option maxRecDepth 20000 in
theorem k_848 : (.methodLink "BuildGrid$Course" 157 ⟨"BuildGrid$Course", "start", "(LBuildGrid$Worker;LBuildGrid$Action;)V"⟩ : Cond) ∈ gBIG := gIn 848 rfl rfl
set_option maxRecDepth 20000 in
theorem k_852 : (.methodLink "BuildGrid$Course" 179 ⟨"BuildGrid$Worker", "start", "(LBuildGrid$Action;LBuildGrid$Target;II)V"⟩ : Cond) ∈ gBIG := gIn 852 rfl rfl
set_option maxRecDepth 20000 in
theorem k_856 : (.methodLink "BuildGrid$Worker" 34 ⟨"BuildGrid$Worker", "ticksFor", "(LBuildGrid$Target;)I"⟩ : Cond) ∈ gBIG := gIn 856 rfl rfl
set_option maxRecDepth 20000 in
theorem k_860 : (.methodLink "BuildGrid$Worker" 41 ⟨"BuildGrid$Target", "work", "()I"⟩ : Cond) ∈ gBIG := gIn 860 rfl rfl
set_option maxRecDepth 20000 in
theorem k_864 : (.methodLink "BuildGrid$Worker" 50 ⟨"java/lang/Math", "max", "(II)I"⟩ : Cond) ∈ gBIG := gIn 864 rfl rfl
set_option maxRecDepth 20000 in
theorem k_865 : (.methodLink "BuildGrid$Course" 133 ⟨"BuildGrid$Course", "speculate", "()V"⟩ : Cond) ∈ gBIG := gIn 865 rfl rfl
set_option maxRecDepth 20000 in
theorem k_869 : (.methodLink "BuildGrid$Course" 182 ⟨"BuildGrid$Course", "longestBusy", "()LBuildGrid$Worker;"⟩ : Cond) ∈ gBIG := gIn 869 rfl rfl
set_option maxRecDepth 20000 in
theorem k_873 : (.methodLink "BuildGrid$Course" 136 ⟨"BuildGrid$Worker", "spendTick", "()V"⟩ : Cond) ∈ gBIG := gIn 873 rfl rfl
set_option maxRecDepth 20000 in
theorem k_877 : (.methodLink "BuildGrid$Course" 139 ⟨"BuildGrid$Worker", "hasEnded", "()Z"⟩ : Cond) ∈ gBIG := gIn 877 rfl rfl
set_option maxRecDepth 20000 in
theorem k_881 : (.methodLink "BuildGrid$Course" 142 ⟨"BuildGrid$Course", "end", "(LBuildGrid$Worker;)V"⟩ : Cond) ∈ gBIG := gIn 881 rfl rfl
set_option maxRecDepth 20000 in
theorem k_885 : (.methodLink "BuildGrid$Course" 185 ⟨"BuildGrid$Course", "dismissFrom", "(LBuildGrid$Action;)V"⟩ : Cond) ∈ gBIG := gIn 885 rfl rfl
set_option maxRecDepth 20000 in
theorem k_889 : (.methodLink "BuildGrid$Course" 192 ⟨"BuildGrid$Worker", "beganWith", "(II)Z"⟩ : Cond) ∈ gBIG := gIn 889 rfl rfl
set_option maxRecDepth 20000 in
theorem k_893 : (.methodLink "BuildGrid$Course" 196 ⟨"BuildGrid$Action", "open", "()V"⟩ : Cond) ∈ gBIG := gIn 893 rfl rfl
set_option maxRecDepth 20000 in
theorem k_894 : (.methodLink "BuildGrid$Course" 203 ⟨"BuildGrid$Course", "judge", "(LBuildGrid$Target;LBuildGrid$Action;LBuildGrid$Worker;)V"⟩ : Cond) ∈ gBIG := gIn 894 rfl rfl
set_option maxRecDepth 20000 in
theorem k_898 : (.methodLink "BuildGrid$Course" 207 ⟨"BuildGrid$Worker", "resultMade", "()I"⟩ : Cond) ∈ gBIG := gIn 898 rfl rfl
set_option maxRecDepth 20000 in
theorem k_902 : (.methodLinkNest "BuildGrid$Worker" 56 ⟨"BuildGrid", "resultOf", "(II)I"⟩ "BuildGrid" : Cond) ∈ gNest := gInN 902 rfl rfl
set_option maxRecDepth 20000 in
theorem k_905 : (.methodLink "BuildGrid" 299 ⟨"BuildGrid", "plus", "(II)I"⟩ : Cond) ∈ gBIG := gIn 905 rfl rfl
set_option maxRecDepth 20000 in
theorem k_906 : (.methodLink "BuildGrid$Course" 211 ⟨"BuildGrid$Target", "failsAt", "(II)Z"⟩ : Cond) ∈ gBIG := gIn 906 rfl rfl
set_option maxRecDepth 20000 in
theorem k_910 : (.methodLink "BuildGrid$Target" 71 ⟨"BuildGrid$Target", "isGoodResult", "(I)Z"⟩ : Cond) ∈ gBIG := gIn 910 rfl rfl
set_option maxRecDepth 20000 in
theorem k_914 : (.methodLink "BuildGrid$Course" 217 ⟨"BuildGrid$Target", "isInQuarantine", "()Z"⟩ : Cond) ∈ gBIG := gIn 914 rfl rfl
set_option maxRecDepth 20000 in
theorem k_918 : (.methodLink "BuildGrid$Course" 232 ⟨"BuildGrid$Target", "noteFlakeIn", "(I)V"⟩ : Cond) ∈ gBIG := gIn 918 rfl rfl
set_option maxRecDepth 20000 in
theorem k_922 : (.methodLink "BuildGrid$Course" 244 ⟨"BuildGrid$Cache", "keep", "(IIIII)V"⟩ : Cond) ∈ gBIG := gIn 922 rfl rfl
set_option maxRecDepth 20000 in
theorem k_926 : (.methodLink "BuildGrid$Cache" 31 ⟨"BuildGrid$Cache", "hasAlike", "(IIIII)Z"⟩ : Cond) ∈ gBIG := gIn 926 rfl rfl
set_option maxRecDepth 20000 in
theorem k_930 : (.methodLink "BuildGrid$Cache" 39 ⟨"BuildGrid$Entry", "fill", "(IIIII)V"⟩ : Cond) ∈ gBIG := gIn 930 rfl rfl
set_option maxRecDepth 20000 in
theorem k_934 : (.methodLink "BuildGridLaw" 36 ⟨"BuildGrid", "state", "(II)I"⟩ : Cond) ∈ gBIG := gIn 934 rfl rfl
set_option maxRecDepth 20000 in
theorem k_938 : (.methodLink "BuildGrid" 209 ⟨"BuildGrid", "checkedAction", "(II)LBuildGrid$Action;"⟩ : Cond) ∈ gBIG := gIn 938 rfl rfl
set_option maxRecDepth 20000 in
theorem k_942 : (.methodLink "BuildGrid" 291 ⟨"BuildGrid$Target", "actionAt", "(I)LBuildGrid$Action;"⟩ : Cond) ∈ gBIG := gIn 942 rfl rfl
set_option maxRecDepth 20000 in
theorem k_943 : (.methodLink "BuildGridLaw" 39 ⟨"BuildGrid", "result", "(II)I"⟩ : Cond) ∈ gBIG := gIn 943 rfl rfl
set_option maxRecDepth 20000 in
theorem k_947 : (.methodLink "BuildGridLaw" 42 ⟨"BuildGrid", "about", "(II)I"⟩ : Cond) ∈ gBIG := gIn 947 rfl rfl
set_option maxRecDepth 20000 in
theorem k_951 : (.methodLink "BuildGrid" 219 ⟨"BuildGrid$Graph", "soundTargets", "()I"⟩ : Cond) ∈ gBIG := gIn 951 rfl rfl
set_option maxRecDepth 20000 in
theorem k_955 : (.methodLink "BuildGrid$Graph" 107 ⟨"BuildGrid$Target", "isSoundAlone", "()Z"⟩ : Cond) ∈ gBIG := gIn 955 rfl rfl
set_option maxRecDepth 20000 in
theorem k_959 : (.methodLink "BuildGrid$Target" 87 ⟨"BuildGrid$Action", "isSound", "()Z"⟩ : Cond) ∈ gBIG := gIn 959 rfl rfl
set_option maxRecDepth 20000 in
theorem k_963 : (.methodLink "BuildGrid" 223 ⟨"BuildGrid", "bitOf", "(II)I"⟩ : Cond) ∈ gBIG := gIn 963 rfl rfl
set_option maxRecDepth 20000 in
theorem k_964 : (.methodLink "BuildGrid" 226 ⟨"BuildGrid$Fresh", "isStale", "(LBuildGrid$Target;)Z"⟩ : Cond) ∈ gBIG := gIn 964 rfl rfl
set_option maxRecDepth 20000 in
theorem k_968 : (.methodLink "BuildGrid$Fresh" 57 ⟨"BuildGrid$Target", "isAllDone", "()Z"⟩ : Cond) ∈ gBIG := gIn 968 rfl rfl
set_option maxRecDepth 20000 in
theorem k_972 : (.methodLink "BuildGrid$Fresh" 34 ⟨"BuildGrid$Fresh", "make", "(I)V"⟩ : Cond) ∈ gBIG := gIn 972 rfl rfl
set_option maxRecDepth 20000 in
theorem k_976 : (.methodLink "BuildGrid$Fresh" 87 ⟨"BuildGrid$Sources", "filesAfter", "(I[I)V"⟩ : Cond) ∈ gBIG := gIn 976 rfl rfl
set_option maxRecDepth 20000 in
theorem k_980 : (.methodLink "BuildGrid$Fresh" 96 ⟨"BuildGrid$Graph", "targetAt", "(I)LBuildGrid$Target;"⟩ : Cond) ∈ gBIG := gIn 980 rfl rfl
set_option maxRecDepth 20000 in
theorem k_981 : (.methodLink "BuildGrid$Fresh" 100 ⟨"BuildGrid$Fresh", "makeTarget", "(LBuildGrid$Target;)V"⟩ : Cond) ∈ gBIG := gIn 981 rfl rfl
set_option maxRecDepth 20000 in
theorem k_985 : (.methodLink "BuildGrid$Fresh" 104 ⟨"BuildGrid$Graph", "inputTargets", "(LBuildGrid$Target;)I"⟩ : Cond) ∈ gBIG := gIn 985 rfl rfl
set_option maxRecDepth 20000 in
theorem k_986 : (.methodLink "BuildGrid$Fresh" 64 ⟨"BuildGrid$View", "keyOf", "(LBuildGrid$Target;I)I"⟩ : Cond) ∈ gBIG := gIn 986 rfl rfl
set_option maxRecDepth 20000 in
theorem k_987 : (.methodLink "BuildGrid$Fresh" 77 ⟨"BuildGrid$View", "contentFound", "(LBuildGrid$Target;I)I"⟩ : Cond) ∈ gBIG := gIn 987 rfl rfl
set_option maxRecDepth 20000 in
theorem k_988 : (.methodLinkNest "BuildGrid$Fresh" 80 ⟨"BuildGrid", "resultOf", "(II)I"⟩ "BuildGrid" : Cond) ∈ gNest := gInN 988 rfl rfl
set_option maxRecDepth 20000 in
theorem k_989 : (.methodLinkNest "BuildGrid$Fresh" 108 ⟨"BuildGrid", "plus", "(II)I"⟩ "BuildGrid" : Cond) ∈ gNest := gInN 989 rfl rfl
set_option maxRecDepth 20000 in
theorem k_990 : (.methodLink "BuildGrid$Fresh" 111 ⟨"BuildGrid$Target", "breaksOut", "(I)Z"⟩ : Cond) ∈ gBIG := gIn 990 rfl rfl
set_option maxRecDepth 20000 in
theorem k_991 : (.methodLink "BuildGrid$Fresh" 115 ⟨"BuildGrid$Target", "isGoodResult", "(I)Z"⟩ : Cond) ∈ gBIG := gIn 991 rfl rfl
set_option maxRecDepth 20000 in
theorem k_992 : (.methodLinkNest "BuildGrid$Fresh" 118 ⟨"BuildGrid", "store", "([III)V"⟩ "BuildGrid" : Cond) ∈ gNest := gInN 992 rfl rfl
set_option maxRecDepth 20000 in
theorem k_993 : (.methodLink "BuildGrid$Fresh" 68 ⟨"BuildGrid$Target", "actionAt", "(I)LBuildGrid$Action;"⟩ : Cond) ∈ gBIG := gIn 993 rfl rfl
set_option maxRecDepth 20000 in
theorem k_994 : (.methodLink "BuildGrid" 230 ⟨"BuildGrid$Target", "isInQuarantine", "()Z"⟩ : Cond) ∈ gBIG := gIn 994 rfl rfl
set_option maxRecDepth 20000 in
theorem k_995 : (.methodLink "BuildGrid" 237 ⟨"BuildGrid$Fresh", "goodTargets", "(I)I"⟩ : Cond) ∈ gBIG := gIn 995 rfl rfl
set_option maxRecDepth 20000 in
theorem k_999 : (.methodLink "BuildGrid" 240 ⟨"BuildGrid$Fresh", "digestOf", "(LBuildGrid$Target;)I"⟩ : Cond) ∈ gBIG := gIn 999 rfl rfl
set_option maxRecDepth 20000 in
theorem k_1003 : (.methodLinkNest "BuildGrid$Fresh" 53 ⟨"BuildGrid", "at", "([II)I"⟩ "BuildGrid" : Cond) ∈ gNest := gInN 1003 rfl rfl
set_option maxRecDepth 20000 in
theorem k_1004 : (.methodLink "BuildGrid" 244 ⟨"BuildGrid$Course", "wayOf", "(LBuildGrid$Target;)I"⟩ : Cond) ∈ gBIG := gIn 1004 rfl rfl
set_option maxRecDepth 20000 in
theorem k_1008 : (.methodLink "BuildGridLaw" 45 ⟨"BuildGrid", "proof", "(I)I"⟩ : Cond) ∈ gBIG := gIn 1008 rfl rfl
set_option maxRecDepth 20000 in
theorem k_1012 : (.methodLink "BuildGrid" 247 ⟨"BuildGrid$Graph", "withNeeded", "(I)I"⟩ : Cond) ∈ gBIG := gIn 1012 rfl rfl
set_option maxRecDepth 20000 in
theorem k_1013 : (.methodLink "BuildGrid" 250 ⟨"BuildGrid$Graph", "isAllDone", "(I)Z"⟩ : Cond) ∈ gBIG := gIn 1013 rfl rfl
set_option maxRecDepth 20000 in
theorem k_1017 : (.methodLink "BuildGrid$Graph" 103 ⟨"BuildGrid$Target", "isAllDone", "()Z"⟩ : Cond) ∈ gBIG := gIn 1017 rfl rfl
set_option maxRecDepth 20000 in
theorem k_1018 : (.methodLink "BuildGrid" 254 ⟨"BuildGrid$Graph", "proofOf", "(I)I"⟩ : Cond) ∈ gBIG := gIn 1018 rfl rfl
set_option maxRecDepth 20000 in
theorem k_1022 : (.methodLink "BuildGrid$Graph" 110 ⟨"BuildGrid$Graph", "proofOverInputs", "(LBuildGrid$Target;)I"⟩ : Cond) ∈ gBIG := gIn 1022 rfl rfl
set_option maxRecDepth 20000 in
theorem k_1026 : (.methodLink "BuildGrid$Graph" 116 ⟨"BuildGrid$Target", "actionAt", "(I)LBuildGrid$Action;"⟩ : Cond) ∈ gBIG := gIn 1026 rfl rfl
set_option maxRecDepth 20000 in
theorem k_1027 : (.methodLinkNest "BuildGrid$Graph" 125 ⟨"BuildGrid", "plus", "(II)I"⟩ "BuildGrid" : Cond) ∈ gNest := gInN 1027 rfl rfl
set_option maxRecDepth 20000 in
theorem k_1028 : (.methodLinkNest "BuildGrid$Graph" 78 ⟨"BuildGrid", "at", "([II)I"⟩ "BuildGrid" : Cond) ∈ gNest := gInN 1028 rfl rfl
set_option maxRecDepth 20000 in
theorem k_1029 : (.methodLinkNest "BuildGrid$Graph" 74 ⟨"BuildGrid", "store", "([III)V"⟩ "BuildGrid" : Cond) ∈ gNest := gInN 1029 rfl rfl
set_option maxRecDepth 20000 in
theorem k_1030 : (.methodLink "BuildGridLaw" 48 ⟨"BuildGrid", "count", "(I)I"⟩ : Cond) ∈ gBIG := gIn 1030 rfl rfl
set_option maxRecDepth 20000 in
theorem k_1034 : (.methodLink "BuildGridLaw" 51 ⟨"BuildGrid", "needed", "(I)I"⟩ : Cond) ∈ gBIG := gIn 1034 rfl rfl
set_option maxRecDepth 20000 in
theorem k_1038 : (.methodLink "BuildGridLaw" 54 ⟨"BuildGrid", "needing", "(I)I"⟩ : Cond) ∈ gBIG := gIn 1038 rfl rfl
set_option maxRecDepth 20000 in
theorem k_1042 : (.methodLink "BuildGrid" 88 ⟨"BuildGrid", "checkThing", "(I)V"⟩ : Cond) ∈ gBIG := gIn 1042 rfl rfl
set_option maxRecDepth 20000 in
theorem k_1046 : (.methodLink "BuildGrid" 288 ⟨"BuildGrid", "isTarget", "(I)Z"⟩ : Cond) ∈ gBIG := gIn 1046 rfl rfl
set_option maxRecDepth 20000 in
theorem k_1047 : (.methodLink "BuildGrid" 264 ⟨"BuildGrid$Graph", "targetsOver", "(I)I"⟩ : Cond) ∈ gBIG := gIn 1047 rfl rfl
set_option maxRecDepth 20000 in
theorem k_1051 : (.methodLink "BuildGrid$Graph" 70 ⟨"BuildGrid$Graph", "hasInput", "(LBuildGrid$Target;I)Z"⟩ : Cond) ∈ gBIG := gIn 1051 rfl rfl
set_option maxRecDepth 20000 in
theorem k_1055 : (.methodLink "BuildGridLaw" 57 ⟨"BuildGrid", "steps", "(II)I"⟩ : Cond) ∈ gBIG := gIn 1055 rfl rfl
set_option maxRecDepth 20000 in
theorem k_1059 : (.methodLink "BuildGrid" 267 ⟨"BuildGrid$Graph", "distance", "(II)I"⟩ : Cond) ∈ gBIG := gIn 1059 rfl rfl
set_option maxRecDepth 20000 in
theorem k_1063 : (.methodLink "BuildGrid$Graph" 82 ⟨"BuildGrid$Graph", "spreadDistance", "(LBuildGrid$Target;)V"⟩ : Cond) ∈ gBIG := gIn 1063 rfl rfl
set_option maxRecDepth 20000 in
theorem k_1067 : (.methodLink "BuildGridLaw" 60 ⟨"BuildGrid", "bisect", "(I)I"⟩ : Cond) ∈ gBIG := gIn 1067 rfl rfl
set_option maxRecDepth 20000 in
theorem k_1071 : (.methodLink "BuildGrid" 273 ⟨"BuildGrid", "isGoodAfter", "(II)Z"⟩ : Cond) ∈ gBIG := gIn 1071 rfl rfl
set_option maxRecDepth 20000 in
theorem k_1075 : (.methodLink "BuildGridLaw" 101 ⟨"BuildGridLaw", "input", "(LBuildGrid;IIII)I"⟩ : Cond) ∈ gBIG := gIn 1075 rfl rfl
set_option maxRecDepth 20000 in
theorem k_1078 : (.methodLink "BuildGridLaw" 69 ⟨"BuildGrid", "input", "(IIII)I"⟩ : Cond) ∈ gBIG := gIn 1078 rfl rfl
set_option maxRecDepth 20000 in
theorem k_1082 : (.methodLink "BuildGrid" 102 ⟨"BuildGrid$Inputs", "append", "(IIII)I"⟩ : Cond) ∈ gBIG := gIn 1082 rfl rfl
set_option maxRecDepth 20000 in
theorem k_1083 : (.methodLink "BuildGridLaw" 105 ⟨"BuildGridLaw", "target", "(LBuildGrid;IIIIII)I"⟩ : Cond) ∈ gBIG := gIn 1083 rfl rfl
set_option maxRecDepth 20000 in
theorem k_1086 : (.methodLink "BuildGridLaw" 73 ⟨"BuildGrid", "target", "(IIIIII)I"⟩ : Cond) ∈ gBIG := gIn 1086 rfl rfl
set_option maxRecDepth 20000 in
theorem k_1090 : (.constant "BuildGrid" 106 (65536 : Int32) : Cond) ∈ gBIG := gIn 1090 rfl rfl
set_option maxRecDepth 20000 in
theorem k_1091 : (.methodLink "BuildGridLaw" 112 ⟨"BuildGridLaw", "isKept", "(LBuildGrid;II)Z"⟩ : Cond) ∈ gBIG := gIn 1091 rfl rfl
set_option maxRecDepth 20000 in
theorem k_1094 : (.methodLink "BuildGridLaw" 88 ⟨"BuildGridLaw", "ends", "(LBuildGrid;)Z"⟩ : Cond) ∈ gBIG := gIn 1094 rfl rfl
set_option maxRecDepth 20000 in
theorem k_1097 : (.methodLink "BuildGridLaw" 78 ⟨"BuildGrid", "goesOn", "()Z"⟩ : Cond) ∈ gBIG := gIn 1097 rfl rfl
set_option maxRecDepth 20000 in
theorem k_1101 : (.methodLink "BuildGridLaw" 92 ⟨"BuildGrid", "entries", "()I"⟩ : Cond) ∈ gBIG := gIn 1101 rfl rfl
set_option maxRecDepth 20000 in
theorem k_1105 : (.constant "BuildGridLaw" 104 (65535 : Int32) : Cond) ∈ gBIG := gIn 1105 rfl rfl
set_option maxRecDepth 20000 in
theorem k_489 : (.castable "java/lang/IllegalArgumentException" "java/lang/IllegalArgumentException" : Cond) ∈ gNest := gInN 489 rfl rfl
set_option maxRecDepth 20000 in
theorem k_587 : (.castable "java/lang/IllegalStateException" "java/lang/IllegalStateException" : Cond) ∈ gNest := gInN 587 rfl rfl
set_option maxRecDepth 20000 in
theorem k_616 : (.castable "java/lang/IndexOutOfBoundsException" "java/lang/IndexOutOfBoundsException" : Cond) ∈ gNest := gInN 616 rfl rfl
set_option maxRecDepth 20000 in
theorem k_51 : (.instantiable "BuildGrid" 7 : Cond) ∈ gBIG := gIn 51 rfl rfl
set_option maxRecDepth 20000 in
theorem k_59 : (.instantiable "BuildGrid$Sources" 6 : Cond) ∈ gBIG := gIn 59 rfl rfl
set_option maxRecDepth 20000 in
theorem k_89 : (.arrayClass Jvm.ClassFile.FieldType.int : Cond) ∈ gBIG := gIn 89 rfl rfl
set_option maxRecDepth 20000 in
theorem k_91 : (.instantiable "BuildGrid$Graph" 6 : Cond) ∈ gBIG := gIn 91 rfl rfl
set_option maxRecDepth 20000 in
theorem k_97 : (.arrayOver (Jvm.ClassFile.FieldType.object "BuildGrid$Target") : Cond) ∈ gNest := gInN 97 rfl rfl
set_option maxRecDepth 20000 in
theorem k_98 : (.instantiable "BuildGrid$Target" 13 : Cond) ∈ gBIG := gIn 98 rfl rfl
set_option maxRecDepth 20000 in
theorem k_104 : (.arrayOver (Jvm.ClassFile.FieldType.object "BuildGrid$Action") : Cond) ∈ gNest := gInN 104 rfl rfl
set_option maxRecDepth 20000 in
theorem k_106 : (.instantiable "BuildGrid$Inputs" 6 : Cond) ∈ gBIG := gIn 106 rfl rfl
set_option maxRecDepth 20000 in
theorem k_134 : (.instantiable "BuildGrid$Action" 8 : Cond) ∈ gBIG := gIn 134 rfl rfl
set_option maxRecDepth 20000 in
theorem k_268 : (.instantiable "BuildGrid$Cache" 3 : Cond) ∈ gBIG := gIn 268 rfl rfl
set_option maxRecDepth 20000 in
theorem k_274 : (.arrayOver (Jvm.ClassFile.FieldType.object "BuildGrid$Entry") : Cond) ∈ gNest := gInN 274 rfl rfl
set_option maxRecDepth 20000 in
theorem k_275 : (.instantiable "BuildGrid$Entry" 7 : Cond) ∈ gBIG := gIn 275 rfl rfl
set_option maxRecDepth 20000 in
theorem k_318 : (.instantiable "BuildGrid$Course" 11 : Cond) ∈ gBIG := gIn 318 rfl rfl
set_option maxRecDepth 20000 in
theorem k_320 : (.instantiable "BuildGrid$View" 3 : Cond) ∈ gBIG := gIn 320 rfl rfl
set_option maxRecDepth 20000 in
theorem k_343 : (.instantiable "BuildGrid$Worker" 8 : Cond) ∈ gBIG := gIn 343 rfl rfl
set_option maxRecDepth 20000 in
theorem k_381 : (.arrayOver (Jvm.ClassFile.FieldType.object "BuildGrid$Worker") : Cond) ∈ gNest := gInN 381 rfl rfl
set_option maxRecDepth 20000 in
theorem k_421 : (.instantiable "BuildGrid$Fresh" 4 : Cond) ∈ gBIG := gIn 421 rfl rfl
set_option maxRecDepth 20000 in
theorem k_473 : (.codeWith ⟨"BuildGridLaw", "does", "(LBuildGrid;III)I"⟩ method_3_code 5 (some Jvm.ClassFile.FieldType.int) [(0, 232, 233, 63), (0, 232, 238, 65), (0, 232, 243, 67)] : Cond) ∈ gBIG := gIn 473 rfl rfl
set_option maxRecDepth 20000 in
theorem k_488 : (.instantiable "java/lang/IllegalArgumentException" 6 : Cond) ∈ gBIG := gIn 488 rfl rfl
set_option maxRecDepth 20000 in
theorem k_526 : (.instantiable "java/lang/Throwable" 6 : Cond) ∈ gBIG := gIn 526 rfl rfl
set_option maxRecDepth 20000 in
theorem k_554 : (.arrayClass Jvm.ClassFile.FieldType.byte : Cond) ∈ gBIG := gIn 554 rfl rfl
set_option maxRecDepth 20000 in
theorem k_586 : (.instantiable "java/lang/IllegalStateException" 6 : Cond) ∈ gBIG := gIn 586 rfl rfl
set_option maxRecDepth 20000 in
theorem k_615 : (.instantiable "java/lang/IndexOutOfBoundsException" 6 : Cond) ∈ gBIG := gIn 615 rfl rfl
set_option maxRecDepth 20000 in
theorem k_1077 : (.codeWith ⟨"BuildGridLaw", "input", "(LBuildGrid;IIII)I"⟩ method_4_code 6 (some Jvm.ClassFile.FieldType.int) [(0, 9, 10, 63), (0, 9, 15, 65), (0, 9, 20, 67)] : Cond) ∈ gBIG := gIn 1077 rfl rfl
set_option maxRecDepth 20000 in
theorem k_1085 : (.codeWith ⟨"BuildGridLaw", "target", "(LBuildGrid;IIIIII)I"⟩ method_5_code 8 (some Jvm.ClassFile.FieldType.int) [(0, 13, 14, 65), (0, 13, 19, 67)] : Cond) ∈ gBIG := gIn 1085 rfl rfl
set_option maxRecDepth 20000 in
theorem k_30 : (.initialized "BuildGridLaw" : Cond) ∈ gBIG := gIn 30 rfl rfl
set_option maxRecDepth 20000 in
theorem k_31 : (.initialized "BuildGrid" : Cond) ∈ gBIG := gIn 31 rfl rfl
set_option maxRecDepth 20000 in
theorem k_32 : (.initialized "BuildGrid$Sources" : Cond) ∈ gBIG := gIn 32 rfl rfl
set_option maxRecDepth 20000 in
theorem k_33 : (.initialized "BuildGrid$Graph" : Cond) ∈ gBIG := gIn 33 rfl rfl
set_option maxRecDepth 20000 in
theorem k_34 : (.initialized "BuildGrid$Target" : Cond) ∈ gBIG := gIn 34 rfl rfl
set_option maxRecDepth 20000 in
theorem k_35 : (.initialized "BuildGrid$Inputs" : Cond) ∈ gBIG := gIn 35 rfl rfl
set_option maxRecDepth 20000 in
theorem k_36 : (.initialized "BuildGrid$Action" : Cond) ∈ gBIG := gIn 36 rfl rfl
set_option maxRecDepth 20000 in
theorem k_37 : (.initialized "BuildGrid$Cache" : Cond) ∈ gBIG := gIn 37 rfl rfl
set_option maxRecDepth 20000 in
theorem k_38 : (.initialized "BuildGrid$Entry" : Cond) ∈ gBIG := gIn 38 rfl rfl
set_option maxRecDepth 20000 in
theorem k_39 : (.initialized "BuildGrid$Course" : Cond) ∈ gBIG := gIn 39 rfl rfl
set_option maxRecDepth 20000 in
theorem k_40 : (.initialized "BuildGrid$View" : Cond) ∈ gBIG := gIn 40 rfl rfl
set_option maxRecDepth 20000 in
theorem k_41 : (.initialized "BuildGrid$Worker" : Cond) ∈ gBIG := gIn 41 rfl rfl
set_option maxRecDepth 20000 in
theorem k_42 : (.initialized "BuildGrid$Fresh" : Cond) ∈ gBIG := gIn 42 rfl rfl
set_option maxRecDepth 20000 in
theorem k_43 : (.initialized "java/lang/Throwable" : Cond) ∈ gBIG := gIn 43 rfl rfl
set_option maxRecDepth 20000 in
theorem k_44 : (.initialized "java/lang/Exception" : Cond) ∈ gBIG := gIn 44 rfl rfl
set_option maxRecDepth 20000 in
theorem k_45 : (.initialized "java/lang/RuntimeException" : Cond) ∈ gBIG := gIn 45 rfl rfl
set_option maxRecDepth 20000 in
theorem k_46 : (.initialized "java/lang/IllegalArgumentException" : Cond) ∈ gBIG := gIn 46 rfl rfl
set_option maxRecDepth 20000 in
theorem k_47 : (.initialized "java/lang/IndexOutOfBoundsException" : Cond) ∈ gBIG := gIn 47 rfl rfl
set_option maxRecDepth 20000 in
theorem k_48 : (.initialized "java/lang/IllegalStateException" : Cond) ∈ gBIG := gIn 48 rfl rfl
set_option maxRecDepth 20000 in
theorem k_49 : (.initialized "java/lang/Math" : Cond) ∈ gBIG := gIn 49 rfl rfl
set_option maxRecDepth 20000 in
theorem k_53 : (.instanceMethod ⟨"BuildGrid", "<init>", "()V"⟩ : Cond) ∈ gBIG := gIn 53 rfl rfl
set_option maxRecDepth 20000 in
theorem k_54 : (.code ⟨"BuildGrid", "<init>", "()V"⟩ prog_1_method_1_code 1 (none : Option FieldType) : Cond) ∈ gBIG := gIn 54 rfl rfl
set_option maxRecDepth 20000 in
theorem k_56 : (.instanceMethod ⟨"java/lang/Object", "<init>", "()V"⟩ : Cond) ∈ gBIG := gIn 56 rfl rfl
set_option maxRecDepth 20000 in
theorem k_57 : (.code ⟨"java/lang/Object", "<init>", "()V"⟩ object_method_1_code 1 (none : Option FieldType) : Cond) ∈ gBIG := gIn 57 rfl rfl
set_option maxRecDepth 20000 in
theorem k_61 : (.instanceMethod ⟨"BuildGrid$Sources", "<init>", "()V"⟩ : Cond) ∈ gBIG := gIn 61 rfl rfl
set_option maxRecDepth 20000 in
theorem k_62 : (.code ⟨"BuildGrid$Sources", "<init>", "()V"⟩ prog_9_method_1_code 1 (none : Option FieldType) : Cond) ∈ gBIG := gIn 62 rfl rfl
set_option maxRecDepth 20000 in
theorem k_93 : (.instanceMethod ⟨"BuildGrid$Graph", "<init>", "([I)V"⟩ : Cond) ∈ gBIG := gIn 93 rfl rfl
set_option maxRecDepth 20000 in
theorem k_94 : (.code ⟨"BuildGrid$Graph", "<init>", "([I)V"⟩ prog_7_method_1_code 3 (none : Option FieldType) : Cond) ∈ gBIG := gIn 94 rfl rfl
set_option maxRecDepth 20000 in
theorem k_100 : (.instanceMethod ⟨"BuildGrid$Target", "<init>", "(I[I)V"⟩ : Cond) ∈ gBIG := gIn 100 rfl rfl
set_option maxRecDepth 20000 in
theorem k_101 : (.code ⟨"BuildGrid$Target", "<init>", "(I[I)V"⟩ prog_10_method_1_code 4 (none : Option FieldType) : Cond) ∈ gBIG := gIn 101 rfl rfl
set_option maxRecDepth 20000 in
theorem k_108 : (.instanceMethod ⟨"BuildGrid$Inputs", "<init>", "([I)V"⟩ : Cond) ∈ gBIG := gIn 108 rfl rfl
set_option maxRecDepth 20000 in
theorem k_109 : (.code ⟨"BuildGrid$Inputs", "<init>", "([I)V"⟩ prog_8_method_1_code 2 (none : Option FieldType) : Cond) ∈ gBIG := gIn 109 rfl rfl
set_option maxRecDepth 20000 in
theorem k_136 : (.instanceMethod ⟨"BuildGrid$Action", "<init>", "(II)V"⟩ : Cond) ∈ gBIG := gIn 136 rfl rfl
set_option maxRecDepth 20000 in
theorem k_137 : (.code ⟨"BuildGrid$Action", "<init>", "(II)V"⟩ prog_2_method_1_code 3 (none : Option FieldType) : Cond) ∈ gBIG := gIn 137 rfl rfl
set_option maxRecDepth 20000 in
theorem k_270 : (.instanceMethod ⟨"BuildGrid$Cache", "<init>", "()V"⟩ : Cond) ∈ gBIG := gIn 270 rfl rfl
set_option maxRecDepth 20000 in
theorem k_271 : (.code ⟨"BuildGrid$Cache", "<init>", "()V"⟩ prog_3_method_1_code 2 (none : Option FieldType) : Cond) ∈ gBIG := gIn 271 rfl rfl
set_option maxRecDepth 20000 in
theorem k_277 : (.instanceMethod ⟨"BuildGrid$Entry", "<init>", "()V"⟩ : Cond) ∈ gBIG := gIn 277 rfl rfl
set_option maxRecDepth 20000 in
theorem k_278 : (.code ⟨"BuildGrid$Entry", "<init>", "()V"⟩ prog_5_method_1_code 1 (none : Option FieldType) : Cond) ∈ gBIG := gIn 278 rfl rfl
set_option maxRecDepth 20000 in
theorem k_322 : (.instanceMethod ⟨"BuildGrid$View", "<init>", "([I[I)V"⟩ : Cond) ∈ gBIG := gIn 322 rfl rfl
set_option maxRecDepth 20000 in
theorem k_323 : (.code ⟨"BuildGrid$View", "<init>", "([I[I)V"⟩ prog_11_method_1_code 3 (none : Option FieldType) : Cond) ∈ gBIG := gIn 323 rfl rfl
set_option maxRecDepth 20000 in
theorem k_339 : (.instanceMethod ⟨"BuildGrid$Course", "<init>", "(LBuildGrid$Graph;LBuildGrid$Cache;LBuildGrid$View;)V"⟩ : Cond) ∈ gBIG := gIn 339 rfl rfl
set_option maxRecDepth 20000 in
theorem k_340 : (.code ⟨"BuildGrid$Course", "<init>", "(LBuildGrid$Graph;LBuildGrid$Cache;LBuildGrid$View;)V"⟩ prog_4_method_1_code 5 (none : Option FieldType) : Cond) ∈ gBIG := gIn 340 rfl rfl
set_option maxRecDepth 20000 in
theorem k_345 : (.instanceMethod ⟨"BuildGrid$Worker", "<init>", "(II)V"⟩ : Cond) ∈ gBIG := gIn 345 rfl rfl
set_option maxRecDepth 20000 in
theorem k_346 : (.code ⟨"BuildGrid$Worker", "<init>", "(II)V"⟩ prog_12_method_1_code 3 (none : Option FieldType) : Cond) ∈ gBIG := gIn 346 rfl rfl
set_option maxRecDepth 20000 in
theorem k_423 : (.instanceMethod ⟨"BuildGrid$Fresh", "<init>", "(LBuildGrid$Graph;LBuildGrid$Sources;)V"⟩ : Cond) ∈ gBIG := gIn 423 rfl rfl
set_option maxRecDepth 20000 in
theorem k_424 : (.code ⟨"BuildGrid$Fresh", "<init>", "(LBuildGrid$Graph;LBuildGrid$Sources;)V"⟩ prog_6_method_1_code 3 (none : Option FieldType) : Cond) ∈ gBIG := gIn 424 rfl rfl
set_option maxRecDepth 20000 in
theorem k_464 : (.instanceMethod ⟨"BuildGrid", "setWays", "(ZZ)V"⟩ : Cond) ∈ gBIG := gIn 464 rfl rfl
set_option maxRecDepth 20000 in
theorem k_465 : (.selects "BuildGrid" ⟨"BuildGrid", "setWays", "(ZZ)V"⟩ ⟨"BuildGrid", "setWays", "(ZZ)V"⟩ : Cond) ∈ gBIG := gIn 465 rfl rfl
set_option maxRecDepth 20000 in
theorem k_466 : (.code ⟨"BuildGrid", "setWays", "(ZZ)V"⟩ prog_1_method_9_code 3 (none : Option FieldType) : Cond) ∈ gBIG := gIn 466 rfl rfl
set_option maxRecDepth 20000 in
theorem k_468 : (.static ⟨"BuildGridLaw", "drawn", "([II)I"⟩ : Cond) ∈ gBIG := gIn 468 rfl rfl
set_option maxRecDepth 20000 in
theorem k_469 : (.code ⟨"BuildGridLaw", "drawn", "([II)I"⟩ method_2_code 3 (some Jvm.ClassFile.FieldType.int) : Cond) ∈ gBIG := gIn 469 rfl rfl
set_option maxRecDepth 20000 in
theorem k_472 : (.static ⟨"BuildGridLaw", "does", "(LBuildGrid;III)I"⟩ : Cond) ∈ gBIG := gIn 472 rfl rfl
set_option maxRecDepth 20000 in
theorem k_478 : (.instanceMethod ⟨"BuildGrid", "write", "(II)I"⟩ : Cond) ∈ gBIG := gIn 478 rfl rfl
set_option maxRecDepth 20000 in
theorem k_479 : (.selects "BuildGrid" ⟨"BuildGrid", "write", "(II)I"⟩ ⟨"BuildGrid", "write", "(II)I"⟩ : Cond) ∈ gBIG := gIn 479 rfl rfl
set_option maxRecDepth 20000 in
theorem k_480 : (.code ⟨"BuildGrid", "write", "(II)I"⟩ prog_1_method_2_code 3 (some Jvm.ClassFile.FieldType.int) : Cond) ∈ gBIG := gIn 480 rfl rfl
set_option maxRecDepth 20000 in
theorem k_482 : (.static ⟨"BuildGrid", "isBelow", "(II)Z"⟩ : Cond) ∈ gBIG := gIn 482 rfl rfl
set_option maxRecDepth 20000 in
theorem k_483 : (.code ⟨"BuildGrid", "isBelow", "(II)Z"⟩ prog_1_method_34_code 2 (some Jvm.ClassFile.FieldType.boolean) : Cond) ∈ gBIG := gIn 483 rfl rfl
set_option maxRecDepth 20000 in
theorem k_485 : (.static ⟨"BuildGrid", "checkArgument", "(Z)V"⟩ : Cond) ∈ gBIG := gIn 485 rfl rfl
set_option maxRecDepth 20000 in
theorem k_486 : (.code ⟨"BuildGrid", "checkArgument", "(Z)V"⟩ prog_1_method_28_code 1 (none : Option FieldType) : Cond) ∈ gBIG := gIn 486 rfl rfl
set_option maxRecDepth 20000 in
theorem k_556 : (.instanceMethod ⟨"BuildGrid$Sources", "rewrite", "(II)I"⟩ : Cond) ∈ gBIG := gIn 556 rfl rfl
set_option maxRecDepth 20000 in
theorem k_557 : (.selects "BuildGrid$Sources" ⟨"BuildGrid$Sources", "rewrite", "(II)I"⟩ ⟨"BuildGrid$Sources", "rewrite", "(II)I"⟩ : Cond) ∈ gBIG := gIn 557 rfl rfl
set_option maxRecDepth 20000 in
theorem k_558 : (.code ⟨"BuildGrid$Sources", "rewrite", "(II)I"⟩ prog_9_method_2_code 4 (some Jvm.ClassFile.FieldType.int) : Cond) ∈ gBIG := gIn 558 rfl rfl
set_option maxRecDepth 20000 in
theorem k_560 : (.static ⟨"BuildGrid", "exchange", "([III)I"⟩ : Cond) ∈ gBIG := gIn 560 rfl rfl
set_option maxRecDepth 20000 in
theorem k_561 : (.code ⟨"BuildGrid", "exchange", "([III)I"⟩ prog_1_method_39_code 4 (some Jvm.ClassFile.FieldType.int) : Cond) ∈ gBIG := gIn 561 rfl rfl
set_option maxRecDepth 20000 in
theorem k_563 : (.static ⟨"BuildGrid", "at", "([II)I"⟩ : Cond) ∈ gBIG := gIn 563 rfl rfl
set_option maxRecDepth 20000 in
theorem k_564 : (.code ⟨"BuildGrid", "at", "([II)I"⟩ prog_1_method_37_code 2 (some Jvm.ClassFile.FieldType.int) : Cond) ∈ gBIG := gIn 564 rfl rfl
set_option maxRecDepth 20000 in
theorem k_566 : (.static ⟨"BuildGrid", "store", "([III)V"⟩ : Cond) ∈ gBIG := gIn 566 rfl rfl
set_option maxRecDepth 20000 in
theorem k_567 : (.code ⟨"BuildGrid", "store", "([III)V"⟩ prog_1_method_38_code 3 (none : Option FieldType) : Cond) ∈ gBIG := gIn 567 rfl rfl
set_option maxRecDepth 20000 in
theorem k_570 : (.instanceMethod ⟨"BuildGrid$Sources", "keepChange", "(II)V"⟩ : Cond) ∈ gBIG := gIn 570 rfl rfl
set_option maxRecDepth 20000 in
theorem k_571 : (.code ⟨"BuildGrid$Sources", "keepChange", "(II)V"⟩ prog_9_method_3_code 3 (none : Option FieldType) : Cond) ∈ gBIG := gIn 571 rfl rfl
set_option maxRecDepth 20000 in
theorem k_574 : (.instanceMethod ⟨"BuildGrid$Sources", "forgetFirstChange", "()V"⟩ : Cond) ∈ gBIG := gIn 574 rfl rfl
set_option maxRecDepth 20000 in
theorem k_575 : (.code ⟨"BuildGrid$Sources", "forgetFirstChange", "()V"⟩ prog_9_method_4_code 2 (none : Option FieldType) : Cond) ∈ gBIG := gIn 575 rfl rfl
set_option maxRecDepth 20000 in
theorem k_579 : (.instanceMethod ⟨"BuildGrid", "set", "(II)I"⟩ : Cond) ∈ gBIG := gIn 579 rfl rfl
set_option maxRecDepth 20000 in
theorem k_580 : (.selects "BuildGrid" ⟨"BuildGrid", "set", "(II)I"⟩ ⟨"BuildGrid", "set", "(II)I"⟩ : Cond) ∈ gBIG := gIn 580 rfl rfl
set_option maxRecDepth 20000 in
theorem k_581 : (.code ⟨"BuildGrid", "set", "(II)I"⟩ prog_1_method_3_code 3 (some Jvm.ClassFile.FieldType.int) : Cond) ∈ gBIG := gIn 581 rfl rfl
set_option maxRecDepth 20000 in
theorem k_583 : (.static ⟨"BuildGrid", "checkState", "(Z)V"⟩ : Cond) ∈ gBIG := gIn 583 rfl rfl
set_option maxRecDepth 20000 in
theorem k_584 : (.code ⟨"BuildGrid", "checkState", "(Z)V"⟩ prog_1_method_29_code 1 (none : Option FieldType) : Cond) ∈ gBIG := gIn 584 rfl rfl
set_option maxRecDepth 20000 in
theorem k_603 : (.instanceMethod ⟨"BuildGrid", "setTool", "(II)I"⟩ : Cond) ∈ gBIG := gIn 603 rfl rfl
set_option maxRecDepth 20000 in
theorem k_604 : (.selects "BuildGrid" ⟨"BuildGrid", "setTool", "(II)I"⟩ ⟨"BuildGrid", "setTool", "(II)I"⟩ : Cond) ∈ gBIG := gIn 604 rfl rfl
set_option maxRecDepth 20000 in
theorem k_605 : (.code ⟨"BuildGrid", "setTool", "(II)I"⟩ prog_1_method_4_code 3 (some Jvm.ClassFile.FieldType.int) : Cond) ∈ gBIG := gIn 605 rfl rfl
set_option maxRecDepth 20000 in
theorem k_607 : (.instanceMethod ⟨"BuildGrid", "copy", "(II)I"⟩ : Cond) ∈ gBIG := gIn 607 rfl rfl
set_option maxRecDepth 20000 in
theorem k_608 : (.selects "BuildGrid" ⟨"BuildGrid", "copy", "(II)I"⟩ ⟨"BuildGrid", "copy", "(II)I"⟩ : Cond) ∈ gBIG := gIn 608 rfl rfl
set_option maxRecDepth 20000 in
theorem k_609 : (.code ⟨"BuildGrid", "copy", "(II)I"⟩ prog_1_method_7_code 5 (some Jvm.ClassFile.FieldType.int) : Cond) ∈ gBIG := gIn 609 rfl rfl
set_option maxRecDepth 20000 in
theorem k_612 : (.instanceMethod ⟨"BuildGrid", "checkTarget", "(I)V"⟩ : Cond) ∈ gBIG := gIn 612 rfl rfl
set_option maxRecDepth 20000 in
theorem k_613 : (.code ⟨"BuildGrid", "checkTarget", "(I)V"⟩ prog_1_method_30_code 2 (none : Option FieldType) : Cond) ∈ gBIG := gIn 613 rfl rfl
set_option maxRecDepth 20000 in
theorem k_631 : (.instanceMethod ⟨"BuildGrid$Graph", "targetAt", "(I)LBuildGrid$Target;"⟩ : Cond) ∈ gBIG := gIn 631 rfl rfl
set_option maxRecDepth 20000 in
theorem k_632 : (.selects "BuildGrid$Graph" ⟨"BuildGrid$Graph", "targetAt", "(I)LBuildGrid$Target;"⟩ ⟨"BuildGrid$Graph", "targetAt", "(I)LBuildGrid$Target;"⟩ : Cond) ∈ gBIG := gIn 632 rfl rfl
set_option maxRecDepth 20000 in
theorem k_633 : (.code ⟨"BuildGrid$Graph", "targetAt", "(I)LBuildGrid$Target;"⟩ prog_7_method_3_code 2 (some (Jvm.ClassFile.FieldType.object "BuildGrid$Target")) : Cond) ∈ gBIG := gIn 633 rfl rfl
set_option maxRecDepth 20000 in
theorem k_635 : (.instanceMethod ⟨"BuildGrid$Graph", "tellNext", "()LBuildGrid$Target;"⟩ : Cond) ∈ gBIG := gIn 635 rfl rfl
set_option maxRecDepth 20000 in
theorem k_636 : (.selects "BuildGrid$Graph" ⟨"BuildGrid$Graph", "tellNext", "()LBuildGrid$Target;"⟩ ⟨"BuildGrid$Graph", "tellNext", "()LBuildGrid$Target;"⟩ : Cond) ∈ gBIG := gIn 636 rfl rfl
set_option maxRecDepth 20000 in
theorem k_637 : (.code ⟨"BuildGrid$Graph", "tellNext", "()LBuildGrid$Target;"⟩ prog_7_method_2_code 1 (some (Jvm.ClassFile.FieldType.object "BuildGrid$Target")) : Cond) ∈ gBIG := gIn 637 rfl rfl
set_option maxRecDepth 20000 in
theorem k_640 : (.instanceMethod ⟨"BuildGrid$Target", "describe", "(IIIIII)V"⟩ : Cond) ∈ gBIG := gIn 640 rfl rfl
set_option maxRecDepth 20000 in
theorem k_641 : (.selects "BuildGrid$Target" ⟨"BuildGrid$Target", "describe", "(IIIIII)V"⟩ ⟨"BuildGrid$Target", "describe", "(IIIIII)V"⟩ : Cond) ∈ gBIG := gIn 641 rfl rfl
set_option maxRecDepth 20000 in
theorem k_642 : (.code ⟨"BuildGrid$Target", "describe", "(IIIIII)V"⟩ prog_10_method_2_code 7 (none : Option FieldType) : Cond) ∈ gBIG := gIn 642 rfl rfl
set_option maxRecDepth 20000 in
theorem k_644 : (.instanceMethod ⟨"BuildGrid$Inputs", "become", "(LBuildGrid$Inputs;)V"⟩ : Cond) ∈ gBIG := gIn 644 rfl rfl
set_option maxRecDepth 20000 in
theorem k_645 : (.selects "BuildGrid$Inputs" ⟨"BuildGrid$Inputs", "become", "(LBuildGrid$Inputs;)V"⟩ ⟨"BuildGrid$Inputs", "become", "(LBuildGrid$Inputs;)V"⟩ : Cond) ∈ gBIG := gIn 645 rfl rfl
set_option maxRecDepth 20000 in
theorem k_646 : (.code ⟨"BuildGrid$Inputs", "become", "(LBuildGrid$Inputs;)V"⟩ prog_8_method_3_code 3 (none : Option FieldType) : Cond) ∈ gBIG := gIn 646 rfl rfl
set_option maxRecDepth 20000 in
theorem k_649 : (.instanceMethod ⟨"BuildGrid$Inputs", "append", "(IIII)I"⟩ : Cond) ∈ gBIG := gIn 649 rfl rfl
set_option maxRecDepth 20000 in
theorem k_650 : (.selects "BuildGrid$Inputs" ⟨"BuildGrid$Inputs", "append", "(IIII)I"⟩ ⟨"BuildGrid$Inputs", "append", "(IIII)I"⟩ : Cond) ∈ gBIG := gIn 650 rfl rfl
set_option maxRecDepth 20000 in
theorem k_651 : (.code ⟨"BuildGrid$Inputs", "append", "(IIII)I"⟩ prog_8_method_2_code 5 (some Jvm.ClassFile.FieldType.int) : Cond) ∈ gBIG := gIn 651 rfl rfl
set_option maxRecDepth 20000 in
theorem k_654 : (.instanceMethod ⟨"BuildGrid", "setPower", "(II)I"⟩ : Cond) ∈ gBIG := gIn 654 rfl rfl
set_option maxRecDepth 20000 in
theorem k_655 : (.selects "BuildGrid" ⟨"BuildGrid", "setPower", "(II)I"⟩ ⟨"BuildGrid", "setPower", "(II)I"⟩ : Cond) ∈ gBIG := gIn 655 rfl rfl
set_option maxRecDepth 20000 in
theorem k_656 : (.code ⟨"BuildGrid", "setPower", "(II)I"⟩ prog_1_method_8_code 5 (some Jvm.ClassFile.FieldType.int) : Cond) ∈ gBIG := gIn 656 rfl rfl
set_option maxRecDepth 20000 in
theorem k_658 : (.instanceMethod ⟨"BuildGrid$Course", "workerAt", "(I)LBuildGrid$Worker;"⟩ : Cond) ∈ gBIG := gIn 658 rfl rfl
set_option maxRecDepth 20000 in
theorem k_659 : (.selects "BuildGrid$Course" ⟨"BuildGrid$Course", "workerAt", "(I)LBuildGrid$Worker;"⟩ ⟨"BuildGrid$Course", "workerAt", "(I)LBuildGrid$Worker;"⟩ : Cond) ∈ gBIG := gIn 659 rfl rfl
set_option maxRecDepth 20000 in
theorem k_660 : (.code ⟨"BuildGrid$Course", "workerAt", "(I)LBuildGrid$Worker;"⟩ prog_4_method_5_code 2 (some (Jvm.ClassFile.FieldType.object "BuildGrid$Worker")) : Cond) ∈ gBIG := gIn 660 rfl rfl
set_option maxRecDepth 20000 in
theorem k_662 : (.instanceMethod ⟨"BuildGrid$Course", "changePower", "(LBuildGrid$Worker;I)V"⟩ : Cond) ∈ gBIG := gIn 662 rfl rfl
set_option maxRecDepth 20000 in
theorem k_663 : (.selects "BuildGrid$Course" ⟨"BuildGrid$Course", "changePower", "(LBuildGrid$Worker;I)V"⟩ ⟨"BuildGrid$Course", "changePower", "(LBuildGrid$Worker;I)V"⟩ : Cond) ∈ gBIG := gIn 663 rfl rfl
set_option maxRecDepth 20000 in
theorem k_664 : (.code ⟨"BuildGrid$Course", "changePower", "(LBuildGrid$Worker;I)V"⟩ prog_4_method_6_code 4 (none : Option FieldType) : Cond) ∈ gBIG := gIn 664 rfl rfl
set_option maxRecDepth 20000 in
theorem k_666 : (.instanceMethod ⟨"BuildGrid$Worker", "rest", "(I)V"⟩ : Cond) ∈ gBIG := gIn 666 rfl rfl
set_option maxRecDepth 20000 in
theorem k_667 : (.selects "BuildGrid$Worker" ⟨"BuildGrid$Worker", "rest", "(I)V"⟩ ⟨"BuildGrid$Worker", "rest", "(I)V"⟩ : Cond) ∈ gBIG := gIn 667 rfl rfl
set_option maxRecDepth 20000 in
theorem k_668 : (.code ⟨"BuildGrid$Worker", "rest", "(I)V"⟩ prog_12_method_9_code 2 (none : Option FieldType) : Cond) ∈ gBIG := gIn 668 rfl rfl
set_option maxRecDepth 20000 in
theorem k_671 : (.instanceMethod ⟨"BuildGrid$Course", "isAnyAt", "(LBuildGrid$Action;)Z"⟩ : Cond) ∈ gBIG := gIn 671 rfl rfl
set_option maxRecDepth 20000 in
theorem k_672 : (.code ⟨"BuildGrid$Course", "isAnyAt", "(LBuildGrid$Action;)Z"⟩ prog_4_method_7_code 6 (some Jvm.ClassFile.FieldType.boolean) : Cond) ∈ gBIG := gIn 672 rfl rfl
set_option maxRecDepth 20000 in
theorem k_675 : (.instanceMethod ⟨"BuildGrid$Course", "tally", "(I)V"⟩ : Cond) ∈ gBIG := gIn 675 rfl rfl
set_option maxRecDepth 20000 in
theorem k_676 : (.code ⟨"BuildGrid$Course", "tally", "(I)V"⟩ prog_4_method_2_code 2 (none : Option FieldType) : Cond) ∈ gBIG := gIn 676 rfl rfl
set_option maxRecDepth 20000 in
theorem k_680 : (.instanceMethod ⟨"BuildGrid", "entry", "(II)I"⟩ : Cond) ∈ gBIG := gIn 680 rfl rfl
set_option maxRecDepth 20000 in
theorem k_681 : (.selects "BuildGrid" ⟨"BuildGrid", "entry", "(II)I"⟩ ⟨"BuildGrid", "entry", "(II)I"⟩ : Cond) ∈ gBIG := gIn 681 rfl rfl
set_option maxRecDepth 20000 in
theorem k_682 : (.code ⟨"BuildGrid", "entry", "(II)I"⟩ prog_1_method_11_code 4 (some Jvm.ClassFile.FieldType.int) : Cond) ∈ gBIG := gIn 682 rfl rfl
set_option maxRecDepth 20000 in
theorem k_684 : (.instanceMethod ⟨"BuildGrid$Cache", "entryAt", "(I)LBuildGrid$Entry;"⟩ : Cond) ∈ gBIG := gIn 684 rfl rfl
set_option maxRecDepth 20000 in
theorem k_685 : (.selects "BuildGrid$Cache" ⟨"BuildGrid$Cache", "entryAt", "(I)LBuildGrid$Entry;"⟩ ⟨"BuildGrid$Cache", "entryAt", "(I)LBuildGrid$Entry;"⟩ : Cond) ∈ gBIG := gIn 685 rfl rfl
set_option maxRecDepth 20000 in
theorem k_686 : (.code ⟨"BuildGrid$Cache", "entryAt", "(I)LBuildGrid$Entry;"⟩ prog_3_method_2_code 2 (some (Jvm.ClassFile.FieldType.object "BuildGrid$Entry")) : Cond) ∈ gBIG := gIn 686 rfl rfl
set_option maxRecDepth 20000 in
theorem k_688 : (.static ⟨"java/lang/Math", "floorMod", "(II)I"⟩ : Cond) ∈ gBIG := gIn 688 rfl rfl
set_option maxRecDepth 20000 in
theorem k_689 : (.code ⟨"java/lang/Math", "floorMod", "(II)I"⟩ prog_19_method_50_code 3 (some Jvm.ClassFile.FieldType.int) : Cond) ∈ gBIG := gIn 689 rfl rfl
set_option maxRecDepth 20000 in
theorem k_692 : (.instanceMethod ⟨"BuildGrid$Entry", "tell", "(I)I"⟩ : Cond) ∈ gBIG := gIn 692 rfl rfl
set_option maxRecDepth 20000 in
theorem k_693 : (.selects "BuildGrid$Entry" ⟨"BuildGrid$Entry", "tell", "(I)I"⟩ ⟨"BuildGrid$Entry", "tell", "(I)I"⟩ : Cond) ∈ gBIG := gIn 693 rfl rfl
set_option maxRecDepth 20000 in
theorem k_694 : (.code ⟨"BuildGrid$Entry", "tell", "(I)I"⟩ prog_5_method_6_code 2 (some Jvm.ClassFile.FieldType.int) : Cond) ∈ gBIG := gIn 694 rfl rfl
set_option maxRecDepth 20000 in
theorem k_696 : (.instanceMethod ⟨"BuildGrid$Entry", "isRightlySigned", "()Z"⟩ : Cond) ∈ gBIG := gIn 696 rfl rfl
set_option maxRecDepth 20000 in
theorem k_697 : (.selects "BuildGrid$Entry" ⟨"BuildGrid$Entry", "isRightlySigned", "()Z"⟩ ⟨"BuildGrid$Entry", "isRightlySigned", "()Z"⟩ : Cond) ∈ gBIG := gIn 697 rfl rfl
set_option maxRecDepth 20000 in
theorem k_698 : (.code ⟨"BuildGrid$Entry", "isRightlySigned", "()Z"⟩ prog_5_method_4_code 1 (some Jvm.ClassFile.FieldType.boolean) : Cond) ∈ gBIG := gIn 698 rfl rfl
set_option maxRecDepth 20000 in
theorem k_701 : (.instanceMethod ⟨"BuildGrid$Entry", "rightSignature", "()I"⟩ : Cond) ∈ gBIG := gIn 701 rfl rfl
set_option maxRecDepth 20000 in
theorem k_702 : (.code ⟨"BuildGrid$Entry", "rightSignature", "()I"⟩ prog_5_method_3_code 1 (some Jvm.ClassFile.FieldType.int) : Cond) ∈ gBIG := gIn 702 rfl rfl
set_option maxRecDepth 20000 in
theorem k_704 : (.static ⟨"BuildGrid", "plus", "(II)I"⟩ : Cond) ∈ gBIG := gIn 704 rfl rfl
set_option maxRecDepth 20000 in
theorem k_705 : (.code ⟨"BuildGrid", "plus", "(II)I"⟩ prog_1_method_40_code 2 (some Jvm.ClassFile.FieldType.int) : Cond) ∈ gBIG := gIn 705 rfl rfl
set_option maxRecDepth 20000 in
theorem k_708 : (.instanceMethod ⟨"BuildGrid", "build", "(I)I"⟩ : Cond) ∈ gBIG := gIn 708 rfl rfl
set_option maxRecDepth 20000 in
theorem k_709 : (.selects "BuildGrid" ⟨"BuildGrid", "build", "(I)I"⟩ ⟨"BuildGrid", "build", "(I)I"⟩ : Cond) ∈ gBIG := gIn 709 rfl rfl
set_option maxRecDepth 20000 in
theorem k_710 : (.code ⟨"BuildGrid", "build", "(I)I"⟩ prog_1_method_14_code 2 (some Jvm.ClassFile.FieldType.int) : Cond) ∈ gBIG := gIn 710 rfl rfl
set_option maxRecDepth 20000 in
theorem k_712 : (.instanceMethod ⟨"BuildGrid$Course", "begin", "(I)I"⟩ : Cond) ∈ gBIG := gIn 712 rfl rfl
set_option maxRecDepth 20000 in
theorem k_713 : (.selects "BuildGrid$Course" ⟨"BuildGrid$Course", "begin", "(I)I"⟩ ⟨"BuildGrid$Course", "begin", "(I)I"⟩ : Cond) ∈ gBIG := gIn 713 rfl rfl
set_option maxRecDepth 20000 in
theorem k_714 : (.code ⟨"BuildGrid$Course", "begin", "(I)I"⟩ prog_4_method_3_code 6 (some Jvm.ClassFile.FieldType.int) : Cond) ∈ gBIG := gIn 714 rfl rfl
set_option maxRecDepth 20000 in
theorem k_716 : (.instanceMethod ⟨"BuildGrid$Graph", "withNeeded", "(I)I"⟩ : Cond) ∈ gBIG := gIn 716 rfl rfl
set_option maxRecDepth 20000 in
theorem k_717 : (.selects "BuildGrid$Graph" ⟨"BuildGrid$Graph", "withNeeded", "(I)I"⟩ ⟨"BuildGrid$Graph", "withNeeded", "(I)I"⟩ : Cond) ∈ gBIG := gIn 717 rfl rfl
set_option maxRecDepth 20000 in
theorem k_718 : (.code ⟨"BuildGrid$Graph", "withNeeded", "(I)I"⟩ prog_7_method_4_code 4 (some Jvm.ClassFile.FieldType.int) : Cond) ∈ gBIG := gIn 718 rfl rfl
set_option maxRecDepth 20000 in
theorem k_720 : (.static ⟨"BuildGrid", "bitOf", "(II)I"⟩ : Cond) ∈ gBIG := gIn 720 rfl rfl
set_option maxRecDepth 20000 in
theorem k_721 : (.code ⟨"BuildGrid", "bitOf", "(II)I"⟩ prog_1_method_36_code 2 (some Jvm.ClassFile.FieldType.int) : Cond) ∈ gBIG := gIn 721 rfl rfl
set_option maxRecDepth 20000 in
theorem k_723 : (.instanceMethod ⟨"BuildGrid$Graph", "inputTargets", "(LBuildGrid$Target;)I"⟩ : Cond) ∈ gBIG := gIn 723 rfl rfl
set_option maxRecDepth 20000 in
theorem k_724 : (.selects "BuildGrid$Graph" ⟨"BuildGrid$Graph", "inputTargets", "(LBuildGrid$Target;)I"⟩ ⟨"BuildGrid$Graph", "inputTargets", "(LBuildGrid$Target;)I"⟩ : Cond) ∈ gBIG := gIn 724 rfl rfl
set_option maxRecDepth 20000 in
theorem k_725 : (.code ⟨"BuildGrid$Graph", "inputTargets", "(LBuildGrid$Target;)I"⟩ prog_7_method_5_code 5 (some Jvm.ClassFile.FieldType.int) : Cond) ∈ gBIG := gIn 725 rfl rfl
set_option maxRecDepth 20000 in
theorem k_727 : (.instanceMethod ⟨"BuildGrid$Inputs", "chosen", "(I)I"⟩ : Cond) ∈ gBIG := gIn 727 rfl rfl
set_option maxRecDepth 20000 in
theorem k_728 : (.selects "BuildGrid$Inputs" ⟨"BuildGrid$Inputs", "chosen", "(I)I"⟩ ⟨"BuildGrid$Inputs", "chosen", "(I)I"⟩ : Cond) ∈ gBIG := gIn 728 rfl rfl
set_option maxRecDepth 20000 in
theorem k_729 : (.code ⟨"BuildGrid$Inputs", "chosen", "(I)I"⟩ prog_8_method_4_code 4 (some Jvm.ClassFile.FieldType.int) : Cond) ∈ gBIG := gIn 729 rfl rfl
set_option maxRecDepth 20000 in
theorem k_731 : (.static ⟨"BuildGrid", "isTarget", "(I)Z"⟩ : Cond) ∈ gBIG := gIn 731 rfl rfl
set_option maxRecDepth 20000 in
theorem k_732 : (.code ⟨"BuildGrid", "isTarget", "(I)Z"⟩ prog_1_method_35_code 1 (some Jvm.ClassFile.FieldType.boolean) : Cond) ∈ gBIG := gIn 732 rfl rfl
set_option maxRecDepth 20000 in
theorem k_736 : (.instanceMethod ⟨"BuildGrid$Target", "startOver", "(Z)V"⟩ : Cond) ∈ gBIG := gIn 736 rfl rfl
set_option maxRecDepth 20000 in
theorem k_737 : (.selects "BuildGrid$Target" ⟨"BuildGrid$Target", "startOver", "(Z)V"⟩ ⟨"BuildGrid$Target", "startOver", "(Z)V"⟩ : Cond) ∈ gBIG := gIn 737 rfl rfl
set_option maxRecDepth 20000 in
theorem k_738 : (.code ⟨"BuildGrid$Target", "startOver", "(Z)V"⟩ prog_10_method_3_code 4 (none : Option FieldType) : Cond) ∈ gBIG := gIn 738 rfl rfl
set_option maxRecDepth 20000 in
theorem k_740 : (.instanceMethod ⟨"BuildGrid$Target", "actionAt", "(I)LBuildGrid$Action;"⟩ : Cond) ∈ gBIG := gIn 740 rfl rfl
set_option maxRecDepth 20000 in
theorem k_741 : (.selects "BuildGrid$Target" ⟨"BuildGrid$Target", "actionAt", "(I)LBuildGrid$Action;"⟩ ⟨"BuildGrid$Target", "actionAt", "(I)LBuildGrid$Action;"⟩ : Cond) ∈ gBIG := gIn 741 rfl rfl
set_option maxRecDepth 20000 in
theorem k_742 : (.code ⟨"BuildGrid$Target", "actionAt", "(I)LBuildGrid$Action;"⟩ prog_10_method_4_code 2 (some (Jvm.ClassFile.FieldType.object "BuildGrid$Action")) : Cond) ∈ gBIG := gIn 742 rfl rfl
set_option maxRecDepth 20000 in
theorem k_744 : (.instanceMethod ⟨"BuildGrid$Action", "open", "()V"⟩ : Cond) ∈ gBIG := gIn 744 rfl rfl
set_option maxRecDepth 20000 in
theorem k_745 : (.selects "BuildGrid$Action" ⟨"BuildGrid$Action", "open", "()V"⟩ ⟨"BuildGrid$Action", "open", "()V"⟩ : Cond) ∈ gBIG := gIn 745 rfl rfl
set_option maxRecDepth 20000 in
theorem k_746 : (.code ⟨"BuildGrid$Action", "open", "()V"⟩ prog_2_method_2_code 1 (none : Option FieldType) : Cond) ∈ gBIG := gIn 746 rfl rfl
set_option maxRecDepth 20000 in
theorem k_749 : (.instanceMethod ⟨"BuildGrid$Course", "settle", "()V"⟩ : Cond) ∈ gBIG := gIn 749 rfl rfl
set_option maxRecDepth 20000 in
theorem k_750 : (.code ⟨"BuildGrid$Course", "settle", "()V"⟩ prog_4_method_19_code 7 (none : Option FieldType) : Cond) ∈ gBIG := gIn 750 rfl rfl
set_option maxRecDepth 20000 in
theorem k_753 : (.instanceMethod ⟨"BuildGrid$Course", "leaveOpen", "(LBuildGrid$Target;LBuildGrid$Action;)V"⟩ : Cond) ∈ gBIG := gIn 753 rfl rfl
set_option maxRecDepth 20000 in
theorem k_754 : (.code ⟨"BuildGrid$Course", "leaveOpen", "(LBuildGrid$Target;LBuildGrid$Action;)V"⟩ prog_4_method_20_code 7 (none : Option FieldType) : Cond) ∈ gBIG := gIn 754 rfl rfl
set_option maxRecDepth 20000 in
theorem k_756 : (.instanceMethod ⟨"BuildGrid$Graph", "stateOfInputs", "(LBuildGrid$Target;)I"⟩ : Cond) ∈ gBIG := gIn 756 rfl rfl
set_option maxRecDepth 20000 in
theorem k_757 : (.selects "BuildGrid$Graph" ⟨"BuildGrid$Graph", "stateOfInputs", "(LBuildGrid$Target;)I"⟩ ⟨"BuildGrid$Graph", "stateOfInputs", "(LBuildGrid$Target;)I"⟩ : Cond) ∈ gBIG := gIn 757 rfl rfl
set_option maxRecDepth 20000 in
theorem k_758 : (.code ⟨"BuildGrid$Graph", "stateOfInputs", "(LBuildGrid$Target;)I"⟩ prog_7_method_16_code 9 (some Jvm.ClassFile.FieldType.int) : Cond) ∈ gBIG := gIn 758 rfl rfl
set_option maxRecDepth 20000 in
theorem k_760 : (.instanceMethod ⟨"BuildGrid$Action", "isUnfinished", "()Z"⟩ : Cond) ∈ gBIG := gIn 760 rfl rfl
set_option maxRecDepth 20000 in
theorem k_761 : (.selects "BuildGrid$Action" ⟨"BuildGrid$Action", "isUnfinished", "()Z"⟩ ⟨"BuildGrid$Action", "isUnfinished", "()Z"⟩ : Cond) ∈ gBIG := gIn 761 rfl rfl
set_option maxRecDepth 20000 in
theorem k_762 : (.code ⟨"BuildGrid$Action", "isUnfinished", "()Z"⟩ prog_2_method_4_code 1 (some Jvm.ClassFile.FieldType.boolean) : Cond) ∈ gBIG := gIn 762 rfl rfl
set_option maxRecDepth 20000 in
theorem k_764 : (.instanceMethod ⟨"BuildGrid$View", "keyOf", "(LBuildGrid$Target;I)I"⟩ : Cond) ∈ gBIG := gIn 764 rfl rfl
set_option maxRecDepth 20000 in
theorem k_765 : (.selects "BuildGrid$View" ⟨"BuildGrid$View", "keyOf", "(LBuildGrid$Target;I)I"⟩ ⟨"BuildGrid$View", "keyOf", "(LBuildGrid$Target;I)I"⟩ : Cond) ∈ gBIG := gIn 765 rfl rfl
set_option maxRecDepth 20000 in
theorem k_766 : (.code ⟨"BuildGrid$View", "keyOf", "(LBuildGrid$Target;I)I"⟩ prog_11_method_2_code 6 (some Jvm.ClassFile.FieldType.int) : Cond) ∈ gBIG := gIn 766 rfl rfl
set_option maxRecDepth 20000 in
theorem k_772 : (.instanceMethod ⟨"BuildGrid$Target", "breaksOut", "(I)Z"⟩ : Cond) ∈ gBIG := gIn 772 rfl rfl
set_option maxRecDepth 20000 in
theorem k_773 : (.selects "BuildGrid$Target" ⟨"BuildGrid$Target", "breaksOut", "(I)Z"⟩ ⟨"BuildGrid$Target", "breaksOut", "(I)Z"⟩ : Cond) ∈ gBIG := gIn 773 rfl rfl
set_option maxRecDepth 20000 in
theorem k_774 : (.code ⟨"BuildGrid$Target", "breaksOut", "(I)Z"⟩ prog_10_method_7_code 2 (some Jvm.ClassFile.FieldType.boolean) : Cond) ∈ gBIG := gIn 774 rfl rfl
set_option maxRecDepth 20000 in
theorem k_777 : (.instanceMethod ⟨"BuildGrid$View", "contentFound", "(LBuildGrid$Target;I)I"⟩ : Cond) ∈ gBIG := gIn 777 rfl rfl
set_option maxRecDepth 20000 in
theorem k_778 : (.selects "BuildGrid$View" ⟨"BuildGrid$View", "contentFound", "(LBuildGrid$Target;I)I"⟩ ⟨"BuildGrid$View", "contentFound", "(LBuildGrid$Target;I)I"⟩ : Cond) ∈ gBIG := gIn 778 rfl rfl
set_option maxRecDepth 20000 in
theorem k_779 : (.code ⟨"BuildGrid$View", "contentFound", "(LBuildGrid$Target;I)I"⟩ prog_11_method_3_code 3 (some Jvm.ClassFile.FieldType.int) : Cond) ∈ gBIG := gIn 779 rfl rfl
set_option maxRecDepth 20000 in
theorem k_781 : (.instanceMethod ⟨"BuildGrid$Target", "fileFound", "(I)I"⟩ : Cond) ∈ gBIG := gIn 781 rfl rfl
set_option maxRecDepth 20000 in
theorem k_782 : (.selects "BuildGrid$Target" ⟨"BuildGrid$Target", "fileFound", "(I)I"⟩ ⟨"BuildGrid$Target", "fileFound", "(I)I"⟩ : Cond) ∈ gBIG := gIn 782 rfl rfl
set_option maxRecDepth 20000 in
theorem k_783 : (.code ⟨"BuildGrid$Target", "fileFound", "(I)I"⟩ prog_10_method_6_code 2 (some Jvm.ClassFile.FieldType.int) : Cond) ∈ gBIG := gIn 783 rfl rfl
set_option maxRecDepth 20000 in
theorem k_786 : (.instanceMethod ⟨"BuildGrid$Cache", "firstFit", "(IIIZ)LBuildGrid$Entry;"⟩ : Cond) ∈ gBIG := gIn 786 rfl rfl
set_option maxRecDepth 20000 in
theorem k_787 : (.selects "BuildGrid$Cache" ⟨"BuildGrid$Cache", "firstFit", "(IIIZ)LBuildGrid$Entry;"⟩ ⟨"BuildGrid$Cache", "firstFit", "(IIIZ)LBuildGrid$Entry;"⟩ : Cond) ∈ gBIG := gIn 787 rfl rfl
set_option maxRecDepth 20000 in
theorem k_788 : (.code ⟨"BuildGrid$Cache", "firstFit", "(IIIZ)LBuildGrid$Entry;"⟩ prog_3_method_5_code 7 (some (Jvm.ClassFile.FieldType.object "BuildGrid$Entry")) : Cond) ∈ gBIG := gIn 788 rfl rfl
set_option maxRecDepth 20000 in
theorem k_791 : (.instanceMethod ⟨"BuildGrid$Entry", "isOf", "(III)Z"⟩ : Cond) ∈ gBIG := gIn 791 rfl rfl
set_option maxRecDepth 20000 in
theorem k_792 : (.selects "BuildGrid$Entry" ⟨"BuildGrid$Entry", "isOf", "(III)Z"⟩ ⟨"BuildGrid$Entry", "isOf", "(III)Z"⟩ : Cond) ∈ gBIG := gIn 792 rfl rfl
set_option maxRecDepth 20000 in
theorem k_793 : (.code ⟨"BuildGrid$Entry", "isOf", "(III)Z"⟩ prog_5_method_5_code 4 (some Jvm.ClassFile.FieldType.boolean) : Cond) ∈ gBIG := gIn 793 rfl rfl
set_option maxRecDepth 20000 in
theorem k_797 : (.instanceMethod ⟨"BuildGrid$Course", "finish", "(LBuildGrid$Target;LBuildGrid$Action;II)V"⟩ : Cond) ∈ gBIG := gIn 797 rfl rfl
set_option maxRecDepth 20000 in
theorem k_798 : (.code ⟨"BuildGrid$Course", "finish", "(LBuildGrid$Target;LBuildGrid$Action;II)V"⟩ prog_4_method_18_code 5 (none : Option FieldType) : Cond) ∈ gBIG := gIn 798 rfl rfl
set_option maxRecDepth 20000 in
theorem k_800 : (.instanceMethod ⟨"BuildGrid$Action", "finish", "(II)V"⟩ : Cond) ∈ gBIG := gIn 800 rfl rfl
set_option maxRecDepth 20000 in
theorem k_801 : (.selects "BuildGrid$Action" ⟨"BuildGrid$Action", "finish", "(II)V"⟩ ⟨"BuildGrid$Action", "finish", "(II)V"⟩ : Cond) ∈ gBIG := gIn 801 rfl rfl
set_option maxRecDepth 20000 in
theorem k_802 : (.code ⟨"BuildGrid$Action", "finish", "(II)V"⟩ prog_2_method_3_code 3 (none : Option FieldType) : Cond) ∈ gBIG := gIn 802 rfl rfl
set_option maxRecDepth 20000 in
theorem k_804 : (.instanceMethod ⟨"BuildGrid$Target", "digestOfResults", "()I"⟩ : Cond) ∈ gBIG := gIn 804 rfl rfl
set_option maxRecDepth 20000 in
theorem k_805 : (.selects "BuildGrid$Target" ⟨"BuildGrid$Target", "digestOfResults", "()I"⟩ ⟨"BuildGrid$Target", "digestOfResults", "()I"⟩ : Cond) ∈ gBIG := gIn 805 rfl rfl
set_option maxRecDepth 20000 in
theorem k_806 : (.code ⟨"BuildGrid$Target", "digestOfResults", "()I"⟩ prog_10_method_12_code 3 (some Jvm.ClassFile.FieldType.int) : Cond) ∈ gBIG := gIn 806 rfl rfl
set_option maxRecDepth 20000 in
theorem k_810 : (.instanceMethod ⟨"BuildGrid", "pass", "(I)I"⟩ : Cond) ∈ gBIG := gIn 810 rfl rfl
set_option maxRecDepth 20000 in
theorem k_811 : (.selects "BuildGrid" ⟨"BuildGrid", "pass", "(I)I"⟩ ⟨"BuildGrid", "pass", "(I)I"⟩ : Cond) ∈ gBIG := gIn 811 rfl rfl
set_option maxRecDepth 20000 in
theorem k_812 : (.code ⟨"BuildGrid", "pass", "(I)I"⟩ prog_1_method_15_code 3 (some Jvm.ClassFile.FieldType.int) : Cond) ∈ gBIG := gIn 812 rfl rfl
set_option maxRecDepth 20000 in
theorem k_814 : (.instanceMethod ⟨"BuildGrid$Course", "passTick", "()V"⟩ : Cond) ∈ gBIG := gIn 814 rfl rfl
set_option maxRecDepth 20000 in
theorem k_815 : (.selects "BuildGrid$Course" ⟨"BuildGrid$Course", "passTick", "()V"⟩ ⟨"BuildGrid$Course", "passTick", "()V"⟩ : Cond) ∈ gBIG := gIn 815 rfl rfl
set_option maxRecDepth 20000 in
theorem k_816 : (.code ⟨"BuildGrid$Course", "passTick", "()V"⟩ prog_4_method_11_code 6 (none : Option FieldType) : Cond) ∈ gBIG := gIn 816 rfl rfl
set_option maxRecDepth 20000 in
theorem k_819 : (.instanceMethod ⟨"BuildGrid$Course", "beginReady", "()V"⟩ : Cond) ∈ gBIG := gIn 819 rfl rfl
set_option maxRecDepth 20000 in
theorem k_820 : (.code ⟨"BuildGrid$Course", "beginReady", "()V"⟩ prog_4_method_12_code 4 (none : Option FieldType) : Cond) ∈ gBIG := gIn 820 rfl rfl
set_option maxRecDepth 20000 in
theorem k_822 : (.instanceMethod ⟨"BuildGrid$Graph", "findWays", "(I)V"⟩ : Cond) ∈ gBIG := gIn 822 rfl rfl
set_option maxRecDepth 20000 in
theorem k_823 : (.selects "BuildGrid$Graph" ⟨"BuildGrid$Graph", "findWays", "(I)V"⟩ ⟨"BuildGrid$Graph", "findWays", "(I)V"⟩ : Cond) ∈ gBIG := gIn 823 rfl rfl
set_option maxRecDepth 20000 in
theorem k_824 : (.code ⟨"BuildGrid$Graph", "findWays", "(I)V"⟩ prog_7_method_10_code 4 (none : Option FieldType) : Cond) ∈ gBIG := gIn 824 rfl rfl
set_option maxRecDepth 20000 in
theorem k_827 : (.instanceMethod ⟨"BuildGrid$Graph", "spreadWay", "(LBuildGrid$Target;)V"⟩ : Cond) ∈ gBIG := gIn 827 rfl rfl
set_option maxRecDepth 20000 in
theorem k_828 : (.code ⟨"BuildGrid$Graph", "spreadWay", "(LBuildGrid$Target;)V"⟩ prog_7_method_11_code 4 (none : Option FieldType) : Cond) ∈ gBIG := gIn 828 rfl rfl
set_option maxRecDepth 20000 in
theorem k_830 : (.static ⟨"java/lang/Math", "max", "(II)I"⟩ : Cond) ∈ gBIG := gIn 830 rfl rfl
set_option maxRecDepth 20000 in
theorem k_831 : (.code ⟨"java/lang/Math", "max", "(II)I"⟩ prog_19_method_65_code 2 (some Jvm.ClassFile.FieldType.int) : Cond) ∈ gBIG := gIn 831 rfl rfl
set_option maxRecDepth 20000 in
theorem k_834 : (.instanceMethod ⟨"BuildGrid$Course", "strongestIdle", "()LBuildGrid$Worker;"⟩ : Cond) ∈ gBIG := gIn 834 rfl rfl
set_option maxRecDepth 20000 in
theorem k_835 : (.code ⟨"BuildGrid$Course", "strongestIdle", "()LBuildGrid$Worker;"⟩ prog_4_method_9_code 6 (some (Jvm.ClassFile.FieldType.object "BuildGrid$Worker")) : Cond) ∈ gBIG := gIn 835 rfl rfl
set_option maxRecDepth 20000 in
theorem k_837 : (.instanceMethod ⟨"BuildGrid$Worker", "isIdle", "()Z"⟩ : Cond) ∈ gBIG := gIn 837 rfl rfl
set_option maxRecDepth 20000 in
theorem k_838 : (.selects "BuildGrid$Worker" ⟨"BuildGrid$Worker", "isIdle", "()Z"⟩ ⟨"BuildGrid$Worker", "isIdle", "()Z"⟩ : Cond) ∈ gBIG := gIn 838 rfl rfl
set_option maxRecDepth 20000 in
theorem k_839 : (.code ⟨"BuildGrid$Worker", "isIdle", "()Z"⟩ prog_12_method_2_code 1 (some Jvm.ClassFile.FieldType.boolean) : Cond) ∈ gBIG := gIn 839 rfl rfl
set_option maxRecDepth 20000 in
theorem k_842 : (.instanceMethod ⟨"BuildGrid$Course", "longestReady", "()LBuildGrid$Action;"⟩ : Cond) ∈ gBIG := gIn 842 rfl rfl
set_option maxRecDepth 20000 in
theorem k_843 : (.code ⟨"BuildGrid$Course", "longestReady", "()LBuildGrid$Action;"⟩ prog_4_method_13_code 6 (some (Jvm.ClassFile.FieldType.object "BuildGrid$Action")) : Cond) ∈ gBIG := gIn 843 rfl rfl
set_option maxRecDepth 20000 in
theorem k_845 : (.instanceMethod ⟨"BuildGrid$Target", "firstReady", "()LBuildGrid$Action;"⟩ : Cond) ∈ gBIG := gIn 845 rfl rfl
set_option maxRecDepth 20000 in
theorem k_846 : (.selects "BuildGrid$Target" ⟨"BuildGrid$Target", "firstReady", "()LBuildGrid$Action;"⟩ ⟨"BuildGrid$Target", "firstReady", "()LBuildGrid$Action;"⟩ : Cond) ∈ gBIG := gIn 846 rfl rfl
set_option maxRecDepth 20000 in
theorem k_847 : (.code ⟨"BuildGrid$Target", "firstReady", "()LBuildGrid$Action;"⟩ prog_10_method_15_code 3 (some (Jvm.ClassFile.FieldType.object "BuildGrid$Action")) : Cond) ∈ gBIG := gIn 847 rfl rfl
set_option maxRecDepth 20000 in
theorem k_850 : (.instanceMethod ⟨"BuildGrid$Course", "start", "(LBuildGrid$Worker;LBuildGrid$Action;)V"⟩ : Cond) ∈ gBIG := gIn 850 rfl rfl
set_option maxRecDepth 20000 in
theorem k_851 : (.code ⟨"BuildGrid$Course", "start", "(LBuildGrid$Worker;LBuildGrid$Action;)V"⟩ prog_4_method_14_code 5 (none : Option FieldType) : Cond) ∈ gBIG := gIn 851 rfl rfl
set_option maxRecDepth 20000 in
theorem k_853 : (.instanceMethod ⟨"BuildGrid$Worker", "start", "(LBuildGrid$Action;LBuildGrid$Target;II)V"⟩ : Cond) ∈ gBIG := gIn 853 rfl rfl
set_option maxRecDepth 20000 in
theorem k_854 : (.selects "BuildGrid$Worker" ⟨"BuildGrid$Worker", "start", "(LBuildGrid$Action;LBuildGrid$Target;II)V"⟩ ⟨"BuildGrid$Worker", "start", "(LBuildGrid$Action;LBuildGrid$Target;II)V"⟩ : Cond) ∈ gBIG := gIn 854 rfl rfl
set_option maxRecDepth 20000 in
theorem k_855 : (.code ⟨"BuildGrid$Worker", "start", "(LBuildGrid$Action;LBuildGrid$Target;II)V"⟩ prog_12_method_4_code 5 (none : Option FieldType) : Cond) ∈ gBIG := gIn 855 rfl rfl
set_option maxRecDepth 20000 in
theorem k_858 : (.instanceMethod ⟨"BuildGrid$Worker", "ticksFor", "(LBuildGrid$Target;)I"⟩ : Cond) ∈ gBIG := gIn 858 rfl rfl
set_option maxRecDepth 20000 in
theorem k_859 : (.code ⟨"BuildGrid$Worker", "ticksFor", "(LBuildGrid$Target;)I"⟩ prog_12_method_5_code 3 (some Jvm.ClassFile.FieldType.int) : Cond) ∈ gBIG := gIn 859 rfl rfl
set_option maxRecDepth 20000 in
theorem k_861 : (.instanceMethod ⟨"BuildGrid$Target", "work", "()I"⟩ : Cond) ∈ gBIG := gIn 861 rfl rfl
set_option maxRecDepth 20000 in
theorem k_862 : (.selects "BuildGrid$Target" ⟨"BuildGrid$Target", "work", "()I"⟩ ⟨"BuildGrid$Target", "work", "()I"⟩ : Cond) ∈ gBIG := gIn 862 rfl rfl
set_option maxRecDepth 20000 in
theorem k_863 : (.code ⟨"BuildGrid$Target", "work", "()I"⟩ prog_10_method_5_code 1 (some Jvm.ClassFile.FieldType.int) : Cond) ∈ gBIG := gIn 863 rfl rfl
set_option maxRecDepth 20000 in
theorem k_867 : (.instanceMethod ⟨"BuildGrid$Course", "speculate", "()V"⟩ : Cond) ∈ gBIG := gIn 867 rfl rfl
set_option maxRecDepth 20000 in
theorem k_868 : (.code ⟨"BuildGrid$Course", "speculate", "()V"⟩ prog_4_method_15_code 2 (none : Option FieldType) : Cond) ∈ gBIG := gIn 868 rfl rfl
set_option maxRecDepth 20000 in
theorem k_871 : (.instanceMethod ⟨"BuildGrid$Course", "longestBusy", "()LBuildGrid$Worker;"⟩ : Cond) ∈ gBIG := gIn 871 rfl rfl
set_option maxRecDepth 20000 in
theorem k_872 : (.code ⟨"BuildGrid$Course", "longestBusy", "()LBuildGrid$Worker;"⟩ prog_4_method_10_code 6 (some (Jvm.ClassFile.FieldType.object "BuildGrid$Worker")) : Cond) ∈ gBIG := gIn 872 rfl rfl
set_option maxRecDepth 20000 in
theorem k_874 : (.instanceMethod ⟨"BuildGrid$Worker", "spendTick", "()V"⟩ : Cond) ∈ gBIG := gIn 874 rfl rfl
set_option maxRecDepth 20000 in
theorem k_875 : (.selects "BuildGrid$Worker" ⟨"BuildGrid$Worker", "spendTick", "()V"⟩ ⟨"BuildGrid$Worker", "spendTick", "()V"⟩ : Cond) ∈ gBIG := gIn 875 rfl rfl
set_option maxRecDepth 20000 in
theorem k_876 : (.code ⟨"BuildGrid$Worker", "spendTick", "()V"⟩ prog_12_method_6_code 1 (none : Option FieldType) : Cond) ∈ gBIG := gIn 876 rfl rfl
set_option maxRecDepth 20000 in
theorem k_878 : (.instanceMethod ⟨"BuildGrid$Worker", "hasEnded", "()Z"⟩ : Cond) ∈ gBIG := gIn 878 rfl rfl
set_option maxRecDepth 20000 in
theorem k_879 : (.selects "BuildGrid$Worker" ⟨"BuildGrid$Worker", "hasEnded", "()Z"⟩ ⟨"BuildGrid$Worker", "hasEnded", "()Z"⟩ : Cond) ∈ gBIG := gIn 879 rfl rfl
set_option maxRecDepth 20000 in
theorem k_880 : (.code ⟨"BuildGrid$Worker", "hasEnded", "()Z"⟩ prog_12_method_3_code 1 (some Jvm.ClassFile.FieldType.boolean) : Cond) ∈ gBIG := gIn 880 rfl rfl
set_option maxRecDepth 20000 in
theorem k_883 : (.instanceMethod ⟨"BuildGrid$Course", "end", "(LBuildGrid$Worker;)V"⟩ : Cond) ∈ gBIG := gIn 883 rfl rfl
set_option maxRecDepth 20000 in
theorem k_884 : (.code ⟨"BuildGrid$Course", "end", "(LBuildGrid$Worker;)V"⟩ prog_4_method_16_code 5 (none : Option FieldType) : Cond) ∈ gBIG := gIn 884 rfl rfl
set_option maxRecDepth 20000 in
theorem k_887 : (.instanceMethod ⟨"BuildGrid$Course", "dismissFrom", "(LBuildGrid$Action;)V"⟩ : Cond) ∈ gBIG := gIn 887 rfl rfl
set_option maxRecDepth 20000 in
theorem k_888 : (.code ⟨"BuildGrid$Course", "dismissFrom", "(LBuildGrid$Action;)V"⟩ prog_4_method_8_code 6 (none : Option FieldType) : Cond) ∈ gBIG := gIn 888 rfl rfl
set_option maxRecDepth 20000 in
theorem k_890 : (.instanceMethod ⟨"BuildGrid$Worker", "beganWith", "(II)Z"⟩ : Cond) ∈ gBIG := gIn 890 rfl rfl
set_option maxRecDepth 20000 in
theorem k_891 : (.selects "BuildGrid$Worker" ⟨"BuildGrid$Worker", "beganWith", "(II)Z"⟩ ⟨"BuildGrid$Worker", "beganWith", "(II)Z"⟩ : Cond) ∈ gBIG := gIn 891 rfl rfl
set_option maxRecDepth 20000 in
theorem k_892 : (.code ⟨"BuildGrid$Worker", "beganWith", "(II)Z"⟩ prog_12_method_8_code 3 (some Jvm.ClassFile.FieldType.boolean) : Cond) ∈ gBIG := gIn 892 rfl rfl
set_option maxRecDepth 20000 in
theorem k_896 : (.instanceMethod ⟨"BuildGrid$Course", "judge", "(LBuildGrid$Target;LBuildGrid$Action;LBuildGrid$Worker;)V"⟩ : Cond) ∈ gBIG := gIn 896 rfl rfl
set_option maxRecDepth 20000 in
theorem k_897 : (.code ⟨"BuildGrid$Course", "judge", "(LBuildGrid$Target;LBuildGrid$Action;LBuildGrid$Worker;)V"⟩ prog_4_method_17_code 7 (none : Option FieldType) : Cond) ∈ gBIG := gIn 897 rfl rfl
set_option maxRecDepth 20000 in
theorem k_899 : (.instanceMethod ⟨"BuildGrid$Worker", "resultMade", "()I"⟩ : Cond) ∈ gBIG := gIn 899 rfl rfl
set_option maxRecDepth 20000 in
theorem k_900 : (.selects "BuildGrid$Worker" ⟨"BuildGrid$Worker", "resultMade", "()I"⟩ ⟨"BuildGrid$Worker", "resultMade", "()I"⟩ : Cond) ∈ gBIG := gIn 900 rfl rfl
set_option maxRecDepth 20000 in
theorem k_901 : (.code ⟨"BuildGrid$Worker", "resultMade", "()I"⟩ prog_12_method_7_code 1 (some Jvm.ClassFile.FieldType.int) : Cond) ∈ gBIG := gIn 901 rfl rfl
set_option maxRecDepth 20000 in
theorem k_903 : (.static ⟨"BuildGrid", "resultOf", "(II)I"⟩ : Cond) ∈ gBIG := gIn 903 rfl rfl
set_option maxRecDepth 20000 in
theorem k_904 : (.code ⟨"BuildGrid", "resultOf", "(II)I"⟩ prog_1_method_41_code 2 (some Jvm.ClassFile.FieldType.int) : Cond) ∈ gBIG := gIn 904 rfl rfl
set_option maxRecDepth 20000 in
theorem k_907 : (.instanceMethod ⟨"BuildGrid$Target", "failsAt", "(II)Z"⟩ : Cond) ∈ gBIG := gIn 907 rfl rfl
set_option maxRecDepth 20000 in
theorem k_908 : (.selects "BuildGrid$Target" ⟨"BuildGrid$Target", "failsAt", "(II)Z"⟩ ⟨"BuildGrid$Target", "failsAt", "(II)Z"⟩ : Cond) ∈ gBIG := gIn 908 rfl rfl
set_option maxRecDepth 20000 in
theorem k_909 : (.code ⟨"BuildGrid$Target", "failsAt", "(II)Z"⟩ prog_10_method_9_code 3 (some Jvm.ClassFile.FieldType.boolean) : Cond) ∈ gBIG := gIn 909 rfl rfl
set_option maxRecDepth 20000 in
theorem k_911 : (.instanceMethod ⟨"BuildGrid$Target", "isGoodResult", "(I)Z"⟩ : Cond) ∈ gBIG := gIn 911 rfl rfl
set_option maxRecDepth 20000 in
theorem k_912 : (.selects "BuildGrid$Target" ⟨"BuildGrid$Target", "isGoodResult", "(I)Z"⟩ ⟨"BuildGrid$Target", "isGoodResult", "(I)Z"⟩ : Cond) ∈ gBIG := gIn 912 rfl rfl
set_option maxRecDepth 20000 in
theorem k_913 : (.code ⟨"BuildGrid$Target", "isGoodResult", "(I)Z"⟩ prog_10_method_8_code 2 (some Jvm.ClassFile.FieldType.boolean) : Cond) ∈ gBIG := gIn 913 rfl rfl
set_option maxRecDepth 20000 in
theorem k_915 : (.instanceMethod ⟨"BuildGrid$Target", "isInQuarantine", "()Z"⟩ : Cond) ∈ gBIG := gIn 915 rfl rfl
set_option maxRecDepth 20000 in
theorem k_916 : (.selects "BuildGrid$Target" ⟨"BuildGrid$Target", "isInQuarantine", "()Z"⟩ ⟨"BuildGrid$Target", "isInQuarantine", "()Z"⟩ : Cond) ∈ gBIG := gIn 916 rfl rfl
set_option maxRecDepth 20000 in
theorem k_917 : (.code ⟨"BuildGrid$Target", "isInQuarantine", "()Z"⟩ prog_10_method_11_code 1 (some Jvm.ClassFile.FieldType.boolean) : Cond) ∈ gBIG := gIn 917 rfl rfl
set_option maxRecDepth 20000 in
theorem k_919 : (.instanceMethod ⟨"BuildGrid$Target", "noteFlakeIn", "(I)V"⟩ : Cond) ∈ gBIG := gIn 919 rfl rfl
set_option maxRecDepth 20000 in
theorem k_920 : (.selects "BuildGrid$Target" ⟨"BuildGrid$Target", "noteFlakeIn", "(I)V"⟩ ⟨"BuildGrid$Target", "noteFlakeIn", "(I)V"⟩ : Cond) ∈ gBIG := gIn 920 rfl rfl
set_option maxRecDepth 20000 in
theorem k_921 : (.code ⟨"BuildGrid$Target", "noteFlakeIn", "(I)V"⟩ prog_10_method_10_code 2 (none : Option FieldType) : Cond) ∈ gBIG := gIn 921 rfl rfl
set_option maxRecDepth 20000 in
theorem k_923 : (.instanceMethod ⟨"BuildGrid$Cache", "keep", "(IIIII)V"⟩ : Cond) ∈ gBIG := gIn 923 rfl rfl
set_option maxRecDepth 20000 in
theorem k_924 : (.selects "BuildGrid$Cache" ⟨"BuildGrid$Cache", "keep", "(IIIII)V"⟩ ⟨"BuildGrid$Cache", "keep", "(IIIII)V"⟩ : Cond) ∈ gBIG := gIn 924 rfl rfl
set_option maxRecDepth 20000 in
theorem k_925 : (.code ⟨"BuildGrid$Cache", "keep", "(IIIII)V"⟩ prog_3_method_3_code 7 (none : Option FieldType) : Cond) ∈ gBIG := gIn 925 rfl rfl
set_option maxRecDepth 20000 in
theorem k_928 : (.instanceMethod ⟨"BuildGrid$Cache", "hasAlike", "(IIIII)Z"⟩ : Cond) ∈ gBIG := gIn 928 rfl rfl
set_option maxRecDepth 20000 in
theorem k_929 : (.code ⟨"BuildGrid$Cache", "hasAlike", "(IIIII)Z"⟩ prog_3_method_4_code 8 (some Jvm.ClassFile.FieldType.boolean) : Cond) ∈ gBIG := gIn 929 rfl rfl
set_option maxRecDepth 20000 in
theorem k_931 : (.instanceMethod ⟨"BuildGrid$Entry", "fill", "(IIIII)V"⟩ : Cond) ∈ gBIG := gIn 931 rfl rfl
set_option maxRecDepth 20000 in
theorem k_932 : (.selects "BuildGrid$Entry" ⟨"BuildGrid$Entry", "fill", "(IIIII)V"⟩ ⟨"BuildGrid$Entry", "fill", "(IIIII)V"⟩ : Cond) ∈ gBIG := gIn 932 rfl rfl
set_option maxRecDepth 20000 in
theorem k_933 : (.code ⟨"BuildGrid$Entry", "fill", "(IIIII)V"⟩ prog_5_method_2_code 6 (none : Option FieldType) : Cond) ∈ gBIG := gIn 933 rfl rfl
set_option maxRecDepth 20000 in
theorem k_935 : (.instanceMethod ⟨"BuildGrid", "state", "(II)I"⟩ : Cond) ∈ gBIG := gIn 935 rfl rfl
set_option maxRecDepth 20000 in
theorem k_936 : (.selects "BuildGrid" ⟨"BuildGrid", "state", "(II)I"⟩ ⟨"BuildGrid", "state", "(II)I"⟩ : Cond) ∈ gBIG := gIn 936 rfl rfl
set_option maxRecDepth 20000 in
theorem k_937 : (.code ⟨"BuildGrid", "state", "(II)I"⟩ prog_1_method_17_code 3 (some Jvm.ClassFile.FieldType.int) : Cond) ∈ gBIG := gIn 937 rfl rfl
set_option maxRecDepth 20000 in
theorem k_940 : (.instanceMethod ⟨"BuildGrid", "checkedAction", "(II)LBuildGrid$Action;"⟩ : Cond) ∈ gBIG := gIn 940 rfl rfl
set_option maxRecDepth 20000 in
theorem k_941 : (.code ⟨"BuildGrid", "checkedAction", "(II)LBuildGrid$Action;"⟩ prog_1_method_32_code 4 (some (Jvm.ClassFile.FieldType.object "BuildGrid$Action")) : Cond) ∈ gBIG := gIn 941 rfl rfl
set_option maxRecDepth 20000 in
theorem k_944 : (.instanceMethod ⟨"BuildGrid", "result", "(II)I"⟩ : Cond) ∈ gBIG := gIn 944 rfl rfl
set_option maxRecDepth 20000 in
theorem k_945 : (.selects "BuildGrid" ⟨"BuildGrid", "result", "(II)I"⟩ ⟨"BuildGrid", "result", "(II)I"⟩ : Cond) ∈ gBIG := gIn 945 rfl rfl
set_option maxRecDepth 20000 in
theorem k_946 : (.code ⟨"BuildGrid", "result", "(II)I"⟩ prog_1_method_18_code 4 (some Jvm.ClassFile.FieldType.int) : Cond) ∈ gBIG := gIn 946 rfl rfl
set_option maxRecDepth 20000 in
theorem k_948 : (.instanceMethod ⟨"BuildGrid", "about", "(II)I"⟩ : Cond) ∈ gBIG := gIn 948 rfl rfl
set_option maxRecDepth 20000 in
theorem k_949 : (.selects "BuildGrid" ⟨"BuildGrid", "about", "(II)I"⟩ ⟨"BuildGrid", "about", "(II)I"⟩ : Cond) ∈ gBIG := gIn 949 rfl rfl
set_option maxRecDepth 20000 in
theorem k_950 : (.code ⟨"BuildGrid", "about", "(II)I"⟩ prog_1_method_19_code 4 (some Jvm.ClassFile.FieldType.int) : Cond) ∈ gBIG := gIn 950 rfl rfl
set_option maxRecDepth 20000 in
theorem k_952 : (.instanceMethod ⟨"BuildGrid$Graph", "soundTargets", "()I"⟩ : Cond) ∈ gBIG := gIn 952 rfl rfl
set_option maxRecDepth 20000 in
theorem k_953 : (.selects "BuildGrid$Graph" ⟨"BuildGrid$Graph", "soundTargets", "()I"⟩ ⟨"BuildGrid$Graph", "soundTargets", "()I"⟩ : Cond) ∈ gBIG := gIn 953 rfl rfl
set_option maxRecDepth 20000 in
theorem k_954 : (.code ⟨"BuildGrid$Graph", "soundTargets", "()I"⟩ prog_7_method_13_code 4 (some Jvm.ClassFile.FieldType.int) : Cond) ∈ gBIG := gIn 954 rfl rfl
set_option maxRecDepth 20000 in
theorem k_956 : (.instanceMethod ⟨"BuildGrid$Target", "isSoundAlone", "()Z"⟩ : Cond) ∈ gBIG := gIn 956 rfl rfl
set_option maxRecDepth 20000 in
theorem k_957 : (.selects "BuildGrid$Target" ⟨"BuildGrid$Target", "isSoundAlone", "()Z"⟩ ⟨"BuildGrid$Target", "isSoundAlone", "()Z"⟩ : Cond) ∈ gBIG := gIn 957 rfl rfl
set_option maxRecDepth 20000 in
theorem k_958 : (.code ⟨"BuildGrid$Target", "isSoundAlone", "()Z"⟩ prog_10_method_14_code 2 (some Jvm.ClassFile.FieldType.boolean) : Cond) ∈ gBIG := gIn 958 rfl rfl
set_option maxRecDepth 20000 in
theorem k_960 : (.instanceMethod ⟨"BuildGrid$Action", "isSound", "()Z"⟩ : Cond) ∈ gBIG := gIn 960 rfl rfl
set_option maxRecDepth 20000 in
theorem k_961 : (.selects "BuildGrid$Action" ⟨"BuildGrid$Action", "isSound", "()Z"⟩ ⟨"BuildGrid$Action", "isSound", "()Z"⟩ : Cond) ∈ gBIG := gIn 961 rfl rfl
set_option maxRecDepth 20000 in
theorem k_962 : (.code ⟨"BuildGrid$Action", "isSound", "()Z"⟩ prog_2_method_5_code 1 (some Jvm.ClassFile.FieldType.boolean) : Cond) ∈ gBIG := gIn 962 rfl rfl
set_option maxRecDepth 20000 in
theorem k_965 : (.instanceMethod ⟨"BuildGrid$Fresh", "isStale", "(LBuildGrid$Target;)Z"⟩ : Cond) ∈ gBIG := gIn 965 rfl rfl
set_option maxRecDepth 20000 in
theorem k_966 : (.selects "BuildGrid$Fresh" ⟨"BuildGrid$Fresh", "isStale", "(LBuildGrid$Target;)Z"⟩ ⟨"BuildGrid$Fresh", "isStale", "(LBuildGrid$Target;)Z"⟩ : Cond) ∈ gBIG := gIn 966 rfl rfl
set_option maxRecDepth 20000 in
theorem k_967 : (.code ⟨"BuildGrid$Fresh", "isStale", "(LBuildGrid$Target;)Z"⟩ prog_6_method_4_code 4 (some Jvm.ClassFile.FieldType.boolean) : Cond) ∈ gBIG := gIn 967 rfl rfl
set_option maxRecDepth 20000 in
theorem k_969 : (.instanceMethod ⟨"BuildGrid$Target", "isAllDone", "()Z"⟩ : Cond) ∈ gBIG := gIn 969 rfl rfl
set_option maxRecDepth 20000 in
theorem k_970 : (.selects "BuildGrid$Target" ⟨"BuildGrid$Target", "isAllDone", "()Z"⟩ ⟨"BuildGrid$Target", "isAllDone", "()Z"⟩ : Cond) ∈ gBIG := gIn 970 rfl rfl
set_option maxRecDepth 20000 in
theorem k_971 : (.code ⟨"BuildGrid$Target", "isAllDone", "()Z"⟩ prog_10_method_13_code 2 (some Jvm.ClassFile.FieldType.boolean) : Cond) ∈ gBIG := gIn 971 rfl rfl
set_option maxRecDepth 20000 in
theorem k_974 : (.instanceMethod ⟨"BuildGrid$Fresh", "make", "(I)V"⟩ : Cond) ∈ gBIG := gIn 974 rfl rfl
set_option maxRecDepth 20000 in
theorem k_975 : (.code ⟨"BuildGrid$Fresh", "make", "(I)V"⟩ prog_6_method_5_code 3 (none : Option FieldType) : Cond) ∈ gBIG := gIn 975 rfl rfl
set_option maxRecDepth 20000 in
theorem k_977 : (.instanceMethod ⟨"BuildGrid$Sources", "filesAfter", "(I[I)V"⟩ : Cond) ∈ gBIG := gIn 977 rfl rfl
set_option maxRecDepth 20000 in
theorem k_978 : (.selects "BuildGrid$Sources" ⟨"BuildGrid$Sources", "filesAfter", "(I[I)V"⟩ ⟨"BuildGrid$Sources", "filesAfter", "(I[I)V"⟩ : Cond) ∈ gBIG := gIn 978 rfl rfl
set_option maxRecDepth 20000 in
theorem k_979 : (.code ⟨"BuildGrid$Sources", "filesAfter", "(I[I)V"⟩ prog_9_method_5_code 4 (none : Option FieldType) : Cond) ∈ gBIG := gIn 979 rfl rfl
set_option maxRecDepth 20000 in
theorem k_983 : (.instanceMethod ⟨"BuildGrid$Fresh", "makeTarget", "(LBuildGrid$Target;)V"⟩ : Cond) ∈ gBIG := gIn 983 rfl rfl
set_option maxRecDepth 20000 in
theorem k_984 : (.code ⟨"BuildGrid$Fresh", "makeTarget", "(LBuildGrid$Target;)V"⟩ prog_6_method_6_code 7 (none : Option FieldType) : Cond) ∈ gBIG := gIn 984 rfl rfl
set_option maxRecDepth 20000 in
theorem k_996 : (.instanceMethod ⟨"BuildGrid$Fresh", "goodTargets", "(I)I"⟩ : Cond) ∈ gBIG := gIn 996 rfl rfl
set_option maxRecDepth 20000 in
theorem k_997 : (.selects "BuildGrid$Fresh" ⟨"BuildGrid$Fresh", "goodTargets", "(I)I"⟩ ⟨"BuildGrid$Fresh", "goodTargets", "(I)I"⟩ : Cond) ∈ gBIG := gIn 997 rfl rfl
set_option maxRecDepth 20000 in
theorem k_998 : (.code ⟨"BuildGrid$Fresh", "goodTargets", "(I)I"⟩ prog_6_method_2_code 2 (some Jvm.ClassFile.FieldType.int) : Cond) ∈ gBIG := gIn 998 rfl rfl
set_option maxRecDepth 20000 in
theorem k_1000 : (.instanceMethod ⟨"BuildGrid$Fresh", "digestOf", "(LBuildGrid$Target;)I"⟩ : Cond) ∈ gBIG := gIn 1000 rfl rfl
set_option maxRecDepth 20000 in
theorem k_1001 : (.selects "BuildGrid$Fresh" ⟨"BuildGrid$Fresh", "digestOf", "(LBuildGrid$Target;)I"⟩ ⟨"BuildGrid$Fresh", "digestOf", "(LBuildGrid$Target;)I"⟩ : Cond) ∈ gBIG := gIn 1001 rfl rfl
set_option maxRecDepth 20000 in
theorem k_1002 : (.code ⟨"BuildGrid$Fresh", "digestOf", "(LBuildGrid$Target;)I"⟩ prog_6_method_3_code 2 (some Jvm.ClassFile.FieldType.int) : Cond) ∈ gBIG := gIn 1002 rfl rfl
set_option maxRecDepth 20000 in
theorem k_1005 : (.instanceMethod ⟨"BuildGrid$Course", "wayOf", "(LBuildGrid$Target;)I"⟩ : Cond) ∈ gBIG := gIn 1005 rfl rfl
set_option maxRecDepth 20000 in
theorem k_1006 : (.selects "BuildGrid$Course" ⟨"BuildGrid$Course", "wayOf", "(LBuildGrid$Target;)I"⟩ ⟨"BuildGrid$Course", "wayOf", "(LBuildGrid$Target;)I"⟩ : Cond) ∈ gBIG := gIn 1006 rfl rfl
set_option maxRecDepth 20000 in
theorem k_1007 : (.code ⟨"BuildGrid$Course", "wayOf", "(LBuildGrid$Target;)I"⟩ prog_4_method_4_code 2 (some Jvm.ClassFile.FieldType.int) : Cond) ∈ gBIG := gIn 1007 rfl rfl
set_option maxRecDepth 20000 in
theorem k_1009 : (.instanceMethod ⟨"BuildGrid", "proof", "(I)I"⟩ : Cond) ∈ gBIG := gIn 1009 rfl rfl
set_option maxRecDepth 20000 in
theorem k_1010 : (.selects "BuildGrid" ⟨"BuildGrid", "proof", "(I)I"⟩ ⟨"BuildGrid", "proof", "(I)I"⟩ : Cond) ∈ gBIG := gIn 1010 rfl rfl
set_option maxRecDepth 20000 in
theorem k_1011 : (.code ⟨"BuildGrid", "proof", "(I)I"⟩ prog_1_method_20_code 2 (some Jvm.ClassFile.FieldType.int) : Cond) ∈ gBIG := gIn 1011 rfl rfl
set_option maxRecDepth 20000 in
theorem k_1014 : (.instanceMethod ⟨"BuildGrid$Graph", "isAllDone", "(I)Z"⟩ : Cond) ∈ gBIG := gIn 1014 rfl rfl
set_option maxRecDepth 20000 in
theorem k_1015 : (.selects "BuildGrid$Graph" ⟨"BuildGrid$Graph", "isAllDone", "(I)Z"⟩ ⟨"BuildGrid$Graph", "isAllDone", "(I)Z"⟩ : Cond) ∈ gBIG := gIn 1015 rfl rfl
set_option maxRecDepth 20000 in
theorem k_1016 : (.code ⟨"BuildGrid$Graph", "isAllDone", "(I)Z"⟩ prog_7_method_12_code 3 (some Jvm.ClassFile.FieldType.boolean) : Cond) ∈ gBIG := gIn 1016 rfl rfl
set_option maxRecDepth 20000 in
theorem k_1019 : (.instanceMethod ⟨"BuildGrid$Graph", "proofOf", "(I)I"⟩ : Cond) ∈ gBIG := gIn 1019 rfl rfl
set_option maxRecDepth 20000 in
theorem k_1020 : (.selects "BuildGrid$Graph" ⟨"BuildGrid$Graph", "proofOf", "(I)I"⟩ ⟨"BuildGrid$Graph", "proofOf", "(I)I"⟩ : Cond) ∈ gBIG := gIn 1020 rfl rfl
set_option maxRecDepth 20000 in
theorem k_1021 : (.code ⟨"BuildGrid$Graph", "proofOf", "(I)I"⟩ prog_7_method_14_code 3 (some Jvm.ClassFile.FieldType.int) : Cond) ∈ gBIG := gIn 1021 rfl rfl
set_option maxRecDepth 20000 in
theorem k_1024 : (.instanceMethod ⟨"BuildGrid$Graph", "proofOverInputs", "(LBuildGrid$Target;)I"⟩ : Cond) ∈ gBIG := gIn 1024 rfl rfl
set_option maxRecDepth 20000 in
theorem k_1025 : (.code ⟨"BuildGrid$Graph", "proofOverInputs", "(LBuildGrid$Target;)I"⟩ prog_7_method_15_code 5 (some Jvm.ClassFile.FieldType.int) : Cond) ∈ gBIG := gIn 1025 rfl rfl
set_option maxRecDepth 20000 in
theorem k_1031 : (.instanceMethod ⟨"BuildGrid", "count", "(I)I"⟩ : Cond) ∈ gBIG := gIn 1031 rfl rfl
set_option maxRecDepth 20000 in
theorem k_1032 : (.selects "BuildGrid" ⟨"BuildGrid", "count", "(I)I"⟩ ⟨"BuildGrid", "count", "(I)I"⟩ : Cond) ∈ gBIG := gIn 1032 rfl rfl
set_option maxRecDepth 20000 in
theorem k_1033 : (.code ⟨"BuildGrid", "count", "(I)I"⟩ prog_1_method_21_code 2 (some Jvm.ClassFile.FieldType.int) : Cond) ∈ gBIG := gIn 1033 rfl rfl
set_option maxRecDepth 20000 in
theorem k_1035 : (.instanceMethod ⟨"BuildGrid", "needed", "(I)I"⟩ : Cond) ∈ gBIG := gIn 1035 rfl rfl
set_option maxRecDepth 20000 in
theorem k_1036 : (.selects "BuildGrid" ⟨"BuildGrid", "needed", "(I)I"⟩ ⟨"BuildGrid", "needed", "(I)I"⟩ : Cond) ∈ gBIG := gIn 1036 rfl rfl
set_option maxRecDepth 20000 in
theorem k_1037 : (.code ⟨"BuildGrid", "needed", "(I)I"⟩ prog_1_method_22_code 2 (some Jvm.ClassFile.FieldType.int) : Cond) ∈ gBIG := gIn 1037 rfl rfl
set_option maxRecDepth 20000 in
theorem k_1039 : (.instanceMethod ⟨"BuildGrid", "needing", "(I)I"⟩ : Cond) ∈ gBIG := gIn 1039 rfl rfl
set_option maxRecDepth 20000 in
theorem k_1040 : (.selects "BuildGrid" ⟨"BuildGrid", "needing", "(I)I"⟩ ⟨"BuildGrid", "needing", "(I)I"⟩ : Cond) ∈ gBIG := gIn 1040 rfl rfl
set_option maxRecDepth 20000 in
theorem k_1041 : (.code ⟨"BuildGrid", "needing", "(I)I"⟩ prog_1_method_23_code 2 (some Jvm.ClassFile.FieldType.int) : Cond) ∈ gBIG := gIn 1041 rfl rfl
set_option maxRecDepth 20000 in
theorem k_1044 : (.instanceMethod ⟨"BuildGrid", "checkThing", "(I)V"⟩ : Cond) ∈ gBIG := gIn 1044 rfl rfl
set_option maxRecDepth 20000 in
theorem k_1045 : (.code ⟨"BuildGrid", "checkThing", "(I)V"⟩ prog_1_method_31_code 2 (none : Option FieldType) : Cond) ∈ gBIG := gIn 1045 rfl rfl
set_option maxRecDepth 20000 in
theorem k_1048 : (.instanceMethod ⟨"BuildGrid$Graph", "targetsOver", "(I)I"⟩ : Cond) ∈ gBIG := gIn 1048 rfl rfl
set_option maxRecDepth 20000 in
theorem k_1049 : (.selects "BuildGrid$Graph" ⟨"BuildGrid$Graph", "targetsOver", "(I)I"⟩ ⟨"BuildGrid$Graph", "targetsOver", "(I)I"⟩ : Cond) ∈ gBIG := gIn 1049 rfl rfl
set_option maxRecDepth 20000 in
theorem k_1050 : (.code ⟨"BuildGrid$Graph", "targetsOver", "(I)I"⟩ prog_7_method_6_code 5 (some Jvm.ClassFile.FieldType.int) : Cond) ∈ gBIG := gIn 1050 rfl rfl
set_option maxRecDepth 20000 in
theorem k_1053 : (.instanceMethod ⟨"BuildGrid$Graph", "hasInput", "(LBuildGrid$Target;I)Z"⟩ : Cond) ∈ gBIG := gIn 1053 rfl rfl
set_option maxRecDepth 20000 in
theorem k_1054 : (.code ⟨"BuildGrid$Graph", "hasInput", "(LBuildGrid$Target;I)Z"⟩ prog_7_method_7_code 4 (some Jvm.ClassFile.FieldType.boolean) : Cond) ∈ gBIG := gIn 1054 rfl rfl
set_option maxRecDepth 20000 in
theorem k_1056 : (.instanceMethod ⟨"BuildGrid", "steps", "(II)I"⟩ : Cond) ∈ gBIG := gIn 1056 rfl rfl
set_option maxRecDepth 20000 in
theorem k_1057 : (.selects "BuildGrid" ⟨"BuildGrid", "steps", "(II)I"⟩ ⟨"BuildGrid", "steps", "(II)I"⟩ : Cond) ∈ gBIG := gIn 1057 rfl rfl
set_option maxRecDepth 20000 in
theorem k_1058 : (.code ⟨"BuildGrid", "steps", "(II)I"⟩ prog_1_method_24_code 3 (some Jvm.ClassFile.FieldType.int) : Cond) ∈ gBIG := gIn 1058 rfl rfl
set_option maxRecDepth 20000 in
theorem k_1060 : (.instanceMethod ⟨"BuildGrid$Graph", "distance", "(II)I"⟩ : Cond) ∈ gBIG := gIn 1060 rfl rfl
set_option maxRecDepth 20000 in
theorem k_1061 : (.selects "BuildGrid$Graph" ⟨"BuildGrid$Graph", "distance", "(II)I"⟩ ⟨"BuildGrid$Graph", "distance", "(II)I"⟩ : Cond) ∈ gBIG := gIn 1061 rfl rfl
set_option maxRecDepth 20000 in
theorem k_1062 : (.code ⟨"BuildGrid$Graph", "distance", "(II)I"⟩ prog_7_method_8_code 4 (some Jvm.ClassFile.FieldType.int) : Cond) ∈ gBIG := gIn 1062 rfl rfl
set_option maxRecDepth 20000 in
theorem k_1065 : (.instanceMethod ⟨"BuildGrid$Graph", "spreadDistance", "(LBuildGrid$Target;)V"⟩ : Cond) ∈ gBIG := gIn 1065 rfl rfl
set_option maxRecDepth 20000 in
theorem k_1066 : (.code ⟨"BuildGrid$Graph", "spreadDistance", "(LBuildGrid$Target;)V"⟩ prog_7_method_9_code 6 (none : Option FieldType) : Cond) ∈ gBIG := gIn 1066 rfl rfl
set_option maxRecDepth 20000 in
theorem k_1068 : (.instanceMethod ⟨"BuildGrid", "bisect", "(I)I"⟩ : Cond) ∈ gBIG := gIn 1068 rfl rfl
set_option maxRecDepth 20000 in
theorem k_1069 : (.selects "BuildGrid" ⟨"BuildGrid", "bisect", "(I)I"⟩ ⟨"BuildGrid", "bisect", "(I)I"⟩ : Cond) ∈ gBIG := gIn 1069 rfl rfl
set_option maxRecDepth 20000 in
theorem k_1070 : (.code ⟨"BuildGrid", "bisect", "(I)I"⟩ prog_1_method_26_code 6 (some Jvm.ClassFile.FieldType.int) : Cond) ∈ gBIG := gIn 1070 rfl rfl
set_option maxRecDepth 20000 in
theorem k_1073 : (.instanceMethod ⟨"BuildGrid", "isGoodAfter", "(II)Z"⟩ : Cond) ∈ gBIG := gIn 1073 rfl rfl
set_option maxRecDepth 20000 in
theorem k_1074 : (.code ⟨"BuildGrid", "isGoodAfter", "(II)Z"⟩ prog_1_method_33_code 3 (some Jvm.ClassFile.FieldType.boolean) : Cond) ∈ gBIG := gIn 1074 rfl rfl
set_option maxRecDepth 20000 in
theorem k_1076 : (.static ⟨"BuildGridLaw", "input", "(LBuildGrid;IIII)I"⟩ : Cond) ∈ gBIG := gIn 1076 rfl rfl
set_option maxRecDepth 20000 in
theorem k_1079 : (.instanceMethod ⟨"BuildGrid", "input", "(IIII)I"⟩ : Cond) ∈ gBIG := gIn 1079 rfl rfl
set_option maxRecDepth 20000 in
theorem k_1080 : (.selects "BuildGrid" ⟨"BuildGrid", "input", "(IIII)I"⟩ ⟨"BuildGrid", "input", "(IIII)I"⟩ : Cond) ∈ gBIG := gIn 1080 rfl rfl
set_option maxRecDepth 20000 in
theorem k_1081 : (.code ⟨"BuildGrid", "input", "(IIII)I"⟩ prog_1_method_5_code 5 (some Jvm.ClassFile.FieldType.int) : Cond) ∈ gBIG := gIn 1081 rfl rfl
set_option maxRecDepth 20000 in
theorem k_1084 : (.static ⟨"BuildGridLaw", "target", "(LBuildGrid;IIIIII)I"⟩ : Cond) ∈ gBIG := gIn 1084 rfl rfl
set_option maxRecDepth 20000 in
theorem k_1087 : (.instanceMethod ⟨"BuildGrid", "target", "(IIIIII)I"⟩ : Cond) ∈ gBIG := gIn 1087 rfl rfl
set_option maxRecDepth 20000 in
theorem k_1088 : (.selects "BuildGrid" ⟨"BuildGrid", "target", "(IIIIII)I"⟩ ⟨"BuildGrid", "target", "(IIIIII)I"⟩ : Cond) ∈ gBIG := gIn 1088 rfl rfl
set_option maxRecDepth 20000 in
theorem k_1089 : (.code ⟨"BuildGrid", "target", "(IIIIII)I"⟩ prog_1_method_6_code 8 (some Jvm.ClassFile.FieldType.int) : Cond) ∈ gBIG := gIn 1089 rfl rfl
set_option maxRecDepth 20000 in
theorem k_1092 : (.static ⟨"BuildGridLaw", "isKept", "(LBuildGrid;II)Z"⟩ : Cond) ∈ gBIG := gIn 1092 rfl rfl
set_option maxRecDepth 20000 in
theorem k_1093 : (.code ⟨"BuildGridLaw", "isKept", "(LBuildGrid;II)Z"⟩ method_8_code 14 (some Jvm.ClassFile.FieldType.boolean) : Cond) ∈ gBIG := gIn 1093 rfl rfl
set_option maxRecDepth 20000 in
theorem k_1095 : (.static ⟨"BuildGridLaw", "ends", "(LBuildGrid;)Z"⟩ : Cond) ∈ gBIG := gIn 1095 rfl rfl
set_option maxRecDepth 20000 in
theorem k_1096 : (.code ⟨"BuildGridLaw", "ends", "(LBuildGrid;)Z"⟩ method_7_code 3 (some Jvm.ClassFile.FieldType.boolean) : Cond) ∈ gBIG := gIn 1096 rfl rfl
set_option maxRecDepth 20000 in
theorem k_1098 : (.instanceMethod ⟨"BuildGrid", "goesOn", "()Z"⟩ : Cond) ∈ gBIG := gIn 1098 rfl rfl
set_option maxRecDepth 20000 in
theorem k_1099 : (.selects "BuildGrid" ⟨"BuildGrid", "goesOn", "()Z"⟩ ⟨"BuildGrid", "goesOn", "()Z"⟩ : Cond) ∈ gBIG := gIn 1099 rfl rfl
set_option maxRecDepth 20000 in
theorem k_1100 : (.code ⟨"BuildGrid", "goesOn", "()Z"⟩ prog_1_method_16_code 1 (some Jvm.ClassFile.FieldType.boolean) : Cond) ∈ gBIG := gIn 1100 rfl rfl
set_option maxRecDepth 20000 in
theorem k_1102 : (.instanceMethod ⟨"BuildGrid", "entries", "()I"⟩ : Cond) ∈ gBIG := gIn 1102 rfl rfl
set_option maxRecDepth 20000 in
theorem k_1103 : (.selects "BuildGrid" ⟨"BuildGrid", "entries", "()I"⟩ ⟨"BuildGrid", "entries", "()I"⟩ : Cond) ∈ gBIG := gIn 1103 rfl rfl
set_option maxRecDepth 20000 in
theorem k_1104 : (.code ⟨"BuildGrid", "entries", "()I"⟩ prog_1_method_10_code 1 (some Jvm.ClassFile.FieldType.int) : Cond) ∈ gBIG := gIn 1104 rfl rfl
set_option maxRecDepth 20000 in
theorem k_0 : (.selects "java/lang/Throwable" ⟨"java/lang/Throwable", "fillInStackTrace", "(I)Ljava/lang/Throwable;"⟩ ⟨"java/lang/Throwable", "fillInStackTrace", "(I)Ljava/lang/Throwable;"⟩ : Cond) ∈ gBIG := gIn 0 rfl rfl
set_option maxRecDepth 20000 in
theorem k_1 : (.selects "BuildGrid$Sources" ⟨"BuildGrid$Sources", "keepChange", "(II)V"⟩ ⟨"BuildGrid$Sources", "keepChange", "(II)V"⟩ : Cond) ∈ gBIG := gIn 1 rfl rfl
set_option maxRecDepth 20000 in
theorem k_2 : (.selects "BuildGrid$Sources" ⟨"BuildGrid$Sources", "forgetFirstChange", "()V"⟩ ⟨"BuildGrid$Sources", "forgetFirstChange", "()V"⟩ : Cond) ∈ gBIG := gIn 2 rfl rfl
set_option maxRecDepth 20000 in
theorem k_3 : (.selects "BuildGrid" ⟨"BuildGrid", "checkTarget", "(I)V"⟩ ⟨"BuildGrid", "checkTarget", "(I)V"⟩ : Cond) ∈ gBIG := gIn 3 rfl rfl
set_option maxRecDepth 20000 in
theorem k_4 : (.selects "BuildGrid$Course" ⟨"BuildGrid$Course", "isAnyAt", "(LBuildGrid$Action;)Z"⟩ ⟨"BuildGrid$Course", "isAnyAt", "(LBuildGrid$Action;)Z"⟩ : Cond) ∈ gBIG := gIn 4 rfl rfl
set_option maxRecDepth 20000 in
theorem k_5 : (.selects "BuildGrid$Course" ⟨"BuildGrid$Course", "tally", "(I)V"⟩ ⟨"BuildGrid$Course", "tally", "(I)V"⟩ : Cond) ∈ gBIG := gIn 5 rfl rfl
set_option maxRecDepth 20000 in
theorem k_6 : (.selects "BuildGrid$Entry" ⟨"BuildGrid$Entry", "rightSignature", "()I"⟩ ⟨"BuildGrid$Entry", "rightSignature", "()I"⟩ : Cond) ∈ gBIG := gIn 6 rfl rfl
set_option maxRecDepth 20000 in
theorem k_7 : (.selects "BuildGrid$Course" ⟨"BuildGrid$Course", "settle", "()V"⟩ ⟨"BuildGrid$Course", "settle", "()V"⟩ : Cond) ∈ gBIG := gIn 7 rfl rfl
set_option maxRecDepth 20000 in
theorem k_8 : (.selects "BuildGrid$Course" ⟨"BuildGrid$Course", "leaveOpen", "(LBuildGrid$Target;LBuildGrid$Action;)V"⟩ ⟨"BuildGrid$Course", "leaveOpen", "(LBuildGrid$Target;LBuildGrid$Action;)V"⟩ : Cond) ∈ gBIG := gIn 8 rfl rfl
set_option maxRecDepth 20000 in
theorem k_9 : (.selects "BuildGrid$Course" ⟨"BuildGrid$Course", "finish", "(LBuildGrid$Target;LBuildGrid$Action;II)V"⟩ ⟨"BuildGrid$Course", "finish", "(LBuildGrid$Target;LBuildGrid$Action;II)V"⟩ : Cond) ∈ gBIG := gIn 9 rfl rfl
set_option maxRecDepth 20000 in
theorem k_10 : (.selects "BuildGrid$Course" ⟨"BuildGrid$Course", "beginReady", "()V"⟩ ⟨"BuildGrid$Course", "beginReady", "()V"⟩ : Cond) ∈ gBIG := gIn 10 rfl rfl
set_option maxRecDepth 20000 in
theorem k_11 : (.selects "BuildGrid$Graph" ⟨"BuildGrid$Graph", "spreadWay", "(LBuildGrid$Target;)V"⟩ ⟨"BuildGrid$Graph", "spreadWay", "(LBuildGrid$Target;)V"⟩ : Cond) ∈ gBIG := gIn 11 rfl rfl
set_option maxRecDepth 20000 in
theorem k_12 : (.selects "BuildGrid$Course" ⟨"BuildGrid$Course", "strongestIdle", "()LBuildGrid$Worker;"⟩ ⟨"BuildGrid$Course", "strongestIdle", "()LBuildGrid$Worker;"⟩ : Cond) ∈ gBIG := gIn 12 rfl rfl
set_option maxRecDepth 20000 in
theorem k_13 : (.selects "BuildGrid$Course" ⟨"BuildGrid$Course", "longestReady", "()LBuildGrid$Action;"⟩ ⟨"BuildGrid$Course", "longestReady", "()LBuildGrid$Action;"⟩ : Cond) ∈ gBIG := gIn 13 rfl rfl
set_option maxRecDepth 20000 in
theorem k_14 : (.selects "BuildGrid$Course" ⟨"BuildGrid$Course", "start", "(LBuildGrid$Worker;LBuildGrid$Action;)V"⟩ ⟨"BuildGrid$Course", "start", "(LBuildGrid$Worker;LBuildGrid$Action;)V"⟩ : Cond) ∈ gBIG := gIn 14 rfl rfl
set_option maxRecDepth 20000 in
theorem k_15 : (.selects "BuildGrid$Worker" ⟨"BuildGrid$Worker", "ticksFor", "(LBuildGrid$Target;)I"⟩ ⟨"BuildGrid$Worker", "ticksFor", "(LBuildGrid$Target;)I"⟩ : Cond) ∈ gBIG := gIn 15 rfl rfl
set_option maxRecDepth 20000 in
theorem k_16 : (.selects "BuildGrid$Course" ⟨"BuildGrid$Course", "speculate", "()V"⟩ ⟨"BuildGrid$Course", "speculate", "()V"⟩ : Cond) ∈ gBIG := gIn 16 rfl rfl
set_option maxRecDepth 20000 in
theorem k_17 : (.selects "BuildGrid$Course" ⟨"BuildGrid$Course", "longestBusy", "()LBuildGrid$Worker;"⟩ ⟨"BuildGrid$Course", "longestBusy", "()LBuildGrid$Worker;"⟩ : Cond) ∈ gBIG := gIn 17 rfl rfl
set_option maxRecDepth 20000 in
theorem k_18 : (.selects "BuildGrid$Course" ⟨"BuildGrid$Course", "end", "(LBuildGrid$Worker;)V"⟩ ⟨"BuildGrid$Course", "end", "(LBuildGrid$Worker;)V"⟩ : Cond) ∈ gBIG := gIn 18 rfl rfl
set_option maxRecDepth 20000 in
theorem k_19 : (.selects "BuildGrid$Course" ⟨"BuildGrid$Course", "dismissFrom", "(LBuildGrid$Action;)V"⟩ ⟨"BuildGrid$Course", "dismissFrom", "(LBuildGrid$Action;)V"⟩ : Cond) ∈ gBIG := gIn 19 rfl rfl
set_option maxRecDepth 20000 in
theorem k_20 : (.selects "BuildGrid$Course" ⟨"BuildGrid$Course", "judge", "(LBuildGrid$Target;LBuildGrid$Action;LBuildGrid$Worker;)V"⟩ ⟨"BuildGrid$Course", "judge", "(LBuildGrid$Target;LBuildGrid$Action;LBuildGrid$Worker;)V"⟩ : Cond) ∈ gBIG := gIn 20 rfl rfl
set_option maxRecDepth 20000 in
theorem k_21 : (.selects "BuildGrid$Cache" ⟨"BuildGrid$Cache", "hasAlike", "(IIIII)Z"⟩ ⟨"BuildGrid$Cache", "hasAlike", "(IIIII)Z"⟩ : Cond) ∈ gBIG := gIn 21 rfl rfl
set_option maxRecDepth 20000 in
theorem k_22 : (.selects "BuildGrid" ⟨"BuildGrid", "checkedAction", "(II)LBuildGrid$Action;"⟩ ⟨"BuildGrid", "checkedAction", "(II)LBuildGrid$Action;"⟩ : Cond) ∈ gBIG := gIn 22 rfl rfl
set_option maxRecDepth 20000 in
theorem k_23 : (.selects "BuildGrid$Fresh" ⟨"BuildGrid$Fresh", "make", "(I)V"⟩ ⟨"BuildGrid$Fresh", "make", "(I)V"⟩ : Cond) ∈ gBIG := gIn 23 rfl rfl
set_option maxRecDepth 20000 in
theorem k_24 : (.selects "BuildGrid$Fresh" ⟨"BuildGrid$Fresh", "makeTarget", "(LBuildGrid$Target;)V"⟩ ⟨"BuildGrid$Fresh", "makeTarget", "(LBuildGrid$Target;)V"⟩ : Cond) ∈ gBIG := gIn 24 rfl rfl
set_option maxRecDepth 20000 in
theorem k_25 : (.selects "BuildGrid$Graph" ⟨"BuildGrid$Graph", "proofOverInputs", "(LBuildGrid$Target;)I"⟩ ⟨"BuildGrid$Graph", "proofOverInputs", "(LBuildGrid$Target;)I"⟩ : Cond) ∈ gBIG := gIn 25 rfl rfl
set_option maxRecDepth 20000 in
theorem k_26 : (.selects "BuildGrid" ⟨"BuildGrid", "checkThing", "(I)V"⟩ ⟨"BuildGrid", "checkThing", "(I)V"⟩ : Cond) ∈ gBIG := gIn 26 rfl rfl
set_option maxRecDepth 20000 in
theorem k_27 : (.selects "BuildGrid$Graph" ⟨"BuildGrid$Graph", "hasInput", "(LBuildGrid$Target;I)Z"⟩ ⟨"BuildGrid$Graph", "hasInput", "(LBuildGrid$Target;I)Z"⟩ : Cond) ∈ gBIG := gIn 27 rfl rfl
set_option maxRecDepth 20000 in
theorem k_28 : (.selects "BuildGrid$Graph" ⟨"BuildGrid$Graph", "spreadDistance", "(LBuildGrid$Target;)V"⟩ ⟨"BuildGrid$Graph", "spreadDistance", "(LBuildGrid$Target;)V"⟩ : Cond) ∈ gBIG := gIn 28 rfl rfl
set_option maxRecDepth 20000 in
theorem k_29 : (.selects "BuildGrid" ⟨"BuildGrid", "isGoodAfter", "(II)Z"⟩ ⟨"BuildGrid", "isGoodAfter", "(II)Z"⟩ : Cond) ∈ gBIG := gIn 29 rfl rfl
theorem cX0 : gCO 0 RX0 TX0 8 tyX0 := ⟨rfl, (by decide +kernel : ∀ w ∈ u_ws RX0 TX0 8, w ∈ gBIG), tyX0_ok, nmX0⟩
theorem cX1 : gCO 1 RX1 TX1 3 tyX1 := ⟨rfl, (by decide +kernel : ∀ w ∈ u_ws RX1 TX1 3, w ∈ gBIG), tyX1_ok, nmX1⟩
theorem cX2 : gCO 2 RX2 TX2 11 tyX2 := ⟨rfl, (by decide +kernel : ∀ w ∈ u_ws RX2 TX2 11, w ∈ gBIG), tyX2_ok, nmX2⟩
theorem cX3 : gCO 3 RX3 TX3 7 tyX3 := ⟨rfl, (by decide +kernel : ∀ w ∈ u_ws RX3 TX3 7, w ∈ gBIG), tyX3_ok, nmX3⟩
theorem cX4 : gCO 4 RX4 TX4 4 tyX4 := ⟨rfl, (by decide +kernel : ∀ w ∈ u_ws RX4 TX4 4, w ∈ gBIG), tyX4_ok, nmX4⟩
theorem cX5 : gCO 5 RX5 TX5 6 tyX5 := ⟨rfl, (by decide +kernel : ∀ w ∈ u_ws RX5 TX5 6, w ∈ gBIG), tyX5_ok, nmX5⟩
theorem cX6 : gCO 6 RX6 TX6 6 tyX6 := ⟨rfl, (by decide +kernel : ∀ w ∈ u_ws RX6 TX6 6, w ∈ gBIG), tyX6_ok, nmX6⟩
theorem cX7 : gCO 7 RX7 TX7 6 tyX7 := ⟨rfl, (by decide +kernel : ∀ w ∈ u_ws RX7 TX7 6, w ∈ gBIG), tyX7_ok, nmX7⟩
theorem cX8 : gCO 8 RX8 TX8 13 tyX8 := ⟨rfl, (by decide +kernel : ∀ w ∈ u_ws RX8 TX8 13, w ∈ gBIG), tyX8_ok, nmX8⟩
theorem cX9 : gCO 9 RX9 TX9 3 tyX9 := ⟨rfl, (by decide +kernel : ∀ w ∈ u_ws RX9 TX9 3, w ∈ gBIG), tyX9_ok, nmX9⟩
theorem cX10 : gCO 10 RX10 TX10 8 tyX10 := ⟨rfl, (by decide +kernel : ∀ w ∈ u_ws RX10 TX10 8, w ∈ gBIG), tyX10_ok, nmX10⟩
theorem cX11 : gCO 11 RX11 TX11 7 tyX11 := ⟨rfl, (by decide +kernel : ∀ w ∈ u_ws RX11 TX11 7, w ∈ gBIG), tyX11_ok, nmX11⟩
theorem calX0_init : gCal yX0_init cX0_init 3 none 2 RX0 := ⟨k_137, k_36, rfl, ⟨by decide, by decide⟩, by decide +kernel⟩
theorem calX0_open : gCal yX0_open cX0_open 1 none 0 RX0 := ⟨k_746, k_36, rfl, ⟨by decide, by decide⟩, by decide +kernel⟩
theorem calX0_finish : gCal yX0_finish cX0_finish 3 none 2 RX0 := ⟨k_802, k_36, rfl, ⟨by decide, by decide⟩, by decide +kernel⟩
theorem calX0_isUnfinished : gCal yX0_isUnfinished cX0_isUnfinished 1 (some .boolean) 0 RX0 := ⟨k_762, k_36, rfl, ⟨by decide, by decide⟩, by decide +kernel⟩
theorem calX0_isSound : gCal yX0_isSound cX0_isSound 1 (some .boolean) 0 RX0 := ⟨k_962, k_36, rfl, ⟨by decide, by decide⟩, by decide +kernel⟩
theorem calX1_init : gCal yX1_init cX1_init 2 none 0 RX1 := ⟨k_271, k_37, rfl, ⟨by decide, by decide⟩, by decide +kernel⟩
theorem calX1_entryAt : gCal yX1_entryAt cX1_entryAt 2 (some (.object "BuildGrid$Entry")) 1 RX1 := ⟨k_686, k_37, rfl, ⟨by decide, by decide⟩, by decide +kernel⟩
theorem calX1_keep : gCal yX1_keep cX1_keep 7 none 5 RX1 := ⟨k_925, k_37, rfl, ⟨by decide, by decide⟩, by decide +kernel⟩
theorem calX1_hasAlike : gCal yX1_hasAlike cX1_hasAlike 8 (some .boolean) 5 RX1 := ⟨k_929, k_37, rfl, ⟨by decide, by decide⟩, by decide +kernel⟩
theorem calX1_firstFit : gCal yX1_firstFit cX1_firstFit 7 (some (.object "BuildGrid$Entry")) 4 RX1 := ⟨k_788, k_37, rfl, ⟨by decide, by decide⟩, by decide +kernel⟩
theorem calX2_init : gCal yX2_init cX2_init 5 none 3 RX2 := ⟨k_340, k_39, rfl, ⟨by decide, by decide⟩, by decide +kernel⟩
theorem calX2_tally : gCal yX2_tally cX2_tally 2 none 1 RX2 := ⟨k_676, k_39, rfl, ⟨by decide, by decide⟩, by decide +kernel⟩
theorem calX2_begin : gCal yX2_begin cX2_begin 6 (some .int) 1 RX2 := ⟨k_714, k_39, rfl, ⟨by decide, by decide⟩, by decide +kernel⟩
theorem calX2_wayOf : gCal yX2_wayOf cX2_wayOf 2 (some .int) 1 RX2 := ⟨k_1007, k_39, rfl, ⟨by decide, by decide⟩, by decide +kernel⟩
theorem calX2_workerAt : gCal yX2_workerAt cX2_workerAt 2 (some (.object "BuildGrid$Worker")) 1 RX2 := ⟨k_660, k_39, rfl, ⟨by decide, by decide⟩, by decide +kernel⟩
theorem calX2_changePower : gCal yX2_changePower cX2_changePower 4 none 2 RX2 := ⟨k_664, k_39, rfl, ⟨by decide, by decide⟩, by decide +kernel⟩
theorem calX2_isAnyAt : gCal yX2_isAnyAt cX2_isAnyAt 6 (some .boolean) 1 RX2 := ⟨k_672, k_39, rfl, ⟨by decide, by decide⟩, by decide +kernel⟩
theorem calX2_dismissFrom : gCal yX2_dismissFrom cX2_dismissFrom 6 none 1 RX2 := ⟨k_888, k_39, rfl, ⟨by decide, by decide⟩, by decide +kernel⟩
theorem calX2_strongestIdle : gCal yX2_strongestIdle cX2_strongestIdle 6 (some (.object "BuildGrid$Worker")) 0 RX2 := ⟨k_835, k_39, rfl, ⟨by decide, by decide⟩, by decide +kernel⟩
theorem calX2_longestBusy : gCal yX2_longestBusy cX2_longestBusy 6 (some (.object "BuildGrid$Worker")) 0 RX2 := ⟨k_872, k_39, rfl, ⟨by decide, by decide⟩, by decide +kernel⟩
theorem calX2_passTick : gCal yX2_passTick cX2_passTick 6 none 0 RX2 := ⟨k_816, k_39, rfl, ⟨by decide, by decide⟩, by decide +kernel⟩
theorem calX2_beginReady : gCal yX2_beginReady cX2_beginReady 4 none 0 RX2 := ⟨k_820, k_39, rfl, ⟨by decide, by decide⟩, by decide +kernel⟩
theorem calX2_longestReady : gCal yX2_longestReady cX2_longestReady 6 (some (.object "BuildGrid$Action")) 0 RX2 := ⟨k_843, k_39, rfl, ⟨by decide, by decide⟩, by decide +kernel⟩
theorem calX2_start : gCal yX2_start cX2_start 5 none 2 RX2 := ⟨k_851, k_39, rfl, ⟨by decide, by decide⟩, by decide +kernel⟩
theorem calX2_speculate : gCal yX2_speculate cX2_speculate 2 none 0 RX2 := ⟨k_868, k_39, rfl, ⟨by decide, by decide⟩, by decide +kernel⟩
theorem calX2_end : gCal yX2_end cX2_end 5 none 1 RX2 := ⟨k_884, k_39, rfl, ⟨by decide, by decide⟩, by decide +kernel⟩
theorem calX2_judge : gCal yX2_judge cX2_judge 7 none 3 RX2 := ⟨k_897, k_39, rfl, ⟨by decide, by decide⟩, by decide +kernel⟩
theorem calX2_finish : gCal yX2_finish cX2_finish 5 none 4 RX2 := ⟨k_798, k_39, rfl, ⟨by decide, by decide⟩, by decide +kernel⟩
theorem calX2_settle : gCal yX2_settle cX2_settle 7 none 0 RX2 := ⟨k_750, k_39, rfl, ⟨by decide, by decide⟩, by decide +kernel⟩
theorem calX2_leaveOpen : gCal yX2_leaveOpen cX2_leaveOpen 7 none 2 RX2 := ⟨k_754, k_39, rfl, ⟨by decide, by decide⟩, by decide +kernel⟩
theorem calX3_init : gCal yX3_init cX3_init 1 none 0 RX3 := ⟨k_278, k_38, rfl, ⟨by decide, by decide⟩, by decide +kernel⟩
theorem calX3_fill : gCal yX3_fill cX3_fill 6 none 5 RX3 := ⟨k_933, k_38, rfl, ⟨by decide, by decide⟩, by decide +kernel⟩
theorem calX3_rightSignature : gCal yX3_rightSignature cX3_rightSignature 1 (some .int) 0 RX3 := ⟨k_702, k_38, rfl, ⟨by decide, by decide⟩, by decide +kernel⟩
theorem calX3_isRightlySigned : gCal yX3_isRightlySigned cX3_isRightlySigned 1 (some .boolean) 0 RX3 := ⟨k_698, k_38, rfl, ⟨by decide, by decide⟩, by decide +kernel⟩
theorem calX3_isOf : gCal yX3_isOf cX3_isOf 4 (some .boolean) 3 RX3 := ⟨k_793, k_38, rfl, ⟨by decide, by decide⟩, by decide +kernel⟩
theorem calX3_tell : gCal yX3_tell cX3_tell 2 (some .int) 1 RX3 := ⟨k_694, k_38, rfl, ⟨by decide, by decide⟩, by decide +kernel⟩
theorem calX4_init : gCal yX4_init cX4_init 3 none 2 RX4 := ⟨k_424, k_42, rfl, ⟨by decide, by decide⟩, by decide +kernel⟩
theorem calX4_goodTargets : gCal yX4_goodTargets cX4_goodTargets 2 (some .int) 1 RX4 := ⟨k_998, k_42, rfl, ⟨by decide, by decide⟩, by decide +kernel⟩
theorem calX4_digestOf : gCal yX4_digestOf cX4_digestOf 2 (some .int) 1 RX4 := ⟨k_1002, k_42, rfl, ⟨by decide, by decide⟩, by decide +kernel⟩
theorem calX4_isStale : gCal yX4_isStale cX4_isStale 4 (some .boolean) 1 RX4 := ⟨k_967, k_42, rfl, ⟨by decide, by decide⟩, by decide +kernel⟩
theorem calX4_make : gCal yX4_make cX4_make 3 none 1 RX4 := ⟨k_975, k_42, rfl, ⟨by decide, by decide⟩, by decide +kernel⟩
theorem calX4_makeTarget : gCal yX4_makeTarget cX4_makeTarget 7 none 1 RX4 := ⟨k_984, k_42, rfl, ⟨by decide, by decide⟩, by decide +kernel⟩
theorem calX5_init : gCal yX5_init cX5_init 3 none 1 RX5 := ⟨k_94, k_33, rfl, ⟨by decide, by decide⟩, by decide +kernel⟩
theorem calX5_tellNext : gCal yX5_tellNext cX5_tellNext 1 (some (.object "BuildGrid$Target")) 0 RX5 := ⟨k_637, k_33, rfl, ⟨by decide, by decide⟩, by decide +kernel⟩
theorem calX5_targetAt : gCal yX5_targetAt cX5_targetAt 2 (some (.object "BuildGrid$Target")) 1 RX5 := ⟨k_633, k_33, rfl, ⟨by decide, by decide⟩, by decide +kernel⟩
theorem calX5_withNeeded : gCal yX5_withNeeded cX5_withNeeded 4 (some .int) 1 RX5 := ⟨k_718, k_33, rfl, ⟨by decide, by decide⟩, by decide +kernel⟩
theorem calX5_inputTargets : gCal yX5_inputTargets cX5_inputTargets 5 (some .int) 1 RX5 := ⟨k_725, k_33, rfl, ⟨by decide, by decide⟩, by decide +kernel⟩
theorem calX5_targetsOver : gCal yX5_targetsOver cX5_targetsOver 5 (some .int) 1 RX5 := ⟨k_1050, k_33, rfl, ⟨by decide, by decide⟩, by decide +kernel⟩
theorem calX5_hasInput : gCal yX5_hasInput cX5_hasInput 4 (some .boolean) 2 RX5 := ⟨k_1054, k_33, rfl, ⟨by decide, by decide⟩, by decide +kernel⟩
theorem calX5_distance : gCal yX5_distance cX5_distance 4 (some .int) 2 RX5 := ⟨k_1062, k_33, rfl, ⟨by decide, by decide⟩, by decide +kernel⟩
theorem calX5_spreadDistance : gCal yX5_spreadDistance cX5_spreadDistance 6 none 1 RX5 := ⟨k_1066, k_33, rfl, ⟨by decide, by decide⟩, by decide +kernel⟩
theorem calX5_findWays : gCal yX5_findWays cX5_findWays 4 none 1 RX5 := ⟨k_824, k_33, rfl, ⟨by decide, by decide⟩, by decide +kernel⟩
theorem calX5_spreadWay : gCal yX5_spreadWay cX5_spreadWay 4 none 1 RX5 := ⟨k_828, k_33, rfl, ⟨by decide, by decide⟩, by decide +kernel⟩
theorem calX5_isAllDone : gCal yX5_isAllDone cX5_isAllDone 3 (some .boolean) 1 RX5 := ⟨k_1016, k_33, rfl, ⟨by decide, by decide⟩, by decide +kernel⟩
theorem calX5_soundTargets : gCal yX5_soundTargets cX5_soundTargets 4 (some .int) 0 RX5 := ⟨k_954, k_33, rfl, ⟨by decide, by decide⟩, by decide +kernel⟩
theorem calX5_proofOf : gCal yX5_proofOf cX5_proofOf 3 (some .int) 1 RX5 := ⟨k_1021, k_33, rfl, ⟨by decide, by decide⟩, by decide +kernel⟩
theorem calX5_proofOverInputs : gCal yX5_proofOverInputs cX5_proofOverInputs 5 (some .int) 1 RX5 := ⟨k_1025, k_33, rfl, ⟨by decide, by decide⟩, by decide +kernel⟩
theorem calX5_stateOfInputs : gCal yX5_stateOfInputs cX5_stateOfInputs 9 (some .int) 1 RX5 := ⟨k_758, k_33, rfl, ⟨by decide, by decide⟩, by decide +kernel⟩
theorem calX6_init : gCal yX6_init cX6_init 2 none 1 RX6 := ⟨k_109, k_35, rfl, ⟨by decide, by decide⟩, by decide +kernel⟩
theorem calX6_append : gCal yX6_append cX6_append 5 (some .int) 4 RX6 := ⟨k_651, k_35, rfl, ⟨by decide, by decide⟩, by decide +kernel⟩
theorem calX6_become : gCal yX6_become cX6_become 3 none 1 RX6 := ⟨k_646, k_35, rfl, ⟨by decide, by decide⟩, by decide +kernel⟩
theorem calX6_chosen : gCal yX6_chosen cX6_chosen 4 (some .int) 1 RX6 := ⟨k_729, k_35, rfl, ⟨by decide, by decide⟩, by decide +kernel⟩
theorem calX7_init : gCal yX7_init cX7_init 1 none 0 RX7 := ⟨k_62, k_32, rfl, ⟨by decide, by decide⟩, by decide +kernel⟩
theorem calX7_rewrite : gCal yX7_rewrite cX7_rewrite 4 (some .int) 2 RX7 := ⟨k_558, k_32, rfl, ⟨by decide, by decide⟩, by decide +kernel⟩
theorem calX7_keepChange : gCal yX7_keepChange cX7_keepChange 3 none 2 RX7 := ⟨k_571, k_32, rfl, ⟨by decide, by decide⟩, by decide +kernel⟩
theorem calX7_forgetFirstChange : gCal yX7_forgetFirstChange cX7_forgetFirstChange 2 none 0 RX7 := ⟨k_575, k_32, rfl, ⟨by decide, by decide⟩, by decide +kernel⟩
theorem calX7_filesAfter : gCal yX7_filesAfter cX7_filesAfter 4 none 2 RX7 := ⟨k_979, k_32, rfl, ⟨by decide, by decide⟩, by decide +kernel⟩
theorem calX8_init : gCal yX8_init cX8_init 4 none 2 RX8 := ⟨k_101, k_34, rfl, ⟨by decide, by decide⟩, by decide +kernel⟩
theorem calX8_describe : gCal yX8_describe cX8_describe 7 none 6 RX8 := ⟨k_642, k_34, rfl, ⟨by decide, by decide⟩, by decide +kernel⟩
theorem calX8_startOver : gCal yX8_startOver cX8_startOver 4 none 1 RX8 := ⟨k_738, k_34, rfl, ⟨by decide, by decide⟩, by decide +kernel⟩
theorem calX8_actionAt : gCal yX8_actionAt cX8_actionAt 2 (some (.object "BuildGrid$Action")) 1 RX8 := ⟨k_742, k_34, rfl, ⟨by decide, by decide⟩, by decide +kernel⟩
theorem calX8_work : gCal yX8_work cX8_work 1 (some .int) 0 RX8 := ⟨k_863, k_34, rfl, ⟨by decide, by decide⟩, by decide +kernel⟩
theorem calX8_fileFound : gCal yX8_fileFound cX8_fileFound 2 (some .int) 1 RX8 := ⟨k_783, k_34, rfl, ⟨by decide, by decide⟩, by decide +kernel⟩
theorem calX8_breaksOut : gCal yX8_breaksOut cX8_breaksOut 2 (some .boolean) 1 RX8 := ⟨k_774, k_34, rfl, ⟨by decide, by decide⟩, by decide +kernel⟩
theorem calX8_isGoodResult : gCal yX8_isGoodResult cX8_isGoodResult 2 (some .boolean) 1 RX8 := ⟨k_913, k_34, rfl, ⟨by decide, by decide⟩, by decide +kernel⟩
theorem calX8_failsAt : gCal yX8_failsAt cX8_failsAt 3 (some .boolean) 2 RX8 := ⟨k_909, k_34, rfl, ⟨by decide, by decide⟩, by decide +kernel⟩
theorem calX8_noteFlakeIn : gCal yX8_noteFlakeIn cX8_noteFlakeIn 2 none 1 RX8 := ⟨k_921, k_34, rfl, ⟨by decide, by decide⟩, by decide +kernel⟩
theorem calX8_isInQuarantine : gCal yX8_isInQuarantine cX8_isInQuarantine 1 (some .boolean) 0 RX8 := ⟨k_917, k_34, rfl, ⟨by decide, by decide⟩, by decide +kernel⟩
theorem calX8_digestOfResults : gCal yX8_digestOfResults cX8_digestOfResults 3 (some .int) 0 RX8 := ⟨k_806, k_34, rfl, ⟨by decide, by decide⟩, by decide +kernel⟩
theorem calX8_isAllDone : gCal yX8_isAllDone cX8_isAllDone 2 (some .boolean) 0 RX8 := ⟨k_971, k_34, rfl, ⟨by decide, by decide⟩, by decide +kernel⟩
theorem calX8_isSoundAlone : gCal yX8_isSoundAlone cX8_isSoundAlone 2 (some .boolean) 0 RX8 := ⟨k_958, k_34, rfl, ⟨by decide, by decide⟩, by decide +kernel⟩
theorem calX8_firstReady : gCal yX8_firstReady cX8_firstReady 3 (some (.object "BuildGrid$Action")) 0 RX8 := ⟨k_847, k_34, rfl, ⟨by decide, by decide⟩, by decide +kernel⟩
theorem calX9_init : gCal yX9_init cX9_init 3 none 2 RX9 := ⟨k_323, k_40, rfl, ⟨by decide, by decide⟩, by decide +kernel⟩
theorem calX9_keyOf : gCal yX9_keyOf cX9_keyOf 6 (some .int) 2 RX9 := ⟨k_766, k_40, rfl, ⟨by decide, by decide⟩, by decide +kernel⟩
theorem calX9_contentFound : gCal yX9_contentFound cX9_contentFound 3 (some .int) 2 RX9 := ⟨k_779, k_40, rfl, ⟨by decide, by decide⟩, by decide +kernel⟩
theorem calX10_init : gCal yX10_init cX10_init 3 none 2 RX10 := ⟨k_346, k_41, rfl, ⟨by decide, by decide⟩, by decide +kernel⟩
theorem calX10_isIdle : gCal yX10_isIdle cX10_isIdle 1 (some .boolean) 0 RX10 := ⟨k_839, k_41, rfl, ⟨by decide, by decide⟩, by decide +kernel⟩
theorem calX10_hasEnded : gCal yX10_hasEnded cX10_hasEnded 1 (some .boolean) 0 RX10 := ⟨k_880, k_41, rfl, ⟨by decide, by decide⟩, by decide +kernel⟩
theorem calX10_start : gCal yX10_start cX10_start 5 none 4 RX10 := ⟨k_855, k_41, rfl, ⟨by decide, by decide⟩, by decide +kernel⟩
theorem calX10_ticksFor : gCal yX10_ticksFor cX10_ticksFor 3 (some .int) 1 RX10 := ⟨k_859, k_41, rfl, ⟨by decide, by decide⟩, by decide +kernel⟩
theorem calX10_spendTick : gCal yX10_spendTick cX10_spendTick 1 none 0 RX10 := ⟨k_876, k_41, rfl, ⟨by decide, by decide⟩, by decide +kernel⟩
theorem calX10_resultMade : gCal yX10_resultMade cX10_resultMade 1 (some .int) 0 RX10 := ⟨k_901, k_41, rfl, ⟨by decide, by decide⟩, by decide +kernel⟩
theorem calX10_beganWith : gCal yX10_beganWith cX10_beganWith 3 (some .boolean) 2 RX10 := ⟨k_892, k_41, rfl, ⟨by decide, by decide⟩, by decide +kernel⟩
theorem calX10_rest : gCal yX10_rest cX10_rest 2 none 1 RX10 := ⟨k_668, k_41, rfl, ⟨by decide, by decide⟩, by decide +kernel⟩
theorem calX11_init : gCal yX11_init cX11_init 1 none 0 RX11 := ⟨k_54, k_31, rfl, ⟨by decide, by decide⟩, by decide +kernel⟩
theorem calX11_write : gCal yX11_write cX11_write 3 (some .int) 2 RX11 := ⟨k_480, k_31, rfl, ⟨by decide, by decide⟩, by decide +kernel⟩
theorem calX11_set : gCal yX11_set cX11_set 3 (some .int) 2 RX11 := ⟨k_581, k_31, rfl, ⟨by decide, by decide⟩, by decide +kernel⟩
theorem calX11_setTool : gCal yX11_setTool cX11_setTool 3 (some .int) 2 RX11 := ⟨k_605, k_31, rfl, ⟨by decide, by decide⟩, by decide +kernel⟩
theorem calX11_input : gCal yX11_input cX11_input 5 (some .int) 4 RX11 := ⟨k_1081, k_31, rfl, ⟨by decide, by decide⟩, by decide +kernel⟩
theorem calX11_target : gCal yX11_target cX11_target 8 (some .int) 6 RX11 := ⟨k_1089, k_31, rfl, ⟨by decide, by decide⟩, by decide +kernel⟩
theorem calX11_copy : gCal yX11_copy cX11_copy 5 (some .int) 2 RX11 := ⟨k_609, k_31, rfl, ⟨by decide, by decide⟩, by decide +kernel⟩
theorem calX11_setPower : gCal yX11_setPower cX11_setPower 5 (some .int) 2 RX11 := ⟨k_656, k_31, rfl, ⟨by decide, by decide⟩, by decide +kernel⟩
theorem calX11_setWays : gCal yX11_setWays cX11_setWays 3 none 2 RX11 := ⟨k_466, k_31, rfl, ⟨by decide, by decide⟩, by decide +kernel⟩
theorem calX11_entries : gCal yX11_entries cX11_entries 1 (some .int) 0 RX11 := ⟨k_1104, k_31, rfl, ⟨by decide, by decide⟩, by decide +kernel⟩
theorem calX11_entry : gCal yX11_entry cX11_entry 4 (some .int) 2 RX11 := ⟨k_682, k_31, rfl, ⟨by decide, by decide⟩, by decide +kernel⟩
theorem calX11_build : gCal yX11_build cX11_build 2 (some .int) 1 RX11 := ⟨k_710, k_31, rfl, ⟨by decide, by decide⟩, by decide +kernel⟩
theorem calX11_pass : gCal yX11_pass cX11_pass 3 (some .int) 1 RX11 := ⟨k_812, k_31, rfl, ⟨by decide, by decide⟩, by decide +kernel⟩
theorem calX11_goesOn : gCal yX11_goesOn cX11_goesOn 1 (some .boolean) 0 RX11 := ⟨k_1100, k_31, rfl, ⟨by decide, by decide⟩, by decide +kernel⟩
theorem calX11_state : gCal yX11_state cX11_state 3 (some .int) 2 RX11 := ⟨k_937, k_31, rfl, ⟨by decide, by decide⟩, by decide +kernel⟩
theorem calX11_result : gCal yX11_result cX11_result 4 (some .int) 2 RX11 := ⟨k_946, k_31, rfl, ⟨by decide, by decide⟩, by decide +kernel⟩
theorem calX11_about : gCal yX11_about cX11_about 4 (some .int) 2 RX11 := ⟨k_950, k_31, rfl, ⟨by decide, by decide⟩, by decide +kernel⟩
theorem calX11_proof : gCal yX11_proof cX11_proof 2 (some .int) 1 RX11 := ⟨k_1011, k_31, rfl, ⟨by decide, by decide⟩, by decide +kernel⟩
theorem calX11_count : gCal yX11_count cX11_count 2 (some .int) 1 RX11 := ⟨k_1033, k_31, rfl, ⟨by decide, by decide⟩, by decide +kernel⟩
theorem calX11_needed : gCal yX11_needed cX11_needed 2 (some .int) 1 RX11 := ⟨k_1037, k_31, rfl, ⟨by decide, by decide⟩, by decide +kernel⟩
theorem calX11_needing : gCal yX11_needing cX11_needing 2 (some .int) 1 RX11 := ⟨k_1041, k_31, rfl, ⟨by decide, by decide⟩, by decide +kernel⟩
theorem calX11_steps : gCal yX11_steps cX11_steps 3 (some .int) 2 RX11 := ⟨k_1058, k_31, rfl, ⟨by decide, by decide⟩, by decide +kernel⟩
theorem calX11_bisect : gCal yX11_bisect cX11_bisect 6 (some .int) 1 RX11 := ⟨k_1070, k_31, rfl, ⟨by decide, by decide⟩, by decide +kernel⟩
theorem calX11_checkArgument : gCal yX11_checkArgument cX11_checkArgument 1 none 1 RX11 := ⟨k_486, k_31, rfl, ⟨by decide, by decide⟩, by decide +kernel⟩
theorem calX11_checkState : gCal yX11_checkState cX11_checkState 1 none 1 RX11 := ⟨k_584, k_31, rfl, ⟨by decide, by decide⟩, by decide +kernel⟩
theorem calX11_checkTarget : gCal yX11_checkTarget cX11_checkTarget 2 none 1 RX11 := ⟨k_613, k_31, rfl, ⟨by decide, by decide⟩, by decide +kernel⟩
theorem calX11_checkThing : gCal yX11_checkThing cX11_checkThing 2 none 1 RX11 := ⟨k_1045, k_31, rfl, ⟨by decide, by decide⟩, by decide +kernel⟩
theorem calX11_checkedAction : gCal yX11_checkedAction cX11_checkedAction 4 (some (.object "BuildGrid$Action")) 2 RX11 := ⟨k_941, k_31, rfl, ⟨by decide, by decide⟩, by decide +kernel⟩
theorem calX11_isGoodAfter : gCal yX11_isGoodAfter cX11_isGoodAfter 3 (some .boolean) 2 RX11 := ⟨k_1074, k_31, rfl, ⟨by decide, by decide⟩, by decide +kernel⟩
theorem calX11_isBelow : gCal yX11_isBelow cX11_isBelow 2 (some .boolean) 2 RX11 := ⟨k_483, k_31, rfl, ⟨by decide, by decide⟩, by decide +kernel⟩
theorem calX11_isTarget : gCal yX11_isTarget cX11_isTarget 1 (some .boolean) 1 RX11 := ⟨k_732, k_31, rfl, ⟨by decide, by decide⟩, by decide +kernel⟩
theorem calX11_bitOf : gCal yX11_bitOf cX11_bitOf 2 (some .int) 2 RX11 := ⟨k_721, k_31, rfl, ⟨by decide, by decide⟩, by decide +kernel⟩
theorem calX11_at : gCal yX11_at cX11_at 2 (some .int) 2 RX11 := ⟨k_564, k_31, rfl, ⟨by decide, by decide⟩, by decide +kernel⟩
theorem calX11_store : gCal yX11_store cX11_store 3 none 3 RX11 := ⟨k_567, k_31, rfl, ⟨by decide, by decide⟩, by decide +kernel⟩
theorem calX11_exchange : gCal yX11_exchange cX11_exchange 4 (some .int) 3 RX11 := ⟨k_561, k_31, rfl, ⟨by decide, by decide⟩, by decide +kernel⟩
theorem calX11_plus : gCal yX11_plus cX11_plus 2 (some .int) 2 RX11 := ⟨k_705, k_31, rfl, ⟨by decide, by decide⟩, by decide +kernel⟩
theorem calX11_resultOf : gCal yX11_resultOf cX11_resultOf 2 (some .int) 2 RX11 := ⟨k_904, k_31, rfl, ⟨by decide, by decide⟩, by decide +kernel⟩
theorem calJ9_floorMod_7cf53 : gCal yJ9_floorMod_7cf53 cJ9_floorMod_7cf53 3 (some .int) 2 RJ9 := ⟨k_689, k_49, rfl, ⟨by decide, by decide⟩, by decide +kernel⟩
theorem calJ9_max_7cf53 : gCal yJ9_max_7cf53 cJ9_max_7cf53 2 (some .int) 2 RJ9 := ⟨k_831, k_49, rfl, ⟨by decide, by decide⟩, by decide +kernel⟩
theorem calL_drawn : gCal yL_drawn cL_drawn 3 (some .int) 2 RL := ⟨k_469, k_30, rfl, ⟨by decide, by decide⟩, by decide +kernel⟩
theorem calL_ends : gCal yL_ends cL_ends 3 (some .boolean) 1 RL := ⟨k_1096, k_30, rfl, ⟨by decide, by decide⟩, by decide +kernel⟩
theorem calL_isKept : gCal yL_isKept cL_isKept 14 (some .boolean) 3 RL := ⟨k_1093, k_30, rfl, ⟨by decide, by decide⟩, by decide +kernel⟩
