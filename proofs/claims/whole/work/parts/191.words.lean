set_option maxRecDepth 20000 in
theorem k_85 : (.classLink "BuildGridLaw" 8 "BuildGrid" : Cond) ∈ gBIG := gIn 85 rfl rfl
set_option maxRecDepth 20000 in
theorem k_87 : (.methodLink "BuildGridLaw" 84 ⟨"BuildGrid", "<init>", "()V"⟩ : Cond) ∈ gBIG := gIn 87 rfl rfl
set_option maxRecDepth 20000 in
theorem k_90 : (.methodLink "BuildGrid" 1 ⟨"java/lang/Object", "<init>", "()V"⟩ : Cond) ∈ gBIG := gIn 90 rfl rfl
set_option maxRecDepth 20000 in
theorem k_93 : (.classLink "BuildGrid" 7 "BuildGrid$Sources" : Cond) ∈ gBIG := gIn 93 rfl rfl
set_option maxRecDepth 20000 in
theorem k_95 : (.methodLinkNest "BuildGrid" 9 ⟨"BuildGrid$Sources", "<init>", "()V"⟩ "BuildGrid" : Cond) ∈ gNest := gInN 95 rfl rfl
set_option maxRecDepth 20000 in
theorem k_98 : (.methodLink "BuildGrid$Sources" 3 ⟨"java/lang/Object", "<init>", "()V"⟩ : Cond) ∈ gBIG := gIn 98 rfl rfl
set_option maxRecDepth 20000 in
theorem k_99 : (.fieldLink "BuildGrid$Sources" 9 "BuildGrid$Sources" "files" "[I" : Cond) ∈ gBIG := gIn 99 rfl rfl
set_option maxRecDepth 20000 in
theorem k_100 : (.fieldLink "BuildGrid" 43 "BuildGrid$Sources" "files" "[I" : Cond) ∈ gBIG := gIn 100 rfl rfl
set_option maxRecDepth 20000 in
theorem k_101 : (.fieldLink "BuildGrid$Sources" 15 "BuildGrid$Sources" "settings" "[I" : Cond) ∈ gBIG := gIn 101 rfl rfl
set_option maxRecDepth 20000 in
theorem k_102 : (.fieldLink "BuildGrid" 18 "BuildGrid$Sources" "settings" "[I" : Cond) ∈ gBIG := gIn 102 rfl rfl
set_option maxRecDepth 20000 in
theorem k_103 : (.fieldLink "BuildGrid$Fresh" 21 "BuildGrid$Sources" "versions" "[I" : Cond) ∈ gBIG := gIn 103 rfl rfl
set_option maxRecDepth 20000 in
theorem k_104 : (.fieldLink "BuildGrid$Sources" 18 "BuildGrid$Sources" "versions" "[I" : Cond) ∈ gBIG := gIn 104 rfl rfl
set_option maxRecDepth 20000 in
theorem k_105 : (.fieldLink "BuildGrid" 40 "BuildGrid$Sources" "versions" "[I" : Cond) ∈ gBIG := gIn 105 rfl rfl
set_option maxRecDepth 20000 in
theorem k_106 : (.fieldLink "BuildGrid$Sources" 21 "BuildGrid$Sources" "changedFiles" "[I" : Cond) ∈ gBIG := gIn 106 rfl rfl
set_option maxRecDepth 20000 in
theorem k_107 : (.fieldLink "BuildGrid$Sources" 24 "BuildGrid$Sources" "contentsBefore" "[I" : Cond) ∈ gBIG := gIn 107 rfl rfl
set_option maxRecDepth 20000 in
theorem k_108 : (.fieldLink "BuildGrid$Sources" 35 "BuildGrid$Sources" "kept" "I" : Cond) ∈ gBIG := gIn 108 rfl rfl
set_option maxRecDepth 20000 in
theorem k_109 : (.fieldLink "BuildGrid$Fresh" 42 "BuildGrid$Sources" "kept" "I" : Cond) ∈ gBIG := gIn 109 rfl rfl
set_option maxRecDepth 20000 in
theorem k_110 : (.fieldLink "BuildGrid" 234 "BuildGrid$Sources" "kept" "I" : Cond) ∈ gBIG := gIn 110 rfl rfl
set_option maxRecDepth 20000 in
theorem k_125 : (.classLink "BuildGrid" 16 "BuildGrid$Graph" : Cond) ∈ gBIG := gIn 125 rfl rfl
set_option maxRecDepth 20000 in
theorem k_127 : (.methodLink "BuildGrid" 22 ⟨"BuildGrid$Graph", "<init>", "([I)V"⟩ : Cond) ∈ gBIG := gIn 127 rfl rfl
set_option maxRecDepth 20000 in
theorem k_130 : (.methodLink "BuildGrid$Graph" 3 ⟨"java/lang/Object", "<init>", "()V"⟩ : Cond) ∈ gBIG := gIn 130 rfl rfl
set_option maxRecDepth 20000 in
theorem k_131 : (.classLink "BuildGrid$Graph" 9 "BuildGrid$Target" : Cond) ∈ gBIG := gIn 131 rfl rfl
set_option maxRecDepth 20000 in
theorem k_134 : (.methodLink "BuildGrid$Graph" 24 ⟨"BuildGrid$Target", "<init>", "(I[I)V"⟩ : Cond) ∈ gBIG := gIn 134 rfl rfl
set_option maxRecDepth 20000 in
theorem k_137 : (.methodLink "BuildGrid$Target" 3 ⟨"java/lang/Object", "<init>", "()V"⟩ : Cond) ∈ gBIG := gIn 137 rfl rfl
set_option maxRecDepth 20000 in
theorem k_138 : (.classLink "BuildGrid$Target" 9 "BuildGrid$Action" : Cond) ∈ gBIG := gIn 138 rfl rfl
set_option maxRecDepth 20000 in
theorem k_140 : (.classLink "BuildGrid$Target" 24 "BuildGrid$Inputs" : Cond) ∈ gBIG := gIn 140 rfl rfl
set_option maxRecDepth 20000 in
theorem k_142 : (.methodLink "BuildGrid$Target" 26 ⟨"BuildGrid$Inputs", "<init>", "([I)V"⟩ : Cond) ∈ gBIG := gIn 142 rfl rfl
set_option maxRecDepth 20000 in
theorem k_145 : (.methodLink "BuildGrid$Inputs" 3 ⟨"java/lang/Object", "<init>", "()V"⟩ : Cond) ∈ gBIG := gIn 145 rfl rfl
set_option maxRecDepth 20000 in
theorem k_146 : (.fieldLink "BuildGrid$Inputs" 24 "BuildGrid$Inputs" "settingsOfNow" "[I" : Cond) ∈ gBIG := gIn 146 rfl rfl
set_option maxRecDepth 20000 in
theorem k_147 : (.fieldLink "BuildGrid$Inputs" 9 "BuildGrid$Inputs" "ones" "[I" : Cond) ∈ gBIG := gIn 147 rfl rfl
set_option maxRecDepth 20000 in
theorem k_148 : (.fieldLink "BuildGrid$Inputs" 15 "BuildGrid$Inputs" "others" "[I" : Cond) ∈ gBIG := gIn 148 rfl rfl
set_option maxRecDepth 20000 in
theorem k_149 : (.fieldLink "BuildGrid$Inputs" 18 "BuildGrid$Inputs" "settings" "[I" : Cond) ∈ gBIG := gIn 149 rfl rfl
set_option maxRecDepth 20000 in
theorem k_150 : (.fieldLink "BuildGrid$Inputs" 21 "BuildGrid$Inputs" "values" "[I" : Cond) ∈ gBIG := gIn 150 rfl rfl
set_option maxRecDepth 20000 in
theorem k_151 : (.fieldLink "BuildGrid$Inputs" 27 "BuildGrid$Inputs" "size" "I" : Cond) ∈ gBIG := gIn 151 rfl rfl
set_option maxRecDepth 20000 in
theorem k_152 : (.fieldLink "BuildGrid$View" 45 "BuildGrid$Inputs" "size" "I" : Cond) ∈ gBIG := gIn 152 rfl rfl
set_option maxRecDepth 20000 in
theorem k_153 : (.fieldLink "BuildGrid$Target" 64 "BuildGrid$Inputs" "size" "I" : Cond) ∈ gBIG := gIn 153 rfl rfl
set_option maxRecDepth 20000 in
theorem k_154 : (.fieldLink "BuildGrid$Graph" 59 "BuildGrid$Inputs" "size" "I" : Cond) ∈ gBIG := gIn 154 rfl rfl
set_option maxRecDepth 20000 in
theorem k_155 : (.fieldLink "BuildGrid" 96 "BuildGrid$Inputs" "size" "I" : Cond) ∈ gBIG := gIn 155 rfl rfl
set_option maxRecDepth 20000 in
theorem k_170 : (.methodLink "BuildGrid$Target" 33 ⟨"BuildGrid$Action", "<init>", "(II)V"⟩ : Cond) ∈ gBIG := gIn 170 rfl rfl
set_option maxRecDepth 20000 in
theorem k_173 : (.methodLink "BuildGrid$Action" 3 ⟨"java/lang/Object", "<init>", "()V"⟩ : Cond) ∈ gBIG := gIn 173 rfl rfl
set_option maxRecDepth 20000 in
theorem k_174 : (.fieldLink "BuildGrid$Action" 15 "BuildGrid$Action" "target" "I" : Cond) ∈ gBIG := gIn 174 rfl rfl
set_option maxRecDepth 20000 in
theorem k_175 : (.fieldLink "BuildGrid$Course" 164 "BuildGrid$Action" "target" "I" : Cond) ∈ gBIG := gIn 175 rfl rfl
set_option maxRecDepth 20000 in
theorem k_176 : (.fieldLink "BuildGrid$Action" 18 "BuildGrid$Action" "shard" "I" : Cond) ∈ gBIG := gIn 176 rfl rfl
set_option maxRecDepth 20000 in
theorem k_177 : (.fieldLink "BuildGrid$Course" 167 "BuildGrid$Action" "shard" "I" : Cond) ∈ gBIG := gIn 177 rfl rfl
set_option maxRecDepth 20000 in
theorem k_178 : (.fieldLink "BuildGrid$Action" 9 "BuildGrid$Action" "state" "I" : Cond) ∈ gBIG := gIn 178 rfl rfl
set_option maxRecDepth 20000 in
theorem k_179 : (.fieldLink "BuildGrid$Target" 61 "BuildGrid$Action" "state" "I" : Cond) ∈ gBIG := gIn 179 rfl rfl
set_option maxRecDepth 20000 in
theorem k_180 : (.fieldLink "BuildGrid$Course" 112 "BuildGrid$Action" "state" "I" : Cond) ∈ gBIG := gIn 180 rfl rfl
set_option maxRecDepth 20000 in
theorem k_181 : (.fieldLink "BuildGrid$Graph" 138 "BuildGrid$Action" "state" "I" : Cond) ∈ gBIG := gIn 181 rfl rfl
set_option maxRecDepth 20000 in
theorem k_182 : (.fieldLink "BuildGrid" 213 "BuildGrid$Action" "state" "I" : Cond) ∈ gBIG := gIn 182 rfl rfl
set_option maxRecDepth 20000 in
theorem k_183 : (.fieldLink "BuildGrid$Action" 24 "BuildGrid$Action" "result" "I" : Cond) ∈ gBIG := gIn 183 rfl rfl
set_option maxRecDepth 20000 in
theorem k_184 : (.fieldLink "BuildGrid$Fresh" 72 "BuildGrid$Action" "result" "I" : Cond) ∈ gBIG := gIn 184 rfl rfl
set_option maxRecDepth 20000 in
theorem k_185 : (.fieldLink "BuildGrid$Target" 81 "BuildGrid$Action" "result" "I" : Cond) ∈ gBIG := gIn 185 rfl rfl
set_option maxRecDepth 20000 in
theorem k_186 : (.fieldLink "BuildGrid$Graph" 120 "BuildGrid$Action" "result" "I" : Cond) ∈ gBIG := gIn 186 rfl rfl
set_option maxRecDepth 20000 in
theorem k_187 : (.fieldLink "BuildGrid" 218 "BuildGrid$Action" "result" "I" : Cond) ∈ gBIG := gIn 187 rfl rfl
set_option maxRecDepth 20000 in
theorem k_188 : (.fieldLink "BuildGrid$Action" 27 "BuildGrid$Action" "worker" "I" : Cond) ∈ gBIG := gIn 188 rfl rfl
set_option maxRecDepth 20000 in
theorem k_189 : (.fieldLink "BuildGrid$Graph" 128 "BuildGrid$Action" "worker" "I" : Cond) ∈ gBIG := gIn 189 rfl rfl
set_option maxRecDepth 20000 in
theorem k_190 : (.fieldLink "BuildGrid$Action" 30 "BuildGrid$Action" "isFlake" "Z" : Cond) ∈ gBIG := gIn 190 rfl rfl
set_option maxRecDepth 20000 in
theorem k_191 : (.fieldLink "BuildGrid$Course" 229 "BuildGrid$Action" "isFlake" "Z" : Cond) ∈ gBIG := gIn 191 rfl rfl
set_option maxRecDepth 20000 in
theorem k_192 : (.fieldLink "BuildGrid$Course" 154 "BuildGrid$Action" "attempts" "I" : Cond) ∈ gBIG := gIn 192 rfl rfl
set_option maxRecDepth 20000 in
theorem k_193 : (.fieldLink "BuildGrid$Action" 21 "BuildGrid$Action" "failures" "I" : Cond) ∈ gBIG := gIn 193 rfl rfl
set_option maxRecDepth 20000 in
theorem k_194 : (.fieldLink "BuildGrid$Course" 214 "BuildGrid$Action" "failures" "I" : Cond) ∈ gBIG := gIn 194 rfl rfl
set_option maxRecDepth 20000 in
theorem k_212 : (.fieldLink "BuildGrid$Target" 21 "BuildGrid$Target" "number" "I" : Cond) ∈ gBIG := gIn 212 rfl rfl
set_option maxRecDepth 20000 in
theorem k_213 : (.fieldLink "BuildGrid$Fresh" 48 "BuildGrid$Target" "number" "I" : Cond) ∈ gBIG := gIn 213 rfl rfl
set_option maxRecDepth 20000 in
theorem k_214 : (.fieldLink "BuildGrid$Course" 88 "BuildGrid$Target" "number" "I" : Cond) ∈ gBIG := gIn 214 rfl rfl
set_option maxRecDepth 20000 in
theorem k_215 : (.fieldLink "BuildGrid" 127 "BuildGrid$Target" "number" "I" : Cond) ∈ gBIG := gIn 215 rfl rfl
set_option maxRecDepth 20000 in
theorem k_216 : (.fieldLink "BuildGrid$Graph" 86 "BuildGrid$Target" "number" "I" : Cond) ∈ gBIG := gIn 216 rfl rfl
set_option maxRecDepth 20000 in
theorem k_217 : (.fieldLink "BuildGrid$Target" 29 "BuildGrid$Target" "inputs" "LBuildGrid$Inputs;" : Cond) ∈ gBIG := gIn 217 rfl rfl
set_option maxRecDepth 20000 in
theorem k_218 : (.fieldLink "BuildGrid$View" 41 "BuildGrid$Target" "inputs" "LBuildGrid$Inputs;" : Cond) ∈ gBIG := gIn 218 rfl rfl
set_option maxRecDepth 20000 in
theorem k_219 : (.fieldLink "BuildGrid$Graph" 56 "BuildGrid$Target" "inputs" "LBuildGrid$Inputs;" : Cond) ∈ gBIG := gIn 219 rfl rfl
set_option maxRecDepth 20000 in
theorem k_220 : (.fieldLink "BuildGrid" 120 "BuildGrid$Target" "inputs" "LBuildGrid$Inputs;" : Cond) ∈ gBIG := gIn 220 rfl rfl
set_option maxRecDepth 20000 in
theorem k_221 : (.fieldLink "BuildGrid$Target" 11 "BuildGrid$Target" "actions" "[LBuildGrid$Action;" : Cond) ∈ gBIG := gIn 221 rfl rfl
set_option maxRecDepth 20000 in
theorem k_222 : (.fieldLink "BuildGrid$Graph" 131 "BuildGrid$Target" "actions" "[LBuildGrid$Action;" : Cond) ∈ gBIG := gIn 222 rfl rfl
set_option maxRecDepth 20000 in
theorem k_223 : (.fieldLink "BuildGrid$Course" 261 "BuildGrid$Target" "actions" "[LBuildGrid$Action;" : Cond) ∈ gBIG := gIn 223 rfl rfl
set_option maxRecDepth 20000 in
theorem k_224 : (.fieldLink "BuildGrid$Target" 36 "BuildGrid$Target" "kind" "I" : Cond) ∈ gBIG := gIn 224 rfl rfl
set_option maxRecDepth 20000 in
theorem k_225 : (.fieldLink "BuildGrid$View" 21 "BuildGrid$Target" "kind" "I" : Cond) ∈ gBIG := gIn 225 rfl rfl
set_option maxRecDepth 20000 in
theorem k_226 : (.fieldLink "BuildGrid" 137 "BuildGrid$Target" "kind" "I" : Cond) ∈ gBIG := gIn 226 rfl rfl
set_option maxRecDepth 20000 in
theorem k_227 : (.fieldLink "BuildGrid$Target" 39 "BuildGrid$Target" "tool" "I" : Cond) ∈ gBIG := gIn 227 rfl rfl
set_option maxRecDepth 20000 in
theorem k_228 : (.fieldLink "BuildGrid$View" 31 "BuildGrid$Target" "tool" "I" : Cond) ∈ gBIG := gIn 228 rfl rfl
set_option maxRecDepth 20000 in
theorem k_229 : (.fieldLink "BuildGrid$Worker" 47 "BuildGrid$Target" "tool" "I" : Cond) ∈ gBIG := gIn 229 rfl rfl
set_option maxRecDepth 20000 in
theorem k_230 : (.fieldLink "BuildGrid" 140 "BuildGrid$Target" "tool" "I" : Cond) ∈ gBIG := gIn 230 rfl rfl
set_option maxRecDepth 20000 in
theorem k_231 : (.fieldLink "BuildGrid$Course" 189 "BuildGrid$Target" "tool" "I" : Cond) ∈ gBIG := gIn 231 rfl rfl
set_option maxRecDepth 20000 in
theorem k_232 : (.fieldLink "BuildGrid$Target" 42 "BuildGrid$Target" "option" "I" : Cond) ∈ gBIG := gIn 232 rfl rfl
set_option maxRecDepth 20000 in
theorem k_233 : (.fieldLink "BuildGrid$View" 38 "BuildGrid$Target" "option" "I" : Cond) ∈ gBIG := gIn 233 rfl rfl
set_option maxRecDepth 20000 in
theorem k_234 : (.fieldLink "BuildGrid$Target" 45 "BuildGrid$Target" "shards" "I" : Cond) ∈ gBIG := gIn 234 rfl rfl
set_option maxRecDepth 20000 in
theorem k_235 : (.fieldLink "BuildGrid$Course" 82 "BuildGrid$Target" "shards" "I" : Cond) ∈ gBIG := gIn 235 rfl rfl
set_option maxRecDepth 20000 in
theorem k_236 : (.fieldLink "BuildGrid$Fresh" 61 "BuildGrid$Target" "shards" "I" : Cond) ∈ gBIG := gIn 236 rfl rfl
set_option maxRecDepth 20000 in
theorem k_237 : (.fieldLink "BuildGrid" 143 "BuildGrid$Target" "shards" "I" : Cond) ∈ gBIG := gIn 237 rfl rfl
set_option maxRecDepth 20000 in
theorem k_238 : (.fieldLink "BuildGrid$Graph" 113 "BuildGrid$Target" "shards" "I" : Cond) ∈ gBIG := gIn 238 rfl rfl
set_option maxRecDepth 20000 in
theorem k_239 : (.fieldLink "BuildGrid$Target" 48 "BuildGrid$Target" "finds" "I" : Cond) ∈ gBIG := gIn 239 rfl rfl
set_option maxRecDepth 20000 in
theorem k_240 : (.fieldLink "BuildGrid" 146 "BuildGrid$Target" "finds" "I" : Cond) ∈ gBIG := gIn 240 rfl rfl
set_option maxRecDepth 20000 in
theorem k_241 : (.fieldLink "BuildGrid$Target" 51 "BuildGrid$Target" "flakiness" "I" : Cond) ∈ gBIG := gIn 241 rfl rfl
set_option maxRecDepth 20000 in
theorem k_242 : (.fieldLink "BuildGrid" 149 "BuildGrid$Target" "flakiness" "I" : Cond) ∈ gBIG := gIn 242 rfl rfl
set_option maxRecDepth 20000 in
theorem k_243 : (.fieldLink "BuildGrid$Target" 17 "BuildGrid$Target" "ticksTaken" "I" : Cond) ∈ gBIG := gIn 243 rfl rfl
set_option maxRecDepth 20000 in
theorem k_244 : (.fieldLink "BuildGrid$Graph" 92 "BuildGrid$Target" "ticksTaken" "I" : Cond) ∈ gBIG := gIn 244 rfl rfl
set_option maxRecDepth 20000 in
theorem k_245 : (.fieldLink "BuildGrid$Course" 223 "BuildGrid$Target" "ticksTaken" "I" : Cond) ∈ gBIG := gIn 245 rfl rfl
set_option maxRecDepth 20000 in
theorem k_246 : (.fieldLink "BuildGrid$Course" 95 "BuildGrid$Target" "way" "I" : Cond) ∈ gBIG := gIn 246 rfl rfl
set_option maxRecDepth 20000 in
theorem k_247 : (.fieldLink "BuildGrid$Graph" 89 "BuildGrid$Target" "way" "I" : Cond) ∈ gBIG := gIn 247 rfl rfl
set_option maxRecDepth 20000 in
theorem k_248 : (.fieldLink "BuildGrid$Target" 78 "BuildGrid$Target" "flakyBuilds" "I" : Cond) ∈ gBIG := gIn 248 rfl rfl
set_option maxRecDepth 20000 in
theorem k_249 : (.fieldLink "BuildGrid$Target" 75 "BuildGrid$Target" "lastFlakyBuild" "I" : Cond) ∈ gBIG := gIn 249 rfl rfl
set_option maxRecDepth 20000 in
theorem k_277 : (.classLink "BuildGrid$Graph" 31 "BuildGrid$Inputs" : Cond) ∈ gBIG := gIn 277 rfl rfl
set_option maxRecDepth 20000 in
theorem k_278 : (.methodLink "BuildGrid$Graph" 33 ⟨"BuildGrid$Inputs", "<init>", "([I)V"⟩ : Cond) ∈ gBIG := gIn 278 rfl rfl
set_option maxRecDepth 20000 in
theorem k_279 : (.fieldLink "BuildGrid$Graph" 11 "BuildGrid$Graph" "targets" "[LBuildGrid$Target;" : Cond) ∈ gBIG := gIn 279 rfl rfl
set_option maxRecDepth 20000 in
theorem k_280 : (.fieldLink "BuildGrid$Graph" 27 "BuildGrid$Graph" "nobody" "LBuildGrid$Target;" : Cond) ∈ gBIG := gIn 280 rfl rfl
set_option maxRecDepth 20000 in
theorem k_281 : (.fieldLink "BuildGrid$Graph" 17 "BuildGrid$Graph" "proofs" "[I" : Cond) ∈ gBIG := gIn 281 rfl rfl
set_option maxRecDepth 20000 in
theorem k_282 : (.fieldLink "BuildGrid$Graph" 21 "BuildGrid$Graph" "distances" "[I" : Cond) ∈ gBIG := gIn 282 rfl rfl
set_option maxRecDepth 20000 in
theorem k_283 : (.fieldLink "BuildGrid$Graph" 36 "BuildGrid$Graph" "row" "LBuildGrid$Inputs;" : Cond) ∈ gBIG := gIn 283 rfl rfl
set_option maxRecDepth 20000 in
theorem k_284 : (.fieldLink "BuildGrid" 92 "BuildGrid$Graph" "row" "LBuildGrid$Inputs;" : Cond) ∈ gBIG := gIn 284 rfl rfl
set_option maxRecDepth 20000 in
theorem k_285 : (.fieldLink "BuildGrid$Graph" 40 "BuildGrid$Graph" "told" "I" : Cond) ∈ gBIG := gIn 285 rfl rfl
set_option maxRecDepth 20000 in
theorem k_286 : (.fieldLink "BuildGrid$Course" 65 "BuildGrid$Graph" "told" "I" : Cond) ∈ gBIG := gIn 286 rfl rfl
set_option maxRecDepth 20000 in
theorem k_287 : (.fieldLink "BuildGrid$Fresh" 91 "BuildGrid$Graph" "told" "I" : Cond) ∈ gBIG := gIn 287 rfl rfl
set_option maxRecDepth 20000 in
theorem k_288 : (.fieldLink "BuildGrid" 107 "BuildGrid$Graph" "told" "I" : Cond) ∈ gBIG := gIn 288 rfl rfl
set_option maxRecDepth 20000 in
theorem k_302 : (.classLink "BuildGrid" 29 "BuildGrid$Cache" : Cond) ∈ gBIG := gIn 302 rfl rfl
set_option maxRecDepth 20000 in
theorem k_304 : (.methodLink "BuildGrid" 31 ⟨"BuildGrid$Cache", "<init>", "()V"⟩ : Cond) ∈ gBIG := gIn 304 rfl rfl
set_option maxRecDepth 20000 in
theorem k_307 : (.methodLink "BuildGrid$Cache" 3 ⟨"java/lang/Object", "<init>", "()V"⟩ : Cond) ∈ gBIG := gIn 307 rfl rfl
set_option maxRecDepth 20000 in
theorem k_308 : (.classLink "BuildGrid$Cache" 9 "BuildGrid$Entry" : Cond) ∈ gBIG := gIn 308 rfl rfl
set_option maxRecDepth 20000 in
theorem k_311 : (.methodLinkNest "BuildGrid$Cache" 17 ⟨"BuildGrid$Entry", "<init>", "()V"⟩ "BuildGrid" : Cond) ∈ gNest := gInN 311 rfl rfl
set_option maxRecDepth 20000 in
theorem k_314 : (.methodLink "BuildGrid$Entry" 3 ⟨"java/lang/Object", "<init>", "()V"⟩ : Cond) ∈ gBIG := gIn 314 rfl rfl
set_option maxRecDepth 20000 in
theorem k_315 : (.fieldLink "BuildGrid$Entry" 9 "BuildGrid$Entry" "key" "I" : Cond) ∈ gBIG := gIn 315 rfl rfl
set_option maxRecDepth 20000 in
theorem k_316 : (.fieldLink "BuildGrid$Entry" 15 "BuildGrid$Entry" "file" "I" : Cond) ∈ gBIG := gIn 316 rfl rfl
set_option maxRecDepth 20000 in
theorem k_317 : (.fieldLink "BuildGrid$Entry" 18 "BuildGrid$Entry" "content" "I" : Cond) ∈ gBIG := gIn 317 rfl rfl
set_option maxRecDepth 20000 in
theorem k_318 : (.fieldLink "BuildGrid$Entry" 21 "BuildGrid$Entry" "result" "I" : Cond) ∈ gBIG := gIn 318 rfl rfl
set_option maxRecDepth 20000 in
theorem k_319 : (.fieldLink "BuildGrid$Cache" 47 "BuildGrid$Entry" "result" "I" : Cond) ∈ gBIG := gIn 319 rfl rfl
set_option maxRecDepth 20000 in
theorem k_320 : (.fieldLink "BuildGrid" 192 "BuildGrid$Entry" "result" "I" : Cond) ∈ gBIG := gIn 320 rfl rfl
set_option maxRecDepth 20000 in
theorem k_321 : (.fieldLink "BuildGrid$Course" 280 "BuildGrid$Entry" "result" "I" : Cond) ∈ gBIG := gIn 321 rfl rfl
set_option maxRecDepth 20000 in
theorem k_322 : (.fieldLink "BuildGrid$Entry" 24 "BuildGrid$Entry" "worker" "I" : Cond) ∈ gBIG := gIn 322 rfl rfl
set_option maxRecDepth 20000 in
theorem k_323 : (.fieldLink "BuildGrid$Cache" 50 "BuildGrid$Entry" "worker" "I" : Cond) ∈ gBIG := gIn 323 rfl rfl
set_option maxRecDepth 20000 in
theorem k_324 : (.fieldLink "BuildGrid$Course" 285 "BuildGrid$Entry" "worker" "I" : Cond) ∈ gBIG := gIn 324 rfl rfl
set_option maxRecDepth 20000 in
theorem k_325 : (.fieldLink "BuildGrid$Entry" 35 "BuildGrid$Entry" "signature" "I" : Cond) ∈ gBIG := gIn 325 rfl rfl
set_option maxRecDepth 20000 in
theorem k_326 : (.fieldLink "BuildGrid$Entry" 27 "BuildGrid$Entry" "isThere" "Z" : Cond) ∈ gBIG := gIn 326 rfl rfl
set_option maxRecDepth 20000 in
theorem k_327 : (.fieldLink "BuildGrid" 197 "BuildGrid$Entry" "isThere" "Z" : Cond) ∈ gBIG := gIn 327 rfl rfl
set_option maxRecDepth 20000 in
theorem k_343 : (.fieldLink "BuildGrid$Cache" 11 "BuildGrid$Cache" "ring" "[LBuildGrid$Entry;" : Cond) ∈ gBIG := gIn 343 rfl rfl
set_option maxRecDepth 20000 in
theorem k_344 : (.fieldLink "BuildGrid$Cache" 22 "BuildGrid$Cache" "first" "I" : Cond) ∈ gBIG := gIn 344 rfl rfl
set_option maxRecDepth 20000 in
theorem k_345 : (.fieldLink "BuildGrid$Cache" 18 "BuildGrid$Cache" "size" "I" : Cond) ∈ gBIG := gIn 345 rfl rfl
set_option maxRecDepth 20000 in
theorem k_346 : (.fieldLink "BuildGrid" 171 "BuildGrid$Cache" "size" "I" : Cond) ∈ gBIG := gIn 346 rfl rfl
set_option maxRecDepth 20000 in
theorem k_354 : (.classLink "BuildGrid" 36 "BuildGrid$Course" : Cond) ∈ gBIG := gIn 354 rfl rfl
set_option maxRecDepth 20000 in
theorem k_356 : (.classLink "BuildGrid" 38 "BuildGrid$View" : Cond) ∈ gBIG := gIn 356 rfl rfl
set_option maxRecDepth 20000 in
theorem k_358 : (.methodLink "BuildGrid" 46 ⟨"BuildGrid$View", "<init>", "([I[I)V"⟩ : Cond) ∈ gBIG := gIn 358 rfl rfl
set_option maxRecDepth 20000 in
theorem k_361 : (.methodLink "BuildGrid$View" 3 ⟨"java/lang/Object", "<init>", "()V"⟩ : Cond) ∈ gBIG := gIn 361 rfl rfl
set_option maxRecDepth 20000 in
theorem k_362 : (.fieldLink "BuildGrid$View" 15 "BuildGrid$View" "versions" "[I" : Cond) ∈ gBIG := gIn 362 rfl rfl
set_option maxRecDepth 20000 in
theorem k_363 : (.fieldLink "BuildGrid$View" 18 "BuildGrid$View" "contents" "[I" : Cond) ∈ gBIG := gIn 363 rfl rfl
set_option maxRecDepth 20000 in
theorem k_364 : (.fieldLink "BuildGrid$Fresh" 84 "BuildGrid$View" "contents" "[I" : Cond) ∈ gBIG := gIn 364 rfl rfl
set_option maxRecDepth 20000 in
theorem k_365 : (.fieldLink "BuildGrid$View" 9 "BuildGrid$View" "digests" "[I" : Cond) ∈ gBIG := gIn 365 rfl rfl
set_option maxRecDepth 20000 in
theorem k_366 : (.fieldLink "BuildGrid$Fresh" 45 "BuildGrid$View" "digests" "[I" : Cond) ∈ gBIG := gIn 366 rfl rfl
set_option maxRecDepth 20000 in
theorem k_367 : (.fieldLink "BuildGrid$Course" 252 "BuildGrid$View" "digests" "[I" : Cond) ∈ gBIG := gIn 367 rfl rfl
set_option maxRecDepth 20000 in
theorem k_375 : (.methodLink "BuildGrid" 49 ⟨"BuildGrid$Course", "<init>", "(LBuildGrid$Graph;LBuildGrid$Cache;LBuildGrid$View;)V"⟩ : Cond) ∈ gBIG := gIn 375 rfl rfl
set_option maxRecDepth 20000 in
theorem k_378 : (.methodLink "BuildGrid$Course" 3 ⟨"java/lang/Object", "<init>", "()V"⟩ : Cond) ∈ gBIG := gIn 378 rfl rfl
set_option maxRecDepth 20000 in
theorem k_379 : (.classLink "BuildGrid$Course" 9 "BuildGrid$Worker" : Cond) ∈ gBIG := gIn 379 rfl rfl
set_option maxRecDepth 20000 in
theorem k_381 : (.methodLink "BuildGrid$Course" 11 ⟨"BuildGrid$Worker", "<init>", "(II)V"⟩ : Cond) ∈ gBIG := gIn 381 rfl rfl
set_option maxRecDepth 20000 in
theorem k_384 : (.methodLink "BuildGrid$Worker" 3 ⟨"java/lang/Object", "<init>", "()V"⟩ : Cond) ∈ gBIG := gIn 384 rfl rfl
set_option maxRecDepth 20000 in
theorem k_385 : (.fieldLink "BuildGrid$Worker" 15 "BuildGrid$Worker" "number" "I" : Cond) ∈ gBIG := gIn 385 rfl rfl
set_option maxRecDepth 20000 in
theorem k_386 : (.fieldLink "BuildGrid$Course" 224 "BuildGrid$Worker" "number" "I" : Cond) ∈ gBIG := gIn 386 rfl rfl
set_option maxRecDepth 20000 in
theorem k_387 : (.fieldLink "BuildGrid$Worker" 18 "BuildGrid$Worker" "power" "I" : Cond) ∈ gBIG := gIn 387 rfl rfl
set_option maxRecDepth 20000 in
theorem k_388 : (.fieldLink "BuildGrid$Course" 102 "BuildGrid$Worker" "power" "I" : Cond) ∈ gBIG := gIn 388 rfl rfl
set_option maxRecDepth 20000 in
theorem k_389 : (.fieldLink "BuildGrid" 156 "BuildGrid$Worker" "power" "I" : Cond) ∈ gBIG := gIn 389 rfl rfl
set_option maxRecDepth 20000 in
theorem k_390 : (.fieldLink "BuildGrid$Worker" 9 "BuildGrid$Worker" "warmTool" "I" : Cond) ∈ gBIG := gIn 390 rfl rfl
set_option maxRecDepth 20000 in
theorem k_391 : (.fieldLink "BuildGrid$Worker" 21 "BuildGrid$Worker" "action" "LBuildGrid$Action;" : Cond) ∈ gBIG := gIn 391 rfl rfl
set_option maxRecDepth 20000 in
theorem k_392 : (.fieldLink "BuildGrid$Course" 98 "BuildGrid$Worker" "action" "LBuildGrid$Action;" : Cond) ∈ gBIG := gIn 392 rfl rfl
set_option maxRecDepth 20000 in
theorem k_393 : (.fieldLink "BuildGrid$Worker" 28 "BuildGrid$Worker" "key" "I" : Cond) ∈ gBIG := gIn 393 rfl rfl
set_option maxRecDepth 20000 in
theorem k_394 : (.fieldLink "BuildGrid$Course" 235 "BuildGrid$Worker" "key" "I" : Cond) ∈ gBIG := gIn 394 rfl rfl
set_option maxRecDepth 20000 in
theorem k_395 : (.fieldLink "BuildGrid$Worker" 31 "BuildGrid$Worker" "content" "I" : Cond) ∈ gBIG := gIn 395 rfl rfl
set_option maxRecDepth 20000 in
theorem k_396 : (.fieldLink "BuildGrid$Course" 241 "BuildGrid$Worker" "content" "I" : Cond) ∈ gBIG := gIn 396 rfl rfl
set_option maxRecDepth 20000 in
theorem k_397 : (.fieldLink "BuildGrid$Worker" 25 "BuildGrid$Worker" "ticksLeft" "I" : Cond) ∈ gBIG := gIn 397 rfl rfl
set_option maxRecDepth 20000 in
theorem k_398 : (.fieldLink "BuildGrid$Course" 124 "BuildGrid$Worker" "ticksLeft" "I" : Cond) ∈ gBIG := gIn 398 rfl rfl
set_option maxRecDepth 20000 in
theorem k_399 : (.fieldLink "BuildGrid$Worker" 38 "BuildGrid$Worker" "ticksTaken" "I" : Cond) ∈ gBIG := gIn 399 rfl rfl
set_option maxRecDepth 20000 in
theorem k_400 : (.fieldLink "BuildGrid$Course" 220 "BuildGrid$Worker" "ticksTaken" "I" : Cond) ∈ gBIG := gIn 400 rfl rfl
set_option maxRecDepth 20000 in
theorem k_419 : (.fieldLink "BuildGrid$Course" 32 "BuildGrid$Course" "graph" "LBuildGrid$Graph;" : Cond) ∈ gBIG := gIn 419 rfl rfl
set_option maxRecDepth 20000 in
theorem k_420 : (.fieldLink "BuildGrid$Course" 36 "BuildGrid$Course" "cache" "LBuildGrid$Cache;" : Cond) ∈ gBIG := gIn 420 rfl rfl
set_option maxRecDepth 20000 in
theorem k_421 : (.fieldLink "BuildGrid$Course" 40 "BuildGrid$Course" "view" "LBuildGrid$View;" : Cond) ∈ gBIG := gIn 421 rfl rfl
set_option maxRecDepth 20000 in
theorem k_422 : (.fieldLink "BuildGrid$Course" 14 "BuildGrid$Course" "home" "LBuildGrid$Worker;" : Cond) ∈ gBIG := gIn 422 rfl rfl
set_option maxRecDepth 20000 in
theorem k_423 : (.fieldLink "BuildGrid$Course" 20 "BuildGrid$Course" "workers" "[LBuildGrid$Worker;" : Cond) ∈ gBIG := gIn 423 rfl rfl
set_option maxRecDepth 20000 in
theorem k_424 : (.fieldLink "BuildGrid$Course" 24 "BuildGrid$Course" "counts" "[I" : Cond) ∈ gBIG := gIn 424 rfl rfl
set_option maxRecDepth 20000 in
theorem k_425 : (.fieldLink "BuildGrid" 257 "BuildGrid$Course" "counts" "[I" : Cond) ∈ gBIG := gIn 425 rfl rfl
set_option maxRecDepth 20000 in
theorem k_426 : (.fieldLink "BuildGrid$Course" 58 "BuildGrid$Course" "needed" "I" : Cond) ∈ gBIG := gIn 426 rfl rfl
set_option maxRecDepth 20000 in
theorem k_427 : (.fieldLink "BuildGrid$Course" 62 "BuildGrid$Course" "builds" "I" : Cond) ∈ gBIG := gIn 427 rfl rfl
set_option maxRecDepth 20000 in
theorem k_428 : (.fieldLink "BuildGrid" 77 "BuildGrid$Course" "goesOn" "Z" : Cond) ∈ gBIG := gIn 428 rfl rfl
set_option maxRecDepth 20000 in
theorem k_429 : (.fieldLink "BuildGrid$Course" 258 "BuildGrid$Course" "goesOn" "Z" : Cond) ∈ gBIG := gIn 429 rfl rfl
set_option maxRecDepth 20000 in
theorem k_430 : (.fieldLink "BuildGrid$Course" 28 "BuildGrid$Course" "looksAtSignatures" "Z" : Cond) ∈ gBIG := gIn 430 rfl rfl
set_option maxRecDepth 20000 in
theorem k_431 : (.fieldLink "BuildGrid" 165 "BuildGrid$Course" "looksAtSignatures" "Z" : Cond) ∈ gBIG := gIn 431 rfl rfl
set_option maxRecDepth 20000 in
theorem k_432 : (.fieldLink "BuildGrid" 168 "BuildGrid$Course" "speculates" "Z" : Cond) ∈ gBIG := gIn 432 rfl rfl
set_option maxRecDepth 20000 in
theorem k_433 : (.fieldLink "BuildGrid$Course" 130 "BuildGrid$Course" "speculates" "Z" : Cond) ∈ gBIG := gIn 433 rfl rfl
set_option maxRecDepth 20000 in
theorem k_457 : (.classLink "BuildGrid" 56 "BuildGrid$Fresh" : Cond) ∈ gBIG := gIn 457 rfl rfl
set_option maxRecDepth 20000 in
theorem k_459 : (.methodLink "BuildGrid" 58 ⟨"BuildGrid$Fresh", "<init>", "(LBuildGrid$Graph;LBuildGrid$Sources;)V"⟩ : Cond) ∈ gBIG := gIn 459 rfl rfl
set_option maxRecDepth 20000 in
theorem k_462 : (.methodLink "BuildGrid$Fresh" 3 ⟨"java/lang/Object", "<init>", "()V"⟩ : Cond) ∈ gBIG := gIn 462 rfl rfl
set_option maxRecDepth 20000 in
theorem k_463 : (.classLink "BuildGrid$Fresh" 19 "BuildGrid$View" : Cond) ∈ gBIG := gIn 463 rfl rfl
set_option maxRecDepth 20000 in
theorem k_464 : (.methodLink "BuildGrid$Fresh" 27 ⟨"BuildGrid$View", "<init>", "([I[I)V"⟩ : Cond) ∈ gBIG := gIn 464 rfl rfl
set_option maxRecDepth 20000 in
theorem k_465 : (.fieldLink "BuildGrid$Fresh" 9 "BuildGrid$Fresh" "graph" "LBuildGrid$Graph;" : Cond) ∈ gBIG := gIn 465 rfl rfl
set_option maxRecDepth 20000 in
theorem k_466 : (.fieldLink "BuildGrid$Fresh" 15 "BuildGrid$Fresh" "sources" "LBuildGrid$Sources;" : Cond) ∈ gBIG := gIn 466 rfl rfl
set_option maxRecDepth 20000 in
theorem k_467 : (.fieldLink "BuildGrid$Fresh" 30 "BuildGrid$Fresh" "view" "LBuildGrid$View;" : Cond) ∈ gBIG := gIn 467 rfl rfl
set_option maxRecDepth 20000 in
theorem k_468 : (.fieldLink "BuildGrid$Fresh" 38 "BuildGrid$Fresh" "good" "I" : Cond) ∈ gBIG := gIn 468 rfl rfl
set_option maxRecDepth 20000 in
theorem k_478 : (.fieldLink "BuildGrid" 10 "BuildGrid" "sources" "LBuildGrid$Sources;" : Cond) ∈ gBIG := gIn 478 rfl rfl
set_option maxRecDepth 20000 in
theorem k_479 : (.fieldLink "BuildGrid" 25 "BuildGrid" "graph" "LBuildGrid$Graph;" : Cond) ∈ gBIG := gIn 479 rfl rfl
set_option maxRecDepth 20000 in
theorem k_480 : (.fieldLink "BuildGrid" 32 "BuildGrid" "cache" "LBuildGrid$Cache;" : Cond) ∈ gBIG := gIn 480 rfl rfl
set_option maxRecDepth 20000 in
theorem k_481 : (.fieldLink "BuildGrid" 52 "BuildGrid" "course" "LBuildGrid$Course;" : Cond) ∈ gBIG := gIn 481 rfl rfl
set_option maxRecDepth 20000 in
theorem k_482 : (.fieldLink "BuildGrid" 61 "BuildGrid" "fresh" "LBuildGrid$Fresh;" : Cond) ∈ gBIG := gIn 482 rfl rfl
set_option maxRecDepth 20000 in
theorem k_483 : (.fieldLink "BuildGrid" 206 "BuildGrid" "now" "I" : Cond) ∈ gBIG := gIn 483 rfl rfl
set_option maxRecDepth 20000 in
theorem k_484 : (.fieldLink "BuildGrid" 270 "BuildGrid" "looksAtMiddle" "I" : Cond) ∈ gBIG := gIn 484 rfl rfl
set_option maxRecDepth 20000 in
theorem k_500 : (.methodLink "BuildGridLaw" 118 ⟨"BuildGrid", "setWays", "(ZZ)V"⟩ : Cond) ∈ gBIG := gIn 500 rfl rfl
set_option maxRecDepth 20000 in
theorem k_504 : (.methodLink "BuildGridLaw" 123 ⟨"BuildGrid", "entries", "()I"⟩ : Cond) ∈ gBIG := gIn 504 rfl rfl
set_option maxRecDepth 20000 in
theorem k_508 : (.methodLink "BuildGridLaw" 144 ⟨"BuildGrid", "goesOn", "()Z"⟩ : Cond) ∈ gBIG := gIn 508 rfl rfl
set_option maxRecDepth 20000 in
theorem k_512 : (.methodLink "BuildGridLaw" 173 ⟨"BuildGrid", "changes", "()I"⟩ : Cond) ∈ gBIG := gIn 512 rfl rfl
set_option maxRecDepth 20000 in
theorem k_516 : (.methodLink "BuildGridLaw" 180 ⟨"BuildGrid", "looks", "()I"⟩ : Cond) ∈ gBIG := gIn 516 rfl rfl
set_option maxRecDepth 20000 in
theorem k_520 : (.methodLink "BuildGridLaw" 88 ⟨"BuildGridLaw", "write", "(LBuildGrid;II[J)I"⟩ : Cond) ∈ gBIG := gIn 520 rfl rfl
set_option maxRecDepth 20000 in
theorem k_523 : (.classLink "BuildGridLaw" 13 "java/lang/IllegalArgumentException" : Cond) ∈ gBIG := gIn 523 rfl rfl
set_option maxRecDepth 20000 in
theorem k_524 : (.methodLink "BuildGridLaw" 7 ⟨"BuildGrid", "write", "(II)I"⟩ : Cond) ∈ gBIG := gIn 524 rfl rfl
set_option maxRecDepth 20000 in
theorem k_528 : (.methodLink "BuildGrid" 65 ⟨"BuildGrid", "isBelow", "(II)Z"⟩ : Cond) ∈ gBIG := gIn 528 rfl rfl
set_option maxRecDepth 20000 in
theorem k_531 : (.methodLink "BuildGrid" 69 ⟨"BuildGrid", "checkArgument", "(Z)V"⟩ : Cond) ∈ gBIG := gIn 531 rfl rfl
set_option maxRecDepth 20000 in
theorem k_534 : (.classLink "BuildGrid" 176 "java/lang/IllegalArgumentException" : Cond) ∈ gBIG := gIn 534 rfl rfl
set_option maxRecDepth 20000 in
theorem k_576 : (.methodLink "BuildGrid" 180 ⟨"java/lang/IllegalArgumentException", "<init>", "(Ljava/lang/String;)V"⟩ : Cond) ∈ gBIG := gIn 576 rfl rfl
set_option maxRecDepth 20000 in
theorem k_602 : (.methodLink "BuildGrid" 73 ⟨"BuildGrid$Sources", "rewrite", "(II)I"⟩ : Cond) ∈ gBIG := gIn 602 rfl rfl
set_option maxRecDepth 20000 in
theorem k_606 : (.methodLinkNest "BuildGrid$Sources" 27 ⟨"BuildGrid", "exchange", "([III)I"⟩ "BuildGrid" : Cond) ∈ gNest := gInN 606 rfl rfl
set_option maxRecDepth 20000 in
theorem k_609 : (.methodLink "BuildGrid" 260 ⟨"BuildGrid", "at", "([II)I"⟩ : Cond) ∈ gBIG := gIn 609 rfl rfl
set_option maxRecDepth 20000 in
theorem k_612 : (.methodLink "BuildGrid" 295 ⟨"BuildGrid", "store", "([III)V"⟩ : Cond) ∈ gBIG := gIn 612 rfl rfl
set_option maxRecDepth 20000 in
theorem k_615 : (.methodLink "BuildGrid$Sources" 31 ⟨"BuildGrid$Sources", "keepChange", "(II)V"⟩ : Cond) ∈ gBIG := gIn 615 rfl rfl
set_option maxRecDepth 20000 in
theorem k_619 : (.methodLink "BuildGrid$Sources" 39 ⟨"BuildGrid$Sources", "forgetFirstChange", "()V"⟩ : Cond) ∈ gBIG := gIn 619 rfl rfl
set_option maxRecDepth 20000 in
theorem k_623 : (.methodLinkNest "BuildGrid$Sources" 46 ⟨"BuildGrid", "at", "([II)I"⟩ "BuildGrid" : Cond) ∈ gNest := gInN 623 rfl rfl
set_option maxRecDepth 20000 in
theorem k_624 : (.methodLinkNest "BuildGrid$Sources" 42 ⟨"BuildGrid", "store", "([III)V"⟩ "BuildGrid" : Cond) ∈ gNest := gInN 624 rfl rfl
set_option maxRecDepth 20000 in
theorem k_625 : (.methodLink "BuildGridLaw" 98 ⟨"BuildGridLaw", "set", "(LBuildGrid;II[J)I"⟩ : Cond) ∈ gBIG := gIn 625 rfl rfl
set_option maxRecDepth 20000 in
theorem k_628 : (.classLink "BuildGridLaw" 18 "java/lang/IllegalStateException" : Cond) ∈ gBIG := gIn 628 rfl rfl
set_option maxRecDepth 20000 in
theorem k_629 : (.methodLink "BuildGridLaw" 15 ⟨"BuildGrid", "set", "(II)I"⟩ : Cond) ∈ gBIG := gIn 629 rfl rfl
set_option maxRecDepth 20000 in
theorem k_633 : (.methodLink "BuildGrid" 81 ⟨"BuildGrid", "checkState", "(Z)V"⟩ : Cond) ∈ gBIG := gIn 633 rfl rfl
set_option maxRecDepth 20000 in
theorem k_636 : (.classLink "BuildGrid" 278 "java/lang/IllegalStateException" : Cond) ∈ gBIG := gIn 636 rfl rfl
set_option maxRecDepth 20000 in
theorem k_646 : (.methodLink "BuildGrid" 282 ⟨"java/lang/IllegalStateException", "<init>", "(Ljava/lang/String;)V"⟩ : Cond) ∈ gBIG := gIn 646 rfl rfl
set_option maxRecDepth 20000 in
theorem k_652 : (.methodLink "BuildGrid" 84 ⟨"BuildGrid", "exchange", "([III)I"⟩ : Cond) ∈ gBIG := gIn 652 rfl rfl
set_option maxRecDepth 20000 in
theorem k_653 : (.methodLink "BuildGridLaw" 101 ⟨"BuildGridLaw", "setTool", "(LBuildGrid;II[J)I"⟩ : Cond) ∈ gBIG := gIn 653 rfl rfl
set_option maxRecDepth 20000 in
theorem k_656 : (.methodLink "BuildGridLaw" 20 ⟨"BuildGrid", "setTool", "(II)I"⟩ : Cond) ∈ gBIG := gIn 656 rfl rfl
set_option maxRecDepth 20000 in
theorem k_660 : (.methodLink "BuildGridLaw" 104 ⟨"BuildGridLaw", "input", "(LBuildGrid;IIII[J)I"⟩ : Cond) ∈ gBIG := gIn 660 rfl rfl
set_option maxRecDepth 20000 in
theorem k_663 : (.classLink "BuildGridLaw" 27 "java/lang/IndexOutOfBoundsException" : Cond) ∈ gBIG := gIn 663 rfl rfl
set_option maxRecDepth 20000 in
theorem k_664 : (.methodLink "BuildGridLaw" 23 ⟨"BuildGrid", "input", "(IIII)I"⟩ : Cond) ∈ gBIG := gIn 664 rfl rfl
set_option maxRecDepth 20000 in
theorem k_668 : (.methodLink "BuildGrid" 88 ⟨"BuildGrid", "checkThing", "(I)V"⟩ : Cond) ∈ gBIG := gIn 668 rfl rfl
set_option maxRecDepth 20000 in
theorem k_672 : (.methodLink "BuildGrid" 288 ⟨"BuildGrid", "isTarget", "(I)Z"⟩ : Cond) ∈ gBIG := gIn 672 rfl rfl
set_option maxRecDepth 20000 in
theorem k_675 : (.methodLink "BuildGrid" 130 ⟨"BuildGrid", "checkTarget", "(I)V"⟩ : Cond) ∈ gBIG := gIn 675 rfl rfl
set_option maxRecDepth 20000 in
theorem k_679 : (.classLink "BuildGrid" 283 "java/lang/IndexOutOfBoundsException" : Cond) ∈ gBIG := gIn 679 rfl rfl
set_option maxRecDepth 20000 in
theorem k_689 : (.methodLink "BuildGrid" 287 ⟨"java/lang/IndexOutOfBoundsException", "<init>", "(Ljava/lang/String;)V"⟩ : Cond) ∈ gBIG := gIn 689 rfl rfl
set_option maxRecDepth 20000 in
theorem k_695 : (.methodLink "BuildGrid" 102 ⟨"BuildGrid$Inputs", "append", "(IIII)I"⟩ : Cond) ∈ gBIG := gIn 695 rfl rfl
set_option maxRecDepth 20000 in
theorem k_699 : (.methodLinkNest "BuildGrid$Inputs" 31 ⟨"BuildGrid", "store", "([III)V"⟩ "BuildGrid" : Cond) ∈ gNest := gInN 699 rfl rfl
set_option maxRecDepth 20000 in
theorem k_700 : (.methodLink "BuildGridLaw" 108 ⟨"BuildGridLaw", "target", "(LBuildGrid;IIIIII[J)I"⟩ : Cond) ∈ gBIG := gIn 700 rfl rfl
set_option maxRecDepth 20000 in
theorem k_703 : (.methodLink "BuildGridLaw" 29 ⟨"BuildGrid", "target", "(IIIIII)I"⟩ : Cond) ∈ gBIG := gIn 703 rfl rfl
set_option maxRecDepth 20000 in
theorem k_707 : (.constant "BuildGrid" 106 (65536 : Int32) : Cond) ∈ gBIG := gIn 707 rfl rfl
set_option maxRecDepth 20000 in
theorem k_708 : (.methodLink "BuildGrid" 110 ⟨"BuildGrid$Graph", "tellNext", "()LBuildGrid$Target;"⟩ : Cond) ∈ gBIG := gIn 708 rfl rfl
set_option maxRecDepth 20000 in
theorem k_712 : (.methodLink "BuildGrid$Graph" 44 ⟨"BuildGrid$Graph", "targetAt", "(I)LBuildGrid$Target;"⟩ : Cond) ∈ gBIG := gIn 712 rfl rfl
set_option maxRecDepth 20000 in
theorem k_716 : (.methodLink "BuildGrid" 114 ⟨"BuildGrid$Target", "describe", "(IIIIII)V"⟩ : Cond) ∈ gBIG := gIn 716 rfl rfl
set_option maxRecDepth 20000 in
theorem k_720 : (.methodLink "BuildGrid" 123 ⟨"BuildGrid$Inputs", "become", "(LBuildGrid$Inputs;)V"⟩ : Cond) ∈ gBIG := gIn 720 rfl rfl
set_option maxRecDepth 20000 in
theorem k_724 : (.methodLinkNest "BuildGrid$Inputs" 35 ⟨"BuildGrid", "at", "([II)I"⟩ "BuildGrid" : Cond) ∈ gNest := gInN 724 rfl rfl
set_option maxRecDepth 20000 in
theorem k_725 : (.methodLink "BuildGrid$Inputs" 39 ⟨"BuildGrid$Inputs", "append", "(IIII)I"⟩ : Cond) ∈ gBIG := gIn 725 rfl rfl
set_option maxRecDepth 20000 in
theorem k_726 : (.methodLink "BuildGridLaw" 112 ⟨"BuildGridLaw", "copy", "(LBuildGrid;II[J)I"⟩ : Cond) ∈ gBIG := gIn 726 rfl rfl
set_option maxRecDepth 20000 in
theorem k_729 : (.methodLink "BuildGridLaw" 33 ⟨"BuildGrid", "copy", "(II)I"⟩ : Cond) ∈ gBIG := gIn 729 rfl rfl
set_option maxRecDepth 20000 in
theorem k_733 : (.methodLink "BuildGrid" 133 ⟨"BuildGrid$Graph", "targetAt", "(I)LBuildGrid$Target;"⟩ : Cond) ∈ gBIG := gIn 733 rfl rfl
set_option maxRecDepth 20000 in
theorem k_734 : (.methodLink "BuildGridLaw" 115 ⟨"BuildGridLaw", "setPower", "(LBuildGrid;II[J)I"⟩ : Cond) ∈ gBIG := gIn 734 rfl rfl
set_option maxRecDepth 20000 in
theorem k_737 : (.methodLink "BuildGridLaw" 36 ⟨"BuildGrid", "setPower", "(II)I"⟩ : Cond) ∈ gBIG := gIn 737 rfl rfl
set_option maxRecDepth 20000 in
theorem k_741 : (.methodLink "BuildGrid" 152 ⟨"BuildGrid$Course", "workerAt", "(I)LBuildGrid$Worker;"⟩ : Cond) ∈ gBIG := gIn 741 rfl rfl
set_option maxRecDepth 20000 in
theorem k_745 : (.methodLink "BuildGrid" 161 ⟨"BuildGrid$Course", "changePower", "(LBuildGrid$Worker;I)V"⟩ : Cond) ∈ gBIG := gIn 745 rfl rfl
set_option maxRecDepth 20000 in
theorem k_749 : (.methodLink "BuildGrid$Course" 105 ⟨"BuildGrid$Worker", "rest", "(I)V"⟩ : Cond) ∈ gBIG := gIn 749 rfl rfl
set_option maxRecDepth 20000 in
theorem k_753 : (.methodLink "BuildGrid$Course" 108 ⟨"BuildGrid$Course", "isAnyAt", "(LBuildGrid$Action;)Z"⟩ : Cond) ∈ gBIG := gIn 753 rfl rfl
set_option maxRecDepth 20000 in
theorem k_757 : (.methodLink "BuildGrid$Course" 117 ⟨"BuildGrid$Course", "tally", "(I)V"⟩ : Cond) ∈ gBIG := gIn 757 rfl rfl
set_option maxRecDepth 20000 in
theorem k_761 : (.methodLinkNest "BuildGrid$Course" 44 ⟨"BuildGrid", "at", "([II)I"⟩ "BuildGrid" : Cond) ∈ gNest := gInN 761 rfl rfl
set_option maxRecDepth 20000 in
theorem k_762 : (.methodLinkNest "BuildGrid$Course" 48 ⟨"BuildGrid", "store", "([III)V"⟩ "BuildGrid" : Cond) ∈ gNest := gInN 762 rfl rfl
set_option maxRecDepth 20000 in
theorem k_763 : (.methodLink "BuildGridLaw" 127 ⟨"BuildGridLaw", "entry", "(LBuildGrid;II[J)I"⟩ : Cond) ∈ gBIG := gIn 763 rfl rfl
set_option maxRecDepth 20000 in
theorem k_766 : (.methodLink "BuildGridLaw" 39 ⟨"BuildGrid", "entry", "(II)I"⟩ : Cond) ∈ gBIG := gIn 766 rfl rfl
set_option maxRecDepth 20000 in
theorem k_770 : (.methodLink "BuildGrid" 172 ⟨"BuildGrid$Cache", "entryAt", "(I)LBuildGrid$Entry;"⟩ : Cond) ∈ gBIG := gIn 770 rfl rfl
set_option maxRecDepth 20000 in
theorem k_774 : (.methodLink "BuildGrid$Cache" 25 ⟨"java/lang/Math", "floorMod", "(II)I"⟩ : Cond) ∈ gBIG := gIn 774 rfl rfl
set_option maxRecDepth 20000 in
theorem k_778 : (.methodLink "BuildGrid" 183 ⟨"BuildGrid$Entry", "tell", "(I)I"⟩ : Cond) ∈ gBIG := gIn 778 rfl rfl
set_option maxRecDepth 20000 in
theorem k_782 : (.methodLink "BuildGrid$Entry" 42 ⟨"BuildGrid$Entry", "isRightlySigned", "()Z"⟩ : Cond) ∈ gBIG := gIn 782 rfl rfl
set_option maxRecDepth 20000 in
theorem k_786 : (.methodLink "BuildGrid$Entry" 31 ⟨"BuildGrid$Entry", "rightSignature", "()I"⟩ : Cond) ∈ gBIG := gIn 786 rfl rfl
set_option maxRecDepth 20000 in
theorem k_790 : (.methodLinkNest "BuildGrid$Entry" 38 ⟨"BuildGrid", "plus", "(II)I"⟩ "BuildGrid" : Cond) ∈ gNest := gInN 790 rfl rfl
set_option maxRecDepth 20000 in
theorem k_793 : (.constant "BuildGrid" 189 (100003 : Int32) : Cond) ∈ gBIG := gIn 793 rfl rfl
set_option maxRecDepth 20000 in
theorem k_794 : (.methodLink "BuildGridLaw" 130 ⟨"BuildGridLaw", "lie", "(LBuildGrid;II)I"⟩ : Cond) ∈ gBIG := gIn 794 rfl rfl
set_option maxRecDepth 20000 in
theorem k_797 : (.methodLink "BuildGridLaw" 42 ⟨"BuildGrid", "lie", "(II)V"⟩ : Cond) ∈ gBIG := gIn 797 rfl rfl
set_option maxRecDepth 20000 in
theorem k_802 : (.methodLink "BuildGridLaw" 134 ⟨"BuildGridLaw", "lose", "(LBuildGrid;I[J)I"⟩ : Cond) ∈ gBIG := gIn 802 rfl rfl
set_option maxRecDepth 20000 in
theorem k_805 : (.methodLink "BuildGridLaw" 46 ⟨"BuildGrid", "lose", "(I)Z"⟩ : Cond) ∈ gBIG := gIn 805 rfl rfl
set_option maxRecDepth 20000 in
theorem k_810 : (.methodLink "BuildGridLaw" 138 ⟨"BuildGridLaw", "build", "(LBuildGrid;I[J)I"⟩ : Cond) ∈ gBIG := gIn 810 rfl rfl
set_option maxRecDepth 20000 in
theorem k_813 : (.methodLink "BuildGridLaw" 50 ⟨"BuildGrid", "build", "(I)I"⟩ : Cond) ∈ gBIG := gIn 813 rfl rfl
set_option maxRecDepth 20000 in
theorem k_817 : (.methodLink "BuildGrid" 200 ⟨"BuildGrid$Course", "begin", "(I)I"⟩ : Cond) ∈ gBIG := gIn 817 rfl rfl
set_option maxRecDepth 20000 in
theorem k_821 : (.methodLink "BuildGrid$Course" 52 ⟨"BuildGrid$Graph", "withNeeded", "(I)I"⟩ : Cond) ∈ gBIG := gIn 821 rfl rfl
set_option maxRecDepth 20000 in
theorem k_825 : (.methodLinkNest "BuildGrid$Graph" 48 ⟨"BuildGrid", "bitOf", "(II)I"⟩ "BuildGrid" : Cond) ∈ gNest := gInN 825 rfl rfl
set_option maxRecDepth 20000 in
theorem k_828 : (.methodLink "BuildGrid$Graph" 52 ⟨"BuildGrid$Graph", "inputTargets", "(LBuildGrid$Target;)I"⟩ : Cond) ∈ gBIG := gIn 828 rfl rfl
set_option maxRecDepth 20000 in
theorem k_832 : (.methodLink "BuildGrid$Graph" 62 ⟨"BuildGrid$Inputs", "chosen", "(I)I"⟩ : Cond) ∈ gBIG := gIn 832 rfl rfl
set_option maxRecDepth 20000 in
theorem k_836 : (.methodLinkNest "BuildGrid$Graph" 66 ⟨"BuildGrid", "isTarget", "(I)Z"⟩ "BuildGrid" : Cond) ∈ gNest := gInN 836 rfl rfl
set_option maxRecDepth 20000 in
theorem k_837 : (.methodLink "BuildGrid$Course" 68 ⟨"BuildGrid$Graph", "targetAt", "(I)LBuildGrid$Target;"⟩ : Cond) ∈ gBIG := gIn 837 rfl rfl
set_option maxRecDepth 20000 in
theorem k_838 : (.methodLinkNest "BuildGrid$Course" 72 ⟨"BuildGrid", "bitOf", "(II)I"⟩ "BuildGrid" : Cond) ∈ gNest := gInN 838 rfl rfl
set_option maxRecDepth 20000 in
theorem k_839 : (.methodLink "BuildGrid$Course" 76 ⟨"BuildGrid$Target", "startOver", "(Z)V"⟩ : Cond) ∈ gBIG := gIn 839 rfl rfl
set_option maxRecDepth 20000 in
theorem k_843 : (.methodLink "BuildGrid$Target" 54 ⟨"BuildGrid$Target", "actionAt", "(I)LBuildGrid$Action;"⟩ : Cond) ∈ gBIG := gIn 843 rfl rfl
set_option maxRecDepth 20000 in
theorem k_847 : (.methodLink "BuildGrid$Target" 58 ⟨"BuildGrid$Action", "open", "()V"⟩ : Cond) ∈ gBIG := gIn 847 rfl rfl
set_option maxRecDepth 20000 in
theorem k_851 : (.methodLink "BuildGrid$Course" 85 ⟨"BuildGrid$Course", "settle", "()V"⟩ : Cond) ∈ gBIG := gIn 851 rfl rfl
set_option maxRecDepth 20000 in
theorem k_855 : (.methodLink "BuildGrid$Course" 265 ⟨"BuildGrid$Course", "leaveOpen", "(LBuildGrid$Target;LBuildGrid$Action;)V"⟩ : Cond) ∈ gBIG := gIn 855 rfl rfl
set_option maxRecDepth 20000 in
theorem k_859 : (.methodLink "BuildGrid$Course" 272 ⟨"BuildGrid$Graph", "stateOfInputs", "(LBuildGrid$Target;)I"⟩ : Cond) ∈ gBIG := gIn 859 rfl rfl
set_option maxRecDepth 20000 in
theorem k_863 : (.methodLink "BuildGrid$Graph" 135 ⟨"BuildGrid$Action", "isUnfinished", "()Z"⟩ : Cond) ∈ gBIG := gIn 863 rfl rfl
set_option maxRecDepth 20000 in
theorem k_867 : (.methodLink "BuildGrid$Course" 170 ⟨"BuildGrid$View", "keyOf", "(LBuildGrid$Target;I)I"⟩ : Cond) ∈ gBIG := gIn 867 rfl rfl
set_option maxRecDepth 20000 in
theorem k_871 : (.methodLinkNest "BuildGrid$View" 27 ⟨"BuildGrid", "plus", "(II)I"⟩ "BuildGrid" : Cond) ∈ gNest := gInN 871 rfl rfl
set_option maxRecDepth 20000 in
theorem k_872 : (.methodLinkNest "BuildGrid$View" 34 ⟨"BuildGrid", "at", "([II)I"⟩ "BuildGrid" : Cond) ∈ gNest := gInN 872 rfl rfl
set_option maxRecDepth 20000 in
theorem k_873 : (.methodLink "BuildGrid$View" 50 ⟨"BuildGrid$Inputs", "chosen", "(I)I"⟩ : Cond) ∈ gBIG := gIn 873 rfl rfl
set_option maxRecDepth 20000 in
theorem k_874 : (.methodLinkNest "BuildGrid$View" 54 ⟨"BuildGrid", "isTarget", "(I)Z"⟩ "BuildGrid" : Cond) ∈ gNest := gInN 874 rfl rfl
set_option maxRecDepth 20000 in
theorem k_875 : (.methodLink "BuildGrid$Course" 199 ⟨"BuildGrid$Target", "breaksOut", "(I)Z"⟩ : Cond) ∈ gBIG := gIn 875 rfl rfl
set_option maxRecDepth 20000 in
theorem k_879 : (.methodLinkNest "BuildGrid$Target" 67 ⟨"BuildGrid", "bitOf", "(II)I"⟩ "BuildGrid" : Cond) ∈ gNest := gInN 879 rfl rfl
set_option maxRecDepth 20000 in
theorem k_880 : (.methodLink "BuildGrid$Course" 176 ⟨"BuildGrid$View", "contentFound", "(LBuildGrid$Target;I)I"⟩ : Cond) ∈ gBIG := gIn 880 rfl rfl
set_option maxRecDepth 20000 in
theorem k_884 : (.methodLink "BuildGrid$View" 58 ⟨"BuildGrid$Target", "fileFound", "(I)I"⟩ : Cond) ∈ gBIG := gIn 884 rfl rfl
set_option maxRecDepth 20000 in
theorem k_888 : (.methodLink "BuildGrid$Course" 238 ⟨"BuildGrid$Target", "fileFound", "(I)I"⟩ : Cond) ∈ gBIG := gIn 888 rfl rfl
set_option maxRecDepth 20000 in
theorem k_889 : (.methodLink "BuildGrid$Course" 276 ⟨"BuildGrid$Cache", "firstFit", "(IIIZ)LBuildGrid$Entry;"⟩ : Cond) ∈ gBIG := gIn 889 rfl rfl
set_option maxRecDepth 20000 in
theorem k_893 : (.methodLink "BuildGrid$Cache" 35 ⟨"BuildGrid$Cache", "entryAt", "(I)LBuildGrid$Entry;"⟩ : Cond) ∈ gBIG := gIn 893 rfl rfl
set_option maxRecDepth 20000 in
theorem k_894 : (.methodLink "BuildGrid$Cache" 43 ⟨"BuildGrid$Entry", "isOf", "(III)Z"⟩ : Cond) ∈ gBIG := gIn 894 rfl rfl
set_option maxRecDepth 20000 in
theorem k_898 : (.methodLink "BuildGrid$Cache" 53 ⟨"BuildGrid$Entry", "isRightlySigned", "()Z"⟩ : Cond) ∈ gBIG := gIn 898 rfl rfl
set_option maxRecDepth 20000 in
theorem k_899 : (.methodLink "BuildGrid$Course" 225 ⟨"BuildGrid$Course", "finish", "(LBuildGrid$Target;LBuildGrid$Action;II)V"⟩ : Cond) ∈ gBIG := gIn 899 rfl rfl
set_option maxRecDepth 20000 in
theorem k_903 : (.methodLink "BuildGrid$Course" 250 ⟨"BuildGrid$Action", "finish", "(II)V"⟩ : Cond) ∈ gBIG := gIn 903 rfl rfl
set_option maxRecDepth 20000 in
theorem k_907 : (.methodLink "BuildGrid$Course" 255 ⟨"BuildGrid$Target", "digestOfResults", "()I"⟩ : Cond) ∈ gBIG := gIn 907 rfl rfl
set_option maxRecDepth 20000 in
theorem k_911 : (.methodLinkNest "BuildGrid$Target" 84 ⟨"BuildGrid", "plus", "(II)I"⟩ "BuildGrid" : Cond) ∈ gNest := gInN 911 rfl rfl
set_option maxRecDepth 20000 in
theorem k_912 : (.methodLink "BuildGrid$Course" 269 ⟨"BuildGrid$Action", "isUnfinished", "()Z"⟩ : Cond) ∈ gBIG := gIn 912 rfl rfl
set_option maxRecDepth 20000 in
theorem k_913 : (.methodLink "BuildGridLaw" 141 ⟨"BuildGridLaw", "pass", "(LBuildGrid;I[J)I"⟩ : Cond) ∈ gBIG := gIn 913 rfl rfl
set_option maxRecDepth 20000 in
theorem k_916 : (.methodLink "BuildGridLaw" 54 ⟨"BuildGrid", "pass", "(I)I"⟩ : Cond) ∈ gBIG := gIn 916 rfl rfl
set_option maxRecDepth 20000 in
theorem k_920 : (.methodLink "BuildGrid" 203 ⟨"BuildGrid$Course", "passTick", "()V"⟩ : Cond) ∈ gBIG := gIn 920 rfl rfl
set_option maxRecDepth 20000 in
theorem k_924 : (.methodLink "BuildGrid$Course" 127 ⟨"BuildGrid$Course", "beginReady", "()V"⟩ : Cond) ∈ gBIG := gIn 924 rfl rfl
set_option maxRecDepth 20000 in
theorem k_928 : (.methodLink "BuildGrid$Course" 91 ⟨"BuildGrid$Graph", "findWays", "(I)V"⟩ : Cond) ∈ gBIG := gIn 928 rfl rfl
set_option maxRecDepth 20000 in
theorem k_932 : (.methodLink "BuildGrid$Graph" 95 ⟨"BuildGrid$Graph", "spreadWay", "(LBuildGrid$Target;)V"⟩ : Cond) ∈ gBIG := gIn 932 rfl rfl
set_option maxRecDepth 20000 in
theorem k_936 : (.methodLink "BuildGrid$Graph" 98 ⟨"java/lang/Math", "max", "(II)I"⟩ : Cond) ∈ gBIG := gIn 936 rfl rfl
set_option maxRecDepth 20000 in
theorem k_939 : (.methodLink "BuildGrid$Course" 146 ⟨"BuildGrid$Course", "strongestIdle", "()LBuildGrid$Worker;"⟩ : Cond) ∈ gBIG := gIn 939 rfl rfl
set_option maxRecDepth 20000 in
theorem k_943 : (.methodLink "BuildGrid$Course" 120 ⟨"BuildGrid$Worker", "isIdle", "()Z"⟩ : Cond) ∈ gBIG := gIn 943 rfl rfl
set_option maxRecDepth 20000 in
theorem k_947 : (.methodLink "BuildGrid$Course" 150 ⟨"BuildGrid$Course", "longestReady", "()LBuildGrid$Action;"⟩ : Cond) ∈ gBIG := gIn 947 rfl rfl
set_option maxRecDepth 20000 in
theorem k_951 : (.methodLink "BuildGrid$Course" 161 ⟨"BuildGrid$Target", "firstReady", "()LBuildGrid$Action;"⟩ : Cond) ∈ gBIG := gIn 951 rfl rfl
set_option maxRecDepth 20000 in
theorem k_955 : (.methodLink "BuildGrid$Course" 157 ⟨"BuildGrid$Course", "start", "(LBuildGrid$Worker;LBuildGrid$Action;)V"⟩ : Cond) ∈ gBIG := gIn 955 rfl rfl
set_option maxRecDepth 20000 in
theorem k_959 : (.methodLink "BuildGrid$Course" 179 ⟨"BuildGrid$Worker", "start", "(LBuildGrid$Action;LBuildGrid$Target;II)V"⟩ : Cond) ∈ gBIG := gIn 959 rfl rfl
set_option maxRecDepth 20000 in
theorem k_963 : (.methodLink "BuildGrid$Worker" 34 ⟨"BuildGrid$Worker", "ticksFor", "(LBuildGrid$Target;)I"⟩ : Cond) ∈ gBIG := gIn 963 rfl rfl
set_option maxRecDepth 20000 in
theorem k_967 : (.methodLink "BuildGrid$Worker" 41 ⟨"BuildGrid$Target", "work", "()I"⟩ : Cond) ∈ gBIG := gIn 967 rfl rfl
set_option maxRecDepth 20000 in
theorem k_971 : (.methodLink "BuildGrid$Worker" 50 ⟨"java/lang/Math", "max", "(II)I"⟩ : Cond) ∈ gBIG := gIn 971 rfl rfl
set_option maxRecDepth 20000 in
theorem k_972 : (.methodLink "BuildGrid$Course" 133 ⟨"BuildGrid$Course", "speculate", "()V"⟩ : Cond) ∈ gBIG := gIn 972 rfl rfl
set_option maxRecDepth 20000 in
theorem k_976 : (.methodLink "BuildGrid$Course" 182 ⟨"BuildGrid$Course", "longestBusy", "()LBuildGrid$Worker;"⟩ : Cond) ∈ gBIG := gIn 976 rfl rfl
set_option maxRecDepth 20000 in
theorem k_980 : (.methodLink "BuildGrid$Course" 136 ⟨"BuildGrid$Worker", "spendTick", "()V"⟩ : Cond) ∈ gBIG := gIn 980 rfl rfl
set_option maxRecDepth 20000 in
theorem k_984 : (.methodLink "BuildGrid$Course" 139 ⟨"BuildGrid$Worker", "hasEnded", "()Z"⟩ : Cond) ∈ gBIG := gIn 984 rfl rfl
set_option maxRecDepth 20000 in
theorem k_988 : (.methodLink "BuildGrid$Course" 142 ⟨"BuildGrid$Course", "end", "(LBuildGrid$Worker;)V"⟩ : Cond) ∈ gBIG := gIn 988 rfl rfl
set_option maxRecDepth 20000 in
theorem k_992 : (.methodLink "BuildGrid$Course" 185 ⟨"BuildGrid$Course", "dismissFrom", "(LBuildGrid$Action;)V"⟩ : Cond) ∈ gBIG := gIn 992 rfl rfl
set_option maxRecDepth 20000 in
theorem k_996 : (.methodLink "BuildGrid$Course" 192 ⟨"BuildGrid$Worker", "beganWith", "(II)Z"⟩ : Cond) ∈ gBIG := gIn 996 rfl rfl
set_option maxRecDepth 20000 in
theorem k_1000 : (.methodLink "BuildGrid$Course" 196 ⟨"BuildGrid$Action", "open", "()V"⟩ : Cond) ∈ gBIG := gIn 1000 rfl rfl
set_option maxRecDepth 20000 in
theorem k_1001 : (.methodLink "BuildGrid$Course" 203 ⟨"BuildGrid$Course", "judge", "(LBuildGrid$Target;LBuildGrid$Action;LBuildGrid$Worker;)V"⟩ : Cond) ∈ gBIG := gIn 1001 rfl rfl
set_option maxRecDepth 20000 in
theorem k_1005 : (.methodLink "BuildGrid$Course" 207 ⟨"BuildGrid$Worker", "resultMade", "()I"⟩ : Cond) ∈ gBIG := gIn 1005 rfl rfl
set_option maxRecDepth 20000 in
theorem k_1009 : (.methodLinkNest "BuildGrid$Worker" 56 ⟨"BuildGrid", "resultOf", "(II)I"⟩ "BuildGrid" : Cond) ∈ gNest := gInN 1009 rfl rfl
set_option maxRecDepth 20000 in
theorem k_1012 : (.methodLink "BuildGrid" 299 ⟨"BuildGrid", "plus", "(II)I"⟩ : Cond) ∈ gBIG := gIn 1012 rfl rfl
set_option maxRecDepth 20000 in
theorem k_1013 : (.methodLink "BuildGrid$Course" 211 ⟨"BuildGrid$Target", "failsAt", "(II)Z"⟩ : Cond) ∈ gBIG := gIn 1013 rfl rfl
set_option maxRecDepth 20000 in
theorem k_1017 : (.methodLink "BuildGrid$Target" 71 ⟨"BuildGrid$Target", "isGoodResult", "(I)Z"⟩ : Cond) ∈ gBIG := gIn 1017 rfl rfl
set_option maxRecDepth 20000 in
theorem k_1021 : (.methodLink "BuildGrid$Course" 217 ⟨"BuildGrid$Target", "isInQuarantine", "()Z"⟩ : Cond) ∈ gBIG := gIn 1021 rfl rfl
set_option maxRecDepth 20000 in
theorem k_1025 : (.methodLink "BuildGrid$Course" 232 ⟨"BuildGrid$Target", "noteFlakeIn", "(I)V"⟩ : Cond) ∈ gBIG := gIn 1025 rfl rfl
set_option maxRecDepth 20000 in
theorem k_1029 : (.methodLink "BuildGrid$Course" 244 ⟨"BuildGrid$Cache", "keep", "(IIIII)V"⟩ : Cond) ∈ gBIG := gIn 1029 rfl rfl
set_option maxRecDepth 20000 in
theorem k_1033 : (.methodLink "BuildGrid$Cache" 31 ⟨"BuildGrid$Cache", "hasAlike", "(IIIII)Z"⟩ : Cond) ∈ gBIG := gIn 1033 rfl rfl
set_option maxRecDepth 20000 in
theorem k_1037 : (.methodLink "BuildGrid$Cache" 39 ⟨"BuildGrid$Entry", "fill", "(IIIII)V"⟩ : Cond) ∈ gBIG := gIn 1037 rfl rfl
set_option maxRecDepth 20000 in
theorem k_1041 : (.methodLink "BuildGridLaw" 149 ⟨"BuildGridLaw", "state", "(LBuildGrid;II[J)I"⟩ : Cond) ∈ gBIG := gIn 1041 rfl rfl
set_option maxRecDepth 20000 in
theorem k_1044 : (.methodLink "BuildGridLaw" 57 ⟨"BuildGrid", "state", "(II)I"⟩ : Cond) ∈ gBIG := gIn 1044 rfl rfl
set_option maxRecDepth 20000 in
theorem k_1048 : (.methodLink "BuildGrid" 209 ⟨"BuildGrid", "checkedAction", "(II)LBuildGrid$Action;"⟩ : Cond) ∈ gBIG := gIn 1048 rfl rfl
set_option maxRecDepth 20000 in
theorem k_1052 : (.methodLink "BuildGrid" 291 ⟨"BuildGrid$Target", "actionAt", "(I)LBuildGrid$Action;"⟩ : Cond) ∈ gBIG := gIn 1052 rfl rfl
set_option maxRecDepth 20000 in
theorem k_1053 : (.methodLink "BuildGridLaw" 152 ⟨"BuildGridLaw", "result", "(LBuildGrid;II[J)I"⟩ : Cond) ∈ gBIG := gIn 1053 rfl rfl
set_option maxRecDepth 20000 in
theorem k_1056 : (.methodLink "BuildGridLaw" 60 ⟨"BuildGrid", "result", "(II)I"⟩ : Cond) ∈ gBIG := gIn 1056 rfl rfl
set_option maxRecDepth 20000 in
theorem k_1060 : (.methodLink "BuildGridLaw" 155 ⟨"BuildGridLaw", "about", "(LBuildGrid;II[J)I"⟩ : Cond) ∈ gBIG := gIn 1060 rfl rfl
set_option maxRecDepth 20000 in
theorem k_1063 : (.methodLink "BuildGridLaw" 63 ⟨"BuildGrid", "about", "(II)I"⟩ : Cond) ∈ gBIG := gIn 1063 rfl rfl
set_option maxRecDepth 20000 in
theorem k_1067 : (.methodLink "BuildGrid" 219 ⟨"BuildGrid$Graph", "soundTargets", "()I"⟩ : Cond) ∈ gBIG := gIn 1067 rfl rfl
set_option maxRecDepth 20000 in
theorem k_1071 : (.methodLink "BuildGrid$Graph" 107 ⟨"BuildGrid$Target", "isSoundAlone", "()Z"⟩ : Cond) ∈ gBIG := gIn 1071 rfl rfl
set_option maxRecDepth 20000 in
theorem k_1075 : (.methodLink "BuildGrid$Target" 87 ⟨"BuildGrid$Action", "isSound", "()Z"⟩ : Cond) ∈ gBIG := gIn 1075 rfl rfl
set_option maxRecDepth 20000 in
theorem k_1079 : (.methodLink "BuildGrid" 223 ⟨"BuildGrid", "bitOf", "(II)I"⟩ : Cond) ∈ gBIG := gIn 1079 rfl rfl
set_option maxRecDepth 20000 in
theorem k_1080 : (.methodLink "BuildGrid" 226 ⟨"BuildGrid$Fresh", "isStale", "(LBuildGrid$Target;)Z"⟩ : Cond) ∈ gBIG := gIn 1080 rfl rfl
set_option maxRecDepth 20000 in
theorem k_1084 : (.methodLink "BuildGrid$Fresh" 57 ⟨"BuildGrid$Target", "isAllDone", "()Z"⟩ : Cond) ∈ gBIG := gIn 1084 rfl rfl
set_option maxRecDepth 20000 in
theorem k_1088 : (.methodLink "BuildGrid$Fresh" 34 ⟨"BuildGrid$Fresh", "make", "(I)V"⟩ : Cond) ∈ gBIG := gIn 1088 rfl rfl
set_option maxRecDepth 20000 in
theorem k_1092 : (.methodLink "BuildGrid$Fresh" 87 ⟨"BuildGrid$Sources", "filesAfter", "(I[I)V"⟩ : Cond) ∈ gBIG := gIn 1092 rfl rfl
set_option maxRecDepth 20000 in
theorem k_1096 : (.methodLink "BuildGrid$Fresh" 96 ⟨"BuildGrid$Graph", "targetAt", "(I)LBuildGrid$Target;"⟩ : Cond) ∈ gBIG := gIn 1096 rfl rfl
set_option maxRecDepth 20000 in
theorem k_1097 : (.methodLink "BuildGrid$Fresh" 100 ⟨"BuildGrid$Fresh", "makeTarget", "(LBuildGrid$Target;)V"⟩ : Cond) ∈ gBIG := gIn 1097 rfl rfl
set_option maxRecDepth 20000 in
theorem k_1101 : (.methodLink "BuildGrid$Fresh" 104 ⟨"BuildGrid$Graph", "inputTargets", "(LBuildGrid$Target;)I"⟩ : Cond) ∈ gBIG := gIn 1101 rfl rfl
set_option maxRecDepth 20000 in
theorem k_1102 : (.methodLink "BuildGrid$Fresh" 64 ⟨"BuildGrid$View", "keyOf", "(LBuildGrid$Target;I)I"⟩ : Cond) ∈ gBIG := gIn 1102 rfl rfl
set_option maxRecDepth 20000 in
theorem k_1103 : (.methodLink "BuildGrid$Fresh" 77 ⟨"BuildGrid$View", "contentFound", "(LBuildGrid$Target;I)I"⟩ : Cond) ∈ gBIG := gIn 1103 rfl rfl
set_option maxRecDepth 20000 in
theorem k_1104 : (.methodLinkNest "BuildGrid$Fresh" 80 ⟨"BuildGrid", "resultOf", "(II)I"⟩ "BuildGrid" : Cond) ∈ gNest := gInN 1104 rfl rfl
set_option maxRecDepth 20000 in
theorem k_1105 : (.methodLinkNest "BuildGrid$Fresh" 108 ⟨"BuildGrid", "plus", "(II)I"⟩ "BuildGrid" : Cond) ∈ gNest := gInN 1105 rfl rfl
set_option maxRecDepth 20000 in
theorem k_1106 : (.methodLink "BuildGrid$Fresh" 111 ⟨"BuildGrid$Target", "breaksOut", "(I)Z"⟩ : Cond) ∈ gBIG := gIn 1106 rfl rfl
set_option maxRecDepth 20000 in
theorem k_1107 : (.methodLink "BuildGrid$Fresh" 115 ⟨"BuildGrid$Target", "isGoodResult", "(I)Z"⟩ : Cond) ∈ gBIG := gIn 1107 rfl rfl
set_option maxRecDepth 20000 in
theorem k_1108 : (.methodLinkNest "BuildGrid$Fresh" 118 ⟨"BuildGrid", "store", "([III)V"⟩ "BuildGrid" : Cond) ∈ gNest := gInN 1108 rfl rfl
set_option maxRecDepth 20000 in
theorem k_1109 : (.methodLink "BuildGrid$Fresh" 68 ⟨"BuildGrid$Target", "actionAt", "(I)LBuildGrid$Action;"⟩ : Cond) ∈ gBIG := gIn 1109 rfl rfl
set_option maxRecDepth 20000 in
theorem k_1110 : (.methodLink "BuildGrid" 230 ⟨"BuildGrid$Target", "isInQuarantine", "()Z"⟩ : Cond) ∈ gBIG := gIn 1110 rfl rfl
set_option maxRecDepth 20000 in
theorem k_1111 : (.methodLink "BuildGrid" 237 ⟨"BuildGrid$Fresh", "goodTargets", "(I)I"⟩ : Cond) ∈ gBIG := gIn 1111 rfl rfl
set_option maxRecDepth 20000 in
theorem k_1115 : (.methodLink "BuildGrid" 240 ⟨"BuildGrid$Fresh", "digestOf", "(LBuildGrid$Target;)I"⟩ : Cond) ∈ gBIG := gIn 1115 rfl rfl
set_option maxRecDepth 20000 in
theorem k_1119 : (.methodLinkNest "BuildGrid$Fresh" 53 ⟨"BuildGrid", "at", "([II)I"⟩ "BuildGrid" : Cond) ∈ gNest := gInN 1119 rfl rfl
set_option maxRecDepth 20000 in
theorem k_1120 : (.methodLink "BuildGrid" 244 ⟨"BuildGrid$Course", "wayOf", "(LBuildGrid$Target;)I"⟩ : Cond) ∈ gBIG := gIn 1120 rfl rfl
set_option maxRecDepth 20000 in
theorem k_1124 : (.methodLink "BuildGridLaw" 158 ⟨"BuildGridLaw", "proof", "(LBuildGrid;I[J)I"⟩ : Cond) ∈ gBIG := gIn 1124 rfl rfl
set_option maxRecDepth 20000 in
theorem k_1127 : (.methodLink "BuildGridLaw" 66 ⟨"BuildGrid", "proof", "(I)I"⟩ : Cond) ∈ gBIG := gIn 1127 rfl rfl
set_option maxRecDepth 20000 in
theorem k_1131 : (.methodLink "BuildGrid" 247 ⟨"BuildGrid$Graph", "withNeeded", "(I)I"⟩ : Cond) ∈ gBIG := gIn 1131 rfl rfl
set_option maxRecDepth 20000 in
theorem k_1132 : (.methodLink "BuildGrid" 250 ⟨"BuildGrid$Graph", "isAllDone", "(I)Z"⟩ : Cond) ∈ gBIG := gIn 1132 rfl rfl
set_option maxRecDepth 20000 in
theorem k_1136 : (.methodLink "BuildGrid$Graph" 103 ⟨"BuildGrid$Target", "isAllDone", "()Z"⟩ : Cond) ∈ gBIG := gIn 1136 rfl rfl
set_option maxRecDepth 20000 in
theorem k_1137 : (.methodLink "BuildGrid" 254 ⟨"BuildGrid$Graph", "proofOf", "(I)I"⟩ : Cond) ∈ gBIG := gIn 1137 rfl rfl
set_option maxRecDepth 20000 in
theorem k_1141 : (.methodLink "BuildGrid$Graph" 110 ⟨"BuildGrid$Graph", "proofOverInputs", "(LBuildGrid$Target;)I"⟩ : Cond) ∈ gBIG := gIn 1141 rfl rfl
set_option maxRecDepth 20000 in
theorem k_1145 : (.methodLink "BuildGrid$Graph" 116 ⟨"BuildGrid$Target", "actionAt", "(I)LBuildGrid$Action;"⟩ : Cond) ∈ gBIG := gIn 1145 rfl rfl
set_option maxRecDepth 20000 in
theorem k_1146 : (.methodLinkNest "BuildGrid$Graph" 125 ⟨"BuildGrid", "plus", "(II)I"⟩ "BuildGrid" : Cond) ∈ gNest := gInN 1146 rfl rfl
set_option maxRecDepth 20000 in
theorem k_1147 : (.methodLinkNest "BuildGrid$Graph" 78 ⟨"BuildGrid", "at", "([II)I"⟩ "BuildGrid" : Cond) ∈ gNest := gInN 1147 rfl rfl
set_option maxRecDepth 20000 in
theorem k_1148 : (.methodLinkNest "BuildGrid$Graph" 74 ⟨"BuildGrid", "store", "([III)V"⟩ "BuildGrid" : Cond) ∈ gNest := gInN 1148 rfl rfl
set_option maxRecDepth 20000 in
theorem k_1149 : (.methodLink "BuildGridLaw" 161 ⟨"BuildGridLaw", "count", "(LBuildGrid;I[J)I"⟩ : Cond) ∈ gBIG := gIn 1149 rfl rfl
set_option maxRecDepth 20000 in
theorem k_1152 : (.methodLink "BuildGridLaw" 69 ⟨"BuildGrid", "count", "(I)I"⟩ : Cond) ∈ gBIG := gIn 1152 rfl rfl
set_option maxRecDepth 20000 in
theorem k_1156 : (.methodLink "BuildGridLaw" 164 ⟨"BuildGridLaw", "needed", "(LBuildGrid;I[J)I"⟩ : Cond) ∈ gBIG := gIn 1156 rfl rfl
set_option maxRecDepth 20000 in
theorem k_1159 : (.methodLink "BuildGridLaw" 72 ⟨"BuildGrid", "needed", "(I)I"⟩ : Cond) ∈ gBIG := gIn 1159 rfl rfl
set_option maxRecDepth 20000 in
theorem k_1163 : (.methodLink "BuildGridLaw" 167 ⟨"BuildGridLaw", "needing", "(LBuildGrid;I[J)I"⟩ : Cond) ∈ gBIG := gIn 1163 rfl rfl
set_option maxRecDepth 20000 in
theorem k_1166 : (.methodLink "BuildGridLaw" 75 ⟨"BuildGrid", "needing", "(I)I"⟩ : Cond) ∈ gBIG := gIn 1166 rfl rfl
set_option maxRecDepth 20000 in
theorem k_1170 : (.methodLink "BuildGrid" 264 ⟨"BuildGrid$Graph", "targetsOver", "(I)I"⟩ : Cond) ∈ gBIG := gIn 1170 rfl rfl
set_option maxRecDepth 20000 in
theorem k_1174 : (.methodLink "BuildGrid$Graph" 70 ⟨"BuildGrid$Graph", "hasInput", "(LBuildGrid$Target;I)Z"⟩ : Cond) ∈ gBIG := gIn 1174 rfl rfl
set_option maxRecDepth 20000 in
theorem k_1178 : (.methodLink "BuildGridLaw" 170 ⟨"BuildGridLaw", "steps", "(LBuildGrid;II[J)I"⟩ : Cond) ∈ gBIG := gIn 1178 rfl rfl
set_option maxRecDepth 20000 in
theorem k_1181 : (.methodLink "BuildGridLaw" 78 ⟨"BuildGrid", "steps", "(II)I"⟩ : Cond) ∈ gBIG := gIn 1181 rfl rfl
set_option maxRecDepth 20000 in
theorem k_1185 : (.methodLink "BuildGrid" 267 ⟨"BuildGrid$Graph", "distance", "(II)I"⟩ : Cond) ∈ gBIG := gIn 1185 rfl rfl
set_option maxRecDepth 20000 in
theorem k_1189 : (.methodLink "BuildGrid$Graph" 82 ⟨"BuildGrid$Graph", "spreadDistance", "(LBuildGrid$Target;)V"⟩ : Cond) ∈ gBIG := gIn 1189 rfl rfl
set_option maxRecDepth 20000 in
theorem k_1193 : (.methodLink "BuildGridLaw" 177 ⟨"BuildGridLaw", "bisect", "(LBuildGrid;I[J)I"⟩ : Cond) ∈ gBIG := gIn 1193 rfl rfl
set_option maxRecDepth 20000 in
theorem k_1196 : (.methodLink "BuildGridLaw" 81 ⟨"BuildGrid", "bisect", "(I)I"⟩ : Cond) ∈ gBIG := gIn 1196 rfl rfl
set_option maxRecDepth 20000 in
theorem k_1200 : (.methodLink "BuildGrid" 273 ⟨"BuildGrid", "isGoodAfter", "(II)Z"⟩ : Cond) ∈ gBIG := gIn 1200 rfl rfl
set_option maxRecDepth 20000 in
theorem k_1204 : (.classLink "BuildGridLaw" 85 "BuildGridModel" : Cond) ∈ gBIG := gIn 1204 rfl rfl
set_option maxRecDepth 20000 in
theorem k_1206 : (.methodLink "BuildGridLaw" 87 ⟨"BuildGridModel", "<init>", "()V"⟩ : Cond) ∈ gBIG := gIn 1206 rfl rfl
set_option maxRecDepth 20000 in
theorem k_1209 : (.methodLink "BuildGridModel" 1 ⟨"java/lang/Object", "<init>", "()V"⟩ : Cond) ∈ gBIG := gIn 1209 rfl rfl
set_option maxRecDepth 20000 in
theorem k_1210 : (.fieldLink "BuildGridModel" 150 "BuildGridModel" "thrown" "I" : Cond) ∈ gBIG := gIn 1210 rfl rfl
set_option maxRecDepth 20000 in
theorem k_1211 : (.fieldLink "BuildGridModel" 7 "BuildGridModel" "files" "[I" : Cond) ∈ gBIG := gIn 1211 rfl rfl
set_option maxRecDepth 20000 in
theorem k_1212 : (.fieldLink "BuildGridModel" 13 "BuildGridModel" "settings" "[I" : Cond) ∈ gBIG := gIn 1212 rfl rfl
set_option maxRecDepth 20000 in
theorem k_1213 : (.fieldLink "BuildGridModel" 16 "BuildGridModel" "tools" "[I" : Cond) ∈ gBIG := gIn 1213 rfl rfl
set_option maxRecDepth 20000 in
theorem k_1214 : (.fieldLink "BuildGridModel" 165 "BuildGridModel" "changes" "I" : Cond) ∈ gBIG := gIn 1214 rfl rfl
set_option maxRecDepth 20000 in
theorem k_1215 : (.fieldLink "BuildGridModel" 19 "BuildGridModel" "changed" "[I" : Cond) ∈ gBIG := gIn 1215 rfl rfl
set_option maxRecDepth 20000 in
theorem k_1216 : (.fieldLink "BuildGridModel" 22 "BuildGridModel" "before" "[I" : Cond) ∈ gBIG := gIn 1216 rfl rfl
set_option maxRecDepth 20000 in
theorem k_1217 : (.fieldLink "BuildGridModel" 154 "BuildGridModel" "targets" "I" : Cond) ∈ gBIG := gIn 1217 rfl rfl
set_option maxRecDepth 20000 in
theorem k_1218 : (.fieldLink "BuildGridModel" 25 "BuildGridModel" "kind" "[I" : Cond) ∈ gBIG := gIn 1218 rfl rfl
set_option maxRecDepth 20000 in
theorem k_1219 : (.fieldLink "BuildGridModel" 28 "BuildGridModel" "tool" "[I" : Cond) ∈ gBIG := gIn 1219 rfl rfl
set_option maxRecDepth 20000 in
theorem k_1220 : (.fieldLink "BuildGridModel" 31 "BuildGridModel" "option" "[I" : Cond) ∈ gBIG := gIn 1220 rfl rfl
set_option maxRecDepth 20000 in
theorem k_1221 : (.fieldLink "BuildGridModel" 34 "BuildGridModel" "shards" "[I" : Cond) ∈ gBIG := gIn 1221 rfl rfl
set_option maxRecDepth 20000 in
theorem k_1222 : (.fieldLink "BuildGridModel" 37 "BuildGridModel" "finds" "[I" : Cond) ∈ gBIG := gIn 1222 rfl rfl
set_option maxRecDepth 20000 in
theorem k_1223 : (.fieldLink "BuildGridModel" 40 "BuildGridModel" "flakiness" "[I" : Cond) ∈ gBIG := gIn 1223 rfl rfl
set_option maxRecDepth 20000 in
theorem k_1224 : (.fieldLink "BuildGridModel" 43 "BuildGridModel" "inputs" "[I" : Cond) ∈ gBIG := gIn 1224 rfl rfl
set_option maxRecDepth 20000 in
theorem k_1225 : (.fieldLink "BuildGridModel" 46 "BuildGridModel" "one" "[I" : Cond) ∈ gBIG := gIn 1225 rfl rfl
set_option maxRecDepth 20000 in
theorem k_1226 : (.fieldLink "BuildGridModel" 49 "BuildGridModel" "other" "[I" : Cond) ∈ gBIG := gIn 1226 rfl rfl
set_option maxRecDepth 20000 in
theorem k_1227 : (.fieldLink "BuildGridModel" 52 "BuildGridModel" "setting" "[I" : Cond) ∈ gBIG := gIn 1227 rfl rfl
set_option maxRecDepth 20000 in
theorem k_1228 : (.fieldLink "BuildGridModel" 55 "BuildGridModel" "value" "[I" : Cond) ∈ gBIG := gIn 1228 rfl rfl
set_option maxRecDepth 20000 in
theorem k_1229 : (.fieldLink "BuildGridModel" 58 "BuildGridModel" "looks" "Z" : Cond) ∈ gBIG := gIn 1229 rfl rfl
set_option maxRecDepth 20000 in
theorem k_1230 : (.fieldLink "BuildGridModel" 228 "BuildGridModel" "speculates" "Z" : Cond) ∈ gBIG := gIn 1230 rfl rfl
set_option maxRecDepth 20000 in
theorem k_1231 : (.fieldLink "BuildGridModel" 218 "BuildGridModel" "entries" "I" : Cond) ∈ gBIG := gIn 1231 rfl rfl
set_option maxRecDepth 20000 in
theorem k_1232 : (.fieldLink "BuildGridModel" 62 "BuildGridModel" "cKey" "[I" : Cond) ∈ gBIG := gIn 1232 rfl rfl
set_option maxRecDepth 20000 in
theorem k_1233 : (.fieldLink "BuildGridModel" 65 "BuildGridModel" "cFile" "[I" : Cond) ∈ gBIG := gIn 1233 rfl rfl
set_option maxRecDepth 20000 in
theorem k_1234 : (.fieldLink "BuildGridModel" 68 "BuildGridModel" "cContent" "[I" : Cond) ∈ gBIG := gIn 1234 rfl rfl
set_option maxRecDepth 20000 in
theorem k_1235 : (.fieldLink "BuildGridModel" 71 "BuildGridModel" "cResult" "[I" : Cond) ∈ gBIG := gIn 1235 rfl rfl
set_option maxRecDepth 20000 in
theorem k_1236 : (.fieldLink "BuildGridModel" 74 "BuildGridModel" "cWorker" "[I" : Cond) ∈ gBIG := gIn 1236 rfl rfl
set_option maxRecDepth 20000 in
theorem k_1237 : (.fieldLink "BuildGridModel" 77 "BuildGridModel" "cSign" "[I" : Cond) ∈ gBIG := gIn 1237 rfl rfl
set_option maxRecDepth 20000 in
theorem k_1238 : (.fieldLink "BuildGridModel" 80 "BuildGridModel" "cGone" "[Z" : Cond) ∈ gBIG := gIn 1238 rfl rfl
set_option maxRecDepth 20000 in
theorem k_1239 : (.fieldLink "BuildGridModel" 84 "BuildGridModel" "power" "[I" : Cond) ∈ gBIG := gIn 1239 rfl rfl
set_option maxRecDepth 20000 in
theorem k_1240 : (.fieldLink "BuildGridModel" 87 "BuildGridModel" "at" "[I" : Cond) ∈ gBIG := gIn 1240 rfl rfl
set_option maxRecDepth 20000 in
theorem k_1241 : (.fieldLink "BuildGridModel" 90 "BuildGridModel" "left" "[I" : Cond) ∈ gBIG := gIn 1241 rfl rfl
set_option maxRecDepth 20000 in
theorem k_1242 : (.fieldLink "BuildGridModel" 93 "BuildGridModel" "takes" "[I" : Cond) ∈ gBIG := gIn 1242 rfl rfl
set_option maxRecDepth 20000 in
theorem k_1243 : (.fieldLink "BuildGridModel" 96 "BuildGridModel" "key" "[I" : Cond) ∈ gBIG := gIn 1243 rfl rfl
set_option maxRecDepth 20000 in
theorem k_1244 : (.fieldLink "BuildGridModel" 99 "BuildGridModel" "content" "[I" : Cond) ∈ gBIG := gIn 1244 rfl rfl
set_option maxRecDepth 20000 in
theorem k_1245 : (.fieldLink "BuildGridModel" 102 "BuildGridModel" "warm" "[I" : Cond) ∈ gBIG := gIn 1245 rfl rfl
set_option maxRecDepth 20000 in
theorem k_1246 : (.fieldLink "BuildGridModel" 168 "BuildGridModel" "goes" "Z" : Cond) ∈ gBIG := gIn 1246 rfl rfl
set_option maxRecDepth 20000 in
theorem k_1247 : (.fieldLink "BuildGridModel" 231 "BuildGridModel" "roots" "I" : Cond) ∈ gBIG := gIn 1247 rfl rfl
set_option maxRecDepth 20000 in
theorem k_1248 : (.fieldLink "BuildGridModel" 105 "BuildGridModel" "state" "[I" : Cond) ∈ gBIG := gIn 1248 rfl rfl
set_option maxRecDepth 20000 in
theorem k_1249 : (.fieldLink "BuildGridModel" 108 "BuildGridModel" "result" "[I" : Cond) ∈ gBIG := gIn 1249 rfl rfl
set_option maxRecDepth 20000 in
theorem k_1250 : (.fieldLink "BuildGridModel" 111 "BuildGridModel" "by" "[I" : Cond) ∈ gBIG := gIn 1250 rfl rfl
set_option maxRecDepth 20000 in
theorem k_1251 : (.fieldLink "BuildGridModel" 114 "BuildGridModel" "failures" "[I" : Cond) ∈ gBIG := gIn 1251 rfl rfl
set_option maxRecDepth 20000 in
theorem k_1252 : (.fieldLink "BuildGridModel" 117 "BuildGridModel" "flake" "[Z" : Cond) ∈ gBIG := gIn 1252 rfl rfl
set_option maxRecDepth 20000 in
theorem k_1253 : (.fieldLink "BuildGridModel" 237 "BuildGridModel" "flaked" "I" : Cond) ∈ gBIG := gIn 1253 rfl rfl
set_option maxRecDepth 20000 in
theorem k_1254 : (.fieldLink "BuildGridModel" 120 "BuildGridModel" "attempts" "[I" : Cond) ∈ gBIG := gIn 1254 rfl rfl
set_option maxRecDepth 20000 in
theorem k_1255 : (.fieldLink "BuildGridModel" 123 "BuildGridModel" "flakes" "[I" : Cond) ∈ gBIG := gIn 1255 rfl rfl
set_option maxRecDepth 20000 in
theorem k_1256 : (.fieldLink "BuildGridModel" 126 "BuildGridModel" "took" "[I" : Cond) ∈ gBIG := gIn 1256 rfl rfl
set_option maxRecDepth 20000 in
theorem k_1257 : (.fieldLink "BuildGridModel" 129 "BuildGridModel" "counts" "[I" : Cond) ∈ gBIG := gIn 1257 rfl rfl
set_option maxRecDepth 20000 in
theorem k_1258 : (.fieldLink "BuildGridModel" 282 "BuildGridModel" "now" "I" : Cond) ∈ gBIG := gIn 1258 rfl rfl
set_option maxRecDepth 20000 in
theorem k_1259 : (.fieldLink "BuildGridModel" 298 "BuildGridModel" "looked" "I" : Cond) ∈ gBIG := gIn 1259 rfl rfl
set_option maxRecDepth 20000 in
theorem k_1260 : (.fieldLink "BuildGridModel" 132 "BuildGridModel" "seen" "[I" : Cond) ∈ gBIG := gIn 1260 rfl rfl
set_option maxRecDepth 20000 in
theorem k_1261 : (.fieldLink "BuildGridModel" 135 "BuildGridModel" "fresh" "[I" : Cond) ∈ gBIG := gIn 1261 rfl rfl
set_option maxRecDepth 20000 in
theorem k_1262 : (.fieldLink "BuildGridModel" 138 "BuildGridModel" "digest" "[I" : Cond) ∈ gBIG := gIn 1262 rfl rfl
set_option maxRecDepth 20000 in
theorem k_1263 : (.fieldLink "BuildGridModel" 141 "BuildGridModel" "good" "[Z" : Cond) ∈ gBIG := gIn 1263 rfl rfl
set_option maxRecDepth 20000 in
theorem k_1264 : (.fieldLink "BuildGridModel" 144 "BuildGridModel" "ways" "[I" : Cond) ∈ gBIG := gIn 1264 rfl rfl
set_option maxRecDepth 20000 in
theorem k_1265 : (.fieldLink "BuildGridModel" 147 "BuildGridModel" "proofs" "[I" : Cond) ∈ gBIG := gIn 1265 rfl rfl
set_option maxRecDepth 20000 in
theorem k_1380 : (.methodLink "BuildGridLaw" 94 ⟨"BuildGridModel", "thrown", "()I"⟩ : Cond) ∈ gBIG := gIn 1380 rfl rfl
set_option maxRecDepth 20000 in
theorem k_1384 : (.methodLink "BuildGridLaw" 93 ⟨"BuildGridModel", "write", "(II)I"⟩ : Cond) ∈ gBIG := gIn 1384 rfl rfl
set_option maxRecDepth 20000 in
theorem k_1388 : (.methodLink "BuildGridModel" 157 ⟨"BuildGridModel", "in", "(III)Z"⟩ : Cond) ∈ gBIG := gIn 1388 rfl rfl
set_option maxRecDepth 20000 in
theorem k_1391 : (.methodLink "BuildGridModel" 161 ⟨"BuildGridModel", "asked", "(Z)Z"⟩ : Cond) ∈ gBIG := gIn 1391 rfl rfl
set_option maxRecDepth 20000 in
theorem k_1395 : (.methodLink "BuildGridLaw" 100 ⟨"BuildGridModel", "set", "(II)I"⟩ : Cond) ∈ gBIG := gIn 1395 rfl rfl
set_option maxRecDepth 20000 in
theorem k_1399 : (.methodLink "BuildGridModel" 171 ⟨"BuildGridModel", "asked", "(ZZ)Z"⟩ : Cond) ∈ gBIG := gIn 1399 rfl rfl
set_option maxRecDepth 20000 in
theorem k_1403 : (.methodLink "BuildGridLaw" 103 ⟨"BuildGridModel", "setTool", "(II)I"⟩ : Cond) ∈ gBIG := gIn 1403 rfl rfl
set_option maxRecDepth 20000 in
theorem k_1407 : (.methodLink "BuildGridLaw" 107 ⟨"BuildGridModel", "input", "(IIII)I"⟩ : Cond) ∈ gBIG := gIn 1407 rfl rfl
set_option maxRecDepth 20000 in
theorem k_1411 : (.methodLink "BuildGridModel" 178 ⟨"BuildGridModel", "isInput", "(I)Z"⟩ : Cond) ∈ gBIG := gIn 1411 rfl rfl
set_option maxRecDepth 20000 in
theorem k_1415 : (.methodLink "BuildGridModel" 174 ⟨"BuildGridModel", "isTarget", "(I)Z"⟩ : Cond) ∈ gBIG := gIn 1415 rfl rfl
set_option maxRecDepth 20000 in
theorem k_1419 : (.methodLink "BuildGridLaw" 111 ⟨"BuildGridModel", "target", "(IIIIII)I"⟩ : Cond) ∈ gBIG := gIn 1419 rfl rfl
set_option maxRecDepth 20000 in
theorem k_1423 : (.constant "BuildGridModel" 181 (65535 : Int32) : Cond) ∈ gBIG := gIn 1423 rfl rfl
set_option maxRecDepth 20000 in
theorem k_1424 : (.methodLink "BuildGridModel" 182 ⟨"BuildGridModel", "lay", "(II)V"⟩ : Cond) ∈ gBIG := gIn 1424 rfl rfl
set_option maxRecDepth 20000 in
theorem k_1428 : (.methodLink "BuildGridLaw" 114 ⟨"BuildGridModel", "copy", "(II)I"⟩ : Cond) ∈ gBIG := gIn 1428 rfl rfl
set_option maxRecDepth 20000 in
theorem k_1432 : (.methodLink "BuildGridLaw" 126 ⟨"BuildGridModel", "entries", "()I"⟩ : Cond) ∈ gBIG := gIn 1432 rfl rfl
set_option maxRecDepth 20000 in
theorem k_1436 : (.methodLink "BuildGridLaw" 129 ⟨"BuildGridModel", "entry", "(II)I"⟩ : Cond) ∈ gBIG := gIn 1436 rfl rfl
set_option maxRecDepth 20000 in
theorem k_1440 : (.methodLink "BuildGridModel" 221 ⟨"BuildGridModel", "isSigned", "(I)Z"⟩ : Cond) ∈ gBIG := gIn 1440 rfl rfl
set_option maxRecDepth 20000 in
theorem k_1444 : (.methodLink "BuildGridModel" 211 ⟨"BuildGridModel", "signature", "(III)I"⟩ : Cond) ∈ gBIG := gIn 1444 rfl rfl
set_option maxRecDepth 20000 in
theorem k_1448 : (.methodLink "BuildGridModel" 191 ⟨"BuildGridModel", "put", "(II)I"⟩ : Cond) ∈ gBIG := gIn 1448 rfl rfl
set_option maxRecDepth 20000 in
theorem k_1451 : (.constant "BuildGridModel" 190 (100003 : Int32) : Cond) ∈ gBIG := gIn 1451 rfl rfl
set_option maxRecDepth 20000 in
theorem k_1452 : (.methodLink "BuildGridLaw" 133 ⟨"BuildGridModel", "lie", "(II)V"⟩ : Cond) ∈ gBIG := gIn 1452 rfl rfl
set_option maxRecDepth 20000 in
theorem k_1456 : (.constant "BuildGridModel" 224 (100002 : Int32) : Cond) ∈ gBIG := gIn 1456 rfl rfl
set_option maxRecDepth 20000 in
theorem k_1457 : (.methodLink "BuildGridLaw" 137 ⟨"BuildGridModel", "lose", "(I)Z"⟩ : Cond) ∈ gBIG := gIn 1457 rfl rfl
set_option maxRecDepth 20000 in
theorem k_1461 : (.methodLink "BuildGridLaw" 117 ⟨"BuildGridModel", "setPower", "(II)I"⟩ : Cond) ∈ gBIG := gIn 1461 rfl rfl
set_option maxRecDepth 20000 in
theorem k_1465 : (.methodLink "BuildGridModel" 225 ⟨"BuildGridModel", "workerAt", "(I)I"⟩ : Cond) ∈ gBIG := gIn 1465 rfl rfl
set_option maxRecDepth 20000 in
theorem k_1469 : (.methodLink "BuildGridLaw" 122 ⟨"BuildGridModel", "setWays", "(ZZ)V"⟩ : Cond) ∈ gBIG := gIn 1469 rfl rfl
set_option maxRecDepth 20000 in
theorem k_1473 : (.methodLink "BuildGridLaw" 140 ⟨"BuildGridModel", "build", "(I)I"⟩ : Cond) ∈ gBIG := gIn 1473 rfl rfl
set_option maxRecDepth 20000 in
theorem k_1477 : (.methodLink "BuildGridModel" 234 ⟨"BuildGridModel", "neededBy", "(I)I"⟩ : Cond) ∈ gBIG := gIn 1477 rfl rfl
set_option maxRecDepth 20000 in
theorem k_1481 : (.methodLink "BuildGridModel" 186 ⟨"BuildGridModel", "inputOf", "(II)I"⟩ : Cond) ∈ gBIG := gIn 1481 rfl rfl
set_option maxRecDepth 20000 in
theorem k_1485 : (.methodLink "BuildGridModel" 240 ⟨"BuildGridModel", "isNeeded", "(I)Z"⟩ : Cond) ∈ gBIG := gIn 1485 rfl rfl
set_option maxRecDepth 20000 in
theorem k_1489 : (.methodLink "BuildGridModel" 243 ⟨"BuildGridModel", "opens", "()V"⟩ : Cond) ∈ gBIG := gIn 1489 rfl rfl
set_option maxRecDepth 20000 in
theorem k_1493 : (.methodLink "BuildGridModel" 246 ⟨"BuildGridModel", "opensOne", "(II)V"⟩ : Cond) ∈ gBIG := gIn 1493 rfl rfl
set_option maxRecDepth 20000 in
theorem k_1497 : (.methodLink "BuildGridModel" 249 ⟨"BuildGridModel", "hit", "(I)I"⟩ : Cond) ∈ gBIG := gIn 1497 rfl rfl
set_option maxRecDepth 20000 in
theorem k_1501 : (.methodLink "BuildGridModel" 215 ⟨"BuildGridModel", "keyOf", "(I)I"⟩ : Cond) ∈ gBIG := gIn 1501 rfl rfl
set_option maxRecDepth 20000 in
theorem k_1505 : (.methodLink "BuildGridModel" 194 ⟨"BuildGridModel", "keyBegin", "(II)I"⟩ : Cond) ∈ gBIG := gIn 1505 rfl rfl
set_option maxRecDepth 20000 in
theorem k_1509 : (.methodLink "BuildGridModel" 207 ⟨"BuildGridModel", "digestOf", "(I)I"⟩ : Cond) ∈ gBIG := gIn 1509 rfl rfl
set_option maxRecDepth 20000 in
theorem k_1513 : (.methodLink "BuildGridModel" 197 ⟨"BuildGridModel", "foundBy", "(II)I"⟩ : Cond) ∈ gBIG := gIn 1513 rfl rfl
set_option maxRecDepth 20000 in
theorem k_1517 : (.methodLink "BuildGridModel" 200 ⟨"BuildGridModel", "breaks", "(II)Z"⟩ : Cond) ∈ gBIG := gIn 1517 rfl rfl
set_option maxRecDepth 20000 in
theorem k_1521 : (.methodLink "BuildGridLaw" 143 ⟨"BuildGridModel", "pass", "(I)I"⟩ : Cond) ∈ gBIG := gIn 1521 rfl rfl
set_option maxRecDepth 20000 in
theorem k_1525 : (.methodLink "BuildGridModel" 279 ⟨"BuildGridModel", "builds", "()V"⟩ : Cond) ∈ gBIG := gIn 1525 rfl rfl
set_option maxRecDepth 20000 in
theorem k_1529 : (.methodLink "BuildGridModel" 265 ⟨"BuildGridModel", "next", "()I"⟩ : Cond) ∈ gBIG := gIn 1529 rfl rfl
set_option maxRecDepth 20000 in
theorem k_1533 : (.methodLink "BuildGridModel" 258 ⟨"BuildGridModel", "wayOf", "(I)I"⟩ : Cond) ∈ gBIG := gIn 1533 rfl rfl
set_option maxRecDepth 20000 in
theorem k_1537 : (.methodLink "BuildGridModel" 252 ⟨"BuildGridModel", "hasInput", "(II)Z"⟩ : Cond) ∈ gBIG := gIn 1537 rfl rfl
set_option maxRecDepth 20000 in
theorem k_1541 : (.methodLink "BuildGridModel" 269 ⟨"BuildGridModel", "idle", "()I"⟩ : Cond) ∈ gBIG := gIn 1541 rfl rfl
set_option maxRecDepth 20000 in
theorem k_1545 : (.methodLink "BuildGridModel" 272 ⟨"BuildGridModel", "begins", "(II)V"⟩ : Cond) ∈ gBIG := gIn 1545 rfl rfl
set_option maxRecDepth 20000 in
theorem k_1549 : (.methodLink "BuildGridModel" 255 ⟨"BuildGridModel", "ticksOf", "(II)I"⟩ : Cond) ∈ gBIG := gIn 1549 rfl rfl
set_option maxRecDepth 20000 in
theorem k_1553 : (.methodLink "BuildGridModel" 275 ⟨"BuildGridModel", "ends", "(I)V"⟩ : Cond) ∈ gBIG := gIn 1553 rfl rfl
set_option maxRecDepth 20000 in
theorem k_1557 : (.methodLink "BuildGridModel" 261 ⟨"BuildGridModel", "keep", "(IIIII)V"⟩ : Cond) ∈ gBIG := gIn 1557 rfl rfl
set_option maxRecDepth 20000 in
theorem k_1561 : (.methodLink "BuildGridLaw" 148 ⟨"BuildGridModel", "goesOn", "()Z"⟩ : Cond) ∈ gBIG := gIn 1561 rfl rfl
set_option maxRecDepth 20000 in
theorem k_1565 : (.methodLink "BuildGridLaw" 151 ⟨"BuildGridModel", "state", "(II)I"⟩ : Cond) ∈ gBIG := gIn 1565 rfl rfl
set_option maxRecDepth 20000 in
theorem k_1569 : (.methodLink "BuildGridLaw" 154 ⟨"BuildGridModel", "result", "(II)I"⟩ : Cond) ∈ gBIG := gIn 1569 rfl rfl
set_option maxRecDepth 20000 in
theorem k_1573 : (.methodLink "BuildGridLaw" 157 ⟨"BuildGridModel", "about", "(II)I"⟩ : Cond) ∈ gBIG := gIn 1573 rfl rfl
set_option maxRecDepth 20000 in
theorem k_1577 : (.methodLink "BuildGridModel" 288 ⟨"BuildGridModel", "freshenNow", "()V"⟩ : Cond) ∈ gBIG := gIn 1577 rfl rfl
set_option maxRecDepth 20000 in
theorem k_1581 : (.methodLink "BuildGridModel" 204 ⟨"BuildGridModel", "freshen", "()V"⟩ : Cond) ∈ gBIG := gIn 1581 rfl rfl
set_option maxRecDepth 20000 in
theorem k_1585 : (.methodLink "BuildGridModel" 291 ⟨"BuildGridModel", "isSound", "(IZ)Z"⟩ : Cond) ∈ gBIG := gIn 1585 rfl rfl
set_option maxRecDepth 20000 in
theorem k_1589 : (.methodLink "BuildGridModel" 285 ⟨"BuildGridModel", "isDone", "(I)Z"⟩ : Cond) ∈ gBIG := gIn 1589 rfl rfl
set_option maxRecDepth 20000 in
theorem k_1593 : (.methodLink "BuildGridModel" 295 ⟨"BuildGridModel", "isStale", "(I)Z"⟩ : Cond) ∈ gBIG := gIn 1593 rfl rfl
set_option maxRecDepth 20000 in
theorem k_1597 : (.methodLink "BuildGridLaw" 160 ⟨"BuildGridModel", "proof", "(I)I"⟩ : Cond) ∈ gBIG := gIn 1597 rfl rfl
set_option maxRecDepth 20000 in
theorem k_1601 : (.methodLink "BuildGridLaw" 163 ⟨"BuildGridModel", "count", "(I)I"⟩ : Cond) ∈ gBIG := gIn 1601 rfl rfl
set_option maxRecDepth 20000 in
theorem k_1605 : (.methodLink "BuildGridLaw" 166 ⟨"BuildGridModel", "needed", "(I)I"⟩ : Cond) ∈ gBIG := gIn 1605 rfl rfl
set_option maxRecDepth 20000 in
theorem k_1609 : (.methodLink "BuildGridLaw" 169 ⟨"BuildGridModel", "needing", "(I)I"⟩ : Cond) ∈ gBIG := gIn 1609 rfl rfl
set_option maxRecDepth 20000 in
theorem k_1613 : (.methodLink "BuildGridLaw" 172 ⟨"BuildGridModel", "steps", "(II)I"⟩ : Cond) ∈ gBIG := gIn 1613 rfl rfl
set_option maxRecDepth 20000 in
theorem k_1617 : (.methodLink "BuildGridLaw" 176 ⟨"BuildGridModel", "changes", "()I"⟩ : Cond) ∈ gBIG := gIn 1617 rfl rfl
set_option maxRecDepth 20000 in
theorem k_1621 : (.methodLink "BuildGridLaw" 179 ⟨"BuildGridModel", "bisect", "(I)I"⟩ : Cond) ∈ gBIG := gIn 1621 rfl rfl
set_option maxRecDepth 20000 in
theorem k_1625 : (.methodLink "BuildGridModel" 301 ⟨"BuildGridModel", "isGood", "(II)Z"⟩ : Cond) ∈ gBIG := gIn 1625 rfl rfl
set_option maxRecDepth 20000 in
theorem k_1629 : (.methodLink "BuildGridLaw" 183 ⟨"BuildGridModel", "looks", "()I"⟩ : Cond) ∈ gBIG := gIn 1629 rfl rfl
set_option maxRecDepth 20000 in
theorem k_536 : (.castable "java/lang/IllegalArgumentException" "java/lang/IllegalArgumentException" : Cond) ∈ gNest := gInN 536 rfl rfl
set_option maxRecDepth 20000 in
theorem k_638 : (.castable "java/lang/IllegalStateException" "java/lang/IllegalStateException" : Cond) ∈ gNest := gInN 638 rfl rfl
set_option maxRecDepth 20000 in
theorem k_681 : (.castable "java/lang/IndexOutOfBoundsException" "java/lang/IndexOutOfBoundsException" : Cond) ∈ gNest := gInN 681 rfl rfl
set_option maxRecDepth 20000 in
theorem k_86 : (.instantiable "BuildGrid" 7 : Cond) ∈ gBIG := gIn 86 rfl rfl
set_option maxRecDepth 20000 in
theorem k_94 : (.instantiable "BuildGrid$Sources" 6 : Cond) ∈ gBIG := gIn 94 rfl rfl
set_option maxRecDepth 20000 in
theorem k_124 : (.arrayClass Jvm.ClassFile.FieldType.int : Cond) ∈ gBIG := gIn 124 rfl rfl
set_option maxRecDepth 20000 in
theorem k_126 : (.instantiable "BuildGrid$Graph" 6 : Cond) ∈ gBIG := gIn 126 rfl rfl
set_option maxRecDepth 20000 in
theorem k_132 : (.arrayOver (Jvm.ClassFile.FieldType.object "BuildGrid$Target") : Cond) ∈ gNest := gInN 132 rfl rfl
set_option maxRecDepth 20000 in
theorem k_133 : (.instantiable "BuildGrid$Target" 13 : Cond) ∈ gBIG := gIn 133 rfl rfl
set_option maxRecDepth 20000 in
theorem k_139 : (.arrayOver (Jvm.ClassFile.FieldType.object "BuildGrid$Action") : Cond) ∈ gNest := gInN 139 rfl rfl
set_option maxRecDepth 20000 in
theorem k_141 : (.instantiable "BuildGrid$Inputs" 6 : Cond) ∈ gBIG := gIn 141 rfl rfl
set_option maxRecDepth 20000 in
theorem k_169 : (.instantiable "BuildGrid$Action" 8 : Cond) ∈ gBIG := gIn 169 rfl rfl
set_option maxRecDepth 20000 in
theorem k_303 : (.instantiable "BuildGrid$Cache" 3 : Cond) ∈ gBIG := gIn 303 rfl rfl
set_option maxRecDepth 20000 in
theorem k_309 : (.arrayOver (Jvm.ClassFile.FieldType.object "BuildGrid$Entry") : Cond) ∈ gNest := gInN 309 rfl rfl
set_option maxRecDepth 20000 in
theorem k_310 : (.instantiable "BuildGrid$Entry" 7 : Cond) ∈ gBIG := gIn 310 rfl rfl
set_option maxRecDepth 20000 in
theorem k_355 : (.instantiable "BuildGrid$Course" 11 : Cond) ∈ gBIG := gIn 355 rfl rfl
set_option maxRecDepth 20000 in
theorem k_357 : (.instantiable "BuildGrid$View" 3 : Cond) ∈ gBIG := gIn 357 rfl rfl
set_option maxRecDepth 20000 in
theorem k_380 : (.instantiable "BuildGrid$Worker" 8 : Cond) ∈ gBIG := gIn 380 rfl rfl
set_option maxRecDepth 20000 in
theorem k_418 : (.arrayOver (Jvm.ClassFile.FieldType.object "BuildGrid$Worker") : Cond) ∈ gNest := gInN 418 rfl rfl
set_option maxRecDepth 20000 in
theorem k_458 : (.instantiable "BuildGrid$Fresh" 4 : Cond) ∈ gBIG := gIn 458 rfl rfl
set_option maxRecDepth 20000 in
theorem k_522 : (.codeWith ⟨"BuildGridLaw", "write", "(LBuildGrid;II[J)I"⟩ method_3_code 5 (some Jvm.ClassFile.FieldType.int) [(0, 10, 13, 13)] : Cond) ∈ gBIG := gIn 522 rfl rfl
set_option maxRecDepth 20000 in
theorem k_535 : (.instantiable "java/lang/IllegalArgumentException" 6 : Cond) ∈ gBIG := gIn 535 rfl rfl
set_option maxRecDepth 20000 in
theorem k_573 : (.instantiable "java/lang/Throwable" 6 : Cond) ∈ gBIG := gIn 573 rfl rfl
set_option maxRecDepth 20000 in
theorem k_601 : (.arrayClass Jvm.ClassFile.FieldType.byte : Cond) ∈ gBIG := gIn 601 rfl rfl
set_option maxRecDepth 20000 in
theorem k_627 : (.codeWith ⟨"BuildGridLaw", "set", "(LBuildGrid;II[J)I"⟩ method_4_code 5 (some Jvm.ClassFile.FieldType.int) [(0, 10, 13, 13), (0, 10, 17, 18)] : Cond) ∈ gBIG := gIn 627 rfl rfl
set_option maxRecDepth 20000 in
theorem k_637 : (.instantiable "java/lang/IllegalStateException" 6 : Cond) ∈ gBIG := gIn 637 rfl rfl
set_option maxRecDepth 20000 in
theorem k_655 : (.codeWith ⟨"BuildGridLaw", "setTool", "(LBuildGrid;II[J)I"⟩ method_5_code 5 (some Jvm.ClassFile.FieldType.int) [(0, 10, 13, 13), (0, 10, 17, 18)] : Cond) ∈ gBIG := gIn 655 rfl rfl
set_option maxRecDepth 20000 in
theorem k_662 : (.codeWith ⟨"BuildGridLaw", "input", "(LBuildGrid;IIII[J)I"⟩ method_6_code 7 (some Jvm.ClassFile.FieldType.int) [(0, 14, 17, 13), (0, 14, 21, 27), (0, 14, 25, 18)] : Cond) ∈ gBIG := gIn 662 rfl rfl
set_option maxRecDepth 20000 in
theorem k_680 : (.instantiable "java/lang/IndexOutOfBoundsException" 6 : Cond) ∈ gBIG := gIn 680 rfl rfl
set_option maxRecDepth 20000 in
theorem k_702 : (.codeWith ⟨"BuildGridLaw", "target", "(LBuildGrid;IIIIII[J)I"⟩ method_7_code 9 (some Jvm.ClassFile.FieldType.int) [(0, 18, 21, 13), (0, 18, 25, 18)] : Cond) ∈ gBIG := gIn 702 rfl rfl
set_option maxRecDepth 20000 in
theorem k_728 : (.codeWith ⟨"BuildGridLaw", "copy", "(LBuildGrid;II[J)I"⟩ method_8_code 5 (some Jvm.ClassFile.FieldType.int) [(0, 10, 13, 27), (0, 10, 17, 13), (0, 10, 21, 18)] : Cond) ∈ gBIG := gIn 728 rfl rfl
set_option maxRecDepth 20000 in
theorem k_736 : (.codeWith ⟨"BuildGridLaw", "setPower", "(LBuildGrid;II[J)I"⟩ method_9_code 5 (some Jvm.ClassFile.FieldType.int) [(0, 10, 13, 13)] : Cond) ∈ gBIG := gIn 736 rfl rfl
set_option maxRecDepth 20000 in
theorem k_765 : (.codeWith ⟨"BuildGridLaw", "entry", "(LBuildGrid;II[J)I"⟩ method_10_code 5 (some Jvm.ClassFile.FieldType.int) [(0, 10, 13, 13)] : Cond) ∈ gBIG := gIn 765 rfl rfl
set_option maxRecDepth 20000 in
theorem k_796 : (.codeWith ⟨"BuildGridLaw", "lie", "(LBuildGrid;II)I"⟩ method_11_code 4 (some Jvm.ClassFile.FieldType.int) [(0, 6, 9, 13)] : Cond) ∈ gBIG := gIn 796 rfl rfl
set_option maxRecDepth 20000 in
theorem k_804 : (.codeWith ⟨"BuildGridLaw", "lose", "(LBuildGrid;I[J)I"⟩ method_12_code 4 (some Jvm.ClassFile.FieldType.int) [(0, 16, 19, 13)] : Cond) ∈ gBIG := gIn 804 rfl rfl
set_option maxRecDepth 20000 in
theorem k_812 : (.codeWith ⟨"BuildGridLaw", "build", "(LBuildGrid;I[J)I"⟩ method_13_code 4 (some Jvm.ClassFile.FieldType.int) [(0, 9, 12, 13), (0, 9, 15, 18)] : Cond) ∈ gBIG := gIn 812 rfl rfl
set_option maxRecDepth 20000 in
theorem k_915 : (.codeWith ⟨"BuildGridLaw", "pass", "(LBuildGrid;I[J)I"⟩ method_14_code 4 (some Jvm.ClassFile.FieldType.int) [(0, 9, 12, 13)] : Cond) ∈ gBIG := gIn 915 rfl rfl
set_option maxRecDepth 20000 in
theorem k_1043 : (.codeWith ⟨"BuildGridLaw", "state", "(LBuildGrid;II[J)I"⟩ method_15_code 5 (some Jvm.ClassFile.FieldType.int) [(0, 10, 13, 27), (0, 10, 17, 13)] : Cond) ∈ gBIG := gIn 1043 rfl rfl
set_option maxRecDepth 20000 in
theorem k_1055 : (.codeWith ⟨"BuildGridLaw", "result", "(LBuildGrid;II[J)I"⟩ method_16_code 5 (some Jvm.ClassFile.FieldType.int) [(0, 10, 13, 27), (0, 10, 17, 13)] : Cond) ∈ gBIG := gIn 1055 rfl rfl
set_option maxRecDepth 20000 in
theorem k_1062 : (.codeWith ⟨"BuildGridLaw", "about", "(LBuildGrid;II[J)I"⟩ method_17_code 5 (some Jvm.ClassFile.FieldType.int) [(0, 10, 13, 27), (0, 10, 17, 13)] : Cond) ∈ gBIG := gIn 1062 rfl rfl
set_option maxRecDepth 20000 in
theorem k_1126 : (.codeWith ⟨"BuildGridLaw", "proof", "(LBuildGrid;I[J)I"⟩ method_18_code 4 (some Jvm.ClassFile.FieldType.int) [(0, 9, 12, 27), (0, 9, 15, 18)] : Cond) ∈ gBIG := gIn 1126 rfl rfl
set_option maxRecDepth 20000 in
theorem k_1151 : (.codeWith ⟨"BuildGridLaw", "count", "(LBuildGrid;I[J)I"⟩ method_19_code 4 (some Jvm.ClassFile.FieldType.int) [(0, 9, 12, 13)] : Cond) ∈ gBIG := gIn 1151 rfl rfl
set_option maxRecDepth 20000 in
theorem k_1158 : (.codeWith ⟨"BuildGridLaw", "needed", "(LBuildGrid;I[J)I"⟩ method_20_code 4 (some Jvm.ClassFile.FieldType.int) [(0, 9, 12, 27)] : Cond) ∈ gBIG := gIn 1158 rfl rfl
set_option maxRecDepth 20000 in
theorem k_1165 : (.codeWith ⟨"BuildGridLaw", "needing", "(LBuildGrid;I[J)I"⟩ method_21_code 4 (some Jvm.ClassFile.FieldType.int) [(0, 9, 12, 13), (0, 9, 15, 27)] : Cond) ∈ gBIG := gIn 1165 rfl rfl
set_option maxRecDepth 20000 in
theorem k_1180 : (.codeWith ⟨"BuildGridLaw", "steps", "(LBuildGrid;II[J)I"⟩ method_22_code 5 (some Jvm.ClassFile.FieldType.int) [(0, 10, 13, 27)] : Cond) ∈ gBIG := gIn 1180 rfl rfl
set_option maxRecDepth 20000 in
theorem k_1195 : (.codeWith ⟨"BuildGridLaw", "bisect", "(LBuildGrid;I[J)I"⟩ method_23_code 4 (some Jvm.ClassFile.FieldType.int) [(0, 9, 12, 27)] : Cond) ∈ gBIG := gIn 1195 rfl rfl
set_option maxRecDepth 20000 in
theorem k_1205 : (.instantiable "BuildGridModel" 56 : Cond) ∈ gBIG := gIn 1205 rfl rfl
set_option maxRecDepth 20000 in
theorem k_1379 : (.arrayClass Jvm.ClassFile.FieldType.boolean : Cond) ∈ gBIG := gIn 1379 rfl rfl
set_option maxRecDepth 20000 in
theorem k_1633 : (.arrayClass Jvm.ClassFile.FieldType.long : Cond) ∈ gBIG := gIn 1633 rfl rfl
set_option maxRecDepth 20000 in
theorem k_64 : (.initialized "BuildGridLaw" : Cond) ∈ gBIG := gIn 64 rfl rfl
set_option maxRecDepth 20000 in
theorem k_65 : (.initialized "BuildGrid" : Cond) ∈ gBIG := gIn 65 rfl rfl
set_option maxRecDepth 20000 in
theorem k_66 : (.initialized "BuildGrid$Sources" : Cond) ∈ gBIG := gIn 66 rfl rfl
set_option maxRecDepth 20000 in
theorem k_67 : (.initialized "BuildGrid$Graph" : Cond) ∈ gBIG := gIn 67 rfl rfl
set_option maxRecDepth 20000 in
theorem k_68 : (.initialized "BuildGrid$Target" : Cond) ∈ gBIG := gIn 68 rfl rfl
set_option maxRecDepth 20000 in
theorem k_69 : (.initialized "BuildGrid$Inputs" : Cond) ∈ gBIG := gIn 69 rfl rfl
set_option maxRecDepth 20000 in
theorem k_70 : (.initialized "BuildGrid$Action" : Cond) ∈ gBIG := gIn 70 rfl rfl
set_option maxRecDepth 20000 in
theorem k_71 : (.initialized "BuildGrid$Cache" : Cond) ∈ gBIG := gIn 71 rfl rfl
set_option maxRecDepth 20000 in
theorem k_72 : (.initialized "BuildGrid$Entry" : Cond) ∈ gBIG := gIn 72 rfl rfl
set_option maxRecDepth 20000 in
theorem k_73 : (.initialized "BuildGrid$Course" : Cond) ∈ gBIG := gIn 73 rfl rfl
set_option maxRecDepth 20000 in
theorem k_74 : (.initialized "BuildGrid$View" : Cond) ∈ gBIG := gIn 74 rfl rfl
set_option maxRecDepth 20000 in
theorem k_75 : (.initialized "BuildGrid$Worker" : Cond) ∈ gBIG := gIn 75 rfl rfl
set_option maxRecDepth 20000 in
theorem k_76 : (.initialized "BuildGrid$Fresh" : Cond) ∈ gBIG := gIn 76 rfl rfl
set_option maxRecDepth 20000 in
theorem k_77 : (.initialized "BuildGridModel" : Cond) ∈ gBIG := gIn 77 rfl rfl
set_option maxRecDepth 20000 in
theorem k_78 : (.initialized "java/lang/Throwable" : Cond) ∈ gBIG := gIn 78 rfl rfl
set_option maxRecDepth 20000 in
theorem k_79 : (.initialized "java/lang/Exception" : Cond) ∈ gBIG := gIn 79 rfl rfl
set_option maxRecDepth 20000 in
theorem k_80 : (.initialized "java/lang/RuntimeException" : Cond) ∈ gBIG := gIn 80 rfl rfl
set_option maxRecDepth 20000 in
theorem k_81 : (.initialized "java/lang/IllegalArgumentException" : Cond) ∈ gBIG := gIn 81 rfl rfl
set_option maxRecDepth 20000 in
theorem k_82 : (.initialized "java/lang/IllegalStateException" : Cond) ∈ gBIG := gIn 82 rfl rfl
set_option maxRecDepth 20000 in
theorem k_83 : (.initialized "java/lang/IndexOutOfBoundsException" : Cond) ∈ gBIG := gIn 83 rfl rfl
set_option maxRecDepth 20000 in
theorem k_84 : (.initialized "java/lang/Math" : Cond) ∈ gBIG := gIn 84 rfl rfl
set_option maxRecDepth 20000 in
theorem k_88 : (.instanceMethod ⟨"BuildGrid", "<init>", "()V"⟩ : Cond) ∈ gBIG := gIn 88 rfl rfl
set_option maxRecDepth 20000 in
theorem k_89 : (.code ⟨"BuildGrid", "<init>", "()V"⟩ prog_1_method_1_code 1 (none : Option FieldType) : Cond) ∈ gBIG := gIn 89 rfl rfl
set_option maxRecDepth 20000 in
theorem k_91 : (.instanceMethod ⟨"java/lang/Object", "<init>", "()V"⟩ : Cond) ∈ gBIG := gIn 91 rfl rfl
set_option maxRecDepth 20000 in
theorem k_92 : (.code ⟨"java/lang/Object", "<init>", "()V"⟩ object_method_1_code 1 (none : Option FieldType) : Cond) ∈ gBIG := gIn 92 rfl rfl
set_option maxRecDepth 20000 in
theorem k_96 : (.instanceMethod ⟨"BuildGrid$Sources", "<init>", "()V"⟩ : Cond) ∈ gBIG := gIn 96 rfl rfl
set_option maxRecDepth 20000 in
theorem k_97 : (.code ⟨"BuildGrid$Sources", "<init>", "()V"⟩ prog_9_method_1_code 1 (none : Option FieldType) : Cond) ∈ gBIG := gIn 97 rfl rfl
set_option maxRecDepth 20000 in
theorem k_128 : (.instanceMethod ⟨"BuildGrid$Graph", "<init>", "([I)V"⟩ : Cond) ∈ gBIG := gIn 128 rfl rfl
set_option maxRecDepth 20000 in
theorem k_129 : (.code ⟨"BuildGrid$Graph", "<init>", "([I)V"⟩ prog_7_method_1_code 3 (none : Option FieldType) : Cond) ∈ gBIG := gIn 129 rfl rfl
set_option maxRecDepth 20000 in
theorem k_135 : (.instanceMethod ⟨"BuildGrid$Target", "<init>", "(I[I)V"⟩ : Cond) ∈ gBIG := gIn 135 rfl rfl
set_option maxRecDepth 20000 in
theorem k_136 : (.code ⟨"BuildGrid$Target", "<init>", "(I[I)V"⟩ prog_10_method_1_code 4 (none : Option FieldType) : Cond) ∈ gBIG := gIn 136 rfl rfl
set_option maxRecDepth 20000 in
theorem k_143 : (.instanceMethod ⟨"BuildGrid$Inputs", "<init>", "([I)V"⟩ : Cond) ∈ gBIG := gIn 143 rfl rfl
set_option maxRecDepth 20000 in
theorem k_144 : (.code ⟨"BuildGrid$Inputs", "<init>", "([I)V"⟩ prog_8_method_1_code 2 (none : Option FieldType) : Cond) ∈ gBIG := gIn 144 rfl rfl
set_option maxRecDepth 20000 in
theorem k_171 : (.instanceMethod ⟨"BuildGrid$Action", "<init>", "(II)V"⟩ : Cond) ∈ gBIG := gIn 171 rfl rfl
set_option maxRecDepth 20000 in
theorem k_172 : (.code ⟨"BuildGrid$Action", "<init>", "(II)V"⟩ prog_2_method_1_code 3 (none : Option FieldType) : Cond) ∈ gBIG := gIn 172 rfl rfl
set_option maxRecDepth 20000 in
theorem k_305 : (.instanceMethod ⟨"BuildGrid$Cache", "<init>", "()V"⟩ : Cond) ∈ gBIG := gIn 305 rfl rfl
set_option maxRecDepth 20000 in
theorem k_306 : (.code ⟨"BuildGrid$Cache", "<init>", "()V"⟩ prog_3_method_1_code 2 (none : Option FieldType) : Cond) ∈ gBIG := gIn 306 rfl rfl
set_option maxRecDepth 20000 in
theorem k_312 : (.instanceMethod ⟨"BuildGrid$Entry", "<init>", "()V"⟩ : Cond) ∈ gBIG := gIn 312 rfl rfl
set_option maxRecDepth 20000 in
theorem k_313 : (.code ⟨"BuildGrid$Entry", "<init>", "()V"⟩ prog_5_method_1_code 1 (none : Option FieldType) : Cond) ∈ gBIG := gIn 313 rfl rfl
set_option maxRecDepth 20000 in
theorem k_359 : (.instanceMethod ⟨"BuildGrid$View", "<init>", "([I[I)V"⟩ : Cond) ∈ gBIG := gIn 359 rfl rfl
set_option maxRecDepth 20000 in
theorem k_360 : (.code ⟨"BuildGrid$View", "<init>", "([I[I)V"⟩ prog_11_method_1_code 3 (none : Option FieldType) : Cond) ∈ gBIG := gIn 360 rfl rfl
set_option maxRecDepth 20000 in
theorem k_376 : (.instanceMethod ⟨"BuildGrid$Course", "<init>", "(LBuildGrid$Graph;LBuildGrid$Cache;LBuildGrid$View;)V"⟩ : Cond) ∈ gBIG := gIn 376 rfl rfl
set_option maxRecDepth 20000 in
theorem k_377 : (.code ⟨"BuildGrid$Course", "<init>", "(LBuildGrid$Graph;LBuildGrid$Cache;LBuildGrid$View;)V"⟩ prog_4_method_1_code 5 (none : Option FieldType) : Cond) ∈ gBIG := gIn 377 rfl rfl
set_option maxRecDepth 20000 in
theorem k_382 : (.instanceMethod ⟨"BuildGrid$Worker", "<init>", "(II)V"⟩ : Cond) ∈ gBIG := gIn 382 rfl rfl
set_option maxRecDepth 20000 in
theorem k_383 : (.code ⟨"BuildGrid$Worker", "<init>", "(II)V"⟩ prog_12_method_1_code 3 (none : Option FieldType) : Cond) ∈ gBIG := gIn 383 rfl rfl
set_option maxRecDepth 20000 in
theorem k_460 : (.instanceMethod ⟨"BuildGrid$Fresh", "<init>", "(LBuildGrid$Graph;LBuildGrid$Sources;)V"⟩ : Cond) ∈ gBIG := gIn 460 rfl rfl
set_option maxRecDepth 20000 in
theorem k_461 : (.code ⟨"BuildGrid$Fresh", "<init>", "(LBuildGrid$Graph;LBuildGrid$Sources;)V"⟩ prog_6_method_1_code 3 (none : Option FieldType) : Cond) ∈ gBIG := gIn 461 rfl rfl
set_option maxRecDepth 20000 in
theorem k_501 : (.instanceMethod ⟨"BuildGrid", "setWays", "(ZZ)V"⟩ : Cond) ∈ gBIG := gIn 501 rfl rfl
set_option maxRecDepth 20000 in
theorem k_502 : (.selects "BuildGrid" ⟨"BuildGrid", "setWays", "(ZZ)V"⟩ ⟨"BuildGrid", "setWays", "(ZZ)V"⟩ : Cond) ∈ gBIG := gIn 502 rfl rfl
set_option maxRecDepth 20000 in
theorem k_503 : (.code ⟨"BuildGrid", "setWays", "(ZZ)V"⟩ prog_1_method_9_code 3 (none : Option FieldType) : Cond) ∈ gBIG := gIn 503 rfl rfl
set_option maxRecDepth 20000 in
theorem k_505 : (.instanceMethod ⟨"BuildGrid", "entries", "()I"⟩ : Cond) ∈ gBIG := gIn 505 rfl rfl
set_option maxRecDepth 20000 in
theorem k_506 : (.selects "BuildGrid" ⟨"BuildGrid", "entries", "()I"⟩ ⟨"BuildGrid", "entries", "()I"⟩ : Cond) ∈ gBIG := gIn 506 rfl rfl
set_option maxRecDepth 20000 in
theorem k_507 : (.code ⟨"BuildGrid", "entries", "()I"⟩ prog_1_method_10_code 1 (some Jvm.ClassFile.FieldType.int) : Cond) ∈ gBIG := gIn 507 rfl rfl
set_option maxRecDepth 20000 in
theorem k_509 : (.instanceMethod ⟨"BuildGrid", "goesOn", "()Z"⟩ : Cond) ∈ gBIG := gIn 509 rfl rfl
set_option maxRecDepth 20000 in
theorem k_510 : (.selects "BuildGrid" ⟨"BuildGrid", "goesOn", "()Z"⟩ ⟨"BuildGrid", "goesOn", "()Z"⟩ : Cond) ∈ gBIG := gIn 510 rfl rfl
set_option maxRecDepth 20000 in
theorem k_511 : (.code ⟨"BuildGrid", "goesOn", "()Z"⟩ prog_1_method_16_code 1 (some Jvm.ClassFile.FieldType.boolean) : Cond) ∈ gBIG := gIn 511 rfl rfl
set_option maxRecDepth 20000 in
theorem k_513 : (.instanceMethod ⟨"BuildGrid", "changes", "()I"⟩ : Cond) ∈ gBIG := gIn 513 rfl rfl
set_option maxRecDepth 20000 in
theorem k_514 : (.selects "BuildGrid" ⟨"BuildGrid", "changes", "()I"⟩ ⟨"BuildGrid", "changes", "()I"⟩ : Cond) ∈ gBIG := gIn 514 rfl rfl
set_option maxRecDepth 20000 in
theorem k_515 : (.code ⟨"BuildGrid", "changes", "()I"⟩ prog_1_method_25_code 1 (some Jvm.ClassFile.FieldType.int) : Cond) ∈ gBIG := gIn 515 rfl rfl
set_option maxRecDepth 20000 in
theorem k_517 : (.instanceMethod ⟨"BuildGrid", "looks", "()I"⟩ : Cond) ∈ gBIG := gIn 517 rfl rfl
set_option maxRecDepth 20000 in
theorem k_518 : (.selects "BuildGrid" ⟨"BuildGrid", "looks", "()I"⟩ ⟨"BuildGrid", "looks", "()I"⟩ : Cond) ∈ gBIG := gIn 518 rfl rfl
set_option maxRecDepth 20000 in
theorem k_519 : (.code ⟨"BuildGrid", "looks", "()I"⟩ prog_1_method_27_code 1 (some Jvm.ClassFile.FieldType.int) : Cond) ∈ gBIG := gIn 519 rfl rfl
set_option maxRecDepth 20000 in
theorem k_521 : (.static ⟨"BuildGridLaw", "write", "(LBuildGrid;II[J)I"⟩ : Cond) ∈ gBIG := gIn 521 rfl rfl
set_option maxRecDepth 20000 in
theorem k_525 : (.instanceMethod ⟨"BuildGrid", "write", "(II)I"⟩ : Cond) ∈ gBIG := gIn 525 rfl rfl
set_option maxRecDepth 20000 in
theorem k_526 : (.selects "BuildGrid" ⟨"BuildGrid", "write", "(II)I"⟩ ⟨"BuildGrid", "write", "(II)I"⟩ : Cond) ∈ gBIG := gIn 526 rfl rfl
set_option maxRecDepth 20000 in
theorem k_527 : (.code ⟨"BuildGrid", "write", "(II)I"⟩ prog_1_method_2_code 3 (some Jvm.ClassFile.FieldType.int) : Cond) ∈ gBIG := gIn 527 rfl rfl
set_option maxRecDepth 20000 in
theorem k_529 : (.static ⟨"BuildGrid", "isBelow", "(II)Z"⟩ : Cond) ∈ gBIG := gIn 529 rfl rfl
set_option maxRecDepth 20000 in
theorem k_530 : (.code ⟨"BuildGrid", "isBelow", "(II)Z"⟩ prog_1_method_34_code 2 (some Jvm.ClassFile.FieldType.boolean) : Cond) ∈ gBIG := gIn 530 rfl rfl
set_option maxRecDepth 20000 in
theorem k_532 : (.static ⟨"BuildGrid", "checkArgument", "(Z)V"⟩ : Cond) ∈ gBIG := gIn 532 rfl rfl
set_option maxRecDepth 20000 in
theorem k_533 : (.code ⟨"BuildGrid", "checkArgument", "(Z)V"⟩ prog_1_method_28_code 1 (none : Option FieldType) : Cond) ∈ gBIG := gIn 533 rfl rfl
set_option maxRecDepth 20000 in
theorem k_603 : (.instanceMethod ⟨"BuildGrid$Sources", "rewrite", "(II)I"⟩ : Cond) ∈ gBIG := gIn 603 rfl rfl
set_option maxRecDepth 20000 in
theorem k_604 : (.selects "BuildGrid$Sources" ⟨"BuildGrid$Sources", "rewrite", "(II)I"⟩ ⟨"BuildGrid$Sources", "rewrite", "(II)I"⟩ : Cond) ∈ gBIG := gIn 604 rfl rfl
set_option maxRecDepth 20000 in
theorem k_605 : (.code ⟨"BuildGrid$Sources", "rewrite", "(II)I"⟩ prog_9_method_2_code 4 (some Jvm.ClassFile.FieldType.int) : Cond) ∈ gBIG := gIn 605 rfl rfl
set_option maxRecDepth 20000 in
theorem k_607 : (.static ⟨"BuildGrid", "exchange", "([III)I"⟩ : Cond) ∈ gBIG := gIn 607 rfl rfl
set_option maxRecDepth 20000 in
theorem k_608 : (.code ⟨"BuildGrid", "exchange", "([III)I"⟩ prog_1_method_39_code 4 (some Jvm.ClassFile.FieldType.int) : Cond) ∈ gBIG := gIn 608 rfl rfl
set_option maxRecDepth 20000 in
theorem k_610 : (.static ⟨"BuildGrid", "at", "([II)I"⟩ : Cond) ∈ gBIG := gIn 610 rfl rfl
set_option maxRecDepth 20000 in
theorem k_611 : (.code ⟨"BuildGrid", "at", "([II)I"⟩ prog_1_method_37_code 2 (some Jvm.ClassFile.FieldType.int) : Cond) ∈ gBIG := gIn 611 rfl rfl
set_option maxRecDepth 20000 in
theorem k_613 : (.static ⟨"BuildGrid", "store", "([III)V"⟩ : Cond) ∈ gBIG := gIn 613 rfl rfl
set_option maxRecDepth 20000 in
theorem k_614 : (.code ⟨"BuildGrid", "store", "([III)V"⟩ prog_1_method_38_code 3 (none : Option FieldType) : Cond) ∈ gBIG := gIn 614 rfl rfl
set_option maxRecDepth 20000 in
theorem k_617 : (.instanceMethod ⟨"BuildGrid$Sources", "keepChange", "(II)V"⟩ : Cond) ∈ gBIG := gIn 617 rfl rfl
set_option maxRecDepth 20000 in
theorem k_618 : (.code ⟨"BuildGrid$Sources", "keepChange", "(II)V"⟩ prog_9_method_3_code 3 (none : Option FieldType) : Cond) ∈ gBIG := gIn 618 rfl rfl
set_option maxRecDepth 20000 in
theorem k_621 : (.instanceMethod ⟨"BuildGrid$Sources", "forgetFirstChange", "()V"⟩ : Cond) ∈ gBIG := gIn 621 rfl rfl
set_option maxRecDepth 20000 in
theorem k_622 : (.code ⟨"BuildGrid$Sources", "forgetFirstChange", "()V"⟩ prog_9_method_4_code 2 (none : Option FieldType) : Cond) ∈ gBIG := gIn 622 rfl rfl
set_option maxRecDepth 20000 in
theorem k_626 : (.static ⟨"BuildGridLaw", "set", "(LBuildGrid;II[J)I"⟩ : Cond) ∈ gBIG := gIn 626 rfl rfl
set_option maxRecDepth 20000 in
theorem k_630 : (.instanceMethod ⟨"BuildGrid", "set", "(II)I"⟩ : Cond) ∈ gBIG := gIn 630 rfl rfl
set_option maxRecDepth 20000 in
theorem k_631 : (.selects "BuildGrid" ⟨"BuildGrid", "set", "(II)I"⟩ ⟨"BuildGrid", "set", "(II)I"⟩ : Cond) ∈ gBIG := gIn 631 rfl rfl
set_option maxRecDepth 20000 in
theorem k_632 : (.code ⟨"BuildGrid", "set", "(II)I"⟩ prog_1_method_3_code 3 (some Jvm.ClassFile.FieldType.int) : Cond) ∈ gBIG := gIn 632 rfl rfl
set_option maxRecDepth 20000 in
theorem k_634 : (.static ⟨"BuildGrid", "checkState", "(Z)V"⟩ : Cond) ∈ gBIG := gIn 634 rfl rfl
set_option maxRecDepth 20000 in
theorem k_635 : (.code ⟨"BuildGrid", "checkState", "(Z)V"⟩ prog_1_method_29_code 1 (none : Option FieldType) : Cond) ∈ gBIG := gIn 635 rfl rfl
set_option maxRecDepth 20000 in
theorem k_654 : (.static ⟨"BuildGridLaw", "setTool", "(LBuildGrid;II[J)I"⟩ : Cond) ∈ gBIG := gIn 654 rfl rfl
set_option maxRecDepth 20000 in
theorem k_657 : (.instanceMethod ⟨"BuildGrid", "setTool", "(II)I"⟩ : Cond) ∈ gBIG := gIn 657 rfl rfl
set_option maxRecDepth 20000 in
theorem k_658 : (.selects "BuildGrid" ⟨"BuildGrid", "setTool", "(II)I"⟩ ⟨"BuildGrid", "setTool", "(II)I"⟩ : Cond) ∈ gBIG := gIn 658 rfl rfl
set_option maxRecDepth 20000 in
theorem k_659 : (.code ⟨"BuildGrid", "setTool", "(II)I"⟩ prog_1_method_4_code 3 (some Jvm.ClassFile.FieldType.int) : Cond) ∈ gBIG := gIn 659 rfl rfl
set_option maxRecDepth 20000 in
theorem k_661 : (.static ⟨"BuildGridLaw", "input", "(LBuildGrid;IIII[J)I"⟩ : Cond) ∈ gBIG := gIn 661 rfl rfl
set_option maxRecDepth 20000 in
theorem k_665 : (.instanceMethod ⟨"BuildGrid", "input", "(IIII)I"⟩ : Cond) ∈ gBIG := gIn 665 rfl rfl
set_option maxRecDepth 20000 in
theorem k_666 : (.selects "BuildGrid" ⟨"BuildGrid", "input", "(IIII)I"⟩ ⟨"BuildGrid", "input", "(IIII)I"⟩ : Cond) ∈ gBIG := gIn 666 rfl rfl
set_option maxRecDepth 20000 in
theorem k_667 : (.code ⟨"BuildGrid", "input", "(IIII)I"⟩ prog_1_method_5_code 5 (some Jvm.ClassFile.FieldType.int) : Cond) ∈ gBIG := gIn 667 rfl rfl
set_option maxRecDepth 20000 in
theorem k_670 : (.instanceMethod ⟨"BuildGrid", "checkThing", "(I)V"⟩ : Cond) ∈ gBIG := gIn 670 rfl rfl
set_option maxRecDepth 20000 in
theorem k_671 : (.code ⟨"BuildGrid", "checkThing", "(I)V"⟩ prog_1_method_31_code 2 (none : Option FieldType) : Cond) ∈ gBIG := gIn 671 rfl rfl
set_option maxRecDepth 20000 in
theorem k_673 : (.static ⟨"BuildGrid", "isTarget", "(I)Z"⟩ : Cond) ∈ gBIG := gIn 673 rfl rfl
set_option maxRecDepth 20000 in
theorem k_674 : (.code ⟨"BuildGrid", "isTarget", "(I)Z"⟩ prog_1_method_35_code 1 (some Jvm.ClassFile.FieldType.boolean) : Cond) ∈ gBIG := gIn 674 rfl rfl
set_option maxRecDepth 20000 in
theorem k_677 : (.instanceMethod ⟨"BuildGrid", "checkTarget", "(I)V"⟩ : Cond) ∈ gBIG := gIn 677 rfl rfl
set_option maxRecDepth 20000 in
theorem k_678 : (.code ⟨"BuildGrid", "checkTarget", "(I)V"⟩ prog_1_method_30_code 2 (none : Option FieldType) : Cond) ∈ gBIG := gIn 678 rfl rfl
set_option maxRecDepth 20000 in
theorem k_696 : (.instanceMethod ⟨"BuildGrid$Inputs", "append", "(IIII)I"⟩ : Cond) ∈ gBIG := gIn 696 rfl rfl
set_option maxRecDepth 20000 in
theorem k_697 : (.selects "BuildGrid$Inputs" ⟨"BuildGrid$Inputs", "append", "(IIII)I"⟩ ⟨"BuildGrid$Inputs", "append", "(IIII)I"⟩ : Cond) ∈ gBIG := gIn 697 rfl rfl
set_option maxRecDepth 20000 in
theorem k_698 : (.code ⟨"BuildGrid$Inputs", "append", "(IIII)I"⟩ prog_8_method_2_code 5 (some Jvm.ClassFile.FieldType.int) : Cond) ∈ gBIG := gIn 698 rfl rfl
set_option maxRecDepth 20000 in
theorem k_701 : (.static ⟨"BuildGridLaw", "target", "(LBuildGrid;IIIIII[J)I"⟩ : Cond) ∈ gBIG := gIn 701 rfl rfl
set_option maxRecDepth 20000 in
theorem k_704 : (.instanceMethod ⟨"BuildGrid", "target", "(IIIIII)I"⟩ : Cond) ∈ gBIG := gIn 704 rfl rfl
set_option maxRecDepth 20000 in
theorem k_705 : (.selects "BuildGrid" ⟨"BuildGrid", "target", "(IIIIII)I"⟩ ⟨"BuildGrid", "target", "(IIIIII)I"⟩ : Cond) ∈ gBIG := gIn 705 rfl rfl
set_option maxRecDepth 20000 in
theorem k_706 : (.code ⟨"BuildGrid", "target", "(IIIIII)I"⟩ prog_1_method_6_code 8 (some Jvm.ClassFile.FieldType.int) : Cond) ∈ gBIG := gIn 706 rfl rfl
set_option maxRecDepth 20000 in
theorem k_709 : (.instanceMethod ⟨"BuildGrid$Graph", "tellNext", "()LBuildGrid$Target;"⟩ : Cond) ∈ gBIG := gIn 709 rfl rfl
set_option maxRecDepth 20000 in
theorem k_710 : (.selects "BuildGrid$Graph" ⟨"BuildGrid$Graph", "tellNext", "()LBuildGrid$Target;"⟩ ⟨"BuildGrid$Graph", "tellNext", "()LBuildGrid$Target;"⟩ : Cond) ∈ gBIG := gIn 710 rfl rfl
set_option maxRecDepth 20000 in
theorem k_711 : (.code ⟨"BuildGrid$Graph", "tellNext", "()LBuildGrid$Target;"⟩ prog_7_method_2_code 1 (some (Jvm.ClassFile.FieldType.object "BuildGrid$Target")) : Cond) ∈ gBIG := gIn 711 rfl rfl
set_option maxRecDepth 20000 in
theorem k_713 : (.instanceMethod ⟨"BuildGrid$Graph", "targetAt", "(I)LBuildGrid$Target;"⟩ : Cond) ∈ gBIG := gIn 713 rfl rfl
set_option maxRecDepth 20000 in
theorem k_714 : (.selects "BuildGrid$Graph" ⟨"BuildGrid$Graph", "targetAt", "(I)LBuildGrid$Target;"⟩ ⟨"BuildGrid$Graph", "targetAt", "(I)LBuildGrid$Target;"⟩ : Cond) ∈ gBIG := gIn 714 rfl rfl
set_option maxRecDepth 20000 in
theorem k_715 : (.code ⟨"BuildGrid$Graph", "targetAt", "(I)LBuildGrid$Target;"⟩ prog_7_method_3_code 2 (some (Jvm.ClassFile.FieldType.object "BuildGrid$Target")) : Cond) ∈ gBIG := gIn 715 rfl rfl
set_option maxRecDepth 20000 in
theorem k_717 : (.instanceMethod ⟨"BuildGrid$Target", "describe", "(IIIIII)V"⟩ : Cond) ∈ gBIG := gIn 717 rfl rfl
set_option maxRecDepth 20000 in
theorem k_718 : (.selects "BuildGrid$Target" ⟨"BuildGrid$Target", "describe", "(IIIIII)V"⟩ ⟨"BuildGrid$Target", "describe", "(IIIIII)V"⟩ : Cond) ∈ gBIG := gIn 718 rfl rfl
set_option maxRecDepth 20000 in
theorem k_719 : (.code ⟨"BuildGrid$Target", "describe", "(IIIIII)V"⟩ prog_10_method_2_code 7 (none : Option FieldType) : Cond) ∈ gBIG := gIn 719 rfl rfl
set_option maxRecDepth 20000 in
theorem k_721 : (.instanceMethod ⟨"BuildGrid$Inputs", "become", "(LBuildGrid$Inputs;)V"⟩ : Cond) ∈ gBIG := gIn 721 rfl rfl
set_option maxRecDepth 20000 in
theorem k_722 : (.selects "BuildGrid$Inputs" ⟨"BuildGrid$Inputs", "become", "(LBuildGrid$Inputs;)V"⟩ ⟨"BuildGrid$Inputs", "become", "(LBuildGrid$Inputs;)V"⟩ : Cond) ∈ gBIG := gIn 722 rfl rfl
set_option maxRecDepth 20000 in
theorem k_723 : (.code ⟨"BuildGrid$Inputs", "become", "(LBuildGrid$Inputs;)V"⟩ prog_8_method_3_code 3 (none : Option FieldType) : Cond) ∈ gBIG := gIn 723 rfl rfl
set_option maxRecDepth 20000 in
theorem k_727 : (.static ⟨"BuildGridLaw", "copy", "(LBuildGrid;II[J)I"⟩ : Cond) ∈ gBIG := gIn 727 rfl rfl
set_option maxRecDepth 20000 in
theorem k_730 : (.instanceMethod ⟨"BuildGrid", "copy", "(II)I"⟩ : Cond) ∈ gBIG := gIn 730 rfl rfl
set_option maxRecDepth 20000 in
theorem k_731 : (.selects "BuildGrid" ⟨"BuildGrid", "copy", "(II)I"⟩ ⟨"BuildGrid", "copy", "(II)I"⟩ : Cond) ∈ gBIG := gIn 731 rfl rfl
set_option maxRecDepth 20000 in
theorem k_732 : (.code ⟨"BuildGrid", "copy", "(II)I"⟩ prog_1_method_7_code 5 (some Jvm.ClassFile.FieldType.int) : Cond) ∈ gBIG := gIn 732 rfl rfl
set_option maxRecDepth 20000 in
theorem k_735 : (.static ⟨"BuildGridLaw", "setPower", "(LBuildGrid;II[J)I"⟩ : Cond) ∈ gBIG := gIn 735 rfl rfl
set_option maxRecDepth 20000 in
theorem k_738 : (.instanceMethod ⟨"BuildGrid", "setPower", "(II)I"⟩ : Cond) ∈ gBIG := gIn 738 rfl rfl
set_option maxRecDepth 20000 in
theorem k_739 : (.selects "BuildGrid" ⟨"BuildGrid", "setPower", "(II)I"⟩ ⟨"BuildGrid", "setPower", "(II)I"⟩ : Cond) ∈ gBIG := gIn 739 rfl rfl
set_option maxRecDepth 20000 in
theorem k_740 : (.code ⟨"BuildGrid", "setPower", "(II)I"⟩ prog_1_method_8_code 5 (some Jvm.ClassFile.FieldType.int) : Cond) ∈ gBIG := gIn 740 rfl rfl
set_option maxRecDepth 20000 in
theorem k_742 : (.instanceMethod ⟨"BuildGrid$Course", "workerAt", "(I)LBuildGrid$Worker;"⟩ : Cond) ∈ gBIG := gIn 742 rfl rfl
set_option maxRecDepth 20000 in
theorem k_743 : (.selects "BuildGrid$Course" ⟨"BuildGrid$Course", "workerAt", "(I)LBuildGrid$Worker;"⟩ ⟨"BuildGrid$Course", "workerAt", "(I)LBuildGrid$Worker;"⟩ : Cond) ∈ gBIG := gIn 743 rfl rfl
set_option maxRecDepth 20000 in
theorem k_744 : (.code ⟨"BuildGrid$Course", "workerAt", "(I)LBuildGrid$Worker;"⟩ prog_4_method_5_code 2 (some (Jvm.ClassFile.FieldType.object "BuildGrid$Worker")) : Cond) ∈ gBIG := gIn 744 rfl rfl
set_option maxRecDepth 20000 in
theorem k_746 : (.instanceMethod ⟨"BuildGrid$Course", "changePower", "(LBuildGrid$Worker;I)V"⟩ : Cond) ∈ gBIG := gIn 746 rfl rfl
set_option maxRecDepth 20000 in
theorem k_747 : (.selects "BuildGrid$Course" ⟨"BuildGrid$Course", "changePower", "(LBuildGrid$Worker;I)V"⟩ ⟨"BuildGrid$Course", "changePower", "(LBuildGrid$Worker;I)V"⟩ : Cond) ∈ gBIG := gIn 747 rfl rfl
set_option maxRecDepth 20000 in
theorem k_748 : (.code ⟨"BuildGrid$Course", "changePower", "(LBuildGrid$Worker;I)V"⟩ prog_4_method_6_code 4 (none : Option FieldType) : Cond) ∈ gBIG := gIn 748 rfl rfl
set_option maxRecDepth 20000 in
theorem k_750 : (.instanceMethod ⟨"BuildGrid$Worker", "rest", "(I)V"⟩ : Cond) ∈ gBIG := gIn 750 rfl rfl
set_option maxRecDepth 20000 in
theorem k_751 : (.selects "BuildGrid$Worker" ⟨"BuildGrid$Worker", "rest", "(I)V"⟩ ⟨"BuildGrid$Worker", "rest", "(I)V"⟩ : Cond) ∈ gBIG := gIn 751 rfl rfl
set_option maxRecDepth 20000 in
theorem k_752 : (.code ⟨"BuildGrid$Worker", "rest", "(I)V"⟩ prog_12_method_9_code 2 (none : Option FieldType) : Cond) ∈ gBIG := gIn 752 rfl rfl
set_option maxRecDepth 20000 in
theorem k_755 : (.instanceMethod ⟨"BuildGrid$Course", "isAnyAt", "(LBuildGrid$Action;)Z"⟩ : Cond) ∈ gBIG := gIn 755 rfl rfl
set_option maxRecDepth 20000 in
theorem k_756 : (.code ⟨"BuildGrid$Course", "isAnyAt", "(LBuildGrid$Action;)Z"⟩ prog_4_method_7_code 6 (some Jvm.ClassFile.FieldType.boolean) : Cond) ∈ gBIG := gIn 756 rfl rfl
set_option maxRecDepth 20000 in
theorem k_759 : (.instanceMethod ⟨"BuildGrid$Course", "tally", "(I)V"⟩ : Cond) ∈ gBIG := gIn 759 rfl rfl
set_option maxRecDepth 20000 in
theorem k_760 : (.code ⟨"BuildGrid$Course", "tally", "(I)V"⟩ prog_4_method_2_code 2 (none : Option FieldType) : Cond) ∈ gBIG := gIn 760 rfl rfl
set_option maxRecDepth 20000 in
theorem k_764 : (.static ⟨"BuildGridLaw", "entry", "(LBuildGrid;II[J)I"⟩ : Cond) ∈ gBIG := gIn 764 rfl rfl
set_option maxRecDepth 20000 in
theorem k_767 : (.instanceMethod ⟨"BuildGrid", "entry", "(II)I"⟩ : Cond) ∈ gBIG := gIn 767 rfl rfl
set_option maxRecDepth 20000 in
theorem k_768 : (.selects "BuildGrid" ⟨"BuildGrid", "entry", "(II)I"⟩ ⟨"BuildGrid", "entry", "(II)I"⟩ : Cond) ∈ gBIG := gIn 768 rfl rfl
set_option maxRecDepth 20000 in
theorem k_769 : (.code ⟨"BuildGrid", "entry", "(II)I"⟩ prog_1_method_11_code 4 (some Jvm.ClassFile.FieldType.int) : Cond) ∈ gBIG := gIn 769 rfl rfl
set_option maxRecDepth 20000 in
theorem k_771 : (.instanceMethod ⟨"BuildGrid$Cache", "entryAt", "(I)LBuildGrid$Entry;"⟩ : Cond) ∈ gBIG := gIn 771 rfl rfl
set_option maxRecDepth 20000 in
theorem k_772 : (.selects "BuildGrid$Cache" ⟨"BuildGrid$Cache", "entryAt", "(I)LBuildGrid$Entry;"⟩ ⟨"BuildGrid$Cache", "entryAt", "(I)LBuildGrid$Entry;"⟩ : Cond) ∈ gBIG := gIn 772 rfl rfl
set_option maxRecDepth 20000 in
theorem k_773 : (.code ⟨"BuildGrid$Cache", "entryAt", "(I)LBuildGrid$Entry;"⟩ prog_3_method_2_code 2 (some (Jvm.ClassFile.FieldType.object "BuildGrid$Entry")) : Cond) ∈ gBIG := gIn 773 rfl rfl
set_option maxRecDepth 20000 in
theorem k_775 : (.static ⟨"java/lang/Math", "floorMod", "(II)I"⟩ : Cond) ∈ gBIG := gIn 775 rfl rfl
set_option maxRecDepth 20000 in
theorem k_776 : (.code ⟨"java/lang/Math", "floorMod", "(II)I"⟩ prog_19_method_50_code 3 (some Jvm.ClassFile.FieldType.int) : Cond) ∈ gBIG := gIn 776 rfl rfl
set_option maxRecDepth 20000 in
theorem k_779 : (.instanceMethod ⟨"BuildGrid$Entry", "tell", "(I)I"⟩ : Cond) ∈ gBIG := gIn 779 rfl rfl
set_option maxRecDepth 20000 in
theorem k_780 : (.selects "BuildGrid$Entry" ⟨"BuildGrid$Entry", "tell", "(I)I"⟩ ⟨"BuildGrid$Entry", "tell", "(I)I"⟩ : Cond) ∈ gBIG := gIn 780 rfl rfl
set_option maxRecDepth 20000 in
theorem k_781 : (.code ⟨"BuildGrid$Entry", "tell", "(I)I"⟩ prog_5_method_6_code 2 (some Jvm.ClassFile.FieldType.int) : Cond) ∈ gBIG := gIn 781 rfl rfl
set_option maxRecDepth 20000 in
theorem k_783 : (.instanceMethod ⟨"BuildGrid$Entry", "isRightlySigned", "()Z"⟩ : Cond) ∈ gBIG := gIn 783 rfl rfl
set_option maxRecDepth 20000 in
theorem k_784 : (.selects "BuildGrid$Entry" ⟨"BuildGrid$Entry", "isRightlySigned", "()Z"⟩ ⟨"BuildGrid$Entry", "isRightlySigned", "()Z"⟩ : Cond) ∈ gBIG := gIn 784 rfl rfl
set_option maxRecDepth 20000 in
theorem k_785 : (.code ⟨"BuildGrid$Entry", "isRightlySigned", "()Z"⟩ prog_5_method_4_code 1 (some Jvm.ClassFile.FieldType.boolean) : Cond) ∈ gBIG := gIn 785 rfl rfl
set_option maxRecDepth 20000 in
theorem k_788 : (.instanceMethod ⟨"BuildGrid$Entry", "rightSignature", "()I"⟩ : Cond) ∈ gBIG := gIn 788 rfl rfl
set_option maxRecDepth 20000 in
theorem k_789 : (.code ⟨"BuildGrid$Entry", "rightSignature", "()I"⟩ prog_5_method_3_code 1 (some Jvm.ClassFile.FieldType.int) : Cond) ∈ gBIG := gIn 789 rfl rfl
set_option maxRecDepth 20000 in
theorem k_791 : (.static ⟨"BuildGrid", "plus", "(II)I"⟩ : Cond) ∈ gBIG := gIn 791 rfl rfl
set_option maxRecDepth 20000 in
theorem k_792 : (.code ⟨"BuildGrid", "plus", "(II)I"⟩ prog_1_method_40_code 2 (some Jvm.ClassFile.FieldType.int) : Cond) ∈ gBIG := gIn 792 rfl rfl
set_option maxRecDepth 20000 in
theorem k_795 : (.static ⟨"BuildGridLaw", "lie", "(LBuildGrid;II)I"⟩ : Cond) ∈ gBIG := gIn 795 rfl rfl
set_option maxRecDepth 20000 in
theorem k_798 : (.instanceMethod ⟨"BuildGrid", "lie", "(II)V"⟩ : Cond) ∈ gBIG := gIn 798 rfl rfl
set_option maxRecDepth 20000 in
theorem k_799 : (.selects "BuildGrid" ⟨"BuildGrid", "lie", "(II)V"⟩ ⟨"BuildGrid", "lie", "(II)V"⟩ : Cond) ∈ gBIG := gIn 799 rfl rfl
set_option maxRecDepth 20000 in
theorem k_800 : (.code ⟨"BuildGrid", "lie", "(II)V"⟩ prog_1_method_12_code 4 (none : Option FieldType) : Cond) ∈ gBIG := gIn 800 rfl rfl
set_option maxRecDepth 20000 in
theorem k_803 : (.static ⟨"BuildGridLaw", "lose", "(LBuildGrid;I[J)I"⟩ : Cond) ∈ gBIG := gIn 803 rfl rfl
set_option maxRecDepth 20000 in
theorem k_806 : (.instanceMethod ⟨"BuildGrid", "lose", "(I)Z"⟩ : Cond) ∈ gBIG := gIn 806 rfl rfl
set_option maxRecDepth 20000 in
theorem k_807 : (.selects "BuildGrid" ⟨"BuildGrid", "lose", "(I)Z"⟩ ⟨"BuildGrid", "lose", "(I)Z"⟩ : Cond) ∈ gBIG := gIn 807 rfl rfl
set_option maxRecDepth 20000 in
theorem k_808 : (.code ⟨"BuildGrid", "lose", "(I)Z"⟩ prog_1_method_13_code 4 (some Jvm.ClassFile.FieldType.boolean) : Cond) ∈ gBIG := gIn 808 rfl rfl
set_option maxRecDepth 20000 in
theorem k_811 : (.static ⟨"BuildGridLaw", "build", "(LBuildGrid;I[J)I"⟩ : Cond) ∈ gBIG := gIn 811 rfl rfl
set_option maxRecDepth 20000 in
theorem k_814 : (.instanceMethod ⟨"BuildGrid", "build", "(I)I"⟩ : Cond) ∈ gBIG := gIn 814 rfl rfl
set_option maxRecDepth 20000 in
theorem k_815 : (.selects "BuildGrid" ⟨"BuildGrid", "build", "(I)I"⟩ ⟨"BuildGrid", "build", "(I)I"⟩ : Cond) ∈ gBIG := gIn 815 rfl rfl
set_option maxRecDepth 20000 in
theorem k_816 : (.code ⟨"BuildGrid", "build", "(I)I"⟩ prog_1_method_14_code 2 (some Jvm.ClassFile.FieldType.int) : Cond) ∈ gBIG := gIn 816 rfl rfl
set_option maxRecDepth 20000 in
theorem k_818 : (.instanceMethod ⟨"BuildGrid$Course", "begin", "(I)I"⟩ : Cond) ∈ gBIG := gIn 818 rfl rfl
set_option maxRecDepth 20000 in
theorem k_819 : (.selects "BuildGrid$Course" ⟨"BuildGrid$Course", "begin", "(I)I"⟩ ⟨"BuildGrid$Course", "begin", "(I)I"⟩ : Cond) ∈ gBIG := gIn 819 rfl rfl
set_option maxRecDepth 20000 in
theorem k_820 : (.code ⟨"BuildGrid$Course", "begin", "(I)I"⟩ prog_4_method_3_code 6 (some Jvm.ClassFile.FieldType.int) : Cond) ∈ gBIG := gIn 820 rfl rfl
set_option maxRecDepth 20000 in
theorem k_822 : (.instanceMethod ⟨"BuildGrid$Graph", "withNeeded", "(I)I"⟩ : Cond) ∈ gBIG := gIn 822 rfl rfl
set_option maxRecDepth 20000 in
theorem k_823 : (.selects "BuildGrid$Graph" ⟨"BuildGrid$Graph", "withNeeded", "(I)I"⟩ ⟨"BuildGrid$Graph", "withNeeded", "(I)I"⟩ : Cond) ∈ gBIG := gIn 823 rfl rfl
set_option maxRecDepth 20000 in
theorem k_824 : (.code ⟨"BuildGrid$Graph", "withNeeded", "(I)I"⟩ prog_7_method_4_code 4 (some Jvm.ClassFile.FieldType.int) : Cond) ∈ gBIG := gIn 824 rfl rfl
set_option maxRecDepth 20000 in
theorem k_826 : (.static ⟨"BuildGrid", "bitOf", "(II)I"⟩ : Cond) ∈ gBIG := gIn 826 rfl rfl
set_option maxRecDepth 20000 in
theorem k_827 : (.code ⟨"BuildGrid", "bitOf", "(II)I"⟩ prog_1_method_36_code 2 (some Jvm.ClassFile.FieldType.int) : Cond) ∈ gBIG := gIn 827 rfl rfl
set_option maxRecDepth 20000 in
theorem k_829 : (.instanceMethod ⟨"BuildGrid$Graph", "inputTargets", "(LBuildGrid$Target;)I"⟩ : Cond) ∈ gBIG := gIn 829 rfl rfl
set_option maxRecDepth 20000 in
theorem k_830 : (.selects "BuildGrid$Graph" ⟨"BuildGrid$Graph", "inputTargets", "(LBuildGrid$Target;)I"⟩ ⟨"BuildGrid$Graph", "inputTargets", "(LBuildGrid$Target;)I"⟩ : Cond) ∈ gBIG := gIn 830 rfl rfl
set_option maxRecDepth 20000 in
theorem k_831 : (.code ⟨"BuildGrid$Graph", "inputTargets", "(LBuildGrid$Target;)I"⟩ prog_7_method_5_code 5 (some Jvm.ClassFile.FieldType.int) : Cond) ∈ gBIG := gIn 831 rfl rfl
set_option maxRecDepth 20000 in
theorem k_833 : (.instanceMethod ⟨"BuildGrid$Inputs", "chosen", "(I)I"⟩ : Cond) ∈ gBIG := gIn 833 rfl rfl
set_option maxRecDepth 20000 in
theorem k_834 : (.selects "BuildGrid$Inputs" ⟨"BuildGrid$Inputs", "chosen", "(I)I"⟩ ⟨"BuildGrid$Inputs", "chosen", "(I)I"⟩ : Cond) ∈ gBIG := gIn 834 rfl rfl
set_option maxRecDepth 20000 in
theorem k_835 : (.code ⟨"BuildGrid$Inputs", "chosen", "(I)I"⟩ prog_8_method_4_code 4 (some Jvm.ClassFile.FieldType.int) : Cond) ∈ gBIG := gIn 835 rfl rfl
set_option maxRecDepth 20000 in
theorem k_840 : (.instanceMethod ⟨"BuildGrid$Target", "startOver", "(Z)V"⟩ : Cond) ∈ gBIG := gIn 840 rfl rfl
set_option maxRecDepth 20000 in
theorem k_841 : (.selects "BuildGrid$Target" ⟨"BuildGrid$Target", "startOver", "(Z)V"⟩ ⟨"BuildGrid$Target", "startOver", "(Z)V"⟩ : Cond) ∈ gBIG := gIn 841 rfl rfl
set_option maxRecDepth 20000 in
theorem k_842 : (.code ⟨"BuildGrid$Target", "startOver", "(Z)V"⟩ prog_10_method_3_code 4 (none : Option FieldType) : Cond) ∈ gBIG := gIn 842 rfl rfl
set_option maxRecDepth 20000 in
theorem k_844 : (.instanceMethod ⟨"BuildGrid$Target", "actionAt", "(I)LBuildGrid$Action;"⟩ : Cond) ∈ gBIG := gIn 844 rfl rfl
set_option maxRecDepth 20000 in
theorem k_845 : (.selects "BuildGrid$Target" ⟨"BuildGrid$Target", "actionAt", "(I)LBuildGrid$Action;"⟩ ⟨"BuildGrid$Target", "actionAt", "(I)LBuildGrid$Action;"⟩ : Cond) ∈ gBIG := gIn 845 rfl rfl
set_option maxRecDepth 20000 in
theorem k_846 : (.code ⟨"BuildGrid$Target", "actionAt", "(I)LBuildGrid$Action;"⟩ prog_10_method_4_code 2 (some (Jvm.ClassFile.FieldType.object "BuildGrid$Action")) : Cond) ∈ gBIG := gIn 846 rfl rfl
set_option maxRecDepth 20000 in
theorem k_848 : (.instanceMethod ⟨"BuildGrid$Action", "open", "()V"⟩ : Cond) ∈ gBIG := gIn 848 rfl rfl
set_option maxRecDepth 20000 in
theorem k_849 : (.selects "BuildGrid$Action" ⟨"BuildGrid$Action", "open", "()V"⟩ ⟨"BuildGrid$Action", "open", "()V"⟩ : Cond) ∈ gBIG := gIn 849 rfl rfl
set_option maxRecDepth 20000 in
theorem k_850 : (.code ⟨"BuildGrid$Action", "open", "()V"⟩ prog_2_method_2_code 1 (none : Option FieldType) : Cond) ∈ gBIG := gIn 850 rfl rfl
set_option maxRecDepth 20000 in
theorem k_853 : (.instanceMethod ⟨"BuildGrid$Course", "settle", "()V"⟩ : Cond) ∈ gBIG := gIn 853 rfl rfl
set_option maxRecDepth 20000 in
theorem k_854 : (.code ⟨"BuildGrid$Course", "settle", "()V"⟩ prog_4_method_19_code 7 (none : Option FieldType) : Cond) ∈ gBIG := gIn 854 rfl rfl
set_option maxRecDepth 20000 in
theorem k_857 : (.instanceMethod ⟨"BuildGrid$Course", "leaveOpen", "(LBuildGrid$Target;LBuildGrid$Action;)V"⟩ : Cond) ∈ gBIG := gIn 857 rfl rfl
set_option maxRecDepth 20000 in
theorem k_858 : (.code ⟨"BuildGrid$Course", "leaveOpen", "(LBuildGrid$Target;LBuildGrid$Action;)V"⟩ prog_4_method_20_code 7 (none : Option FieldType) : Cond) ∈ gBIG := gIn 858 rfl rfl
set_option maxRecDepth 20000 in
theorem k_860 : (.instanceMethod ⟨"BuildGrid$Graph", "stateOfInputs", "(LBuildGrid$Target;)I"⟩ : Cond) ∈ gBIG := gIn 860 rfl rfl
set_option maxRecDepth 20000 in
theorem k_861 : (.selects "BuildGrid$Graph" ⟨"BuildGrid$Graph", "stateOfInputs", "(LBuildGrid$Target;)I"⟩ ⟨"BuildGrid$Graph", "stateOfInputs", "(LBuildGrid$Target;)I"⟩ : Cond) ∈ gBIG := gIn 861 rfl rfl
set_option maxRecDepth 20000 in
theorem k_862 : (.code ⟨"BuildGrid$Graph", "stateOfInputs", "(LBuildGrid$Target;)I"⟩ prog_7_method_16_code 9 (some Jvm.ClassFile.FieldType.int) : Cond) ∈ gBIG := gIn 862 rfl rfl
set_option maxRecDepth 20000 in
theorem k_864 : (.instanceMethod ⟨"BuildGrid$Action", "isUnfinished", "()Z"⟩ : Cond) ∈ gBIG := gIn 864 rfl rfl
set_option maxRecDepth 20000 in
theorem k_865 : (.selects "BuildGrid$Action" ⟨"BuildGrid$Action", "isUnfinished", "()Z"⟩ ⟨"BuildGrid$Action", "isUnfinished", "()Z"⟩ : Cond) ∈ gBIG := gIn 865 rfl rfl
set_option maxRecDepth 20000 in
theorem k_866 : (.code ⟨"BuildGrid$Action", "isUnfinished", "()Z"⟩ prog_2_method_4_code 1 (some Jvm.ClassFile.FieldType.boolean) : Cond) ∈ gBIG := gIn 866 rfl rfl
set_option maxRecDepth 20000 in
theorem k_868 : (.instanceMethod ⟨"BuildGrid$View", "keyOf", "(LBuildGrid$Target;I)I"⟩ : Cond) ∈ gBIG := gIn 868 rfl rfl
set_option maxRecDepth 20000 in
theorem k_869 : (.selects "BuildGrid$View" ⟨"BuildGrid$View", "keyOf", "(LBuildGrid$Target;I)I"⟩ ⟨"BuildGrid$View", "keyOf", "(LBuildGrid$Target;I)I"⟩ : Cond) ∈ gBIG := gIn 869 rfl rfl
set_option maxRecDepth 20000 in
theorem k_870 : (.code ⟨"BuildGrid$View", "keyOf", "(LBuildGrid$Target;I)I"⟩ prog_11_method_2_code 6 (some Jvm.ClassFile.FieldType.int) : Cond) ∈ gBIG := gIn 870 rfl rfl
set_option maxRecDepth 20000 in
theorem k_876 : (.instanceMethod ⟨"BuildGrid$Target", "breaksOut", "(I)Z"⟩ : Cond) ∈ gBIG := gIn 876 rfl rfl
set_option maxRecDepth 20000 in
theorem k_877 : (.selects "BuildGrid$Target" ⟨"BuildGrid$Target", "breaksOut", "(I)Z"⟩ ⟨"BuildGrid$Target", "breaksOut", "(I)Z"⟩ : Cond) ∈ gBIG := gIn 877 rfl rfl
set_option maxRecDepth 20000 in
theorem k_878 : (.code ⟨"BuildGrid$Target", "breaksOut", "(I)Z"⟩ prog_10_method_7_code 2 (some Jvm.ClassFile.FieldType.boolean) : Cond) ∈ gBIG := gIn 878 rfl rfl
set_option maxRecDepth 20000 in
theorem k_881 : (.instanceMethod ⟨"BuildGrid$View", "contentFound", "(LBuildGrid$Target;I)I"⟩ : Cond) ∈ gBIG := gIn 881 rfl rfl
set_option maxRecDepth 20000 in
theorem k_882 : (.selects "BuildGrid$View" ⟨"BuildGrid$View", "contentFound", "(LBuildGrid$Target;I)I"⟩ ⟨"BuildGrid$View", "contentFound", "(LBuildGrid$Target;I)I"⟩ : Cond) ∈ gBIG := gIn 882 rfl rfl
set_option maxRecDepth 20000 in
theorem k_883 : (.code ⟨"BuildGrid$View", "contentFound", "(LBuildGrid$Target;I)I"⟩ prog_11_method_3_code 3 (some Jvm.ClassFile.FieldType.int) : Cond) ∈ gBIG := gIn 883 rfl rfl
set_option maxRecDepth 20000 in
theorem k_885 : (.instanceMethod ⟨"BuildGrid$Target", "fileFound", "(I)I"⟩ : Cond) ∈ gBIG := gIn 885 rfl rfl
set_option maxRecDepth 20000 in
theorem k_886 : (.selects "BuildGrid$Target" ⟨"BuildGrid$Target", "fileFound", "(I)I"⟩ ⟨"BuildGrid$Target", "fileFound", "(I)I"⟩ : Cond) ∈ gBIG := gIn 886 rfl rfl
set_option maxRecDepth 20000 in
theorem k_887 : (.code ⟨"BuildGrid$Target", "fileFound", "(I)I"⟩ prog_10_method_6_code 2 (some Jvm.ClassFile.FieldType.int) : Cond) ∈ gBIG := gIn 887 rfl rfl
set_option maxRecDepth 20000 in
theorem k_890 : (.instanceMethod ⟨"BuildGrid$Cache", "firstFit", "(IIIZ)LBuildGrid$Entry;"⟩ : Cond) ∈ gBIG := gIn 890 rfl rfl
set_option maxRecDepth 20000 in
theorem k_891 : (.selects "BuildGrid$Cache" ⟨"BuildGrid$Cache", "firstFit", "(IIIZ)LBuildGrid$Entry;"⟩ ⟨"BuildGrid$Cache", "firstFit", "(IIIZ)LBuildGrid$Entry;"⟩ : Cond) ∈ gBIG := gIn 891 rfl rfl
set_option maxRecDepth 20000 in
theorem k_892 : (.code ⟨"BuildGrid$Cache", "firstFit", "(IIIZ)LBuildGrid$Entry;"⟩ prog_3_method_5_code 7 (some (Jvm.ClassFile.FieldType.object "BuildGrid$Entry")) : Cond) ∈ gBIG := gIn 892 rfl rfl
set_option maxRecDepth 20000 in
theorem k_895 : (.instanceMethod ⟨"BuildGrid$Entry", "isOf", "(III)Z"⟩ : Cond) ∈ gBIG := gIn 895 rfl rfl
set_option maxRecDepth 20000 in
theorem k_896 : (.selects "BuildGrid$Entry" ⟨"BuildGrid$Entry", "isOf", "(III)Z"⟩ ⟨"BuildGrid$Entry", "isOf", "(III)Z"⟩ : Cond) ∈ gBIG := gIn 896 rfl rfl
set_option maxRecDepth 20000 in
theorem k_897 : (.code ⟨"BuildGrid$Entry", "isOf", "(III)Z"⟩ prog_5_method_5_code 4 (some Jvm.ClassFile.FieldType.boolean) : Cond) ∈ gBIG := gIn 897 rfl rfl
set_option maxRecDepth 20000 in
theorem k_901 : (.instanceMethod ⟨"BuildGrid$Course", "finish", "(LBuildGrid$Target;LBuildGrid$Action;II)V"⟩ : Cond) ∈ gBIG := gIn 901 rfl rfl
set_option maxRecDepth 20000 in
theorem k_902 : (.code ⟨"BuildGrid$Course", "finish", "(LBuildGrid$Target;LBuildGrid$Action;II)V"⟩ prog_4_method_18_code 5 (none : Option FieldType) : Cond) ∈ gBIG := gIn 902 rfl rfl
set_option maxRecDepth 20000 in
theorem k_904 : (.instanceMethod ⟨"BuildGrid$Action", "finish", "(II)V"⟩ : Cond) ∈ gBIG := gIn 904 rfl rfl
set_option maxRecDepth 20000 in
theorem k_905 : (.selects "BuildGrid$Action" ⟨"BuildGrid$Action", "finish", "(II)V"⟩ ⟨"BuildGrid$Action", "finish", "(II)V"⟩ : Cond) ∈ gBIG := gIn 905 rfl rfl
set_option maxRecDepth 20000 in
theorem k_906 : (.code ⟨"BuildGrid$Action", "finish", "(II)V"⟩ prog_2_method_3_code 3 (none : Option FieldType) : Cond) ∈ gBIG := gIn 906 rfl rfl
set_option maxRecDepth 20000 in
theorem k_908 : (.instanceMethod ⟨"BuildGrid$Target", "digestOfResults", "()I"⟩ : Cond) ∈ gBIG := gIn 908 rfl rfl
set_option maxRecDepth 20000 in
theorem k_909 : (.selects "BuildGrid$Target" ⟨"BuildGrid$Target", "digestOfResults", "()I"⟩ ⟨"BuildGrid$Target", "digestOfResults", "()I"⟩ : Cond) ∈ gBIG := gIn 909 rfl rfl
set_option maxRecDepth 20000 in
theorem k_910 : (.code ⟨"BuildGrid$Target", "digestOfResults", "()I"⟩ prog_10_method_12_code 3 (some Jvm.ClassFile.FieldType.int) : Cond) ∈ gBIG := gIn 910 rfl rfl
set_option maxRecDepth 20000 in
theorem k_914 : (.static ⟨"BuildGridLaw", "pass", "(LBuildGrid;I[J)I"⟩ : Cond) ∈ gBIG := gIn 914 rfl rfl
set_option maxRecDepth 20000 in
theorem k_917 : (.instanceMethod ⟨"BuildGrid", "pass", "(I)I"⟩ : Cond) ∈ gBIG := gIn 917 rfl rfl
set_option maxRecDepth 20000 in
theorem k_918 : (.selects "BuildGrid" ⟨"BuildGrid", "pass", "(I)I"⟩ ⟨"BuildGrid", "pass", "(I)I"⟩ : Cond) ∈ gBIG := gIn 918 rfl rfl
set_option maxRecDepth 20000 in
theorem k_919 : (.code ⟨"BuildGrid", "pass", "(I)I"⟩ prog_1_method_15_code 3 (some Jvm.ClassFile.FieldType.int) : Cond) ∈ gBIG := gIn 919 rfl rfl
set_option maxRecDepth 20000 in
theorem k_921 : (.instanceMethod ⟨"BuildGrid$Course", "passTick", "()V"⟩ : Cond) ∈ gBIG := gIn 921 rfl rfl
set_option maxRecDepth 20000 in
theorem k_922 : (.selects "BuildGrid$Course" ⟨"BuildGrid$Course", "passTick", "()V"⟩ ⟨"BuildGrid$Course", "passTick", "()V"⟩ : Cond) ∈ gBIG := gIn 922 rfl rfl
set_option maxRecDepth 20000 in
theorem k_923 : (.code ⟨"BuildGrid$Course", "passTick", "()V"⟩ prog_4_method_11_code 6 (none : Option FieldType) : Cond) ∈ gBIG := gIn 923 rfl rfl
set_option maxRecDepth 20000 in
theorem k_926 : (.instanceMethod ⟨"BuildGrid$Course", "beginReady", "()V"⟩ : Cond) ∈ gBIG := gIn 926 rfl rfl
set_option maxRecDepth 20000 in
theorem k_927 : (.code ⟨"BuildGrid$Course", "beginReady", "()V"⟩ prog_4_method_12_code 4 (none : Option FieldType) : Cond) ∈ gBIG := gIn 927 rfl rfl
set_option maxRecDepth 20000 in
theorem k_929 : (.instanceMethod ⟨"BuildGrid$Graph", "findWays", "(I)V"⟩ : Cond) ∈ gBIG := gIn 929 rfl rfl
set_option maxRecDepth 20000 in
theorem k_930 : (.selects "BuildGrid$Graph" ⟨"BuildGrid$Graph", "findWays", "(I)V"⟩ ⟨"BuildGrid$Graph", "findWays", "(I)V"⟩ : Cond) ∈ gBIG := gIn 930 rfl rfl
set_option maxRecDepth 20000 in
theorem k_931 : (.code ⟨"BuildGrid$Graph", "findWays", "(I)V"⟩ prog_7_method_10_code 4 (none : Option FieldType) : Cond) ∈ gBIG := gIn 931 rfl rfl
set_option maxRecDepth 20000 in
theorem k_934 : (.instanceMethod ⟨"BuildGrid$Graph", "spreadWay", "(LBuildGrid$Target;)V"⟩ : Cond) ∈ gBIG := gIn 934 rfl rfl
set_option maxRecDepth 20000 in
theorem k_935 : (.code ⟨"BuildGrid$Graph", "spreadWay", "(LBuildGrid$Target;)V"⟩ prog_7_method_11_code 4 (none : Option FieldType) : Cond) ∈ gBIG := gIn 935 rfl rfl
set_option maxRecDepth 20000 in
theorem k_937 : (.static ⟨"java/lang/Math", "max", "(II)I"⟩ : Cond) ∈ gBIG := gIn 937 rfl rfl
set_option maxRecDepth 20000 in
theorem k_938 : (.code ⟨"java/lang/Math", "max", "(II)I"⟩ prog_19_method_65_code 2 (some Jvm.ClassFile.FieldType.int) : Cond) ∈ gBIG := gIn 938 rfl rfl
set_option maxRecDepth 20000 in
theorem k_941 : (.instanceMethod ⟨"BuildGrid$Course", "strongestIdle", "()LBuildGrid$Worker;"⟩ : Cond) ∈ gBIG := gIn 941 rfl rfl
set_option maxRecDepth 20000 in
theorem k_942 : (.code ⟨"BuildGrid$Course", "strongestIdle", "()LBuildGrid$Worker;"⟩ prog_4_method_9_code 6 (some (Jvm.ClassFile.FieldType.object "BuildGrid$Worker")) : Cond) ∈ gBIG := gIn 942 rfl rfl
set_option maxRecDepth 20000 in
theorem k_944 : (.instanceMethod ⟨"BuildGrid$Worker", "isIdle", "()Z"⟩ : Cond) ∈ gBIG := gIn 944 rfl rfl
set_option maxRecDepth 20000 in
theorem k_945 : (.selects "BuildGrid$Worker" ⟨"BuildGrid$Worker", "isIdle", "()Z"⟩ ⟨"BuildGrid$Worker", "isIdle", "()Z"⟩ : Cond) ∈ gBIG := gIn 945 rfl rfl
set_option maxRecDepth 20000 in
theorem k_946 : (.code ⟨"BuildGrid$Worker", "isIdle", "()Z"⟩ prog_12_method_2_code 1 (some Jvm.ClassFile.FieldType.boolean) : Cond) ∈ gBIG := gIn 946 rfl rfl
set_option maxRecDepth 20000 in
theorem k_949 : (.instanceMethod ⟨"BuildGrid$Course", "longestReady", "()LBuildGrid$Action;"⟩ : Cond) ∈ gBIG := gIn 949 rfl rfl
set_option maxRecDepth 20000 in
theorem k_950 : (.code ⟨"BuildGrid$Course", "longestReady", "()LBuildGrid$Action;"⟩ prog_4_method_13_code 6 (some (Jvm.ClassFile.FieldType.object "BuildGrid$Action")) : Cond) ∈ gBIG := gIn 950 rfl rfl
set_option maxRecDepth 20000 in
theorem k_952 : (.instanceMethod ⟨"BuildGrid$Target", "firstReady", "()LBuildGrid$Action;"⟩ : Cond) ∈ gBIG := gIn 952 rfl rfl
set_option maxRecDepth 20000 in
theorem k_953 : (.selects "BuildGrid$Target" ⟨"BuildGrid$Target", "firstReady", "()LBuildGrid$Action;"⟩ ⟨"BuildGrid$Target", "firstReady", "()LBuildGrid$Action;"⟩ : Cond) ∈ gBIG := gIn 953 rfl rfl
set_option maxRecDepth 20000 in
theorem k_954 : (.code ⟨"BuildGrid$Target", "firstReady", "()LBuildGrid$Action;"⟩ prog_10_method_15_code 3 (some (Jvm.ClassFile.FieldType.object "BuildGrid$Action")) : Cond) ∈ gBIG := gIn 954 rfl rfl
set_option maxRecDepth 20000 in
theorem k_957 : (.instanceMethod ⟨"BuildGrid$Course", "start", "(LBuildGrid$Worker;LBuildGrid$Action;)V"⟩ : Cond) ∈ gBIG := gIn 957 rfl rfl
set_option maxRecDepth 20000 in
theorem k_958 : (.code ⟨"BuildGrid$Course", "start", "(LBuildGrid$Worker;LBuildGrid$Action;)V"⟩ prog_4_method_14_code 5 (none : Option FieldType) : Cond) ∈ gBIG := gIn 958 rfl rfl
set_option maxRecDepth 20000 in
theorem k_960 : (.instanceMethod ⟨"BuildGrid$Worker", "start", "(LBuildGrid$Action;LBuildGrid$Target;II)V"⟩ : Cond) ∈ gBIG := gIn 960 rfl rfl
set_option maxRecDepth 20000 in
theorem k_961 : (.selects "BuildGrid$Worker" ⟨"BuildGrid$Worker", "start", "(LBuildGrid$Action;LBuildGrid$Target;II)V"⟩ ⟨"BuildGrid$Worker", "start", "(LBuildGrid$Action;LBuildGrid$Target;II)V"⟩ : Cond) ∈ gBIG := gIn 961 rfl rfl
set_option maxRecDepth 20000 in
theorem k_962 : (.code ⟨"BuildGrid$Worker", "start", "(LBuildGrid$Action;LBuildGrid$Target;II)V"⟩ prog_12_method_4_code 5 (none : Option FieldType) : Cond) ∈ gBIG := gIn 962 rfl rfl
set_option maxRecDepth 20000 in
theorem k_965 : (.instanceMethod ⟨"BuildGrid$Worker", "ticksFor", "(LBuildGrid$Target;)I"⟩ : Cond) ∈ gBIG := gIn 965 rfl rfl
set_option maxRecDepth 20000 in
theorem k_966 : (.code ⟨"BuildGrid$Worker", "ticksFor", "(LBuildGrid$Target;)I"⟩ prog_12_method_5_code 3 (some Jvm.ClassFile.FieldType.int) : Cond) ∈ gBIG := gIn 966 rfl rfl
set_option maxRecDepth 20000 in
theorem k_968 : (.instanceMethod ⟨"BuildGrid$Target", "work", "()I"⟩ : Cond) ∈ gBIG := gIn 968 rfl rfl
set_option maxRecDepth 20000 in
theorem k_969 : (.selects "BuildGrid$Target" ⟨"BuildGrid$Target", "work", "()I"⟩ ⟨"BuildGrid$Target", "work", "()I"⟩ : Cond) ∈ gBIG := gIn 969 rfl rfl
set_option maxRecDepth 20000 in
theorem k_970 : (.code ⟨"BuildGrid$Target", "work", "()I"⟩ prog_10_method_5_code 1 (some Jvm.ClassFile.FieldType.int) : Cond) ∈ gBIG := gIn 970 rfl rfl
set_option maxRecDepth 20000 in
theorem k_974 : (.instanceMethod ⟨"BuildGrid$Course", "speculate", "()V"⟩ : Cond) ∈ gBIG := gIn 974 rfl rfl
set_option maxRecDepth 20000 in
theorem k_975 : (.code ⟨"BuildGrid$Course", "speculate", "()V"⟩ prog_4_method_15_code 2 (none : Option FieldType) : Cond) ∈ gBIG := gIn 975 rfl rfl
set_option maxRecDepth 20000 in
theorem k_978 : (.instanceMethod ⟨"BuildGrid$Course", "longestBusy", "()LBuildGrid$Worker;"⟩ : Cond) ∈ gBIG := gIn 978 rfl rfl
set_option maxRecDepth 20000 in
theorem k_979 : (.code ⟨"BuildGrid$Course", "longestBusy", "()LBuildGrid$Worker;"⟩ prog_4_method_10_code 6 (some (Jvm.ClassFile.FieldType.object "BuildGrid$Worker")) : Cond) ∈ gBIG := gIn 979 rfl rfl
set_option maxRecDepth 20000 in
theorem k_981 : (.instanceMethod ⟨"BuildGrid$Worker", "spendTick", "()V"⟩ : Cond) ∈ gBIG := gIn 981 rfl rfl
set_option maxRecDepth 20000 in
theorem k_982 : (.selects "BuildGrid$Worker" ⟨"BuildGrid$Worker", "spendTick", "()V"⟩ ⟨"BuildGrid$Worker", "spendTick", "()V"⟩ : Cond) ∈ gBIG := gIn 982 rfl rfl
set_option maxRecDepth 20000 in
theorem k_983 : (.code ⟨"BuildGrid$Worker", "spendTick", "()V"⟩ prog_12_method_6_code 1 (none : Option FieldType) : Cond) ∈ gBIG := gIn 983 rfl rfl
set_option maxRecDepth 20000 in
theorem k_985 : (.instanceMethod ⟨"BuildGrid$Worker", "hasEnded", "()Z"⟩ : Cond) ∈ gBIG := gIn 985 rfl rfl
set_option maxRecDepth 20000 in
theorem k_986 : (.selects "BuildGrid$Worker" ⟨"BuildGrid$Worker", "hasEnded", "()Z"⟩ ⟨"BuildGrid$Worker", "hasEnded", "()Z"⟩ : Cond) ∈ gBIG := gIn 986 rfl rfl
set_option maxRecDepth 20000 in
theorem k_987 : (.code ⟨"BuildGrid$Worker", "hasEnded", "()Z"⟩ prog_12_method_3_code 1 (some Jvm.ClassFile.FieldType.boolean) : Cond) ∈ gBIG := gIn 987 rfl rfl
set_option maxRecDepth 20000 in
theorem k_990 : (.instanceMethod ⟨"BuildGrid$Course", "end", "(LBuildGrid$Worker;)V"⟩ : Cond) ∈ gBIG := gIn 990 rfl rfl
set_option maxRecDepth 20000 in
theorem k_991 : (.code ⟨"BuildGrid$Course", "end", "(LBuildGrid$Worker;)V"⟩ prog_4_method_16_code 5 (none : Option FieldType) : Cond) ∈ gBIG := gIn 991 rfl rfl
set_option maxRecDepth 20000 in
theorem k_994 : (.instanceMethod ⟨"BuildGrid$Course", "dismissFrom", "(LBuildGrid$Action;)V"⟩ : Cond) ∈ gBIG := gIn 994 rfl rfl
set_option maxRecDepth 20000 in
theorem k_995 : (.code ⟨"BuildGrid$Course", "dismissFrom", "(LBuildGrid$Action;)V"⟩ prog_4_method_8_code 6 (none : Option FieldType) : Cond) ∈ gBIG := gIn 995 rfl rfl
set_option maxRecDepth 20000 in
theorem k_997 : (.instanceMethod ⟨"BuildGrid$Worker", "beganWith", "(II)Z"⟩ : Cond) ∈ gBIG := gIn 997 rfl rfl
set_option maxRecDepth 20000 in
theorem k_998 : (.selects "BuildGrid$Worker" ⟨"BuildGrid$Worker", "beganWith", "(II)Z"⟩ ⟨"BuildGrid$Worker", "beganWith", "(II)Z"⟩ : Cond) ∈ gBIG := gIn 998 rfl rfl
set_option maxRecDepth 20000 in
theorem k_999 : (.code ⟨"BuildGrid$Worker", "beganWith", "(II)Z"⟩ prog_12_method_8_code 3 (some Jvm.ClassFile.FieldType.boolean) : Cond) ∈ gBIG := gIn 999 rfl rfl
set_option maxRecDepth 20000 in
theorem k_1003 : (.instanceMethod ⟨"BuildGrid$Course", "judge", "(LBuildGrid$Target;LBuildGrid$Action;LBuildGrid$Worker;)V"⟩ : Cond) ∈ gBIG := gIn 1003 rfl rfl
set_option maxRecDepth 20000 in
theorem k_1004 : (.code ⟨"BuildGrid$Course", "judge", "(LBuildGrid$Target;LBuildGrid$Action;LBuildGrid$Worker;)V"⟩ prog_4_method_17_code 7 (none : Option FieldType) : Cond) ∈ gBIG := gIn 1004 rfl rfl
set_option maxRecDepth 20000 in
theorem k_1006 : (.instanceMethod ⟨"BuildGrid$Worker", "resultMade", "()I"⟩ : Cond) ∈ gBIG := gIn 1006 rfl rfl
set_option maxRecDepth 20000 in
theorem k_1007 : (.selects "BuildGrid$Worker" ⟨"BuildGrid$Worker", "resultMade", "()I"⟩ ⟨"BuildGrid$Worker", "resultMade", "()I"⟩ : Cond) ∈ gBIG := gIn 1007 rfl rfl
set_option maxRecDepth 20000 in
theorem k_1008 : (.code ⟨"BuildGrid$Worker", "resultMade", "()I"⟩ prog_12_method_7_code 1 (some Jvm.ClassFile.FieldType.int) : Cond) ∈ gBIG := gIn 1008 rfl rfl
set_option maxRecDepth 20000 in
theorem k_1010 : (.static ⟨"BuildGrid", "resultOf", "(II)I"⟩ : Cond) ∈ gBIG := gIn 1010 rfl rfl
set_option maxRecDepth 20000 in
theorem k_1011 : (.code ⟨"BuildGrid", "resultOf", "(II)I"⟩ prog_1_method_41_code 2 (some Jvm.ClassFile.FieldType.int) : Cond) ∈ gBIG := gIn 1011 rfl rfl
set_option maxRecDepth 20000 in
theorem k_1014 : (.instanceMethod ⟨"BuildGrid$Target", "failsAt", "(II)Z"⟩ : Cond) ∈ gBIG := gIn 1014 rfl rfl
set_option maxRecDepth 20000 in
theorem k_1015 : (.selects "BuildGrid$Target" ⟨"BuildGrid$Target", "failsAt", "(II)Z"⟩ ⟨"BuildGrid$Target", "failsAt", "(II)Z"⟩ : Cond) ∈ gBIG := gIn 1015 rfl rfl
set_option maxRecDepth 20000 in
theorem k_1016 : (.code ⟨"BuildGrid$Target", "failsAt", "(II)Z"⟩ prog_10_method_9_code 3 (some Jvm.ClassFile.FieldType.boolean) : Cond) ∈ gBIG := gIn 1016 rfl rfl
set_option maxRecDepth 20000 in
theorem k_1018 : (.instanceMethod ⟨"BuildGrid$Target", "isGoodResult", "(I)Z"⟩ : Cond) ∈ gBIG := gIn 1018 rfl rfl
set_option maxRecDepth 20000 in
theorem k_1019 : (.selects "BuildGrid$Target" ⟨"BuildGrid$Target", "isGoodResult", "(I)Z"⟩ ⟨"BuildGrid$Target", "isGoodResult", "(I)Z"⟩ : Cond) ∈ gBIG := gIn 1019 rfl rfl
set_option maxRecDepth 20000 in
theorem k_1020 : (.code ⟨"BuildGrid$Target", "isGoodResult", "(I)Z"⟩ prog_10_method_8_code 2 (some Jvm.ClassFile.FieldType.boolean) : Cond) ∈ gBIG := gIn 1020 rfl rfl
set_option maxRecDepth 20000 in
theorem k_1022 : (.instanceMethod ⟨"BuildGrid$Target", "isInQuarantine", "()Z"⟩ : Cond) ∈ gBIG := gIn 1022 rfl rfl
set_option maxRecDepth 20000 in
theorem k_1023 : (.selects "BuildGrid$Target" ⟨"BuildGrid$Target", "isInQuarantine", "()Z"⟩ ⟨"BuildGrid$Target", "isInQuarantine", "()Z"⟩ : Cond) ∈ gBIG := gIn 1023 rfl rfl
set_option maxRecDepth 20000 in
theorem k_1024 : (.code ⟨"BuildGrid$Target", "isInQuarantine", "()Z"⟩ prog_10_method_11_code 1 (some Jvm.ClassFile.FieldType.boolean) : Cond) ∈ gBIG := gIn 1024 rfl rfl
set_option maxRecDepth 20000 in
theorem k_1026 : (.instanceMethod ⟨"BuildGrid$Target", "noteFlakeIn", "(I)V"⟩ : Cond) ∈ gBIG := gIn 1026 rfl rfl
set_option maxRecDepth 20000 in
theorem k_1027 : (.selects "BuildGrid$Target" ⟨"BuildGrid$Target", "noteFlakeIn", "(I)V"⟩ ⟨"BuildGrid$Target", "noteFlakeIn", "(I)V"⟩ : Cond) ∈ gBIG := gIn 1027 rfl rfl
set_option maxRecDepth 20000 in
theorem k_1028 : (.code ⟨"BuildGrid$Target", "noteFlakeIn", "(I)V"⟩ prog_10_method_10_code 2 (none : Option FieldType) : Cond) ∈ gBIG := gIn 1028 rfl rfl
set_option maxRecDepth 20000 in
theorem k_1030 : (.instanceMethod ⟨"BuildGrid$Cache", "keep", "(IIIII)V"⟩ : Cond) ∈ gBIG := gIn 1030 rfl rfl
set_option maxRecDepth 20000 in
theorem k_1031 : (.selects "BuildGrid$Cache" ⟨"BuildGrid$Cache", "keep", "(IIIII)V"⟩ ⟨"BuildGrid$Cache", "keep", "(IIIII)V"⟩ : Cond) ∈ gBIG := gIn 1031 rfl rfl
set_option maxRecDepth 20000 in
theorem k_1032 : (.code ⟨"BuildGrid$Cache", "keep", "(IIIII)V"⟩ prog_3_method_3_code 7 (none : Option FieldType) : Cond) ∈ gBIG := gIn 1032 rfl rfl
set_option maxRecDepth 20000 in
theorem k_1035 : (.instanceMethod ⟨"BuildGrid$Cache", "hasAlike", "(IIIII)Z"⟩ : Cond) ∈ gBIG := gIn 1035 rfl rfl
set_option maxRecDepth 20000 in
theorem k_1036 : (.code ⟨"BuildGrid$Cache", "hasAlike", "(IIIII)Z"⟩ prog_3_method_4_code 8 (some Jvm.ClassFile.FieldType.boolean) : Cond) ∈ gBIG := gIn 1036 rfl rfl
set_option maxRecDepth 20000 in
theorem k_1038 : (.instanceMethod ⟨"BuildGrid$Entry", "fill", "(IIIII)V"⟩ : Cond) ∈ gBIG := gIn 1038 rfl rfl
set_option maxRecDepth 20000 in
theorem k_1039 : (.selects "BuildGrid$Entry" ⟨"BuildGrid$Entry", "fill", "(IIIII)V"⟩ ⟨"BuildGrid$Entry", "fill", "(IIIII)V"⟩ : Cond) ∈ gBIG := gIn 1039 rfl rfl
set_option maxRecDepth 20000 in
theorem k_1040 : (.code ⟨"BuildGrid$Entry", "fill", "(IIIII)V"⟩ prog_5_method_2_code 6 (none : Option FieldType) : Cond) ∈ gBIG := gIn 1040 rfl rfl
set_option maxRecDepth 20000 in
theorem k_1042 : (.static ⟨"BuildGridLaw", "state", "(LBuildGrid;II[J)I"⟩ : Cond) ∈ gBIG := gIn 1042 rfl rfl
set_option maxRecDepth 20000 in
theorem k_1045 : (.instanceMethod ⟨"BuildGrid", "state", "(II)I"⟩ : Cond) ∈ gBIG := gIn 1045 rfl rfl
set_option maxRecDepth 20000 in
theorem k_1046 : (.selects "BuildGrid" ⟨"BuildGrid", "state", "(II)I"⟩ ⟨"BuildGrid", "state", "(II)I"⟩ : Cond) ∈ gBIG := gIn 1046 rfl rfl
set_option maxRecDepth 20000 in
theorem k_1047 : (.code ⟨"BuildGrid", "state", "(II)I"⟩ prog_1_method_17_code 3 (some Jvm.ClassFile.FieldType.int) : Cond) ∈ gBIG := gIn 1047 rfl rfl
set_option maxRecDepth 20000 in
theorem k_1050 : (.instanceMethod ⟨"BuildGrid", "checkedAction", "(II)LBuildGrid$Action;"⟩ : Cond) ∈ gBIG := gIn 1050 rfl rfl
set_option maxRecDepth 20000 in
theorem k_1051 : (.code ⟨"BuildGrid", "checkedAction", "(II)LBuildGrid$Action;"⟩ prog_1_method_32_code 4 (some (Jvm.ClassFile.FieldType.object "BuildGrid$Action")) : Cond) ∈ gBIG := gIn 1051 rfl rfl
set_option maxRecDepth 20000 in
theorem k_1054 : (.static ⟨"BuildGridLaw", "result", "(LBuildGrid;II[J)I"⟩ : Cond) ∈ gBIG := gIn 1054 rfl rfl
set_option maxRecDepth 20000 in
theorem k_1057 : (.instanceMethod ⟨"BuildGrid", "result", "(II)I"⟩ : Cond) ∈ gBIG := gIn 1057 rfl rfl
set_option maxRecDepth 20000 in
theorem k_1058 : (.selects "BuildGrid" ⟨"BuildGrid", "result", "(II)I"⟩ ⟨"BuildGrid", "result", "(II)I"⟩ : Cond) ∈ gBIG := gIn 1058 rfl rfl
set_option maxRecDepth 20000 in
theorem k_1059 : (.code ⟨"BuildGrid", "result", "(II)I"⟩ prog_1_method_18_code 4 (some Jvm.ClassFile.FieldType.int) : Cond) ∈ gBIG := gIn 1059 rfl rfl
set_option maxRecDepth 20000 in
theorem k_1061 : (.static ⟨"BuildGridLaw", "about", "(LBuildGrid;II[J)I"⟩ : Cond) ∈ gBIG := gIn 1061 rfl rfl
set_option maxRecDepth 20000 in
theorem k_1064 : (.instanceMethod ⟨"BuildGrid", "about", "(II)I"⟩ : Cond) ∈ gBIG := gIn 1064 rfl rfl
set_option maxRecDepth 20000 in
theorem k_1065 : (.selects "BuildGrid" ⟨"BuildGrid", "about", "(II)I"⟩ ⟨"BuildGrid", "about", "(II)I"⟩ : Cond) ∈ gBIG := gIn 1065 rfl rfl
set_option maxRecDepth 20000 in
theorem k_1066 : (.code ⟨"BuildGrid", "about", "(II)I"⟩ prog_1_method_19_code 4 (some Jvm.ClassFile.FieldType.int) : Cond) ∈ gBIG := gIn 1066 rfl rfl
set_option maxRecDepth 20000 in
theorem k_1068 : (.instanceMethod ⟨"BuildGrid$Graph", "soundTargets", "()I"⟩ : Cond) ∈ gBIG := gIn 1068 rfl rfl
set_option maxRecDepth 20000 in
theorem k_1069 : (.selects "BuildGrid$Graph" ⟨"BuildGrid$Graph", "soundTargets", "()I"⟩ ⟨"BuildGrid$Graph", "soundTargets", "()I"⟩ : Cond) ∈ gBIG := gIn 1069 rfl rfl
set_option maxRecDepth 20000 in
theorem k_1070 : (.code ⟨"BuildGrid$Graph", "soundTargets", "()I"⟩ prog_7_method_13_code 4 (some Jvm.ClassFile.FieldType.int) : Cond) ∈ gBIG := gIn 1070 rfl rfl
set_option maxRecDepth 20000 in
theorem k_1072 : (.instanceMethod ⟨"BuildGrid$Target", "isSoundAlone", "()Z"⟩ : Cond) ∈ gBIG := gIn 1072 rfl rfl
set_option maxRecDepth 20000 in
theorem k_1073 : (.selects "BuildGrid$Target" ⟨"BuildGrid$Target", "isSoundAlone", "()Z"⟩ ⟨"BuildGrid$Target", "isSoundAlone", "()Z"⟩ : Cond) ∈ gBIG := gIn 1073 rfl rfl
set_option maxRecDepth 20000 in
theorem k_1074 : (.code ⟨"BuildGrid$Target", "isSoundAlone", "()Z"⟩ prog_10_method_14_code 2 (some Jvm.ClassFile.FieldType.boolean) : Cond) ∈ gBIG := gIn 1074 rfl rfl
set_option maxRecDepth 20000 in
theorem k_1076 : (.instanceMethod ⟨"BuildGrid$Action", "isSound", "()Z"⟩ : Cond) ∈ gBIG := gIn 1076 rfl rfl
set_option maxRecDepth 20000 in
theorem k_1077 : (.selects "BuildGrid$Action" ⟨"BuildGrid$Action", "isSound", "()Z"⟩ ⟨"BuildGrid$Action", "isSound", "()Z"⟩ : Cond) ∈ gBIG := gIn 1077 rfl rfl
set_option maxRecDepth 20000 in
theorem k_1078 : (.code ⟨"BuildGrid$Action", "isSound", "()Z"⟩ prog_2_method_5_code 1 (some Jvm.ClassFile.FieldType.boolean) : Cond) ∈ gBIG := gIn 1078 rfl rfl
set_option maxRecDepth 20000 in
theorem k_1081 : (.instanceMethod ⟨"BuildGrid$Fresh", "isStale", "(LBuildGrid$Target;)Z"⟩ : Cond) ∈ gBIG := gIn 1081 rfl rfl
set_option maxRecDepth 20000 in
theorem k_1082 : (.selects "BuildGrid$Fresh" ⟨"BuildGrid$Fresh", "isStale", "(LBuildGrid$Target;)Z"⟩ ⟨"BuildGrid$Fresh", "isStale", "(LBuildGrid$Target;)Z"⟩ : Cond) ∈ gBIG := gIn 1082 rfl rfl
set_option maxRecDepth 20000 in
theorem k_1083 : (.code ⟨"BuildGrid$Fresh", "isStale", "(LBuildGrid$Target;)Z"⟩ prog_6_method_4_code 4 (some Jvm.ClassFile.FieldType.boolean) : Cond) ∈ gBIG := gIn 1083 rfl rfl
set_option maxRecDepth 20000 in
theorem k_1085 : (.instanceMethod ⟨"BuildGrid$Target", "isAllDone", "()Z"⟩ : Cond) ∈ gBIG := gIn 1085 rfl rfl
set_option maxRecDepth 20000 in
theorem k_1086 : (.selects "BuildGrid$Target" ⟨"BuildGrid$Target", "isAllDone", "()Z"⟩ ⟨"BuildGrid$Target", "isAllDone", "()Z"⟩ : Cond) ∈ gBIG := gIn 1086 rfl rfl
set_option maxRecDepth 20000 in
theorem k_1087 : (.code ⟨"BuildGrid$Target", "isAllDone", "()Z"⟩ prog_10_method_13_code 2 (some Jvm.ClassFile.FieldType.boolean) : Cond) ∈ gBIG := gIn 1087 rfl rfl
set_option maxRecDepth 20000 in
theorem k_1090 : (.instanceMethod ⟨"BuildGrid$Fresh", "make", "(I)V"⟩ : Cond) ∈ gBIG := gIn 1090 rfl rfl
set_option maxRecDepth 20000 in
theorem k_1091 : (.code ⟨"BuildGrid$Fresh", "make", "(I)V"⟩ prog_6_method_5_code 3 (none : Option FieldType) : Cond) ∈ gBIG := gIn 1091 rfl rfl
set_option maxRecDepth 20000 in
theorem k_1093 : (.instanceMethod ⟨"BuildGrid$Sources", "filesAfter", "(I[I)V"⟩ : Cond) ∈ gBIG := gIn 1093 rfl rfl
set_option maxRecDepth 20000 in
theorem k_1094 : (.selects "BuildGrid$Sources" ⟨"BuildGrid$Sources", "filesAfter", "(I[I)V"⟩ ⟨"BuildGrid$Sources", "filesAfter", "(I[I)V"⟩ : Cond) ∈ gBIG := gIn 1094 rfl rfl
set_option maxRecDepth 20000 in
theorem k_1095 : (.code ⟨"BuildGrid$Sources", "filesAfter", "(I[I)V"⟩ prog_9_method_5_code 4 (none : Option FieldType) : Cond) ∈ gBIG := gIn 1095 rfl rfl
set_option maxRecDepth 20000 in
theorem k_1099 : (.instanceMethod ⟨"BuildGrid$Fresh", "makeTarget", "(LBuildGrid$Target;)V"⟩ : Cond) ∈ gBIG := gIn 1099 rfl rfl
set_option maxRecDepth 20000 in
theorem k_1100 : (.code ⟨"BuildGrid$Fresh", "makeTarget", "(LBuildGrid$Target;)V"⟩ prog_6_method_6_code 7 (none : Option FieldType) : Cond) ∈ gBIG := gIn 1100 rfl rfl
set_option maxRecDepth 20000 in
theorem k_1112 : (.instanceMethod ⟨"BuildGrid$Fresh", "goodTargets", "(I)I"⟩ : Cond) ∈ gBIG := gIn 1112 rfl rfl
set_option maxRecDepth 20000 in
theorem k_1113 : (.selects "BuildGrid$Fresh" ⟨"BuildGrid$Fresh", "goodTargets", "(I)I"⟩ ⟨"BuildGrid$Fresh", "goodTargets", "(I)I"⟩ : Cond) ∈ gBIG := gIn 1113 rfl rfl
set_option maxRecDepth 20000 in
theorem k_1114 : (.code ⟨"BuildGrid$Fresh", "goodTargets", "(I)I"⟩ prog_6_method_2_code 2 (some Jvm.ClassFile.FieldType.int) : Cond) ∈ gBIG := gIn 1114 rfl rfl
set_option maxRecDepth 20000 in
theorem k_1116 : (.instanceMethod ⟨"BuildGrid$Fresh", "digestOf", "(LBuildGrid$Target;)I"⟩ : Cond) ∈ gBIG := gIn 1116 rfl rfl
set_option maxRecDepth 20000 in
theorem k_1117 : (.selects "BuildGrid$Fresh" ⟨"BuildGrid$Fresh", "digestOf", "(LBuildGrid$Target;)I"⟩ ⟨"BuildGrid$Fresh", "digestOf", "(LBuildGrid$Target;)I"⟩ : Cond) ∈ gBIG := gIn 1117 rfl rfl
set_option maxRecDepth 20000 in
theorem k_1118 : (.code ⟨"BuildGrid$Fresh", "digestOf", "(LBuildGrid$Target;)I"⟩ prog_6_method_3_code 2 (some Jvm.ClassFile.FieldType.int) : Cond) ∈ gBIG := gIn 1118 rfl rfl
set_option maxRecDepth 20000 in
theorem k_1121 : (.instanceMethod ⟨"BuildGrid$Course", "wayOf", "(LBuildGrid$Target;)I"⟩ : Cond) ∈ gBIG := gIn 1121 rfl rfl
set_option maxRecDepth 20000 in
theorem k_1122 : (.selects "BuildGrid$Course" ⟨"BuildGrid$Course", "wayOf", "(LBuildGrid$Target;)I"⟩ ⟨"BuildGrid$Course", "wayOf", "(LBuildGrid$Target;)I"⟩ : Cond) ∈ gBIG := gIn 1122 rfl rfl
set_option maxRecDepth 20000 in
theorem k_1123 : (.code ⟨"BuildGrid$Course", "wayOf", "(LBuildGrid$Target;)I"⟩ prog_4_method_4_code 2 (some Jvm.ClassFile.FieldType.int) : Cond) ∈ gBIG := gIn 1123 rfl rfl
set_option maxRecDepth 20000 in
theorem k_1125 : (.static ⟨"BuildGridLaw", "proof", "(LBuildGrid;I[J)I"⟩ : Cond) ∈ gBIG := gIn 1125 rfl rfl
set_option maxRecDepth 20000 in
theorem k_1128 : (.instanceMethod ⟨"BuildGrid", "proof", "(I)I"⟩ : Cond) ∈ gBIG := gIn 1128 rfl rfl
set_option maxRecDepth 20000 in
theorem k_1129 : (.selects "BuildGrid" ⟨"BuildGrid", "proof", "(I)I"⟩ ⟨"BuildGrid", "proof", "(I)I"⟩ : Cond) ∈ gBIG := gIn 1129 rfl rfl
set_option maxRecDepth 20000 in
theorem k_1130 : (.code ⟨"BuildGrid", "proof", "(I)I"⟩ prog_1_method_20_code 2 (some Jvm.ClassFile.FieldType.int) : Cond) ∈ gBIG := gIn 1130 rfl rfl
set_option maxRecDepth 20000 in
theorem k_1133 : (.instanceMethod ⟨"BuildGrid$Graph", "isAllDone", "(I)Z"⟩ : Cond) ∈ gBIG := gIn 1133 rfl rfl
set_option maxRecDepth 20000 in
theorem k_1134 : (.selects "BuildGrid$Graph" ⟨"BuildGrid$Graph", "isAllDone", "(I)Z"⟩ ⟨"BuildGrid$Graph", "isAllDone", "(I)Z"⟩ : Cond) ∈ gBIG := gIn 1134 rfl rfl
set_option maxRecDepth 20000 in
theorem k_1135 : (.code ⟨"BuildGrid$Graph", "isAllDone", "(I)Z"⟩ prog_7_method_12_code 3 (some Jvm.ClassFile.FieldType.boolean) : Cond) ∈ gBIG := gIn 1135 rfl rfl
set_option maxRecDepth 20000 in
theorem k_1138 : (.instanceMethod ⟨"BuildGrid$Graph", "proofOf", "(I)I"⟩ : Cond) ∈ gBIG := gIn 1138 rfl rfl
set_option maxRecDepth 20000 in
theorem k_1139 : (.selects "BuildGrid$Graph" ⟨"BuildGrid$Graph", "proofOf", "(I)I"⟩ ⟨"BuildGrid$Graph", "proofOf", "(I)I"⟩ : Cond) ∈ gBIG := gIn 1139 rfl rfl
set_option maxRecDepth 20000 in
theorem k_1140 : (.code ⟨"BuildGrid$Graph", "proofOf", "(I)I"⟩ prog_7_method_14_code 3 (some Jvm.ClassFile.FieldType.int) : Cond) ∈ gBIG := gIn 1140 rfl rfl
set_option maxRecDepth 20000 in
theorem k_1143 : (.instanceMethod ⟨"BuildGrid$Graph", "proofOverInputs", "(LBuildGrid$Target;)I"⟩ : Cond) ∈ gBIG := gIn 1143 rfl rfl
set_option maxRecDepth 20000 in
theorem k_1144 : (.code ⟨"BuildGrid$Graph", "proofOverInputs", "(LBuildGrid$Target;)I"⟩ prog_7_method_15_code 5 (some Jvm.ClassFile.FieldType.int) : Cond) ∈ gBIG := gIn 1144 rfl rfl
set_option maxRecDepth 20000 in
theorem k_1150 : (.static ⟨"BuildGridLaw", "count", "(LBuildGrid;I[J)I"⟩ : Cond) ∈ gBIG := gIn 1150 rfl rfl
set_option maxRecDepth 20000 in
theorem k_1153 : (.instanceMethod ⟨"BuildGrid", "count", "(I)I"⟩ : Cond) ∈ gBIG := gIn 1153 rfl rfl
set_option maxRecDepth 20000 in
theorem k_1154 : (.selects "BuildGrid" ⟨"BuildGrid", "count", "(I)I"⟩ ⟨"BuildGrid", "count", "(I)I"⟩ : Cond) ∈ gBIG := gIn 1154 rfl rfl
set_option maxRecDepth 20000 in
theorem k_1155 : (.code ⟨"BuildGrid", "count", "(I)I"⟩ prog_1_method_21_code 2 (some Jvm.ClassFile.FieldType.int) : Cond) ∈ gBIG := gIn 1155 rfl rfl
set_option maxRecDepth 20000 in
theorem k_1157 : (.static ⟨"BuildGridLaw", "needed", "(LBuildGrid;I[J)I"⟩ : Cond) ∈ gBIG := gIn 1157 rfl rfl
set_option maxRecDepth 20000 in
theorem k_1160 : (.instanceMethod ⟨"BuildGrid", "needed", "(I)I"⟩ : Cond) ∈ gBIG := gIn 1160 rfl rfl
set_option maxRecDepth 20000 in
theorem k_1161 : (.selects "BuildGrid" ⟨"BuildGrid", "needed", "(I)I"⟩ ⟨"BuildGrid", "needed", "(I)I"⟩ : Cond) ∈ gBIG := gIn 1161 rfl rfl
set_option maxRecDepth 20000 in
theorem k_1162 : (.code ⟨"BuildGrid", "needed", "(I)I"⟩ prog_1_method_22_code 2 (some Jvm.ClassFile.FieldType.int) : Cond) ∈ gBIG := gIn 1162 rfl rfl
set_option maxRecDepth 20000 in
theorem k_1164 : (.static ⟨"BuildGridLaw", "needing", "(LBuildGrid;I[J)I"⟩ : Cond) ∈ gBIG := gIn 1164 rfl rfl
set_option maxRecDepth 20000 in
theorem k_1167 : (.instanceMethod ⟨"BuildGrid", "needing", "(I)I"⟩ : Cond) ∈ gBIG := gIn 1167 rfl rfl
set_option maxRecDepth 20000 in
theorem k_1168 : (.selects "BuildGrid" ⟨"BuildGrid", "needing", "(I)I"⟩ ⟨"BuildGrid", "needing", "(I)I"⟩ : Cond) ∈ gBIG := gIn 1168 rfl rfl
set_option maxRecDepth 20000 in
theorem k_1169 : (.code ⟨"BuildGrid", "needing", "(I)I"⟩ prog_1_method_23_code 2 (some Jvm.ClassFile.FieldType.int) : Cond) ∈ gBIG := gIn 1169 rfl rfl
set_option maxRecDepth 20000 in
theorem k_1171 : (.instanceMethod ⟨"BuildGrid$Graph", "targetsOver", "(I)I"⟩ : Cond) ∈ gBIG := gIn 1171 rfl rfl
set_option maxRecDepth 20000 in
theorem k_1172 : (.selects "BuildGrid$Graph" ⟨"BuildGrid$Graph", "targetsOver", "(I)I"⟩ ⟨"BuildGrid$Graph", "targetsOver", "(I)I"⟩ : Cond) ∈ gBIG := gIn 1172 rfl rfl
set_option maxRecDepth 20000 in
theorem k_1173 : (.code ⟨"BuildGrid$Graph", "targetsOver", "(I)I"⟩ prog_7_method_6_code 5 (some Jvm.ClassFile.FieldType.int) : Cond) ∈ gBIG := gIn 1173 rfl rfl
set_option maxRecDepth 20000 in
theorem k_1176 : (.instanceMethod ⟨"BuildGrid$Graph", "hasInput", "(LBuildGrid$Target;I)Z"⟩ : Cond) ∈ gBIG := gIn 1176 rfl rfl
set_option maxRecDepth 20000 in
theorem k_1177 : (.code ⟨"BuildGrid$Graph", "hasInput", "(LBuildGrid$Target;I)Z"⟩ prog_7_method_7_code 4 (some Jvm.ClassFile.FieldType.boolean) : Cond) ∈ gBIG := gIn 1177 rfl rfl
set_option maxRecDepth 20000 in
theorem k_1179 : (.static ⟨"BuildGridLaw", "steps", "(LBuildGrid;II[J)I"⟩ : Cond) ∈ gBIG := gIn 1179 rfl rfl
set_option maxRecDepth 20000 in
theorem k_1182 : (.instanceMethod ⟨"BuildGrid", "steps", "(II)I"⟩ : Cond) ∈ gBIG := gIn 1182 rfl rfl
set_option maxRecDepth 20000 in
theorem k_1183 : (.selects "BuildGrid" ⟨"BuildGrid", "steps", "(II)I"⟩ ⟨"BuildGrid", "steps", "(II)I"⟩ : Cond) ∈ gBIG := gIn 1183 rfl rfl
set_option maxRecDepth 20000 in
theorem k_1184 : (.code ⟨"BuildGrid", "steps", "(II)I"⟩ prog_1_method_24_code 3 (some Jvm.ClassFile.FieldType.int) : Cond) ∈ gBIG := gIn 1184 rfl rfl
set_option maxRecDepth 20000 in
theorem k_1186 : (.instanceMethod ⟨"BuildGrid$Graph", "distance", "(II)I"⟩ : Cond) ∈ gBIG := gIn 1186 rfl rfl
set_option maxRecDepth 20000 in
theorem k_1187 : (.selects "BuildGrid$Graph" ⟨"BuildGrid$Graph", "distance", "(II)I"⟩ ⟨"BuildGrid$Graph", "distance", "(II)I"⟩ : Cond) ∈ gBIG := gIn 1187 rfl rfl
set_option maxRecDepth 20000 in
theorem k_1188 : (.code ⟨"BuildGrid$Graph", "distance", "(II)I"⟩ prog_7_method_8_code 4 (some Jvm.ClassFile.FieldType.int) : Cond) ∈ gBIG := gIn 1188 rfl rfl
set_option maxRecDepth 20000 in
theorem k_1191 : (.instanceMethod ⟨"BuildGrid$Graph", "spreadDistance", "(LBuildGrid$Target;)V"⟩ : Cond) ∈ gBIG := gIn 1191 rfl rfl
set_option maxRecDepth 20000 in
theorem k_1192 : (.code ⟨"BuildGrid$Graph", "spreadDistance", "(LBuildGrid$Target;)V"⟩ prog_7_method_9_code 6 (none : Option FieldType) : Cond) ∈ gBIG := gIn 1192 rfl rfl
set_option maxRecDepth 20000 in
theorem k_1194 : (.static ⟨"BuildGridLaw", "bisect", "(LBuildGrid;I[J)I"⟩ : Cond) ∈ gBIG := gIn 1194 rfl rfl
set_option maxRecDepth 20000 in
theorem k_1197 : (.instanceMethod ⟨"BuildGrid", "bisect", "(I)I"⟩ : Cond) ∈ gBIG := gIn 1197 rfl rfl
set_option maxRecDepth 20000 in
theorem k_1198 : (.selects "BuildGrid" ⟨"BuildGrid", "bisect", "(I)I"⟩ ⟨"BuildGrid", "bisect", "(I)I"⟩ : Cond) ∈ gBIG := gIn 1198 rfl rfl
set_option maxRecDepth 20000 in
theorem k_1199 : (.code ⟨"BuildGrid", "bisect", "(I)I"⟩ prog_1_method_26_code 6 (some Jvm.ClassFile.FieldType.int) : Cond) ∈ gBIG := gIn 1199 rfl rfl
set_option maxRecDepth 20000 in
theorem k_1202 : (.instanceMethod ⟨"BuildGrid", "isGoodAfter", "(II)Z"⟩ : Cond) ∈ gBIG := gIn 1202 rfl rfl
set_option maxRecDepth 20000 in
theorem k_1203 : (.code ⟨"BuildGrid", "isGoodAfter", "(II)Z"⟩ prog_1_method_33_code 3 (some Jvm.ClassFile.FieldType.boolean) : Cond) ∈ gBIG := gIn 1203 rfl rfl
set_option maxRecDepth 20000 in
theorem k_1207 : (.instanceMethod ⟨"BuildGridModel", "<init>", "()V"⟩ : Cond) ∈ gBIG := gIn 1207 rfl rfl
set_option maxRecDepth 20000 in
theorem k_1208 : (.code ⟨"BuildGridModel", "<init>", "()V"⟩ prog_14_method_1_code 2 (none : Option FieldType) : Cond) ∈ gBIG := gIn 1208 rfl rfl
set_option maxRecDepth 20000 in
theorem k_1381 : (.instanceMethod ⟨"BuildGridModel", "thrown", "()I"⟩ : Cond) ∈ gBIG := gIn 1381 rfl rfl
set_option maxRecDepth 20000 in
theorem k_1382 : (.selects "BuildGridModel" ⟨"BuildGridModel", "thrown", "()I"⟩ ⟨"BuildGridModel", "thrown", "()I"⟩ : Cond) ∈ gBIG := gIn 1382 rfl rfl
set_option maxRecDepth 20000 in
theorem k_1383 : (.code ⟨"BuildGridModel", "thrown", "()I"⟩ prog_14_method_2_code 1 (some Jvm.ClassFile.FieldType.int) : Cond) ∈ gBIG := gIn 1383 rfl rfl
set_option maxRecDepth 20000 in
theorem k_1385 : (.instanceMethod ⟨"BuildGridModel", "write", "(II)I"⟩ : Cond) ∈ gBIG := gIn 1385 rfl rfl
set_option maxRecDepth 20000 in
theorem k_1386 : (.selects "BuildGridModel" ⟨"BuildGridModel", "write", "(II)I"⟩ ⟨"BuildGridModel", "write", "(II)I"⟩ : Cond) ∈ gBIG := gIn 1386 rfl rfl
set_option maxRecDepth 20000 in
theorem k_1387 : (.code ⟨"BuildGridModel", "write", "(II)I"⟩ prog_14_method_7_code 5 (some Jvm.ClassFile.FieldType.int) : Cond) ∈ gBIG := gIn 1387 rfl rfl
set_option maxRecDepth 20000 in
theorem k_1389 : (.static ⟨"BuildGridModel", "in", "(III)Z"⟩ : Cond) ∈ gBIG := gIn 1389 rfl rfl
set_option maxRecDepth 20000 in
theorem k_1390 : (.code ⟨"BuildGridModel", "in", "(III)Z"⟩ prog_14_method_5_code 3 (some Jvm.ClassFile.FieldType.boolean) : Cond) ∈ gBIG := gIn 1390 rfl rfl
set_option maxRecDepth 20000 in
theorem k_1393 : (.instanceMethod ⟨"BuildGridModel", "asked", "(Z)Z"⟩ : Cond) ∈ gBIG := gIn 1393 rfl rfl
set_option maxRecDepth 20000 in
theorem k_1394 : (.code ⟨"BuildGridModel", "asked", "(Z)Z"⟩ prog_14_method_3_code 2 (some Jvm.ClassFile.FieldType.boolean) : Cond) ∈ gBIG := gIn 1394 rfl rfl
set_option maxRecDepth 20000 in
theorem k_1396 : (.instanceMethod ⟨"BuildGridModel", "set", "(II)I"⟩ : Cond) ∈ gBIG := gIn 1396 rfl rfl
set_option maxRecDepth 20000 in
theorem k_1397 : (.selects "BuildGridModel" ⟨"BuildGridModel", "set", "(II)I"⟩ ⟨"BuildGridModel", "set", "(II)I"⟩ : Cond) ∈ gBIG := gIn 1397 rfl rfl
set_option maxRecDepth 20000 in
theorem k_1398 : (.code ⟨"BuildGridModel", "set", "(II)I"⟩ prog_14_method_8_code 4 (some Jvm.ClassFile.FieldType.int) : Cond) ∈ gBIG := gIn 1398 rfl rfl
set_option maxRecDepth 20000 in
theorem k_1401 : (.instanceMethod ⟨"BuildGridModel", "asked", "(ZZ)Z"⟩ : Cond) ∈ gBIG := gIn 1401 rfl rfl
set_option maxRecDepth 20000 in
theorem k_1402 : (.code ⟨"BuildGridModel", "asked", "(ZZ)Z"⟩ prog_14_method_4_code 3 (some Jvm.ClassFile.FieldType.boolean) : Cond) ∈ gBIG := gIn 1402 rfl rfl
set_option maxRecDepth 20000 in
theorem k_1404 : (.instanceMethod ⟨"BuildGridModel", "setTool", "(II)I"⟩ : Cond) ∈ gBIG := gIn 1404 rfl rfl
set_option maxRecDepth 20000 in
theorem k_1405 : (.selects "BuildGridModel" ⟨"BuildGridModel", "setTool", "(II)I"⟩ ⟨"BuildGridModel", "setTool", "(II)I"⟩ : Cond) ∈ gBIG := gIn 1405 rfl rfl
set_option maxRecDepth 20000 in
theorem k_1406 : (.code ⟨"BuildGridModel", "setTool", "(II)I"⟩ prog_14_method_9_code 4 (some Jvm.ClassFile.FieldType.int) : Cond) ∈ gBIG := gIn 1406 rfl rfl
set_option maxRecDepth 20000 in
theorem k_1408 : (.instanceMethod ⟨"BuildGridModel", "input", "(IIII)I"⟩ : Cond) ∈ gBIG := gIn 1408 rfl rfl
set_option maxRecDepth 20000 in
theorem k_1409 : (.selects "BuildGridModel" ⟨"BuildGridModel", "input", "(IIII)I"⟩ ⟨"BuildGridModel", "input", "(IIII)I"⟩ : Cond) ∈ gBIG := gIn 1409 rfl rfl
set_option maxRecDepth 20000 in
theorem k_1410 : (.code ⟨"BuildGridModel", "input", "(IIII)I"⟩ prog_14_method_11_code 7 (some Jvm.ClassFile.FieldType.int) : Cond) ∈ gBIG := gIn 1410 rfl rfl
set_option maxRecDepth 20000 in
theorem k_1413 : (.instanceMethod ⟨"BuildGridModel", "isInput", "(I)Z"⟩ : Cond) ∈ gBIG := gIn 1413 rfl rfl
set_option maxRecDepth 20000 in
theorem k_1414 : (.code ⟨"BuildGridModel", "isInput", "(I)Z"⟩ prog_14_method_10_code 2 (some Jvm.ClassFile.FieldType.boolean) : Cond) ∈ gBIG := gIn 1414 rfl rfl
set_option maxRecDepth 20000 in
theorem k_1417 : (.instanceMethod ⟨"BuildGridModel", "isTarget", "(I)Z"⟩ : Cond) ∈ gBIG := gIn 1417 rfl rfl
set_option maxRecDepth 20000 in
theorem k_1418 : (.code ⟨"BuildGridModel", "isTarget", "(I)Z"⟩ prog_14_method_6_code 2 (some Jvm.ClassFile.FieldType.boolean) : Cond) ∈ gBIG := gIn 1418 rfl rfl
set_option maxRecDepth 20000 in
theorem k_1420 : (.instanceMethod ⟨"BuildGridModel", "target", "(IIIIII)I"⟩ : Cond) ∈ gBIG := gIn 1420 rfl rfl
set_option maxRecDepth 20000 in
theorem k_1421 : (.selects "BuildGridModel" ⟨"BuildGridModel", "target", "(IIIIII)I"⟩ ⟨"BuildGridModel", "target", "(IIIIII)I"⟩ : Cond) ∈ gBIG := gIn 1421 rfl rfl
set_option maxRecDepth 20000 in
theorem k_1422 : (.code ⟨"BuildGridModel", "target", "(IIIIII)I"⟩ prog_14_method_13_code 8 (some Jvm.ClassFile.FieldType.int) : Cond) ∈ gBIG := gIn 1422 rfl rfl
set_option maxRecDepth 20000 in
theorem k_1426 : (.instanceMethod ⟨"BuildGridModel", "lay", "(II)V"⟩ : Cond) ∈ gBIG := gIn 1426 rfl rfl
set_option maxRecDepth 20000 in
theorem k_1427 : (.code ⟨"BuildGridModel", "lay", "(II)V"⟩ prog_14_method_12_code 4 (none : Option FieldType) : Cond) ∈ gBIG := gIn 1427 rfl rfl
set_option maxRecDepth 20000 in
theorem k_1429 : (.instanceMethod ⟨"BuildGridModel", "copy", "(II)I"⟩ : Cond) ∈ gBIG := gIn 1429 rfl rfl
set_option maxRecDepth 20000 in
theorem k_1430 : (.selects "BuildGridModel" ⟨"BuildGridModel", "copy", "(II)I"⟩ ⟨"BuildGridModel", "copy", "(II)I"⟩ : Cond) ∈ gBIG := gIn 1430 rfl rfl
set_option maxRecDepth 20000 in
theorem k_1431 : (.code ⟨"BuildGridModel", "copy", "(II)I"⟩ prog_14_method_14_code 3 (some Jvm.ClassFile.FieldType.int) : Cond) ∈ gBIG := gIn 1431 rfl rfl
set_option maxRecDepth 20000 in
theorem k_1433 : (.instanceMethod ⟨"BuildGridModel", "entries", "()I"⟩ : Cond) ∈ gBIG := gIn 1433 rfl rfl
set_option maxRecDepth 20000 in
theorem k_1434 : (.selects "BuildGridModel" ⟨"BuildGridModel", "entries", "()I"⟩ ⟨"BuildGridModel", "entries", "()I"⟩ : Cond) ∈ gBIG := gIn 1434 rfl rfl
set_option maxRecDepth 20000 in
theorem k_1435 : (.code ⟨"BuildGridModel", "entries", "()I"⟩ prog_14_method_29_code 1 (some Jvm.ClassFile.FieldType.int) : Cond) ∈ gBIG := gIn 1435 rfl rfl
set_option maxRecDepth 20000 in
theorem k_1437 : (.instanceMethod ⟨"BuildGridModel", "entry", "(II)I"⟩ : Cond) ∈ gBIG := gIn 1437 rfl rfl
set_option maxRecDepth 20000 in
theorem k_1438 : (.selects "BuildGridModel" ⟨"BuildGridModel", "entry", "(II)I"⟩ ⟨"BuildGridModel", "entry", "(II)I"⟩ : Cond) ∈ gBIG := gIn 1438 rfl rfl
set_option maxRecDepth 20000 in
theorem k_1439 : (.code ⟨"BuildGridModel", "entry", "(II)I"⟩ prog_14_method_30_code 3 (some Jvm.ClassFile.FieldType.int) : Cond) ∈ gBIG := gIn 1439 rfl rfl
set_option maxRecDepth 20000 in
theorem k_1442 : (.instanceMethod ⟨"BuildGridModel", "isSigned", "(I)Z"⟩ : Cond) ∈ gBIG := gIn 1442 rfl rfl
set_option maxRecDepth 20000 in
theorem k_1443 : (.code ⟨"BuildGridModel", "isSigned", "(I)Z"⟩ prog_14_method_26_code 2 (some Jvm.ClassFile.FieldType.boolean) : Cond) ∈ gBIG := gIn 1443 rfl rfl
set_option maxRecDepth 20000 in
theorem k_1446 : (.instanceMethod ⟨"BuildGridModel", "signature", "(III)I"⟩ : Cond) ∈ gBIG := gIn 1446 rfl rfl
set_option maxRecDepth 20000 in
theorem k_1447 : (.code ⟨"BuildGridModel", "signature", "(III)I"⟩ prog_14_method_25_code 4 (some Jvm.ClassFile.FieldType.int) : Cond) ∈ gBIG := gIn 1447 rfl rfl
set_option maxRecDepth 20000 in
theorem k_1449 : (.static ⟨"BuildGridModel", "put", "(II)I"⟩ : Cond) ∈ gBIG := gIn 1449 rfl rfl
set_option maxRecDepth 20000 in
theorem k_1450 : (.code ⟨"BuildGridModel", "put", "(II)I"⟩ prog_14_method_17_code 2 (some Jvm.ClassFile.FieldType.int) : Cond) ∈ gBIG := gIn 1450 rfl rfl
set_option maxRecDepth 20000 in
theorem k_1453 : (.instanceMethod ⟨"BuildGridModel", "lie", "(II)V"⟩ : Cond) ∈ gBIG := gIn 1453 rfl rfl
set_option maxRecDepth 20000 in
theorem k_1454 : (.selects "BuildGridModel" ⟨"BuildGridModel", "lie", "(II)V"⟩ ⟨"BuildGridModel", "lie", "(II)V"⟩ : Cond) ∈ gBIG := gIn 1454 rfl rfl
set_option maxRecDepth 20000 in
theorem k_1455 : (.code ⟨"BuildGridModel", "lie", "(II)V"⟩ prog_14_method_31_code 3 (none : Option FieldType) : Cond) ∈ gBIG := gIn 1455 rfl rfl
set_option maxRecDepth 20000 in
theorem k_1458 : (.instanceMethod ⟨"BuildGridModel", "lose", "(I)Z"⟩ : Cond) ∈ gBIG := gIn 1458 rfl rfl
set_option maxRecDepth 20000 in
theorem k_1459 : (.selects "BuildGridModel" ⟨"BuildGridModel", "lose", "(I)Z"⟩ ⟨"BuildGridModel", "lose", "(I)Z"⟩ : Cond) ∈ gBIG := gIn 1459 rfl rfl
set_option maxRecDepth 20000 in
theorem k_1460 : (.code ⟨"BuildGridModel", "lose", "(I)Z"⟩ prog_14_method_32_code 3 (some Jvm.ClassFile.FieldType.boolean) : Cond) ∈ gBIG := gIn 1460 rfl rfl
set_option maxRecDepth 20000 in
theorem k_1462 : (.instanceMethod ⟨"BuildGridModel", "setPower", "(II)I"⟩ : Cond) ∈ gBIG := gIn 1462 rfl rfl
set_option maxRecDepth 20000 in
theorem k_1463 : (.selects "BuildGridModel" ⟨"BuildGridModel", "setPower", "(II)I"⟩ ⟨"BuildGridModel", "setPower", "(II)I"⟩ : Cond) ∈ gBIG := gIn 1463 rfl rfl
set_option maxRecDepth 20000 in
theorem k_1464 : (.code ⟨"BuildGridModel", "setPower", "(II)I"⟩ prog_14_method_33_code 5 (some Jvm.ClassFile.FieldType.int) : Cond) ∈ gBIG := gIn 1464 rfl rfl
set_option maxRecDepth 20000 in
theorem k_1467 : (.instanceMethod ⟨"BuildGridModel", "workerAt", "(I)I"⟩ : Cond) ∈ gBIG := gIn 1467 rfl rfl
set_option maxRecDepth 20000 in
theorem k_1468 : (.code ⟨"BuildGridModel", "workerAt", "(I)I"⟩ prog_14_method_34_code 3 (some Jvm.ClassFile.FieldType.int) : Cond) ∈ gBIG := gIn 1468 rfl rfl
set_option maxRecDepth 20000 in
theorem k_1470 : (.instanceMethod ⟨"BuildGridModel", "setWays", "(ZZ)V"⟩ : Cond) ∈ gBIG := gIn 1470 rfl rfl
set_option maxRecDepth 20000 in
theorem k_1471 : (.selects "BuildGridModel" ⟨"BuildGridModel", "setWays", "(ZZ)V"⟩ ⟨"BuildGridModel", "setWays", "(ZZ)V"⟩ : Cond) ∈ gBIG := gIn 1471 rfl rfl
set_option maxRecDepth 20000 in
theorem k_1472 : (.code ⟨"BuildGridModel", "setWays", "(ZZ)V"⟩ prog_14_method_35_code 3 (none : Option FieldType) : Cond) ∈ gBIG := gIn 1472 rfl rfl
set_option maxRecDepth 20000 in
theorem k_1474 : (.instanceMethod ⟨"BuildGridModel", "build", "(I)I"⟩ : Cond) ∈ gBIG := gIn 1474 rfl rfl
set_option maxRecDepth 20000 in
theorem k_1475 : (.selects "BuildGridModel" ⟨"BuildGridModel", "build", "(I)I"⟩ ⟨"BuildGridModel", "build", "(I)I"⟩ : Cond) ∈ gBIG := gIn 1475 rfl rfl
set_option maxRecDepth 20000 in
theorem k_1476 : (.code ⟨"BuildGridModel", "build", "(I)I"⟩ prog_14_method_37_code 6 (some Jvm.ClassFile.FieldType.int) : Cond) ∈ gBIG := gIn 1476 rfl rfl
set_option maxRecDepth 20000 in
theorem k_1479 : (.instanceMethod ⟨"BuildGridModel", "neededBy", "(I)I"⟩ : Cond) ∈ gBIG := gIn 1479 rfl rfl
set_option maxRecDepth 20000 in
theorem k_1480 : (.code ⟨"BuildGridModel", "neededBy", "(I)I"⟩ prog_14_method_16_code 6 (some Jvm.ClassFile.FieldType.int) : Cond) ∈ gBIG := gIn 1480 rfl rfl
set_option maxRecDepth 20000 in
theorem k_1483 : (.instanceMethod ⟨"BuildGridModel", "inputOf", "(II)I"⟩ : Cond) ∈ gBIG := gIn 1483 rfl rfl
set_option maxRecDepth 20000 in
theorem k_1484 : (.code ⟨"BuildGridModel", "inputOf", "(II)I"⟩ prog_14_method_15_code 4 (some Jvm.ClassFile.FieldType.int) : Cond) ∈ gBIG := gIn 1484 rfl rfl
set_option maxRecDepth 20000 in
theorem k_1487 : (.instanceMethod ⟨"BuildGridModel", "isNeeded", "(I)Z"⟩ : Cond) ∈ gBIG := gIn 1487 rfl rfl
set_option maxRecDepth 20000 in
theorem k_1488 : (.code ⟨"BuildGridModel", "isNeeded", "(I)Z"⟩ prog_14_method_36_code 2 (some Jvm.ClassFile.FieldType.boolean) : Cond) ∈ gBIG := gIn 1488 rfl rfl
set_option maxRecDepth 20000 in
theorem k_1491 : (.instanceMethod ⟨"BuildGridModel", "opens", "()V"⟩ : Cond) ∈ gBIG := gIn 1491 rfl rfl
set_option maxRecDepth 20000 in
theorem k_1492 : (.code ⟨"BuildGridModel", "opens", "()V"⟩ prog_14_method_38_code 4 (none : Option FieldType) : Cond) ∈ gBIG := gIn 1492 rfl rfl
set_option maxRecDepth 20000 in
theorem k_1495 : (.instanceMethod ⟨"BuildGridModel", "opensOne", "(II)V"⟩ : Cond) ∈ gBIG := gIn 1495 rfl rfl
set_option maxRecDepth 20000 in
theorem k_1496 : (.code ⟨"BuildGridModel", "opensOne", "(II)V"⟩ prog_14_method_39_code 8 (none : Option FieldType) : Cond) ∈ gBIG := gIn 1496 rfl rfl
set_option maxRecDepth 20000 in
theorem k_1499 : (.instanceMethod ⟨"BuildGridModel", "hit", "(I)I"⟩ : Cond) ∈ gBIG := gIn 1499 rfl rfl
set_option maxRecDepth 20000 in
theorem k_1500 : (.code ⟨"BuildGridModel", "hit", "(I)I"⟩ prog_14_method_27_code 8 (some Jvm.ClassFile.FieldType.int) : Cond) ∈ gBIG := gIn 1500 rfl rfl
set_option maxRecDepth 20000 in
theorem k_1503 : (.instanceMethod ⟨"BuildGridModel", "keyOf", "(I)I"⟩ : Cond) ∈ gBIG := gIn 1503 rfl rfl
set_option maxRecDepth 20000 in
theorem k_1504 : (.code ⟨"BuildGridModel", "keyOf", "(I)I"⟩ prog_14_method_24_code 6 (some Jvm.ClassFile.FieldType.int) : Cond) ∈ gBIG := gIn 1504 rfl rfl
set_option maxRecDepth 20000 in
theorem k_1507 : (.instanceMethod ⟨"BuildGridModel", "keyBegin", "(II)I"⟩ : Cond) ∈ gBIG := gIn 1507 rfl rfl
set_option maxRecDepth 20000 in
theorem k_1508 : (.code ⟨"BuildGridModel", "keyBegin", "(II)I"⟩ prog_14_method_18_code 4 (some Jvm.ClassFile.FieldType.int) : Cond) ∈ gBIG := gIn 1508 rfl rfl
set_option maxRecDepth 20000 in
theorem k_1511 : (.instanceMethod ⟨"BuildGridModel", "digestOf", "(I)I"⟩ : Cond) ∈ gBIG := gIn 1511 rfl rfl
set_option maxRecDepth 20000 in
theorem k_1512 : (.code ⟨"BuildGridModel", "digestOf", "(I)I"⟩ prog_14_method_23_code 4 (some Jvm.ClassFile.FieldType.int) : Cond) ∈ gBIG := gIn 1512 rfl rfl
set_option maxRecDepth 20000 in
theorem k_1515 : (.instanceMethod ⟨"BuildGridModel", "foundBy", "(II)I"⟩ : Cond) ∈ gBIG := gIn 1515 rfl rfl
set_option maxRecDepth 20000 in
theorem k_1516 : (.code ⟨"BuildGridModel", "foundBy", "(II)I"⟩ prog_14_method_19_code 3 (some Jvm.ClassFile.FieldType.int) : Cond) ∈ gBIG := gIn 1516 rfl rfl
set_option maxRecDepth 20000 in
theorem k_1519 : (.instanceMethod ⟨"BuildGridModel", "breaks", "(II)Z"⟩ : Cond) ∈ gBIG := gIn 1519 rfl rfl
set_option maxRecDepth 20000 in
theorem k_1520 : (.code ⟨"BuildGridModel", "breaks", "(II)Z"⟩ prog_14_method_20_code 3 (some Jvm.ClassFile.FieldType.boolean) : Cond) ∈ gBIG := gIn 1520 rfl rfl
set_option maxRecDepth 20000 in
theorem k_1522 : (.instanceMethod ⟨"BuildGridModel", "pass", "(I)I"⟩ : Cond) ∈ gBIG := gIn 1522 rfl rfl
set_option maxRecDepth 20000 in
theorem k_1523 : (.selects "BuildGridModel" ⟨"BuildGridModel", "pass", "(I)I"⟩ ⟨"BuildGridModel", "pass", "(I)I"⟩ : Cond) ∈ gBIG := gIn 1523 rfl rfl
set_option maxRecDepth 20000 in
theorem k_1524 : (.code ⟨"BuildGridModel", "pass", "(I)I"⟩ prog_14_method_48_code 3 (some Jvm.ClassFile.FieldType.int) : Cond) ∈ gBIG := gIn 1524 rfl rfl
set_option maxRecDepth 20000 in
theorem k_1527 : (.instanceMethod ⟨"BuildGridModel", "builds", "()V"⟩ : Cond) ∈ gBIG := gIn 1527 rfl rfl
set_option maxRecDepth 20000 in
theorem k_1528 : (.code ⟨"BuildGridModel", "builds", "()V"⟩ prog_14_method_47_code 5 (none : Option FieldType) : Cond) ∈ gBIG := gIn 1528 rfl rfl
set_option maxRecDepth 20000 in
theorem k_1531 : (.instanceMethod ⟨"BuildGridModel", "next", "()I"⟩ : Cond) ∈ gBIG := gIn 1531 rfl rfl
set_option maxRecDepth 20000 in
theorem k_1532 : (.code ⟨"BuildGridModel", "next", "()I"⟩ prog_14_method_44_code 5 (some Jvm.ClassFile.FieldType.int) : Cond) ∈ gBIG := gIn 1532 rfl rfl
set_option maxRecDepth 20000 in
theorem k_1535 : (.instanceMethod ⟨"BuildGridModel", "wayOf", "(I)I"⟩ : Cond) ∈ gBIG := gIn 1535 rfl rfl
set_option maxRecDepth 20000 in
theorem k_1536 : (.code ⟨"BuildGridModel", "wayOf", "(I)I"⟩ prog_14_method_40_code 6 (some Jvm.ClassFile.FieldType.int) : Cond) ∈ gBIG := gIn 1536 rfl rfl
set_option maxRecDepth 20000 in
theorem k_1539 : (.instanceMethod ⟨"BuildGridModel", "hasInput", "(II)Z"⟩ : Cond) ∈ gBIG := gIn 1539 rfl rfl
set_option maxRecDepth 20000 in
theorem k_1540 : (.code ⟨"BuildGridModel", "hasInput", "(II)Z"⟩ prog_14_method_41_code 5 (some Jvm.ClassFile.FieldType.boolean) : Cond) ∈ gBIG := gIn 1540 rfl rfl
set_option maxRecDepth 20000 in
theorem k_1543 : (.instanceMethod ⟨"BuildGridModel", "idle", "()I"⟩ : Cond) ∈ gBIG := gIn 1543 rfl rfl
set_option maxRecDepth 20000 in
theorem k_1544 : (.code ⟨"BuildGridModel", "idle", "()I"⟩ prog_14_method_45_code 3 (some Jvm.ClassFile.FieldType.int) : Cond) ∈ gBIG := gIn 1544 rfl rfl
set_option maxRecDepth 20000 in
theorem k_1547 : (.instanceMethod ⟨"BuildGridModel", "begins", "(II)V"⟩ : Cond) ∈ gBIG := gIn 1547 rfl rfl
set_option maxRecDepth 20000 in
theorem k_1548 : (.code ⟨"BuildGridModel", "begins", "(II)V"⟩ prog_14_method_43_code 4 (none : Option FieldType) : Cond) ∈ gBIG := gIn 1548 rfl rfl
set_option maxRecDepth 20000 in
theorem k_1551 : (.instanceMethod ⟨"BuildGridModel", "ticksOf", "(II)I"⟩ : Cond) ∈ gBIG := gIn 1551 rfl rfl
set_option maxRecDepth 20000 in
theorem k_1552 : (.code ⟨"BuildGridModel", "ticksOf", "(II)I"⟩ prog_14_method_42_code 6 (some Jvm.ClassFile.FieldType.int) : Cond) ∈ gBIG := gIn 1552 rfl rfl
set_option maxRecDepth 20000 in
theorem k_1555 : (.instanceMethod ⟨"BuildGridModel", "ends", "(I)V"⟩ : Cond) ∈ gBIG := gIn 1555 rfl rfl
set_option maxRecDepth 20000 in
theorem k_1556 : (.code ⟨"BuildGridModel", "ends", "(I)V"⟩ prog_14_method_46_code 8 (none : Option FieldType) : Cond) ∈ gBIG := gIn 1556 rfl rfl
set_option maxRecDepth 20000 in
theorem k_1559 : (.instanceMethod ⟨"BuildGridModel", "keep", "(IIIII)V"⟩ : Cond) ∈ gBIG := gIn 1559 rfl rfl
set_option maxRecDepth 20000 in
theorem k_1560 : (.code ⟨"BuildGridModel", "keep", "(IIIII)V"⟩ prog_14_method_28_code 7 (none : Option FieldType) : Cond) ∈ gBIG := gIn 1560 rfl rfl
set_option maxRecDepth 20000 in
theorem k_1562 : (.instanceMethod ⟨"BuildGridModel", "goesOn", "()Z"⟩ : Cond) ∈ gBIG := gIn 1562 rfl rfl
set_option maxRecDepth 20000 in
theorem k_1563 : (.selects "BuildGridModel" ⟨"BuildGridModel", "goesOn", "()Z"⟩ ⟨"BuildGridModel", "goesOn", "()Z"⟩ : Cond) ∈ gBIG := gIn 1563 rfl rfl
set_option maxRecDepth 20000 in
theorem k_1564 : (.code ⟨"BuildGridModel", "goesOn", "()Z"⟩ prog_14_method_49_code 1 (some Jvm.ClassFile.FieldType.boolean) : Cond) ∈ gBIG := gIn 1564 rfl rfl
set_option maxRecDepth 20000 in
theorem k_1566 : (.instanceMethod ⟨"BuildGridModel", "state", "(II)I"⟩ : Cond) ∈ gBIG := gIn 1566 rfl rfl
set_option maxRecDepth 20000 in
theorem k_1567 : (.selects "BuildGridModel" ⟨"BuildGridModel", "state", "(II)I"⟩ ⟨"BuildGridModel", "state", "(II)I"⟩ : Cond) ∈ gBIG := gIn 1567 rfl rfl
set_option maxRecDepth 20000 in
theorem k_1568 : (.code ⟨"BuildGridModel", "state", "(II)I"⟩ prog_14_method_50_code 3 (some Jvm.ClassFile.FieldType.int) : Cond) ∈ gBIG := gIn 1568 rfl rfl
set_option maxRecDepth 20000 in
theorem k_1570 : (.instanceMethod ⟨"BuildGridModel", "result", "(II)I"⟩ : Cond) ∈ gBIG := gIn 1570 rfl rfl
set_option maxRecDepth 20000 in
theorem k_1571 : (.selects "BuildGridModel" ⟨"BuildGridModel", "result", "(II)I"⟩ ⟨"BuildGridModel", "result", "(II)I"⟩ : Cond) ∈ gBIG := gIn 1571 rfl rfl
set_option maxRecDepth 20000 in
theorem k_1572 : (.code ⟨"BuildGridModel", "result", "(II)I"⟩ prog_14_method_51_code 3 (some Jvm.ClassFile.FieldType.int) : Cond) ∈ gBIG := gIn 1572 rfl rfl
set_option maxRecDepth 20000 in
theorem k_1574 : (.instanceMethod ⟨"BuildGridModel", "about", "(II)I"⟩ : Cond) ∈ gBIG := gIn 1574 rfl rfl
set_option maxRecDepth 20000 in
theorem k_1575 : (.selects "BuildGridModel" ⟨"BuildGridModel", "about", "(II)I"⟩ ⟨"BuildGridModel", "about", "(II)I"⟩ : Cond) ∈ gBIG := gIn 1575 rfl rfl
set_option maxRecDepth 20000 in
theorem k_1576 : (.code ⟨"BuildGridModel", "about", "(II)I"⟩ prog_14_method_55_code 4 (some Jvm.ClassFile.FieldType.int) : Cond) ∈ gBIG := gIn 1576 rfl rfl
set_option maxRecDepth 20000 in
theorem k_1579 : (.instanceMethod ⟨"BuildGridModel", "freshenNow", "()V"⟩ : Cond) ∈ gBIG := gIn 1579 rfl rfl
set_option maxRecDepth 20000 in
theorem k_1580 : (.code ⟨"BuildGridModel", "freshenNow", "()V"⟩ prog_14_method_22_code 2 (none : Option FieldType) : Cond) ∈ gBIG := gIn 1580 rfl rfl
set_option maxRecDepth 20000 in
theorem k_1583 : (.instanceMethod ⟨"BuildGridModel", "freshen", "()V"⟩ : Cond) ∈ gBIG := gIn 1583 rfl rfl
set_option maxRecDepth 20000 in
theorem k_1584 : (.code ⟨"BuildGridModel", "freshen", "()V"⟩ prog_14_method_21_code 6 (none : Option FieldType) : Cond) ∈ gBIG := gIn 1584 rfl rfl
set_option maxRecDepth 20000 in
theorem k_1587 : (.instanceMethod ⟨"BuildGridModel", "isSound", "(IZ)Z"⟩ : Cond) ∈ gBIG := gIn 1587 rfl rfl
set_option maxRecDepth 20000 in
theorem k_1588 : (.code ⟨"BuildGridModel", "isSound", "(IZ)Z"⟩ prog_14_method_53_code 7 (some Jvm.ClassFile.FieldType.boolean) : Cond) ∈ gBIG := gIn 1588 rfl rfl
set_option maxRecDepth 20000 in
theorem k_1591 : (.instanceMethod ⟨"BuildGridModel", "isDone", "(I)Z"⟩ : Cond) ∈ gBIG := gIn 1591 rfl rfl
set_option maxRecDepth 20000 in
theorem k_1592 : (.code ⟨"BuildGridModel", "isDone", "(I)Z"⟩ prog_14_method_52_code 4 (some Jvm.ClassFile.FieldType.boolean) : Cond) ∈ gBIG := gIn 1592 rfl rfl
set_option maxRecDepth 20000 in
theorem k_1595 : (.instanceMethod ⟨"BuildGridModel", "isStale", "(I)Z"⟩ : Cond) ∈ gBIG := gIn 1595 rfl rfl
set_option maxRecDepth 20000 in
theorem k_1596 : (.code ⟨"BuildGridModel", "isStale", "(I)Z"⟩ prog_14_method_54_code 4 (some Jvm.ClassFile.FieldType.boolean) : Cond) ∈ gBIG := gIn 1596 rfl rfl
set_option maxRecDepth 20000 in
theorem k_1598 : (.instanceMethod ⟨"BuildGridModel", "proof", "(I)I"⟩ : Cond) ∈ gBIG := gIn 1598 rfl rfl
set_option maxRecDepth 20000 in
theorem k_1599 : (.selects "BuildGridModel" ⟨"BuildGridModel", "proof", "(I)I"⟩ ⟨"BuildGridModel", "proof", "(I)I"⟩ : Cond) ∈ gBIG := gIn 1599 rfl rfl
set_option maxRecDepth 20000 in
theorem k_1600 : (.code ⟨"BuildGridModel", "proof", "(I)I"⟩ prog_14_method_56_code 7 (some Jvm.ClassFile.FieldType.int) : Cond) ∈ gBIG := gIn 1600 rfl rfl
set_option maxRecDepth 20000 in
theorem k_1602 : (.instanceMethod ⟨"BuildGridModel", "count", "(I)I"⟩ : Cond) ∈ gBIG := gIn 1602 rfl rfl
set_option maxRecDepth 20000 in
theorem k_1603 : (.selects "BuildGridModel" ⟨"BuildGridModel", "count", "(I)I"⟩ ⟨"BuildGridModel", "count", "(I)I"⟩ : Cond) ∈ gBIG := gIn 1603 rfl rfl
set_option maxRecDepth 20000 in
theorem k_1604 : (.code ⟨"BuildGridModel", "count", "(I)I"⟩ prog_14_method_57_code 2 (some Jvm.ClassFile.FieldType.int) : Cond) ∈ gBIG := gIn 1604 rfl rfl
set_option maxRecDepth 20000 in
theorem k_1606 : (.instanceMethod ⟨"BuildGridModel", "needed", "(I)I"⟩ : Cond) ∈ gBIG := gIn 1606 rfl rfl
set_option maxRecDepth 20000 in
theorem k_1607 : (.selects "BuildGridModel" ⟨"BuildGridModel", "needed", "(I)I"⟩ ⟨"BuildGridModel", "needed", "(I)I"⟩ : Cond) ∈ gBIG := gIn 1607 rfl rfl
set_option maxRecDepth 20000 in
theorem k_1608 : (.code ⟨"BuildGridModel", "needed", "(I)I"⟩ prog_14_method_58_code 2 (some Jvm.ClassFile.FieldType.int) : Cond) ∈ gBIG := gIn 1608 rfl rfl
set_option maxRecDepth 20000 in
theorem k_1610 : (.instanceMethod ⟨"BuildGridModel", "needing", "(I)I"⟩ : Cond) ∈ gBIG := gIn 1610 rfl rfl
set_option maxRecDepth 20000 in
theorem k_1611 : (.selects "BuildGridModel" ⟨"BuildGridModel", "needing", "(I)I"⟩ ⟨"BuildGridModel", "needing", "(I)I"⟩ : Cond) ∈ gBIG := gIn 1611 rfl rfl
set_option maxRecDepth 20000 in
theorem k_1612 : (.code ⟨"BuildGridModel", "needing", "(I)I"⟩ prog_14_method_59_code 8 (some Jvm.ClassFile.FieldType.int) : Cond) ∈ gBIG := gIn 1612 rfl rfl
set_option maxRecDepth 20000 in
theorem k_1614 : (.instanceMethod ⟨"BuildGridModel", "steps", "(II)I"⟩ : Cond) ∈ gBIG := gIn 1614 rfl rfl
set_option maxRecDepth 20000 in
theorem k_1615 : (.selects "BuildGridModel" ⟨"BuildGridModel", "steps", "(II)I"⟩ ⟨"BuildGridModel", "steps", "(II)I"⟩ : Cond) ∈ gBIG := gIn 1615 rfl rfl
set_option maxRecDepth 20000 in
theorem k_1616 : (.code ⟨"BuildGridModel", "steps", "(II)I"⟩ prog_14_method_60_code 9 (some Jvm.ClassFile.FieldType.int) : Cond) ∈ gBIG := gIn 1616 rfl rfl
set_option maxRecDepth 20000 in
theorem k_1618 : (.instanceMethod ⟨"BuildGridModel", "changes", "()I"⟩ : Cond) ∈ gBIG := gIn 1618 rfl rfl
set_option maxRecDepth 20000 in
theorem k_1619 : (.selects "BuildGridModel" ⟨"BuildGridModel", "changes", "()I"⟩ ⟨"BuildGridModel", "changes", "()I"⟩ : Cond) ∈ gBIG := gIn 1619 rfl rfl
set_option maxRecDepth 20000 in
theorem k_1620 : (.code ⟨"BuildGridModel", "changes", "()I"⟩ prog_14_method_61_code 1 (some Jvm.ClassFile.FieldType.int) : Cond) ∈ gBIG := gIn 1620 rfl rfl
set_option maxRecDepth 20000 in
theorem k_1622 : (.instanceMethod ⟨"BuildGridModel", "bisect", "(I)I"⟩ : Cond) ∈ gBIG := gIn 1622 rfl rfl
set_option maxRecDepth 20000 in
theorem k_1623 : (.selects "BuildGridModel" ⟨"BuildGridModel", "bisect", "(I)I"⟩ ⟨"BuildGridModel", "bisect", "(I)I"⟩ : Cond) ∈ gBIG := gIn 1623 rfl rfl
set_option maxRecDepth 20000 in
theorem k_1624 : (.code ⟨"BuildGridModel", "bisect", "(I)I"⟩ prog_14_method_63_code 5 (some Jvm.ClassFile.FieldType.int) : Cond) ∈ gBIG := gIn 1624 rfl rfl
set_option maxRecDepth 20000 in
theorem k_1627 : (.instanceMethod ⟨"BuildGridModel", "isGood", "(II)Z"⟩ : Cond) ∈ gBIG := gIn 1627 rfl rfl
set_option maxRecDepth 20000 in
theorem k_1628 : (.code ⟨"BuildGridModel", "isGood", "(II)Z"⟩ prog_14_method_62_code 4 (some Jvm.ClassFile.FieldType.boolean) : Cond) ∈ gBIG := gIn 1628 rfl rfl
set_option maxRecDepth 20000 in
theorem k_1630 : (.instanceMethod ⟨"BuildGridModel", "looks", "()I"⟩ : Cond) ∈ gBIG := gIn 1630 rfl rfl
set_option maxRecDepth 20000 in
theorem k_1631 : (.selects "BuildGridModel" ⟨"BuildGridModel", "looks", "()I"⟩ ⟨"BuildGridModel", "looks", "()I"⟩ : Cond) ∈ gBIG := gIn 1631 rfl rfl
set_option maxRecDepth 20000 in
theorem k_1632 : (.code ⟨"BuildGridModel", "looks", "()I"⟩ prog_14_method_64_code 1 (some Jvm.ClassFile.FieldType.int) : Cond) ∈ gBIG := gIn 1632 rfl rfl
set_option maxRecDepth 20000 in
theorem k_0 : (.selects "java/lang/Throwable" ⟨"java/lang/Throwable", "fillInStackTrace", "(I)Ljava/lang/Throwable;"⟩ ⟨"java/lang/Throwable", "fillInStackTrace", "(I)Ljava/lang/Throwable;"⟩ : Cond) ∈ gBIG := gIn 0 rfl rfl
set_option maxRecDepth 20000 in
theorem k_1 : (.selects "BuildGrid$Sources" ⟨"BuildGrid$Sources", "keepChange", "(II)V"⟩ ⟨"BuildGrid$Sources", "keepChange", "(II)V"⟩ : Cond) ∈ gBIG := gIn 1 rfl rfl
set_option maxRecDepth 20000 in
theorem k_2 : (.selects "BuildGrid$Sources" ⟨"BuildGrid$Sources", "forgetFirstChange", "()V"⟩ ⟨"BuildGrid$Sources", "forgetFirstChange", "()V"⟩ : Cond) ∈ gBIG := gIn 2 rfl rfl
set_option maxRecDepth 20000 in
theorem k_3 : (.selects "BuildGrid" ⟨"BuildGrid", "checkThing", "(I)V"⟩ ⟨"BuildGrid", "checkThing", "(I)V"⟩ : Cond) ∈ gBIG := gIn 3 rfl rfl
set_option maxRecDepth 20000 in
theorem k_4 : (.selects "BuildGrid" ⟨"BuildGrid", "checkTarget", "(I)V"⟩ ⟨"BuildGrid", "checkTarget", "(I)V"⟩ : Cond) ∈ gBIG := gIn 4 rfl rfl
set_option maxRecDepth 20000 in
theorem k_5 : (.selects "BuildGrid$Course" ⟨"BuildGrid$Course", "isAnyAt", "(LBuildGrid$Action;)Z"⟩ ⟨"BuildGrid$Course", "isAnyAt", "(LBuildGrid$Action;)Z"⟩ : Cond) ∈ gBIG := gIn 5 rfl rfl
set_option maxRecDepth 20000 in
theorem k_6 : (.selects "BuildGrid$Course" ⟨"BuildGrid$Course", "tally", "(I)V"⟩ ⟨"BuildGrid$Course", "tally", "(I)V"⟩ : Cond) ∈ gBIG := gIn 6 rfl rfl
set_option maxRecDepth 20000 in
theorem k_7 : (.selects "BuildGrid$Entry" ⟨"BuildGrid$Entry", "rightSignature", "()I"⟩ ⟨"BuildGrid$Entry", "rightSignature", "()I"⟩ : Cond) ∈ gBIG := gIn 7 rfl rfl
set_option maxRecDepth 20000 in
theorem k_8 : (.selects "BuildGrid$Course" ⟨"BuildGrid$Course", "settle", "()V"⟩ ⟨"BuildGrid$Course", "settle", "()V"⟩ : Cond) ∈ gBIG := gIn 8 rfl rfl
set_option maxRecDepth 20000 in
theorem k_9 : (.selects "BuildGrid$Course" ⟨"BuildGrid$Course", "leaveOpen", "(LBuildGrid$Target;LBuildGrid$Action;)V"⟩ ⟨"BuildGrid$Course", "leaveOpen", "(LBuildGrid$Target;LBuildGrid$Action;)V"⟩ : Cond) ∈ gBIG := gIn 9 rfl rfl
set_option maxRecDepth 20000 in
theorem k_10 : (.selects "BuildGrid$Course" ⟨"BuildGrid$Course", "finish", "(LBuildGrid$Target;LBuildGrid$Action;II)V"⟩ ⟨"BuildGrid$Course", "finish", "(LBuildGrid$Target;LBuildGrid$Action;II)V"⟩ : Cond) ∈ gBIG := gIn 10 rfl rfl
set_option maxRecDepth 20000 in
theorem k_11 : (.selects "BuildGrid$Course" ⟨"BuildGrid$Course", "beginReady", "()V"⟩ ⟨"BuildGrid$Course", "beginReady", "()V"⟩ : Cond) ∈ gBIG := gIn 11 rfl rfl
set_option maxRecDepth 20000 in
theorem k_12 : (.selects "BuildGrid$Graph" ⟨"BuildGrid$Graph", "spreadWay", "(LBuildGrid$Target;)V"⟩ ⟨"BuildGrid$Graph", "spreadWay", "(LBuildGrid$Target;)V"⟩ : Cond) ∈ gBIG := gIn 12 rfl rfl
set_option maxRecDepth 20000 in
theorem k_13 : (.selects "BuildGrid$Course" ⟨"BuildGrid$Course", "strongestIdle", "()LBuildGrid$Worker;"⟩ ⟨"BuildGrid$Course", "strongestIdle", "()LBuildGrid$Worker;"⟩ : Cond) ∈ gBIG := gIn 13 rfl rfl
set_option maxRecDepth 20000 in
theorem k_14 : (.selects "BuildGrid$Course" ⟨"BuildGrid$Course", "longestReady", "()LBuildGrid$Action;"⟩ ⟨"BuildGrid$Course", "longestReady", "()LBuildGrid$Action;"⟩ : Cond) ∈ gBIG := gIn 14 rfl rfl
set_option maxRecDepth 20000 in
theorem k_15 : (.selects "BuildGrid$Course" ⟨"BuildGrid$Course", "start", "(LBuildGrid$Worker;LBuildGrid$Action;)V"⟩ ⟨"BuildGrid$Course", "start", "(LBuildGrid$Worker;LBuildGrid$Action;)V"⟩ : Cond) ∈ gBIG := gIn 15 rfl rfl
set_option maxRecDepth 20000 in
theorem k_16 : (.selects "BuildGrid$Worker" ⟨"BuildGrid$Worker", "ticksFor", "(LBuildGrid$Target;)I"⟩ ⟨"BuildGrid$Worker", "ticksFor", "(LBuildGrid$Target;)I"⟩ : Cond) ∈ gBIG := gIn 16 rfl rfl
set_option maxRecDepth 20000 in
theorem k_17 : (.selects "BuildGrid$Course" ⟨"BuildGrid$Course", "speculate", "()V"⟩ ⟨"BuildGrid$Course", "speculate", "()V"⟩ : Cond) ∈ gBIG := gIn 17 rfl rfl
set_option maxRecDepth 20000 in
theorem k_18 : (.selects "BuildGrid$Course" ⟨"BuildGrid$Course", "longestBusy", "()LBuildGrid$Worker;"⟩ ⟨"BuildGrid$Course", "longestBusy", "()LBuildGrid$Worker;"⟩ : Cond) ∈ gBIG := gIn 18 rfl rfl
set_option maxRecDepth 20000 in
theorem k_19 : (.selects "BuildGrid$Course" ⟨"BuildGrid$Course", "end", "(LBuildGrid$Worker;)V"⟩ ⟨"BuildGrid$Course", "end", "(LBuildGrid$Worker;)V"⟩ : Cond) ∈ gBIG := gIn 19 rfl rfl
set_option maxRecDepth 20000 in
theorem k_20 : (.selects "BuildGrid$Course" ⟨"BuildGrid$Course", "dismissFrom", "(LBuildGrid$Action;)V"⟩ ⟨"BuildGrid$Course", "dismissFrom", "(LBuildGrid$Action;)V"⟩ : Cond) ∈ gBIG := gIn 20 rfl rfl
set_option maxRecDepth 20000 in
theorem k_21 : (.selects "BuildGrid$Course" ⟨"BuildGrid$Course", "judge", "(LBuildGrid$Target;LBuildGrid$Action;LBuildGrid$Worker;)V"⟩ ⟨"BuildGrid$Course", "judge", "(LBuildGrid$Target;LBuildGrid$Action;LBuildGrid$Worker;)V"⟩ : Cond) ∈ gBIG := gIn 21 rfl rfl
set_option maxRecDepth 20000 in
theorem k_22 : (.selects "BuildGrid$Cache" ⟨"BuildGrid$Cache", "hasAlike", "(IIIII)Z"⟩ ⟨"BuildGrid$Cache", "hasAlike", "(IIIII)Z"⟩ : Cond) ∈ gBIG := gIn 22 rfl rfl
set_option maxRecDepth 20000 in
theorem k_23 : (.selects "BuildGrid" ⟨"BuildGrid", "checkedAction", "(II)LBuildGrid$Action;"⟩ ⟨"BuildGrid", "checkedAction", "(II)LBuildGrid$Action;"⟩ : Cond) ∈ gBIG := gIn 23 rfl rfl
set_option maxRecDepth 20000 in
theorem k_24 : (.selects "BuildGrid$Fresh" ⟨"BuildGrid$Fresh", "make", "(I)V"⟩ ⟨"BuildGrid$Fresh", "make", "(I)V"⟩ : Cond) ∈ gBIG := gIn 24 rfl rfl
set_option maxRecDepth 20000 in
theorem k_25 : (.selects "BuildGrid$Fresh" ⟨"BuildGrid$Fresh", "makeTarget", "(LBuildGrid$Target;)V"⟩ ⟨"BuildGrid$Fresh", "makeTarget", "(LBuildGrid$Target;)V"⟩ : Cond) ∈ gBIG := gIn 25 rfl rfl
set_option maxRecDepth 20000 in
theorem k_26 : (.selects "BuildGrid$Graph" ⟨"BuildGrid$Graph", "proofOverInputs", "(LBuildGrid$Target;)I"⟩ ⟨"BuildGrid$Graph", "proofOverInputs", "(LBuildGrid$Target;)I"⟩ : Cond) ∈ gBIG := gIn 26 rfl rfl
set_option maxRecDepth 20000 in
theorem k_27 : (.selects "BuildGrid$Graph" ⟨"BuildGrid$Graph", "hasInput", "(LBuildGrid$Target;I)Z"⟩ ⟨"BuildGrid$Graph", "hasInput", "(LBuildGrid$Target;I)Z"⟩ : Cond) ∈ gBIG := gIn 27 rfl rfl
set_option maxRecDepth 20000 in
theorem k_28 : (.selects "BuildGrid$Graph" ⟨"BuildGrid$Graph", "spreadDistance", "(LBuildGrid$Target;)V"⟩ ⟨"BuildGrid$Graph", "spreadDistance", "(LBuildGrid$Target;)V"⟩ : Cond) ∈ gBIG := gIn 28 rfl rfl
set_option maxRecDepth 20000 in
theorem k_29 : (.selects "BuildGrid" ⟨"BuildGrid", "isGoodAfter", "(II)Z"⟩ ⟨"BuildGrid", "isGoodAfter", "(II)Z"⟩ : Cond) ∈ gBIG := gIn 29 rfl rfl
set_option maxRecDepth 20000 in
theorem k_30 : (.selects "BuildGridModel" ⟨"BuildGridModel", "asked", "(Z)Z"⟩ ⟨"BuildGridModel", "asked", "(Z)Z"⟩ : Cond) ∈ gBIG := gIn 30 rfl rfl
set_option maxRecDepth 20000 in
theorem k_31 : (.selects "BuildGridModel" ⟨"BuildGridModel", "asked", "(ZZ)Z"⟩ ⟨"BuildGridModel", "asked", "(ZZ)Z"⟩ : Cond) ∈ gBIG := gIn 31 rfl rfl
set_option maxRecDepth 20000 in
theorem k_32 : (.selects "BuildGridModel" ⟨"BuildGridModel", "isInput", "(I)Z"⟩ ⟨"BuildGridModel", "isInput", "(I)Z"⟩ : Cond) ∈ gBIG := gIn 32 rfl rfl
set_option maxRecDepth 20000 in
theorem k_33 : (.selects "BuildGridModel" ⟨"BuildGridModel", "isTarget", "(I)Z"⟩ ⟨"BuildGridModel", "isTarget", "(I)Z"⟩ : Cond) ∈ gBIG := gIn 33 rfl rfl
set_option maxRecDepth 20000 in
theorem k_34 : (.selects "BuildGridModel" ⟨"BuildGridModel", "lay", "(II)V"⟩ ⟨"BuildGridModel", "lay", "(II)V"⟩ : Cond) ∈ gBIG := gIn 34 rfl rfl
set_option maxRecDepth 20000 in
theorem k_35 : (.selects "BuildGridModel" ⟨"BuildGridModel", "isSigned", "(I)Z"⟩ ⟨"BuildGridModel", "isSigned", "(I)Z"⟩ : Cond) ∈ gBIG := gIn 35 rfl rfl
set_option maxRecDepth 20000 in
theorem k_36 : (.selects "BuildGridModel" ⟨"BuildGridModel", "signature", "(III)I"⟩ ⟨"BuildGridModel", "signature", "(III)I"⟩ : Cond) ∈ gBIG := gIn 36 rfl rfl
set_option maxRecDepth 20000 in
theorem k_37 : (.selects "BuildGridModel" ⟨"BuildGridModel", "workerAt", "(I)I"⟩ ⟨"BuildGridModel", "workerAt", "(I)I"⟩ : Cond) ∈ gBIG := gIn 37 rfl rfl
set_option maxRecDepth 20000 in
theorem k_38 : (.selects "BuildGridModel" ⟨"BuildGridModel", "neededBy", "(I)I"⟩ ⟨"BuildGridModel", "neededBy", "(I)I"⟩ : Cond) ∈ gBIG := gIn 38 rfl rfl
set_option maxRecDepth 20000 in
theorem k_39 : (.selects "BuildGridModel" ⟨"BuildGridModel", "inputOf", "(II)I"⟩ ⟨"BuildGridModel", "inputOf", "(II)I"⟩ : Cond) ∈ gBIG := gIn 39 rfl rfl
set_option maxRecDepth 20000 in
theorem k_40 : (.selects "BuildGridModel" ⟨"BuildGridModel", "isNeeded", "(I)Z"⟩ ⟨"BuildGridModel", "isNeeded", "(I)Z"⟩ : Cond) ∈ gBIG := gIn 40 rfl rfl
set_option maxRecDepth 20000 in
theorem k_41 : (.selects "BuildGridModel" ⟨"BuildGridModel", "opens", "()V"⟩ ⟨"BuildGridModel", "opens", "()V"⟩ : Cond) ∈ gBIG := gIn 41 rfl rfl
set_option maxRecDepth 20000 in
theorem k_42 : (.selects "BuildGridModel" ⟨"BuildGridModel", "opensOne", "(II)V"⟩ ⟨"BuildGridModel", "opensOne", "(II)V"⟩ : Cond) ∈ gBIG := gIn 42 rfl rfl
set_option maxRecDepth 20000 in
theorem k_43 : (.selects "BuildGridModel" ⟨"BuildGridModel", "hit", "(I)I"⟩ ⟨"BuildGridModel", "hit", "(I)I"⟩ : Cond) ∈ gBIG := gIn 43 rfl rfl
set_option maxRecDepth 20000 in
theorem k_44 : (.selects "BuildGridModel" ⟨"BuildGridModel", "keyOf", "(I)I"⟩ ⟨"BuildGridModel", "keyOf", "(I)I"⟩ : Cond) ∈ gBIG := gIn 44 rfl rfl
set_option maxRecDepth 20000 in
theorem k_45 : (.selects "BuildGridModel" ⟨"BuildGridModel", "keyBegin", "(II)I"⟩ ⟨"BuildGridModel", "keyBegin", "(II)I"⟩ : Cond) ∈ gBIG := gIn 45 rfl rfl
set_option maxRecDepth 20000 in
theorem k_46 : (.selects "BuildGridModel" ⟨"BuildGridModel", "digestOf", "(I)I"⟩ ⟨"BuildGridModel", "digestOf", "(I)I"⟩ : Cond) ∈ gBIG := gIn 46 rfl rfl
set_option maxRecDepth 20000 in
theorem k_47 : (.selects "BuildGridModel" ⟨"BuildGridModel", "foundBy", "(II)I"⟩ ⟨"BuildGridModel", "foundBy", "(II)I"⟩ : Cond) ∈ gBIG := gIn 47 rfl rfl
set_option maxRecDepth 20000 in
theorem k_48 : (.selects "BuildGridModel" ⟨"BuildGridModel", "breaks", "(II)Z"⟩ ⟨"BuildGridModel", "breaks", "(II)Z"⟩ : Cond) ∈ gBIG := gIn 48 rfl rfl
set_option maxRecDepth 20000 in
theorem k_49 : (.selects "BuildGridModel" ⟨"BuildGridModel", "builds", "()V"⟩ ⟨"BuildGridModel", "builds", "()V"⟩ : Cond) ∈ gBIG := gIn 49 rfl rfl
set_option maxRecDepth 20000 in
theorem k_50 : (.selects "BuildGridModel" ⟨"BuildGridModel", "next", "()I"⟩ ⟨"BuildGridModel", "next", "()I"⟩ : Cond) ∈ gBIG := gIn 50 rfl rfl
set_option maxRecDepth 20000 in
theorem k_51 : (.selects "BuildGridModel" ⟨"BuildGridModel", "wayOf", "(I)I"⟩ ⟨"BuildGridModel", "wayOf", "(I)I"⟩ : Cond) ∈ gBIG := gIn 51 rfl rfl
set_option maxRecDepth 20000 in
theorem k_52 : (.selects "BuildGridModel" ⟨"BuildGridModel", "hasInput", "(II)Z"⟩ ⟨"BuildGridModel", "hasInput", "(II)Z"⟩ : Cond) ∈ gBIG := gIn 52 rfl rfl
set_option maxRecDepth 20000 in
theorem k_53 : (.selects "BuildGridModel" ⟨"BuildGridModel", "idle", "()I"⟩ ⟨"BuildGridModel", "idle", "()I"⟩ : Cond) ∈ gBIG := gIn 53 rfl rfl
set_option maxRecDepth 20000 in
theorem k_54 : (.selects "BuildGridModel" ⟨"BuildGridModel", "begins", "(II)V"⟩ ⟨"BuildGridModel", "begins", "(II)V"⟩ : Cond) ∈ gBIG := gIn 54 rfl rfl
set_option maxRecDepth 20000 in
theorem k_55 : (.selects "BuildGridModel" ⟨"BuildGridModel", "ticksOf", "(II)I"⟩ ⟨"BuildGridModel", "ticksOf", "(II)I"⟩ : Cond) ∈ gBIG := gIn 55 rfl rfl
set_option maxRecDepth 20000 in
theorem k_56 : (.selects "BuildGridModel" ⟨"BuildGridModel", "ends", "(I)V"⟩ ⟨"BuildGridModel", "ends", "(I)V"⟩ : Cond) ∈ gBIG := gIn 56 rfl rfl
set_option maxRecDepth 20000 in
theorem k_57 : (.selects "BuildGridModel" ⟨"BuildGridModel", "keep", "(IIIII)V"⟩ ⟨"BuildGridModel", "keep", "(IIIII)V"⟩ : Cond) ∈ gBIG := gIn 57 rfl rfl
set_option maxRecDepth 20000 in
theorem k_58 : (.selects "BuildGridModel" ⟨"BuildGridModel", "freshenNow", "()V"⟩ ⟨"BuildGridModel", "freshenNow", "()V"⟩ : Cond) ∈ gBIG := gIn 58 rfl rfl
set_option maxRecDepth 20000 in
theorem k_59 : (.selects "BuildGridModel" ⟨"BuildGridModel", "freshen", "()V"⟩ ⟨"BuildGridModel", "freshen", "()V"⟩ : Cond) ∈ gBIG := gIn 59 rfl rfl
set_option maxRecDepth 20000 in
theorem k_60 : (.selects "BuildGridModel" ⟨"BuildGridModel", "isSound", "(IZ)Z"⟩ ⟨"BuildGridModel", "isSound", "(IZ)Z"⟩ : Cond) ∈ gBIG := gIn 60 rfl rfl
set_option maxRecDepth 20000 in
theorem k_61 : (.selects "BuildGridModel" ⟨"BuildGridModel", "isDone", "(I)Z"⟩ ⟨"BuildGridModel", "isDone", "(I)Z"⟩ : Cond) ∈ gBIG := gIn 61 rfl rfl
set_option maxRecDepth 20000 in
theorem k_62 : (.selects "BuildGridModel" ⟨"BuildGridModel", "isStale", "(I)Z"⟩ ⟨"BuildGridModel", "isStale", "(I)Z"⟩ : Cond) ∈ gBIG := gIn 62 rfl rfl
set_option maxRecDepth 20000 in
theorem k_63 : (.selects "BuildGridModel" ⟨"BuildGridModel", "isGood", "(II)Z"⟩ ⟨"BuildGridModel", "isGood", "(II)Z"⟩ : Cond) ∈ gBIG := gIn 63 rfl rfl
theorem cX0 : gCO 0 RX0 TX0 8 tyX0 := ⟨rfl, (by decide +kernel : ∀ w ∈ u_ws RX0 TX0 8, w ∈ gBIG), tyX0_ok, nmX0⟩
theorem cX1 : gCO 1 RX1 TX1 3 tyX1 := ⟨rfl, (by decide +kernel : ∀ w ∈ u_ws RX1 TX1 3, w ∈ gBIG), tyX1_ok, nmX1⟩
theorem cX2 : gCO 2 RX2 TX2 11 tyX2 := ⟨rfl, (by decide +kernel : ∀ w ∈ u_ws RX2 TX2 11, w ∈ gBIG), tyX2_ok, nmX2⟩
theorem cX3 : gCO 3 RX3 TX3 7 tyX3 := ⟨rfl, (by decide +kernel : ∀ w ∈ u_ws RX3 TX3 7, w ∈ gBIG), tyX3_ok, nmX3⟩
theorem cX4 : gCO 4 RX4 TX4 4 tyX4 := ⟨rfl, (by decide +kernel : ∀ w ∈ u_ws RX4 TX4 4, w ∈ gBIG), tyX4_ok, nmX4⟩
theorem cX5 : gCO 5 RX5 TX5 6 tyX5 := ⟨rfl, (by decide +kernel : ∀ w ∈ u_ws RX5 TX5 6, w ∈ gBIG), tyX5_ok, nmX5⟩
theorem cX6 : gCO 6 RX6 TX6 6 tyX6 := ⟨rfl, (by decide +kernel : ∀ w ∈ u_ws RX6 TX6 6, w ∈ gBIG), tyX6_ok, nmX6⟩
theorem cX7 : gCO 7 RX7 TX7 6 tyX7 := ⟨rfl, (by decide +kernel : ∀ w ∈ u_ws RX7 TX7 6, w ∈ gBIG), tyX7_ok, nmX7⟩
theorem cX8 : gCO 8 RX8 TX8 13 tyX8 := ⟨rfl, (by decide +kernel : ∀ w ∈ u_ws RX8 TX8 13, w ∈ gBIG), tyX8_ok, nmX8⟩
theorem cX9 : gCO 9 RX9 TX9 3 tyX9 := ⟨rfl, (by decide +kernel : ∀ w ∈ u_ws RX9 TX9 3, w ∈ gBIG), tyX9_ok, nmX9⟩
theorem cX10 : gCO 10 RX10 TX10 8 tyX10 := ⟨rfl, (by decide +kernel : ∀ w ∈ u_ws RX10 TX10 8, w ∈ gBIG), tyX10_ok, nmX10⟩
theorem cX11 : gCO 11 RX11 TX11 7 tyX11 := ⟨rfl, (by decide +kernel : ∀ w ∈ u_ws RX11 TX11 7, w ∈ gBIG), tyX11_ok, nmX11⟩
theorem cX12 : gCO 12 RX12 TX12 56 tyX12 := ⟨rfl, (by decide +kernel : ∀ w ∈ u_ws RX12 TX12 56, w ∈ gBIG), tyX12_ok, nmX12⟩
theorem calX0_init : gCal yX0_init cX0_init 3 none 2 RX0 := ⟨k_172, k_70, rfl, ⟨by decide, by decide⟩, by decide +kernel⟩
theorem calX0_open : gCal yX0_open cX0_open 1 none 0 RX0 := ⟨k_850, k_70, rfl, ⟨by decide, by decide⟩, by decide +kernel⟩
theorem calX0_finish : gCal yX0_finish cX0_finish 3 none 2 RX0 := ⟨k_906, k_70, rfl, ⟨by decide, by decide⟩, by decide +kernel⟩
theorem calX0_isUnfinished : gCal yX0_isUnfinished cX0_isUnfinished 1 (some .boolean) 0 RX0 := ⟨k_866, k_70, rfl, ⟨by decide, by decide⟩, by decide +kernel⟩
theorem calX0_isSound : gCal yX0_isSound cX0_isSound 1 (some .boolean) 0 RX0 := ⟨k_1078, k_70, rfl, ⟨by decide, by decide⟩, by decide +kernel⟩
theorem calX1_init : gCal yX1_init cX1_init 2 none 0 RX1 := ⟨k_306, k_71, rfl, ⟨by decide, by decide⟩, by decide +kernel⟩
theorem calX1_entryAt : gCal yX1_entryAt cX1_entryAt 2 (some (.object "BuildGrid$Entry")) 1 RX1 := ⟨k_773, k_71, rfl, ⟨by decide, by decide⟩, by decide +kernel⟩
theorem calX1_keep : gCal yX1_keep cX1_keep 7 none 5 RX1 := ⟨k_1032, k_71, rfl, ⟨by decide, by decide⟩, by decide +kernel⟩
theorem calX1_hasAlike : gCal yX1_hasAlike cX1_hasAlike 8 (some .boolean) 5 RX1 := ⟨k_1036, k_71, rfl, ⟨by decide, by decide⟩, by decide +kernel⟩
theorem calX1_firstFit : gCal yX1_firstFit cX1_firstFit 7 (some (.object "BuildGrid$Entry")) 4 RX1 := ⟨k_892, k_71, rfl, ⟨by decide, by decide⟩, by decide +kernel⟩
theorem calX2_init : gCal yX2_init cX2_init 5 none 3 RX2 := ⟨k_377, k_73, rfl, ⟨by decide, by decide⟩, by decide +kernel⟩
theorem calX2_tally : gCal yX2_tally cX2_tally 2 none 1 RX2 := ⟨k_760, k_73, rfl, ⟨by decide, by decide⟩, by decide +kernel⟩
theorem calX2_begin : gCal yX2_begin cX2_begin 6 (some .int) 1 RX2 := ⟨k_820, k_73, rfl, ⟨by decide, by decide⟩, by decide +kernel⟩
theorem calX2_wayOf : gCal yX2_wayOf cX2_wayOf 2 (some .int) 1 RX2 := ⟨k_1123, k_73, rfl, ⟨by decide, by decide⟩, by decide +kernel⟩
theorem calX2_workerAt : gCal yX2_workerAt cX2_workerAt 2 (some (.object "BuildGrid$Worker")) 1 RX2 := ⟨k_744, k_73, rfl, ⟨by decide, by decide⟩, by decide +kernel⟩
theorem calX2_changePower : gCal yX2_changePower cX2_changePower 4 none 2 RX2 := ⟨k_748, k_73, rfl, ⟨by decide, by decide⟩, by decide +kernel⟩
theorem calX2_isAnyAt : gCal yX2_isAnyAt cX2_isAnyAt 6 (some .boolean) 1 RX2 := ⟨k_756, k_73, rfl, ⟨by decide, by decide⟩, by decide +kernel⟩
theorem calX2_dismissFrom : gCal yX2_dismissFrom cX2_dismissFrom 6 none 1 RX2 := ⟨k_995, k_73, rfl, ⟨by decide, by decide⟩, by decide +kernel⟩
theorem calX2_strongestIdle : gCal yX2_strongestIdle cX2_strongestIdle 6 (some (.object "BuildGrid$Worker")) 0 RX2 := ⟨k_942, k_73, rfl, ⟨by decide, by decide⟩, by decide +kernel⟩
theorem calX2_longestBusy : gCal yX2_longestBusy cX2_longestBusy 6 (some (.object "BuildGrid$Worker")) 0 RX2 := ⟨k_979, k_73, rfl, ⟨by decide, by decide⟩, by decide +kernel⟩
theorem calX2_passTick : gCal yX2_passTick cX2_passTick 6 none 0 RX2 := ⟨k_923, k_73, rfl, ⟨by decide, by decide⟩, by decide +kernel⟩
theorem calX2_beginReady : gCal yX2_beginReady cX2_beginReady 4 none 0 RX2 := ⟨k_927, k_73, rfl, ⟨by decide, by decide⟩, by decide +kernel⟩
theorem calX2_longestReady : gCal yX2_longestReady cX2_longestReady 6 (some (.object "BuildGrid$Action")) 0 RX2 := ⟨k_950, k_73, rfl, ⟨by decide, by decide⟩, by decide +kernel⟩
theorem calX2_start : gCal yX2_start cX2_start 5 none 2 RX2 := ⟨k_958, k_73, rfl, ⟨by decide, by decide⟩, by decide +kernel⟩
theorem calX2_speculate : gCal yX2_speculate cX2_speculate 2 none 0 RX2 := ⟨k_975, k_73, rfl, ⟨by decide, by decide⟩, by decide +kernel⟩
theorem calX2_end : gCal yX2_end cX2_end 5 none 1 RX2 := ⟨k_991, k_73, rfl, ⟨by decide, by decide⟩, by decide +kernel⟩
theorem calX2_judge : gCal yX2_judge cX2_judge 7 none 3 RX2 := ⟨k_1004, k_73, rfl, ⟨by decide, by decide⟩, by decide +kernel⟩
theorem calX2_finish : gCal yX2_finish cX2_finish 5 none 4 RX2 := ⟨k_902, k_73, rfl, ⟨by decide, by decide⟩, by decide +kernel⟩
theorem calX2_settle : gCal yX2_settle cX2_settle 7 none 0 RX2 := ⟨k_854, k_73, rfl, ⟨by decide, by decide⟩, by decide +kernel⟩
theorem calX2_leaveOpen : gCal yX2_leaveOpen cX2_leaveOpen 7 none 2 RX2 := ⟨k_858, k_73, rfl, ⟨by decide, by decide⟩, by decide +kernel⟩
theorem calX3_init : gCal yX3_init cX3_init 1 none 0 RX3 := ⟨k_313, k_72, rfl, ⟨by decide, by decide⟩, by decide +kernel⟩
theorem calX3_fill : gCal yX3_fill cX3_fill 6 none 5 RX3 := ⟨k_1040, k_72, rfl, ⟨by decide, by decide⟩, by decide +kernel⟩
theorem calX3_rightSignature : gCal yX3_rightSignature cX3_rightSignature 1 (some .int) 0 RX3 := ⟨k_789, k_72, rfl, ⟨by decide, by decide⟩, by decide +kernel⟩
theorem calX3_isRightlySigned : gCal yX3_isRightlySigned cX3_isRightlySigned 1 (some .boolean) 0 RX3 := ⟨k_785, k_72, rfl, ⟨by decide, by decide⟩, by decide +kernel⟩
theorem calX3_isOf : gCal yX3_isOf cX3_isOf 4 (some .boolean) 3 RX3 := ⟨k_897, k_72, rfl, ⟨by decide, by decide⟩, by decide +kernel⟩
theorem calX3_tell : gCal yX3_tell cX3_tell 2 (some .int) 1 RX3 := ⟨k_781, k_72, rfl, ⟨by decide, by decide⟩, by decide +kernel⟩
theorem calX4_init : gCal yX4_init cX4_init 3 none 2 RX4 := ⟨k_461, k_76, rfl, ⟨by decide, by decide⟩, by decide +kernel⟩
theorem calX4_goodTargets : gCal yX4_goodTargets cX4_goodTargets 2 (some .int) 1 RX4 := ⟨k_1114, k_76, rfl, ⟨by decide, by decide⟩, by decide +kernel⟩
theorem calX4_digestOf : gCal yX4_digestOf cX4_digestOf 2 (some .int) 1 RX4 := ⟨k_1118, k_76, rfl, ⟨by decide, by decide⟩, by decide +kernel⟩
theorem calX4_isStale : gCal yX4_isStale cX4_isStale 4 (some .boolean) 1 RX4 := ⟨k_1083, k_76, rfl, ⟨by decide, by decide⟩, by decide +kernel⟩
theorem calX4_make : gCal yX4_make cX4_make 3 none 1 RX4 := ⟨k_1091, k_76, rfl, ⟨by decide, by decide⟩, by decide +kernel⟩
theorem calX4_makeTarget : gCal yX4_makeTarget cX4_makeTarget 7 none 1 RX4 := ⟨k_1100, k_76, rfl, ⟨by decide, by decide⟩, by decide +kernel⟩
theorem calX5_init : gCal yX5_init cX5_init 3 none 1 RX5 := ⟨k_129, k_67, rfl, ⟨by decide, by decide⟩, by decide +kernel⟩
theorem calX5_tellNext : gCal yX5_tellNext cX5_tellNext 1 (some (.object "BuildGrid$Target")) 0 RX5 := ⟨k_711, k_67, rfl, ⟨by decide, by decide⟩, by decide +kernel⟩
theorem calX5_targetAt : gCal yX5_targetAt cX5_targetAt 2 (some (.object "BuildGrid$Target")) 1 RX5 := ⟨k_715, k_67, rfl, ⟨by decide, by decide⟩, by decide +kernel⟩
theorem calX5_withNeeded : gCal yX5_withNeeded cX5_withNeeded 4 (some .int) 1 RX5 := ⟨k_824, k_67, rfl, ⟨by decide, by decide⟩, by decide +kernel⟩
theorem calX5_inputTargets : gCal yX5_inputTargets cX5_inputTargets 5 (some .int) 1 RX5 := ⟨k_831, k_67, rfl, ⟨by decide, by decide⟩, by decide +kernel⟩
theorem calX5_targetsOver : gCal yX5_targetsOver cX5_targetsOver 5 (some .int) 1 RX5 := ⟨k_1173, k_67, rfl, ⟨by decide, by decide⟩, by decide +kernel⟩
theorem calX5_hasInput : gCal yX5_hasInput cX5_hasInput 4 (some .boolean) 2 RX5 := ⟨k_1177, k_67, rfl, ⟨by decide, by decide⟩, by decide +kernel⟩
theorem calX5_distance : gCal yX5_distance cX5_distance 4 (some .int) 2 RX5 := ⟨k_1188, k_67, rfl, ⟨by decide, by decide⟩, by decide +kernel⟩
theorem calX5_spreadDistance : gCal yX5_spreadDistance cX5_spreadDistance 6 none 1 RX5 := ⟨k_1192, k_67, rfl, ⟨by decide, by decide⟩, by decide +kernel⟩
theorem calX5_findWays : gCal yX5_findWays cX5_findWays 4 none 1 RX5 := ⟨k_931, k_67, rfl, ⟨by decide, by decide⟩, by decide +kernel⟩
theorem calX5_spreadWay : gCal yX5_spreadWay cX5_spreadWay 4 none 1 RX5 := ⟨k_935, k_67, rfl, ⟨by decide, by decide⟩, by decide +kernel⟩
theorem calX5_isAllDone : gCal yX5_isAllDone cX5_isAllDone 3 (some .boolean) 1 RX5 := ⟨k_1135, k_67, rfl, ⟨by decide, by decide⟩, by decide +kernel⟩
theorem calX5_soundTargets : gCal yX5_soundTargets cX5_soundTargets 4 (some .int) 0 RX5 := ⟨k_1070, k_67, rfl, ⟨by decide, by decide⟩, by decide +kernel⟩
theorem calX5_proofOf : gCal yX5_proofOf cX5_proofOf 3 (some .int) 1 RX5 := ⟨k_1140, k_67, rfl, ⟨by decide, by decide⟩, by decide +kernel⟩
theorem calX5_proofOverInputs : gCal yX5_proofOverInputs cX5_proofOverInputs 5 (some .int) 1 RX5 := ⟨k_1144, k_67, rfl, ⟨by decide, by decide⟩, by decide +kernel⟩
theorem calX5_stateOfInputs : gCal yX5_stateOfInputs cX5_stateOfInputs 9 (some .int) 1 RX5 := ⟨k_862, k_67, rfl, ⟨by decide, by decide⟩, by decide +kernel⟩
theorem calX6_init : gCal yX6_init cX6_init 2 none 1 RX6 := ⟨k_144, k_69, rfl, ⟨by decide, by decide⟩, by decide +kernel⟩
theorem calX6_append : gCal yX6_append cX6_append 5 (some .int) 4 RX6 := ⟨k_698, k_69, rfl, ⟨by decide, by decide⟩, by decide +kernel⟩
theorem calX6_become : gCal yX6_become cX6_become 3 none 1 RX6 := ⟨k_723, k_69, rfl, ⟨by decide, by decide⟩, by decide +kernel⟩
theorem calX6_chosen : gCal yX6_chosen cX6_chosen 4 (some .int) 1 RX6 := ⟨k_835, k_69, rfl, ⟨by decide, by decide⟩, by decide +kernel⟩
theorem calX7_init : gCal yX7_init cX7_init 1 none 0 RX7 := ⟨k_97, k_66, rfl, ⟨by decide, by decide⟩, by decide +kernel⟩
theorem calX7_rewrite : gCal yX7_rewrite cX7_rewrite 4 (some .int) 2 RX7 := ⟨k_605, k_66, rfl, ⟨by decide, by decide⟩, by decide +kernel⟩
theorem calX7_keepChange : gCal yX7_keepChange cX7_keepChange 3 none 2 RX7 := ⟨k_618, k_66, rfl, ⟨by decide, by decide⟩, by decide +kernel⟩
theorem calX7_forgetFirstChange : gCal yX7_forgetFirstChange cX7_forgetFirstChange 2 none 0 RX7 := ⟨k_622, k_66, rfl, ⟨by decide, by decide⟩, by decide +kernel⟩
theorem calX7_filesAfter : gCal yX7_filesAfter cX7_filesAfter 4 none 2 RX7 := ⟨k_1095, k_66, rfl, ⟨by decide, by decide⟩, by decide +kernel⟩
theorem calX8_init : gCal yX8_init cX8_init 4 none 2 RX8 := ⟨k_136, k_68, rfl, ⟨by decide, by decide⟩, by decide +kernel⟩
theorem calX8_describe : gCal yX8_describe cX8_describe 7 none 6 RX8 := ⟨k_719, k_68, rfl, ⟨by decide, by decide⟩, by decide +kernel⟩
theorem calX8_startOver : gCal yX8_startOver cX8_startOver 4 none 1 RX8 := ⟨k_842, k_68, rfl, ⟨by decide, by decide⟩, by decide +kernel⟩
theorem calX8_actionAt : gCal yX8_actionAt cX8_actionAt 2 (some (.object "BuildGrid$Action")) 1 RX8 := ⟨k_846, k_68, rfl, ⟨by decide, by decide⟩, by decide +kernel⟩
theorem calX8_work : gCal yX8_work cX8_work 1 (some .int) 0 RX8 := ⟨k_970, k_68, rfl, ⟨by decide, by decide⟩, by decide +kernel⟩
theorem calX8_fileFound : gCal yX8_fileFound cX8_fileFound 2 (some .int) 1 RX8 := ⟨k_887, k_68, rfl, ⟨by decide, by decide⟩, by decide +kernel⟩
theorem calX8_breaksOut : gCal yX8_breaksOut cX8_breaksOut 2 (some .boolean) 1 RX8 := ⟨k_878, k_68, rfl, ⟨by decide, by decide⟩, by decide +kernel⟩
theorem calX8_isGoodResult : gCal yX8_isGoodResult cX8_isGoodResult 2 (some .boolean) 1 RX8 := ⟨k_1020, k_68, rfl, ⟨by decide, by decide⟩, by decide +kernel⟩
theorem calX8_failsAt : gCal yX8_failsAt cX8_failsAt 3 (some .boolean) 2 RX8 := ⟨k_1016, k_68, rfl, ⟨by decide, by decide⟩, by decide +kernel⟩
theorem calX8_noteFlakeIn : gCal yX8_noteFlakeIn cX8_noteFlakeIn 2 none 1 RX8 := ⟨k_1028, k_68, rfl, ⟨by decide, by decide⟩, by decide +kernel⟩
theorem calX8_isInQuarantine : gCal yX8_isInQuarantine cX8_isInQuarantine 1 (some .boolean) 0 RX8 := ⟨k_1024, k_68, rfl, ⟨by decide, by decide⟩, by decide +kernel⟩
theorem calX8_digestOfResults : gCal yX8_digestOfResults cX8_digestOfResults 3 (some .int) 0 RX8 := ⟨k_910, k_68, rfl, ⟨by decide, by decide⟩, by decide +kernel⟩
theorem calX8_isAllDone : gCal yX8_isAllDone cX8_isAllDone 2 (some .boolean) 0 RX8 := ⟨k_1087, k_68, rfl, ⟨by decide, by decide⟩, by decide +kernel⟩
theorem calX8_isSoundAlone : gCal yX8_isSoundAlone cX8_isSoundAlone 2 (some .boolean) 0 RX8 := ⟨k_1074, k_68, rfl, ⟨by decide, by decide⟩, by decide +kernel⟩
theorem calX8_firstReady : gCal yX8_firstReady cX8_firstReady 3 (some (.object "BuildGrid$Action")) 0 RX8 := ⟨k_954, k_68, rfl, ⟨by decide, by decide⟩, by decide +kernel⟩
theorem calX9_init : gCal yX9_init cX9_init 3 none 2 RX9 := ⟨k_360, k_74, rfl, ⟨by decide, by decide⟩, by decide +kernel⟩
theorem calX9_keyOf : gCal yX9_keyOf cX9_keyOf 6 (some .int) 2 RX9 := ⟨k_870, k_74, rfl, ⟨by decide, by decide⟩, by decide +kernel⟩
theorem calX9_contentFound : gCal yX9_contentFound cX9_contentFound 3 (some .int) 2 RX9 := ⟨k_883, k_74, rfl, ⟨by decide, by decide⟩, by decide +kernel⟩
theorem calX10_init : gCal yX10_init cX10_init 3 none 2 RX10 := ⟨k_383, k_75, rfl, ⟨by decide, by decide⟩, by decide +kernel⟩
theorem calX10_isIdle : gCal yX10_isIdle cX10_isIdle 1 (some .boolean) 0 RX10 := ⟨k_946, k_75, rfl, ⟨by decide, by decide⟩, by decide +kernel⟩
theorem calX10_hasEnded : gCal yX10_hasEnded cX10_hasEnded 1 (some .boolean) 0 RX10 := ⟨k_987, k_75, rfl, ⟨by decide, by decide⟩, by decide +kernel⟩
theorem calX10_start : gCal yX10_start cX10_start 5 none 4 RX10 := ⟨k_962, k_75, rfl, ⟨by decide, by decide⟩, by decide +kernel⟩
theorem calX10_ticksFor : gCal yX10_ticksFor cX10_ticksFor 3 (some .int) 1 RX10 := ⟨k_966, k_75, rfl, ⟨by decide, by decide⟩, by decide +kernel⟩
theorem calX10_spendTick : gCal yX10_spendTick cX10_spendTick 1 none 0 RX10 := ⟨k_983, k_75, rfl, ⟨by decide, by decide⟩, by decide +kernel⟩
theorem calX10_resultMade : gCal yX10_resultMade cX10_resultMade 1 (some .int) 0 RX10 := ⟨k_1008, k_75, rfl, ⟨by decide, by decide⟩, by decide +kernel⟩
theorem calX10_beganWith : gCal yX10_beganWith cX10_beganWith 3 (some .boolean) 2 RX10 := ⟨k_999, k_75, rfl, ⟨by decide, by decide⟩, by decide +kernel⟩
theorem calX10_rest : gCal yX10_rest cX10_rest 2 none 1 RX10 := ⟨k_752, k_75, rfl, ⟨by decide, by decide⟩, by decide +kernel⟩
theorem calX11_init : gCal yX11_init cX11_init 1 none 0 RX11 := ⟨k_89, k_65, rfl, ⟨by decide, by decide⟩, by decide +kernel⟩
theorem calX11_write : gCal yX11_write cX11_write 3 (some .int) 2 RX11 := ⟨k_527, k_65, rfl, ⟨by decide, by decide⟩, by decide +kernel⟩
theorem calX11_set : gCal yX11_set cX11_set 3 (some .int) 2 RX11 := ⟨k_632, k_65, rfl, ⟨by decide, by decide⟩, by decide +kernel⟩
theorem calX11_setTool : gCal yX11_setTool cX11_setTool 3 (some .int) 2 RX11 := ⟨k_659, k_65, rfl, ⟨by decide, by decide⟩, by decide +kernel⟩
theorem calX11_input : gCal yX11_input cX11_input 5 (some .int) 4 RX11 := ⟨k_667, k_65, rfl, ⟨by decide, by decide⟩, by decide +kernel⟩
theorem calX11_target : gCal yX11_target cX11_target 8 (some .int) 6 RX11 := ⟨k_706, k_65, rfl, ⟨by decide, by decide⟩, by decide +kernel⟩
theorem calX11_copy : gCal yX11_copy cX11_copy 5 (some .int) 2 RX11 := ⟨k_732, k_65, rfl, ⟨by decide, by decide⟩, by decide +kernel⟩
theorem calX11_setPower : gCal yX11_setPower cX11_setPower 5 (some .int) 2 RX11 := ⟨k_740, k_65, rfl, ⟨by decide, by decide⟩, by decide +kernel⟩
theorem calX11_setWays : gCal yX11_setWays cX11_setWays 3 none 2 RX11 := ⟨k_503, k_65, rfl, ⟨by decide, by decide⟩, by decide +kernel⟩
theorem calX11_entries : gCal yX11_entries cX11_entries 1 (some .int) 0 RX11 := ⟨k_507, k_65, rfl, ⟨by decide, by decide⟩, by decide +kernel⟩
theorem calX11_entry : gCal yX11_entry cX11_entry 4 (some .int) 2 RX11 := ⟨k_769, k_65, rfl, ⟨by decide, by decide⟩, by decide +kernel⟩
theorem calX11_lie : gCal yX11_lie cX11_lie 4 none 2 RX11 := ⟨k_800, k_65, rfl, ⟨by decide, by decide⟩, by decide +kernel⟩
theorem calX11_lose : gCal yX11_lose cX11_lose 4 (some .boolean) 1 RX11 := ⟨k_808, k_65, rfl, ⟨by decide, by decide⟩, by decide +kernel⟩
theorem calX11_build : gCal yX11_build cX11_build 2 (some .int) 1 RX11 := ⟨k_816, k_65, rfl, ⟨by decide, by decide⟩, by decide +kernel⟩
theorem calX11_pass : gCal yX11_pass cX11_pass 3 (some .int) 1 RX11 := ⟨k_919, k_65, rfl, ⟨by decide, by decide⟩, by decide +kernel⟩
theorem calX11_goesOn : gCal yX11_goesOn cX11_goesOn 1 (some .boolean) 0 RX11 := ⟨k_511, k_65, rfl, ⟨by decide, by decide⟩, by decide +kernel⟩
theorem calX11_state : gCal yX11_state cX11_state 3 (some .int) 2 RX11 := ⟨k_1047, k_65, rfl, ⟨by decide, by decide⟩, by decide +kernel⟩
theorem calX11_result : gCal yX11_result cX11_result 4 (some .int) 2 RX11 := ⟨k_1059, k_65, rfl, ⟨by decide, by decide⟩, by decide +kernel⟩
theorem calX11_about : gCal yX11_about cX11_about 4 (some .int) 2 RX11 := ⟨k_1066, k_65, rfl, ⟨by decide, by decide⟩, by decide +kernel⟩
theorem calX11_proof : gCal yX11_proof cX11_proof 2 (some .int) 1 RX11 := ⟨k_1130, k_65, rfl, ⟨by decide, by decide⟩, by decide +kernel⟩
theorem calX11_count : gCal yX11_count cX11_count 2 (some .int) 1 RX11 := ⟨k_1155, k_65, rfl, ⟨by decide, by decide⟩, by decide +kernel⟩
theorem calX11_needed : gCal yX11_needed cX11_needed 2 (some .int) 1 RX11 := ⟨k_1162, k_65, rfl, ⟨by decide, by decide⟩, by decide +kernel⟩
theorem calX11_needing : gCal yX11_needing cX11_needing 2 (some .int) 1 RX11 := ⟨k_1169, k_65, rfl, ⟨by decide, by decide⟩, by decide +kernel⟩
theorem calX11_steps : gCal yX11_steps cX11_steps 3 (some .int) 2 RX11 := ⟨k_1184, k_65, rfl, ⟨by decide, by decide⟩, by decide +kernel⟩
theorem calX11_changes : gCal yX11_changes cX11_changes 1 (some .int) 0 RX11 := ⟨k_515, k_65, rfl, ⟨by decide, by decide⟩, by decide +kernel⟩
theorem calX11_bisect : gCal yX11_bisect cX11_bisect 6 (some .int) 1 RX11 := ⟨k_1199, k_65, rfl, ⟨by decide, by decide⟩, by decide +kernel⟩
theorem calX11_looks : gCal yX11_looks cX11_looks 1 (some .int) 0 RX11 := ⟨k_519, k_65, rfl, ⟨by decide, by decide⟩, by decide +kernel⟩
theorem calX11_checkArgument : gCal yX11_checkArgument cX11_checkArgument 1 none 1 RX11 := ⟨k_533, k_65, rfl, ⟨by decide, by decide⟩, by decide +kernel⟩
theorem calX11_checkState : gCal yX11_checkState cX11_checkState 1 none 1 RX11 := ⟨k_635, k_65, rfl, ⟨by decide, by decide⟩, by decide +kernel⟩
theorem calX11_checkTarget : gCal yX11_checkTarget cX11_checkTarget 2 none 1 RX11 := ⟨k_678, k_65, rfl, ⟨by decide, by decide⟩, by decide +kernel⟩
theorem calX11_checkThing : gCal yX11_checkThing cX11_checkThing 2 none 1 RX11 := ⟨k_671, k_65, rfl, ⟨by decide, by decide⟩, by decide +kernel⟩
theorem calX11_checkedAction : gCal yX11_checkedAction cX11_checkedAction 4 (some (.object "BuildGrid$Action")) 2 RX11 := ⟨k_1051, k_65, rfl, ⟨by decide, by decide⟩, by decide +kernel⟩
theorem calX11_isGoodAfter : gCal yX11_isGoodAfter cX11_isGoodAfter 3 (some .boolean) 2 RX11 := ⟨k_1203, k_65, rfl, ⟨by decide, by decide⟩, by decide +kernel⟩
theorem calX11_isBelow : gCal yX11_isBelow cX11_isBelow 2 (some .boolean) 2 RX11 := ⟨k_530, k_65, rfl, ⟨by decide, by decide⟩, by decide +kernel⟩
theorem calX11_isTarget : gCal yX11_isTarget cX11_isTarget 1 (some .boolean) 1 RX11 := ⟨k_674, k_65, rfl, ⟨by decide, by decide⟩, by decide +kernel⟩
theorem calX11_bitOf : gCal yX11_bitOf cX11_bitOf 2 (some .int) 2 RX11 := ⟨k_827, k_65, rfl, ⟨by decide, by decide⟩, by decide +kernel⟩
theorem calX11_at : gCal yX11_at cX11_at 2 (some .int) 2 RX11 := ⟨k_611, k_65, rfl, ⟨by decide, by decide⟩, by decide +kernel⟩
theorem calX11_store : gCal yX11_store cX11_store 3 none 3 RX11 := ⟨k_614, k_65, rfl, ⟨by decide, by decide⟩, by decide +kernel⟩
theorem calX11_exchange : gCal yX11_exchange cX11_exchange 4 (some .int) 3 RX11 := ⟨k_608, k_65, rfl, ⟨by decide, by decide⟩, by decide +kernel⟩
theorem calX11_plus : gCal yX11_plus cX11_plus 2 (some .int) 2 RX11 := ⟨k_792, k_65, rfl, ⟨by decide, by decide⟩, by decide +kernel⟩
theorem calX11_resultOf : gCal yX11_resultOf cX11_resultOf 2 (some .int) 2 RX11 := ⟨k_1011, k_65, rfl, ⟨by decide, by decide⟩, by decide +kernel⟩
theorem calX12_init : gCal yX12_init cX12_init 2 none 0 RX12 := ⟨k_1208, k_77, rfl, ⟨by decide, by decide⟩, by decide +kernel⟩
theorem calX12_thrown : gCal yX12_thrown cX12_thrown 1 (some .int) 0 RX12 := ⟨k_1383, k_77, rfl, ⟨by decide, by decide⟩, by decide +kernel⟩
theorem calX12_asked : gCal yX12_asked cX12_asked 2 (some .boolean) 1 RX12 := ⟨k_1394, k_77, rfl, ⟨by decide, by decide⟩, by decide +kernel⟩
theorem calX12_asked_ : gCal yX12_asked_ cX12_asked_ 3 (some .boolean) 2 RX12 := ⟨k_1402, k_77, rfl, ⟨by decide, by decide⟩, by decide +kernel⟩
theorem calX12_in : gCal yX12_in cX12_in 3 (some .boolean) 3 RX12 := ⟨k_1390, k_77, rfl, ⟨by decide, by decide⟩, by decide +kernel⟩
theorem calX12_isTarget : gCal yX12_isTarget cX12_isTarget 2 (some .boolean) 1 RX12 := ⟨k_1418, k_77, rfl, ⟨by decide, by decide⟩, by decide +kernel⟩
theorem calX12_write : gCal yX12_write cX12_write 5 (some .int) 2 RX12 := ⟨k_1387, k_77, rfl, ⟨by decide, by decide⟩, by decide +kernel⟩
theorem calX12_set : gCal yX12_set cX12_set 4 (some .int) 2 RX12 := ⟨k_1398, k_77, rfl, ⟨by decide, by decide⟩, by decide +kernel⟩
theorem calX12_setTool : gCal yX12_setTool cX12_setTool 4 (some .int) 2 RX12 := ⟨k_1406, k_77, rfl, ⟨by decide, by decide⟩, by decide +kernel⟩
theorem calX12_isInput : gCal yX12_isInput cX12_isInput 2 (some .boolean) 1 RX12 := ⟨k_1414, k_77, rfl, ⟨by decide, by decide⟩, by decide +kernel⟩
theorem calX12_input : gCal yX12_input cX12_input 7 (some .int) 4 RX12 := ⟨k_1410, k_77, rfl, ⟨by decide, by decide⟩, by decide +kernel⟩
theorem calX12_lay : gCal yX12_lay cX12_lay 4 none 2 RX12 := ⟨k_1427, k_77, rfl, ⟨by decide, by decide⟩, by decide +kernel⟩
theorem calX12_target : gCal yX12_target cX12_target 8 (some .int) 6 RX12 := ⟨k_1422, k_77, rfl, ⟨by decide, by decide⟩, by decide +kernel⟩
theorem calX12_copy : gCal yX12_copy cX12_copy 3 (some .int) 2 RX12 := ⟨k_1431, k_77, rfl, ⟨by decide, by decide⟩, by decide +kernel⟩
theorem calX12_inputOf : gCal yX12_inputOf cX12_inputOf 4 (some .int) 2 RX12 := ⟨k_1484, k_77, rfl, ⟨by decide, by decide⟩, by decide +kernel⟩
theorem calX12_neededBy : gCal yX12_neededBy cX12_neededBy 6 (some .int) 1 RX12 := ⟨k_1480, k_77, rfl, ⟨by decide, by decide⟩, by decide +kernel⟩
theorem calX12_put : gCal yX12_put cX12_put 2 (some .int) 2 RX12 := ⟨k_1450, k_77, rfl, ⟨by decide, by decide⟩, by decide +kernel⟩
theorem calX12_keyBegin : gCal yX12_keyBegin cX12_keyBegin 4 (some .int) 2 RX12 := ⟨k_1508, k_77, rfl, ⟨by decide, by decide⟩, by decide +kernel⟩
theorem calX12_foundBy : gCal yX12_foundBy cX12_foundBy 3 (some .int) 2 RX12 := ⟨k_1516, k_77, rfl, ⟨by decide, by decide⟩, by decide +kernel⟩
theorem calX12_breaks : gCal yX12_breaks cX12_breaks 3 (some .boolean) 2 RX12 := ⟨k_1520, k_77, rfl, ⟨by decide, by decide⟩, by decide +kernel⟩
theorem calX12_freshen : gCal yX12_freshen cX12_freshen 6 none 0 RX12 := ⟨k_1584, k_77, rfl, ⟨by decide, by decide⟩, by decide +kernel⟩
theorem calX12_freshenNow : gCal yX12_freshenNow cX12_freshenNow 2 none 0 RX12 := ⟨k_1580, k_77, rfl, ⟨by decide, by decide⟩, by decide +kernel⟩
theorem calX12_digestOf : gCal yX12_digestOf cX12_digestOf 4 (some .int) 1 RX12 := ⟨k_1512, k_77, rfl, ⟨by decide, by decide⟩, by decide +kernel⟩
theorem calX12_keyOf : gCal yX12_keyOf cX12_keyOf 6 (some .int) 1 RX12 := ⟨k_1504, k_77, rfl, ⟨by decide, by decide⟩, by decide +kernel⟩
theorem calX12_signature : gCal yX12_signature cX12_signature 4 (some .int) 3 RX12 := ⟨k_1447, k_77, rfl, ⟨by decide, by decide⟩, by decide +kernel⟩
theorem calX12_isSigned : gCal yX12_isSigned cX12_isSigned 2 (some .boolean) 1 RX12 := ⟨k_1443, k_77, rfl, ⟨by decide, by decide⟩, by decide +kernel⟩
theorem calX12_hit : gCal yX12_hit cX12_hit 8 (some .int) 1 RX12 := ⟨k_1500, k_77, rfl, ⟨by decide, by decide⟩, by decide +kernel⟩
theorem calX12_keep : gCal yX12_keep cX12_keep 7 none 5 RX12 := ⟨k_1560, k_77, rfl, ⟨by decide, by decide⟩, by decide +kernel⟩
theorem calX12_entries : gCal yX12_entries cX12_entries 1 (some .int) 0 RX12 := ⟨k_1435, k_77, rfl, ⟨by decide, by decide⟩, by decide +kernel⟩
theorem calX12_entry : gCal yX12_entry cX12_entry 3 (some .int) 2 RX12 := ⟨k_1439, k_77, rfl, ⟨by decide, by decide⟩, by decide +kernel⟩
theorem calX12_lie : gCal yX12_lie cX12_lie 3 none 2 RX12 := ⟨k_1455, k_77, rfl, ⟨by decide, by decide⟩, by decide +kernel⟩
theorem calX12_lose : gCal yX12_lose cX12_lose 3 (some .boolean) 1 RX12 := ⟨k_1460, k_77, rfl, ⟨by decide, by decide⟩, by decide +kernel⟩
theorem calX12_setPower : gCal yX12_setPower cX12_setPower 5 (some .int) 2 RX12 := ⟨k_1464, k_77, rfl, ⟨by decide, by decide⟩, by decide +kernel⟩
theorem calX12_workerAt : gCal yX12_workerAt cX12_workerAt 3 (some .int) 1 RX12 := ⟨k_1468, k_77, rfl, ⟨by decide, by decide⟩, by decide +kernel⟩
theorem calX12_setWays : gCal yX12_setWays cX12_setWays 3 none 2 RX12 := ⟨k_1472, k_77, rfl, ⟨by decide, by decide⟩, by decide +kernel⟩
theorem calX12_isNeeded : gCal yX12_isNeeded cX12_isNeeded 2 (some .boolean) 1 RX12 := ⟨k_1488, k_77, rfl, ⟨by decide, by decide⟩, by decide +kernel⟩
theorem calX12_build : gCal yX12_build cX12_build 6 (some .int) 1 RX12 := ⟨k_1476, k_77, rfl, ⟨by decide, by decide⟩, by decide +kernel⟩
theorem calX12_opens : gCal yX12_opens cX12_opens 4 none 0 RX12 := ⟨k_1492, k_77, rfl, ⟨by decide, by decide⟩, by decide +kernel⟩
theorem calX12_opensOne : gCal yX12_opensOne cX12_opensOne 8 none 2 RX12 := ⟨k_1496, k_77, rfl, ⟨by decide, by decide⟩, by decide +kernel⟩
theorem calX12_wayOf : gCal yX12_wayOf cX12_wayOf 6 (some .int) 1 RX12 := ⟨k_1536, k_77, rfl, ⟨by decide, by decide⟩, by decide +kernel⟩
theorem calX12_hasInput : gCal yX12_hasInput cX12_hasInput 5 (some .boolean) 2 RX12 := ⟨k_1540, k_77, rfl, ⟨by decide, by decide⟩, by decide +kernel⟩
theorem calX12_ticksOf : gCal yX12_ticksOf cX12_ticksOf 6 (some .int) 2 RX12 := ⟨k_1552, k_77, rfl, ⟨by decide, by decide⟩, by decide +kernel⟩
theorem calX12_begins : gCal yX12_begins cX12_begins 4 none 2 RX12 := ⟨k_1548, k_77, rfl, ⟨by decide, by decide⟩, by decide +kernel⟩
theorem calX12_next : gCal yX12_next cX12_next 5 (some .int) 0 RX12 := ⟨k_1532, k_77, rfl, ⟨by decide, by decide⟩, by decide +kernel⟩
theorem calX12_idle : gCal yX12_idle cX12_idle 3 (some .int) 0 RX12 := ⟨k_1544, k_77, rfl, ⟨by decide, by decide⟩, by decide +kernel⟩
theorem calX12_ends : gCal yX12_ends cX12_ends 8 none 1 RX12 := ⟨k_1556, k_77, rfl, ⟨by decide, by decide⟩, by decide +kernel⟩
theorem calX12_builds : gCal yX12_builds cX12_builds 5 none 0 RX12 := ⟨k_1528, k_77, rfl, ⟨by decide, by decide⟩, by decide +kernel⟩
theorem calX12_pass : gCal yX12_pass cX12_pass 3 (some .int) 1 RX12 := ⟨k_1524, k_77, rfl, ⟨by decide, by decide⟩, by decide +kernel⟩
theorem calX12_goesOn : gCal yX12_goesOn cX12_goesOn 1 (some .boolean) 0 RX12 := ⟨k_1564, k_77, rfl, ⟨by decide, by decide⟩, by decide +kernel⟩
theorem calX12_state : gCal yX12_state cX12_state 3 (some .int) 2 RX12 := ⟨k_1568, k_77, rfl, ⟨by decide, by decide⟩, by decide +kernel⟩
theorem calX12_result : gCal yX12_result cX12_result 3 (some .int) 2 RX12 := ⟨k_1572, k_77, rfl, ⟨by decide, by decide⟩, by decide +kernel⟩
theorem calX12_isDone : gCal yX12_isDone cX12_isDone 4 (some .boolean) 1 RX12 := ⟨k_1592, k_77, rfl, ⟨by decide, by decide⟩, by decide +kernel⟩
theorem calX12_isSound : gCal yX12_isSound cX12_isSound 7 (some .boolean) 2 RX12 := ⟨k_1588, k_77, rfl, ⟨by decide, by decide⟩, by decide +kernel⟩
theorem calX12_isStale : gCal yX12_isStale cX12_isStale 4 (some .boolean) 1 RX12 := ⟨k_1596, k_77, rfl, ⟨by decide, by decide⟩, by decide +kernel⟩
theorem calX12_about : gCal yX12_about cX12_about 4 (some .int) 2 RX12 := ⟨k_1576, k_77, rfl, ⟨by decide, by decide⟩, by decide +kernel⟩
theorem calX12_proof : gCal yX12_proof cX12_proof 7 (some .int) 1 RX12 := ⟨k_1600, k_77, rfl, ⟨by decide, by decide⟩, by decide +kernel⟩
theorem calX12_count : gCal yX12_count cX12_count 2 (some .int) 1 RX12 := ⟨k_1604, k_77, rfl, ⟨by decide, by decide⟩, by decide +kernel⟩
theorem calX12_needed : gCal yX12_needed cX12_needed 2 (some .int) 1 RX12 := ⟨k_1608, k_77, rfl, ⟨by decide, by decide⟩, by decide +kernel⟩
theorem calX12_needing : gCal yX12_needing cX12_needing 8 (some .int) 1 RX12 := ⟨k_1612, k_77, rfl, ⟨by decide, by decide⟩, by decide +kernel⟩
theorem calX12_steps : gCal yX12_steps cX12_steps 9 (some .int) 2 RX12 := ⟨k_1616, k_77, rfl, ⟨by decide, by decide⟩, by decide +kernel⟩
theorem calX12_changes : gCal yX12_changes cX12_changes 1 (some .int) 0 RX12 := ⟨k_1620, k_77, rfl, ⟨by decide, by decide⟩, by decide +kernel⟩
theorem calX12_isGood : gCal yX12_isGood cX12_isGood 4 (some .boolean) 2 RX12 := ⟨k_1628, k_77, rfl, ⟨by decide, by decide⟩, by decide +kernel⟩
theorem calX12_bisect : gCal yX12_bisect cX12_bisect 5 (some .int) 1 RX12 := ⟨k_1624, k_77, rfl, ⟨by decide, by decide⟩, by decide +kernel⟩
theorem calX12_looks : gCal yX12_looks cX12_looks 1 (some .int) 0 RX12 := ⟨k_1632, k_77, rfl, ⟨by decide, by decide⟩, by decide +kernel⟩
theorem calJ9_floorMod_7cf53 : gCal yJ9_floorMod_7cf53 cJ9_floorMod_7cf53 3 (some .int) 2 RJ9 := ⟨k_776, k_84, rfl, ⟨by decide, by decide⟩, by decide +kernel⟩
theorem calJ9_max_7cf53 : gCal yJ9_max_7cf53 cJ9_max_7cf53 2 (some .int) 2 RJ9 := ⟨k_938, k_84, rfl, ⟨by decide, by decide⟩, by decide +kernel⟩
