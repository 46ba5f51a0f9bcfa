def km1 : Nat → Int32 := fun x => if x < 10 then 1 else 0
def km2 : Nat → Int32 := fun x => if x < 4 then -1 else 0
def kFm : Nat → Nat → Int32 := fun i => if i = 59 then km2 else if i = 44 then km1 else fun _ => 0
def fl_M : List (Option Nat) := [none, none, none, none, some 1, some 2, some 3, some 4, none, some 5, some 6, some 7, some 8, none, some 9, some 10, some 11, none, some 12, some 13, some 14, some 15, some 16, some 17, some 18, some 19, none, some 20, some 21, some 22, some 23, some 24, some 25, none, some 26, some 27, none, some 28, some 29, some 30, some 31, none, some 32, some 33, some 34, some 35, some 36, some 37, some 38, none, some 39, some 40, some 41, some 42, some 43, some 44, none, some 45, some 46, some 47, none, some 48, some 49, none, some 50, some 51, some 52, some 53, none, some 54, some 55, some 56, some 57, some 58, some 59, some 60, some 61, some 62, none]
def ar_M : List (Nat × Bool) := [(16, false), (6, false), (6, false), (4, false), (40, false), (40, false), (40, false), (40, false), (12, false), (12, false), (12, false), (60, false), (60, false), (60, false), (60, false), (60, false), (60, false), (7, true), (420, false), (10, false), (10, false), (10, false), (10, false), (60, false), (60, false), (6, false), (6, false), (12, false), (12, false), (12, false), (12, false), (20, false), (20, false), (20, false), (20, false), (20, false), (20, false), (20, false), (1200, false), (1200, false), (1200, false), (100, false), (10, false), (10, false), (4, false), (100, false), (100, false), (10, false), (80, false), (20, false), (20, false), (20, false), (20, false), (9, false), (9, false), (9, false), (9, false), (9, false), (4, false), (4, false), (240, false), (60, false)]
theorem dk_M_0 : decode c_M_init 0 = .ok (.aload_n 0, 1) ∧ 0 + 1 = 1 := by decide +kernel
theorem dk_M_1 : decode c_M_init 1 = .ok (.invokespecial 1, 3) ∧ 1 + 3 = 4 := by decide +kernel
theorem dk_M_4 : decode c_M_init 4 = .ok (.aload_n 0, 1) ∧ 4 + 1 = 5 := by decide +kernel
theorem dk_M_5 : decode c_M_init 5 = .ok (.bipush 16, 2) ∧ 5 + 2 = 7 := by decide +kernel
theorem dk_M_7 : decode c_M_init 7 = .ok (.newarray .int, 2) ∧ 7 + 2 = 9 := by decide +kernel
theorem dk_M_9 : decode c_M_init 9 = .ok (.putfield 7, 3) ∧ 9 + 3 = 12 := by decide +kernel
theorem dk_M_12 : decode c_M_init 12 = .ok (.aload_n 0, 1) ∧ 12 + 1 = 13 := by decide +kernel
theorem dk_M_13 : decode c_M_init 13 = .ok (.bipush 6, 2) ∧ 13 + 2 = 15 := by decide +kernel
theorem dk_M_15 : decode c_M_init 15 = .ok (.newarray .int, 2) ∧ 15 + 2 = 17 := by decide +kernel
theorem dk_M_17 : decode c_M_init 17 = .ok (.putfield 13, 3) ∧ 17 + 3 = 20 := by decide +kernel
theorem dk_M_20 : decode c_M_init 20 = .ok (.aload_n 0, 1) ∧ 20 + 1 = 21 := by decide +kernel
theorem dk_M_21 : decode c_M_init 21 = .ok (.bipush 6, 2) ∧ 21 + 2 = 23 := by decide +kernel
theorem dk_M_23 : decode c_M_init 23 = .ok (.newarray .int, 2) ∧ 23 + 2 = 25 := by decide +kernel
theorem dk_M_25 : decode c_M_init 25 = .ok (.putfield 16, 3) ∧ 25 + 3 = 28 := by decide +kernel
theorem dk_M_28 : decode c_M_init 28 = .ok (.aload_n 0, 1) ∧ 28 + 1 = 29 := by decide +kernel
theorem dk_M_29 : decode c_M_init 29 = .ok (.iconst 4, 1) ∧ 29 + 1 = 30 := by decide +kernel
theorem dk_M_30 : decode c_M_init 30 = .ok (.newarray .int, 2) ∧ 30 + 2 = 32 := by decide +kernel
theorem dk_M_32 : decode c_M_init 32 = .ok (.putfield 19, 3) ∧ 32 + 3 = 35 := by decide +kernel
theorem dk_M_35 : decode c_M_init 35 = .ok (.aload_n 0, 1) ∧ 35 + 1 = 36 := by decide +kernel
theorem dk_M_36 : decode c_M_init 36 = .ok (.bipush 40, 2) ∧ 36 + 2 = 38 := by decide +kernel
theorem dk_M_38 : decode c_M_init 38 = .ok (.newarray .int, 2) ∧ 38 + 2 = 40 := by decide +kernel
theorem dk_M_40 : decode c_M_init 40 = .ok (.putfield 22, 3) ∧ 40 + 3 = 43 := by decide +kernel
theorem dk_M_43 : decode c_M_init 43 = .ok (.aload_n 0, 1) ∧ 43 + 1 = 44 := by decide +kernel
theorem dk_M_44 : decode c_M_init 44 = .ok (.bipush 40, 2) ∧ 44 + 2 = 46 := by decide +kernel
theorem dk_M_46 : decode c_M_init 46 = .ok (.newarray .int, 2) ∧ 46 + 2 = 48 := by decide +kernel
theorem dk_M_48 : decode c_M_init 48 = .ok (.putfield 25, 3) ∧ 48 + 3 = 51 := by decide +kernel
theorem dk_M_51 : decode c_M_init 51 = .ok (.aload_n 0, 1) ∧ 51 + 1 = 52 := by decide +kernel
theorem dk_M_52 : decode c_M_init 52 = .ok (.bipush 40, 2) ∧ 52 + 2 = 54 := by decide +kernel
theorem dk_M_54 : decode c_M_init 54 = .ok (.newarray .int, 2) ∧ 54 + 2 = 56 := by decide +kernel
theorem dk_M_56 : decode c_M_init 56 = .ok (.putfield 28, 3) ∧ 56 + 3 = 59 := by decide +kernel
theorem dk_M_59 : decode c_M_init 59 = .ok (.aload_n 0, 1) ∧ 59 + 1 = 60 := by decide +kernel
theorem dk_M_60 : decode c_M_init 60 = .ok (.bipush 40, 2) ∧ 60 + 2 = 62 := by decide +kernel
theorem dk_M_62 : decode c_M_init 62 = .ok (.newarray .int, 2) ∧ 62 + 2 = 64 := by decide +kernel
theorem dk_M_64 : decode c_M_init 64 = .ok (.putfield 31, 3) ∧ 64 + 3 = 67 := by decide +kernel
theorem dk_M_67 : decode c_M_init 67 = .ok (.aload_n 0, 1) ∧ 67 + 1 = 68 := by decide +kernel
theorem dk_M_68 : decode c_M_init 68 = .ok (.bipush 12, 2) ∧ 68 + 2 = 70 := by decide +kernel
theorem dk_M_70 : decode c_M_init 70 = .ok (.newarray .int, 2) ∧ 70 + 2 = 72 := by decide +kernel
theorem dk_M_72 : decode c_M_init 72 = .ok (.putfield 34, 3) ∧ 72 + 3 = 75 := by decide +kernel
theorem dk_M_75 : decode c_M_init 75 = .ok (.aload_n 0, 1) ∧ 75 + 1 = 76 := by decide +kernel
theorem dk_M_76 : decode c_M_init 76 = .ok (.bipush 12, 2) ∧ 76 + 2 = 78 := by decide +kernel
theorem dk_M_78 : decode c_M_init 78 = .ok (.newarray .int, 2) ∧ 78 + 2 = 80 := by decide +kernel
theorem dk_M_80 : decode c_M_init 80 = .ok (.putfield 37, 3) ∧ 80 + 3 = 83 := by decide +kernel
theorem dk_M_83 : decode c_M_init 83 = .ok (.aload_n 0, 1) ∧ 83 + 1 = 84 := by decide +kernel
theorem dk_M_84 : decode c_M_init 84 = .ok (.bipush 12, 2) ∧ 84 + 2 = 86 := by decide +kernel
theorem dk_M_86 : decode c_M_init 86 = .ok (.newarray .int, 2) ∧ 86 + 2 = 88 := by decide +kernel
theorem dk_M_88 : decode c_M_init 88 = .ok (.putfield 40, 3) ∧ 88 + 3 = 91 := by decide +kernel
theorem dk_M_91 : decode c_M_init 91 = .ok (.aload_n 0, 1) ∧ 91 + 1 = 92 := by decide +kernel
theorem dk_M_92 : decode c_M_init 92 = .ok (.bipush 60, 2) ∧ 92 + 2 = 94 := by decide +kernel
theorem dk_M_94 : decode c_M_init 94 = .ok (.newarray .int, 2) ∧ 94 + 2 = 96 := by decide +kernel
theorem dk_M_96 : decode c_M_init 96 = .ok (.putfield 43, 3) ∧ 96 + 3 = 99 := by decide +kernel
theorem dk_M_99 : decode c_M_init 99 = .ok (.aload_n 0, 1) ∧ 99 + 1 = 100 := by decide +kernel
theorem dk_M_100 : decode c_M_init 100 = .ok (.bipush 60, 2) ∧ 100 + 2 = 102 := by decide +kernel
theorem dk_M_102 : decode c_M_init 102 = .ok (.newarray .int, 2) ∧ 102 + 2 = 104 := by decide +kernel
theorem dk_M_104 : decode c_M_init 104 = .ok (.putfield 46, 3) ∧ 104 + 3 = 107 := by decide +kernel
theorem dk_M_107 : decode c_M_init 107 = .ok (.aload_n 0, 1) ∧ 107 + 1 = 108 := by decide +kernel
theorem dk_M_108 : decode c_M_init 108 = .ok (.bipush 60, 2) ∧ 108 + 2 = 110 := by decide +kernel
theorem dk_M_110 : decode c_M_init 110 = .ok (.newarray .int, 2) ∧ 110 + 2 = 112 := by decide +kernel
theorem dk_M_112 : decode c_M_init 112 = .ok (.putfield 49, 3) ∧ 112 + 3 = 115 := by decide +kernel
theorem dk_M_115 : decode c_M_init 115 = .ok (.aload_n 0, 1) ∧ 115 + 1 = 116 := by decide +kernel
theorem dk_M_116 : decode c_M_init 116 = .ok (.bipush 60, 2) ∧ 116 + 2 = 118 := by decide +kernel
theorem dk_M_118 : decode c_M_init 118 = .ok (.newarray .int, 2) ∧ 118 + 2 = 120 := by decide +kernel
theorem dk_M_120 : decode c_M_init 120 = .ok (.putfield 52, 3) ∧ 120 + 3 = 123 := by decide +kernel
theorem dk_M_123 : decode c_M_init 123 = .ok (.aload_n 0, 1) ∧ 123 + 1 = 124 := by decide +kernel
theorem dk_M_124 : decode c_M_init 124 = .ok (.bipush 60, 2) ∧ 124 + 2 = 126 := by decide +kernel
theorem dk_M_126 : decode c_M_init 126 = .ok (.newarray .int, 2) ∧ 126 + 2 = 128 := by decide +kernel
theorem dk_M_128 : decode c_M_init 128 = .ok (.putfield 55, 3) ∧ 128 + 3 = 131 := by decide +kernel
theorem dk_M_131 : decode c_M_init 131 = .ok (.aload_n 0, 1) ∧ 131 + 1 = 132 := by decide +kernel
theorem dk_M_132 : decode c_M_init 132 = .ok (.bipush 60, 2) ∧ 132 + 2 = 134 := by decide +kernel
theorem dk_M_134 : decode c_M_init 134 = .ok (.newarray .int, 2) ∧ 134 + 2 = 136 := by decide +kernel
theorem dk_M_136 : decode c_M_init 136 = .ok (.putfield 58, 3) ∧ 136 + 3 = 139 := by decide +kernel
theorem dk_M_139 : decode c_M_init 139 = .ok (.aload_n 0, 1) ∧ 139 + 1 = 140 := by decide +kernel
theorem dk_M_140 : decode c_M_init 140 = .ok (.bipush 7, 2) ∧ 140 + 2 = 142 := by decide +kernel
theorem dk_M_142 : decode c_M_init 142 = .ok (.newarray .long, 2) ∧ 142 + 2 = 144 := by decide +kernel
theorem dk_M_144 : decode c_M_init 144 = .ok (.putfield 61, 3) ∧ 144 + 3 = 147 := by decide +kernel
theorem dk_M_147 : decode c_M_init 147 = .ok (.aload_n 0, 1) ∧ 147 + 1 = 148 := by decide +kernel
theorem dk_M_148 : decode c_M_init 148 = .ok (.sipush 420, 3) ∧ 148 + 3 = 151 := by decide +kernel
theorem dk_M_151 : decode c_M_init 151 = .ok (.newarray .int, 2) ∧ 151 + 2 = 153 := by decide +kernel
theorem dk_M_153 : decode c_M_init 153 = .ok (.putfield 65, 3) ∧ 153 + 3 = 156 := by decide +kernel
theorem dk_M_156 : decode c_M_init 156 = .ok (.aload_n 0, 1) ∧ 156 + 1 = 157 := by decide +kernel
theorem dk_M_157 : decode c_M_init 157 = .ok (.bipush 10, 2) ∧ 157 + 2 = 159 := by decide +kernel
theorem dk_M_159 : decode c_M_init 159 = .ok (.newarray .int, 2) ∧ 159 + 2 = 161 := by decide +kernel
theorem dk_M_161 : decode c_M_init 161 = .ok (.putfield 68, 3) ∧ 161 + 3 = 164 := by decide +kernel
theorem dk_M_164 : decode c_M_init 164 = .ok (.aload_n 0, 1) ∧ 164 + 1 = 165 := by decide +kernel
theorem dk_M_165 : decode c_M_init 165 = .ok (.bipush 10, 2) ∧ 165 + 2 = 167 := by decide +kernel
theorem dk_M_167 : decode c_M_init 167 = .ok (.newarray .int, 2) ∧ 167 + 2 = 169 := by decide +kernel
theorem dk_M_169 : decode c_M_init 169 = .ok (.putfield 71, 3) ∧ 169 + 3 = 172 := by decide +kernel
theorem dk_M_172 : decode c_M_init 172 = .ok (.aload_n 0, 1) ∧ 172 + 1 = 173 := by decide +kernel
theorem dk_M_173 : decode c_M_init 173 = .ok (.bipush 10, 2) ∧ 173 + 2 = 175 := by decide +kernel
theorem dk_M_175 : decode c_M_init 175 = .ok (.newarray .int, 2) ∧ 175 + 2 = 177 := by decide +kernel
theorem dk_M_177 : decode c_M_init 177 = .ok (.putfield 74, 3) ∧ 177 + 3 = 180 := by decide +kernel
theorem dk_M_180 : decode c_M_init 180 = .ok (.aload_n 0, 1) ∧ 180 + 1 = 181 := by decide +kernel
theorem dk_M_181 : decode c_M_init 181 = .ok (.bipush 10, 2) ∧ 181 + 2 = 183 := by decide +kernel
theorem dk_M_183 : decode c_M_init 183 = .ok (.newarray .int, 2) ∧ 183 + 2 = 185 := by decide +kernel
theorem dk_M_185 : decode c_M_init 185 = .ok (.putfield 77, 3) ∧ 185 + 3 = 188 := by decide +kernel
theorem dk_M_188 : decode c_M_init 188 = .ok (.aload_n 0, 1) ∧ 188 + 1 = 189 := by decide +kernel
theorem dk_M_189 : decode c_M_init 189 = .ok (.bipush 60, 2) ∧ 189 + 2 = 191 := by decide +kernel
theorem dk_M_191 : decode c_M_init 191 = .ok (.newarray .int, 2) ∧ 191 + 2 = 193 := by decide +kernel
theorem dk_M_193 : decode c_M_init 193 = .ok (.putfield 80, 3) ∧ 193 + 3 = 196 := by decide +kernel
theorem dk_M_196 : decode c_M_init 196 = .ok (.aload_n 0, 1) ∧ 196 + 1 = 197 := by decide +kernel
theorem dk_M_197 : decode c_M_init 197 = .ok (.bipush 60, 2) ∧ 197 + 2 = 199 := by decide +kernel
theorem dk_M_199 : decode c_M_init 199 = .ok (.newarray .int, 2) ∧ 199 + 2 = 201 := by decide +kernel
theorem dk_M_201 : decode c_M_init 201 = .ok (.putfield 83, 3) ∧ 201 + 3 = 204 := by decide +kernel
theorem dk_M_204 : decode c_M_init 204 = .ok (.aload_n 0, 1) ∧ 204 + 1 = 205 := by decide +kernel
theorem dk_M_205 : decode c_M_init 205 = .ok (.bipush 6, 2) ∧ 205 + 2 = 207 := by decide +kernel
theorem dk_M_207 : decode c_M_init 207 = .ok (.newarray .int, 2) ∧ 207 + 2 = 209 := by decide +kernel
theorem dk_M_209 : decode c_M_init 209 = .ok (.putfield 86, 3) ∧ 209 + 3 = 212 := by decide +kernel
theorem dk_M_212 : decode c_M_init 212 = .ok (.aload_n 0, 1) ∧ 212 + 1 = 213 := by decide +kernel
theorem dk_M_213 : decode c_M_init 213 = .ok (.bipush 6, 2) ∧ 213 + 2 = 215 := by decide +kernel
theorem dk_M_215 : decode c_M_init 215 = .ok (.newarray .int, 2) ∧ 215 + 2 = 217 := by decide +kernel
theorem dk_M_217 : decode c_M_init 217 = .ok (.putfield 89, 3) ∧ 217 + 3 = 220 := by decide +kernel
theorem dk_M_220 : decode c_M_init 220 = .ok (.aload_n 0, 1) ∧ 220 + 1 = 221 := by decide +kernel
theorem dk_M_221 : decode c_M_init 221 = .ok (.bipush 12, 2) ∧ 221 + 2 = 223 := by decide +kernel
theorem dk_M_223 : decode c_M_init 223 = .ok (.newarray .int, 2) ∧ 223 + 2 = 225 := by decide +kernel
theorem dk_M_225 : decode c_M_init 225 = .ok (.putfield 92, 3) ∧ 225 + 3 = 228 := by decide +kernel
theorem dk_M_228 : decode c_M_init 228 = .ok (.aload_n 0, 1) ∧ 228 + 1 = 229 := by decide +kernel
theorem dk_M_229 : decode c_M_init 229 = .ok (.bipush 12, 2) ∧ 229 + 2 = 231 := by decide +kernel
theorem dk_M_231 : decode c_M_init 231 = .ok (.newarray .int, 2) ∧ 231 + 2 = 233 := by decide +kernel
theorem dk_M_233 : decode c_M_init 233 = .ok (.putfield 95, 3) ∧ 233 + 3 = 236 := by decide +kernel
theorem dk_M_236 : decode c_M_init 236 = .ok (.aload_n 0, 1) ∧ 236 + 1 = 237 := by decide +kernel
theorem dk_M_237 : decode c_M_init 237 = .ok (.bipush 12, 2) ∧ 237 + 2 = 239 := by decide +kernel
theorem dk_M_239 : decode c_M_init 239 = .ok (.newarray .int, 2) ∧ 239 + 2 = 241 := by decide +kernel
theorem dk_M_241 : decode c_M_init 241 = .ok (.putfield 98, 3) ∧ 241 + 3 = 244 := by decide +kernel
theorem dk_M_244 : decode c_M_init 244 = .ok (.aload_n 0, 1) ∧ 244 + 1 = 245 := by decide +kernel
theorem dk_M_245 : decode c_M_init 245 = .ok (.bipush 12, 2) ∧ 245 + 2 = 247 := by decide +kernel
theorem dk_M_247 : decode c_M_init 247 = .ok (.newarray .int, 2) ∧ 247 + 2 = 249 := by decide +kernel
theorem dk_M_249 : decode c_M_init 249 = .ok (.putfield 101, 3) ∧ 249 + 3 = 252 := by decide +kernel
theorem dk_M_252 : decode c_M_init 252 = .ok (.aload_n 0, 1) ∧ 252 + 1 = 253 := by decide +kernel
theorem dk_M_253 : decode c_M_init 253 = .ok (.bipush 20, 2) ∧ 253 + 2 = 255 := by decide +kernel
theorem dk_M_255 : decode c_M_init 255 = .ok (.newarray .int, 2) ∧ 255 + 2 = 257 := by decide +kernel
theorem dk_M_257 : decode c_M_init 257 = .ok (.putfield 104, 3) ∧ 257 + 3 = 260 := by decide +kernel
theorem dk_M_260 : decode c_M_init 260 = .ok (.aload_n 0, 1) ∧ 260 + 1 = 261 := by decide +kernel
theorem dk_M_261 : decode c_M_init 261 = .ok (.bipush 20, 2) ∧ 261 + 2 = 263 := by decide +kernel
theorem dk_M_263 : decode c_M_init 263 = .ok (.newarray .int, 2) ∧ 263 + 2 = 265 := by decide +kernel
theorem dk_M_265 : decode c_M_init 265 = .ok (.putfield 107, 3) ∧ 265 + 3 = 268 := by decide +kernel
theorem dk_M_268 : decode c_M_init 268 = .ok (.aload_n 0, 1) ∧ 268 + 1 = 269 := by decide +kernel
theorem dk_M_269 : decode c_M_init 269 = .ok (.bipush 20, 2) ∧ 269 + 2 = 271 := by decide +kernel
theorem dk_M_271 : decode c_M_init 271 = .ok (.newarray .int, 2) ∧ 271 + 2 = 273 := by decide +kernel
theorem dk_M_273 : decode c_M_init 273 = .ok (.putfield 110, 3) ∧ 273 + 3 = 276 := by decide +kernel
theorem dk_M_276 : decode c_M_init 276 = .ok (.aload_n 0, 1) ∧ 276 + 1 = 277 := by decide +kernel
theorem dk_M_277 : decode c_M_init 277 = .ok (.bipush 20, 2) ∧ 277 + 2 = 279 := by decide +kernel
theorem dk_M_279 : decode c_M_init 279 = .ok (.newarray .int, 2) ∧ 279 + 2 = 281 := by decide +kernel
theorem dk_M_281 : decode c_M_init 281 = .ok (.putfield 113, 3) ∧ 281 + 3 = 284 := by decide +kernel
theorem dk_M_284 : decode c_M_init 284 = .ok (.aload_n 0, 1) ∧ 284 + 1 = 285 := by decide +kernel
theorem dk_M_285 : decode c_M_init 285 = .ok (.bipush 20, 2) ∧ 285 + 2 = 287 := by decide +kernel
theorem dk_M_287 : decode c_M_init 287 = .ok (.newarray .int, 2) ∧ 287 + 2 = 289 := by decide +kernel
theorem dk_M_289 : decode c_M_init 289 = .ok (.putfield 116, 3) ∧ 289 + 3 = 292 := by decide +kernel
theorem dk_M_292 : decode c_M_init 292 = .ok (.aload_n 0, 1) ∧ 292 + 1 = 293 := by decide +kernel
theorem dk_M_293 : decode c_M_init 293 = .ok (.bipush 20, 2) ∧ 293 + 2 = 295 := by decide +kernel
theorem dk_M_295 : decode c_M_init 295 = .ok (.newarray .int, 2) ∧ 295 + 2 = 297 := by decide +kernel
theorem dk_M_297 : decode c_M_init 297 = .ok (.putfield 119, 3) ∧ 297 + 3 = 300 := by decide +kernel
theorem dk_M_300 : decode c_M_init 300 = .ok (.aload_n 0, 1) ∧ 300 + 1 = 301 := by decide +kernel
theorem dk_M_301 : decode c_M_init 301 = .ok (.bipush 20, 2) ∧ 301 + 2 = 303 := by decide +kernel
theorem dk_M_303 : decode c_M_init 303 = .ok (.newarray .int, 2) ∧ 303 + 2 = 305 := by decide +kernel
theorem dk_M_305 : decode c_M_init 305 = .ok (.putfield 122, 3) ∧ 305 + 3 = 308 := by decide +kernel
theorem dk_M_308 : decode c_M_init 308 = .ok (.aload_n 0, 1) ∧ 308 + 1 = 309 := by decide +kernel
theorem dk_M_309 : decode c_M_init 309 = .ok (.sipush 1200, 3) ∧ 309 + 3 = 312 := by decide +kernel
theorem dk_M_312 : decode c_M_init 312 = .ok (.newarray .int, 2) ∧ 312 + 2 = 314 := by decide +kernel
theorem dk_M_314 : decode c_M_init 314 = .ok (.putfield 125, 3) ∧ 314 + 3 = 317 := by decide +kernel
theorem dk_M_317 : decode c_M_init 317 = .ok (.aload_n 0, 1) ∧ 317 + 1 = 318 := by decide +kernel
theorem dk_M_318 : decode c_M_init 318 = .ok (.sipush 1200, 3) ∧ 318 + 3 = 321 := by decide +kernel
theorem dk_M_321 : decode c_M_init 321 = .ok (.newarray .int, 2) ∧ 321 + 2 = 323 := by decide +kernel
theorem dk_M_323 : decode c_M_init 323 = .ok (.putfield 128, 3) ∧ 323 + 3 = 326 := by decide +kernel
theorem dk_M_326 : decode c_M_init 326 = .ok (.aload_n 0, 1) ∧ 326 + 1 = 327 := by decide +kernel
theorem dk_M_327 : decode c_M_init 327 = .ok (.sipush 1200, 3) ∧ 327 + 3 = 330 := by decide +kernel
theorem dk_M_330 : decode c_M_init 330 = .ok (.newarray .int, 2) ∧ 330 + 2 = 332 := by decide +kernel
theorem dk_M_332 : decode c_M_init 332 = .ok (.putfield 131, 3) ∧ 332 + 3 = 335 := by decide +kernel
theorem dk_M_335 : decode c_M_init 335 = .ok (.aload_n 0, 1) ∧ 335 + 1 = 336 := by decide +kernel
theorem dk_M_336 : decode c_M_init 336 = .ok (.bipush 100, 2) ∧ 336 + 2 = 338 := by decide +kernel
theorem dk_M_338 : decode c_M_init 338 = .ok (.newarray .int, 2) ∧ 338 + 2 = 340 := by decide +kernel
theorem dk_M_340 : decode c_M_init 340 = .ok (.putfield 134, 3) ∧ 340 + 3 = 343 := by decide +kernel
theorem dk_M_343 : decode c_M_init 343 = .ok (.aload_n 0, 1) ∧ 343 + 1 = 344 := by decide +kernel
theorem dk_M_344 : decode c_M_init 344 = .ok (.bipush 10, 2) ∧ 344 + 2 = 346 := by decide +kernel
theorem dk_M_346 : decode c_M_init 346 = .ok (.newarray .int, 2) ∧ 346 + 2 = 348 := by decide +kernel
theorem dk_M_348 : decode c_M_init 348 = .ok (.putfield 137, 3) ∧ 348 + 3 = 351 := by decide +kernel
theorem dk_M_351 : decode c_M_init 351 = .ok (.aload_n 0, 1) ∧ 351 + 1 = 352 := by decide +kernel
theorem dk_M_352 : decode c_M_init 352 = .ok (.bipush 10, 2) ∧ 352 + 2 = 354 := by decide +kernel
theorem dk_M_354 : decode c_M_init 354 = .ok (.newarray .int, 2) ∧ 354 + 2 = 356 := by decide +kernel
theorem dk_M_356 : decode c_M_init 356 = .ok (.putfield 140, 3) ∧ 356 + 3 = 359 := by decide +kernel
theorem dk_M_359 : decode c_M_init 359 = .ok (.aload_n 0, 1) ∧ 359 + 1 = 360 := by decide +kernel
theorem dk_M_360 : decode c_M_init 360 = .ok (.iconst 4, 1) ∧ 360 + 1 = 361 := by decide +kernel
theorem dk_M_361 : decode c_M_init 361 = .ok (.newarray .int, 2) ∧ 361 + 2 = 363 := by decide +kernel
theorem dk_M_363 : decode c_M_init 363 = .ok (.putfield 143, 3) ∧ 363 + 3 = 366 := by decide +kernel
theorem dk_M_366 : decode c_M_init 366 = .ok (.aload_n 0, 1) ∧ 366 + 1 = 367 := by decide +kernel
theorem dk_M_367 : decode c_M_init 367 = .ok (.bipush 100, 2) ∧ 367 + 2 = 369 := by decide +kernel
theorem dk_M_369 : decode c_M_init 369 = .ok (.newarray .int, 2) ∧ 369 + 2 = 371 := by decide +kernel
theorem dk_M_371 : decode c_M_init 371 = .ok (.putfield 146, 3) ∧ 371 + 3 = 374 := by decide +kernel
theorem dk_M_374 : decode c_M_init 374 = .ok (.aload_n 0, 1) ∧ 374 + 1 = 375 := by decide +kernel
theorem dk_M_375 : decode c_M_init 375 = .ok (.bipush 100, 2) ∧ 375 + 2 = 377 := by decide +kernel
theorem dk_M_377 : decode c_M_init 377 = .ok (.newarray .int, 2) ∧ 377 + 2 = 379 := by decide +kernel
theorem dk_M_379 : decode c_M_init 379 = .ok (.putfield 149, 3) ∧ 379 + 3 = 382 := by decide +kernel
theorem dk_M_382 : decode c_M_init 382 = .ok (.aload_n 0, 1) ∧ 382 + 1 = 383 := by decide +kernel
theorem dk_M_383 : decode c_M_init 383 = .ok (.bipush 10, 2) ∧ 383 + 2 = 385 := by decide +kernel
theorem dk_M_385 : decode c_M_init 385 = .ok (.newarray .int, 2) ∧ 385 + 2 = 387 := by decide +kernel
theorem dk_M_387 : decode c_M_init 387 = .ok (.putfield 152, 3) ∧ 387 + 3 = 390 := by decide +kernel
theorem dk_M_390 : decode c_M_init 390 = .ok (.aload_n 0, 1) ∧ 390 + 1 = 391 := by decide +kernel
theorem dk_M_391 : decode c_M_init 391 = .ok (.bipush 80, 2) ∧ 391 + 2 = 393 := by decide +kernel
theorem dk_M_393 : decode c_M_init 393 = .ok (.newarray .int, 2) ∧ 393 + 2 = 395 := by decide +kernel
theorem dk_M_395 : decode c_M_init 395 = .ok (.putfield 155, 3) ∧ 395 + 3 = 398 := by decide +kernel
theorem dk_M_398 : decode c_M_init 398 = .ok (.aload_n 0, 1) ∧ 398 + 1 = 399 := by decide +kernel
theorem dk_M_399 : decode c_M_init 399 = .ok (.bipush 20, 2) ∧ 399 + 2 = 401 := by decide +kernel
theorem dk_M_401 : decode c_M_init 401 = .ok (.newarray .int, 2) ∧ 401 + 2 = 403 := by decide +kernel
theorem dk_M_403 : decode c_M_init 403 = .ok (.putfield 158, 3) ∧ 403 + 3 = 406 := by decide +kernel
theorem dk_M_406 : decode c_M_init 406 = .ok (.aload_n 0, 1) ∧ 406 + 1 = 407 := by decide +kernel
theorem dk_M_407 : decode c_M_init 407 = .ok (.bipush 20, 2) ∧ 407 + 2 = 409 := by decide +kernel
theorem dk_M_409 : decode c_M_init 409 = .ok (.newarray .int, 2) ∧ 409 + 2 = 411 := by decide +kernel
theorem dk_M_411 : decode c_M_init 411 = .ok (.putfield 161, 3) ∧ 411 + 3 = 414 := by decide +kernel
theorem dk_M_414 : decode c_M_init 414 = .ok (.aload_n 0, 1) ∧ 414 + 1 = 415 := by decide +kernel
theorem dk_M_415 : decode c_M_init 415 = .ok (.bipush 20, 2) ∧ 415 + 2 = 417 := by decide +kernel
theorem dk_M_417 : decode c_M_init 417 = .ok (.newarray .int, 2) ∧ 417 + 2 = 419 := by decide +kernel
theorem dk_M_419 : decode c_M_init 419 = .ok (.putfield 164, 3) ∧ 419 + 3 = 422 := by decide +kernel
theorem dk_M_422 : decode c_M_init 422 = .ok (.aload_n 0, 1) ∧ 422 + 1 = 423 := by decide +kernel
theorem dk_M_423 : decode c_M_init 423 = .ok (.bipush 20, 2) ∧ 423 + 2 = 425 := by decide +kernel
theorem dk_M_425 : decode c_M_init 425 = .ok (.newarray .int, 2) ∧ 425 + 2 = 427 := by decide +kernel
theorem dk_M_427 : decode c_M_init 427 = .ok (.putfield 167, 3) ∧ 427 + 3 = 430 := by decide +kernel
theorem dk_M_430 : decode c_M_init 430 = .ok (.aload_n 0, 1) ∧ 430 + 1 = 431 := by decide +kernel
theorem dk_M_431 : decode c_M_init 431 = .ok (.bipush 9, 2) ∧ 431 + 2 = 433 := by decide +kernel
theorem dk_M_433 : decode c_M_init 433 = .ok (.newarray .int, 2) ∧ 433 + 2 = 435 := by decide +kernel
theorem dk_M_435 : decode c_M_init 435 = .ok (.putfield 170, 3) ∧ 435 + 3 = 438 := by decide +kernel
theorem dk_M_438 : decode c_M_init 438 = .ok (.aload_n 0, 1) ∧ 438 + 1 = 439 := by decide +kernel
theorem dk_M_439 : decode c_M_init 439 = .ok (.bipush 9, 2) ∧ 439 + 2 = 441 := by decide +kernel
theorem dk_M_441 : decode c_M_init 441 = .ok (.newarray .int, 2) ∧ 441 + 2 = 443 := by decide +kernel
theorem dk_M_443 : decode c_M_init 443 = .ok (.putfield 173, 3) ∧ 443 + 3 = 446 := by decide +kernel
theorem dk_M_446 : decode c_M_init 446 = .ok (.aload_n 0, 1) ∧ 446 + 1 = 447 := by decide +kernel
theorem dk_M_447 : decode c_M_init 447 = .ok (.bipush 9, 2) ∧ 447 + 2 = 449 := by decide +kernel
theorem dk_M_449 : decode c_M_init 449 = .ok (.newarray .int, 2) ∧ 449 + 2 = 451 := by decide +kernel
theorem dk_M_451 : decode c_M_init 451 = .ok (.putfield 176, 3) ∧ 451 + 3 = 454 := by decide +kernel
theorem dk_M_454 : decode c_M_init 454 = .ok (.aload_n 0, 1) ∧ 454 + 1 = 455 := by decide +kernel
theorem dk_M_455 : decode c_M_init 455 = .ok (.bipush 9, 2) ∧ 455 + 2 = 457 := by decide +kernel
theorem dk_M_457 : decode c_M_init 457 = .ok (.newarray .int, 2) ∧ 457 + 2 = 459 := by decide +kernel
theorem dk_M_459 : decode c_M_init 459 = .ok (.putfield 179, 3) ∧ 459 + 3 = 462 := by decide +kernel
theorem dk_M_462 : decode c_M_init 462 = .ok (.aload_n 0, 1) ∧ 462 + 1 = 463 := by decide +kernel
theorem dk_M_463 : decode c_M_init 463 = .ok (.bipush 9, 2) ∧ 463 + 2 = 465 := by decide +kernel
theorem dk_M_465 : decode c_M_init 465 = .ok (.newarray .int, 2) ∧ 465 + 2 = 467 := by decide +kernel
theorem dk_M_467 : decode c_M_init 467 = .ok (.putfield 182, 3) ∧ 467 + 3 = 470 := by decide +kernel
theorem dk_M_470 : decode c_M_init 470 = .ok (.aload_n 0, 1) ∧ 470 + 1 = 471 := by decide +kernel
theorem dk_M_471 : decode c_M_init 471 = .ok (.iconst 4, 1) ∧ 471 + 1 = 472 := by decide +kernel
theorem dk_M_472 : decode c_M_init 472 = .ok (.newarray .int, 2) ∧ 472 + 2 = 474 := by decide +kernel
theorem dk_M_474 : decode c_M_init 474 = .ok (.putfield 185, 3) ∧ 474 + 3 = 477 := by decide +kernel
theorem dk_M_477 : decode c_M_init 477 = .ok (.aload_n 0, 1) ∧ 477 + 1 = 478 := by decide +kernel
theorem dk_M_478 : decode c_M_init 478 = .ok (.iconst 4, 1) ∧ 478 + 1 = 479 := by decide +kernel
theorem dk_M_479 : decode c_M_init 479 = .ok (.newarray .int, 2) ∧ 479 + 2 = 481 := by decide +kernel
theorem dk_M_481 : decode c_M_init 481 = .ok (.putfield 188, 3) ∧ 481 + 3 = 484 := by decide +kernel
theorem dk_M_484 : decode c_M_init 484 = .ok (.aload_n 0, 1) ∧ 484 + 1 = 485 := by decide +kernel
theorem dk_M_485 : decode c_M_init 485 = .ok (.sipush 240, 3) ∧ 485 + 3 = 488 := by decide +kernel
theorem dk_M_488 : decode c_M_init 488 = .ok (.newarray .int, 2) ∧ 488 + 2 = 490 := by decide +kernel
theorem dk_M_490 : decode c_M_init 490 = .ok (.putfield 191, 3) ∧ 490 + 3 = 493 := by decide +kernel
theorem dk_M_493 : decode c_M_init 493 = .ok (.aload_n 0, 1) ∧ 493 + 1 = 494 := by decide +kernel
theorem dk_M_494 : decode c_M_init 494 = .ok (.bipush 60, 2) ∧ 494 + 2 = 496 := by decide +kernel
theorem dk_M_496 : decode c_M_init 496 = .ok (.newarray .int, 2) ∧ 496 + 2 = 498 := by decide +kernel
theorem dk_M_498 : decode c_M_init 498 = .ok (.putfield 194, 3) ∧ 498 + 3 = 501 := by decide +kernel
theorem dk_M_501 : decode c_M_init 501 = .ok (.iconst 0, 1) ∧ 501 + 1 = 502 := by decide +kernel
theorem dk_M_502 : decode c_M_init 502 = .ok (.istore_n 1, 1) ∧ 502 + 1 = 503 := by decide +kernel
theorem dk_M_503 : decode c_M_init 503 = .ok (.iload_n 1, 1) ∧ 503 + 1 = 504 := by decide +kernel
theorem dk_M_504 : decode c_M_init 504 = .ok (.bipush 10, 2) ∧ 504 + 2 = 506 := by decide +kernel
theorem dk_M_506 : decode c_M_init 506 = .ok (.if_icmp .ge 16, 3) ∧ 506 + 3 = 509 ∧ ((506 : Nat) : Int) + 16 = ((522 : Nat) : Int) := by decide +kernel
theorem dk_M_509 : decode c_M_init 509 = .ok (.aload_n 0, 1) ∧ 509 + 1 = 510 := by decide +kernel
theorem dk_M_510 : decode c_M_init 510 = .ok (.getfield 140, 3) ∧ 510 + 3 = 513 := by decide +kernel
theorem dk_M_513 : decode c_M_init 513 = .ok (.iload_n 1, 1) ∧ 513 + 1 = 514 := by decide +kernel
theorem dk_M_514 : decode c_M_init 514 = .ok (.iconst 1, 1) ∧ 514 + 1 = 515 := by decide +kernel
theorem dk_M_515 : decode c_M_init 515 = .ok (.iastore, 1) ∧ 515 + 1 = 516 := by decide +kernel
theorem dk_M_516 : decode c_M_init 516 = .ok (.iinc 1 1, 3) ∧ 516 + 3 = 519 := by decide +kernel
theorem dk_M_519 : decode c_M_init 519 = .ok (.goto (-16), 3) ∧ ((519 : Nat) : Int) + (-16) = ((503 : Nat) : Int) := by decide +kernel
theorem dk_M_522 : decode c_M_init 522 = .ok (.iconst 0, 1) ∧ 522 + 1 = 523 := by decide +kernel
theorem dk_M_523 : decode c_M_init 523 = .ok (.istore_n 1, 1) ∧ 523 + 1 = 524 := by decide +kernel
theorem dk_M_524 : decode c_M_init 524 = .ok (.iload_n 1, 1) ∧ 524 + 1 = 525 := by decide +kernel
theorem dk_M_525 : decode c_M_init 525 = .ok (.iconst 4, 1) ∧ 525 + 1 = 526 := by decide +kernel
theorem dk_M_526 : decode c_M_init 526 = .ok (.if_icmp .ge 16, 3) ∧ 526 + 3 = 529 ∧ ((526 : Nat) : Int) + 16 = ((542 : Nat) : Int) := by decide +kernel
theorem dk_M_529 : decode c_M_init 529 = .ok (.aload_n 0, 1) ∧ 529 + 1 = 530 := by decide +kernel
theorem dk_M_530 : decode c_M_init 530 = .ok (.getfield 185, 3) ∧ 530 + 3 = 533 := by decide +kernel
theorem dk_M_533 : decode c_M_init 533 = .ok (.iload_n 1, 1) ∧ 533 + 1 = 534 := by decide +kernel
theorem dk_M_534 : decode c_M_init 534 = .ok (.iconst (-1), 1) ∧ 534 + 1 = 535 := by decide +kernel
theorem dk_M_535 : decode c_M_init 535 = .ok (.iastore, 1) ∧ 535 + 1 = 536 := by decide +kernel
theorem dk_M_536 : decode c_M_init 536 = .ok (.iinc 1 1, 3) ∧ 536 + 3 = 539 := by decide +kernel
theorem dk_M_539 : decode c_M_init 539 = .ok (.goto (-15), 3) ∧ ((539 : Nat) : Int) + (-15) = ((524 : Nat) : Int) := by decide +kernel
theorem dk_M_542 : decode c_M_init 542 = .ok (.return_, 1) := by decide +kernel
abbrev rm_M : Room := { frames := 1, cells := 62, slots := 5822, locals := 20 }
set_option maxHeartbeats 4000000 in
set_option maxRecDepth 20000 in
theorem mk_M {l : Launch} {D : va_G} {cI cJ : ClassId} {h0 : Nat} : CtK l D cl_YM cI cJ y_M_init c_M_init 2 rm_M h0 [] (.inr (0, kZ fl_M)) (fun a => kW cI cJ 0 fl_M ar_M kFm a 62) 62 5822 := by
  refine CtK.of pn_M rfl (Nat.le_of_ble_eq_true rfl) rfl (fun Γ h => ?_)
  have h : IsK l D cl_YM cI cJ R_M c_M_init 2 rm_M h0 (.inr (0, kZ fl_M)) (fun a => kW cI cJ 0 fl_M ar_M kFm a 62) 62 5822 Γ := h
  have e0 : [(h0, (.inr (0, kZ fl_M) : va_E))] = kW cI cJ 0 fl_M ar_M kF0 (fun _ => h0) 0 := by unfold kW; rw [kF_0 _ (by decide)]; rfl
  rw [e0]
  refine k_aload h dk_M_0 0 rfl rfl ?_
  refine k_obj h ⟨tw_1173, tw_101, tw_102⟩ ⟨by decide, by decide⟩ dk_M_1 ?_
  refine k_aload h dk_M_4 0 rfl rfl ?_
  refine k_bipush h dk_M_5 (v := 16) (by decide) ?_
  refine k_newI h (N := 16) tw_138 ⟨by decide, by decide, by decide⟩ ⟨by decide, by decide⟩ dk_M_7 (fun q1 => ?_)
  refine k_fin h (j := 4) (t := 0) rfl rfl cf_M ⟨by decide, by decide, by decide⟩ tw_1178 (fun z => ⟨rfl, rfl⟩) ⟨rfl, by decide⟩ rfl rfl dk_M_9 ?_
  refine k_aload h dk_M_12 0 rfl rfl ?_
  refine k_bipush h dk_M_13 (v := 6) (by decide) ?_
  refine k_newI h (N := 6) tw_138 ⟨by decide, by decide, by decide⟩ ⟨by decide, by decide⟩ dk_M_15 (fun q2 => ?_)
  refine k_fin h (j := 5) (t := 1) rfl rfl cf_M ⟨by decide, by decide, by decide⟩ tw_1179 (fun z => ⟨rfl, rfl⟩) ⟨rfl, by decide⟩ rfl rfl dk_M_17 ?_
  refine k_aload h dk_M_20 0 rfl rfl ?_
  refine k_bipush h dk_M_21 (v := 6) (by decide) ?_
  refine k_newI h (N := 6) tw_138 ⟨by decide, by decide, by decide⟩ ⟨by decide, by decide⟩ dk_M_23 (fun q3 => ?_)
  refine k_fin h (j := 6) (t := 2) rfl rfl cf_M ⟨by decide, by decide, by decide⟩ tw_1180 (fun z => ⟨rfl, rfl⟩) ⟨rfl, by decide⟩ rfl rfl dk_M_25 ?_
  refine k_aload h dk_M_28 0 rfl rfl ?_
  refine k_iconst h dk_M_29 (v := 4) (by decide) ?_
  refine k_newI h (N := 4) tw_138 ⟨by decide, by decide, by decide⟩ ⟨by decide, by decide⟩ dk_M_30 (fun q4 => ?_)
  refine k_fin h (j := 7) (t := 3) rfl rfl cf_M ⟨by decide, by decide, by decide⟩ tw_1181 (fun z => ⟨rfl, rfl⟩) ⟨rfl, by decide⟩ rfl rfl dk_M_32 ?_
  refine k_aload h dk_M_35 0 rfl rfl ?_
  refine k_bipush h dk_M_36 (v := 40) (by decide) ?_
  refine k_newI h (N := 40) tw_138 ⟨by decide, by decide, by decide⟩ ⟨by decide, by decide⟩ dk_M_38 (fun q5 => ?_)
  refine k_fin h (j := 9) (t := 4) rfl rfl cf_M ⟨by decide, by decide, by decide⟩ tw_1183 (fun z => ⟨rfl, rfl⟩) ⟨rfl, by decide⟩ rfl rfl dk_M_40 ?_
  refine k_aload h dk_M_43 0 rfl rfl ?_
  refine k_bipush h dk_M_44 (v := 40) (by decide) ?_
  refine k_newI h (N := 40) tw_138 ⟨by decide, by decide, by decide⟩ ⟨by decide, by decide⟩ dk_M_46 (fun q6 => ?_)
  refine k_fin h (j := 10) (t := 5) rfl rfl cf_M ⟨by decide, by decide, by decide⟩ tw_1184 (fun z => ⟨rfl, rfl⟩) ⟨rfl, by decide⟩ rfl rfl dk_M_48 ?_
  refine k_aload h dk_M_51 0 rfl rfl ?_
  refine k_bipush h dk_M_52 (v := 40) (by decide) ?_
  refine k_newI h (N := 40) tw_138 ⟨by decide, by decide, by decide⟩ ⟨by decide, by decide⟩ dk_M_54 (fun q7 => ?_)
  refine k_fin h (j := 11) (t := 6) rfl rfl cf_M ⟨by decide, by decide, by decide⟩ tw_1185 (fun z => ⟨rfl, rfl⟩) ⟨rfl, by decide⟩ rfl rfl dk_M_56 ?_
  refine k_aload h dk_M_59 0 rfl rfl ?_
  refine k_bipush h dk_M_60 (v := 40) (by decide) ?_
  refine k_newI h (N := 40) tw_138 ⟨by decide, by decide, by decide⟩ ⟨by decide, by decide⟩ dk_M_62 (fun q8 => ?_)
  refine k_fin h (j := 12) (t := 7) rfl rfl cf_M ⟨by decide, by decide, by decide⟩ tw_1186 (fun z => ⟨rfl, rfl⟩) ⟨rfl, by decide⟩ rfl rfl dk_M_64 ?_
  refine k_aload h dk_M_67 0 rfl rfl ?_
  refine k_bipush h dk_M_68 (v := 12) (by decide) ?_
  refine k_newI h (N := 12) tw_138 ⟨by decide, by decide, by decide⟩ ⟨by decide, by decide⟩ dk_M_70 (fun q9 => ?_)
  refine k_fin h (j := 14) (t := 8) rfl rfl cf_M ⟨by decide, by decide, by decide⟩ tw_1188 (fun z => ⟨rfl, rfl⟩) ⟨rfl, by decide⟩ rfl rfl dk_M_72 ?_
  refine k_aload h dk_M_75 0 rfl rfl ?_
  refine k_bipush h dk_M_76 (v := 12) (by decide) ?_
  refine k_newI h (N := 12) tw_138 ⟨by decide, by decide, by decide⟩ ⟨by decide, by decide⟩ dk_M_78 (fun q10 => ?_)
  refine k_fin h (j := 15) (t := 9) rfl rfl cf_M ⟨by decide, by decide, by decide⟩ tw_1189 (fun z => ⟨rfl, rfl⟩) ⟨rfl, by decide⟩ rfl rfl dk_M_80 ?_
  refine k_aload h dk_M_83 0 rfl rfl ?_
  refine k_bipush h dk_M_84 (v := 12) (by decide) ?_
  refine k_newI h (N := 12) tw_138 ⟨by decide, by decide, by decide⟩ ⟨by decide, by decide⟩ dk_M_86 (fun q11 => ?_)
  refine k_fin h (j := 16) (t := 10) rfl rfl cf_M ⟨by decide, by decide, by decide⟩ tw_1190 (fun z => ⟨rfl, rfl⟩) ⟨rfl, by decide⟩ rfl rfl dk_M_88 ?_
  refine k_aload h dk_M_91 0 rfl rfl ?_
  refine k_bipush h dk_M_92 (v := 60) (by decide) ?_
  refine k_newI h (N := 60) tw_138 ⟨by decide, by decide, by decide⟩ ⟨by decide, by decide⟩ dk_M_94 (fun q12 => ?_)
  refine k_fin h (j := 18) (t := 11) rfl rfl cf_M ⟨by decide, by decide, by decide⟩ tw_1192 (fun z => ⟨rfl, rfl⟩) ⟨rfl, by decide⟩ rfl rfl dk_M_96 ?_
  refine k_aload h dk_M_99 0 rfl rfl ?_
  refine k_bipush h dk_M_100 (v := 60) (by decide) ?_
  refine k_newI h (N := 60) tw_138 ⟨by decide, by decide, by decide⟩ ⟨by decide, by decide⟩ dk_M_102 (fun q13 => ?_)
  refine k_fin h (j := 19) (t := 12) rfl rfl cf_M ⟨by decide, by decide, by decide⟩ tw_1193 (fun z => ⟨rfl, rfl⟩) ⟨rfl, by decide⟩ rfl rfl dk_M_104 ?_
  refine k_aload h dk_M_107 0 rfl rfl ?_
  refine k_bipush h dk_M_108 (v := 60) (by decide) ?_
  refine k_newI h (N := 60) tw_138 ⟨by decide, by decide, by decide⟩ ⟨by decide, by decide⟩ dk_M_110 (fun q14 => ?_)
  refine k_fin h (j := 20) (t := 13) rfl rfl cf_M ⟨by decide, by decide, by decide⟩ tw_1194 (fun z => ⟨rfl, rfl⟩) ⟨rfl, by decide⟩ rfl rfl dk_M_112 ?_
  refine k_aload h dk_M_115 0 rfl rfl ?_
  refine k_bipush h dk_M_116 (v := 60) (by decide) ?_
  refine k_newI h (N := 60) tw_138 ⟨by decide, by decide, by decide⟩ ⟨by decide, by decide⟩ dk_M_118 (fun q15 => ?_)
  refine k_fin h (j := 21) (t := 14) rfl rfl cf_M ⟨by decide, by decide, by decide⟩ tw_1195 (fun z => ⟨rfl, rfl⟩) ⟨rfl, by decide⟩ rfl rfl dk_M_120 ?_
  refine k_aload h dk_M_123 0 rfl rfl ?_
  refine k_bipush h dk_M_124 (v := 60) (by decide) ?_
  refine k_newI h (N := 60) tw_138 ⟨by decide, by decide, by decide⟩ ⟨by decide, by decide⟩ dk_M_126 (fun q16 => ?_)
  refine k_fin h (j := 22) (t := 15) rfl rfl cf_M ⟨by decide, by decide, by decide⟩ tw_1196 (fun z => ⟨rfl, rfl⟩) ⟨rfl, by decide⟩ rfl rfl dk_M_128 ?_
  refine k_aload h dk_M_131 0 rfl rfl ?_
  refine k_bipush h dk_M_132 (v := 60) (by decide) ?_
  refine k_newI h (N := 60) tw_138 ⟨by decide, by decide, by decide⟩ ⟨by decide, by decide⟩ dk_M_134 (fun q17 => ?_)
  refine k_fin h (j := 23) (t := 16) rfl rfl cf_M ⟨by decide, by decide, by decide⟩ tw_1197 (fun z => ⟨rfl, rfl⟩) ⟨rfl, by decide⟩ rfl rfl dk_M_136 ?_
  refine k_aload h dk_M_139 0 rfl rfl ?_
  refine k_bipush h dk_M_140 (v := 7) (by decide) ?_
  refine k_newJ h (N := 7) tw_266 ⟨by decide, by decide, by decide⟩ ⟨by decide, by decide⟩ dk_M_142 (fun q18 => ?_)
  refine k_fin h (j := 24) (t := 17) rfl rfl cf_M ⟨by decide, by decide, by decide⟩ tw_1198 (fun z => ⟨rfl, rfl⟩) ⟨rfl, by decide⟩ rfl rfl dk_M_144 ?_
  refine k_aload h dk_M_147 0 rfl rfl ?_
  refine k_sipush h dk_M_148 (v := 420) (by decide) ?_
  refine k_newI h (N := 420) tw_138 ⟨by decide, by decide, by decide⟩ ⟨by decide, by decide⟩ dk_M_151 (fun q19 => ?_)
  refine k_fin h (j := 25) (t := 18) rfl rfl cf_M ⟨by decide, by decide, by decide⟩ tw_1199 (fun z => ⟨rfl, rfl⟩) ⟨rfl, by decide⟩ rfl rfl dk_M_153 ?_
  refine k_aload h dk_M_156 0 rfl rfl ?_
  refine k_bipush h dk_M_157 (v := 10) (by decide) ?_
  refine k_newI h (N := 10) tw_138 ⟨by decide, by decide, by decide⟩ ⟨by decide, by decide⟩ dk_M_159 (fun q20 => ?_)
  refine k_fin h (j := 27) (t := 19) rfl rfl cf_M ⟨by decide, by decide, by decide⟩ tw_1201 (fun z => ⟨rfl, rfl⟩) ⟨rfl, by decide⟩ rfl rfl dk_M_161 ?_
  refine k_aload h dk_M_164 0 rfl rfl ?_
  refine k_bipush h dk_M_165 (v := 10) (by decide) ?_
  refine k_newI h (N := 10) tw_138 ⟨by decide, by decide, by decide⟩ ⟨by decide, by decide⟩ dk_M_167 (fun q21 => ?_)
  refine k_fin h (j := 28) (t := 20) rfl rfl cf_M ⟨by decide, by decide, by decide⟩ tw_1202 (fun z => ⟨rfl, rfl⟩) ⟨rfl, by decide⟩ rfl rfl dk_M_169 ?_
  refine k_aload h dk_M_172 0 rfl rfl ?_
  refine k_bipush h dk_M_173 (v := 10) (by decide) ?_
  refine k_newI h (N := 10) tw_138 ⟨by decide, by decide, by decide⟩ ⟨by decide, by decide⟩ dk_M_175 (fun q22 => ?_)
  refine k_fin h (j := 29) (t := 21) rfl rfl cf_M ⟨by decide, by decide, by decide⟩ tw_1203 (fun z => ⟨rfl, rfl⟩) ⟨rfl, by decide⟩ rfl rfl dk_M_177 ?_
  refine k_aload h dk_M_180 0 rfl rfl ?_
  refine k_bipush h dk_M_181 (v := 10) (by decide) ?_
  refine k_newI h (N := 10) tw_138 ⟨by decide, by decide, by decide⟩ ⟨by decide, by decide⟩ dk_M_183 (fun q23 => ?_)
  refine k_fin h (j := 30) (t := 22) rfl rfl cf_M ⟨by decide, by decide, by decide⟩ tw_1204 (fun z => ⟨rfl, rfl⟩) ⟨rfl, by decide⟩ rfl rfl dk_M_185 ?_
  refine k_aload h dk_M_188 0 rfl rfl ?_
  refine k_bipush h dk_M_189 (v := 60) (by decide) ?_
  refine k_newI h (N := 60) tw_138 ⟨by decide, by decide, by decide⟩ ⟨by decide, by decide⟩ dk_M_191 (fun q24 => ?_)
  refine k_fin h (j := 31) (t := 23) rfl rfl cf_M ⟨by decide, by decide, by decide⟩ tw_1205 (fun z => ⟨rfl, rfl⟩) ⟨rfl, by decide⟩ rfl rfl dk_M_193 ?_
  refine k_aload h dk_M_196 0 rfl rfl ?_
  refine k_bipush h dk_M_197 (v := 60) (by decide) ?_
  refine k_newI h (N := 60) tw_138 ⟨by decide, by decide, by decide⟩ ⟨by decide, by decide⟩ dk_M_199 (fun q25 => ?_)
  refine k_fin h (j := 32) (t := 24) rfl rfl cf_M ⟨by decide, by decide, by decide⟩ tw_1206 (fun z => ⟨rfl, rfl⟩) ⟨rfl, by decide⟩ rfl rfl dk_M_201 ?_
  refine k_aload h dk_M_204 0 rfl rfl ?_
  refine k_bipush h dk_M_205 (v := 6) (by decide) ?_
  refine k_newI h (N := 6) tw_138 ⟨by decide, by decide, by decide⟩ ⟨by decide, by decide⟩ dk_M_207 (fun q26 => ?_)
  refine k_fin h (j := 34) (t := 25) rfl rfl cf_M ⟨by decide, by decide, by decide⟩ tw_1208 (fun z => ⟨rfl, rfl⟩) ⟨rfl, by decide⟩ rfl rfl dk_M_209 ?_
  refine k_aload h dk_M_212 0 rfl rfl ?_
  refine k_bipush h dk_M_213 (v := 6) (by decide) ?_
  refine k_newI h (N := 6) tw_138 ⟨by decide, by decide, by decide⟩ ⟨by decide, by decide⟩ dk_M_215 (fun q27 => ?_)
  refine k_fin h (j := 35) (t := 26) rfl rfl cf_M ⟨by decide, by decide, by decide⟩ tw_1209 (fun z => ⟨rfl, rfl⟩) ⟨rfl, by decide⟩ rfl rfl dk_M_217 ?_
  refine k_aload h dk_M_220 0 rfl rfl ?_
  refine k_bipush h dk_M_221 (v := 12) (by decide) ?_
  refine k_newI h (N := 12) tw_138 ⟨by decide, by decide, by decide⟩ ⟨by decide, by decide⟩ dk_M_223 (fun q28 => ?_)
  refine k_fin h (j := 37) (t := 27) rfl rfl cf_M ⟨by decide, by decide, by decide⟩ tw_1211 (fun z => ⟨rfl, rfl⟩) ⟨rfl, by decide⟩ rfl rfl dk_M_225 ?_
  refine k_aload h dk_M_228 0 rfl rfl ?_
  refine k_bipush h dk_M_229 (v := 12) (by decide) ?_
  refine k_newI h (N := 12) tw_138 ⟨by decide, by decide, by decide⟩ ⟨by decide, by decide⟩ dk_M_231 (fun q29 => ?_)
  refine k_fin h (j := 38) (t := 28) rfl rfl cf_M ⟨by decide, by decide, by decide⟩ tw_1212 (fun z => ⟨rfl, rfl⟩) ⟨rfl, by decide⟩ rfl rfl dk_M_233 ?_
  refine k_aload h dk_M_236 0 rfl rfl ?_
  refine k_bipush h dk_M_237 (v := 12) (by decide) ?_
  refine k_newI h (N := 12) tw_138 ⟨by decide, by decide, by decide⟩ ⟨by decide, by decide⟩ dk_M_239 (fun q30 => ?_)
  refine k_fin h (j := 39) (t := 29) rfl rfl cf_M ⟨by decide, by decide, by decide⟩ tw_1213 (fun z => ⟨rfl, rfl⟩) ⟨rfl, by decide⟩ rfl rfl dk_M_241 ?_
  refine k_aload h dk_M_244 0 rfl rfl ?_
  refine k_bipush h dk_M_245 (v := 12) (by decide) ?_
  refine k_newI h (N := 12) tw_138 ⟨by decide, by decide, by decide⟩ ⟨by decide, by decide⟩ dk_M_247 (fun q31 => ?_)
  refine k_fin h (j := 40) (t := 30) rfl rfl cf_M ⟨by decide, by decide, by decide⟩ tw_1214 (fun z => ⟨rfl, rfl⟩) ⟨rfl, by decide⟩ rfl rfl dk_M_249 ?_
  refine k_aload h dk_M_252 0 rfl rfl ?_
  refine k_bipush h dk_M_253 (v := 20) (by decide) ?_
  refine k_newI h (N := 20) tw_138 ⟨by decide, by decide, by decide⟩ ⟨by decide, by decide⟩ dk_M_255 (fun q32 => ?_)
  refine k_fin h (j := 42) (t := 31) rfl rfl cf_M ⟨by decide, by decide, by decide⟩ tw_1216 (fun z => ⟨rfl, rfl⟩) ⟨rfl, by decide⟩ rfl rfl dk_M_257 ?_
  refine k_aload h dk_M_260 0 rfl rfl ?_
  refine k_bipush h dk_M_261 (v := 20) (by decide) ?_
  refine k_newI h (N := 20) tw_138 ⟨by decide, by decide, by decide⟩ ⟨by decide, by decide⟩ dk_M_263 (fun q33 => ?_)
  refine k_fin h (j := 43) (t := 32) rfl rfl cf_M ⟨by decide, by decide, by decide⟩ tw_1217 (fun z => ⟨rfl, rfl⟩) ⟨rfl, by decide⟩ rfl rfl dk_M_265 ?_
  refine k_aload h dk_M_268 0 rfl rfl ?_
  refine k_bipush h dk_M_269 (v := 20) (by decide) ?_
  refine k_newI h (N := 20) tw_138 ⟨by decide, by decide, by decide⟩ ⟨by decide, by decide⟩ dk_M_271 (fun q34 => ?_)
  refine k_fin h (j := 44) (t := 33) rfl rfl cf_M ⟨by decide, by decide, by decide⟩ tw_1218 (fun z => ⟨rfl, rfl⟩) ⟨rfl, by decide⟩ rfl rfl dk_M_273 ?_
  refine k_aload h dk_M_276 0 rfl rfl ?_
  refine k_bipush h dk_M_277 (v := 20) (by decide) ?_
  refine k_newI h (N := 20) tw_138 ⟨by decide, by decide, by decide⟩ ⟨by decide, by decide⟩ dk_M_279 (fun q35 => ?_)
  refine k_fin h (j := 45) (t := 34) rfl rfl cf_M ⟨by decide, by decide, by decide⟩ tw_1219 (fun z => ⟨rfl, rfl⟩) ⟨rfl, by decide⟩ rfl rfl dk_M_281 ?_
  refine k_aload h dk_M_284 0 rfl rfl ?_
  refine k_bipush h dk_M_285 (v := 20) (by decide) ?_
  refine k_newI h (N := 20) tw_138 ⟨by decide, by decide, by decide⟩ ⟨by decide, by decide⟩ dk_M_287 (fun q36 => ?_)
  refine k_fin h (j := 46) (t := 35) rfl rfl cf_M ⟨by decide, by decide, by decide⟩ tw_1220 (fun z => ⟨rfl, rfl⟩) ⟨rfl, by decide⟩ rfl rfl dk_M_289 ?_
  refine k_aload h dk_M_292 0 rfl rfl ?_
  refine k_bipush h dk_M_293 (v := 20) (by decide) ?_
  refine k_newI h (N := 20) tw_138 ⟨by decide, by decide, by decide⟩ ⟨by decide, by decide⟩ dk_M_295 (fun q37 => ?_)
  refine k_fin h (j := 47) (t := 36) rfl rfl cf_M ⟨by decide, by decide, by decide⟩ tw_1221 (fun z => ⟨rfl, rfl⟩) ⟨rfl, by decide⟩ rfl rfl dk_M_297 ?_
  refine k_aload h dk_M_300 0 rfl rfl ?_
  refine k_bipush h dk_M_301 (v := 20) (by decide) ?_
  refine k_newI h (N := 20) tw_138 ⟨by decide, by decide, by decide⟩ ⟨by decide, by decide⟩ dk_M_303 (fun q38 => ?_)
  refine k_fin h (j := 48) (t := 37) rfl rfl cf_M ⟨by decide, by decide, by decide⟩ tw_1222 (fun z => ⟨rfl, rfl⟩) ⟨rfl, by decide⟩ rfl rfl dk_M_305 ?_
  refine k_aload h dk_M_308 0 rfl rfl ?_
  refine k_sipush h dk_M_309 (v := 1200) (by decide) ?_
  refine k_newI h (N := 1200) tw_138 ⟨by decide, by decide, by decide⟩ ⟨by decide, by decide⟩ dk_M_312 (fun q39 => ?_)
  refine k_fin h (j := 50) (t := 38) rfl rfl cf_M ⟨by decide, by decide, by decide⟩ tw_1224 (fun z => ⟨rfl, rfl⟩) ⟨rfl, by decide⟩ rfl rfl dk_M_314 ?_
  refine k_aload h dk_M_317 0 rfl rfl ?_
  refine k_sipush h dk_M_318 (v := 1200) (by decide) ?_
  refine k_newI h (N := 1200) tw_138 ⟨by decide, by decide, by decide⟩ ⟨by decide, by decide⟩ dk_M_321 (fun q40 => ?_)
  refine k_fin h (j := 51) (t := 39) rfl rfl cf_M ⟨by decide, by decide, by decide⟩ tw_1225 (fun z => ⟨rfl, rfl⟩) ⟨rfl, by decide⟩ rfl rfl dk_M_323 ?_
  refine k_aload h dk_M_326 0 rfl rfl ?_
  refine k_sipush h dk_M_327 (v := 1200) (by decide) ?_
  refine k_newI h (N := 1200) tw_138 ⟨by decide, by decide, by decide⟩ ⟨by decide, by decide⟩ dk_M_330 (fun q41 => ?_)
  refine k_fin h (j := 52) (t := 40) rfl rfl cf_M ⟨by decide, by decide, by decide⟩ tw_1226 (fun z => ⟨rfl, rfl⟩) ⟨rfl, by decide⟩ rfl rfl dk_M_332 ?_
  refine k_aload h dk_M_335 0 rfl rfl ?_
  refine k_bipush h dk_M_336 (v := 100) (by decide) ?_
  refine k_newI h (N := 100) tw_138 ⟨by decide, by decide, by decide⟩ ⟨by decide, by decide⟩ dk_M_338 (fun q42 => ?_)
  refine k_fin h (j := 53) (t := 41) rfl rfl cf_M ⟨by decide, by decide, by decide⟩ tw_1227 (fun z => ⟨rfl, rfl⟩) ⟨rfl, by decide⟩ rfl rfl dk_M_340 ?_
  refine k_aload h dk_M_343 0 rfl rfl ?_
  refine k_bipush h dk_M_344 (v := 10) (by decide) ?_
  refine k_newI h (N := 10) tw_138 ⟨by decide, by decide, by decide⟩ ⟨by decide, by decide⟩ dk_M_346 (fun q43 => ?_)
  refine k_fin h (j := 54) (t := 42) rfl rfl cf_M ⟨by decide, by decide, by decide⟩ tw_1228 (fun z => ⟨rfl, rfl⟩) ⟨rfl, by decide⟩ rfl rfl dk_M_348 ?_
  refine k_aload h dk_M_351 0 rfl rfl ?_
  refine k_bipush h dk_M_352 (v := 10) (by decide) ?_
  refine k_newI h (N := 10) tw_138 ⟨by decide, by decide, by decide⟩ ⟨by decide, by decide⟩ dk_M_354 (fun q44 => ?_)
  refine k_fin h (j := 55) (t := 43) rfl rfl cf_M ⟨by decide, by decide, by decide⟩ tw_1229 (fun z => ⟨rfl, rfl⟩) ⟨rfl, by decide⟩ rfl rfl dk_M_356 ?_
  refine k_aload h dk_M_359 0 rfl rfl ?_
  refine k_iconst h dk_M_360 (v := 4) (by decide) ?_
  refine k_newI h (N := 4) tw_138 ⟨by decide, by decide, by decide⟩ ⟨by decide, by decide⟩ dk_M_361 (fun q45 => ?_)
  refine k_fin h (j := 57) (t := 44) rfl rfl cf_M ⟨by decide, by decide, by decide⟩ tw_1231 (fun z => ⟨rfl, rfl⟩) ⟨rfl, by decide⟩ rfl rfl dk_M_363 ?_
  refine k_aload h dk_M_366 0 rfl rfl ?_
  refine k_bipush h dk_M_367 (v := 100) (by decide) ?_
  refine k_newI h (N := 100) tw_138 ⟨by decide, by decide, by decide⟩ ⟨by decide, by decide⟩ dk_M_369 (fun q46 => ?_)
  refine k_fin h (j := 58) (t := 45) rfl rfl cf_M ⟨by decide, by decide, by decide⟩ tw_1232 (fun z => ⟨rfl, rfl⟩) ⟨rfl, by decide⟩ rfl rfl dk_M_371 ?_
  refine k_aload h dk_M_374 0 rfl rfl ?_
  refine k_bipush h dk_M_375 (v := 100) (by decide) ?_
  refine k_newI h (N := 100) tw_138 ⟨by decide, by decide, by decide⟩ ⟨by decide, by decide⟩ dk_M_377 (fun q47 => ?_)
  refine k_fin h (j := 59) (t := 46) rfl rfl cf_M ⟨by decide, by decide, by decide⟩ tw_1233 (fun z => ⟨rfl, rfl⟩) ⟨rfl, by decide⟩ rfl rfl dk_M_379 ?_
  refine k_aload h dk_M_382 0 rfl rfl ?_
  refine k_bipush h dk_M_383 (v := 10) (by decide) ?_
  refine k_newI h (N := 10) tw_138 ⟨by decide, by decide, by decide⟩ ⟨by decide, by decide⟩ dk_M_385 (fun q48 => ?_)
  refine k_fin h (j := 61) (t := 47) rfl rfl cf_M ⟨by decide, by decide, by decide⟩ tw_1235 (fun z => ⟨rfl, rfl⟩) ⟨rfl, by decide⟩ rfl rfl dk_M_387 ?_
  refine k_aload h dk_M_390 0 rfl rfl ?_
  refine k_bipush h dk_M_391 (v := 80) (by decide) ?_
  refine k_newI h (N := 80) tw_138 ⟨by decide, by decide, by decide⟩ ⟨by decide, by decide⟩ dk_M_393 (fun q49 => ?_)
  refine k_fin h (j := 62) (t := 48) rfl rfl cf_M ⟨by decide, by decide, by decide⟩ tw_1236 (fun z => ⟨rfl, rfl⟩) ⟨rfl, by decide⟩ rfl rfl dk_M_395 ?_
  refine k_aload h dk_M_398 0 rfl rfl ?_
  refine k_bipush h dk_M_399 (v := 20) (by decide) ?_
  refine k_newI h (N := 20) tw_138 ⟨by decide, by decide, by decide⟩ ⟨by decide, by decide⟩ dk_M_401 (fun q50 => ?_)
  refine k_fin h (j := 64) (t := 49) rfl rfl cf_M ⟨by decide, by decide, by decide⟩ tw_1238 (fun z => ⟨rfl, rfl⟩) ⟨rfl, by decide⟩ rfl rfl dk_M_403 ?_
  refine k_aload h dk_M_406 0 rfl rfl ?_
  refine k_bipush h dk_M_407 (v := 20) (by decide) ?_
  refine k_newI h (N := 20) tw_138 ⟨by decide, by decide, by decide⟩ ⟨by decide, by decide⟩ dk_M_409 (fun q51 => ?_)
  refine k_fin h (j := 65) (t := 50) rfl rfl cf_M ⟨by decide, by decide, by decide⟩ tw_1239 (fun z => ⟨rfl, rfl⟩) ⟨rfl, by decide⟩ rfl rfl dk_M_411 ?_
  refine k_aload h dk_M_414 0 rfl rfl ?_
  refine k_bipush h dk_M_415 (v := 20) (by decide) ?_
  refine k_newI h (N := 20) tw_138 ⟨by decide, by decide, by decide⟩ ⟨by decide, by decide⟩ dk_M_417 (fun q52 => ?_)
  refine k_fin h (j := 66) (t := 51) rfl rfl cf_M ⟨by decide, by decide, by decide⟩ tw_1240 (fun z => ⟨rfl, rfl⟩) ⟨rfl, by decide⟩ rfl rfl dk_M_419 ?_
  refine k_aload h dk_M_422 0 rfl rfl ?_
  refine k_bipush h dk_M_423 (v := 20) (by decide) ?_
  refine k_newI h (N := 20) tw_138 ⟨by decide, by decide, by decide⟩ ⟨by decide, by decide⟩ dk_M_425 (fun q53 => ?_)
  refine k_fin h (j := 67) (t := 52) rfl rfl cf_M ⟨by decide, by decide, by decide⟩ tw_1241 (fun z => ⟨rfl, rfl⟩) ⟨rfl, by decide⟩ rfl rfl dk_M_427 ?_
  refine k_aload h dk_M_430 0 rfl rfl ?_
  refine k_bipush h dk_M_431 (v := 9) (by decide) ?_
  refine k_newI h (N := 9) tw_138 ⟨by decide, by decide, by decide⟩ ⟨by decide, by decide⟩ dk_M_433 (fun q54 => ?_)
  refine k_fin h (j := 69) (t := 53) rfl rfl cf_M ⟨by decide, by decide, by decide⟩ tw_1243 (fun z => ⟨rfl, rfl⟩) ⟨rfl, by decide⟩ rfl rfl dk_M_435 ?_
  refine k_aload h dk_M_438 0 rfl rfl ?_
  refine k_bipush h dk_M_439 (v := 9) (by decide) ?_
  refine k_newI h (N := 9) tw_138 ⟨by decide, by decide, by decide⟩ ⟨by decide, by decide⟩ dk_M_441 (fun q55 => ?_)
  refine k_fin h (j := 70) (t := 54) rfl rfl cf_M ⟨by decide, by decide, by decide⟩ tw_1244 (fun z => ⟨rfl, rfl⟩) ⟨rfl, by decide⟩ rfl rfl dk_M_443 ?_
  refine k_aload h dk_M_446 0 rfl rfl ?_
  refine k_bipush h dk_M_447 (v := 9) (by decide) ?_
  refine k_newI h (N := 9) tw_138 ⟨by decide, by decide, by decide⟩ ⟨by decide, by decide⟩ dk_M_449 (fun q56 => ?_)
  refine k_fin h (j := 71) (t := 55) rfl rfl cf_M ⟨by decide, by decide, by decide⟩ tw_1245 (fun z => ⟨rfl, rfl⟩) ⟨rfl, by decide⟩ rfl rfl dk_M_451 ?_
  refine k_aload h dk_M_454 0 rfl rfl ?_
  refine k_bipush h dk_M_455 (v := 9) (by decide) ?_
  refine k_newI h (N := 9) tw_138 ⟨by decide, by decide, by decide⟩ ⟨by decide, by decide⟩ dk_M_457 (fun q57 => ?_)
  refine k_fin h (j := 72) (t := 56) rfl rfl cf_M ⟨by decide, by decide, by decide⟩ tw_1246 (fun z => ⟨rfl, rfl⟩) ⟨rfl, by decide⟩ rfl rfl dk_M_459 ?_
  refine k_aload h dk_M_462 0 rfl rfl ?_
  refine k_bipush h dk_M_463 (v := 9) (by decide) ?_
  refine k_newI h (N := 9) tw_138 ⟨by decide, by decide, by decide⟩ ⟨by decide, by decide⟩ dk_M_465 (fun q58 => ?_)
  refine k_fin h (j := 73) (t := 57) rfl rfl cf_M ⟨by decide, by decide, by decide⟩ tw_1247 (fun z => ⟨rfl, rfl⟩) ⟨rfl, by decide⟩ rfl rfl dk_M_467 ?_
  refine k_aload h dk_M_470 0 rfl rfl ?_
  refine k_iconst h dk_M_471 (v := 4) (by decide) ?_
  refine k_newI h (N := 4) tw_138 ⟨by decide, by decide, by decide⟩ ⟨by decide, by decide⟩ dk_M_472 (fun q59 => ?_)
  refine k_fin h (j := 74) (t := 58) rfl rfl cf_M ⟨by decide, by decide, by decide⟩ tw_1248 (fun z => ⟨rfl, rfl⟩) ⟨rfl, by decide⟩ rfl rfl dk_M_474 ?_
  refine k_aload h dk_M_477 0 rfl rfl ?_
  refine k_iconst h dk_M_478 (v := 4) (by decide) ?_
  refine k_newI h (N := 4) tw_138 ⟨by decide, by decide, by decide⟩ ⟨by decide, by decide⟩ dk_M_479 (fun q60 => ?_)
  refine k_fin h (j := 75) (t := 59) rfl rfl cf_M ⟨by decide, by decide, by decide⟩ tw_1249 (fun z => ⟨rfl, rfl⟩) ⟨rfl, by decide⟩ rfl rfl dk_M_481 ?_
  refine k_aload h dk_M_484 0 rfl rfl ?_
  refine k_sipush h dk_M_485 (v := 240) (by decide) ?_
  refine k_newI h (N := 240) tw_138 ⟨by decide, by decide, by decide⟩ ⟨by decide, by decide⟩ dk_M_488 (fun q61 => ?_)
  refine k_fin h (j := 76) (t := 60) rfl rfl cf_M ⟨by decide, by decide, by decide⟩ tw_1250 (fun z => ⟨rfl, rfl⟩) ⟨rfl, by decide⟩ rfl rfl dk_M_490 ?_
  refine k_aload h dk_M_493 0 rfl rfl ?_
  refine k_bipush h dk_M_494 (v := 60) (by decide) ?_
  refine k_newI h (N := 60) tw_138 ⟨by decide, by decide, by decide⟩ ⟨by decide, by decide⟩ dk_M_496 (fun q62 => ?_)
  refine k_fin h (j := 77) (t := 61) rfl rfl cf_M ⟨by decide, by decide, by decide⟩ tw_1251 (fun z => ⟨rfl, rfl⟩) ⟨rfl, by decide⟩ rfl rfl dk_M_498 ?_
  -- the two loops
  refine k_iconst h dk_M_501 (v := 0) (by decide) ?_
  refine k_istore h dk_M_502 rfl (by decide) rfl ?_
  have lp2 : ∀ (j i : Nat) (a : Nat → Nat) (F : Nat → Nat → Int32), i + j = 4 → a 0 = h0 → (∀ x, F 59 x = if x < i then -1 else 0) → (∀ c, c ≠ 59 → F c = kFm c) → Γ 524 [(1, .int (nI i)), (0, .ref h0)] [] (kW cI cJ 0 fl_M ar_M F a 62) 62 5822 := by
    intro j
    induction j with
    | zero =>
      intro i a F hi ha h1 h2
      have : i = 4 := by omega
      subst this
      refine k_iload h dk_M_524 0 rfl rfl ?_
      refine k_iconst h dk_M_525 (v := 4) (by decide) ?_
      refine k_ge h dk_M_526 (fun _ => ?_) (fun z => absurd (by decide) z)
      have e : F = kFm := by
        funext c
        by_cases q : c = 59
        · subst q
          funext x
          rw [h1 x]
          rfl
        · exact h2 c q
      subst e
      exact k_ret h a ha rfl dk_M_542
    | succ j ih =>
      intro i a F hi ha h1 h2
      refine k_iload h dk_M_524 0 rfl rfl ?_
      refine k_iconst h dk_M_525 (v := 4) (by decide) ?_
      refine k_ge h dk_M_526 (fun z => absurd z (n_cmp (c := 4) (by omega) (by omega))) (fun _ => ?_)
      refine k_aload h dk_M_529 1 rfl rfl ?_
      rw [show (.ref h0 : Value) = .ref (a 0) by rw [ha]]
      refine k_get h (ci := 0) (j := 74) (v := .ref (a 59)) rfl cf_M ⟨by decide, by decide⟩ tw_1248 rfl dk_M_530 ?_
      refine k_iload h dk_M_533 0 rfl rfl ?_
      refine k_iconst h dk_M_534 (v := -1) (by decide) ?_
      refine k_iastW h (t := 58) (N := 4) (by decide) rfl rfl (n_inb (by omega) (by decide)) dk_M_535 ?_
      refine k_iinc h dk_M_536 0 rfl (v := 1) (by decide) (by decide) rfl ?_
      rw [nI_1]
      refine k_goto h dk_M_539 ?_
      rw [ha]
      refine ih (i + 1) a _ (by omega) ha (fun x => ?_) (fun c hc => ?_)
      · rw [if_pos rfl, n_tn (by omega), upd_at]
        by_cases q : x = i
        · rw [if_pos q, if_pos (by omega)]
        · rw [if_neg q]
          rw [h1 x]
          by_cases q2 : x < i
          · rw [if_pos q2, if_pos (by omega)]
          · rw [if_neg q2, if_neg (by omega)]
      · rw [if_neg hc]; exact h2 c hc
  have lp1 : ∀ (j i : Nat) (a : Nat → Nat) (F : Nat → Nat → Int32), i + j = 10 → a 0 = h0 → (∀ x, F 44 x = if x < i then 1 else 0) → (∀ c, c ≠ 44 → F c = fun _ => 0) → Γ 503 [(1, .int (nI i)), (0, .ref h0)] [] (kW cI cJ 0 fl_M ar_M F a 62) 62 5822 := by
    intro j
    induction j with
    | zero =>
      intro i a F hi ha h1 h2
      have : i = 10 := by omega
      subst this
      refine k_iload h dk_M_503 0 rfl rfl ?_
      refine k_bipush h dk_M_504 (v := 10) (by decide) ?_
      refine k_ge h dk_M_506 (fun _ => ?_) (fun z => absurd (by decide) z)
      refine k_iconst h dk_M_522 (v := 0) (by decide) ?_
      refine k_istore h dk_M_523 rfl (by decide) rfl ?_
      refine lp2 4 0 a F (by omega) ha (fun x => ?_) (fun c hc => ?_)
      · rw [h2 59 (by decide), if_neg (by omega)]
      · by_cases q : c = 44
        · subst q
          funext x
          rw [h1 x]
          rfl
        · rw [h2 c q]
          unfold kFm
          rw [if_neg hc, if_neg q]
    | succ j ih =>
      intro i a F hi ha h1 h2
      refine k_iload h dk_M_503 0 rfl rfl ?_
      refine k_bipush h dk_M_504 (v := 10) (by decide) ?_
      refine k_ge h dk_M_506 (fun z => absurd z (n_cmp (c := 10) (by omega) (by omega))) (fun _ => ?_)
      refine k_aload h dk_M_509 1 rfl rfl ?_
      rw [show (.ref h0 : Value) = .ref (a 0) by rw [ha]]
      refine k_get h (ci := 0) (j := 55) (v := .ref (a 44)) rfl cf_M ⟨by decide, by decide⟩ tw_1229 rfl dk_M_510 ?_
      refine k_iload h dk_M_513 0 rfl rfl ?_
      refine k_iconst h dk_M_514 (v := 1) (by decide) ?_
      refine k_iastW h (t := 43) (N := 10) (by decide) rfl rfl (n_inb (by omega) (by decide)) dk_M_515 ?_
      refine k_iinc h dk_M_516 0 rfl (v := 1) (by decide) (by decide) rfl ?_
      rw [nI_1]
      refine k_goto h dk_M_519 ?_
      rw [ha]
      refine ih (i + 1) a _ (by omega) ha (fun x => ?_) (fun c hc => ?_)
      · rw [if_pos rfl, n_tn (by omega), upd_at]
        by_cases q : x = i
        · rw [if_pos q, if_pos (by omega)]
        · rw [if_neg q]
          rw [h1 x]
          by_cases q2 : x < i
          · rw [if_pos q2, if_pos (by omega)]
          · rw [if_neg q2, if_neg (by omega)]
      · rw [if_neg hc]; exact h2 c hc
  exact lp1 10 0 _ kF0 (by omega) rfl (fun x => by rw [if_neg (by omega)]; rfl) (fun c _ => rfl)
