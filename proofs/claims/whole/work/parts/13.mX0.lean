theorem dc_X0_holds_0 : Dc miX0_holds 0 (.iconst 1) 1 1 := ⟨by decide +kernel, rfl⟩
theorem dc_X0_holds_1 : Dc miX0_holds 1 (.istore_n 3) 1 2 := ⟨by decide +kernel, rfl⟩
theorem dc_X0_holds_2 : Dc miX0_holds 2 (.iconst 0) 1 3 := ⟨by decide +kernel, rfl⟩
theorem dc_X0_holds_3 : Dc miX0_holds 3 (.istore 4) 2 5 := ⟨by decide +kernel, rfl⟩
theorem dc_X0_holds_5 : Dc miX0_holds 5 (.iconst 0) 1 6 := ⟨by decide +kernel, rfl⟩
theorem dc_X0_holds_6 : Dc miX0_holds 6 (.istore 5) 2 8 := ⟨by decide +kernel, rfl⟩
theorem dc_X0_holds_8 : Dc miX0_holds 8 (.iload_n 1) 1 9 := ⟨by decide +kernel, rfl⟩
theorem dc_X0_holds_9 : Dc miX0_holds 9 (.istore 6) 2 11 := ⟨by decide +kernel, rfl⟩
theorem dc_X0_holds_11 : Dc miX0_holds 11 (.iload 6) 2 13 := ⟨by decide +kernel, rfl⟩
theorem dc_X0_holds_13 : Dc miX0_holds 13 (.ifCond .lt 271) 3 16 := ⟨by decide +kernel, rfl⟩
theorem dc_X0_holds_16 : Dc miX0_holds 16 (.iload 6) 2 18 := ⟨by decide +kernel, rfl⟩
theorem dc_X0_holds_18 : Dc miX0_holds 18 (.iload_n 2) 1 19 := ⟨by decide +kernel, rfl⟩
theorem dc_X0_holds_19 : Dc miX0_holds 19 (.if_icmp .ge 265) 3 22 := ⟨by decide +kernel, rfl⟩
theorem dc_X0_holds_22 : Dc miX0_holds 22 (.iload 6) 2 24 := ⟨by decide +kernel, rfl⟩
theorem dc_X0_holds_24 : Dc miX0_holds 24 (.sipush 400) 3 27 := ⟨by decide +kernel, rfl⟩
theorem dc_X0_holds_27 : Dc miX0_holds 27 (.if_icmp .ge 257) 3 30 := ⟨by decide +kernel, rfl⟩
theorem dc_X0_holds_30 : Dc miX0_holds 30 (.aload_n 0) 1 31 := ⟨by decide +kernel, rfl⟩
theorem dc_X0_holds_31 : Dc miX0_holds 31 (.getfield 30) 3 34 := ⟨by decide +kernel, rfl⟩
theorem dc_X0_holds_34 : Dc miX0_holds 34 (.iload 6) 2 36 := ⟨by decide +kernel, rfl⟩
theorem dc_X0_holds_36 : Dc miX0_holds 36 (.iaload) 1 37 := ⟨by decide +kernel, rfl⟩
theorem dc_X0_holds_37 : Dc miX0_holds 37 (.istore 7) 2 39 := ⟨by decide +kernel, rfl⟩
theorem dc_X0_holds_39 : Dc miX0_holds 39 (.iload 7) 2 41 := ⟨by decide +kernel, rfl⟩
theorem dc_X0_holds_41 : Dc miX0_holds 41 (.sipush 1000) 3 44 := ⟨by decide +kernel, rfl⟩
theorem dc_X0_holds_44 : Dc miX0_holds 44 (.if_icmp .ge 13) 3 47 := ⟨by decide +kernel, rfl⟩
theorem dc_X0_holds_47 : Dc miX0_holds 47 (.iload 5) 2 49 := ⟨by decide +kernel, rfl⟩
theorem dc_X0_holds_49 : Dc miX0_holds 49 (.iload 7) 2 51 := ⟨by decide +kernel, rfl⟩
theorem dc_X0_holds_51 : Dc miX0_holds 51 (.iadd) 1 52 := ⟨by decide +kernel, rfl⟩
theorem dc_X0_holds_52 : Dc miX0_holds 52 (.istore 5) 2 54 := ⟨by decide +kernel, rfl⟩
theorem dc_X0_holds_54 : Dc miX0_holds 54 (.goto 224) 3 57 := ⟨by decide +kernel, rfl⟩
theorem dc_X0_holds_57 : Dc miX0_holds 57 (.iload 7) 2 59 := ⟨by decide +kernel, rfl⟩
theorem dc_X0_holds_59 : Dc miX0_holds 59 (.sipush 1006) 3 62 := ⟨by decide +kernel, rfl⟩
theorem dc_X0_holds_62 : Dc miX0_holds 62 (.if_icmp .ge 22) 3 65 := ⟨by decide +kernel, rfl⟩
theorem dc_X0_holds_65 : Dc miX0_holds 65 (.iload 5) 2 67 := ⟨by decide +kernel, rfl⟩
theorem dc_X0_holds_67 : Dc miX0_holds 67 (.aload_n 0) 1 68 := ⟨by decide +kernel, rfl⟩
theorem dc_X0_holds_68 : Dc miX0_holds 68 (.getfield 33) 3 71 := ⟨by decide +kernel, rfl⟩
theorem dc_X0_holds_71 : Dc miX0_holds 71 (.iload 7) 2 73 := ⟨by decide +kernel, rfl⟩
theorem dc_X0_holds_73 : Dc miX0_holds 73 (.sipush 1000) 3 76 := ⟨by decide +kernel, rfl⟩
theorem dc_X0_holds_76 : Dc miX0_holds 76 (.isub) 1 77 := ⟨by decide +kernel, rfl⟩
theorem dc_X0_holds_77 : Dc miX0_holds 77 (.iaload) 1 78 := ⟨by decide +kernel, rfl⟩
theorem dc_X0_holds_78 : Dc miX0_holds 78 (.iadd) 1 79 := ⟨by decide +kernel, rfl⟩
theorem dc_X0_holds_79 : Dc miX0_holds 79 (.istore 5) 2 81 := ⟨by decide +kernel, rfl⟩
theorem dc_X0_holds_81 : Dc miX0_holds 81 (.goto 197) 3 84 := ⟨by decide +kernel, rfl⟩
theorem dc_X0_holds_84 : Dc miX0_holds 84 (.iload 7) 2 86 := ⟨by decide +kernel, rfl⟩
theorem dc_X0_holds_86 : Dc miX0_holds 86 (.sipush 1006) 3 89 := ⟨by decide +kernel, rfl⟩
theorem dc_X0_holds_89 : Dc miX0_holds 89 (.if_icmp .ne 13) 3 92 := ⟨by decide +kernel, rfl⟩
theorem dc_X0_holds_92 : Dc miX0_holds 92 (.iload 5) 2 94 := ⟨by decide +kernel, rfl⟩
theorem dc_X0_holds_94 : Dc miX0_holds 94 (.istore 4) 2 96 := ⟨by decide +kernel, rfl⟩
theorem dc_X0_holds_96 : Dc miX0_holds 96 (.iconst 0) 1 97 := ⟨by decide +kernel, rfl⟩
theorem dc_X0_holds_97 : Dc miX0_holds 97 (.istore 5) 2 99 := ⟨by decide +kernel, rfl⟩
theorem dc_X0_holds_99 : Dc miX0_holds 99 (.goto 179) 3 102 := ⟨by decide +kernel, rfl⟩
theorem dc_X0_holds_102 : Dc miX0_holds 102 (.iload 7) 2 104 := ⟨by decide +kernel, rfl⟩
theorem dc_X0_holds_104 : Dc miX0_holds 104 (.sipush 1007) 3 107 := ⟨by decide +kernel, rfl⟩
theorem dc_X0_holds_107 : Dc miX0_holds 107 (.if_icmp .eq 11) 3 110 := ⟨by decide +kernel, rfl⟩
theorem dc_X0_holds_110 : Dc miX0_holds 110 (.iload 7) 2 112 := ⟨by decide +kernel, rfl⟩
theorem dc_X0_holds_112 : Dc miX0_holds 112 (.sipush 1008) 3 115 := ⟨by decide +kernel, rfl⟩
theorem dc_X0_holds_115 : Dc miX0_holds 115 (.if_icmp .ne 61) 3 118 := ⟨by decide +kernel, rfl⟩
theorem dc_X0_holds_118 : Dc miX0_holds 118 (.iload 7) 2 120 := ⟨by decide +kernel, rfl⟩
theorem dc_X0_holds_120 : Dc miX0_holds 120 (.sipush 1007) 3 123 := ⟨by decide +kernel, rfl⟩
theorem dc_X0_holds_123 : Dc miX0_holds 123 (.if_icmp .ne 18) 3 126 := ⟨by decide +kernel, rfl⟩
theorem dc_X0_holds_126 : Dc miX0_holds 126 (.iload 4) 2 128 := ⟨by decide +kernel, rfl⟩
theorem dc_X0_holds_128 : Dc miX0_holds 128 (.iload 5) 2 130 := ⟨by decide +kernel, rfl⟩
theorem dc_X0_holds_130 : Dc miX0_holds 130 (.if_icmp .ge 7) 3 133 := ⟨by decide +kernel, rfl⟩
theorem dc_X0_holds_133 : Dc miX0_holds 133 (.iconst 1) 1 134 := ⟨by decide +kernel, rfl⟩
theorem dc_X0_holds_134 : Dc miX0_holds 134 (.goto 19) 3 137 := ⟨by decide +kernel, rfl⟩
theorem dc_X0_holds_137 : Dc miX0_holds 137 (.iconst 0) 1 138 := ⟨by decide +kernel, rfl⟩
theorem dc_X0_holds_138 : Dc miX0_holds 138 (.goto 15) 3 141 := ⟨by decide +kernel, rfl⟩
theorem dc_X0_holds_141 : Dc miX0_holds 141 (.iload 4) 2 143 := ⟨by decide +kernel, rfl⟩
theorem dc_X0_holds_143 : Dc miX0_holds 143 (.iload 5) 2 145 := ⟨by decide +kernel, rfl⟩
theorem dc_X0_holds_145 : Dc miX0_holds 145 (.if_icmp .le 7) 3 148 := ⟨by decide +kernel, rfl⟩
theorem dc_X0_holds_148 : Dc miX0_holds 148 (.iconst 1) 1 149 := ⟨by decide +kernel, rfl⟩
theorem dc_X0_holds_149 : Dc miX0_holds 149 (.goto 4) 3 152 := ⟨by decide +kernel, rfl⟩
theorem dc_X0_holds_152 : Dc miX0_holds 152 (.iconst 0) 1 153 := ⟨by decide +kernel, rfl⟩
theorem dc_X0_holds_153 : Dc miX0_holds 153 (.istore 8) 2 155 := ⟨by decide +kernel, rfl⟩
theorem dc_X0_holds_155 : Dc miX0_holds 155 (.iload_n 3) 1 156 := ⟨by decide +kernel, rfl⟩
theorem dc_X0_holds_156 : Dc miX0_holds 156 (.iconst 1) 1 157 := ⟨by decide +kernel, rfl⟩
theorem dc_X0_holds_157 : Dc miX0_holds 157 (.ishl) 1 158 := ⟨by decide +kernel, rfl⟩
theorem dc_X0_holds_158 : Dc miX0_holds 158 (.iload 8) 2 160 := ⟨by decide +kernel, rfl⟩
theorem dc_X0_holds_160 : Dc miX0_holds 160 (.ifCond .eq 7) 3 163 := ⟨by decide +kernel, rfl⟩
theorem dc_X0_holds_163 : Dc miX0_holds 163 (.iconst 1) 1 164 := ⟨by decide +kernel, rfl⟩
theorem dc_X0_holds_164 : Dc miX0_holds 164 (.goto 4) 3 167 := ⟨by decide +kernel, rfl⟩
theorem dc_X0_holds_167 : Dc miX0_holds 167 (.iconst 0) 1 168 := ⟨by decide +kernel, rfl⟩
theorem dc_X0_holds_168 : Dc miX0_holds 168 (.ior) 1 169 := ⟨by decide +kernel, rfl⟩
theorem dc_X0_holds_169 : Dc miX0_holds 169 (.istore_n 3) 1 170 := ⟨by decide +kernel, rfl⟩
theorem dc_X0_holds_170 : Dc miX0_holds 170 (.iconst 0) 1 171 := ⟨by decide +kernel, rfl⟩
theorem dc_X0_holds_171 : Dc miX0_holds 171 (.istore 5) 2 173 := ⟨by decide +kernel, rfl⟩
theorem dc_X0_holds_173 : Dc miX0_holds 173 (.goto 105) 3 176 := ⟨by decide +kernel, rfl⟩
theorem dc_X0_holds_176 : Dc miX0_holds 176 (.iload 7) 2 178 := ⟨by decide +kernel, rfl⟩
theorem dc_X0_holds_178 : Dc miX0_holds 178 (.sipush 1009) 3 181 := ⟨by decide +kernel, rfl⟩
theorem dc_X0_holds_181 : Dc miX0_holds 181 (.if_icmp .ne 23) 3 184 := ⟨by decide +kernel, rfl⟩
theorem dc_X0_holds_184 : Dc miX0_holds 184 (.iload_n 3) 1 185 := ⟨by decide +kernel, rfl⟩
theorem dc_X0_holds_185 : Dc miX0_holds 185 (.iconst 1) 1 186 := ⟨by decide +kernel, rfl⟩
theorem dc_X0_holds_186 : Dc miX0_holds 186 (.ishl) 1 187 := ⟨by decide +kernel, rfl⟩
theorem dc_X0_holds_187 : Dc miX0_holds 187 (.aload_n 0) 1 188 := ⟨by decide +kernel, rfl⟩
theorem dc_X0_holds_188 : Dc miX0_holds 188 (.getfield 36) 3 191 := ⟨by decide +kernel, rfl⟩
theorem dc_X0_holds_191 : Dc miX0_holds 191 (.ifCond .eq 7) 3 194 := ⟨by decide +kernel, rfl⟩
theorem dc_X0_holds_194 : Dc miX0_holds 194 (.iconst 1) 1 195 := ⟨by decide +kernel, rfl⟩
theorem dc_X0_holds_195 : Dc miX0_holds 195 (.goto 4) 3 198 := ⟨by decide +kernel, rfl⟩
theorem dc_X0_holds_198 : Dc miX0_holds 198 (.iconst 0) 1 199 := ⟨by decide +kernel, rfl⟩
theorem dc_X0_holds_199 : Dc miX0_holds 199 (.ior) 1 200 := ⟨by decide +kernel, rfl⟩
theorem dc_X0_holds_200 : Dc miX0_holds 200 (.istore_n 3) 1 201 := ⟨by decide +kernel, rfl⟩
theorem dc_X0_holds_201 : Dc miX0_holds 201 (.goto 77) 3 204 := ⟨by decide +kernel, rfl⟩
theorem dc_X0_holds_204 : Dc miX0_holds 204 (.iload 7) 2 206 := ⟨by decide +kernel, rfl⟩
theorem dc_X0_holds_206 : Dc miX0_holds 206 (.sipush 1010) 3 209 := ⟨by decide +kernel, rfl⟩
theorem dc_X0_holds_209 : Dc miX0_holds 209 (.if_icmp .ne 26) 3 212 := ⟨by decide +kernel, rfl⟩
theorem dc_X0_holds_212 : Dc miX0_holds 212 (.iload_n 3) 1 213 := ⟨by decide +kernel, rfl⟩
theorem dc_X0_holds_213 : Dc miX0_holds 213 (.iconst 1) 1 214 := ⟨by decide +kernel, rfl⟩
theorem dc_X0_holds_214 : Dc miX0_holds 214 (.ishl) 1 215 := ⟨by decide +kernel, rfl⟩
theorem dc_X0_holds_215 : Dc miX0_holds 215 (.aload_n 0) 1 216 := ⟨by decide +kernel, rfl⟩
theorem dc_X0_holds_216 : Dc miX0_holds 216 (.getfield 33) 3 219 := ⟨by decide +kernel, rfl⟩
theorem dc_X0_holds_219 : Dc miX0_holds 219 (.iconst 4) 1 220 := ⟨by decide +kernel, rfl⟩
theorem dc_X0_holds_220 : Dc miX0_holds 220 (.iaload) 1 221 := ⟨by decide +kernel, rfl⟩
theorem dc_X0_holds_221 : Dc miX0_holds 221 (.iconst 1) 1 222 := ⟨by decide +kernel, rfl⟩
theorem dc_X0_holds_222 : Dc miX0_holds 222 (.if_icmp .ne 7) 3 225 := ⟨by decide +kernel, rfl⟩
theorem dc_X0_holds_225 : Dc miX0_holds 225 (.iconst 1) 1 226 := ⟨by decide +kernel, rfl⟩
theorem dc_X0_holds_226 : Dc miX0_holds 226 (.goto 4) 3 229 := ⟨by decide +kernel, rfl⟩
theorem dc_X0_holds_229 : Dc miX0_holds 229 (.iconst 0) 1 230 := ⟨by decide +kernel, rfl⟩
theorem dc_X0_holds_230 : Dc miX0_holds 230 (.ior) 1 231 := ⟨by decide +kernel, rfl⟩
theorem dc_X0_holds_231 : Dc miX0_holds 231 (.istore_n 3) 1 232 := ⟨by decide +kernel, rfl⟩
theorem dc_X0_holds_232 : Dc miX0_holds 232 (.goto 46) 3 235 := ⟨by decide +kernel, rfl⟩
theorem dc_X0_holds_235 : Dc miX0_holds 235 (.iload 7) 2 237 := ⟨by decide +kernel, rfl⟩
theorem dc_X0_holds_237 : Dc miX0_holds 237 (.sipush 1011) 3 240 := ⟨by decide +kernel, rfl⟩
theorem dc_X0_holds_240 : Dc miX0_holds 240 (.if_icmp .ne 10) 3 243 := ⟨by decide +kernel, rfl⟩
theorem dc_X0_holds_243 : Dc miX0_holds 243 (.iload_n 3) 1 244 := ⟨by decide +kernel, rfl⟩
theorem dc_X0_holds_244 : Dc miX0_holds 244 (.iconst 1) 1 245 := ⟨by decide +kernel, rfl⟩
theorem dc_X0_holds_245 : Dc miX0_holds 245 (.ixor) 1 246 := ⟨by decide +kernel, rfl⟩
theorem dc_X0_holds_246 : Dc miX0_holds 246 (.istore_n 3) 1 247 := ⟨by decide +kernel, rfl⟩
theorem dc_X0_holds_247 : Dc miX0_holds 247 (.goto 31) 3 250 := ⟨by decide +kernel, rfl⟩
theorem dc_X0_holds_250 : Dc miX0_holds 250 (.iload 7) 2 252 := ⟨by decide +kernel, rfl⟩
theorem dc_X0_holds_252 : Dc miX0_holds 252 (.sipush 1012) 3 255 := ⟨by decide +kernel, rfl⟩
theorem dc_X0_holds_255 : Dc miX0_holds 255 (.if_icmp .ne 15) 3 258 := ⟨by decide +kernel, rfl⟩
theorem dc_X0_holds_258 : Dc miX0_holds 258 (.iload_n 3) 1 259 := ⟨by decide +kernel, rfl⟩
theorem dc_X0_holds_259 : Dc miX0_holds 259 (.iconst 1) 1 260 := ⟨by decide +kernel, rfl⟩
theorem dc_X0_holds_260 : Dc miX0_holds 260 (.ishr) 1 261 := ⟨by decide +kernel, rfl⟩
theorem dc_X0_holds_261 : Dc miX0_holds 261 (.iload_n 3) 1 262 := ⟨by decide +kernel, rfl⟩
theorem dc_X0_holds_262 : Dc miX0_holds 262 (.bipush (-2)) 2 264 := ⟨by decide +kernel, rfl⟩
theorem dc_X0_holds_264 : Dc miX0_holds 264 (.ior) 1 265 := ⟨by decide +kernel, rfl⟩
theorem dc_X0_holds_265 : Dc miX0_holds 265 (.iand) 1 266 := ⟨by decide +kernel, rfl⟩
theorem dc_X0_holds_266 : Dc miX0_holds 266 (.istore_n 3) 1 267 := ⟨by decide +kernel, rfl⟩
theorem dc_X0_holds_267 : Dc miX0_holds 267 (.goto 11) 3 270 := ⟨by decide +kernel, rfl⟩
theorem dc_X0_holds_270 : Dc miX0_holds 270 (.iload_n 3) 1 271 := ⟨by decide +kernel, rfl⟩
theorem dc_X0_holds_271 : Dc miX0_holds 271 (.iconst 1) 1 272 := ⟨by decide +kernel, rfl⟩
theorem dc_X0_holds_272 : Dc miX0_holds 272 (.ishr) 1 273 := ⟨by decide +kernel, rfl⟩
theorem dc_X0_holds_273 : Dc miX0_holds 273 (.iload_n 3) 1 274 := ⟨by decide +kernel, rfl⟩
theorem dc_X0_holds_274 : Dc miX0_holds 274 (.iconst 1) 1 275 := ⟨by decide +kernel, rfl⟩
theorem dc_X0_holds_275 : Dc miX0_holds 275 (.iand) 1 276 := ⟨by decide +kernel, rfl⟩
theorem dc_X0_holds_276 : Dc miX0_holds 276 (.ior) 1 277 := ⟨by decide +kernel, rfl⟩
theorem dc_X0_holds_277 : Dc miX0_holds 277 (.istore_n 3) 1 278 := ⟨by decide +kernel, rfl⟩
theorem dc_X0_holds_278 : Dc miX0_holds 278 (.iinc 6 1) 3 281 := ⟨by decide +kernel, rfl⟩
theorem dc_X0_holds_281 : Dc miX0_holds 281 (.goto (-270)) 3 284 := ⟨by decide +kernel, rfl⟩
theorem dc_X0_holds_284 : Dc miX0_holds 284 (.iload_n 3) 1 285 := ⟨by decide +kernel, rfl⟩
theorem dc_X0_holds_285 : Dc miX0_holds 285 (.iconst 1) 1 286 := ⟨by decide +kernel, rfl⟩
theorem dc_X0_holds_286 : Dc miX0_holds 286 (.iand) 1 287 := ⟨by decide +kernel, rfl⟩
theorem dc_X0_holds_287 : Dc miX0_holds 287 (.iconst 1) 1 288 := ⟨by decide +kernel, rfl⟩
theorem dc_X0_holds_288 : Dc miX0_holds 288 (.if_icmp .ne 7) 3 291 := ⟨by decide +kernel, rfl⟩
theorem dc_X0_holds_291 : Dc miX0_holds 291 (.iconst 1) 1 292 := ⟨by decide +kernel, rfl⟩
theorem dc_X0_holds_292 : Dc miX0_holds 292 (.goto 4) 3 295 := ⟨by decide +kernel, rfl⟩
theorem dc_X0_holds_295 : Dc miX0_holds 295 (.iconst 0) 1 296 := ⟨by decide +kernel, rfl⟩
theorem dc_X0_holds_296 : Dc miX0_holds 296 (.ireturn) 1 297 := ⟨by decide +kernel, rfl⟩
def fX0_holds_b168 (N : Nat) (G : pG) (k11 : Int32 × Int32 × Int32 × Int32 → Option (Int32)) (a0 : Nat) (a2 : Int32) (x4 : Int32) (x6 : Int32) (y0 : Int32) (y1 : Int32) (σ : pS) : Option (Int32) := k11 (y0 ||| y1, x4, (0 : Int32), x6 + (1 : Int32))
set_option maxRecDepth 100000 in
set_option maxHeartbeats 4000000 in
theorem tX0_holds_b168 {N : Nat} {G : pG} {SK : Nat → Nat} {k11 : Int32 × Int32 × Int32 × Int32 → Option (Int32)} {a0 : Nat} {a2 : Int32} {x4 : Int32} {x6 : Int32} {y0 : Int32} {y1 : Int32} {σ : pS} {r : Int32} (hW : WT G) (i0 : Is G a0 0) (hk11 : ∀ b : Int32 × Int32 × Int32 × Int32, k11 b = some r → Ev miX0_holds (1, 0, 0) G (Zp G (some (.int r)) σ) SK (0, 0) 11 [some (.ref a0), none, some (.int a2), some (.int b.1), some (.int b.2.1), some (.int b.2.2.1), some (.int b.2.2.2), none, none] [] σ) (h : fX0_holds_b168 N G k11 a0 a2 x4 x6 y0 y1 σ = some r) : Ev miX0_holds (1, 0, 0) G (Zp G (some (.int r)) σ) SK (0, 0) 168 [some (.ref a0), none, some (.int a2), none, some (.int x4), none, some (.int x6), none, none] [.int y1, .int y0] σ := by
  unfold fX0_holds_b168 at h
  refine ev_ior dc_X0_holds_168 ?_
  refine ev_istore_n (lv' := [some (.ref a0), none, some (.int a2), some (.int (y0 ||| y1)), some (.int x4), none, some (.int x6), none, none]) dc_X0_holds_169 rfl (by decide) rfl ?_
  refine ev_iconst (v := 0) dc_X0_holds_170 (by decide) ?_
  refine ev_istore (lv' := [some (.ref a0), none, some (.int a2), some (.int (y0 ||| y1)), some (.int x4), some (.int (0 : Int32)), some (.int x6), none, none]) dc_X0_holds_171 rfl (by decide) rfl ?_
  refine ev_goto (tgt := 278) dc_X0_holds_173 (by decide) ?_
  refine ev_iinc (v := 1) (lv' := [some (.ref a0), none, some (.int a2), some (.int (y0 ||| y1)), some (.int x4), some (.int (0 : Int32)), some (.int (x6 + (1 : Int32))), none, none]) dc_X0_holds_278 rfl (by decide) rfl (by decide) rfl ?_
  refine ev_goto (tgt := 11) dc_X0_holds_281 (by decide) ?_
  exact ev_sub (hk11 (y0 ||| y1, x4, (0 : Int32), x6 + (1 : Int32)) h) (And.intro rfl (And.intro rfl (And.intro rfl (And.intro rfl (And.intro rfl (And.intro rfl trivial))))))
def fX0_holds_b153 (N : Nat) (G : pG) (k11 : Int32 × Int32 × Int32 × Int32 → Option (Int32)) (a0 : Nat) (a2 : Int32) (x3 : Int32) (x4 : Int32) (x6 : Int32) (y0 : Int32) (σ : pS) : Option (Int32) := if y0 = 0 then (fX0_holds_b168 N G k11 a0 a2 x4 x6 (x3 <<< ((1 : Int32) &&& 31)) (0 : Int32) σ) else (fX0_holds_b168 N G k11 a0 a2 x4 x6 (x3 <<< ((1 : Int32) &&& 31)) (1 : Int32) σ)
set_option maxRecDepth 100000 in
set_option maxHeartbeats 4000000 in
theorem tX0_holds_b153 {N : Nat} {G : pG} {SK : Nat → Nat} {k11 : Int32 × Int32 × Int32 × Int32 → Option (Int32)} {a0 : Nat} {a2 : Int32} {x3 : Int32} {x4 : Int32} {x6 : Int32} {y0 : Int32} {σ : pS} {r : Int32} (hW : WT G) (i0 : Is G a0 0) (hk11 : ∀ b : Int32 × Int32 × Int32 × Int32, k11 b = some r → Ev miX0_holds (1, 0, 0) G (Zp G (some (.int r)) σ) SK (0, 0) 11 [some (.ref a0), none, some (.int a2), some (.int b.1), some (.int b.2.1), some (.int b.2.2.1), some (.int b.2.2.2), none, none] [] σ) (h : fX0_holds_b153 N G k11 a0 a2 x3 x4 x6 y0 σ = some r) : Ev miX0_holds (1, 0, 0) G (Zp G (some (.int r)) σ) SK (0, 0) 153 [some (.ref a0), none, some (.int a2), some (.int x3), some (.int x4), none, some (.int x6), none, none] [.int y0] σ := by
  unfold fX0_holds_b153 at h
  refine ev_istore (lv' := [some (.ref a0), none, some (.int a2), some (.int x3), some (.int x4), none, some (.int x6), none, some (.int y0)]) dc_X0_holds_153 rfl (by decide) rfl ?_
  refine ev_iload_n dc_X0_holds_155 rfl ?_
  refine ev_iconst (v := 1) dc_X0_holds_156 (by decide) ?_
  refine ev_ishl dc_X0_holds_157 ?_
  refine ev_iload dc_X0_holds_158 rfl ?_
  refine ev_if_eq (tgt := 167) dc_X0_holds_160 (by decide) h (fun h => ?_) (fun h => ?_)
  · refine ev_iconst (v := 0) dc_X0_holds_167 (by decide) ?_
    exact ev_sub (tX0_holds_b168 hW i0 hk11 h) (And.intro rfl (And.intro rfl (And.intro rfl (And.intro rfl trivial))))
  · refine ev_iconst (v := 1) dc_X0_holds_163 (by decide) ?_
    refine ev_goto (tgt := 168) dc_X0_holds_164 (by decide) ?_
    exact ev_sub (tX0_holds_b168 hW i0 hk11 h) (And.intro rfl (And.intro rfl (And.intro rfl (And.intro rfl trivial))))
def fX0_holds_b118 (N : Nat) (G : pG) (k11 : Int32 × Int32 × Int32 × Int32 → Option (Int32)) (a0 : Nat) (a2 : Int32) (x3 : Int32) (x4 : Int32) (x5 : Int32) (x6 : Int32) (x7 : Int32) (σ : pS) : Option (Int32) := if x7 = (1007 : Int32) then (if x5 ≤ x4 then (fX0_holds_b153 N G k11 a0 a2 x3 x4 x6 (0 : Int32) σ) else (fX0_holds_b153 N G k11 a0 a2 x3 x4 x6 (1 : Int32) σ)) else (if x4 ≤ x5 then (fX0_holds_b153 N G k11 a0 a2 x3 x4 x6 (0 : Int32) σ) else (fX0_holds_b153 N G k11 a0 a2 x3 x4 x6 (1 : Int32) σ))
set_option maxRecDepth 100000 in
set_option maxHeartbeats 4000000 in
theorem tX0_holds_b118 {N : Nat} {G : pG} {SK : Nat → Nat} {k11 : Int32 × Int32 × Int32 × Int32 → Option (Int32)} {a0 : Nat} {a2 : Int32} {x3 : Int32} {x4 : Int32} {x5 : Int32} {x6 : Int32} {x7 : Int32} {σ : pS} {r : Int32} (hW : WT G) (i0 : Is G a0 0) (hk11 : ∀ b : Int32 × Int32 × Int32 × Int32, k11 b = some r → Ev miX0_holds (1, 0, 0) G (Zp G (some (.int r)) σ) SK (0, 0) 11 [some (.ref a0), none, some (.int a2), some (.int b.1), some (.int b.2.1), some (.int b.2.2.1), some (.int b.2.2.2), none, none] [] σ) (h : fX0_holds_b118 N G k11 a0 a2 x3 x4 x5 x6 x7 σ = some r) : Ev miX0_holds (1, 0, 0) G (Zp G (some (.int r)) σ) SK (0, 0) 118 [some (.ref a0), none, some (.int a2), some (.int x3), some (.int x4), some (.int x5), some (.int x6), some (.int x7), none] [] σ := by
  unfold fX0_holds_b118 at h
  refine ev_iload dc_X0_holds_118 rfl ?_
  refine ev_sipush (v := 1007) dc_X0_holds_120 (by decide) ?_
  refine ev_icmp_ne (tgt := 141) dc_X0_holds_123 (by decide) h (fun h => ?_) (fun h => ?_)
  · refine ev_iload dc_X0_holds_126 rfl ?_
    refine ev_iload dc_X0_holds_128 rfl ?_
    refine ev_icmp_ge (tgt := 137) dc_X0_holds_130 (by decide) h (fun h => ?_) (fun h => ?_)
    · refine ev_iconst (v := 0) dc_X0_holds_137 (by decide) ?_
      refine ev_goto (tgt := 153) dc_X0_holds_138 (by decide) ?_
      exact ev_sub (tX0_holds_b153 hW i0 hk11 h) (And.intro rfl (And.intro rfl (And.intro rfl (And.intro rfl (And.intro rfl trivial)))))
    · refine ev_iconst (v := 1) dc_X0_holds_133 (by decide) ?_
      refine ev_goto (tgt := 153) dc_X0_holds_134 (by decide) ?_
      exact ev_sub (tX0_holds_b153 hW i0 hk11 h) (And.intro rfl (And.intro rfl (And.intro rfl (And.intro rfl (And.intro rfl trivial)))))
  · refine ev_iload dc_X0_holds_141 rfl ?_
    refine ev_iload dc_X0_holds_143 rfl ?_
    refine ev_icmp_le (tgt := 152) dc_X0_holds_145 (by decide) h (fun h => ?_) (fun h => ?_)
    · refine ev_iconst (v := 0) dc_X0_holds_152 (by decide) ?_
      exact ev_sub (tX0_holds_b153 hW i0 hk11 h) (And.intro rfl (And.intro rfl (And.intro rfl (And.intro rfl (And.intro rfl trivial)))))
    · refine ev_iconst (v := 1) dc_X0_holds_148 (by decide) ?_
      refine ev_goto (tgt := 153) dc_X0_holds_149 (by decide) ?_
      exact ev_sub (tX0_holds_b153 hW i0 hk11 h) (And.intro rfl (And.intro rfl (And.intro rfl (And.intro rfl (And.intro rfl trivial)))))
def fX0_holds_b199 (N : Nat) (G : pG) (k11 : Int32 × Int32 × Int32 × Int32 → Option (Int32)) (a0 : Nat) (a2 : Int32) (x4 : Int32) (x5 : Int32) (x6 : Int32) (y0 : Int32) (y1 : Int32) (σ : pS) : Option (Int32) := k11 (y0 ||| y1, x4, x5, x6 + (1 : Int32))
set_option maxRecDepth 100000 in
set_option maxHeartbeats 4000000 in
theorem tX0_holds_b199 {N : Nat} {G : pG} {SK : Nat → Nat} {k11 : Int32 × Int32 × Int32 × Int32 → Option (Int32)} {a0 : Nat} {a2 : Int32} {x4 : Int32} {x5 : Int32} {x6 : Int32} {y0 : Int32} {y1 : Int32} {σ : pS} {r : Int32} (hW : WT G) (i0 : Is G a0 0) (hk11 : ∀ b : Int32 × Int32 × Int32 × Int32, k11 b = some r → Ev miX0_holds (1, 0, 0) G (Zp G (some (.int r)) σ) SK (0, 0) 11 [some (.ref a0), none, some (.int a2), some (.int b.1), some (.int b.2.1), some (.int b.2.2.1), some (.int b.2.2.2), none, none] [] σ) (h : fX0_holds_b199 N G k11 a0 a2 x4 x5 x6 y0 y1 σ = some r) : Ev miX0_holds (1, 0, 0) G (Zp G (some (.int r)) σ) SK (0, 0) 199 [some (.ref a0), none, some (.int a2), none, some (.int x4), some (.int x5), some (.int x6), none, none] [.int y1, .int y0] σ := by
  unfold fX0_holds_b199 at h
  refine ev_ior dc_X0_holds_199 ?_
  refine ev_istore_n (lv' := [some (.ref a0), none, some (.int a2), some (.int (y0 ||| y1)), some (.int x4), some (.int x5), some (.int x6), none, none]) dc_X0_holds_200 rfl (by decide) rfl ?_
  refine ev_goto (tgt := 278) dc_X0_holds_201 (by decide) ?_
  refine ev_iinc (v := 1) (lv' := [some (.ref a0), none, some (.int a2), some (.int (y0 ||| y1)), some (.int x4), some (.int x5), some (.int (x6 + (1 : Int32))), none, none]) dc_X0_holds_278 rfl (by decide) rfl (by decide) rfl ?_
  refine ev_goto (tgt := 11) dc_X0_holds_281 (by decide) ?_
  exact ev_sub (hk11 (y0 ||| y1, x4, x5, x6 + (1 : Int32)) h) (And.intro rfl (And.intro rfl (And.intro rfl (And.intro rfl (And.intro rfl (And.intro rfl trivial))))))
def fX0_holds_b230 (N : Nat) (G : pG) (k11 : Int32 × Int32 × Int32 × Int32 → Option (Int32)) (a0 : Nat) (a2 : Int32) (x4 : Int32) (x5 : Int32) (x6 : Int32) (y0 : Int32) (y1 : Int32) (σ : pS) : Option (Int32) := k11 (y0 ||| y1, x4, x5, x6 + (1 : Int32))
set_option maxRecDepth 100000 in
set_option maxHeartbeats 4000000 in
theorem tX0_holds_b230 {N : Nat} {G : pG} {SK : Nat → Nat} {k11 : Int32 × Int32 × Int32 × Int32 → Option (Int32)} {a0 : Nat} {a2 : Int32} {x4 : Int32} {x5 : Int32} {x6 : Int32} {y0 : Int32} {y1 : Int32} {σ : pS} {r : Int32} (hW : WT G) (i0 : Is G a0 0) (hk11 : ∀ b : Int32 × Int32 × Int32 × Int32, k11 b = some r → Ev miX0_holds (1, 0, 0) G (Zp G (some (.int r)) σ) SK (0, 0) 11 [some (.ref a0), none, some (.int a2), some (.int b.1), some (.int b.2.1), some (.int b.2.2.1), some (.int b.2.2.2), none, none] [] σ) (h : fX0_holds_b230 N G k11 a0 a2 x4 x5 x6 y0 y1 σ = some r) : Ev miX0_holds (1, 0, 0) G (Zp G (some (.int r)) σ) SK (0, 0) 230 [some (.ref a0), none, some (.int a2), none, some (.int x4), some (.int x5), some (.int x6), none, none] [.int y1, .int y0] σ := by
  unfold fX0_holds_b230 at h
  refine ev_ior dc_X0_holds_230 ?_
  refine ev_istore_n (lv' := [some (.ref a0), none, some (.int a2), some (.int (y0 ||| y1)), some (.int x4), some (.int x5), some (.int x6), none, none]) dc_X0_holds_231 rfl (by decide) rfl ?_
  refine ev_goto (tgt := 278) dc_X0_holds_232 (by decide) ?_
  refine ev_iinc (v := 1) (lv' := [some (.ref a0), none, some (.int a2), some (.int (y0 ||| y1)), some (.int x4), some (.int x5), some (.int (x6 + (1 : Int32))), none, none]) dc_X0_holds_278 rfl (by decide) rfl (by decide) rfl ?_
  refine ev_goto (tgt := 11) dc_X0_holds_281 (by decide) ?_
  exact ev_sub (hk11 (y0 ||| y1, x4, x5, x6 + (1 : Int32)) h) (And.intro rfl (And.intro rfl (And.intro rfl (And.intro rfl (And.intro rfl (And.intro rfl trivial))))))
def fX0_holds_b284 (N : Nat) (G : pG) (x3 : Int32) (σ : pS) : Option (Int32) := if (x3 &&& (1 : Int32)) = (1 : Int32) then (some (1 : Int32)) else (some (0 : Int32))
set_option maxRecDepth 100000 in
set_option maxHeartbeats 4000000 in
theorem tX0_holds_b284 {N : Nat} {G : pG} {SK : Nat → Nat} {x3 : Int32} {σ : pS} {r : Int32} (hW : WT G) (h : fX0_holds_b284 N G x3 σ = some r) : Ev miX0_holds (1, 0, 0) G (Zp G (some (.int r)) σ) SK (0, 0) 284 [none, none, none, some (.int x3), none, none, none, none, none] [] σ := by
  unfold fX0_holds_b284 at h
  refine ev_iload_n dc_X0_holds_284 rfl ?_
  refine ev_iconst (v := 1) dc_X0_holds_285 (by decide) ?_
  refine ev_iand dc_X0_holds_286 ?_
  refine ev_iconst (v := 1) dc_X0_holds_287 (by decide) ?_
  refine ev_icmp_ne (tgt := 295) dc_X0_holds_288 (by decide) h (fun h => ?_) (fun h => ?_)
  · refine ev_iconst (v := 1) dc_X0_holds_291 (by decide) ?_
    refine ev_goto (tgt := 296) dc_X0_holds_292 (by decide) ?_
    cases h
    exact ev_zretc dc_X0_holds_296 rfl rfl rfl rfl
  · refine ev_iconst (v := 0) dc_X0_holds_295 (by decide) ?_
    cases h
    exact ev_zretc dc_X0_holds_296 rfl rfl rfl rfl
def fX0_holds_b11 (N : Nat) (G : pG) (a0 : Nat) (a2 : Int32) (σ : pS) : (Int32 × Int32 × Int32 × Int32) → Option (Int32) := lp (fun (k11 : Int32 × Int32 × Int32 × Int32 → Option (Int32)) (b : Int32 × Int32 × Int32 × Int32) => if b.2.2.2 < 0 then (fX0_holds_b284 N G b.1 σ) else (if a2 ≤ b.2.2.2 then (fX0_holds_b284 N G b.1 σ) else (if (400 : Int32) ≤ b.2.2.2 then (fX0_holds_b284 N G b.1 σ) else (ck (inB b.2.2.2 (pN G (pR G a0 5))) (if (1000 : Int32) ≤ (gA σ (pR G a0 5) b.2.2.2) then (if (1006 : Int32) ≤ (gA σ (pR G a0 5) b.2.2.2) then (if (gA σ (pR G a0 5) b.2.2.2) = (1006 : Int32) then (k11 (b.1, b.2.2.1, (0 : Int32), b.2.2.2 + (1 : Int32))) else (if (gA σ (pR G a0 5) b.2.2.2) = (1007 : Int32) then (fX0_holds_b118 N G k11 a0 a2 b.1 b.2.1 b.2.2.1 b.2.2.2 (gA σ (pR G a0 5) b.2.2.2) σ) else (if (gA σ (pR G a0 5) b.2.2.2) = (1008 : Int32) then (fX0_holds_b118 N G k11 a0 a2 b.1 b.2.1 b.2.2.1 b.2.2.2 (gA σ (pR G a0 5) b.2.2.2) σ) else (if (gA σ (pR G a0 5) b.2.2.2) = (1009 : Int32) then (if (σ.1 a0 7) = 0 then (fX0_holds_b199 N G k11 a0 a2 b.2.1 b.2.2.1 b.2.2.2 (b.1 <<< ((1 : Int32) &&& 31)) (0 : Int32) σ) else (fX0_holds_b199 N G k11 a0 a2 b.2.1 b.2.2.1 b.2.2.2 (b.1 <<< ((1 : Int32) &&& 31)) (1 : Int32) σ)) else (if (gA σ (pR G a0 5) b.2.2.2) = (1010 : Int32) then (ck (inB (4 : Int32) (pN G (pR G a0 6))) (if (gA σ (pR G a0 6) (4 : Int32)) = (1 : Int32) then (fX0_holds_b230 N G k11 a0 a2 b.2.1 b.2.2.1 b.2.2.2 (b.1 <<< ((1 : Int32) &&& 31)) (1 : Int32) σ) else (fX0_holds_b230 N G k11 a0 a2 b.2.1 b.2.2.1 b.2.2.2 (b.1 <<< ((1 : Int32) &&& 31)) (0 : Int32) σ))) else (if (gA σ (pR G a0 5) b.2.2.2) = (1011 : Int32) then (k11 (b.1 ^^^ (1 : Int32), b.2.1, b.2.2.1, b.2.2.2 + (1 : Int32))) else (if (gA σ (pR G a0 5) b.2.2.2) = (1012 : Int32) then (k11 ((b.1 >>> ((1 : Int32) &&& 31)) &&& (b.1 ||| (-2 : Int32)), b.2.1, b.2.2.1, b.2.2.2 + (1 : Int32))) else (k11 ((b.1 >>> ((1 : Int32) &&& 31)) ||| (b.1 &&& (1 : Int32)), b.2.1, b.2.2.1, b.2.2.2 + (1 : Int32)))))))))) else (ck (inB ((gA σ (pR G a0 5) b.2.2.2) - (1000 : Int32)) (pN G (pR G a0 6))) (k11 (b.1, b.2.1, b.2.2.1 + (gA σ (pR G a0 6) ((gA σ (pR G a0 5) b.2.2.2) - (1000 : Int32))), b.2.2.2 + (1 : Int32))))) else (k11 (b.1, b.2.1, b.2.2.1 + (gA σ (pR G a0 5) b.2.2.2), b.2.2.2 + (1 : Int32)))))))) N
set_option maxRecDepth 100000 in
set_option maxHeartbeats 4000000 in
theorem tX0_holds_b11 {N : Nat} {G : pG} {SK : Nat → Nat} {a0 : Nat} {a2 : Int32} {σ : pS} {b : Int32 × Int32 × Int32 × Int32} {r : Int32} (hW : WT G) (i0 : Is G a0 0) (h : fX0_holds_b11 N G a0 a2 σ b = some r) : Ev miX0_holds (1, 0, 0) G (Zp G (some (.int r)) σ) SK (0, 0) 11 [some (.ref a0), none, some (.int a2), some (.int b.1), some (.int b.2.1), some (.int b.2.2.1), some (.int b.2.2.2), none, none] [] σ := by
  unfold fX0_holds_b11 at h
  refine lp_ind (P := fun b r9 => r9 = r → Ev miX0_holds (1, 0, 0) G (Zp G (some (.int r)) σ) SK (0, 0) 11 [some (.ref a0), none, some (.int a2), some (.int b.1), some (.int b.2.1), some (.int b.2.2.1), some (.int b.2.2.2), none, none] [] σ) (fun k11 b r9 ih h9 e9 => ?_) N b r h rfl
  clear h
  subst e9
  have h := h9
  clear h9
  have hk11 : ∀ b : Int32 × Int32 × Int32 × Int32, k11 b = some r9 → Ev miX0_holds (1, 0, 0) G (Zp G (some (.int r9)) σ) SK (0, 0) 11 [some (.ref a0), none, some (.int a2), some (.int b.1), some (.int b.2.1), some (.int b.2.2.1), some (.int b.2.2.2), none, none] [] σ := fun b hb => ih b r9 hb rfl
  clear ih
  obtain ⟨x3, x4, x5, x6⟩ := b
  dsimp only at h ⊢
  refine ev_iload dc_X0_holds_11 rfl ?_
  refine ev_if_lt (tgt := 284) dc_X0_holds_13 (by decide) h (fun h => ?_) (fun h => ?_)
  · exact ev_sub (tX0_holds_b284 hW h) (And.intro rfl trivial)
  · refine ev_iload dc_X0_holds_16 rfl ?_
    refine ev_iload_n dc_X0_holds_18 rfl ?_
    refine ev_icmp_ge (tgt := 284) dc_X0_holds_19 (by decide) h (fun h => ?_) (fun h => ?_)
    · exact ev_sub (tX0_holds_b284 hW h) (And.intro rfl trivial)
    · refine ev_iload dc_X0_holds_22 rfl ?_
      refine ev_sipush (v := 400) dc_X0_holds_24 (by decide) ?_
      refine ev_icmp_ge (tgt := 284) dc_X0_holds_27 (by decide) h (fun h => ?_) (fun h => ?_)
      · exact ev_sub (tX0_holds_b284 hW h) (And.intro rfl trivial)
      · refine ev_aload_n dc_X0_holds_30 rfl ?_
        refine ev_getR dc_X0_holds_31 fi_X0_30 rfl i0 ?_
        refine ev_iload dc_X0_holds_34 rfl ?_
        refine ev_iald dc_X0_holds_36 (wt hW i0 5 rfl rfl) h (fun h => ?_)
        refine ev_istore (lv' := [some (.ref a0), none, some (.int a2), some (.int x3), some (.int x4), some (.int x5), some (.int x6), some (.int (gA σ (pR G a0 5) x6)), none]) dc_X0_holds_37 rfl (by decide) rfl ?_
        refine ev_iload dc_X0_holds_39 rfl ?_
        refine ev_sipush (v := 1000) dc_X0_holds_41 (by decide) ?_
        refine ev_icmp_ge (tgt := 57) dc_X0_holds_44 (by decide) h (fun h => ?_) (fun h => ?_)
        · refine ev_iload dc_X0_holds_57 rfl ?_
          refine ev_sipush (v := 1006) dc_X0_holds_59 (by decide) ?_
          refine ev_icmp_ge (tgt := 84) dc_X0_holds_62 (by decide) h (fun h => ?_) (fun h => ?_)
          · refine ev_iload dc_X0_holds_84 rfl ?_
            refine ev_sipush (v := 1006) dc_X0_holds_86 (by decide) ?_
            refine ev_icmp_ne (tgt := 102) dc_X0_holds_89 (by decide) h (fun h => ?_) (fun h => ?_)
            · refine ev_iload dc_X0_holds_92 rfl ?_
              refine ev_istore (lv' := [some (.ref a0), none, some (.int a2), some (.int x3), some (.int x5), some (.int x5), some (.int x6), some (.int (gA σ (pR G a0 5) x6)), none]) dc_X0_holds_94 rfl (by decide) rfl ?_
              refine ev_iconst (v := 0) dc_X0_holds_96 (by decide) ?_
              refine ev_istore (lv' := [some (.ref a0), none, some (.int a2), some (.int x3), some (.int x5), some (.int (0 : Int32)), some (.int x6), some (.int (gA σ (pR G a0 5) x6)), none]) dc_X0_holds_97 rfl (by decide) rfl ?_
              refine ev_goto (tgt := 278) dc_X0_holds_99 (by decide) ?_
              refine ev_iinc (v := 1) (lv' := [some (.ref a0), none, some (.int a2), some (.int x3), some (.int x5), some (.int (0 : Int32)), some (.int (x6 + (1 : Int32))), some (.int (gA σ (pR G a0 5) x6)), none]) dc_X0_holds_278 rfl (by decide) rfl (by decide) rfl ?_
              refine ev_goto (tgt := 11) dc_X0_holds_281 (by decide) ?_
              exact ev_sub (hk11 (x3, x5, (0 : Int32), x6 + (1 : Int32)) h) (And.intro rfl (And.intro rfl (And.intro rfl (And.intro rfl (And.intro rfl (And.intro rfl trivial))))))
            · refine ev_iload dc_X0_holds_102 rfl ?_
              refine ev_sipush (v := 1007) dc_X0_holds_104 (by decide) ?_
              refine ev_icmp_eq (tgt := 118) dc_X0_holds_107 (by decide) h (fun h => ?_) (fun h => ?_)
              · exact ev_sub (tX0_holds_b118 hW i0 hk11 h) (And.intro rfl (And.intro rfl (And.intro rfl (And.intro rfl (And.intro rfl (And.intro rfl (And.intro rfl trivial)))))))
              · refine ev_iload dc_X0_holds_110 rfl ?_
                refine ev_sipush (v := 1008) dc_X0_holds_112 (by decide) ?_
                refine ev_icmp_ne (tgt := 176) dc_X0_holds_115 (by decide) h (fun h => ?_) (fun h => ?_)
                · exact ev_sub (tX0_holds_b118 hW i0 hk11 h) (And.intro rfl (And.intro rfl (And.intro rfl (And.intro rfl (And.intro rfl (And.intro rfl (And.intro rfl trivial)))))))
                · refine ev_iload dc_X0_holds_176 rfl ?_
                  refine ev_sipush (v := 1009) dc_X0_holds_178 (by decide) ?_
                  refine ev_icmp_ne (tgt := 204) dc_X0_holds_181 (by decide) h (fun h => ?_) (fun h => ?_)
                  · refine ev_iload_n dc_X0_holds_184 rfl ?_
                    refine ev_iconst (v := 1) dc_X0_holds_185 (by decide) ?_
                    refine ev_ishl dc_X0_holds_186 ?_
                    refine ev_aload_n dc_X0_holds_187 rfl ?_
                    refine ev_getI dc_X0_holds_188 fi_X0_36 rfl i0 ?_
                    refine ev_if_eq (tgt := 198) dc_X0_holds_191 (by decide) h (fun h => ?_) (fun h => ?_)
                    · refine ev_iconst (v := 0) dc_X0_holds_198 (by decide) ?_
                      exact ev_sub (tX0_holds_b199 hW i0 hk11 h) (And.intro rfl (And.intro rfl (And.intro rfl (And.intro rfl (And.intro rfl trivial)))))
                    · refine ev_iconst (v := 1) dc_X0_holds_194 (by decide) ?_
                      refine ev_goto (tgt := 199) dc_X0_holds_195 (by decide) ?_
                      exact ev_sub (tX0_holds_b199 hW i0 hk11 h) (And.intro rfl (And.intro rfl (And.intro rfl (And.intro rfl (And.intro rfl trivial)))))
                  · refine ev_iload dc_X0_holds_204 rfl ?_
                    refine ev_sipush (v := 1010) dc_X0_holds_206 (by decide) ?_
                    refine ev_icmp_ne (tgt := 235) dc_X0_holds_209 (by decide) h (fun h => ?_) (fun h => ?_)
                    · refine ev_iload_n dc_X0_holds_212 rfl ?_
                      refine ev_iconst (v := 1) dc_X0_holds_213 (by decide) ?_
                      refine ev_ishl dc_X0_holds_214 ?_
                      refine ev_aload_n dc_X0_holds_215 rfl ?_
                      refine ev_getR dc_X0_holds_216 fi_X0_33 rfl i0 ?_
                      refine ev_iconst (v := 4) dc_X0_holds_219 (by decide) ?_
                      refine ev_iald dc_X0_holds_220 (wt hW i0 6 rfl rfl) h (fun h => ?_)
                      refine ev_iconst (v := 1) dc_X0_holds_221 (by decide) ?_
                      refine ev_icmp_ne (tgt := 229) dc_X0_holds_222 (by decide) h (fun h => ?_) (fun h => ?_)
                      · refine ev_iconst (v := 1) dc_X0_holds_225 (by decide) ?_
                        refine ev_goto (tgt := 230) dc_X0_holds_226 (by decide) ?_
                        exact ev_sub (tX0_holds_b230 hW i0 hk11 h) (And.intro rfl (And.intro rfl (And.intro rfl (And.intro rfl (And.intro rfl trivial)))))
                      · refine ev_iconst (v := 0) dc_X0_holds_229 (by decide) ?_
                        exact ev_sub (tX0_holds_b230 hW i0 hk11 h) (And.intro rfl (And.intro rfl (And.intro rfl (And.intro rfl (And.intro rfl trivial)))))
                    · refine ev_iload dc_X0_holds_235 rfl ?_
                      refine ev_sipush (v := 1011) dc_X0_holds_237 (by decide) ?_
                      refine ev_icmp_ne (tgt := 250) dc_X0_holds_240 (by decide) h (fun h => ?_) (fun h => ?_)
                      · refine ev_iload_n dc_X0_holds_243 rfl ?_
                        refine ev_iconst (v := 1) dc_X0_holds_244 (by decide) ?_
                        refine ev_ixor dc_X0_holds_245 ?_
                        refine ev_istore_n (lv' := [some (.ref a0), none, some (.int a2), some (.int (x3 ^^^ (1 : Int32))), some (.int x4), some (.int x5), some (.int x6), some (.int (gA σ (pR G a0 5) x6)), none]) dc_X0_holds_246 rfl (by decide) rfl ?_
                        refine ev_goto (tgt := 278) dc_X0_holds_247 (by decide) ?_
                        refine ev_iinc (v := 1) (lv' := [some (.ref a0), none, some (.int a2), some (.int (x3 ^^^ (1 : Int32))), some (.int x4), some (.int x5), some (.int (x6 + (1 : Int32))), some (.int (gA σ (pR G a0 5) x6)), none]) dc_X0_holds_278 rfl (by decide) rfl (by decide) rfl ?_
                        refine ev_goto (tgt := 11) dc_X0_holds_281 (by decide) ?_
                        exact ev_sub (hk11 (x3 ^^^ (1 : Int32), x4, x5, x6 + (1 : Int32)) h) (And.intro rfl (And.intro rfl (And.intro rfl (And.intro rfl (And.intro rfl (And.intro rfl trivial))))))
                      · refine ev_iload dc_X0_holds_250 rfl ?_
                        refine ev_sipush (v := 1012) dc_X0_holds_252 (by decide) ?_
                        refine ev_icmp_ne (tgt := 270) dc_X0_holds_255 (by decide) h (fun h => ?_) (fun h => ?_)
                        · refine ev_iload_n dc_X0_holds_258 rfl ?_
                          refine ev_iconst (v := 1) dc_X0_holds_259 (by decide) ?_
                          refine ev_ishr dc_X0_holds_260 ?_
                          refine ev_iload_n dc_X0_holds_261 rfl ?_
                          refine ev_bipush (v := (-2)) dc_X0_holds_262 (by decide) ?_
                          refine ev_ior dc_X0_holds_264 ?_
                          refine ev_iand dc_X0_holds_265 ?_
                          refine ev_istore_n (lv' := [some (.ref a0), none, some (.int a2), some (.int ((x3 >>> ((1 : Int32) &&& 31)) &&& (x3 ||| (-2 : Int32)))), some (.int x4), some (.int x5), some (.int x6), some (.int (gA σ (pR G a0 5) x6)), none]) dc_X0_holds_266 rfl (by decide) rfl ?_
                          refine ev_goto (tgt := 278) dc_X0_holds_267 (by decide) ?_
                          refine ev_iinc (v := 1) (lv' := [some (.ref a0), none, some (.int a2), some (.int ((x3 >>> ((1 : Int32) &&& 31)) &&& (x3 ||| (-2 : Int32)))), some (.int x4), some (.int x5), some (.int (x6 + (1 : Int32))), some (.int (gA σ (pR G a0 5) x6)), none]) dc_X0_holds_278 rfl (by decide) rfl (by decide) rfl ?_
                          refine ev_goto (tgt := 11) dc_X0_holds_281 (by decide) ?_
                          exact ev_sub (hk11 ((x3 >>> ((1 : Int32) &&& 31)) &&& (x3 ||| (-2 : Int32)), x4, x5, x6 + (1 : Int32)) h) (And.intro rfl (And.intro rfl (And.intro rfl (And.intro rfl (And.intro rfl (And.intro rfl trivial))))))
                        · refine ev_iload_n dc_X0_holds_270 rfl ?_
                          refine ev_iconst (v := 1) dc_X0_holds_271 (by decide) ?_
                          refine ev_ishr dc_X0_holds_272 ?_
                          refine ev_iload_n dc_X0_holds_273 rfl ?_
                          refine ev_iconst (v := 1) dc_X0_holds_274 (by decide) ?_
                          refine ev_iand dc_X0_holds_275 ?_
                          refine ev_ior dc_X0_holds_276 ?_
                          refine ev_istore_n (lv' := [some (.ref a0), none, some (.int a2), some (.int ((x3 >>> ((1 : Int32) &&& 31)) ||| (x3 &&& (1 : Int32)))), some (.int x4), some (.int x5), some (.int x6), some (.int (gA σ (pR G a0 5) x6)), none]) dc_X0_holds_277 rfl (by decide) rfl ?_
                          refine ev_iinc (v := 1) (lv' := [some (.ref a0), none, some (.int a2), some (.int ((x3 >>> ((1 : Int32) &&& 31)) ||| (x3 &&& (1 : Int32)))), some (.int x4), some (.int x5), some (.int (x6 + (1 : Int32))), some (.int (gA σ (pR G a0 5) x6)), none]) dc_X0_holds_278 rfl (by decide) rfl (by decide) rfl ?_
                          refine ev_goto (tgt := 11) dc_X0_holds_281 (by decide) ?_
                          exact ev_sub (hk11 ((x3 >>> ((1 : Int32) &&& 31)) ||| (x3 &&& (1 : Int32)), x4, x5, x6 + (1 : Int32)) h) (And.intro rfl (And.intro rfl (And.intro rfl (And.intro rfl (And.intro rfl (And.intro rfl trivial))))))
          · refine ev_iload dc_X0_holds_65 rfl ?_
            refine ev_aload_n dc_X0_holds_67 rfl ?_
            refine ev_getR dc_X0_holds_68 fi_X0_33 rfl i0 ?_
            refine ev_iload dc_X0_holds_71 rfl ?_
            refine ev_sipush (v := 1000) dc_X0_holds_73 (by decide) ?_
            refine ev_isub dc_X0_holds_76 ?_
            refine ev_iald dc_X0_holds_77 (wt hW i0 6 rfl rfl) h (fun h => ?_)
            refine ev_iadd dc_X0_holds_78 ?_
            refine ev_istore (lv' := [some (.ref a0), none, some (.int a2), some (.int x3), some (.int x4), some (.int (x5 + (gA σ (pR G a0 6) ((gA σ (pR G a0 5) x6) - (1000 : Int32))))), some (.int x6), some (.int (gA σ (pR G a0 5) x6)), none]) dc_X0_holds_79 rfl (by decide) rfl ?_
            refine ev_goto (tgt := 278) dc_X0_holds_81 (by decide) ?_
            refine ev_iinc (v := 1) (lv' := [some (.ref a0), none, some (.int a2), some (.int x3), some (.int x4), some (.int (x5 + (gA σ (pR G a0 6) ((gA σ (pR G a0 5) x6) - (1000 : Int32))))), some (.int (x6 + (1 : Int32))), some (.int (gA σ (pR G a0 5) x6)), none]) dc_X0_holds_278 rfl (by decide) rfl (by decide) rfl ?_
            refine ev_goto (tgt := 11) dc_X0_holds_281 (by decide) ?_
            exact ev_sub (hk11 (x3, x4, x5 + (gA σ (pR G a0 6) ((gA σ (pR G a0 5) x6) - (1000 : Int32))), x6 + (1 : Int32)) h) (And.intro rfl (And.intro rfl (And.intro rfl (And.intro rfl (And.intro rfl (And.intro rfl trivial))))))
        · refine ev_iload dc_X0_holds_47 rfl ?_
          refine ev_iload dc_X0_holds_49 rfl ?_
          refine ev_iadd dc_X0_holds_51 ?_
          refine ev_istore (lv' := [some (.ref a0), none, some (.int a2), some (.int x3), some (.int x4), some (.int (x5 + (gA σ (pR G a0 5) x6))), some (.int x6), some (.int (gA σ (pR G a0 5) x6)), none]) dc_X0_holds_52 rfl (by decide) rfl ?_
          refine ev_goto (tgt := 278) dc_X0_holds_54 (by decide) ?_
          refine ev_iinc (v := 1) (lv' := [some (.ref a0), none, some (.int a2), some (.int x3), some (.int x4), some (.int (x5 + (gA σ (pR G a0 5) x6))), some (.int (x6 + (1 : Int32))), some (.int (gA σ (pR G a0 5) x6)), none]) dc_X0_holds_278 rfl (by decide) rfl (by decide) rfl ?_
          refine ev_goto (tgt := 11) dc_X0_holds_281 (by decide) ?_
          exact ev_sub (hk11 (x3, x4, x5 + (gA σ (pR G a0 5) x6), x6 + (1 : Int32)) h) (And.intro rfl (And.intro rfl (And.intro rfl (And.intro rfl (And.intro rfl (And.intro rfl trivial))))))
def fX0_holds (N : Nat) (G : pG) (a0 : Nat) (a1 : Int32) (a2 : Int32) (σ : pS) : Option (Int32) := fX0_holds_b11 N G a0 a2 σ ((1 : Int32), (0 : Int32), (0 : Int32), a1)
set_option maxRecDepth 100000 in
set_option maxHeartbeats 4000000 in
theorem tX0_holds {N : Nat} {G : pG} {SK : Nat → Nat} {a0 : Nat} {a1 : Int32} {a2 : Int32} {σ : pS} {r : Int32} (hW : WT G) (i0 : Is G a0 0) (h : fX0_holds N G a0 a1 a2 σ = some r) : Dn miX0_holds yX0_holds 1 G SK [.ref a0, .int a1, .int a2] σ (some (.int r)) σ := by
  unfold fX0_holds at h
  refine dn_of (lv := [some (.ref a0), some (.int a1), some (.int a2), none, none, none, none, none, none]) (by decide) rfl rfl (Nat.le_of_ble_eq_true rfl) rfl ?_
  refine ev_iconst (v := 1) dc_X0_holds_0 (by decide) ?_
  refine ev_istore_n (lv' := [some (.ref a0), some (.int a1), some (.int a2), some (.int (1 : Int32)), none, none, none, none, none]) dc_X0_holds_1 rfl (by decide) rfl ?_
  refine ev_iconst (v := 0) dc_X0_holds_2 (by decide) ?_
  refine ev_istore (lv' := [some (.ref a0), some (.int a1), some (.int a2), some (.int (1 : Int32)), some (.int (0 : Int32)), none, none, none, none]) dc_X0_holds_3 rfl (by decide) rfl ?_
  refine ev_iconst (v := 0) dc_X0_holds_5 (by decide) ?_
  refine ev_istore (lv' := [some (.ref a0), some (.int a1), some (.int a2), some (.int (1 : Int32)), some (.int (0 : Int32)), some (.int (0 : Int32)), none, none, none]) dc_X0_holds_6 rfl (by decide) rfl ?_
  refine ev_iload_n dc_X0_holds_8 rfl ?_
  refine ev_istore (lv' := [some (.ref a0), some (.int a1), some (.int a2), some (.int (1 : Int32)), some (.int (0 : Int32)), some (.int (0 : Int32)), some (.int a1), none, none]) dc_X0_holds_9 rfl (by decide) rfl ?_
  exact ev_sub (tX0_holds_b11 (b := ((1 : Int32), (0 : Int32), (0 : Int32), a1)) hW i0 h) (And.intro rfl (And.intro rfl (And.intro rfl (And.intro rfl (And.intro rfl (And.intro rfl trivial))))))
theorem dc_X0_lookAt_0 : Dc miX0_lookAt 0 (.aload_n 0) 1 1 := ⟨by decide +kernel, rfl⟩
theorem dc_X0_lookAt_1 : Dc miX0_lookAt 1 (.getfield 33) 3 4 := ⟨by decide +kernel, rfl⟩
theorem dc_X0_lookAt_4 : Dc miX0_lookAt 4 (.iconst 0) 1 5 := ⟨by decide +kernel, rfl⟩
theorem dc_X0_lookAt_5 : Dc miX0_lookAt 5 (.iload_n 2) 1 6 := ⟨by decide +kernel, rfl⟩
theorem dc_X0_lookAt_6 : Dc miX0_lookAt 6 (.iastore) 1 7 := ⟨by decide +kernel, rfl⟩
theorem dc_X0_lookAt_7 : Dc miX0_lookAt 7 (.aload_n 0) 1 8 := ⟨by decide +kernel, rfl⟩
theorem dc_X0_lookAt_8 : Dc miX0_lookAt 8 (.getfield 33) 3 11 := ⟨by decide +kernel, rfl⟩
theorem dc_X0_lookAt_11 : Dc miX0_lookAt 11 (.iconst 1) 1 12 := ⟨by decide +kernel, rfl⟩
theorem dc_X0_lookAt_12 : Dc miX0_lookAt 12 (.iload_n 3) 1 13 := ⟨by decide +kernel, rfl⟩
theorem dc_X0_lookAt_13 : Dc miX0_lookAt 13 (.iastore) 1 14 := ⟨by decide +kernel, rfl⟩
theorem dc_X0_lookAt_14 : Dc miX0_lookAt 14 (.aload_n 0) 1 15 := ⟨by decide +kernel, rfl⟩
theorem dc_X0_lookAt_15 : Dc miX0_lookAt 15 (.getfield 33) 3 18 := ⟨by decide +kernel, rfl⟩
theorem dc_X0_lookAt_18 : Dc miX0_lookAt 18 (.iconst 2) 1 19 := ⟨by decide +kernel, rfl⟩
theorem dc_X0_lookAt_19 : Dc miX0_lookAt 19 (.aload_n 1) 1 20 := ⟨by decide +kernel, rfl⟩
theorem dc_X0_lookAt_20 : Dc miX0_lookAt 20 (.getfield 46) 3 23 := ⟨by decide +kernel, rfl⟩
theorem dc_X0_lookAt_23 : Dc miX0_lookAt 23 (.iastore) 1 24 := ⟨by decide +kernel, rfl⟩
theorem dc_X0_lookAt_24 : Dc miX0_lookAt 24 (.aload_n 0) 1 25 := ⟨by decide +kernel, rfl⟩
theorem dc_X0_lookAt_25 : Dc miX0_lookAt 25 (.getfield 33) 3 28 := ⟨by decide +kernel, rfl⟩
theorem dc_X0_lookAt_28 : Dc miX0_lookAt 28 (.iconst 3) 1 29 := ⟨by decide +kernel, rfl⟩
theorem dc_X0_lookAt_29 : Dc miX0_lookAt 29 (.aload_n 1) 1 30 := ⟨by decide +kernel, rfl⟩
theorem dc_X0_lookAt_30 : Dc miX0_lookAt 30 (.getfield 51) 3 33 := ⟨by decide +kernel, rfl⟩
theorem dc_X0_lookAt_33 : Dc miX0_lookAt 33 (.iastore) 1 34 := ⟨by decide +kernel, rfl⟩
theorem dc_X0_lookAt_34 : Dc miX0_lookAt 34 (.aload_n 0) 1 35 := ⟨by decide +kernel, rfl⟩
theorem dc_X0_lookAt_35 : Dc miX0_lookAt 35 (.getfield 33) 3 38 := ⟨by decide +kernel, rfl⟩
theorem dc_X0_lookAt_38 : Dc miX0_lookAt 38 (.iconst 4) 1 39 := ⟨by decide +kernel, rfl⟩
theorem dc_X0_lookAt_39 : Dc miX0_lookAt 39 (.aload_n 1) 1 40 := ⟨by decide +kernel, rfl⟩
theorem dc_X0_lookAt_40 : Dc miX0_lookAt 40 (.getfield 54) 3 43 := ⟨by decide +kernel, rfl⟩
theorem dc_X0_lookAt_43 : Dc miX0_lookAt 43 (.invokestatic 57) 3 46 := ⟨by decide +kernel, rfl⟩
theorem dc_X0_lookAt_46 : Dc miX0_lookAt 46 (.iastore) 1 47 := ⟨by decide +kernel, rfl⟩
theorem dc_X0_lookAt_47 : Dc miX0_lookAt 47 (.aload_n 0) 1 48 := ⟨by decide +kernel, rfl⟩
theorem dc_X0_lookAt_48 : Dc miX0_lookAt 48 (.getfield 33) 3 51 := ⟨by decide +kernel, rfl⟩
theorem dc_X0_lookAt_51 : Dc miX0_lookAt 51 (.iconst 5) 1 52 := ⟨by decide +kernel, rfl⟩
theorem dc_X0_lookAt_52 : Dc miX0_lookAt 52 (.iload 4) 2 54 := ⟨by decide +kernel, rfl⟩
theorem dc_X0_lookAt_54 : Dc miX0_lookAt 54 (.iastore) 1 55 := ⟨by decide +kernel, rfl⟩
theorem dc_X0_lookAt_55 : Dc miX0_lookAt 55 (.aload_n 0) 1 56 := ⟨by decide +kernel, rfl⟩
theorem dc_X0_lookAt_56 : Dc miX0_lookAt 56 (.iload 5) 2 58 := ⟨by decide +kernel, rfl⟩
theorem dc_X0_lookAt_58 : Dc miX0_lookAt 58 (.putfield 36) 3 61 := ⟨by decide +kernel, rfl⟩
theorem dc_X0_lookAt_61 : Dc miX0_lookAt 61 (.return_) 1 62 := ⟨by decide +kernel, rfl⟩
def fX0_lookAt (N : Nat) (G : pG) (a0 : Nat) (a1 : Nat) (a2 : Int32) (a3 : Int32) (a4 : Int32) (a5 : Int32) (σ : pS) : Option (pS) := ck (inB (0 : Int32) (pN G (pR G a0 6))) (ck (inB (1 : Int32) (pN G (pR G a0 6))) (ck (inB (2 : Int32) (pN G (pR G a0 6))) (ck (inB (3 : Int32) (pN G (pR G a0 6))) ((fJ6_bitCount_0f7a4 N G ((sA (sA (sA (sA σ (pR G a0 6) (0 : Int32) a2) (pR G a0 6) (1 : Int32) a3) (pR G a0 6) (2 : Int32) ((sA (sA σ (pR G a0 6) (0 : Int32) a2) (pR G a0 6) (1 : Int32) a3).1 a1 0)) (pR G a0 6) (3 : Int32) ((sA (sA (sA σ (pR G a0 6) (0 : Int32) a2) (pR G a0 6) (1 : Int32) a3) (pR G a0 6) (2 : Int32) ((sA (sA σ (pR G a0 6) (0 : Int32) a2) (pR G a0 6) (1 : Int32) a3).1 a1 0)).1 a1 1)).1 a1 3) (sA (sA (sA (sA σ (pR G a0 6) (0 : Int32) a2) (pR G a0 6) (1 : Int32) a3) (pR G a0 6) (2 : Int32) ((sA (sA σ (pR G a0 6) (0 : Int32) a2) (pR G a0 6) (1 : Int32) a3).1 a1 0)) (pR G a0 6) (3 : Int32) ((sA (sA (sA σ (pR G a0 6) (0 : Int32) a2) (pR G a0 6) (1 : Int32) a3) (pR G a0 6) (2 : Int32) ((sA (sA σ (pR G a0 6) (0 : Int32) a2) (pR G a0 6) (1 : Int32) a3).1 a1 0)).1 a1 1))).bind (fun q1 => ck (inB (4 : Int32) (pN G (pR G a0 6))) (ck (inB (5 : Int32) (pN G (pR G a0 6))) (ck (isZ a5) (some (putF (sA (sA (sA (sA (sA (sA σ (pR G a0 6) (0 : Int32) a2) (pR G a0 6) (1 : Int32) a3) (pR G a0 6) (2 : Int32) ((sA (sA σ (pR G a0 6) (0 : Int32) a2) (pR G a0 6) (1 : Int32) a3).1 a1 0)) (pR G a0 6) (3 : Int32) ((sA (sA (sA σ (pR G a0 6) (0 : Int32) a2) (pR G a0 6) (1 : Int32) a3) (pR G a0 6) (2 : Int32) ((sA (sA σ (pR G a0 6) (0 : Int32) a2) (pR G a0 6) (1 : Int32) a3).1 a1 0)).1 a1 1)) (pR G a0 6) (4 : Int32) q1) (pR G a0 6) (5 : Int32) a4) a0 7 a5)))))))))
set_option maxRecDepth 100000 in
set_option maxHeartbeats 4000000 in
theorem tX0_lookAt {N : Nat} {G : pG} {SK : Nat → Nat} {a0 : Nat} {a1 : Nat} {a2 : Int32} {a3 : Int32} {a4 : Int32} {a5 : Int32} {σ : pS} {r : pS} (hW : WT G) (i0 : Is G a0 0) (i1 : Is G a1 3) (h : fX0_lookAt N G a0 a1 a2 a3 a4 a5 σ = some r) : Dn miX0_lookAt yX0_lookAt 2 G SK [.ref a0, .ref a1, .int a2, .int a3, .int a4, .int a5] σ none r := by
  unfold fX0_lookAt at h
  refine dn_of (lv := [some (.ref a0), some (.ref a1), some (.int a2), some (.int a3), some (.int a4), some (.int a5)]) (by decide) rfl rfl (Nat.le_of_ble_eq_true rfl) rfl ?_
  refine ev_aload_n dc_X0_lookAt_0 rfl ?_
  refine ev_getR dc_X0_lookAt_1 fi_X0_33 rfl i0 ?_
  refine ev_iconst (v := 0) dc_X0_lookAt_4 (by decide) ?_
  refine ev_iload_n dc_X0_lookAt_5 rfl ?_
  refine ev_iast dc_X0_lookAt_6 (wt hW i0 6 rfl rfl) h (fun h => ?_)
  refine ev_aload_n dc_X0_lookAt_7 rfl ?_
  refine ev_getR dc_X0_lookAt_8 fi_X0_33 rfl i0 ?_
  refine ev_iconst (v := 1) dc_X0_lookAt_11 (by decide) ?_
  refine ev_iload_n dc_X0_lookAt_12 rfl ?_
  refine ev_iast dc_X0_lookAt_13 (wt hW i0 6 rfl rfl) h (fun h => ?_)
  refine ev_aload_n dc_X0_lookAt_14 rfl ?_
  refine ev_getR dc_X0_lookAt_15 fi_X0_33 rfl i0 ?_
  refine ev_iconst (v := 2) dc_X0_lookAt_18 (by decide) ?_
  refine ev_aload_n dc_X0_lookAt_19 rfl ?_
  refine ev_getI dc_X0_lookAt_20 fi_X0_46 rfl i1 ?_
  refine ev_iast dc_X0_lookAt_23 (wt hW i0 6 rfl rfl) h (fun h => ?_)
  refine ev_aload_n dc_X0_lookAt_24 rfl ?_
  refine ev_getR dc_X0_lookAt_25 fi_X0_33 rfl i0 ?_
  refine ev_iconst (v := 3) dc_X0_lookAt_28 (by decide) ?_
  refine ev_aload_n dc_X0_lookAt_29 rfl ?_
  refine ev_getI dc_X0_lookAt_30 fi_X0_51 rfl i1 ?_
  refine ev_iast dc_X0_lookAt_33 (wt hW i0 6 rfl rfl) h (fun h => ?_)
  refine ev_aload_n dc_X0_lookAt_34 rfl ?_
  refine ev_getR dc_X0_lookAt_35 fi_X0_33 rfl i0 ?_
  refine ev_iconst (v := 4) dc_X0_lookAt_38 (by decide) ?_
  refine ev_aload_n dc_X0_lookAt_39 rfl ?_
  refine ev_getI dc_X0_lookAt_40 fi_X0_54 rfl i1 ?_
  obtain ⟨q1, hq1, h⟩ := Option.bind_eq_some_iff.mp h
  refine ev_callS (av := [.int ((sA (sA (sA (sA σ (pR G a0 6) (0 : Int32) a2) (pR G a0 6) (1 : Int32) a3) (pR G a0 6) (2 : Int32) ((sA (sA σ (pR G a0 6) (0 : Int32) a2) (pR G a0 6) (1 : Int32) a3).1 a1 0)) (pR G a0 6) (3 : Int32) ((sA (sA (sA σ (pR G a0 6) (0 : Int32) a2) (pR G a0 6) (1 : Int32) a3) (pR G a0 6) (2 : Int32) ((sA (sA σ (pR G a0 6) (0 : Int32) a2) (pR G a0 6) (1 : Int32) a3).1 a1 0)).1 a1 1)).1 a1 3)]) (st := [.int (4 : Int32), .ref (pR G a0 6)]) (st1 := [.int q1, .int (4 : Int32), .ref (pR G a0 6)]) dc_X0_lookAt_43 (tJ6_bitCount_0f7a4 hW hq1) mw_485 cs_J6_bitCount_0f7a4 rfl rfl rfl (Nat.le_of_ble_eq_true rfl) (Nat.le_of_ble_eq_true rfl) ⟨Nat.le_refl _, Nat.le_refl _⟩ ?_
  refine ev_iast dc_X0_lookAt_46 (wt hW i0 6 rfl rfl) h (fun h => ?_)
  refine ev_aload_n dc_X0_lookAt_47 rfl ?_
  refine ev_getR dc_X0_lookAt_48 fi_X0_33 rfl i0 ?_
  refine ev_iconst (v := 5) dc_X0_lookAt_51 (by decide) ?_
  refine ev_iload dc_X0_lookAt_52 rfl ?_
  refine ev_iast dc_X0_lookAt_54 (wt hW i0 6 rfl rfl) h (fun h => ?_)
  refine ev_aload_n dc_X0_lookAt_55 rfl ?_
  refine ev_iload dc_X0_lookAt_56 rfl ?_
  refine ev_putZ dc_X0_lookAt_58 fi_X0_36 rfl i0 h (fun h => ?_)
  cases h
  exact ev_vret dc_X0_lookAt_61 rfl rfl rfl
theorem dc_X0_sumOf_0 : Dc miX0_sumOf 0 (.iconst 0) 1 1 := ⟨by decide +kernel, rfl⟩
theorem dc_X0_sumOf_1 : Dc miX0_sumOf 1 (.istore_n 2) 1 2 := ⟨by decide +kernel, rfl⟩
theorem dc_X0_sumOf_2 : Dc miX0_sumOf 2 (.iconst 0) 1 3 := ⟨by decide +kernel, rfl⟩
theorem dc_X0_sumOf_3 : Dc miX0_sumOf 3 (.istore_n 3) 1 4 := ⟨by decide +kernel, rfl⟩
theorem dc_X0_sumOf_4 : Dc miX0_sumOf 4 (.iconst 0) 1 5 := ⟨by decide +kernel, rfl⟩
theorem dc_X0_sumOf_5 : Dc miX0_sumOf 5 (.istore 4) 2 7 := ⟨by decide +kernel, rfl⟩
theorem dc_X0_sumOf_7 : Dc miX0_sumOf 7 (.iload 4) 2 9 := ⟨by decide +kernel, rfl⟩
theorem dc_X0_sumOf_9 : Dc miX0_sumOf 9 (.aload_n 0) 1 10 := ⟨by decide +kernel, rfl⟩
theorem dc_X0_sumOf_10 : Dc miX0_sumOf 10 (.getfield 11) 3 13 := ⟨by decide +kernel, rfl⟩
theorem dc_X0_sumOf_13 : Dc miX0_sumOf 13 (.if_icmp .ge 60) 3 16 := ⟨by decide +kernel, rfl⟩
theorem dc_X0_sumOf_16 : Dc miX0_sumOf 16 (.iload 4) 2 18 := ⟨by decide +kernel, rfl⟩
theorem dc_X0_sumOf_18 : Dc miX0_sumOf 18 (.bipush 12) 2 20 := ⟨by decide +kernel, rfl⟩
theorem dc_X0_sumOf_20 : Dc miX0_sumOf 20 (.if_icmp .ge 53) 3 23 := ⟨by decide +kernel, rfl⟩
theorem dc_X0_sumOf_23 : Dc miX0_sumOf 23 (.aload_n 0) 1 24 := ⟨by decide +kernel, rfl⟩
theorem dc_X0_sumOf_24 : Dc miX0_sumOf 24 (.getfield 20) 3 27 := ⟨by decide +kernel, rfl⟩
theorem dc_X0_sumOf_27 : Dc miX0_sumOf 27 (.iload 4) 2 29 := ⟨by decide +kernel, rfl⟩
theorem dc_X0_sumOf_29 : Dc miX0_sumOf 29 (.iaload) 1 30 := ⟨by decide +kernel, rfl⟩
theorem dc_X0_sumOf_30 : Dc miX0_sumOf 30 (.iload_n 1) 1 31 := ⟨by decide +kernel, rfl⟩
theorem dc_X0_sumOf_31 : Dc miX0_sumOf 31 (.if_icmp .ne 28) 3 34 := ⟨by decide +kernel, rfl⟩
theorem dc_X0_sumOf_34 : Dc miX0_sumOf 34 (.aload_n 0) 1 35 := ⟨by decide +kernel, rfl⟩
theorem dc_X0_sumOf_35 : Dc miX0_sumOf 35 (.iload_n 3) 1 36 := ⟨by decide +kernel, rfl⟩
theorem dc_X0_sumOf_36 : Dc miX0_sumOf 36 (.aload_n 0) 1 37 := ⟨by decide +kernel, rfl⟩
theorem dc_X0_sumOf_37 : Dc miX0_sumOf 37 (.getfield 27) 3 40 := ⟨by decide +kernel, rfl⟩
theorem dc_X0_sumOf_40 : Dc miX0_sumOf 40 (.iload 4) 2 42 := ⟨by decide +kernel, rfl⟩
theorem dc_X0_sumOf_42 : Dc miX0_sumOf 42 (.iaload) 1 43 := ⟨by decide +kernel, rfl⟩
theorem dc_X0_sumOf_43 : Dc miX0_sumOf 43 (.invokevirtual 63) 3 46 := ⟨by decide +kernel, rfl⟩
theorem dc_X0_sumOf_46 : Dc miX0_sumOf 46 (.ifCond .eq 13) 3 49 := ⟨by decide +kernel, rfl⟩
theorem dc_X0_sumOf_49 : Dc miX0_sumOf 49 (.iload_n 2) 1 50 := ⟨by decide +kernel, rfl⟩
theorem dc_X0_sumOf_50 : Dc miX0_sumOf 50 (.aload_n 0) 1 51 := ⟨by decide +kernel, rfl⟩
theorem dc_X0_sumOf_51 : Dc miX0_sumOf 51 (.getfield 24) 3 54 := ⟨by decide +kernel, rfl⟩
theorem dc_X0_sumOf_54 : Dc miX0_sumOf 54 (.iload 4) 2 56 := ⟨by decide +kernel, rfl⟩
theorem dc_X0_sumOf_56 : Dc miX0_sumOf 56 (.iaload) 1 57 := ⟨by decide +kernel, rfl⟩
theorem dc_X0_sumOf_57 : Dc miX0_sumOf 57 (.iadd) 1 58 := ⟨by decide +kernel, rfl⟩
theorem dc_X0_sumOf_58 : Dc miX0_sumOf 58 (.istore_n 2) 1 59 := ⟨by decide +kernel, rfl⟩
theorem dc_X0_sumOf_59 : Dc miX0_sumOf 59 (.aload_n 0) 1 60 := ⟨by decide +kernel, rfl⟩
theorem dc_X0_sumOf_60 : Dc miX0_sumOf 60 (.getfield 27) 3 63 := ⟨by decide +kernel, rfl⟩
theorem dc_X0_sumOf_63 : Dc miX0_sumOf 63 (.iload 4) 2 65 := ⟨by decide +kernel, rfl⟩
theorem dc_X0_sumOf_65 : Dc miX0_sumOf 65 (.iaload) 1 66 := ⟨by decide +kernel, rfl⟩
theorem dc_X0_sumOf_66 : Dc miX0_sumOf 66 (.istore_n 3) 1 67 := ⟨by decide +kernel, rfl⟩
theorem dc_X0_sumOf_67 : Dc miX0_sumOf 67 (.iinc 4 1) 3 70 := ⟨by decide +kernel, rfl⟩
theorem dc_X0_sumOf_70 : Dc miX0_sumOf 70 (.goto (-63)) 3 73 := ⟨by decide +kernel, rfl⟩
theorem dc_X0_sumOf_73 : Dc miX0_sumOf 73 (.iload_n 2) 1 74 := ⟨by decide +kernel, rfl⟩
theorem dc_X0_sumOf_74 : Dc miX0_sumOf 74 (.ireturn) 1 75 := ⟨by decide +kernel, rfl⟩
def fX0_sumOf_b59 (N : Nat) (G : pG) (k7 : Int32 × Int32 × Int32 → Option (Int32)) (a0 : Nat) (a1 : Int32) (x2 : Int32) (x4 : Int32) (σ : pS) : Option (Int32) := ck (inB x4 (pN G (pR G a0 4))) (k7 (x2, gA σ (pR G a0 4) x4, x4 + (1 : Int32)))
set_option maxRecDepth 100000 in
set_option maxHeartbeats 4000000 in
theorem tX0_sumOf_b59 {N : Nat} {G : pG} {SK : Nat → Nat} {k7 : Int32 × Int32 × Int32 → Option (Int32)} {a0 : Nat} {a1 : Int32} {x2 : Int32} {x4 : Int32} {σ : pS} {r : Int32} (hW : WT G) (i0 : Is G a0 0) (hk7 : ∀ b : Int32 × Int32 × Int32, k7 b = some r → Ev miX0_sumOf (2, 0, 0) G (Zp G (some (.int r)) σ) SK (0, 0) 7 [some (.ref a0), some (.int a1), some (.int b.1), some (.int b.2.1), some (.int b.2.2)] [] σ) (h : fX0_sumOf_b59 N G k7 a0 a1 x2 x4 σ = some r) : Ev miX0_sumOf (2, 0, 0) G (Zp G (some (.int r)) σ) SK (0, 0) 59 [some (.ref a0), some (.int a1), some (.int x2), none, some (.int x4)] [] σ := by
  unfold fX0_sumOf_b59 at h
  refine ev_aload_n dc_X0_sumOf_59 rfl ?_
  refine ev_getR dc_X0_sumOf_60 fi_X0_27 rfl i0 ?_
  refine ev_iload dc_X0_sumOf_63 rfl ?_
  refine ev_iald dc_X0_sumOf_65 (wt hW i0 4 rfl rfl) h (fun h => ?_)
  refine ev_istore_n (lv' := [some (.ref a0), some (.int a1), some (.int x2), some (.int (gA σ (pR G a0 4) x4)), some (.int x4)]) dc_X0_sumOf_66 rfl (by decide) rfl ?_
  refine ev_iinc (v := 1) (lv' := [some (.ref a0), some (.int a1), some (.int x2), some (.int (gA σ (pR G a0 4) x4)), some (.int (x4 + (1 : Int32)))]) dc_X0_sumOf_67 rfl (by decide) rfl (by decide) rfl ?_
  refine ev_goto (tgt := 7) dc_X0_sumOf_70 (by decide) ?_
  exact ev_sub (hk7 (x2, gA σ (pR G a0 4) x4, x4 + (1 : Int32)) h) (And.intro rfl (And.intro rfl (And.intro rfl (And.intro rfl (And.intro rfl trivial)))))
def fX0_sumOf_b7 (N : Nat) (G : pG) (a0 : Nat) (a1 : Int32) (σ : pS) : (Int32 × Int32 × Int32) → Option (Int32) := lp (fun (k7 : Int32 × Int32 × Int32 → Option (Int32)) (b : Int32 × Int32 × Int32) => if (σ.1 a0 0) ≤ b.2.2 then (some b.1) else (if (12 : Int32) ≤ b.2.2 then (some b.1) else (ck (inB b.2.2 (pN G (pR G a0 2))) (if (gA σ (pR G a0 2) b.2.2) = a1 then (ck (inB b.2.2 (pN G (pR G a0 4))) ((fX0_holds N G a0 b.2.1 (gA σ (pR G a0 4) b.2.2) σ).bind (fun q1 => if q1 = 0 then (fX0_sumOf_b59 N G k7 a0 a1 b.1 b.2.2 σ) else (ck (inB b.2.2 (pN G (pR G a0 3))) (fX0_sumOf_b59 N G k7 a0 a1 (b.1 + (gA σ (pR G a0 3) b.2.2)) b.2.2 σ))))) else (fX0_sumOf_b59 N G k7 a0 a1 b.1 b.2.2 σ))))) N
set_option maxRecDepth 100000 in
set_option maxHeartbeats 4000000 in
theorem tX0_sumOf_b7 {N : Nat} {G : pG} {SK : Nat → Nat} {a0 : Nat} {a1 : Int32} {σ : pS} {b : Int32 × Int32 × Int32} {r : Int32} (hW : WT G) (i0 : Is G a0 0) (h : fX0_sumOf_b7 N G a0 a1 σ b = some r) : Ev miX0_sumOf (2, 0, 0) G (Zp G (some (.int r)) σ) SK (0, 0) 7 [some (.ref a0), some (.int a1), some (.int b.1), some (.int b.2.1), some (.int b.2.2)] [] σ := by
  unfold fX0_sumOf_b7 at h
  refine lp_ind (P := fun b r9 => r9 = r → Ev miX0_sumOf (2, 0, 0) G (Zp G (some (.int r)) σ) SK (0, 0) 7 [some (.ref a0), some (.int a1), some (.int b.1), some (.int b.2.1), some (.int b.2.2)] [] σ) (fun k7 b r9 ih h9 e9 => ?_) N b r h rfl
  clear h
  subst e9
  have h := h9
  clear h9
  have hk7 : ∀ b : Int32 × Int32 × Int32, k7 b = some r9 → Ev miX0_sumOf (2, 0, 0) G (Zp G (some (.int r9)) σ) SK (0, 0) 7 [some (.ref a0), some (.int a1), some (.int b.1), some (.int b.2.1), some (.int b.2.2)] [] σ := fun b hb => ih b r9 hb rfl
  clear ih
  obtain ⟨x2, x3, x4⟩ := b
  dsimp only at h ⊢
  refine ev_iload dc_X0_sumOf_7 rfl ?_
  refine ev_aload_n dc_X0_sumOf_9 rfl ?_
  refine ev_getI dc_X0_sumOf_10 fi_X0_11 rfl i0 ?_
  refine ev_icmp_ge (tgt := 73) dc_X0_sumOf_13 (by decide) h (fun h => ?_) (fun h => ?_)
  · refine ev_iload_n dc_X0_sumOf_73 rfl ?_
    cases h
    exact ev_iret dc_X0_sumOf_74 rfl rfl rfl
  · refine ev_iload dc_X0_sumOf_16 rfl ?_
    refine ev_bipush (v := 12) dc_X0_sumOf_18 (by decide) ?_
    refine ev_icmp_ge (tgt := 73) dc_X0_sumOf_20 (by decide) h (fun h => ?_) (fun h => ?_)
    · refine ev_iload_n dc_X0_sumOf_73 rfl ?_
      cases h
      exact ev_iret dc_X0_sumOf_74 rfl rfl rfl
    · refine ev_aload_n dc_X0_sumOf_23 rfl ?_
      refine ev_getR dc_X0_sumOf_24 fi_X0_20 rfl i0 ?_
      refine ev_iload dc_X0_sumOf_27 rfl ?_
      refine ev_iald dc_X0_sumOf_29 (wt hW i0 2 rfl rfl) h (fun h => ?_)
      refine ev_iload_n dc_X0_sumOf_30 rfl ?_
      refine ev_icmp_ne (tgt := 59) dc_X0_sumOf_31 (by decide) h (fun h => ?_) (fun h => ?_)
      · refine ev_aload_n dc_X0_sumOf_34 rfl ?_
        refine ev_iload_n dc_X0_sumOf_35 rfl ?_
        refine ev_aload_n dc_X0_sumOf_36 rfl ?_
        refine ev_getR dc_X0_sumOf_37 fi_X0_27 rfl i0 ?_
        refine ev_iload dc_X0_sumOf_40 rfl ?_
        refine ev_iald dc_X0_sumOf_42 (wt hW i0 4 rfl rfl) h (fun h => ?_)
        obtain ⟨q1, hq1, h⟩ := Option.bind_eq_some_iff.mp h
        refine ev_callV (av := [.int x3, .int (gA σ (pR G a0 4) x4)]) (st := []) (st1 := [.int q1]) dc_X0_sumOf_43 (tX0_holds hW i0 hq1) mw_495 cy_X0_holds i0 (by decide) rfl rfl rfl rfl (Nat.le_of_ble_eq_true rfl) (Nat.le_of_ble_eq_true rfl) ⟨Nat.le_refl _, Nat.le_refl _⟩ ?_
        refine ev_if_eq (tgt := 59) dc_X0_sumOf_46 (by decide) h (fun h => ?_) (fun h => ?_)
        · exact ev_sub (tX0_sumOf_b59 hW i0 hk7 h) (And.intro rfl (And.intro rfl (And.intro rfl (And.intro rfl trivial))))
        · refine ev_iload_n dc_X0_sumOf_49 rfl ?_
          refine ev_aload_n dc_X0_sumOf_50 rfl ?_
          refine ev_getR dc_X0_sumOf_51 fi_X0_24 rfl i0 ?_
          refine ev_iload dc_X0_sumOf_54 rfl ?_
          refine ev_iald dc_X0_sumOf_56 (wt hW i0 3 rfl rfl) h (fun h => ?_)
          refine ev_iadd dc_X0_sumOf_57 ?_
          refine ev_istore_n (lv' := [some (.ref a0), some (.int a1), some (.int (x2 + (gA σ (pR G a0 3) x4))), some (.int x3), some (.int x4)]) dc_X0_sumOf_58 rfl (by decide) rfl ?_
          exact ev_sub (tX0_sumOf_b59 hW i0 hk7 h) (And.intro rfl (And.intro rfl (And.intro rfl (And.intro rfl trivial))))
      · exact ev_sub (tX0_sumOf_b59 hW i0 hk7 h) (And.intro rfl (And.intro rfl (And.intro rfl (And.intro rfl trivial))))
def fX0_sumOf (N : Nat) (G : pG) (a0 : Nat) (a1 : Int32) (σ : pS) : Option (Int32) := fX0_sumOf_b7 N G a0 a1 σ ((0 : Int32), (0 : Int32), (0 : Int32))
set_option maxRecDepth 100000 in
set_option maxHeartbeats 4000000 in
theorem tX0_sumOf {N : Nat} {G : pG} {SK : Nat → Nat} {a0 : Nat} {a1 : Int32} {σ : pS} {r : Int32} (hW : WT G) (i0 : Is G a0 0) (h : fX0_sumOf N G a0 a1 σ = some r) : Dn miX0_sumOf yX0_sumOf 2 G SK [.ref a0, .int a1] σ (some (.int r)) σ := by
  unfold fX0_sumOf at h
  refine dn_of (lv := [some (.ref a0), some (.int a1), none, none, none]) (by decide) rfl rfl (Nat.le_of_ble_eq_true rfl) rfl ?_
  refine ev_iconst (v := 0) dc_X0_sumOf_0 (by decide) ?_
  refine ev_istore_n (lv' := [some (.ref a0), some (.int a1), some (.int (0 : Int32)), none, none]) dc_X0_sumOf_1 rfl (by decide) rfl ?_
  refine ev_iconst (v := 0) dc_X0_sumOf_2 (by decide) ?_
  refine ev_istore_n (lv' := [some (.ref a0), some (.int a1), some (.int (0 : Int32)), some (.int (0 : Int32)), none]) dc_X0_sumOf_3 rfl (by decide) rfl ?_
  refine ev_iconst (v := 0) dc_X0_sumOf_4 (by decide) ?_
  refine ev_istore (lv' := [some (.ref a0), some (.int a1), some (.int (0 : Int32)), some (.int (0 : Int32)), some (.int (0 : Int32))]) dc_X0_sumOf_5 rfl (by decide) rfl ?_
  exact ev_sub (tX0_sumOf_b7 (b := ((0 : Int32), (0 : Int32), (0 : Int32))) hW i0 h) (And.intro rfl (And.intro rfl (And.intro rfl (And.intro rfl (And.intro rfl trivial)))))
theorem dc_X10_canNightCome_0 : Dc miX10_canNightCome 0 (.aload_n 1) 1 1 := ⟨by decide +kernel, rfl⟩
theorem dc_X10_canNightCome_1 : Dc miX10_canNightCome 1 (.getfield 108) 3 4 := ⟨by decide +kernel, rfl⟩
theorem dc_X10_canNightCome_4 : Dc miX10_canNightCome 4 (.ifCond .ne 21) 3 7 := ⟨by decide +kernel, rfl⟩
theorem dc_X10_canNightCome_7 : Dc miX10_canNightCome 7 (.aload_n 1) 1 8 := ⟨by decide +kernel, rfl⟩
theorem dc_X10_canNightCome_8 : Dc miX10_canNightCome 8 (.getfield 119) 3 11 := ⟨by decide +kernel, rfl⟩
theorem dc_X10_canNightCome_11 : Dc miX10_canNightCome 11 (.aload_n 0) 1 12 := ⟨by decide +kernel, rfl⟩
theorem dc_X10_canNightCome_12 : Dc miX10_canNightCome 12 (.getfield 12) 3 15 := ⟨by decide +kernel, rfl⟩
theorem dc_X10_canNightCome_15 : Dc miX10_canNightCome 15 (.getfield 122) 3 18 := ⟨by decide +kernel, rfl⟩
theorem dc_X10_canNightCome_18 : Dc miX10_canNightCome 18 (.if_icmp .ge 7) 3 21 := ⟨by decide +kernel, rfl⟩
theorem dc_X10_canNightCome_21 : Dc miX10_canNightCome 21 (.iconst 1) 1 22 := ⟨by decide +kernel, rfl⟩
theorem dc_X10_canNightCome_22 : Dc miX10_canNightCome 22 (.goto 4) 3 25 := ⟨by decide +kernel, rfl⟩
theorem dc_X10_canNightCome_25 : Dc miX10_canNightCome 25 (.iconst 0) 1 26 := ⟨by decide +kernel, rfl⟩
theorem dc_X10_canNightCome_26 : Dc miX10_canNightCome 26 (.ireturn) 1 27 := ⟨by decide +kernel, rfl⟩
def fX10_canNightCome (N : Nat) (G : pG) (a0 : Nat) (a1 : Nat) (σ : pS) : Option (Int32) := if (σ.1 a1 6) = 0 then (if (σ.1 (pR G a0 0) 7) ≤ (σ.1 a1 1) then (some (0 : Int32)) else (some (1 : Int32))) else (some (0 : Int32))
set_option maxRecDepth 100000 in
set_option maxHeartbeats 4000000 in
theorem tX10_canNightCome {N : Nat} {G : pG} {SK : Nat → Nat} {a0 : Nat} {a1 : Nat} {σ : pS} {r : Int32} (hW : WT G) (i0 : Is G a0 9) (i1 : Is G a1 3) (h : fX10_canNightCome N G a0 a1 σ = some r) : Dn miX10_canNightCome yX10_canNightCome 1 G SK [.ref a0, .ref a1] σ (some (.int r)) σ := by
  unfold fX10_canNightCome at h
  refine dn_of (lv := [some (.ref a0), some (.ref a1)]) (by decide) rfl rfl (Nat.le_of_ble_eq_true rfl) rfl ?_
  refine ev_aload_n dc_X10_canNightCome_0 rfl ?_
  refine ev_getI dc_X10_canNightCome_1 fi_X10_108 rfl i1 ?_
  refine ev_if_ne (tgt := 25) dc_X10_canNightCome_4 (by decide) h (fun h => ?_) (fun h => ?_)
  · refine ev_aload_n dc_X10_canNightCome_7 rfl ?_
    refine ev_getI dc_X10_canNightCome_8 fi_X10_119 rfl i1 ?_
    refine ev_aload_n dc_X10_canNightCome_11 rfl ?_
    refine ev_getR dc_X10_canNightCome_12 fi_X10_12 rfl i0 ?_
    refine ev_getI dc_X10_canNightCome_15 fi_X10_122 rfl (wt hW i0 0 rfl rfl) ?_
    refine ev_icmp_ge (tgt := 25) dc_X10_canNightCome_18 (by decide) h (fun h => ?_) (fun h => ?_)
    · refine ev_iconst (v := 0) dc_X10_canNightCome_25 (by decide) ?_
      cases h
      exact ev_zretc dc_X10_canNightCome_26 rfl rfl rfl rfl
    · refine ev_iconst (v := 1) dc_X10_canNightCome_21 (by decide) ?_
      refine ev_goto (tgt := 26) dc_X10_canNightCome_22 (by decide) ?_
      cases h
      exact ev_zretc dc_X10_canNightCome_26 rfl rfl rfl rfl
  · refine ev_iconst (v := 0) dc_X10_canNightCome_25 (by decide) ?_
    cases h
    exact ev_zretc dc_X10_canNightCome_26 rfl rfl rfl rfl
theorem dc_X10_copyFrom_0 : Dc miX10_copyFrom 0 (.aload_n 0) 1 1 := ⟨by decide +kernel, rfl⟩
theorem dc_X10_copyFrom_1 : Dc miX10_copyFrom 1 (.getfield 12) 3 4 := ⟨by decide +kernel, rfl⟩
theorem dc_X10_copyFrom_4 : Dc miX10_copyFrom 4 (.aload_n 1) 1 5 := ⟨by decide +kernel, rfl⟩
theorem dc_X10_copyFrom_5 : Dc miX10_copyFrom 5 (.getfield 12) 3 8 := ⟨by decide +kernel, rfl⟩
theorem dc_X10_copyFrom_8 : Dc miX10_copyFrom 8 (.invokevirtual 32) 3 11 := ⟨by decide +kernel, rfl⟩
theorem dc_X10_copyFrom_11 : Dc miX10_copyFrom 11 (.aload_n 0) 1 12 := ⟨by decide +kernel, rfl⟩
theorem dc_X10_copyFrom_12 : Dc miX10_copyFrom 12 (.getfield 21) 3 15 := ⟨by decide +kernel, rfl⟩
theorem dc_X10_copyFrom_15 : Dc miX10_copyFrom 15 (.aload_n 1) 1 16 := ⟨by decide +kernel, rfl⟩
theorem dc_X10_copyFrom_16 : Dc miX10_copyFrom 16 (.getfield 21) 3 19 := ⟨by decide +kernel, rfl⟩
theorem dc_X10_copyFrom_19 : Dc miX10_copyFrom 19 (.invokevirtual 36) 3 22 := ⟨by decide +kernel, rfl⟩
theorem dc_X10_copyFrom_22 : Dc miX10_copyFrom 22 (.aload_n 0) 1 23 := ⟨by decide +kernel, rfl⟩
theorem dc_X10_copyFrom_23 : Dc miX10_copyFrom 23 (.getfield 28) 3 26 := ⟨by decide +kernel, rfl⟩
theorem dc_X10_copyFrom_26 : Dc miX10_copyFrom 26 (.aload_n 1) 1 27 := ⟨by decide +kernel, rfl⟩
theorem dc_X10_copyFrom_27 : Dc miX10_copyFrom 27 (.getfield 28) 3 30 := ⟨by decide +kernel, rfl⟩
theorem dc_X10_copyFrom_30 : Dc miX10_copyFrom 30 (.invokevirtual 39) 3 33 := ⟨by decide +kernel, rfl⟩
theorem dc_X10_copyFrom_33 : Dc miX10_copyFrom 33 (.return_) 1 34 := ⟨by decide +kernel, rfl⟩
def fX10_copyFrom (N : Nat) (G : pG) (a0 : Nat) (a1 : Nat) (σ : pS) : Option (pS) := (fX8_copyFrom N G (pR G a0 0) (pR G a1 0) σ).bind (fun q1 => (fX0_copyFrom N G (pR G a0 1) (pR G a1 1) q1).bind (fun q2 => (fX3_copyFrom N G (pR G a0 2) (pR G a1 2) q2).bind (fun q3 => some q3)))
set_option maxRecDepth 100000 in
set_option maxHeartbeats 4000000 in
theorem tX10_copyFrom {N : Nat} {G : pG} {SK : Nat → Nat} {a0 : Nat} {a1 : Nat} {σ : pS} {r : pS} (hW : WT G) (i0 : Is G a0 9) (i1 : Is G a1 9) (h : fX10_copyFrom N G a0 a1 σ = some r) : Dn miX10_copyFrom yX10_copyFrom 3 G SK [.ref a0, .ref a1] σ none r := by
  unfold fX10_copyFrom at h
  refine dn_of (lv := [some (.ref a0), some (.ref a1)]) (by decide) rfl rfl (Nat.le_of_ble_eq_true rfl) rfl ?_
  refine ev_aload_n dc_X10_copyFrom_0 rfl ?_
  refine ev_getR dc_X10_copyFrom_1 fi_X10_12 rfl i0 ?_
  refine ev_aload_n dc_X10_copyFrom_4 rfl ?_
  refine ev_getR dc_X10_copyFrom_5 fi_X10_12 rfl i1 ?_
  obtain ⟨q1, hq1, h⟩ := Option.bind_eq_some_iff.mp h
  refine ev_callV (av := [.ref (pR G a1 0)]) (st := []) (st1 := []) dc_X10_copyFrom_8 (tX8_copyFrom hW (wt hW i0 0 rfl rfl) (wt hW i1 0 rfl rfl) hq1) mw_650 cy_X8_copyFrom (wt hW i0 0 rfl rfl) (by decide) rfl rfl rfl rfl (Nat.le_of_ble_eq_true rfl) (Nat.le_of_ble_eq_true rfl) ⟨Nat.le_refl _, Nat.le_refl _⟩ ?_
  refine ev_aload_n dc_X10_copyFrom_11 rfl ?_
  refine ev_getR dc_X10_copyFrom_12 fi_X10_21 rfl i0 ?_
  refine ev_aload_n dc_X10_copyFrom_15 rfl ?_
  refine ev_getR dc_X10_copyFrom_16 fi_X10_21 rfl i1 ?_
  obtain ⟨q2, hq2, h⟩ := Option.bind_eq_some_iff.mp h
  refine ev_callV (av := [.ref (pR G a1 1)]) (st := []) (st1 := []) dc_X10_copyFrom_19 (tX0_copyFrom hW (wt hW i0 1 rfl rfl) (wt hW i1 1 rfl rfl) hq2) mw_655 cy_X0_copyFrom (wt hW i0 1 rfl rfl) (by decide) rfl rfl rfl rfl (Nat.le_of_ble_eq_true rfl) (Nat.le_of_ble_eq_true rfl) ⟨Nat.le_refl _, Nat.le_refl _⟩ ?_
  refine ev_aload_n dc_X10_copyFrom_22 rfl ?_
  refine ev_getR dc_X10_copyFrom_23 fi_X10_28 rfl i0 ?_
  refine ev_aload_n dc_X10_copyFrom_26 rfl ?_
  refine ev_getR dc_X10_copyFrom_27 fi_X10_28 rfl i1 ?_
  obtain ⟨q3, hq3, h⟩ := Option.bind_eq_some_iff.mp h
  refine ev_callV (av := [.ref (pR G a1 2)]) (st := []) (st1 := []) dc_X10_copyFrom_30 (tX3_copyFrom hW (wt hW i0 2 rfl rfl) (wt hW i1 2 rfl rfl) hq3) mw_660 cy_X3_copyFrom (wt hW i0 2 rfl rfl) (by decide) rfl rfl rfl rfl (Nat.le_of_ble_eq_true rfl) (Nat.le_of_ble_eq_true rfl) ⟨Nat.le_refl _, Nat.le_refl _⟩ ?_
  cases h
  exact ev_vret dc_X10_copyFrom_33 rfl rfl rfl
theorem dc_X10_easeOf_0 : Dc miX10_easeOf 0 (.aload_n 0) 1 1 := ⟨by decide +kernel, rfl⟩
theorem dc_X10_easeOf_1 : Dc miX10_easeOf 1 (.getfield 21) 3 4 := ⟨by decide +kernel, rfl⟩
theorem dc_X10_easeOf_4 : Dc miX10_easeOf 4 (.aload_n 1) 1 5 := ⟨by decide +kernel, rfl⟩
theorem dc_X10_easeOf_5 : Dc miX10_easeOf 5 (.iconst 0) 1 6 := ⟨by decide +kernel, rfl⟩
theorem dc_X10_easeOf_6 : Dc miX10_easeOf 6 (.iload_n 2) 1 7 := ⟨by decide +kernel, rfl⟩
theorem dc_X10_easeOf_7 : Dc miX10_easeOf 7 (.iconst 0) 1 8 := ⟨by decide +kernel, rfl⟩
theorem dc_X10_easeOf_8 : Dc miX10_easeOf 8 (.iconst 0) 1 9 := ⟨by decide +kernel, rfl⟩
theorem dc_X10_easeOf_9 : Dc miX10_easeOf 9 (.invokevirtual 61) 3 12 := ⟨by decide +kernel, rfl⟩
theorem dc_X10_easeOf_12 : Dc miX10_easeOf 12 (.aload_n 0) 1 13 := ⟨by decide +kernel, rfl⟩
theorem dc_X10_easeOf_13 : Dc miX10_easeOf 13 (.getfield 12) 3 16 := ⟨by decide +kernel, rfl⟩
theorem dc_X10_easeOf_16 : Dc miX10_easeOf 16 (.getfield 78) 3 19 := ⟨by decide +kernel, rfl⟩
theorem dc_X10_easeOf_19 : Dc miX10_easeOf 19 (.iload_n 2) 1 20 := ⟨by decide +kernel, rfl⟩
theorem dc_X10_easeOf_20 : Dc miX10_easeOf 20 (.invokestatic 46) 3 23 := ⟨by decide +kernel, rfl⟩
theorem dc_X10_easeOf_23 : Dc miX10_easeOf 23 (.aload_n 0) 1 24 := ⟨by decide +kernel, rfl⟩
theorem dc_X10_easeOf_24 : Dc miX10_easeOf 24 (.getfield 21) 3 27 := ⟨by decide +kernel, rfl⟩
theorem dc_X10_easeOf_27 : Dc miX10_easeOf 27 (.iconst 1) 1 28 := ⟨by decide +kernel, rfl⟩
theorem dc_X10_easeOf_28 : Dc miX10_easeOf 28 (.invokevirtual 68) 3 31 := ⟨by decide +kernel, rfl⟩
theorem dc_X10_easeOf_31 : Dc miX10_easeOf 31 (.iadd) 1 32 := ⟨by decide +kernel, rfl⟩
theorem dc_X10_easeOf_32 : Dc miX10_easeOf 32 (.ireturn) 1 33 := ⟨by decide +kernel, rfl⟩
def fX10_easeOf (N : Nat) (G : pG) (a0 : Nat) (a1 : Nat) (a2 : Int32) (σ : pS) : Option (Int32 × pS) := (fX0_lookAt N G (pR G a0 1) a1 (0 : Int32) a2 (0 : Int32) (0 : Int32) σ).bind (fun q1 => (fX11_at N G (pR G (pR G a0 0) 14) a2 q1).bind (fun q2 => (fX0_sumOf N G (pR G a0 1) (1 : Int32) q1).bind (fun q3 => some (q2 + q3, q1))))
set_option maxRecDepth 100000 in
set_option maxHeartbeats 4000000 in
theorem tX10_easeOf {N : Nat} {G : pG} {SK : Nat → Nat} {a0 : Nat} {a1 : Nat} {a2 : Int32} {σ : pS} {r : Int32 × pS} (hW : WT G) (i0 : Is G a0 9) (i1 : Is G a1 3) (h : fX10_easeOf N G a0 a1 a2 σ = some r) : Dn miX10_easeOf yX10_easeOf 3 G SK [.ref a0, .ref a1, .int a2] σ (some (.int r.1)) r.2 := by
  unfold fX10_easeOf at h
  refine dn_of (lv := [some (.ref a0), some (.ref a1), some (.int a2)]) (by decide) rfl rfl (Nat.le_of_ble_eq_true rfl) rfl ?_
  refine ev_aload_n dc_X10_easeOf_0 rfl ?_
  refine ev_getR dc_X10_easeOf_1 fi_X10_21 rfl i0 ?_
  refine ev_aload_n dc_X10_easeOf_4 rfl ?_
  refine ev_iconst (v := 0) dc_X10_easeOf_5 (by decide) ?_
  refine ev_iload_n dc_X10_easeOf_6 rfl ?_
  refine ev_iconst (v := 0) dc_X10_easeOf_7 (by decide) ?_
  refine ev_iconst (v := 0) dc_X10_easeOf_8 (by decide) ?_
  obtain ⟨q1, hq1, h⟩ := Option.bind_eq_some_iff.mp h
  refine ev_callV (av := [.ref a1, .int (0 : Int32), .int a2, .int (0 : Int32), .int (0 : Int32)]) (st := []) (st1 := []) dc_X10_easeOf_9 (tX0_lookAt hW (wt hW i0 1 rfl rfl) i1 hq1) mw_481 cy_X0_lookAt (wt hW i0 1 rfl rfl) (by decide) rfl rfl rfl rfl (Nat.le_of_ble_eq_true rfl) (Nat.le_of_ble_eq_true rfl) ⟨Nat.le_refl _, Nat.le_refl _⟩ ?_
  refine ev_aload_n dc_X10_easeOf_12 rfl ?_
  refine ev_getR dc_X10_easeOf_13 fi_X10_12 rfl i0 ?_
  refine ev_getR dc_X10_easeOf_16 fi_X10_78 rfl (wt hW i0 0 rfl rfl) ?_
  refine ev_iload_n dc_X10_easeOf_19 rfl ?_
  obtain ⟨q2, hq2, h⟩ := Option.bind_eq_some_iff.mp h
  refine ev_callN (av := [.ref (pR G (pR G a0 0) 14), .int a2]) (st := []) (st1 := [.int q2]) (host := "UnaskedName") dc_X10_easeOf_20 (tX11_at hW (wt hW (wt hW i0 0 rfl rfl) 14 rfl rfl) hq2) (List.mem_of_getElem? (i := 13) rfl) cs_X11_at rfl rfl rfl (Nat.le_of_ble_eq_true rfl) (Nat.le_of_ble_eq_true rfl) ⟨Nat.le_refl _, Nat.le_refl _⟩ ?_
  refine ev_aload_n dc_X10_easeOf_23 rfl ?_
  refine ev_getR dc_X10_easeOf_24 fi_X10_21 rfl i0 ?_
  refine ev_iconst (v := 1) dc_X10_easeOf_27 (by decide) ?_
  obtain ⟨q3, hq3, h⟩ := Option.bind_eq_some_iff.mp h
  refine ev_callV (av := [.int (1 : Int32)]) (st := [.int q2]) (st1 := [.int q3, .int q2]) dc_X10_easeOf_28 (tX0_sumOf hW (wt hW i0 1 rfl rfl) hq3) mw_491 cy_X0_sumOf (wt hW i0 1 rfl rfl) (by decide) rfl rfl rfl rfl (Nat.le_of_ble_eq_true rfl) (Nat.le_of_ble_eq_true rfl) ⟨Nat.le_refl _, Nat.le_refl _⟩ ?_
  refine ev_iadd dc_X10_easeOf_31 ?_
  cases h
  exact ev_iret dc_X10_easeOf_32 rfl rfl rfl
theorem dc_X10_soothe_0 : Dc miX10_soothe 0 (.aload_n 1) 1 1 := ⟨by decide +kernel, rfl⟩
theorem dc_X10_soothe_1 : Dc miX10_soothe 1 (.iconst 0) 1 2 := ⟨by decide +kernel, rfl⟩
theorem dc_X10_soothe_2 : Dc miX10_soothe 2 (.aload_n 1) 1 3 := ⟨by decide +kernel, rfl⟩
theorem dc_X10_soothe_3 : Dc miX10_soothe 3 (.getfield 81) 3 6 := ⟨by decide +kernel, rfl⟩
theorem dc_X10_soothe_6 : Dc miX10_soothe 6 (.aload_n 0) 1 7 := ⟨by decide +kernel, rfl⟩
theorem dc_X10_soothe_7 : Dc miX10_soothe 7 (.aload_n 1) 1 8 := ⟨by decide +kernel, rfl⟩
theorem dc_X10_soothe_8 : Dc miX10_soothe 8 (.iload_n 2) 1 9 := ⟨by decide +kernel, rfl⟩
theorem dc_X10_soothe_9 : Dc miX10_soothe 9 (.invokevirtual 115) 3 12 := ⟨by decide +kernel, rfl⟩
theorem dc_X10_soothe_12 : Dc miX10_soothe 12 (.isub) 1 13 := ⟨by decide +kernel, rfl⟩
theorem dc_X10_soothe_13 : Dc miX10_soothe 13 (.invokestatic 72) 3 16 := ⟨by decide +kernel, rfl⟩
theorem dc_X10_soothe_16 : Dc miX10_soothe 16 (.putfield 81) 3 19 := ⟨by decide +kernel, rfl⟩
theorem dc_X10_soothe_19 : Dc miX10_soothe 19 (.return_) 1 20 := ⟨by decide +kernel, rfl⟩
def fX10_soothe (N : Nat) (G : pG) (a0 : Nat) (a1 : Nat) (a2 : Int32) (σ : pS) : Option (pS) := (fX10_easeOf N G a0 a1 a2 σ).bind (fun q1 => some (putF q1.2 a1 0 (jmax (0 : Int32) ((σ.1 a1 0) - q1.1))))
set_option maxRecDepth 100000 in
set_option maxHeartbeats 4000000 in
theorem tX10_soothe {N : Nat} {G : pG} {SK : Nat → Nat} {a0 : Nat} {a1 : Nat} {a2 : Int32} {σ : pS} {r : pS} (hW : WT G) (i0 : Is G a0 9) (i1 : Is G a1 3) (h : fX10_soothe N G a0 a1 a2 σ = some r) : Dn miX10_soothe yX10_soothe 4 G SK [.ref a0, .ref a1, .int a2] σ none r := by
  unfold fX10_soothe at h
  refine dn_of (lv := [some (.ref a0), some (.ref a1), some (.int a2)]) (by decide) rfl rfl (Nat.le_of_ble_eq_true rfl) rfl ?_
  refine ev_aload_n dc_X10_soothe_0 rfl ?_
  refine ev_iconst (v := 0) dc_X10_soothe_1 (by decide) ?_
  refine ev_aload_n dc_X10_soothe_2 rfl ?_
  refine ev_getI dc_X10_soothe_3 fi_X10_81 rfl i1 ?_
  refine ev_aload_n dc_X10_soothe_6 rfl ?_
  refine ev_aload_n dc_X10_soothe_7 rfl ?_
  refine ev_iload_n dc_X10_soothe_8 rfl ?_
  obtain ⟨q1, hq1, h⟩ := Option.bind_eq_some_iff.mp h
  refine ev_callV (av := [.ref a1, .int a2]) (st := [.int (σ.1 a1 0), .int (0 : Int32), .ref a1]) (st1 := [.int q1.1, .int (σ.1 a1 0), .int (0 : Int32), .ref a1]) dc_X10_soothe_9 (tX10_easeOf hW i0 i1 hq1) mw_1184 cy_X10_easeOf i0 (by decide) rfl rfl rfl rfl (Nat.le_of_ble_eq_true rfl) (Nat.le_of_ble_eq_true rfl) ⟨Nat.le_refl _, Nat.le_refl _⟩ ?_
  refine ev_isub dc_X10_soothe_12 ?_
  refine ev_max dc_X10_soothe_13 mw_499 (Nat.le_of_ble_eq_true rfl) (Nat.le_of_ble_eq_true rfl) ⟨Nat.le_refl _, Nat.le_refl _⟩ ?_
  refine ev_putI dc_X10_soothe_16 fi_X10_81 rfl i1 ?_
  cases h
  exact ev_vret dc_X10_soothe_19 rfl rfl rfl
theorem dc_X10_stingOf_0 : Dc miX10_stingOf 0 (.aload_n 0) 1 1 := ⟨by decide +kernel, rfl⟩
theorem dc_X10_stingOf_1 : Dc miX10_stingOf 1 (.getfield 12) 3 4 := ⟨by decide +kernel, rfl⟩
theorem dc_X10_stingOf_4 : Dc miX10_stingOf 4 (.getfield 42) 3 7 := ⟨by decide +kernel, rfl⟩
theorem dc_X10_stingOf_7 : Dc miX10_stingOf 7 (.iload_n 3) 1 8 := ⟨by decide +kernel, rfl⟩
theorem dc_X10_stingOf_8 : Dc miX10_stingOf 8 (.invokestatic 46) 3 11 := ⟨by decide +kernel, rfl⟩
theorem dc_X10_stingOf_11 : Dc miX10_stingOf 11 (.istore 4) 2 13 := ⟨by decide +kernel, rfl⟩
theorem dc_X10_stingOf_13 : Dc miX10_stingOf 13 (.iload 4) 2 15 := ⟨by decide +kernel, rfl⟩
theorem dc_X10_stingOf_15 : Dc miX10_stingOf 15 (.ifCond .lt 36) 3 18 := ⟨by decide +kernel, rfl⟩
theorem dc_X10_stingOf_18 : Dc miX10_stingOf 18 (.aload_n 1) 1 19 := ⟨by decide +kernel, rfl⟩
theorem dc_X10_stingOf_19 : Dc miX10_stingOf 19 (.getfield 50) 3 22 := ⟨by decide +kernel, rfl⟩
theorem dc_X10_stingOf_22 : Dc miX10_stingOf 22 (.ifCond .lt 29) 3 25 := ⟨by decide +kernel, rfl⟩
theorem dc_X10_stingOf_25 : Dc miX10_stingOf 25 (.aload_n 0) 1 26 := ⟨by decide +kernel, rfl⟩
theorem dc_X10_stingOf_26 : Dc miX10_stingOf 26 (.getfield 12) 3 29 := ⟨by decide +kernel, rfl⟩
theorem dc_X10_stingOf_29 : Dc miX10_stingOf 29 (.getfield 54) 3 32 := ⟨by decide +kernel, rfl⟩
theorem dc_X10_stingOf_32 : Dc miX10_stingOf 32 (.iload 4) 2 34 := ⟨by decide +kernel, rfl⟩
theorem dc_X10_stingOf_34 : Dc miX10_stingOf 34 (.invokestatic 46) 3 37 := ⟨by decide +kernel, rfl⟩
theorem dc_X10_stingOf_37 : Dc miX10_stingOf 37 (.aload_n 1) 1 38 := ⟨by decide +kernel, rfl⟩
theorem dc_X10_stingOf_38 : Dc miX10_stingOf 38 (.getfield 50) 3 41 := ⟨by decide +kernel, rfl⟩
theorem dc_X10_stingOf_41 : Dc miX10_stingOf 41 (.invokestatic 57) 3 44 := ⟨by decide +kernel, rfl⟩
theorem dc_X10_stingOf_44 : Dc miX10_stingOf 44 (.ifCond .eq 7) 3 47 := ⟨by decide +kernel, rfl⟩
theorem dc_X10_stingOf_47 : Dc miX10_stingOf 47 (.iconst 1) 1 48 := ⟨by decide +kernel, rfl⟩
theorem dc_X10_stingOf_48 : Dc miX10_stingOf 48 (.goto 4) 3 51 := ⟨by decide +kernel, rfl⟩
theorem dc_X10_stingOf_51 : Dc miX10_stingOf 51 (.iconst 0) 1 52 := ⟨by decide +kernel, rfl⟩
theorem dc_X10_stingOf_52 : Dc miX10_stingOf 52 (.istore 5) 2 54 := ⟨by decide +kernel, rfl⟩
theorem dc_X10_stingOf_54 : Dc miX10_stingOf 54 (.aload_n 0) 1 55 := ⟨by decide +kernel, rfl⟩
theorem dc_X10_stingOf_55 : Dc miX10_stingOf 55 (.getfield 21) 3 58 := ⟨by decide +kernel, rfl⟩
theorem dc_X10_stingOf_58 : Dc miX10_stingOf 58 (.aload_n 1) 1 59 := ⟨by decide +kernel, rfl⟩
theorem dc_X10_stingOf_59 : Dc miX10_stingOf 59 (.iload_n 3) 1 60 := ⟨by decide +kernel, rfl⟩
theorem dc_X10_stingOf_60 : Dc miX10_stingOf 60 (.iconst 0) 1 61 := ⟨by decide +kernel, rfl⟩
theorem dc_X10_stingOf_61 : Dc miX10_stingOf 61 (.iload_n 2) 1 62 := ⟨by decide +kernel, rfl⟩
theorem dc_X10_stingOf_62 : Dc miX10_stingOf 62 (.iload 5) 2 64 := ⟨by decide +kernel, rfl⟩
theorem dc_X10_stingOf_64 : Dc miX10_stingOf 64 (.invokevirtual 61) 3 67 := ⟨by decide +kernel, rfl⟩
theorem dc_X10_stingOf_67 : Dc miX10_stingOf 67 (.iconst 0) 1 68 := ⟨by decide +kernel, rfl⟩
theorem dc_X10_stingOf_68 : Dc miX10_stingOf 68 (.aload_n 0) 1 69 := ⟨by decide +kernel, rfl⟩
theorem dc_X10_stingOf_69 : Dc miX10_stingOf 69 (.getfield 12) 3 72 := ⟨by decide +kernel, rfl⟩
theorem dc_X10_stingOf_72 : Dc miX10_stingOf 72 (.getfield 65) 3 75 := ⟨by decide +kernel, rfl⟩
theorem dc_X10_stingOf_75 : Dc miX10_stingOf 75 (.iload_n 3) 1 76 := ⟨by decide +kernel, rfl⟩
theorem dc_X10_stingOf_76 : Dc miX10_stingOf 76 (.invokestatic 46) 3 79 := ⟨by decide +kernel, rfl⟩
theorem dc_X10_stingOf_79 : Dc miX10_stingOf 79 (.aload_n 0) 1 80 := ⟨by decide +kernel, rfl⟩
theorem dc_X10_stingOf_80 : Dc miX10_stingOf 80 (.getfield 21) 3 83 := ⟨by decide +kernel, rfl⟩
theorem dc_X10_stingOf_83 : Dc miX10_stingOf 83 (.iconst 0) 1 84 := ⟨by decide +kernel, rfl⟩
theorem dc_X10_stingOf_84 : Dc miX10_stingOf 84 (.invokevirtual 68) 3 87 := ⟨by decide +kernel, rfl⟩
theorem dc_X10_stingOf_87 : Dc miX10_stingOf 87 (.iadd) 1 88 := ⟨by decide +kernel, rfl⟩
theorem dc_X10_stingOf_88 : Dc miX10_stingOf 88 (.invokestatic 72) 3 91 := ⟨by decide +kernel, rfl⟩
theorem dc_X10_stingOf_91 : Dc miX10_stingOf 91 (.ireturn) 1 92 := ⟨by decide +kernel, rfl⟩
def fX10_stingOf_b52 (N : Nat) (G : pG) (a0 : Nat) (a1 : Nat) (a2 : Int32) (a3 : Int32) (y0 : Int32) (σ : pS) : Option (Int32 × pS) := (fX0_lookAt N G (pR G a0 1) a1 a3 (0 : Int32) a2 y0 σ).bind (fun q1 => (fX11_at N G (pR G (pR G a0 0) 12) a3 q1).bind (fun q2 => (fX0_sumOf N G (pR G a0 1) (0 : Int32) q1).bind (fun q3 => some (jmax (0 : Int32) (q2 + q3), q1))))
set_option maxRecDepth 100000 in
set_option maxHeartbeats 4000000 in
theorem tX10_stingOf_b52 {N : Nat} {G : pG} {SK : Nat → Nat} {a0 : Nat} {a1 : Nat} {a2 : Int32} {a3 : Int32} {y0 : Int32} {σ : pS} {r : Int32 × pS} (hW : WT G) (i0 : Is G a0 9) (i1 : Is G a1 3) (h : fX10_stingOf_b52 N G a0 a1 a2 a3 y0 σ = some r) : Ev miX10_stingOf (3, 0, 0) G (Zp G (some (.int r.1)) r.2) SK (0, 0) 52 [some (.ref a0), some (.ref a1), some (.int a2), some (.int a3), none, none] [.int y0] σ := by
  unfold fX10_stingOf_b52 at h
  refine ev_istore (lv' := [some (.ref a0), some (.ref a1), some (.int a2), some (.int a3), none, some (.int y0)]) dc_X10_stingOf_52 rfl (by decide) rfl ?_
  refine ev_aload_n dc_X10_stingOf_54 rfl ?_
  refine ev_getR dc_X10_stingOf_55 fi_X10_21 rfl i0 ?_
  refine ev_aload_n dc_X10_stingOf_58 rfl ?_
  refine ev_iload_n dc_X10_stingOf_59 rfl ?_
  refine ev_iconst (v := 0) dc_X10_stingOf_60 (by decide) ?_
  refine ev_iload_n dc_X10_stingOf_61 rfl ?_
  refine ev_iload dc_X10_stingOf_62 rfl ?_
  obtain ⟨q1, hq1, h⟩ := Option.bind_eq_some_iff.mp h
  refine ev_callV (av := [.ref a1, .int a3, .int (0 : Int32), .int a2, .int y0]) (st := []) (st1 := []) dc_X10_stingOf_64 (tX0_lookAt hW (wt hW i0 1 rfl rfl) i1 hq1) mw_481 cy_X0_lookAt (wt hW i0 1 rfl rfl) (by decide) rfl rfl rfl rfl (Nat.le_of_ble_eq_true rfl) (Nat.le_of_ble_eq_true rfl) ⟨Nat.le_refl _, Nat.le_refl _⟩ ?_
  refine ev_iconst (v := 0) dc_X10_stingOf_67 (by decide) ?_
  refine ev_aload_n dc_X10_stingOf_68 rfl ?_
  refine ev_getR dc_X10_stingOf_69 fi_X10_12 rfl i0 ?_
  refine ev_getR dc_X10_stingOf_72 fi_X10_65 rfl (wt hW i0 0 rfl rfl) ?_
  refine ev_iload_n dc_X10_stingOf_75 rfl ?_
  obtain ⟨q2, hq2, h⟩ := Option.bind_eq_some_iff.mp h
  refine ev_callN (av := [.ref (pR G (pR G a0 0) 12), .int a3]) (st := [.int (0 : Int32)]) (st1 := [.int q2, .int (0 : Int32)]) (host := "UnaskedName") dc_X10_stingOf_76 (tX11_at hW (wt hW (wt hW i0 0 rfl rfl) 12 rfl rfl) hq2) (List.mem_of_getElem? (i := 13) rfl) cs_X11_at rfl rfl rfl (Nat.le_of_ble_eq_true rfl) (Nat.le_of_ble_eq_true rfl) ⟨Nat.le_refl _, Nat.le_refl _⟩ ?_
  refine ev_aload_n dc_X10_stingOf_79 rfl ?_
  refine ev_getR dc_X10_stingOf_80 fi_X10_21 rfl i0 ?_
  refine ev_iconst (v := 0) dc_X10_stingOf_83 (by decide) ?_
  obtain ⟨q3, hq3, h⟩ := Option.bind_eq_some_iff.mp h
  refine ev_callV (av := [.int (0 : Int32)]) (st := [.int q2, .int (0 : Int32)]) (st1 := [.int q3, .int q2, .int (0 : Int32)]) dc_X10_stingOf_84 (tX0_sumOf hW (wt hW i0 1 rfl rfl) hq3) mw_491 cy_X0_sumOf (wt hW i0 1 rfl rfl) (by decide) rfl rfl rfl rfl (Nat.le_of_ble_eq_true rfl) (Nat.le_of_ble_eq_true rfl) ⟨Nat.le_refl _, Nat.le_refl _⟩ ?_
  refine ev_iadd dc_X10_stingOf_87 ?_
  refine ev_max dc_X10_stingOf_88 mw_499 (Nat.le_of_ble_eq_true rfl) (Nat.le_of_ble_eq_true rfl) ⟨Nat.le_refl _, Nat.le_refl _⟩ ?_
  cases h
  exact ev_iret dc_X10_stingOf_91 rfl rfl rfl
def fX10_stingOf_b51 (N : Nat) (G : pG) (a0 : Nat) (a1 : Nat) (a2 : Int32) (a3 : Int32) (σ : pS) : Option (Int32 × pS) := fX10_stingOf_b52 N G a0 a1 a2 a3 (0 : Int32) σ
set_option maxRecDepth 100000 in
set_option maxHeartbeats 4000000 in
theorem tX10_stingOf_b51 {N : Nat} {G : pG} {SK : Nat → Nat} {a0 : Nat} {a1 : Nat} {a2 : Int32} {a3 : Int32} {σ : pS} {r : Int32 × pS} (hW : WT G) (i0 : Is G a0 9) (i1 : Is G a1 3) (h : fX10_stingOf_b51 N G a0 a1 a2 a3 σ = some r) : Ev miX10_stingOf (3, 0, 0) G (Zp G (some (.int r.1)) r.2) SK (0, 0) 51 [some (.ref a0), some (.ref a1), some (.int a2), some (.int a3), none, none] [] σ := by
  unfold fX10_stingOf_b51 at h
  refine ev_iconst (v := 0) dc_X10_stingOf_51 (by decide) ?_
  exact ev_sub (tX10_stingOf_b52 hW i0 i1 h) (And.intro rfl (And.intro rfl (And.intro rfl (And.intro rfl trivial))))
def fX10_stingOf (N : Nat) (G : pG) (a0 : Nat) (a1 : Nat) (a2 : Int32) (a3 : Int32) (σ : pS) : Option (Int32 × pS) := (fX11_at N G (pR G (pR G a0 0) 13) a3 σ).bind (fun q4 => if q4 < 0 then (fX10_stingOf_b51 N G a0 a1 a2 a3 σ) else (if (σ.1 a1 2) < 0 then (fX10_stingOf_b51 N G a0 a1 a2 a3 σ) else ((fX11_at N G (pR G (pR G a0 0) 11) q4 σ).bind (fun q5 => (fX11_has N G q5 (σ.1 a1 2) σ).bind (fun q6 => if q6 = 0 then (fX10_stingOf_b51 N G a0 a1 a2 a3 σ) else (fX10_stingOf_b52 N G a0 a1 a2 a3 (1 : Int32) σ))))))
set_option maxRecDepth 100000 in
set_option maxHeartbeats 4000000 in
theorem tX10_stingOf {N : Nat} {G : pG} {SK : Nat → Nat} {a0 : Nat} {a1 : Nat} {a2 : Int32} {a3 : Int32} {σ : pS} {r : Int32 × pS} (hW : WT G) (i0 : Is G a0 9) (i1 : Is G a1 3) (h : fX10_stingOf N G a0 a1 a2 a3 σ = some r) : Dn miX10_stingOf yX10_stingOf 3 G SK [.ref a0, .ref a1, .int a2, .int a3] σ (some (.int r.1)) r.2 := by
  unfold fX10_stingOf at h
  refine dn_of (lv := [some (.ref a0), some (.ref a1), some (.int a2), some (.int a3), none, none]) (by decide) rfl rfl (Nat.le_of_ble_eq_true rfl) rfl ?_
  refine ev_aload_n dc_X10_stingOf_0 rfl ?_
  refine ev_getR dc_X10_stingOf_1 fi_X10_12 rfl i0 ?_
  refine ev_getR dc_X10_stingOf_4 fi_X10_42 rfl (wt hW i0 0 rfl rfl) ?_
  refine ev_iload_n dc_X10_stingOf_7 rfl ?_
  obtain ⟨q4, hq4, h⟩ := Option.bind_eq_some_iff.mp h
  refine ev_callN (av := [.ref (pR G (pR G a0 0) 13), .int a3]) (st := []) (st1 := [.int q4]) (host := "UnaskedName") dc_X10_stingOf_8 (tX11_at hW (wt hW (wt hW i0 0 rfl rfl) 13 rfl rfl) hq4) (List.mem_of_getElem? (i := 13) rfl) cs_X11_at rfl rfl rfl (Nat.le_of_ble_eq_true rfl) (Nat.le_of_ble_eq_true rfl) ⟨Nat.le_refl _, Nat.le_refl _⟩ ?_
  refine ev_istore (lv' := [some (.ref a0), some (.ref a1), some (.int a2), some (.int a3), some (.int q4), none]) dc_X10_stingOf_11 rfl (by decide) rfl ?_
  refine ev_iload dc_X10_stingOf_13 rfl ?_
  refine ev_if_lt (tgt := 51) dc_X10_stingOf_15 (by decide) h (fun h => ?_) (fun h => ?_)
  · exact ev_sub (tX10_stingOf_b51 hW i0 i1 h) (And.intro rfl (And.intro rfl (And.intro rfl (And.intro rfl trivial))))
  · refine ev_aload_n dc_X10_stingOf_18 rfl ?_
    refine ev_getI dc_X10_stingOf_19 fi_X10_50 rfl i1 ?_
    refine ev_if_lt (tgt := 51) dc_X10_stingOf_22 (by decide) h (fun h => ?_) (fun h => ?_)
    · exact ev_sub (tX10_stingOf_b51 hW i0 i1 h) (And.intro rfl (And.intro rfl (And.intro rfl (And.intro rfl trivial))))
    · refine ev_aload_n dc_X10_stingOf_25 rfl ?_
      refine ev_getR dc_X10_stingOf_26 fi_X10_12 rfl i0 ?_
      refine ev_getR dc_X10_stingOf_29 fi_X10_54 rfl (wt hW i0 0 rfl rfl) ?_
      refine ev_iload dc_X10_stingOf_32 rfl ?_
      obtain ⟨q5, hq5, h⟩ := Option.bind_eq_some_iff.mp h
      refine ev_callN (av := [.ref (pR G (pR G a0 0) 11), .int q4]) (st := []) (st1 := [.int q5]) (host := "UnaskedName") dc_X10_stingOf_34 (tX11_at hW (wt hW (wt hW i0 0 rfl rfl) 11 rfl rfl) hq5) (List.mem_of_getElem? (i := 13) rfl) cs_X11_at rfl rfl rfl (Nat.le_of_ble_eq_true rfl) (Nat.le_of_ble_eq_true rfl) ⟨Nat.le_refl _, Nat.le_refl _⟩ ?_
      refine ev_aload_n dc_X10_stingOf_37 rfl ?_
      refine ev_getI dc_X10_stingOf_38 fi_X10_50 rfl i1 ?_
      obtain ⟨q6, hq6, h⟩ := Option.bind_eq_some_iff.mp h
      refine ev_callN (av := [.int q5, .int (σ.1 a1 2)]) (st := []) (st1 := [.int q6]) (host := "UnaskedName") dc_X10_stingOf_41 (tX11_has hW hq6) (List.mem_of_getElem? (i := 14) rfl) cs_X11_has rfl rfl rfl (Nat.le_of_ble_eq_true rfl) (Nat.le_of_ble_eq_true rfl) ⟨Nat.le_refl _, Nat.le_refl _⟩ ?_
      refine ev_if_eq (tgt := 51) dc_X10_stingOf_44 (by decide) h (fun h => ?_) (fun h => ?_)
      · exact ev_sub (tX10_stingOf_b51 hW i0 i1 h) (And.intro rfl (And.intro rfl (And.intro rfl (And.intro rfl trivial))))
      · refine ev_iconst (v := 1) dc_X10_stingOf_47 (by decide) ?_
        refine ev_goto (tgt := 52) dc_X10_stingOf_48 (by decide) ?_
        exact ev_sub (tX10_stingOf_b52 hW i0 i1 h) (And.intro rfl (And.intro rfl (And.intro rfl (And.intro rfl trivial))))
theorem dc_X10_speak_0 : Dc miX10_speak 0 (.aload_n 1) 1 1 := ⟨by decide +kernel, rfl⟩
theorem dc_X10_speak_1 : Dc miX10_speak 1 (.bipush 99) 2 3 := ⟨by decide +kernel, rfl⟩
theorem dc_X10_speak_3 : Dc miX10_speak 3 (.aload_n 1) 1 4 := ⟨by decide +kernel, rfl⟩
theorem dc_X10_speak_4 : Dc miX10_speak 4 (.getfield 81) 3 7 := ⟨by decide +kernel, rfl⟩
theorem dc_X10_speak_7 : Dc miX10_speak 7 (.aload_n 0) 1 8 := ⟨by decide +kernel, rfl⟩
theorem dc_X10_speak_8 : Dc miX10_speak 8 (.aload_n 1) 1 9 := ⟨by decide +kernel, rfl⟩
theorem dc_X10_speak_9 : Dc miX10_speak 9 (.iload_n 2) 1 10 := ⟨by decide +kernel, rfl⟩
theorem dc_X10_speak_10 : Dc miX10_speak 10 (.iload_n 3) 1 11 := ⟨by decide +kernel, rfl⟩
theorem dc_X10_speak_11 : Dc miX10_speak 11 (.invokevirtual 84) 3 14 := ⟨by decide +kernel, rfl⟩
theorem dc_X10_speak_14 : Dc miX10_speak 14 (.iadd) 1 15 := ⟨by decide +kernel, rfl⟩
theorem dc_X10_speak_15 : Dc miX10_speak 15 (.invokestatic 88) 3 18 := ⟨by decide +kernel, rfl⟩
theorem dc_X10_speak_18 : Dc miX10_speak 18 (.putfield 81) 3 21 := ⟨by decide +kernel, rfl⟩
theorem dc_X10_speak_21 : Dc miX10_speak 21 (.aload_n 1) 1 22 := ⟨by decide +kernel, rfl⟩
theorem dc_X10_speak_22 : Dc miX10_speak 22 (.aload_n 0) 1 23 := ⟨by decide +kernel, rfl⟩
theorem dc_X10_speak_23 : Dc miX10_speak 23 (.getfield 12) 3 26 := ⟨by decide +kernel, rfl⟩
theorem dc_X10_speak_26 : Dc miX10_speak 26 (.aload_n 1) 1 27 := ⟨by decide +kernel, rfl⟩
theorem dc_X10_speak_27 : Dc miX10_speak 27 (.getfield 91) 3 30 := ⟨by decide +kernel, rfl⟩
theorem dc_X10_speak_30 : Dc miX10_speak 30 (.aload_n 1) 1 31 := ⟨by decide +kernel, rfl⟩
theorem dc_X10_speak_31 : Dc miX10_speak 31 (.getfield 50) 3 34 := ⟨by decide +kernel, rfl⟩
theorem dc_X10_speak_34 : Dc miX10_speak 34 (.aload_n 0) 1 35 := ⟨by decide +kernel, rfl⟩
theorem dc_X10_speak_35 : Dc miX10_speak 35 (.getfield 12) 3 38 := ⟨by decide +kernel, rfl⟩
theorem dc_X10_speak_38 : Dc miX10_speak 38 (.getfield 42) 3 41 := ⟨by decide +kernel, rfl⟩
theorem dc_X10_speak_41 : Dc miX10_speak 41 (.iload_n 3) 1 42 := ⟨by decide +kernel, rfl⟩
theorem dc_X10_speak_42 : Dc miX10_speak 42 (.invokestatic 46) 3 45 := ⟨by decide +kernel, rfl⟩
theorem dc_X10_speak_45 : Dc miX10_speak 45 (.invokevirtual 94) 3 48 := ⟨by decide +kernel, rfl⟩
theorem dc_X10_speak_48 : Dc miX10_speak 48 (.putfield 91) 3 51 := ⟨by decide +kernel, rfl⟩
theorem dc_X10_speak_51 : Dc miX10_speak 51 (.aload_n 1) 1 52 := ⟨by decide +kernel, rfl⟩
theorem dc_X10_speak_52 : Dc miX10_speak 52 (.getfield 98) 3 55 := ⟨by decide +kernel, rfl⟩
theorem dc_X10_speak_55 : Dc miX10_speak 55 (.aload_n 1) 1 56 := ⟨by decide +kernel, rfl⟩
theorem dc_X10_speak_56 : Dc miX10_speak 56 (.iload_n 2) 1 57 := ⟨by decide +kernel, rfl⟩
theorem dc_X10_speak_57 : Dc miX10_speak 57 (.iload_n 3) 1 58 := ⟨by decide +kernel, rfl⟩
theorem dc_X10_speak_58 : Dc miX10_speak 58 (.invokevirtual 102) 3 61 := ⟨by decide +kernel, rfl⟩
theorem dc_X10_speak_61 : Dc miX10_speak 61 (.aload_n 1) 1 62 := ⟨by decide +kernel, rfl⟩
theorem dc_X10_speak_62 : Dc miX10_speak 62 (.aload_n 1) 1 63 := ⟨by decide +kernel, rfl⟩
theorem dc_X10_speak_63 : Dc miX10_speak 63 (.getfield 108) 3 66 := ⟨by decide +kernel, rfl⟩
theorem dc_X10_speak_66 : Dc miX10_speak 66 (.ifCond .ne 17) 3 69 := ⟨by decide +kernel, rfl⟩
theorem dc_X10_speak_69 : Dc miX10_speak 69 (.aload_n 1) 1 70 := ⟨by decide +kernel, rfl⟩
theorem dc_X10_speak_70 : Dc miX10_speak 70 (.getfield 81) 3 73 := ⟨by decide +kernel, rfl⟩
theorem dc_X10_speak_73 : Dc miX10_speak 73 (.aload_n 0) 1 74 := ⟨by decide +kernel, rfl⟩
theorem dc_X10_speak_74 : Dc miX10_speak 74 (.getfield 12) 3 77 := ⟨by decide +kernel, rfl⟩
theorem dc_X10_speak_77 : Dc miX10_speak 77 (.getfield 112) 3 80 := ⟨by decide +kernel, rfl⟩
theorem dc_X10_speak_80 : Dc miX10_speak 80 (.if_icmp .lt 7) 3 83 := ⟨by decide +kernel, rfl⟩
theorem dc_X10_speak_83 : Dc miX10_speak 83 (.iconst 1) 1 84 := ⟨by decide +kernel, rfl⟩
theorem dc_X10_speak_84 : Dc miX10_speak 84 (.goto 4) 3 87 := ⟨by decide +kernel, rfl⟩
theorem dc_X10_speak_87 : Dc miX10_speak 87 (.iconst 0) 1 88 := ⟨by decide +kernel, rfl⟩
theorem dc_X10_speak_88 : Dc miX10_speak 88 (.putfield 108) 3 91 := ⟨by decide +kernel, rfl⟩
theorem dc_X10_speak_91 : Dc miX10_speak 91 (.return_) 1 92 := ⟨by decide +kernel, rfl⟩
def fX10_speak_b88 (N : Nat) (G : pG) (a1 : Nat) (y1 : Int32) (σ : pS) : Option (pS) := ck (isZ y1) (some (putF σ a1 6 y1))
set_option maxRecDepth 100000 in
set_option maxHeartbeats 4000000 in
theorem tX10_speak_b88 {N : Nat} {G : pG} {SK : Nat → Nat} {a1 : Nat} {y1 : Int32} {σ : pS} {r : pS} (hW : WT G) (i1 : Is G a1 3) (h : fX10_speak_b88 N G a1 y1 σ = some r) : Ev miX10_speak (4, 0, 0) G (Zp G none r) SK (0, 0) 88 [none, some (.ref a1), none, none] [.int y1, .ref a1] σ := by
  unfold fX10_speak_b88 at h
  refine ev_putZ dc_X10_speak_88 fi_X10_108 rfl i1 h (fun h => ?_)
  cases h
  exact ev_vret dc_X10_speak_91 rfl rfl rfl
def fX10_speak_b83 (N : Nat) (G : pG) (a1 : Nat) (σ : pS) : Option (pS) := fX10_speak_b88 N G a1 (1 : Int32) σ
set_option maxRecDepth 100000 in
set_option maxHeartbeats 4000000 in
theorem tX10_speak_b83 {N : Nat} {G : pG} {SK : Nat → Nat} {a1 : Nat} {σ : pS} {r : pS} (hW : WT G) (i1 : Is G a1 3) (h : fX10_speak_b83 N G a1 σ = some r) : Ev miX10_speak (4, 0, 0) G (Zp G none r) SK (0, 0) 83 [none, some (.ref a1), none, none] [.ref a1] σ := by
  unfold fX10_speak_b83 at h
  refine ev_iconst (v := 1) dc_X10_speak_83 (by decide) ?_
  refine ev_goto (tgt := 88) dc_X10_speak_84 (by decide) ?_
  exact ev_sub (tX10_speak_b88 hW i1 h) (And.intro rfl trivial)
def fX10_speak (N : Nat) (G : pG) (a0 : Nat) (a1 : Nat) (a2 : Int32) (a3 : Int32) (σ : pS) : Option (pS) := (fX10_stingOf N G a0 a1 a2 a3 σ).bind (fun q1 => (fX11_at N G (pR G (pR G a0 0) 13) a3 (putF q1.2 a1 0 (jmin (99 : Int32) ((σ.1 a1 0) + q1.1)))).bind (fun q2 => (fX8_narrowed N G (pR G a0 0) ((putF q1.2 a1 0 (jmin (99 : Int32) ((σ.1 a1 0) + q1.1))).1 a1 3) ((putF q1.2 a1 0 (jmin (99 : Int32) ((σ.1 a1 0) + q1.1))).1 a1 2) q2 (putF q1.2 a1 0 (jmin (99 : Int32) ((σ.1 a1 0) + q1.1)))).bind (fun q3 => (fX2_add N G (pR G a1 8) a1 a2 a3 (putF (putF q1.2 a1 0 (jmin (99 : Int32) ((σ.1 a1 0) + q1.1))) a1 3 q3)).bind (fun q4 => if (q4.1 a1 6) = 0 then (if (q4.1 a1 0) < (q4.1 (pR G a0 0) 6) then (fX10_speak_b88 N G a1 (0 : Int32) q4) else (fX10_speak_b83 N G a1 q4)) else (fX10_speak_b83 N G a1 q4)))))
set_option maxRecDepth 100000 in
set_option maxHeartbeats 4000000 in
theorem tX10_speak {N : Nat} {G : pG} {SK : Nat → Nat} {a0 : Nat} {a1 : Nat} {a2 : Int32} {a3 : Int32} {σ : pS} {r : pS} (hW : WT G) (i0 : Is G a0 9) (i1 : Is G a1 3) (h : fX10_speak N G a0 a1 a2 a3 σ = some r) : Dn miX10_speak yX10_speak 4 G SK [.ref a0, .ref a1, .int a2, .int a3] σ none r := by
  unfold fX10_speak at h
  refine dn_of (lv := [some (.ref a0), some (.ref a1), some (.int a2), some (.int a3)]) (by decide) rfl rfl (Nat.le_of_ble_eq_true rfl) rfl ?_
  refine ev_aload_n dc_X10_speak_0 rfl ?_
  refine ev_bipush (v := 99) dc_X10_speak_1 (by decide) ?_
  refine ev_aload_n dc_X10_speak_3 rfl ?_
  refine ev_getI dc_X10_speak_4 fi_X10_81 rfl i1 ?_
  refine ev_aload_n dc_X10_speak_7 rfl ?_
  refine ev_aload_n dc_X10_speak_8 rfl ?_
  refine ev_iload_n dc_X10_speak_9 rfl ?_
  refine ev_iload_n dc_X10_speak_10 rfl ?_
  obtain ⟨q1, hq1, h⟩ := Option.bind_eq_some_iff.mp h
  refine ev_callV (av := [.ref a1, .int a2, .int a3]) (st := [.int (σ.1 a1 0), .int (99 : Int32), .ref a1]) (st1 := [.int q1.1, .int (σ.1 a1 0), .int (99 : Int32), .ref a1]) dc_X10_speak_11 (tX10_stingOf hW i0 i1 hq1) mw_1164 cy_X10_stingOf i0 (by decide) rfl rfl rfl rfl (Nat.le_of_ble_eq_true rfl) (Nat.le_of_ble_eq_true rfl) ⟨Nat.le_refl _, Nat.le_refl _⟩ ?_
  refine ev_iadd dc_X10_speak_14 ?_
  refine ev_min dc_X10_speak_15 mw_1165 (Nat.le_of_ble_eq_true rfl) (Nat.le_of_ble_eq_true rfl) ⟨Nat.le_refl _, Nat.le_refl _⟩ ?_
  refine ev_putI dc_X10_speak_18 fi_X10_81 rfl i1 ?_
  refine ev_aload_n dc_X10_speak_21 rfl ?_
  refine ev_aload_n dc_X10_speak_22 rfl ?_
  refine ev_getR dc_X10_speak_23 fi_X10_12 rfl i0 ?_
  refine ev_aload_n dc_X10_speak_26 rfl ?_
  refine ev_getI dc_X10_speak_27 fi_X10_91 rfl i1 ?_
  refine ev_aload_n dc_X10_speak_30 rfl ?_
  refine ev_getI dc_X10_speak_31 fi_X10_50 rfl i1 ?_
  refine ev_aload_n dc_X10_speak_34 rfl ?_
  refine ev_getR dc_X10_speak_35 fi_X10_12 rfl i0 ?_
  refine ev_getR dc_X10_speak_38 fi_X10_42 rfl (wt hW i0 0 rfl rfl) ?_
  refine ev_iload_n dc_X10_speak_41 rfl ?_
  obtain ⟨q2, hq2, h⟩ := Option.bind_eq_some_iff.mp h
  refine ev_callN (av := [.ref (pR G (pR G a0 0) 13), .int a3]) (st := [.int ((putF q1.2 a1 0 (jmin (99 : Int32) ((σ.1 a1 0) + q1.1))).1 a1 2), .int ((putF q1.2 a1 0 (jmin (99 : Int32) ((σ.1 a1 0) + q1.1))).1 a1 3), .ref (pR G a0 0), .ref a1]) (st1 := [.int q2, .int ((putF q1.2 a1 0 (jmin (99 : Int32) ((σ.1 a1 0) + q1.1))).1 a1 2), .int ((putF q1.2 a1 0 (jmin (99 : Int32) ((σ.1 a1 0) + q1.1))).1 a1 3), .ref (pR G a0 0), .ref a1]) (host := "UnaskedName") dc_X10_speak_42 (tX11_at hW (wt hW (wt hW i0 0 rfl rfl) 13 rfl rfl) hq2) (List.mem_of_getElem? (i := 13) rfl) cs_X11_at rfl rfl rfl (Nat.le_of_ble_eq_true rfl) (Nat.le_of_ble_eq_true rfl) ⟨Nat.le_refl _, Nat.le_refl _⟩ ?_
  obtain ⟨q3, hq3, h⟩ := Option.bind_eq_some_iff.mp h
  refine ev_callV (av := [.int ((putF q1.2 a1 0 (jmin (99 : Int32) ((σ.1 a1 0) + q1.1))).1 a1 3), .int ((putF q1.2 a1 0 (jmin (99 : Int32) ((σ.1 a1 0) + q1.1))).1 a1 2), .int q2]) (st := [.ref a1]) (st1 := [.int q3, .ref a1]) dc_X10_speak_45 (tX8_narrowed hW (wt hW i0 0 rfl rfl) hq3) mw_1166 cy_X8_narrowed (wt hW i0 0 rfl rfl) (by decide) rfl rfl rfl rfl (Nat.le_of_ble_eq_true rfl) (Nat.le_of_ble_eq_true rfl) ⟨Nat.le_refl _, Nat.le_refl _⟩ ?_
  refine ev_putI dc_X10_speak_48 fi_X10_91 rfl i1 ?_
  refine ev_aload_n dc_X10_speak_51 rfl ?_
  refine ev_getR dc_X10_speak_52 fi_X10_98 rfl i1 ?_
  refine ev_aload_n dc_X10_speak_55 rfl ?_
  refine ev_iload_n dc_X10_speak_56 rfl ?_
  refine ev_iload_n dc_X10_speak_57 rfl ?_
  obtain ⟨q4, hq4, h⟩ := Option.bind_eq_some_iff.mp h
  refine ev_callV (av := [.ref a1, .int a2, .int a3]) (st := []) (st1 := []) dc_X10_speak_58 (tX2_add hW (wt hW i1 8 rfl rfl) i1 hq4) mw_1167 cy_X2_add (wt hW i1 8 rfl rfl) (by decide) rfl rfl rfl rfl (Nat.le_of_ble_eq_true rfl) (Nat.le_of_ble_eq_true rfl) ⟨Nat.le_refl _, Nat.le_refl _⟩ ?_
  refine ev_aload_n dc_X10_speak_61 rfl ?_
  refine ev_aload_n dc_X10_speak_62 rfl ?_
  refine ev_getI dc_X10_speak_63 fi_X10_108 rfl i1 ?_
  refine ev_if_ne (tgt := 83) dc_X10_speak_66 (by decide) h (fun h => ?_) (fun h => ?_)
  · refine ev_aload_n dc_X10_speak_69 rfl ?_
    refine ev_getI dc_X10_speak_70 fi_X10_81 rfl i1 ?_
    refine ev_aload_n dc_X10_speak_73 rfl ?_
    refine ev_getR dc_X10_speak_74 fi_X10_12 rfl i0 ?_
    refine ev_getI dc_X10_speak_77 fi_X10_112 rfl (wt hW i0 0 rfl rfl) ?_
    refine ev_icmp_lt (tgt := 87) dc_X10_speak_80 (by decide) h (fun h => ?_) (fun h => ?_)
    · refine ev_iconst (v := 0) dc_X10_speak_87 (by decide) ?_
      exact ev_sub (tX10_speak_b88 hW i1 h) (And.intro rfl trivial)
    · exact ev_sub (tX10_speak_b83 hW i1 h) (And.intro rfl trivial)
  · exact ev_sub (tX10_speak_b83 hW i1 h) (And.intro rfl trivial)
theorem dc_X10_drawnNight_0 : Dc miX10_drawnNight 0 (.aload_n 0) 1 1 := ⟨by decide +kernel, rfl⟩
theorem dc_X10_drawnNight_1 : Dc miX10_drawnNight 1 (.aload_n 1) 1 2 := ⟨by decide +kernel, rfl⟩
theorem dc_X10_drawnNight_2 : Dc miX10_drawnNight 2 (.invokevirtual 125) 3 5 := ⟨by decide +kernel, rfl⟩
theorem dc_X10_drawnNight_5 : Dc miX10_drawnNight 5 (.ifCond .ne 5) 3 8 := ⟨by decide +kernel, rfl⟩
theorem dc_X10_drawnNight_8 : Dc miX10_drawnNight 8 (.iconst 0) 1 9 := ⟨by decide +kernel, rfl⟩
theorem dc_X10_drawnNight_9 : Dc miX10_drawnNight 9 (.ireturn) 1 10 := ⟨by decide +kernel, rfl⟩
theorem dc_X10_drawnNight_10 : Dc miX10_drawnNight 10 (.iconst 0) 1 11 := ⟨by decide +kernel, rfl⟩
theorem dc_X10_drawnNight_11 : Dc miX10_drawnNight 11 (.istore_n 2) 1 12 := ⟨by decide +kernel, rfl⟩
theorem dc_X10_drawnNight_12 : Dc miX10_drawnNight 12 (.iload_n 2) 1 13 := ⟨by decide +kernel, rfl⟩
theorem dc_X10_drawnNight_13 : Dc miX10_drawnNight 13 (.aload_n 0) 1 14 := ⟨by decide +kernel, rfl⟩
theorem dc_X10_drawnNight_14 : Dc miX10_drawnNight 14 (.getfield 12) 3 17 := ⟨by decide +kernel, rfl⟩
theorem dc_X10_drawnNight_17 : Dc miX10_drawnNight 17 (.getfield 129) 3 20 := ⟨by decide +kernel, rfl⟩
theorem dc_X10_drawnNight_20 : Dc miX10_drawnNight 20 (.if_icmp .ge 58) 3 23 := ⟨by decide +kernel, rfl⟩
theorem dc_X10_drawnNight_23 : Dc miX10_drawnNight 23 (.aload_n 1) 1 24 := ⟨by decide +kernel, rfl⟩
theorem dc_X10_drawnNight_24 : Dc miX10_drawnNight 24 (.getfield 108) 3 27 := ⟨by decide +kernel, rfl⟩
theorem dc_X10_drawnNight_27 : Dc miX10_drawnNight 27 (.ifCond .ne 51) 3 30 := ⟨by decide +kernel, rfl⟩
theorem dc_X10_drawnNight_30 : Dc miX10_drawnNight 30 (.aload_n 1) 1 31 := ⟨by decide +kernel, rfl⟩
theorem dc_X10_drawnNight_31 : Dc miX10_drawnNight 31 (.getfield 132) 3 34 := ⟨by decide +kernel, rfl⟩
theorem dc_X10_drawnNight_34 : Dc miX10_drawnNight 34 (.iload_n 2) 1 35 := ⟨by decide +kernel, rfl⟩
theorem dc_X10_drawnNight_35 : Dc miX10_drawnNight 35 (.invokestatic 57) 3 38 := ⟨by decide +kernel, rfl⟩
theorem dc_X10_drawnNight_38 : Dc miX10_drawnNight 38 (.ifCond .eq 34) 3 41 := ⟨by decide +kernel, rfl⟩
theorem dc_X10_drawnNight_41 : Dc miX10_drawnNight 41 (.aload_n 1) 1 42 := ⟨by decide +kernel, rfl⟩
theorem dc_X10_drawnNight_42 : Dc miX10_drawnNight 42 (.invokevirtual 145) 3 45 := ⟨by decide +kernel, rfl⟩
theorem dc_X10_drawnNight_45 : Dc miX10_drawnNight 45 (.bipush 100) 2 47 := ⟨by decide +kernel, rfl⟩
theorem dc_X10_drawnNight_47 : Dc miX10_drawnNight 47 (.irem) 1 48 := ⟨by decide +kernel, rfl⟩
theorem dc_X10_drawnNight_48 : Dc miX10_drawnNight 48 (.aload_n 0) 1 49 := ⟨by decide +kernel, rfl⟩
theorem dc_X10_drawnNight_49 : Dc miX10_drawnNight 49 (.getfield 12) 3 52 := ⟨by decide +kernel, rfl⟩
theorem dc_X10_drawnNight_52 : Dc miX10_drawnNight 52 (.getfield 149) 3 55 := ⟨by decide +kernel, rfl⟩
theorem dc_X10_drawnNight_55 : Dc miX10_drawnNight 55 (.if_icmp .ge 17) 3 58 := ⟨by decide +kernel, rfl⟩
theorem dc_X10_drawnNight_58 : Dc miX10_drawnNight 58 (.aload_n 0) 1 59 := ⟨by decide +kernel, rfl⟩
theorem dc_X10_drawnNight_59 : Dc miX10_drawnNight 59 (.aload_n 1) 1 60 := ⟨by decide +kernel, rfl⟩
theorem dc_X10_drawnNight_60 : Dc miX10_drawnNight 60 (.iload_n 2) 1 61 := ⟨by decide +kernel, rfl⟩
theorem dc_X10_drawnNight_61 : Dc miX10_drawnNight 61 (.aload_n 1) 1 62 := ⟨by decide +kernel, rfl⟩
theorem dc_X10_drawnNight_62 : Dc miX10_drawnNight 62 (.getfield 135) 3 65 := ⟨by decide +kernel, rfl⟩
theorem dc_X10_drawnNight_65 : Dc miX10_drawnNight 65 (.iload_n 2) 1 66 := ⟨by decide +kernel, rfl⟩
theorem dc_X10_drawnNight_66 : Dc miX10_drawnNight 66 (.invokestatic 46) 3 69 := ⟨by decide +kernel, rfl⟩
theorem dc_X10_drawnNight_69 : Dc miX10_drawnNight 69 (.invokevirtual 138) 3 72 := ⟨by decide +kernel, rfl⟩
theorem dc_X10_drawnNight_72 : Dc miX10_drawnNight 72 (.iinc 2 1) 3 75 := ⟨by decide +kernel, rfl⟩
theorem dc_X10_drawnNight_75 : Dc miX10_drawnNight 75 (.goto (-63)) 3 78 := ⟨by decide +kernel, rfl⟩
theorem dc_X10_drawnNight_78 : Dc miX10_drawnNight 78 (.aload_n 1) 1 79 := ⟨by decide +kernel, rfl⟩
theorem dc_X10_drawnNight_79 : Dc miX10_drawnNight 79 (.getfield 108) 3 82 := ⟨by decide +kernel, rfl⟩
theorem dc_X10_drawnNight_82 : Dc miX10_drawnNight 82 (.ifCond .ne 30) 3 85 := ⟨by decide +kernel, rfl⟩
theorem dc_X10_drawnNight_85 : Dc miX10_drawnNight 85 (.aload_n 0) 1 86 := ⟨by decide +kernel, rfl⟩
theorem dc_X10_drawnNight_86 : Dc miX10_drawnNight 86 (.getfield 12) 3 89 := ⟨by decide +kernel, rfl⟩
theorem dc_X10_drawnNight_89 : Dc miX10_drawnNight 89 (.getfield 152) 3 92 := ⟨by decide +kernel, rfl⟩
theorem dc_X10_drawnNight_92 : Dc miX10_drawnNight 92 (.ifCond .le 20) 3 95 := ⟨by decide +kernel, rfl⟩
theorem dc_X10_drawnNight_95 : Dc miX10_drawnNight 95 (.aload_n 0) 1 96 := ⟨by decide +kernel, rfl⟩
theorem dc_X10_drawnNight_96 : Dc miX10_drawnNight 96 (.aload_n 1) 1 97 := ⟨by decide +kernel, rfl⟩
theorem dc_X10_drawnNight_97 : Dc miX10_drawnNight 97 (.aload_n 1) 1 98 := ⟨by decide +kernel, rfl⟩
theorem dc_X10_drawnNight_98 : Dc miX10_drawnNight 98 (.invokevirtual 145) 3 101 := ⟨by decide +kernel, rfl⟩
theorem dc_X10_drawnNight_101 : Dc miX10_drawnNight 101 (.aload_n 0) 1 102 := ⟨by decide +kernel, rfl⟩
theorem dc_X10_drawnNight_102 : Dc miX10_drawnNight 102 (.getfield 12) 3 105 := ⟨by decide +kernel, rfl⟩
theorem dc_X10_drawnNight_105 : Dc miX10_drawnNight 105 (.getfield 152) 3 108 := ⟨by decide +kernel, rfl⟩
theorem dc_X10_drawnNight_108 : Dc miX10_drawnNight 108 (.irem) 1 109 := ⟨by decide +kernel, rfl⟩
theorem dc_X10_drawnNight_109 : Dc miX10_drawnNight 109 (.invokevirtual 141) 3 112 := ⟨by decide +kernel, rfl⟩
theorem dc_X10_drawnNight_112 : Dc miX10_drawnNight 112 (.aload_n 1) 1 113 := ⟨by decide +kernel, rfl⟩
theorem dc_X10_drawnNight_113 : Dc miX10_drawnNight 113 (.dup) 1 114 := ⟨by decide +kernel, rfl⟩
theorem dc_X10_drawnNight_114 : Dc miX10_drawnNight 114 (.getfield 119) 3 117 := ⟨by decide +kernel, rfl⟩
theorem dc_X10_drawnNight_117 : Dc miX10_drawnNight 117 (.iconst 1) 1 118 := ⟨by decide +kernel, rfl⟩
theorem dc_X10_drawnNight_118 : Dc miX10_drawnNight 118 (.iadd) 1 119 := ⟨by decide +kernel, rfl⟩
theorem dc_X10_drawnNight_119 : Dc miX10_drawnNight 119 (.putfield 119) 3 122 := ⟨by decide +kernel, rfl⟩
theorem dc_X10_drawnNight_122 : Dc miX10_drawnNight 122 (.iconst 1) 1 123 := ⟨by decide +kernel, rfl⟩
theorem dc_X10_drawnNight_123 : Dc miX10_drawnNight 123 (.ireturn) 1 124 := ⟨by decide +kernel, rfl⟩
def fX10_drawnNight_b112 (N : Nat) (G : pG) (a1 : Nat) (σ : pS) : Option (Int32 × pS) := some ((1 : Int32), putF σ a1 1 ((σ.1 a1 1) + (1 : Int32)))
set_option maxRecDepth 100000 in
set_option maxHeartbeats 4000000 in
theorem tX10_drawnNight_b112 {N : Nat} {G : pG} {SK : Nat → Nat} {a1 : Nat} {σ : pS} {r : Int32 × pS} (hW : WT G) (i1 : Is G a1 3) (h : fX10_drawnNight_b112 N G a1 σ = some r) : Ev miX10_drawnNight (5, 0, 0) G (Zp G (some (.int r.1)) r.2) SK (0, 0) 112 [none, some (.ref a1), none] [] σ := by
  unfold fX10_drawnNight_b112 at h
  refine ev_aload_n dc_X10_drawnNight_112 rfl ?_
  refine ev_dup dc_X10_drawnNight_113 rfl ?_
  refine ev_getI dc_X10_drawnNight_114 fi_X10_119 rfl i1 ?_
  refine ev_iconst (v := 1) dc_X10_drawnNight_117 (by decide) ?_
  refine ev_iadd dc_X10_drawnNight_118 ?_
  refine ev_putI dc_X10_drawnNight_119 fi_X10_119 rfl i1 ?_
  refine ev_iconst (v := 1) dc_X10_drawnNight_122 (by decide) ?_
  cases h
  exact ev_zretc dc_X10_drawnNight_123 rfl rfl rfl rfl
def fX10_drawnNight_b78 (N : Nat) (G : pG) (a0 : Nat) (a1 : Nat) (σ : pS) : Option (Int32 × pS) := if (σ.1 a1 6) = 0 then (if (σ.1 (pR G a0 0) 3) ≤ 0 then (fX10_drawnNight_b112 N G a1 σ) else ((fX3_draw N G a1 σ).bind (fun q1 => ck (decide (¬ (q1.2.1 (pR G a0 0) 3) = 0)) ((fX10_soothe N G a0 a1 (jrem q1.1 (q1.2.1 (pR G a0 0) 3)) q1.2).bind (fun q2 => fX10_drawnNight_b112 N G a1 q2))))) else (fX10_drawnNight_b112 N G a1 σ)
set_option maxRecDepth 100000 in
set_option maxHeartbeats 4000000 in
theorem tX10_drawnNight_b78 {N : Nat} {G : pG} {SK : Nat → Nat} {a0 : Nat} {a1 : Nat} {σ : pS} {r : Int32 × pS} (hW : WT G) (i0 : Is G a0 9) (i1 : Is G a1 3) (h : fX10_drawnNight_b78 N G a0 a1 σ = some r) : Ev miX10_drawnNight (5, 0, 0) G (Zp G (some (.int r.1)) r.2) SK (0, 0) 78 [some (.ref a0), some (.ref a1), none] [] σ := by
  unfold fX10_drawnNight_b78 at h
  refine ev_aload_n dc_X10_drawnNight_78 rfl ?_
  refine ev_getI dc_X10_drawnNight_79 fi_X10_108 rfl i1 ?_
  refine ev_if_ne (tgt := 112) dc_X10_drawnNight_82 (by decide) h (fun h => ?_) (fun h => ?_)
  · refine ev_aload_n dc_X10_drawnNight_85 rfl ?_
    refine ev_getR dc_X10_drawnNight_86 fi_X10_12 rfl i0 ?_
    refine ev_getI dc_X10_drawnNight_89 fi_X10_152 rfl (wt hW i0 0 rfl rfl) ?_
    refine ev_if_le (tgt := 112) dc_X10_drawnNight_92 (by decide) h (fun h => ?_) (fun h => ?_)
    · exact ev_sub (tX10_drawnNight_b112 hW i1 h) (And.intro rfl trivial)
    · refine ev_aload_n dc_X10_drawnNight_95 rfl ?_
      refine ev_aload_n dc_X10_drawnNight_96 rfl ?_
      refine ev_aload_n dc_X10_drawnNight_97 rfl ?_
      obtain ⟨q1, hq1, h⟩ := Option.bind_eq_some_iff.mp h
      refine ev_callV (av := []) (st := [.ref a1, .ref a0]) (st1 := [.int q1.1, .ref a1, .ref a0]) dc_X10_drawnNight_98 (tX3_draw hW i1 hq1) mw_1241 cy_X3_draw i1 (by decide) rfl rfl rfl rfl (Nat.le_of_ble_eq_true rfl) (Nat.le_of_ble_eq_true rfl) ⟨Nat.le_refl _, Nat.le_refl _⟩ ?_
      refine ev_aload_n dc_X10_drawnNight_101 rfl ?_
      refine ev_getR dc_X10_drawnNight_102 fi_X10_12 rfl i0 ?_
      refine ev_getI dc_X10_drawnNight_105 fi_X10_152 rfl (wt hW i0 0 rfl rfl) ?_
      obtain ⟨hz, h⟩ := ck_s h
      refine ev_irem dc_X10_drawnNight_108 (of_decide_eq_true hz) ?_
      obtain ⟨q2, hq2, h⟩ := Option.bind_eq_some_iff.mp h
      refine ev_callV (av := [.ref a1, .int (jrem q1.1 (q1.2.1 (pR G a0 0) 3))]) (st := []) (st1 := []) dc_X10_drawnNight_109 (tX10_soothe hW i0 i1 hq2) mw_1247 cy_X10_soothe i0 (by decide) rfl rfl rfl rfl (Nat.le_of_ble_eq_true rfl) (Nat.le_of_ble_eq_true rfl) ⟨Nat.le_refl _, Nat.le_refl _⟩ ?_
      exact ev_sub (tX10_drawnNight_b112 hW i1 h) (And.intro rfl trivial)
  · exact ev_sub (tX10_drawnNight_b112 hW i1 h) (And.intro rfl trivial)
def fX10_drawnNight_b12 (N : Nat) (G : pG) (a0 : Nat) (a1 : Nat) : (Int32 × pS) → Option (Int32 × pS) := lp (fun (k12 : Int32 × pS → Option (Int32 × pS)) (b : Int32 × pS) => if (b.2.1 (pR G a0 0) 4) ≤ b.1 then (fX10_drawnNight_b78 N G a0 a1 b.2) else (if (b.2.1 a1 6) = 0 then ((fX11_has N G (b.2.1 a1 4) b.1 b.2).bind (fun q3 => if q3 = 0 then (k12 (b.1 + (1 : Int32), b.2)) else ((fX3_draw N G a1 b.2).bind (fun q4 => if (q4.2.1 (pR G a0 0) 8) ≤ (jrem q4.1 (100 : Int32)) then (k12 (b.1 + (1 : Int32), q4.2)) else ((fX11_at N G (pR G a1 7) b.1 q4.2).bind (fun q5 => (fX10_speak N G a0 a1 b.1 q5 q4.2).bind (fun q6 => k12 (b.1 + (1 : Int32), q6)))))))) else (fX10_drawnNight_b78 N G a0 a1 b.2))) N
set_option maxRecDepth 100000 in
set_option maxHeartbeats 4000000 in
theorem tX10_drawnNight_b12 {N : Nat} {G : pG} {SK : Nat → Nat} {a0 : Nat} {a1 : Nat} {b : Int32 × pS} {r : Int32 × pS} (hW : WT G) (i0 : Is G a0 9) (i1 : Is G a1 3) (h : fX10_drawnNight_b12 N G a0 a1 b = some r) : Ev miX10_drawnNight (5, 0, 0) G (Zp G (some (.int r.1)) r.2) SK (0, 0) 12 [some (.ref a0), some (.ref a1), some (.int b.1)] [] b.2 := by
  unfold fX10_drawnNight_b12 at h
  refine lp_ind (P := fun b r9 => r9 = r → Ev miX10_drawnNight (5, 0, 0) G (Zp G (some (.int r.1)) r.2) SK (0, 0) 12 [some (.ref a0), some (.ref a1), some (.int b.1)] [] b.2) (fun k12 b r9 ih h9 e9 => ?_) N b r h rfl
  clear h
  subst e9
  have h := h9
  clear h9
  have hk12 : ∀ b : Int32 × pS, k12 b = some r9 → Ev miX10_drawnNight (5, 0, 0) G (Zp G (some (.int r9.1)) r9.2) SK (0, 0) 12 [some (.ref a0), some (.ref a1), some (.int b.1)] [] b.2 := fun b hb => ih b r9 hb rfl
  clear ih
  obtain ⟨x2, σ⟩ := b
  dsimp only at h ⊢
  refine ev_iload_n dc_X10_drawnNight_12 rfl ?_
  refine ev_aload_n dc_X10_drawnNight_13 rfl ?_
  refine ev_getR dc_X10_drawnNight_14 fi_X10_12 rfl i0 ?_
  refine ev_getI dc_X10_drawnNight_17 fi_X10_129 rfl (wt hW i0 0 rfl rfl) ?_
  refine ev_icmp_ge (tgt := 78) dc_X10_drawnNight_20 (by decide) h (fun h => ?_) (fun h => ?_)
  · exact ev_sub (tX10_drawnNight_b78 hW i0 i1 h) (And.intro rfl (And.intro rfl trivial))
  · refine ev_aload_n dc_X10_drawnNight_23 rfl ?_
    refine ev_getI dc_X10_drawnNight_24 fi_X10_108 rfl i1 ?_
    refine ev_if_ne (tgt := 78) dc_X10_drawnNight_27 (by decide) h (fun h => ?_) (fun h => ?_)
    · refine ev_aload_n dc_X10_drawnNight_30 rfl ?_
      refine ev_getI dc_X10_drawnNight_31 fi_X10_132 rfl i1 ?_
      refine ev_iload_n dc_X10_drawnNight_34 rfl ?_
      obtain ⟨q3, hq3, h⟩ := Option.bind_eq_some_iff.mp h
      refine ev_callN (av := [.int (σ.1 a1 4), .int x2]) (st := []) (st1 := [.int q3]) (host := "UnaskedName") dc_X10_drawnNight_35 (tX11_has hW hq3) (List.mem_of_getElem? (i := 14) rfl) cs_X11_has rfl rfl rfl (Nat.le_of_ble_eq_true rfl) (Nat.le_of_ble_eq_true rfl) ⟨Nat.le_refl _, Nat.le_refl _⟩ ?_
      refine ev_if_eq (tgt := 72) dc_X10_drawnNight_38 (by decide) h (fun h => ?_) (fun h => ?_)
      · refine ev_iinc (v := 1) (lv' := [some (.ref a0), some (.ref a1), some (.int (x2 + (1 : Int32)))]) dc_X10_drawnNight_72 rfl (by decide) rfl (by decide) rfl ?_
        refine ev_goto (tgt := 12) dc_X10_drawnNight_75 (by decide) ?_
        exact ev_sub (hk12 (x2 + (1 : Int32), σ) h) (And.intro rfl (And.intro rfl (And.intro rfl trivial)))
      · refine ev_aload_n dc_X10_drawnNight_41 rfl ?_
        obtain ⟨q4, hq4, h⟩ := Option.bind_eq_some_iff.mp h
        refine ev_callV (av := []) (st := []) (st1 := [.int q4.1]) dc_X10_drawnNight_42 (tX3_draw hW i1 hq4) mw_1241 cy_X3_draw i1 (by decide) rfl rfl rfl rfl (Nat.le_of_ble_eq_true rfl) (Nat.le_of_ble_eq_true rfl) ⟨Nat.le_refl _, Nat.le_refl _⟩ ?_
        refine ev_bipush (v := 100) dc_X10_drawnNight_45 (by decide) ?_
        refine ev_irem dc_X10_drawnNight_47 (by decide) ?_
        refine ev_aload_n dc_X10_drawnNight_48 rfl ?_
        refine ev_getR dc_X10_drawnNight_49 fi_X10_12 rfl i0 ?_
        refine ev_getI dc_X10_drawnNight_52 fi_X10_149 rfl (wt hW i0 0 rfl rfl) ?_
        refine ev_icmp_ge (tgt := 72) dc_X10_drawnNight_55 (by decide) h (fun h => ?_) (fun h => ?_)
        · refine ev_iinc (v := 1) (lv' := [some (.ref a0), some (.ref a1), some (.int (x2 + (1 : Int32)))]) dc_X10_drawnNight_72 rfl (by decide) rfl (by decide) rfl ?_
          refine ev_goto (tgt := 12) dc_X10_drawnNight_75 (by decide) ?_
          exact ev_sub (hk12 (x2 + (1 : Int32), q4.2) h) (And.intro rfl (And.intro rfl (And.intro rfl trivial)))
        · refine ev_aload_n dc_X10_drawnNight_58 rfl ?_
          refine ev_aload_n dc_X10_drawnNight_59 rfl ?_
          refine ev_iload_n dc_X10_drawnNight_60 rfl ?_
          refine ev_aload_n dc_X10_drawnNight_61 rfl ?_
          refine ev_getR dc_X10_drawnNight_62 fi_X10_135 rfl i1 ?_
          refine ev_iload_n dc_X10_drawnNight_65 rfl ?_
          obtain ⟨q5, hq5, h⟩ := Option.bind_eq_some_iff.mp h
          refine ev_callN (av := [.ref (pR G a1 7), .int x2]) (st := [.int x2, .ref a1, .ref a0]) (st1 := [.int q5, .int x2, .ref a1, .ref a0]) (host := "UnaskedName") dc_X10_drawnNight_66 (tX11_at hW (wt hW i1 7 rfl rfl) hq5) (List.mem_of_getElem? (i := 13) rfl) cs_X11_at rfl rfl rfl (Nat.le_of_ble_eq_true rfl) (Nat.le_of_ble_eq_true rfl) ⟨Nat.le_refl _, Nat.le_refl _⟩ ?_
          obtain ⟨q6, hq6, h⟩ := Option.bind_eq_some_iff.mp h
          refine ev_callV (av := [.ref a1, .int x2, .int q5]) (st := []) (st1 := []) dc_X10_drawnNight_69 (tX10_speak hW i0 i1 hq6) mw_1246 cy_X10_speak i0 (by decide) rfl rfl rfl rfl (Nat.le_of_ble_eq_true rfl) (Nat.le_of_ble_eq_true rfl) ⟨Nat.le_refl _, Nat.le_refl _⟩ ?_
          refine ev_iinc (v := 1) (lv' := [some (.ref a0), some (.ref a1), some (.int (x2 + (1 : Int32)))]) dc_X10_drawnNight_72 rfl (by decide) rfl (by decide) rfl ?_
          refine ev_goto (tgt := 12) dc_X10_drawnNight_75 (by decide) ?_
          exact ev_sub (hk12 (x2 + (1 : Int32), q6) h) (And.intro rfl (And.intro rfl (And.intro rfl trivial)))
    · exact ev_sub (tX10_drawnNight_b78 hW i0 i1 h) (And.intro rfl (And.intro rfl trivial))
def fX10_drawnNight (N : Nat) (G : pG) (a0 : Nat) (a1 : Nat) (σ : pS) : Option (Int32 × pS) := (fX10_canNightCome N G a0 a1 σ).bind (fun q7 => if q7 = 0 then (some ((0 : Int32), σ)) else (fX10_drawnNight_b12 N G a0 a1 ((0 : Int32), σ)))
set_option maxRecDepth 100000 in
set_option maxHeartbeats 4000000 in
theorem tX10_drawnNight {N : Nat} {G : pG} {SK : Nat → Nat} {a0 : Nat} {a1 : Nat} {σ : pS} {r : Int32 × pS} (hW : WT G) (i0 : Is G a0 9) (i1 : Is G a1 3) (h : fX10_drawnNight N G a0 a1 σ = some r) : Dn miX10_drawnNight yX10_drawnNight 5 G SK [.ref a0, .ref a1] σ (some (.int r.1)) r.2 := by
  unfold fX10_drawnNight at h
  refine dn_of (lv := [some (.ref a0), some (.ref a1), none]) (by decide) rfl rfl (Nat.le_of_ble_eq_true rfl) rfl ?_
  refine ev_aload_n dc_X10_drawnNight_0 rfl ?_
  refine ev_aload_n dc_X10_drawnNight_1 rfl ?_
  obtain ⟨q7, hq7, h⟩ := Option.bind_eq_some_iff.mp h
  refine ev_callV (av := [.ref a1]) (st := []) (st1 := [.int q7]) dc_X10_drawnNight_2 (tX10_canNightCome hW i0 i1 hq7) mw_1237 cy_X10_canNightCome i0 (by decide) rfl rfl rfl rfl (Nat.le_of_ble_eq_true rfl) (Nat.le_of_ble_eq_true rfl) ⟨Nat.le_refl _, Nat.le_refl _⟩ ?_
  refine ev_if_ne (tgt := 10) dc_X10_drawnNight_5 (by decide) h (fun h => ?_) (fun h => ?_)
  · refine ev_iconst (v := 0) dc_X10_drawnNight_8 (by decide) ?_
    cases h
    exact ev_zretc dc_X10_drawnNight_9 rfl rfl rfl rfl
  · refine ev_iconst (v := 0) dc_X10_drawnNight_10 (by decide) ?_
    refine ev_istore_n (lv' := [some (.ref a0), some (.ref a1), some (.int (0 : Int32))]) dc_X10_drawnNight_11 rfl (by decide) rfl ?_
    exact ev_sub (tX10_drawnNight_b12 (b := ((0 : Int32), σ)) hW i0 i1 h) (And.intro rfl (And.intro rfl (And.intro rfl trivial)))
theorem dc_X10_plainNight_0 : Dc miX10_plainNight 0 (.aload_n 0) 1 1 := ⟨by decide +kernel, rfl⟩
theorem dc_X10_plainNight_1 : Dc miX10_plainNight 1 (.aload_n 1) 1 2 := ⟨by decide +kernel, rfl⟩
theorem dc_X10_plainNight_2 : Dc miX10_plainNight 2 (.invokevirtual 125) 3 5 := ⟨by decide +kernel, rfl⟩
theorem dc_X10_plainNight_5 : Dc miX10_plainNight 5 (.ifCond .ne 4) 3 8 := ⟨by decide +kernel, rfl⟩
theorem dc_X10_plainNight_8 : Dc miX10_plainNight 8 (.return_) 1 9 := ⟨by decide +kernel, rfl⟩
theorem dc_X10_plainNight_9 : Dc miX10_plainNight 9 (.iconst 0) 1 10 := ⟨by decide +kernel, rfl⟩
theorem dc_X10_plainNight_10 : Dc miX10_plainNight 10 (.istore_n 3) 1 11 := ⟨by decide +kernel, rfl⟩
theorem dc_X10_plainNight_11 : Dc miX10_plainNight 11 (.iload_n 3) 1 12 := ⟨by decide +kernel, rfl⟩
theorem dc_X10_plainNight_12 : Dc miX10_plainNight 12 (.aload_n 0) 1 13 := ⟨by decide +kernel, rfl⟩
theorem dc_X10_plainNight_13 : Dc miX10_plainNight 13 (.getfield 12) 3 16 := ⟨by decide +kernel, rfl⟩
theorem dc_X10_plainNight_16 : Dc miX10_plainNight 16 (.getfield 129) 3 19 := ⟨by decide +kernel, rfl⟩
theorem dc_X10_plainNight_19 : Dc miX10_plainNight 19 (.if_icmp .ge 41) 3 22 := ⟨by decide +kernel, rfl⟩
theorem dc_X10_plainNight_22 : Dc miX10_plainNight 22 (.aload_n 1) 1 23 := ⟨by decide +kernel, rfl⟩
theorem dc_X10_plainNight_23 : Dc miX10_plainNight 23 (.getfield 108) 3 26 := ⟨by decide +kernel, rfl⟩
theorem dc_X10_plainNight_26 : Dc miX10_plainNight 26 (.ifCond .ne 34) 3 29 := ⟨by decide +kernel, rfl⟩
theorem dc_X10_plainNight_29 : Dc miX10_plainNight 29 (.aload_n 1) 1 30 := ⟨by decide +kernel, rfl⟩
theorem dc_X10_plainNight_30 : Dc miX10_plainNight 30 (.getfield 132) 3 33 := ⟨by decide +kernel, rfl⟩
theorem dc_X10_plainNight_33 : Dc miX10_plainNight 33 (.iload_n 3) 1 34 := ⟨by decide +kernel, rfl⟩
theorem dc_X10_plainNight_34 : Dc miX10_plainNight 34 (.invokestatic 57) 3 37 := ⟨by decide +kernel, rfl⟩
theorem dc_X10_plainNight_37 : Dc miX10_plainNight 37 (.ifCond .eq 17) 3 40 := ⟨by decide +kernel, rfl⟩
theorem dc_X10_plainNight_40 : Dc miX10_plainNight 40 (.aload_n 0) 1 41 := ⟨by decide +kernel, rfl⟩
theorem dc_X10_plainNight_41 : Dc miX10_plainNight 41 (.aload_n 1) 1 42 := ⟨by decide +kernel, rfl⟩
theorem dc_X10_plainNight_42 : Dc miX10_plainNight 42 (.iload_n 3) 1 43 := ⟨by decide +kernel, rfl⟩
theorem dc_X10_plainNight_43 : Dc miX10_plainNight 43 (.aload_n 1) 1 44 := ⟨by decide +kernel, rfl⟩
theorem dc_X10_plainNight_44 : Dc miX10_plainNight 44 (.getfield 135) 3 47 := ⟨by decide +kernel, rfl⟩
theorem dc_X10_plainNight_47 : Dc miX10_plainNight 47 (.iload_n 3) 1 48 := ⟨by decide +kernel, rfl⟩
theorem dc_X10_plainNight_48 : Dc miX10_plainNight 48 (.invokestatic 46) 3 51 := ⟨by decide +kernel, rfl⟩
theorem dc_X10_plainNight_51 : Dc miX10_plainNight 51 (.invokevirtual 138) 3 54 := ⟨by decide +kernel, rfl⟩
theorem dc_X10_plainNight_54 : Dc miX10_plainNight 54 (.iinc 3 1) 3 57 := ⟨by decide +kernel, rfl⟩
theorem dc_X10_plainNight_57 : Dc miX10_plainNight 57 (.goto (-46)) 3 60 := ⟨by decide +kernel, rfl⟩
theorem dc_X10_plainNight_60 : Dc miX10_plainNight 60 (.aload_n 1) 1 61 := ⟨by decide +kernel, rfl⟩
theorem dc_X10_plainNight_61 : Dc miX10_plainNight 61 (.getfield 108) 3 64 := ⟨by decide +kernel, rfl⟩
theorem dc_X10_plainNight_64 : Dc miX10_plainNight 64 (.ifCond .ne 14) 3 67 := ⟨by decide +kernel, rfl⟩
theorem dc_X10_plainNight_67 : Dc miX10_plainNight 67 (.iload_n 2) 1 68 := ⟨by decide +kernel, rfl⟩
theorem dc_X10_plainNight_68 : Dc miX10_plainNight 68 (.iconst (-1)) 1 69 := ⟨by decide +kernel, rfl⟩
theorem dc_X10_plainNight_69 : Dc miX10_plainNight 69 (.if_icmp .eq 9) 3 72 := ⟨by decide +kernel, rfl⟩
theorem dc_X10_plainNight_72 : Dc miX10_plainNight 72 (.aload_n 0) 1 73 := ⟨by decide +kernel, rfl⟩
theorem dc_X10_plainNight_73 : Dc miX10_plainNight 73 (.aload_n 1) 1 74 := ⟨by decide +kernel, rfl⟩
theorem dc_X10_plainNight_74 : Dc miX10_plainNight 74 (.iload_n 2) 1 75 := ⟨by decide +kernel, rfl⟩
theorem dc_X10_plainNight_75 : Dc miX10_plainNight 75 (.invokevirtual 141) 3 78 := ⟨by decide +kernel, rfl⟩
theorem dc_X10_plainNight_78 : Dc miX10_plainNight 78 (.aload_n 1) 1 79 := ⟨by decide +kernel, rfl⟩
theorem dc_X10_plainNight_79 : Dc miX10_plainNight 79 (.dup) 1 80 := ⟨by decide +kernel, rfl⟩
theorem dc_X10_plainNight_80 : Dc miX10_plainNight 80 (.getfield 119) 3 83 := ⟨by decide +kernel, rfl⟩
theorem dc_X10_plainNight_83 : Dc miX10_plainNight 83 (.iconst 1) 1 84 := ⟨by decide +kernel, rfl⟩
theorem dc_X10_plainNight_84 : Dc miX10_plainNight 84 (.iadd) 1 85 := ⟨by decide +kernel, rfl⟩
theorem dc_X10_plainNight_85 : Dc miX10_plainNight 85 (.putfield 119) 3 88 := ⟨by decide +kernel, rfl⟩
theorem dc_X10_plainNight_88 : Dc miX10_plainNight 88 (.return_) 1 89 := ⟨by decide +kernel, rfl⟩
def fX10_plainNight_b78 (N : Nat) (G : pG) (a1 : Nat) (σ : pS) : Option (pS) := some (putF σ a1 1 ((σ.1 a1 1) + (1 : Int32)))
set_option maxRecDepth 100000 in
set_option maxHeartbeats 4000000 in
theorem tX10_plainNight_b78 {N : Nat} {G : pG} {SK : Nat → Nat} {a1 : Nat} {σ : pS} {r : pS} (hW : WT G) (i1 : Is G a1 3) (h : fX10_plainNight_b78 N G a1 σ = some r) : Ev miX10_plainNight (5, 0, 0) G (Zp G none r) SK (0, 0) 78 [none, some (.ref a1), none, none] [] σ := by
  unfold fX10_plainNight_b78 at h
  refine ev_aload_n dc_X10_plainNight_78 rfl ?_
  refine ev_dup dc_X10_plainNight_79 rfl ?_
  refine ev_getI dc_X10_plainNight_80 fi_X10_119 rfl i1 ?_
  refine ev_iconst (v := 1) dc_X10_plainNight_83 (by decide) ?_
  refine ev_iadd dc_X10_plainNight_84 ?_
  refine ev_putI dc_X10_plainNight_85 fi_X10_119 rfl i1 ?_
  cases h
  exact ev_vret dc_X10_plainNight_88 rfl rfl rfl
def fX10_plainNight_b60 (N : Nat) (G : pG) (a0 : Nat) (a1 : Nat) (a2 : Int32) (σ : pS) : Option (pS) := if (σ.1 a1 6) = 0 then (if a2 = (-1 : Int32) then (fX10_plainNight_b78 N G a1 σ) else ((fX10_soothe N G a0 a1 a2 σ).bind (fun q1 => fX10_plainNight_b78 N G a1 q1))) else (fX10_plainNight_b78 N G a1 σ)
set_option maxRecDepth 100000 in
set_option maxHeartbeats 4000000 in
theorem tX10_plainNight_b60 {N : Nat} {G : pG} {SK : Nat → Nat} {a0 : Nat} {a1 : Nat} {a2 : Int32} {σ : pS} {r : pS} (hW : WT G) (i0 : Is G a0 9) (i1 : Is G a1 3) (h : fX10_plainNight_b60 N G a0 a1 a2 σ = some r) : Ev miX10_plainNight (5, 0, 0) G (Zp G none r) SK (0, 0) 60 [some (.ref a0), some (.ref a1), some (.int a2), none] [] σ := by
  unfold fX10_plainNight_b60 at h
  refine ev_aload_n dc_X10_plainNight_60 rfl ?_
  refine ev_getI dc_X10_plainNight_61 fi_X10_108 rfl i1 ?_
  refine ev_if_ne (tgt := 78) dc_X10_plainNight_64 (by decide) h (fun h => ?_) (fun h => ?_)
  · refine ev_iload_n dc_X10_plainNight_67 rfl ?_
    refine ev_iconst (v := (-1)) dc_X10_plainNight_68 (by decide) ?_
    refine ev_icmp_eq (tgt := 78) dc_X10_plainNight_69 (by decide) h (fun h => ?_) (fun h => ?_)
    · exact ev_sub (tX10_plainNight_b78 hW i1 h) (And.intro rfl trivial)
    · refine ev_aload_n dc_X10_plainNight_72 rfl ?_
      refine ev_aload_n dc_X10_plainNight_73 rfl ?_
      refine ev_iload_n dc_X10_plainNight_74 rfl ?_
      obtain ⟨q1, hq1, h⟩ := Option.bind_eq_some_iff.mp h
      refine ev_callV (av := [.ref a1, .int a2]) (st := []) (st1 := []) dc_X10_plainNight_75 (tX10_soothe hW i0 i1 hq1) mw_1247 cy_X10_soothe i0 (by decide) rfl rfl rfl rfl (Nat.le_of_ble_eq_true rfl) (Nat.le_of_ble_eq_true rfl) ⟨Nat.le_refl _, Nat.le_refl _⟩ ?_
      exact ev_sub (tX10_plainNight_b78 hW i1 h) (And.intro rfl trivial)
  · exact ev_sub (tX10_plainNight_b78 hW i1 h) (And.intro rfl trivial)
def fX10_plainNight_b11 (N : Nat) (G : pG) (a0 : Nat) (a1 : Nat) (a2 : Int32) : (Int32 × pS) → Option (pS) := lp (fun (k11 : Int32 × pS → Option (pS)) (b : Int32 × pS) => if (b.2.1 (pR G a0 0) 4) ≤ b.1 then (fX10_plainNight_b60 N G a0 a1 a2 b.2) else (if (b.2.1 a1 6) = 0 then ((fX11_has N G (b.2.1 a1 4) b.1 b.2).bind (fun q2 => if q2 = 0 then (k11 (b.1 + (1 : Int32), b.2)) else ((fX11_at N G (pR G a1 7) b.1 b.2).bind (fun q3 => (fX10_speak N G a0 a1 b.1 q3 b.2).bind (fun q4 => k11 (b.1 + (1 : Int32), q4)))))) else (fX10_plainNight_b60 N G a0 a1 a2 b.2))) N
set_option maxRecDepth 100000 in
set_option maxHeartbeats 4000000 in
theorem tX10_plainNight_b11 {N : Nat} {G : pG} {SK : Nat → Nat} {a0 : Nat} {a1 : Nat} {a2 : Int32} {b : Int32 × pS} {r : pS} (hW : WT G) (i0 : Is G a0 9) (i1 : Is G a1 3) (h : fX10_plainNight_b11 N G a0 a1 a2 b = some r) : Ev miX10_plainNight (5, 0, 0) G (Zp G none r) SK (0, 0) 11 [some (.ref a0), some (.ref a1), some (.int a2), some (.int b.1)] [] b.2 := by
  unfold fX10_plainNight_b11 at h
  refine lp_ind (P := fun b r9 => r9 = r → Ev miX10_plainNight (5, 0, 0) G (Zp G none r) SK (0, 0) 11 [some (.ref a0), some (.ref a1), some (.int a2), some (.int b.1)] [] b.2) (fun k11 b r9 ih h9 e9 => ?_) N b r h rfl
  clear h
  subst e9
  have h := h9
  clear h9
  have hk11 : ∀ b : Int32 × pS, k11 b = some r9 → Ev miX10_plainNight (5, 0, 0) G (Zp G none r9) SK (0, 0) 11 [some (.ref a0), some (.ref a1), some (.int a2), some (.int b.1)] [] b.2 := fun b hb => ih b r9 hb rfl
  clear ih
  obtain ⟨x3, σ⟩ := b
  dsimp only at h ⊢
  refine ev_iload_n dc_X10_plainNight_11 rfl ?_
  refine ev_aload_n dc_X10_plainNight_12 rfl ?_
  refine ev_getR dc_X10_plainNight_13 fi_X10_12 rfl i0 ?_
  refine ev_getI dc_X10_plainNight_16 fi_X10_129 rfl (wt hW i0 0 rfl rfl) ?_
  refine ev_icmp_ge (tgt := 60) dc_X10_plainNight_19 (by decide) h (fun h => ?_) (fun h => ?_)
  · exact ev_sub (tX10_plainNight_b60 hW i0 i1 h) (And.intro rfl (And.intro rfl (And.intro rfl trivial)))
  · refine ev_aload_n dc_X10_plainNight_22 rfl ?_
    refine ev_getI dc_X10_plainNight_23 fi_X10_108 rfl i1 ?_
    refine ev_if_ne (tgt := 60) dc_X10_plainNight_26 (by decide) h (fun h => ?_) (fun h => ?_)
    · refine ev_aload_n dc_X10_plainNight_29 rfl ?_
      refine ev_getI dc_X10_plainNight_30 fi_X10_132 rfl i1 ?_
      refine ev_iload_n dc_X10_plainNight_33 rfl ?_
      obtain ⟨q2, hq2, h⟩ := Option.bind_eq_some_iff.mp h
      refine ev_callN (av := [.int (σ.1 a1 4), .int x3]) (st := []) (st1 := [.int q2]) (host := "UnaskedName") dc_X10_plainNight_34 (tX11_has hW hq2) (List.mem_of_getElem? (i := 14) rfl) cs_X11_has rfl rfl rfl (Nat.le_of_ble_eq_true rfl) (Nat.le_of_ble_eq_true rfl) ⟨Nat.le_refl _, Nat.le_refl _⟩ ?_
      refine ev_if_eq (tgt := 54) dc_X10_plainNight_37 (by decide) h (fun h => ?_) (fun h => ?_)
      · refine ev_iinc (v := 1) (lv' := [some (.ref a0), some (.ref a1), some (.int a2), some (.int (x3 + (1 : Int32)))]) dc_X10_plainNight_54 rfl (by decide) rfl (by decide) rfl ?_
        refine ev_goto (tgt := 11) dc_X10_plainNight_57 (by decide) ?_
        exact ev_sub (hk11 (x3 + (1 : Int32), σ) h) (And.intro rfl (And.intro rfl (And.intro rfl (And.intro rfl trivial))))
      · refine ev_aload_n dc_X10_plainNight_40 rfl ?_
        refine ev_aload_n dc_X10_plainNight_41 rfl ?_
        refine ev_iload_n dc_X10_plainNight_42 rfl ?_
        refine ev_aload_n dc_X10_plainNight_43 rfl ?_
        refine ev_getR dc_X10_plainNight_44 fi_X10_135 rfl i1 ?_
        refine ev_iload_n dc_X10_plainNight_47 rfl ?_
        obtain ⟨q3, hq3, h⟩ := Option.bind_eq_some_iff.mp h
        refine ev_callN (av := [.ref (pR G a1 7), .int x3]) (st := [.int x3, .ref a1, .ref a0]) (st1 := [.int q3, .int x3, .ref a1, .ref a0]) (host := "UnaskedName") dc_X10_plainNight_48 (tX11_at hW (wt hW i1 7 rfl rfl) hq3) (List.mem_of_getElem? (i := 13) rfl) cs_X11_at rfl rfl rfl (Nat.le_of_ble_eq_true rfl) (Nat.le_of_ble_eq_true rfl) ⟨Nat.le_refl _, Nat.le_refl _⟩ ?_
        obtain ⟨q4, hq4, h⟩ := Option.bind_eq_some_iff.mp h
        refine ev_callV (av := [.ref a1, .int x3, .int q3]) (st := []) (st1 := []) dc_X10_plainNight_51 (tX10_speak hW i0 i1 hq4) mw_1246 cy_X10_speak i0 (by decide) rfl rfl rfl rfl (Nat.le_of_ble_eq_true rfl) (Nat.le_of_ble_eq_true rfl) ⟨Nat.le_refl _, Nat.le_refl _⟩ ?_
        refine ev_iinc (v := 1) (lv' := [some (.ref a0), some (.ref a1), some (.int a2), some (.int (x3 + (1 : Int32)))]) dc_X10_plainNight_54 rfl (by decide) rfl (by decide) rfl ?_
        refine ev_goto (tgt := 11) dc_X10_plainNight_57 (by decide) ?_
        exact ev_sub (hk11 (x3 + (1 : Int32), q4) h) (And.intro rfl (And.intro rfl (And.intro rfl (And.intro rfl trivial))))
    · exact ev_sub (tX10_plainNight_b60 hW i0 i1 h) (And.intro rfl (And.intro rfl (And.intro rfl trivial)))
def fX10_plainNight (N : Nat) (G : pG) (a0 : Nat) (a1 : Nat) (a2 : Int32) (σ : pS) : Option (pS) := (fX10_canNightCome N G a0 a1 σ).bind (fun q5 => if q5 = 0 then (some σ) else (fX10_plainNight_b11 N G a0 a1 a2 ((0 : Int32), σ)))
set_option maxRecDepth 100000 in
set_option maxHeartbeats 4000000 in
theorem tX10_plainNight {N : Nat} {G : pG} {SK : Nat → Nat} {a0 : Nat} {a1 : Nat} {a2 : Int32} {σ : pS} {r : pS} (hW : WT G) (i0 : Is G a0 9) (i1 : Is G a1 3) (h : fX10_plainNight N G a0 a1 a2 σ = some r) : Dn miX10_plainNight yX10_plainNight 5 G SK [.ref a0, .ref a1, .int a2] σ none r := by
  unfold fX10_plainNight at h
  refine dn_of (lv := [some (.ref a0), some (.ref a1), some (.int a2), none]) (by decide) rfl rfl (Nat.le_of_ble_eq_true rfl) rfl ?_
  refine ev_aload_n dc_X10_plainNight_0 rfl ?_
  refine ev_aload_n dc_X10_plainNight_1 rfl ?_
  obtain ⟨q5, hq5, h⟩ := Option.bind_eq_some_iff.mp h
  refine ev_callV (av := [.ref a1]) (st := []) (st1 := [.int q5]) dc_X10_plainNight_2 (tX10_canNightCome hW i0 i1 hq5) mw_1237 cy_X10_canNightCome i0 (by decide) rfl rfl rfl rfl (Nat.le_of_ble_eq_true rfl) (Nat.le_of_ble_eq_true rfl) ⟨Nat.le_refl _, Nat.le_refl _⟩ ?_
  refine ev_if_ne (tgt := 9) dc_X10_plainNight_5 (by decide) h (fun h => ?_) (fun h => ?_)
  · cases h
    exact ev_vret dc_X10_plainNight_8 rfl rfl rfl
  · refine ev_iconst (v := 0) dc_X10_plainNight_9 (by decide) ?_
    refine ev_istore_n (lv' := [some (.ref a0), some (.ref a1), some (.int a2), some (.int (0 : Int32))]) dc_X10_plainNight_10 rfl (by decide) rfl ?_
    exact ev_sub (tX10_plainNight_b11 (b := ((0 : Int32), σ)) hW i0 i1 h) (And.intro rfl (And.intro rfl (And.intro rfl (And.intro rfl trivial))))
theorem dc_X5_reach_0 : Dc miX5_reach 0 (.iload_n 1) 1 1 := ⟨by decide +kernel, rfl⟩
theorem dc_X5_reach_1 : Dc miX5_reach 1 (.ifCond .lt 48) 3 4 := ⟨by decide +kernel, rfl⟩
theorem dc_X5_reach_4 : Dc miX5_reach 4 (.iload_n 1) 1 5 := ⟨by decide +kernel, rfl⟩
theorem dc_X5_reach_5 : Dc miX5_reach 5 (.bipush 100) 2 7 := ⟨by decide +kernel, rfl⟩
theorem dc_X5_reach_7 : Dc miX5_reach 7 (.if_icmp .ge 42) 3 10 := ⟨by decide +kernel, rfl⟩
theorem dc_X5_reach_10 : Dc miX5_reach 10 (.aload_n 0) 1 11 := ⟨by decide +kernel, rfl⟩
theorem dc_X5_reach_11 : Dc miX5_reach 11 (.getfield 18) 3 14 := ⟨by decide +kernel, rfl⟩
theorem dc_X5_reach_14 : Dc miX5_reach 14 (.iload_n 1) 1 15 := ⟨by decide +kernel, rfl⟩
theorem dc_X5_reach_15 : Dc miX5_reach 15 (.laload) 1 16 := ⟨by decide +kernel, rfl⟩
theorem dc_X5_reach_16 : Dc miX5_reach 16 (.iload_n 2) 1 17 := ⟨by decide +kernel, rfl⟩
theorem dc_X5_reach_17 : Dc miX5_reach 17 (.lushr) 1 18 := ⟨by decide +kernel, rfl⟩
theorem dc_X5_reach_18 : Dc miX5_reach 18 (.lconst 1) 1 19 := ⟨by decide +kernel, rfl⟩
theorem dc_X5_reach_19 : Dc miX5_reach 19 (.land) 1 20 := ⟨by decide +kernel, rfl⟩
theorem dc_X5_reach_20 : Dc miX5_reach 20 (.lconst 0) 1 21 := ⟨by decide +kernel, rfl⟩
theorem dc_X5_reach_21 : Dc miX5_reach 21 (.lcmp) 1 22 := ⟨by decide +kernel, rfl⟩
theorem dc_X5_reach_22 : Dc miX5_reach 22 (.ifCond .ne 27) 3 25 := ⟨by decide +kernel, rfl⟩
theorem dc_X5_reach_25 : Dc miX5_reach 25 (.aload_n 0) 1 26 := ⟨by decide +kernel, rfl⟩
theorem dc_X5_reach_26 : Dc miX5_reach 26 (.getfield 18) 3 29 := ⟨by decide +kernel, rfl⟩
theorem dc_X5_reach_29 : Dc miX5_reach 29 (.iload_n 1) 1 30 := ⟨by decide +kernel, rfl⟩
theorem dc_X5_reach_30 : Dc miX5_reach 30 (.dup2) 1 31 := ⟨by decide +kernel, rfl⟩
theorem dc_X5_reach_31 : Dc miX5_reach 31 (.laload) 1 32 := ⟨by decide +kernel, rfl⟩
theorem dc_X5_reach_32 : Dc miX5_reach 32 (.lconst 1) 1 33 := ⟨by decide +kernel, rfl⟩
theorem dc_X5_reach_33 : Dc miX5_reach 33 (.iload_n 2) 1 34 := ⟨by decide +kernel, rfl⟩
theorem dc_X5_reach_34 : Dc miX5_reach 34 (.lshl) 1 35 := ⟨by decide +kernel, rfl⟩
theorem dc_X5_reach_35 : Dc miX5_reach 35 (.lor) 1 36 := ⟨by decide +kernel, rfl⟩
theorem dc_X5_reach_36 : Dc miX5_reach 36 (.lastore) 1 37 := ⟨by decide +kernel, rfl⟩
theorem dc_X5_reach_37 : Dc miX5_reach 37 (.aload_n 0) 1 38 := ⟨by decide +kernel, rfl⟩
theorem dc_X5_reach_38 : Dc miX5_reach 38 (.getfield 25) 3 41 := ⟨by decide +kernel, rfl⟩
theorem dc_X5_reach_41 : Dc miX5_reach 41 (.iload_n 1) 1 42 := ⟨by decide +kernel, rfl⟩
theorem dc_X5_reach_42 : Dc miX5_reach 42 (.dup2) 1 43 := ⟨by decide +kernel, rfl⟩
theorem dc_X5_reach_43 : Dc miX5_reach 43 (.laload) 1 44 := ⟨by decide +kernel, rfl⟩
theorem dc_X5_reach_44 : Dc miX5_reach 44 (.lconst 1) 1 45 := ⟨by decide +kernel, rfl⟩
theorem dc_X5_reach_45 : Dc miX5_reach 45 (.iload_n 2) 1 46 := ⟨by decide +kernel, rfl⟩
theorem dc_X5_reach_46 : Dc miX5_reach 46 (.lshl) 1 47 := ⟨by decide +kernel, rfl⟩
theorem dc_X5_reach_47 : Dc miX5_reach 47 (.lor) 1 48 := ⟨by decide +kernel, rfl⟩
theorem dc_X5_reach_48 : Dc miX5_reach 48 (.lastore) 1 49 := ⟨by decide +kernel, rfl⟩
theorem dc_X5_reach_49 : Dc miX5_reach 49 (.return_) 1 50 := ⟨by decide +kernel, rfl⟩
def fX5_reach (N : Nat) (G : pG) (a0 : Nat) (a1 : Int32) (a2 : Int32) (σ : pS) : Option (pS) := if a1 < 0 then (some σ) else (if (100 : Int32) ≤ a1 then (some σ) else (ck (inB a1 (pN G (pR G a0 1))) (if (lg_cmp ((jlushr (gJ σ (pR G a0 1) a1) a2) &&& (1 : Int64)) (0 : Int64)) = 0 then (ck (inB a1 (pN G (pR G a0 1))) (ck (inB a1 (pN G (pR G a0 1))) (ck (inB a1 (pN G (pR G a0 3))) (ck (inB a1 (pN G (pR G a0 3))) (some (sJ (sJ σ (pR G a0 1) a1 ((gJ σ (pR G a0 1) a1) ||| (jlshl (1 : Int64) a2))) (pR G a0 3) a1 ((gJ (sJ σ (pR G a0 1) a1 ((gJ σ (pR G a0 1) a1) ||| (jlshl (1 : Int64) a2))) (pR G a0 3) a1) ||| (jlshl (1 : Int64) a2)))))))) else (some σ))))
set_option maxRecDepth 100000 in
set_option maxHeartbeats 4000000 in
theorem tX5_reach {N : Nat} {G : pG} {SK : Nat → Nat} {a0 : Nat} {a1 : Int32} {a2 : Int32} {σ : pS} {r : pS} (hW : WT G) (i0 : Is G a0 5) (h : fX5_reach N G a0 a1 a2 σ = some r) : Dn miX5_reach yX5_reach 1 G SK [.ref a0, .int a1, .int a2] σ none r := by
  unfold fX5_reach at h
  refine dn_of (lv := [some (.ref a0), some (.int a1), some (.int a2)]) (by decide) rfl rfl (Nat.le_of_ble_eq_true rfl) rfl ?_
  refine ev_iload_n dc_X5_reach_0 rfl ?_
  refine ev_if_lt (tgt := 49) dc_X5_reach_1 (by decide) h (fun h => ?_) (fun h => ?_)
  · cases h
    exact ev_vret dc_X5_reach_49 rfl rfl rfl
  · refine ev_iload_n dc_X5_reach_4 rfl ?_
    refine ev_bipush (v := 100) dc_X5_reach_5 (by decide) ?_
    refine ev_icmp_ge (tgt := 49) dc_X5_reach_7 (by decide) h (fun h => ?_) (fun h => ?_)
    · cases h
      exact ev_vret dc_X5_reach_49 rfl rfl rfl
    · refine ev_aload_n dc_X5_reach_10 rfl ?_
      refine ev_getR dc_X5_reach_11 fi_X5_18 rfl i0 ?_
      refine ev_iload_n dc_X5_reach_14 rfl ?_
      refine ev_lald dc_X5_reach_15 (wt hW i0 1 rfl rfl) h (fun h => ?_)
      refine ev_iload_n dc_X5_reach_16 rfl ?_
      refine ev_lushr dc_X5_reach_17 ?_
      refine ev_lconst (v := 1) dc_X5_reach_18 (by decide) ?_
      refine ev_land dc_X5_reach_19 ?_
      refine ev_lconst (v := 0) dc_X5_reach_20 (by decide) ?_
      refine ev_lcmp dc_X5_reach_21 ?_
      refine ev_if_ne (tgt := 49) dc_X5_reach_22 (by decide) h (fun h => ?_) (fun h => ?_)
      · refine ev_aload_n dc_X5_reach_25 rfl ?_
        refine ev_getR dc_X5_reach_26 fi_X5_18 rfl i0 ?_
        refine ev_iload_n dc_X5_reach_29 rfl ?_
        refine ev_dup2 dc_X5_reach_30 rfl rfl ?_
        refine ev_lald dc_X5_reach_31 (wt hW i0 1 rfl rfl) h (fun h => ?_)
        refine ev_lconst (v := 1) dc_X5_reach_32 (by decide) ?_
        refine ev_iload_n dc_X5_reach_33 rfl ?_
        refine ev_lshl dc_X5_reach_34 ?_
        refine ev_lor dc_X5_reach_35 ?_
        refine ev_last dc_X5_reach_36 (wt hW i0 1 rfl rfl) h (fun h => ?_)
        refine ev_aload_n dc_X5_reach_37 rfl ?_
        refine ev_getR dc_X5_reach_38 fi_X5_25 rfl i0 ?_
        refine ev_iload_n dc_X5_reach_41 rfl ?_
        refine ev_dup2 dc_X5_reach_42 rfl rfl ?_
        refine ev_lald dc_X5_reach_43 (wt hW i0 3 rfl rfl) h (fun h => ?_)
        refine ev_lconst (v := 1) dc_X5_reach_44 (by decide) ?_
        refine ev_iload_n dc_X5_reach_45 rfl ?_
        refine ev_lshl dc_X5_reach_46 ?_
        refine ev_lor dc_X5_reach_47 ?_
        refine ev_last dc_X5_reach_48 (wt hW i0 3 rfl rfl) h (fun h => ?_)
        cases h
        exact ev_vret dc_X5_reach_49 rfl rfl rfl
      · cases h
        exact ev_vret dc_X5_reach_49 rfl rfl rfl
