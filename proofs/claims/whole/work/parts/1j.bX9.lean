theorem dX9_goes_0 : decode cX9_goes 0 = .ok (.iconst 0, 1) := by decide +kernel
theorem dX9_goes_1 : decode cX9_goes 1 = .ok (.istore_n 3, 1) := by decide +kernel
theorem dX9_goes_2 : decode cX9_goes 2 = .ok (.iload_n 3, 1) := by decide +kernel
theorem dX9_goes_3 : decode cX9_goes 3 = .ok (.aload_n 0, 1) := by decide +kernel
theorem dX9_goes_4 : decode cX9_goes 4 = .ok (.getfield 82, 3) := by decide +kernel
theorem dX9_goes_7 : decode cX9_goes 7 = .ok (.if_icmp .ge 39, 3) := by decide +kernel
theorem dX9_goes_10 : decode cX9_goes 10 = .ok (.iload_n 2, 1) := by decide +kernel
theorem dX9_goes_11 : decode cX9_goes 11 = .ok (.iload_n 3, 1) := by decide +kernel
theorem dX9_goes_12 : decode cX9_goes 12 = .ok (.ishr, 1) := by decide +kernel
theorem dX9_goes_13 : decode cX9_goes 13 = .ok (.iconst 1, 1) := by decide +kernel
theorem dX9_goes_14 : decode cX9_goes 14 = .ok (.iand, 1) := by decide +kernel
theorem dX9_goes_15 : decode cX9_goes 15 = .ok (.iconst 1, 1) := by decide +kernel
theorem dX9_goes_16 : decode cX9_goes 16 = .ok (.if_icmp .ne 24, 3) := by decide +kernel
theorem dX9_goes_19 : decode cX9_goes 19 = .ok (.aload_n 0, 1) := by decide +kernel
theorem dX9_goes_20 : decode cX9_goes 20 = .ok (.getfield 29, 3) := by decide +kernel
theorem dX9_goes_23 : decode cX9_goes 23 = .ok (.iload_n 3, 1) := by decide +kernel
theorem dX9_goes_24 : decode cX9_goes 24 = .ok (.iconst (-1), 1) := by decide +kernel
theorem dX9_goes_25 : decode cX9_goes 25 = .ok (.iastore, 1) := by decide +kernel
theorem dX9_goes_26 : decode cX9_goes 26 = .ok (.aload_n 0, 1) := by decide +kernel
theorem dX9_goes_27 : decode cX9_goes 27 = .ok (.getfield 32, 3) := by decide +kernel
theorem dX9_goes_30 : decode cX9_goes 30 = .ok (.iload_n 3, 1) := by decide +kernel
theorem dX9_goes_31 : decode cX9_goes 31 = .ok (.iconst (-1), 1) := by decide +kernel
theorem dX9_goes_32 : decode cX9_goes 32 = .ok (.iastore, 1) := by decide +kernel
theorem dX9_goes_33 : decode cX9_goes 33 = .ok (.aload_n 0, 1) := by decide +kernel
theorem dX9_goes_34 : decode cX9_goes 34 = .ok (.getfield 35, 3) := by decide +kernel
theorem dX9_goes_37 : decode cX9_goes 37 = .ok (.iload_n 3, 1) := by decide +kernel
theorem dX9_goes_38 : decode cX9_goes 38 = .ok (.iconst (-1), 1) := by decide +kernel
theorem dX9_goes_39 : decode cX9_goes 39 = .ok (.iastore, 1) := by decide +kernel
theorem dX9_goes_40 : decode cX9_goes 40 = .ok (.iinc 3 1, 3) := by decide +kernel
theorem dX9_goes_43 : decode cX9_goes 43 = .ok (.goto (-41), 3) := by decide +kernel
theorem dX9_goes_46 : decode cX9_goes 46 = .ok (.iconst (-1), 1) := by decide +kernel
theorem dX9_goes_47 : decode cX9_goes 47 = .ok (.istore_n 3, 1) := by decide +kernel
theorem dX9_goes_48 : decode cX9_goes 48 = .ok (.iconst (-1), 1) := by decide +kernel
theorem dX9_goes_49 : decode cX9_goes 49 = .ok (.istore 4, 2) := by decide +kernel
theorem dX9_goes_51 : decode cX9_goes 51 = .ok (.iconst 0, 1) := by decide +kernel
theorem dX9_goes_52 : decode cX9_goes 52 = .ok (.istore 5, 2) := by decide +kernel
theorem dX9_goes_54 : decode cX9_goes 54 = .ok (.iload 5, 2) := by decide +kernel
theorem dX9_goes_56 : decode cX9_goes 56 = .ok (.sipush 200, 3) := by decide +kernel
theorem dX9_goes_59 : decode cX9_goes 59 = .ok (.if_icmp .ge 257, 3) := by decide +kernel
theorem dX9_goes_62 : decode cX9_goes 62 = .ok (.iload 4, 2) := by decide +kernel
theorem dX9_goes_64 : decode cX9_goes 64 = .ok (.iconst (-1), 1) := by decide +kernel
theorem dX9_goes_65 : decode cX9_goes 65 = .ok (.if_icmp .eq 39, 3) := by decide +kernel
theorem dX9_goes_68 : decode cX9_goes 68 = .ok (.iload 5, 2) := by decide +kernel
theorem dX9_goes_70 : decode cX9_goes 70 = .ok (.aload_n 0, 1) := by decide +kernel
theorem dX9_goes_71 : decode cX9_goes 71 = .ok (.getfield 38, 3) := by decide +kernel
theorem dX9_goes_74 : decode cX9_goes 74 = .ok (.iload 4, 2) := by decide +kernel
theorem dX9_goes_76 : decode cX9_goes 76 = .ok (.iaload, 1) := by decide +kernel
theorem dX9_goes_77 : decode cX9_goes 77 = .ok (.if_icmp .lt 27, 3) := by decide +kernel
theorem dX9_goes_80 : decode cX9_goes 80 = .ok (.aload_n 0, 1) := by decide +kernel
theorem dX9_goes_81 : decode cX9_goes 81 = .ok (.getfield 32, 3) := by decide +kernel
theorem dX9_goes_84 : decode cX9_goes 84 = .ok (.iload 4, 2) := by decide +kernel
theorem dX9_goes_86 : decode cX9_goes 86 = .ok (.iload 5, 2) := by decide +kernel
theorem dX9_goes_88 : decode cX9_goes 88 = .ok (.iastore, 1) := by decide +kernel
theorem dX9_goes_89 : decode cX9_goes 89 = .ok (.iload_n 3, 1) := by decide +kernel
theorem dX9_goes_90 : decode cX9_goes 90 = .ok (.iload 4, 2) := by decide +kernel
theorem dX9_goes_92 : decode cX9_goes 92 = .ok (.if_icmp .ne 7, 3) := by decide +kernel
theorem dX9_goes_95 : decode cX9_goes 95 = .ok (.iconst (-1), 1) := by decide +kernel
theorem dX9_goes_96 : decode cX9_goes 96 = .ok (.goto 4, 3) := by decide +kernel
theorem dX9_goes_99 : decode cX9_goes 99 = .ok (.iload_n 3, 1) := by decide +kernel
theorem dX9_goes_100 : decode cX9_goes 100 = .ok (.istore_n 3, 1) := by decide +kernel
theorem dX9_goes_101 : decode cX9_goes 101 = .ok (.iconst (-1), 1) := by decide +kernel
theorem dX9_goes_102 : decode cX9_goes 102 = .ok (.istore 4, 2) := by decide +kernel
theorem dX9_goes_104 : decode cX9_goes 104 = .ok (.iload_n 3, 1) := by decide +kernel
theorem dX9_goes_105 : decode cX9_goes 105 = .ok (.iconst (-1), 1) := by decide +kernel
theorem dX9_goes_106 : decode cX9_goes 106 = .ok (.if_icmp .eq 30, 3) := by decide +kernel
theorem dX9_goes_109 : decode cX9_goes 109 = .ok (.iload 4, 2) := by decide +kernel
theorem dX9_goes_111 : decode cX9_goes 111 = .ok (.iconst (-1), 1) := by decide +kernel
theorem dX9_goes_112 : decode cX9_goes 112 = .ok (.if_icmp .ne 24, 3) := by decide +kernel
theorem dX9_goes_115 : decode cX9_goes 115 = .ok (.iload 5, 2) := by decide +kernel
theorem dX9_goes_117 : decode cX9_goes 117 = .ok (.aload_n 0, 1) := by decide +kernel
theorem dX9_goes_118 : decode cX9_goes 118 = .ok (.getfield 38, 3) := by decide +kernel
theorem dX9_goes_121 : decode cX9_goes 121 = .ok (.iload_n 3, 1) := by decide +kernel
theorem dX9_goes_122 : decode cX9_goes 122 = .ok (.iaload, 1) := by decide +kernel
theorem dX9_goes_123 : decode cX9_goes 123 = .ok (.if_icmp .lt 13, 3) := by decide +kernel
theorem dX9_goes_126 : decode cX9_goes 126 = .ok (.aload_n 0, 1) := by decide +kernel
theorem dX9_goes_127 : decode cX9_goes 127 = .ok (.getfield 32, 3) := by decide +kernel
theorem dX9_goes_130 : decode cX9_goes 130 = .ok (.iload_n 3, 1) := by decide +kernel
theorem dX9_goes_131 : decode cX9_goes 131 = .ok (.iload 5, 2) := by decide +kernel
theorem dX9_goes_133 : decode cX9_goes 133 = .ok (.iastore, 1) := by decide +kernel
theorem dX9_goes_134 : decode cX9_goes 134 = .ok (.iconst (-1), 1) := by decide +kernel
theorem dX9_goes_135 : decode cX9_goes 135 = .ok (.istore_n 3, 1) := by decide +kernel
theorem dX9_goes_136 : decode cX9_goes 136 = .ok (.iload_n 3, 1) := by decide +kernel
theorem dX9_goes_137 : decode cX9_goes 137 = .ok (.iconst (-1), 1) := by decide +kernel
theorem dX9_goes_138 : decode cX9_goes 138 = .ok (.if_icmp .ne 14, 3) := by decide +kernel
theorem dX9_goes_141 : decode cX9_goes 141 = .ok (.aload_n 0, 1) := by decide +kernel
theorem dX9_goes_142 : decode cX9_goes 142 = .ok (.iload_n 1, 1) := by decide +kernel
theorem dX9_goes_143 : decode cX9_goes 143 = .ok (.iload_n 2, 1) := by decide +kernel
theorem dX9_goes_144 : decode cX9_goes 144 = .ok (.iload 5, 2) := by decide +kernel
theorem dX9_goes_146 : decode cX9_goes 146 = .ok (.invokevirtual 253, 3) := by decide +kernel
theorem dX9_goes_149 : decode cX9_goes 149 = .ok (.goto 4, 3) := by decide +kernel
theorem dX9_goes_152 : decode cX9_goes 152 = .ok (.iconst (-1), 1) := by decide +kernel
theorem dX9_goes_153 : decode cX9_goes 153 = .ok (.istore 6, 2) := by decide +kernel
theorem dX9_goes_155 : decode cX9_goes 155 = .ok (.iload 6, 2) := by decide +kernel
theorem dX9_goes_157 : decode cX9_goes 157 = .ok (.iconst (-1), 1) := by decide +kernel
theorem dX9_goes_158 : decode cX9_goes 158 = .ok (.if_icmp .eq 123, 3) := by decide +kernel
theorem dX9_goes_161 : decode cX9_goes 161 = .ok (.iload 4, 2) := by decide +kernel
theorem dX9_goes_163 : decode cX9_goes 163 = .ok (.iconst (-1), 1) := by decide +kernel
theorem dX9_goes_164 : decode cX9_goes 164 = .ok (.if_icmp .ne 7, 3) := by decide +kernel
theorem dX9_goes_167 : decode cX9_goes 167 = .ok (.iconst 0, 1) := by decide +kernel
theorem dX9_goes_168 : decode cX9_goes 168 = .ok (.goto 4, 3) := by decide +kernel
theorem dX9_goes_171 : decode cX9_goes 171 = .ok (.iconst 1, 1) := by decide +kernel
theorem dX9_goes_172 : decode cX9_goes 172 = .ok (.istore 7, 2) := by decide +kernel
theorem dX9_goes_174 : decode cX9_goes 174 = .ok (.aload_n 0, 1) := by decide +kernel
theorem dX9_goes_175 : decode cX9_goes 175 = .ok (.iload 6, 2) := by decide +kernel
theorem dX9_goes_177 : decode cX9_goes 177 = .ok (.invokevirtual 114, 3) := by decide +kernel
theorem dX9_goes_180 : decode cX9_goes 180 = .ok (.ifCond .eq 33, 3) := by decide +kernel
theorem dX9_goes_183 : decode cX9_goes 183 = .ok (.iload 4, 2) := by decide +kernel
theorem dX9_goes_185 : decode cX9_goes 185 = .ok (.iconst (-1), 1) := by decide +kernel
theorem dX9_goes_186 : decode cX9_goes 186 = .ok (.if_icmp .ne 21, 3) := by decide +kernel
theorem dX9_goes_189 : decode cX9_goes 189 = .ok (.aload_n 0, 1) := by decide +kernel
theorem dX9_goes_190 : decode cX9_goes 190 = .ok (.iload 6, 2) := by decide +kernel
theorem dX9_goes_192 : decode cX9_goes 192 = .ok (.iload_n 1, 1) := by decide +kernel
theorem dX9_goes_193 : decode cX9_goes 193 = .ok (.iload 5, 2) := by decide +kernel
theorem dX9_goes_195 : decode cX9_goes 195 = .ok (.iconst 0, 1) := by decide +kernel
theorem dX9_goes_196 : decode cX9_goes 196 = .ok (.iconst 2, 1) := by decide +kernel
theorem dX9_goes_197 : decode cX9_goes 197 = .ok (.invokevirtual 256, 3) := by decide +kernel
theorem dX9_goes_200 : decode cX9_goes 200 = .ok (.iload 6, 2) := by decide +kernel
theorem dX9_goes_202 : decode cX9_goes 202 = .ok (.istore 4, 2) := by decide +kernel
theorem dX9_goes_204 : decode cX9_goes 204 = .ok (.iload 6, 2) := by decide +kernel
theorem dX9_goes_206 : decode cX9_goes 206 = .ok (.istore_n 3, 1) := by decide +kernel
theorem dX9_goes_207 : decode cX9_goes 207 = .ok (.iconst (-1), 1) := by decide +kernel
theorem dX9_goes_208 : decode cX9_goes 208 = .ok (.istore 6, 2) := by decide +kernel
theorem dX9_goes_210 : decode cX9_goes 210 = .ok (.goto 68, 3) := by decide +kernel
theorem dX9_goes_213 : decode cX9_goes 213 = .ok (.iload 4, 2) := by decide +kernel
theorem dX9_goes_215 : decode cX9_goes 215 = .ok (.iconst (-1), 1) := by decide +kernel
theorem dX9_goes_216 : decode cX9_goes 216 = .ok (.if_icmp .ne 44, 3) := by decide +kernel
theorem dX9_goes_219 : decode cX9_goes 219 = .ok (.aload_n 0, 1) := by decide +kernel
theorem dX9_goes_220 : decode cX9_goes 220 = .ok (.iload 6, 2) := by decide +kernel
theorem dX9_goes_222 : decode cX9_goes 222 = .ok (.iload_n 1, 1) := by decide +kernel
theorem dX9_goes_223 : decode cX9_goes 223 = .ok (.iload 5, 2) := by decide +kernel
theorem dX9_goes_225 : decode cX9_goes 225 = .ok (.iconst 0, 1) := by decide +kernel
theorem dX9_goes_226 : decode cX9_goes 226 = .ok (.invokevirtual 117, 3) := by decide +kernel
theorem dX9_goes_229 : decode cX9_goes 229 = .ok (.ifCond .eq 31, 3) := by decide +kernel
theorem dX9_goes_232 : decode cX9_goes 232 = .ok (.aload_n 0, 1) := by decide +kernel
theorem dX9_goes_233 : decode cX9_goes 233 = .ok (.iload 6, 2) := by decide +kernel
theorem dX9_goes_235 : decode cX9_goes 235 = .ok (.iload_n 1, 1) := by decide +kernel
theorem dX9_goes_236 : decode cX9_goes 236 = .ok (.iload 5, 2) := by decide +kernel
theorem dX9_goes_238 : decode cX9_goes 238 = .ok (.iconst 0, 1) := by decide +kernel
theorem dX9_goes_239 : decode cX9_goes 239 = .ok (.iconst 1, 1) := by decide +kernel
theorem dX9_goes_240 : decode cX9_goes 240 = .ok (.invokevirtual 256, 3) := by decide +kernel
theorem dX9_goes_243 : decode cX9_goes 243 = .ok (.iload 6, 2) := by decide +kernel
theorem dX9_goes_245 : decode cX9_goes 245 = .ok (.istore 4, 2) := by decide +kernel
theorem dX9_goes_247 : decode cX9_goes 247 = .ok (.aload_n 0, 1) := by decide +kernel
theorem dX9_goes_248 : decode cX9_goes 248 = .ok (.iload_n 1, 1) := by decide +kernel
theorem dX9_goes_249 : decode cX9_goes 249 = .ok (.iload_n 2, 1) := by decide +kernel
theorem dX9_goes_250 : decode cX9_goes 250 = .ok (.iload 5, 2) := by decide +kernel
theorem dX9_goes_252 : decode cX9_goes 252 = .ok (.invokevirtual 253, 3) := by decide +kernel
theorem dX9_goes_255 : decode cX9_goes 255 = .ok (.istore 6, 2) := by decide +kernel
theorem dX9_goes_257 : decode cX9_goes 257 = .ok (.goto 21, 3) := by decide +kernel
theorem dX9_goes_260 : decode cX9_goes 260 = .ok (.aload_n 0, 1) := by decide +kernel
theorem dX9_goes_261 : decode cX9_goes 261 = .ok (.iload 6, 2) := by decide +kernel
theorem dX9_goes_263 : decode cX9_goes 263 = .ok (.iload_n 1, 1) := by decide +kernel
theorem dX9_goes_264 : decode cX9_goes 264 = .ok (.iload 5, 2) := by decide +kernel
theorem dX9_goes_266 : decode cX9_goes 266 = .ok (.iload 7, 2) := by decide +kernel
theorem dX9_goes_268 : decode cX9_goes 268 = .ok (.iconst 0, 1) := by decide +kernel
theorem dX9_goes_269 : decode cX9_goes 269 = .ok (.invokevirtual 256, 3) := by decide +kernel
theorem dX9_goes_272 : decode cX9_goes 272 = .ok (.iload 6, 2) := by decide +kernel
theorem dX9_goes_274 : decode cX9_goes 274 = .ok (.istore_n 3, 1) := by decide +kernel
theorem dX9_goes_275 : decode cX9_goes 275 = .ok (.iconst (-1), 1) := by decide +kernel
theorem dX9_goes_276 : decode cX9_goes 276 = .ok (.istore 6, 2) := by decide +kernel
theorem dX9_goes_278 : decode cX9_goes 278 = .ok (.goto (-123), 3) := by decide +kernel
theorem dX9_goes_281 : decode cX9_goes 281 = .ok (.aload_n 0, 1) := by decide +kernel
theorem dX9_goes_282 : decode cX9_goes 282 = .ok (.getfield 41, 3) := by decide +kernel
theorem dX9_goes_285 : decode cX9_goes 285 = .ok (.sipush 200, 3) := by decide +kernel
theorem dX9_goes_288 : decode cX9_goes 288 = .ok (.iload_n 1, 1) := by decide +kernel
theorem dX9_goes_289 : decode cX9_goes 289 = .ok (.imul, 1) := by decide +kernel
theorem dX9_goes_290 : decode cX9_goes 290 = .ok (.iload 5, 2) := by decide +kernel
theorem dX9_goes_292 : decode cX9_goes 292 = .ok (.iadd, 1) := by decide +kernel
theorem dX9_goes_293 : decode cX9_goes 293 = .ok (.iload_n 3, 1) := by decide +kernel
theorem dX9_goes_294 : decode cX9_goes 294 = .ok (.iastore, 1) := by decide +kernel
theorem dX9_goes_295 : decode cX9_goes 295 = .ok (.aload_n 0, 1) := by decide +kernel
theorem dX9_goes_296 : decode cX9_goes 296 = .ok (.getfield 44, 3) := by decide +kernel
theorem dX9_goes_299 : decode cX9_goes 299 = .ok (.sipush 200, 3) := by decide +kernel
theorem dX9_goes_302 : decode cX9_goes 302 = .ok (.iload_n 1, 1) := by decide +kernel
theorem dX9_goes_303 : decode cX9_goes 303 = .ok (.imul, 1) := by decide +kernel
theorem dX9_goes_304 : decode cX9_goes 304 = .ok (.iload 5, 2) := by decide +kernel
theorem dX9_goes_306 : decode cX9_goes 306 = .ok (.iadd, 1) := by decide +kernel
theorem dX9_goes_307 : decode cX9_goes 307 = .ok (.iload 4, 2) := by decide +kernel
theorem dX9_goes_309 : decode cX9_goes 309 = .ok (.iastore, 1) := by decide +kernel
theorem dX9_goes_310 : decode cX9_goes 310 = .ok (.iinc 5 1, 3) := by decide +kernel
theorem dX9_goes_313 : decode cX9_goes 313 = .ok (.goto (-259), 3) := by decide +kernel
theorem dX9_goes_316 : decode cX9_goes 316 = .ok (.return_, 1) := by decide +kernel
theorem qX9_goes (d : Nat) (x1 : Int) (x2 : Int) (s : Sg) : RUN d mX9_goes [vr 32 0, vi x1, vi x2] s = EV d mX9_goes (2, [vr 32 0, vi x1, vi x2, vi 0, UU, UU, UU, UU], [], s) := x_run rfl (x_st 1 dX9_goes_0 rfl (x_so 2 [vr 32 0, vi x1, vi x2, vi 0, UU, UU, UU, UU] dX9_goes_1 rfl (rfl)))
theorem qX9_goes_2 (d : Nat) (x1 : Int) (x2 : Int) (x3 : Int) (z4 : PV) (z5 : PV) (z6 : PV) (z7 : PV) (s : Sg) : EV d mX9_goes (2, [vr 32 0, vi x1, vi x2, vi x3, z4, z5, z6, z7], [], s) = if x3 < (s 32 0 9) then (if (wand (wshr x2 x3) 1) = 1 then (if inb x3 6 then (if inb x3 6 then (if inb x3 6 then (EV d mX9_goes (40, [vr 32 0, vi x1, vi x2, vi x3, z4, z5, z6, z7], [], (up (up (up s 38 0 (Int.toNat x3) (-1)) 39 0 (Int.toNat x3) (-1)) 40 0 (Int.toNat x3) (-1)))) else none) else none) else none) else (EV d mX9_goes (40, [vr 32 0, vi x1, vi x2, vi x3, z4, z5, z6, z7], [], s))) else (EV d mX9_goes (54, [vr 32 0, vi x1, vi x2, vi (-1), vi (-1), vi 0, z6, z7], [], s)) := x_st 3 dX9_goes_2 rfl (x_st 4 dX9_goes_3 rfl (x_st 7 dX9_goes_4 rfl (x_br dX9_goes_7 (x_if (x_go 10 (x_st 11 dX9_goes_10 rfl (x_st 12 dX9_goes_11 rfl (x_st 13 dX9_goes_12 rfl (x_st 14 dX9_goes_13 rfl (x_st 15 dX9_goes_14 rfl (x_st 16 dX9_goes_15 rfl (x_br dX9_goes_16 (x_if (x_go 19 (x_st 20 dX9_goes_19 rfl (x_st 23 dX9_goes_20 rfl (x_st 24 dX9_goes_23 rfl (x_st 25 dX9_goes_24 rfl (x_br dX9_goes_25 (x_if (x_go 26 (x_st 27 dX9_goes_26 rfl (x_st 30 dX9_goes_27 rfl (x_st 31 dX9_goes_30 rfl (x_st 32 dX9_goes_31 rfl (x_br dX9_goes_32 (x_if (x_go 33 (x_st 34 dX9_goes_33 rfl (x_st 37 dX9_goes_34 rfl (x_st 38 dX9_goes_37 rfl (x_st 39 dX9_goes_38 rfl (x_br dX9_goes_39 (x_if (x_go 40 (rfl)) x_no))))))) x_no))))))) x_no))))))) (x_go 40 (rfl))))))))))) (x_go 46 (x_st 47 dX9_goes_46 rfl (x_so 48 [vr 32 0, vi x1, vi x2, vi (-1), z4, z5, z6, z7] dX9_goes_47 rfl (x_st 49 dX9_goes_48 rfl (x_so 51 [vr 32 0, vi x1, vi x2, vi (-1), vi (-1), z5, z6, z7] dX9_goes_49 rfl (x_st 52 dX9_goes_51 rfl (x_so 54 [vr 32 0, vi x1, vi x2, vi (-1), vi (-1), vi 0, z6, z7] dX9_goes_52 rfl (rfl))))))))))))
theorem qX9_goes_40 (d : Nat) (x1 : Int) (x2 : Int) (x3 : Int) (z4 : PV) (z5 : PV) (z6 : PV) (z7 : PV) (s : Sg) : EV d mX9_goes (40, [vr 32 0, vi x1, vi x2, vi x3, z4, z5, z6, z7], [], s) = EV d mX9_goes (2, [vr 32 0, vi x1, vi x2, vi (w32 (x3 + 1)), z4, z5, z6, z7], [], s) := x_so 43 [vr 32 0, vi x1, vi x2, vi (w32 (x3 + 1)), z4, z5, z6, z7] dX9_goes_40 rfl (x_st 2 dX9_goes_43 rfl (rfl))
theorem qX9_goes_54 (d : Nat) (x1 : Int) (x2 : Int) (x3 : Int) (x4 : Int) (x5 : Int) (z6 : PV) (z7 : PV) (s : Sg) : EV d mX9_goes (54, [vr 32 0, vi x1, vi x2, vi x3, vi x4, vi x5, z6, z7], [], s) = if x5 < 200 then (if x4 = (-1) then (EV d mX9_goes (104, [vr 32 0, vi x1, vi x2, vi x3, vi x4, vi x5, z6, z7], [], s)) else (if inb x4 6 then (if x5 < (s 41 0 (Int.toNat x4)) then (EV d mX9_goes (104, [vr 32 0, vi x1, vi x2, vi x3, vi x4, vi x5, z6, z7], [], s)) else (if inb x4 6 then (if x3 = x4 then (EV d mX9_goes (100, [vr 32 0, vi x1, vi x2, vi x3, vi x4, vi x5, z6, z7], [vi (-1)], (up s 39 0 (Int.toNat x4) x5))) else (EV d mX9_goes (100, [vr 32 0, vi x1, vi x2, vi x3, vi x4, vi x5, z6, z7], [vi x3], (up s 39 0 (Int.toNat x4) x5)))) else none)) else none)) else (some (none, s)) := x_st 56 dX9_goes_54 rfl (x_st 59 dX9_goes_56 rfl (x_br dX9_goes_59 (x_if (x_go 62 (x_st 64 dX9_goes_62 rfl (x_st 65 dX9_goes_64 rfl (x_br dX9_goes_65 (x_if (x_go 104 (rfl)) (x_go 68 (x_st 70 dX9_goes_68 rfl (x_st 71 dX9_goes_70 rfl (x_st 74 dX9_goes_71 rfl (x_st 76 dX9_goes_74 rfl (x_br dX9_goes_76 (x_if (x_go 77 (x_br dX9_goes_77 (x_if (x_go 104 (rfl)) (x_go 80 (x_st 81 dX9_goes_80 rfl (x_st 84 dX9_goes_81 rfl (x_st 86 dX9_goes_84 rfl (x_st 88 dX9_goes_86 rfl (x_br dX9_goes_88 (x_if (x_go 89 (x_st 90 dX9_goes_89 rfl (x_st 92 dX9_goes_90 rfl (x_br dX9_goes_92 (x_if (x_go 95 (x_st 96 dX9_goes_95 rfl (x_st 100 dX9_goes_96 rfl (rfl)))) (x_go 99 (x_st 100 dX9_goes_99 rfl (rfl)))))))) x_no)))))))))) x_no)))))))))))) (x_go 316 (x_ret dX9_goes_316 rfl)))))
theorem qX9_goes_104 (d : Nat) (x1 : Int) (x2 : Int) (x3 : Int) (x4 : Int) (x5 : Int) (z6 : PV) (z7 : PV) (s : Sg) : EV d mX9_goes (104, [vr 32 0, vi x1, vi x2, vi x3, vi x4, vi x5, z6, z7], [], s) = if x3 = (-1) then (EV d mX9_goes (136, [vr 32 0, vi x1, vi x2, vi x3, vi x4, vi x5, z6, z7], [], s)) else (if x4 = (-1) then (if inb x3 6 then (if x5 < (s 41 0 (Int.toNat x3)) then (EV d mX9_goes (136, [vr 32 0, vi x1, vi x2, vi x3, vi x4, vi x5, z6, z7], [], s)) else (if inb x3 6 then (EV d mX9_goes (136, [vr 32 0, vi x1, vi x2, vi (-1), vi x4, vi x5, z6, z7], [], (up s 39 0 (Int.toNat x3) x5))) else none)) else none) else (EV d mX9_goes (136, [vr 32 0, vi x1, vi x2, vi x3, vi x4, vi x5, z6, z7], [], s))) := x_st 105 dX9_goes_104 rfl (x_st 106 dX9_goes_105 rfl (x_br dX9_goes_106 (x_if (x_go 136 (rfl)) (x_go 109 (x_st 111 dX9_goes_109 rfl (x_st 112 dX9_goes_111 rfl (x_br dX9_goes_112 (x_if (x_go 115 (x_st 117 dX9_goes_115 rfl (x_st 118 dX9_goes_117 rfl (x_st 121 dX9_goes_118 rfl (x_st 122 dX9_goes_121 rfl (x_br dX9_goes_122 (x_if (x_go 123 (x_br dX9_goes_123 (x_if (x_go 136 (rfl)) (x_go 126 (x_st 127 dX9_goes_126 rfl (x_st 130 dX9_goes_127 rfl (x_st 131 dX9_goes_130 rfl (x_st 133 dX9_goes_131 rfl (x_br dX9_goes_133 (x_if (x_go 134 (x_st 135 dX9_goes_134 rfl (x_so 136 [vr 32 0, vi x1, vi x2, vi (-1), vi x4, vi x5, z6, z7] dX9_goes_135 rfl (rfl)))) x_no)))))))))) x_no))))))) (x_go 136 (rfl))))))))))
theorem qX9_goes_100 (d : Nat) (x1 : Int) (x2 : Int) (z3 : PV) (z4 : PV) (x5 : Int) (z6 : PV) (z7 : PV) (y0 : Int) (s : Sg) : EV d mX9_goes (100, [vr 32 0, vi x1, vi x2, z3, z4, vi x5, z6, z7], [vi y0], s) = EV d mX9_goes (104, [vr 32 0, vi x1, vi x2, vi y0, vi (-1), vi x5, z6, z7], [], s) := x_so 101 [vr 32 0, vi x1, vi x2, vi y0, z4, vi x5, z6, z7] dX9_goes_100 rfl (x_st 102 dX9_goes_101 rfl (x_so 104 [vr 32 0, vi x1, vi x2, vi y0, vi (-1), vi x5, z6, z7] dX9_goes_102 rfl (rfl)))
theorem qX9_goes_136 (d : Nat) (x1 : Int) (x2 : Int) (x3 : Int) (x4 : Int) (x5 : Int) (z6 : PV) (z7 : PV) (s : Sg) : EV (d + 1) mX9_goes (136, [vr 32 0, vi x1, vi x2, vi x3, vi x4, vi x5, z6, z7], [], s) = if x3 = (-1) then (bI (RUN d mX9_nextOf [vr 32 0, vi x1, vi x2, vi x5] s) (fun r1 s1 => EV (d + 1) mX9_goes (153, [vr 32 0, vi x1, vi x2, vi x3, vi x4, vi x5, z6, z7], [vi r1], s1))) else (EV (d + 1) mX9_goes (153, [vr 32 0, vi x1, vi x2, vi x3, vi x4, vi x5, z6, z7], [vi (-1)], s)) := x_st 137 dX9_goes_136 rfl (x_st 138 dX9_goes_137 rfl (x_br dX9_goes_138 (x_if (x_go 141 (x_st 142 dX9_goes_141 rfl (x_st 143 dX9_goes_142 rfl (x_st 144 dX9_goes_143 rfl (x_st 146 dX9_goes_144 rfl (x_ci 149 [vr 32 0, vi x1, vi x2, vi x3, vi x4, vi x5, z6, z7] [] dX9_goes_146 rfl (fun r1 s1 => x_st 153 dX9_goes_149 rfl (rfl)))))))) (x_go 152 (x_st 153 dX9_goes_152 rfl (rfl))))))
theorem qX9_goes_153 (d : Nat) (x1 : Int) (x2 : Int) (x3 : Int) (x4 : Int) (x5 : Int) (z6 : PV) (z7 : PV) (y0 : Int) (s : Sg) : EV d mX9_goes (153, [vr 32 0, vi x1, vi x2, vi x3, vi x4, vi x5, z6, z7], [vi y0], s) = EV d mX9_goes (155, [vr 32 0, vi x1, vi x2, vi x3, vi x4, vi x5, vi y0, z7], [], s) := x_so 155 [vr 32 0, vi x1, vi x2, vi x3, vi x4, vi x5, vi y0, z7] dX9_goes_153 rfl (rfl)
theorem qX9_goes_155 (d : Nat) (x1 : Int) (x2 : Int) (x3 : Int) (x4 : Int) (x5 : Int) (x6 : Int) (z7 : PV) (s : Sg) : EV d mX9_goes (155, [vr 32 0, vi x1, vi x2, vi x3, vi x4, vi x5, vi x6, z7], [], s) = if x6 = (-1) then (if inb (w32 ((w32 (200 * x1)) + x5)) 800 then (if inb (w32 ((w32 (200 * x1)) + x5)) 800 then (EV d mX9_goes (54, [vr 32 0, vi x1, vi x2, vi x3, vi x4, vi (w32 (x5 + 1)), vi x6, z7], [], (up (up s 42 0 (Int.toNat (w32 ((w32 (200 * x1)) + x5))) x3) 43 0 (Int.toNat (w32 ((w32 (200 * x1)) + x5))) x4))) else none) else none) else (if x4 = (-1) then (EV d mX9_goes (172, [vr 32 0, vi x1, vi x2, vi x3, vi x4, vi x5, vi x6, z7], [vi 0], s)) else (EV d mX9_goes (172, [vr 32 0, vi x1, vi x2, vi x3, vi x4, vi x5, vi x6, z7], [vi 1], s))) := x_st 157 dX9_goes_155 rfl (x_st 158 dX9_goes_157 rfl (x_br dX9_goes_158 (x_if (x_go 281 (x_st 282 dX9_goes_281 rfl (x_st 285 dX9_goes_282 rfl (x_st 288 dX9_goes_285 rfl (x_st 289 dX9_goes_288 rfl (x_st 290 dX9_goes_289 rfl (x_st 292 dX9_goes_290 rfl (x_st 293 dX9_goes_292 rfl (x_st 294 dX9_goes_293 rfl (x_br dX9_goes_294 (x_if (x_go 295 (x_st 296 dX9_goes_295 rfl (x_st 299 dX9_goes_296 rfl (x_st 302 dX9_goes_299 rfl (x_st 303 dX9_goes_302 rfl (x_st 304 dX9_goes_303 rfl (x_st 306 dX9_goes_304 rfl (x_st 307 dX9_goes_306 rfl (x_st 309 dX9_goes_307 rfl (x_br dX9_goes_309 (x_if (x_go 310 (x_so 313 [vr 32 0, vi x1, vi x2, vi x3, vi x4, vi (w32 (x5 + 1)), vi x6, z7] dX9_goes_310 rfl (x_st 54 dX9_goes_313 rfl (rfl)))) x_no))))))))))) x_no))))))))))) (x_go 161 (x_st 163 dX9_goes_161 rfl (x_st 164 dX9_goes_163 rfl (x_br dX9_goes_164 (x_if (x_go 167 (x_st 168 dX9_goes_167 rfl (x_st 172 dX9_goes_168 rfl (rfl)))) (x_go 171 (x_st 172 dX9_goes_171 rfl (rfl)))))))))))
theorem qX9_goes_172 (d : Nat) (x1 : Int) (x2 : Int) (x3 : Int) (x4 : Int) (x5 : Int) (x6 : Int) (z7 : PV) (y0 : Int) (s : Sg) : EV (d + 1) mX9_goes (172, [vr 32 0, vi x1, vi x2, vi x3, vi x4, vi x5, vi x6, z7], [vi y0], s) = bI (RUN d mX9_isLong [vr 32 0, vi x6] s) (fun r1 s1 => if r1 = 0 then (if x4 = (-1) then (bI (RUN d mX9_draws [vr 32 0, vi x6, vi x1, vi x5, vi 0] s1) (fun r2 s2 => if r2 = 0 then (EV (d + 1) mX9_goes (260, [vr 32 0, vi x1, vi x2, vi x3, vi x4, vi x5, vi x6, vi y0], [], s2)) else (bV (RUN d mX9_begins [vr 32 0, vi x6, vi x1, vi x5, vi 0, vi 1] s2) (fun s3 => bI (RUN d mX9_nextOf [vr 32 0, vi x1, vi x2, vi x5] s3) (fun r4 s4 => EV (d + 1) mX9_goes (278, [vr 32 0, vi x1, vi x2, vi x3, vi x6, vi x5, vi r4, vi y0], [], s4)))))) else (EV (d + 1) mX9_goes (260, [vr 32 0, vi x1, vi x2, vi x3, vi x4, vi x5, vi x6, vi y0], [], s1))) else (if x4 = (-1) then (bV (RUN d mX9_begins [vr 32 0, vi x6, vi x1, vi x5, vi 0, vi 2] s1) (fun s5 => EV (d + 1) mX9_goes (207, [vr 32 0, vi x1, vi x2, vi x6, vi x6, vi x5, vi x6, vi y0], [], s5))) else (EV (d + 1) mX9_goes (207, [vr 32 0, vi x1, vi x2, vi x3, vi x4, vi x5, vi x6, vi y0], [], s1)))) := x_so 174 [vr 32 0, vi x1, vi x2, vi x3, vi x4, vi x5, vi x6, vi y0] dX9_goes_172 rfl (x_st 175 dX9_goes_174 rfl (x_st 177 dX9_goes_175 rfl (x_ci 180 [vr 32 0, vi x1, vi x2, vi x3, vi x4, vi x5, vi x6, vi y0] [] dX9_goes_177 rfl (fun r1 s1 => x_br dX9_goes_180 (x_if (x_go 213 (x_st 215 dX9_goes_213 rfl (x_st 216 dX9_goes_215 rfl (x_br dX9_goes_216 (x_if (x_go 219 (x_st 220 dX9_goes_219 rfl (x_st 222 dX9_goes_220 rfl (x_st 223 dX9_goes_222 rfl (x_st 225 dX9_goes_223 rfl (x_st 226 dX9_goes_225 rfl (x_ci 229 [vr 32 0, vi x1, vi x2, vi x3, vi x4, vi x5, vi x6, vi y0] [] dX9_goes_226 rfl (fun r2 s2 => x_br dX9_goes_229 (x_if (x_go 260 (rfl)) (x_go 232 (x_st 233 dX9_goes_232 rfl (x_st 235 dX9_goes_233 rfl (x_st 236 dX9_goes_235 rfl (x_st 238 dX9_goes_236 rfl (x_st 239 dX9_goes_238 rfl (x_st 240 dX9_goes_239 rfl (x_cv 243 [vr 32 0, vi x1, vi x2, vi x3, vi x4, vi x5, vi x6, vi y0] [] dX9_goes_240 rfl (fun s3 => x_st 245 dX9_goes_243 rfl (x_so 247 [vr 32 0, vi x1, vi x2, vi x3, vi x6, vi x5, vi x6, vi y0] dX9_goes_245 rfl (x_st 248 dX9_goes_247 rfl (x_st 249 dX9_goes_248 rfl (x_st 250 dX9_goes_249 rfl (x_st 252 dX9_goes_250 rfl (x_ci 255 [vr 32 0, vi x1, vi x2, vi x3, vi x6, vi x5, vi x6, vi y0] [] dX9_goes_252 rfl (fun r4 s4 => x_so 257 [vr 32 0, vi x1, vi x2, vi x3, vi x6, vi x5, vi r4, vi y0] dX9_goes_255 rfl (x_st 278 dX9_goes_257 rfl (rfl))))))))))))))))))))))))))) (x_go 260 (rfl))))))) (x_go 183 (x_st 185 dX9_goes_183 rfl (x_st 186 dX9_goes_185 rfl (x_br dX9_goes_186 (x_if (x_go 189 (x_st 190 dX9_goes_189 rfl (x_st 192 dX9_goes_190 rfl (x_st 193 dX9_goes_192 rfl (x_st 195 dX9_goes_193 rfl (x_st 196 dX9_goes_195 rfl (x_st 197 dX9_goes_196 rfl (x_cv 200 [vr 32 0, vi x1, vi x2, vi x3, vi x4, vi x5, vi x6, vi y0] [] dX9_goes_197 rfl (fun s5 => x_st 202 dX9_goes_200 rfl (x_so 204 [vr 32 0, vi x1, vi x2, vi x3, vi x6, vi x5, vi x6, vi y0] dX9_goes_202 rfl (x_st 206 dX9_goes_204 rfl (x_so 207 [vr 32 0, vi x1, vi x2, vi x6, vi x6, vi x5, vi x6, vi y0] dX9_goes_206 rfl (rfl))))))))))))) (x_go 207 (rfl))))))))))))
theorem qX9_goes_260 (d : Nat) (x1 : Int) (x2 : Int) (z3 : PV) (x4 : Int) (x5 : Int) (x6 : Int) (x7 : Int) (s : Sg) : EV (d + 1) mX9_goes (260, [vr 32 0, vi x1, vi x2, z3, vi x4, vi x5, vi x6, vi x7], [], s) = bV (RUN d mX9_begins [vr 32 0, vi x6, vi x1, vi x5, vi x7, vi 0] s) (fun s1 => EV (d + 1) mX9_goes (278, [vr 32 0, vi x1, vi x2, vi x6, vi x4, vi x5, vi (-1), vi x7], [], s1)) := x_st 261 dX9_goes_260 rfl (x_st 263 dX9_goes_261 rfl (x_st 264 dX9_goes_263 rfl (x_st 266 dX9_goes_264 rfl (x_st 268 dX9_goes_266 rfl (x_st 269 dX9_goes_268 rfl (x_cv 272 [vr 32 0, vi x1, vi x2, z3, vi x4, vi x5, vi x6, vi x7] [] dX9_goes_269 rfl (fun s1 => x_st 274 dX9_goes_272 rfl (x_so 275 [vr 32 0, vi x1, vi x2, vi x6, vi x4, vi x5, vi x6, vi x7] dX9_goes_274 rfl (x_st 276 dX9_goes_275 rfl (x_so 278 [vr 32 0, vi x1, vi x2, vi x6, vi x4, vi x5, vi (-1), vi x7] dX9_goes_276 rfl (rfl)))))))))))
theorem qX9_goes_278 (d : Nat) (x1 : Int) (x2 : Int) (x3 : Int) (x4 : Int) (x5 : Int) (x6 : Int) (z7 : PV) (s : Sg) : EV d mX9_goes (278, [vr 32 0, vi x1, vi x2, vi x3, vi x4, vi x5, vi x6, z7], [], s) = EV d mX9_goes (155, [vr 32 0, vi x1, vi x2, vi x3, vi x4, vi x5, vi x6, z7], [], s) := x_st 155 dX9_goes_278 rfl (rfl)
theorem qX9_goes_207 (d : Nat) (x1 : Int) (x2 : Int) (x3 : Int) (x4 : Int) (x5 : Int) (z6 : PV) (z7 : PV) (s : Sg) : EV d mX9_goes (207, [vr 32 0, vi x1, vi x2, vi x3, vi x4, vi x5, z6, z7], [], s) = EV d mX9_goes (278, [vr 32 0, vi x1, vi x2, vi x3, vi x4, vi x5, vi (-1), z7], [], s) := x_st 208 dX9_goes_207 rfl (x_so 210 [vr 32 0, vi x1, vi x2, vi x3, vi x4, vi x5, vi (-1), z7] dX9_goes_208 rfl (x_st 278 dX9_goes_210 rfl (rfl)))
theorem dX9_seeks_0 : decode cX9_seeks 0 = .ok (.iload_n 1, 1) := by decide +kernel
theorem dX9_seeks_1 : decode cX9_seeks 1 = .ok (.aload_n 0, 1) := by decide +kernel
theorem dX9_seeks_2 : decode cX9_seeks 2 = .ok (.getfield 82, 3) := by decide +kernel
theorem dX9_seeks_5 : decode cX9_seeks 5 = .ok (.if_icmp .ne 67, 3) := by decide +kernel
theorem dX9_seeks_8 : decode cX9_seeks 8 = .ok (.iconst 0, 1) := by decide +kernel
theorem dX9_seeks_9 : decode cX9_seeks 9 = .ok (.istore_n 3, 1) := by decide +kernel
theorem dX9_seeks_10 : decode cX9_seeks 10 = .ok (.iconst 0, 1) := by decide +kernel
theorem dX9_seeks_11 : decode cX9_seeks 11 = .ok (.istore 4, 2) := by decide +kernel
theorem dX9_seeks_13 : decode cX9_seeks 13 = .ok (.iload 4, 2) := by decide +kernel
theorem dX9_seeks_15 : decode cX9_seeks 15 = .ok (.iconst 4, 1) := by decide +kernel
theorem dX9_seeks_16 : decode cX9_seeks 16 = .ok (.if_icmp .ge 30, 3) := by decide +kernel
theorem dX9_seeks_19 : decode cX9_seeks 19 = .ok (.iload_n 3, 1) := by decide +kernel
theorem dX9_seeks_20 : decode cX9_seeks 20 = .ok (.aload_n 0, 1) := by decide +kernel
theorem dX9_seeks_21 : decode cX9_seeks 21 = .ok (.getfield 47, 3) := by decide +kernel
theorem dX9_seeks_24 : decode cX9_seeks 24 = .ok (.bipush 64, 2) := by decide +kernel
theorem dX9_seeks_26 : decode cX9_seeks 26 = .ok (.iload 4, 2) := by decide +kernel
theorem dX9_seeks_28 : decode cX9_seeks 28 = .ok (.imul, 1) := by decide +kernel
theorem dX9_seeks_29 : decode cX9_seeks 29 = .ok (.aload_n 0, 1) := by decide +kernel
theorem dX9_seeks_30 : decode cX9_seeks 30 = .ok (.getfield 50, 3) := by decide +kernel
theorem dX9_seeks_33 : decode cX9_seeks 33 = .ok (.iload 4, 2) := by decide +kernel
theorem dX9_seeks_35 : decode cX9_seeks 35 = .ok (.iaload, 1) := by decide +kernel
theorem dX9_seeks_36 : decode cX9_seeks 36 = .ok (.iadd, 1) := by decide +kernel
theorem dX9_seeks_37 : decode cX9_seeks 37 = .ok (.iaload, 1) := by decide +kernel
theorem dX9_seeks_38 : decode cX9_seeks 38 = .ok (.iadd, 1) := by decide +kernel
theorem dX9_seeks_39 : decode cX9_seeks 39 = .ok (.istore_n 3, 1) := by decide +kernel
theorem dX9_seeks_40 : decode cX9_seeks 40 = .ok (.iinc 4 1, 3) := by decide +kernel
theorem dX9_seeks_43 : decode cX9_seeks 43 = .ok (.goto (-30), 3) := by decide +kernel
theorem dX9_seeks_46 : decode cX9_seeks 46 = .ok (.aload_n 0, 1) := by decide +kernel
theorem dX9_seeks_47 : decode cX9_seeks 47 = .ok (.getfield 287, 3) := by decide +kernel
theorem dX9_seeks_50 : decode cX9_seeks 50 = .ok (.ifCond .eq 11, 3) := by decide +kernel
theorem dX9_seeks_53 : decode cX9_seeks 53 = .ok (.iload_n 3, 1) := by decide +kernel
theorem dX9_seeks_54 : decode cX9_seeks 54 = .ok (.aload_n 0, 1) := by decide +kernel
theorem dX9_seeks_55 : decode cX9_seeks 55 = .ok (.getfield 290, 3) := by decide +kernel
theorem dX9_seeks_58 : decode cX9_seeks 58 = .ok (.if_icmp .ge 13, 3) := by decide +kernel
theorem dX9_seeks_61 : decode cX9_seeks 61 = .ok (.aload_n 0, 1) := by decide +kernel
theorem dX9_seeks_62 : decode cX9_seeks 62 = .ok (.iload_n 2, 1) := by decide +kernel
theorem dX9_seeks_63 : decode cX9_seeks 63 = .ok (.putfield 287, 3) := by decide +kernel
theorem dX9_seeks_66 : decode cX9_seeks 66 = .ok (.aload_n 0, 1) := by decide +kernel
theorem dX9_seeks_67 : decode cX9_seeks 67 = .ok (.iload_n 3, 1) := by decide +kernel
theorem dX9_seeks_68 : decode cX9_seeks 68 = .ok (.putfield 290, 3) := by decide +kernel
theorem dX9_seeks_71 : decode cX9_seeks 71 = .ok (.return_, 1) := by decide +kernel
theorem dX9_seeks_72 : decode cX9_seeks 72 = .ok (.iconst 0, 1) := by decide +kernel
theorem dX9_seeks_73 : decode cX9_seeks 73 = .ok (.istore_n 3, 1) := by decide +kernel
theorem dX9_seeks_74 : decode cX9_seeks 74 = .ok (.iload_n 3, 1) := by decide +kernel
theorem dX9_seeks_75 : decode cX9_seeks 75 = .ok (.iconst 4, 1) := by decide +kernel
theorem dX9_seeks_76 : decode cX9_seeks 76 = .ok (.if_icmp .ge 50, 3) := by decide +kernel
theorem dX9_seeks_79 : decode cX9_seeks 79 = .ok (.aload_n 0, 1) := by decide +kernel
theorem dX9_seeks_80 : decode cX9_seeks 80 = .ok (.getfield 50, 3) := by decide +kernel
theorem dX9_seeks_83 : decode cX9_seeks 83 = .ok (.iload_n 3, 1) := by decide +kernel
theorem dX9_seeks_84 : decode cX9_seeks 84 = .ok (.dup2, 1) := by decide +kernel
theorem dX9_seeks_85 : decode cX9_seeks 85 = .ok (.iaload, 1) := by decide +kernel
theorem dX9_seeks_86 : decode cX9_seeks 86 = .ok (.iconst 1, 1) := by decide +kernel
theorem dX9_seeks_87 : decode cX9_seeks 87 = .ok (.iload_n 1, 1) := by decide +kernel
theorem dX9_seeks_88 : decode cX9_seeks 88 = .ok (.ishl, 1) := by decide +kernel
theorem dX9_seeks_89 : decode cX9_seeks 89 = .ok (.ior, 1) := by decide +kernel
theorem dX9_seeks_90 : decode cX9_seeks 90 = .ok (.iastore, 1) := by decide +kernel
theorem dX9_seeks_91 : decode cX9_seeks 91 = .ok (.aload_n 0, 1) := by decide +kernel
theorem dX9_seeks_92 : decode cX9_seeks 92 = .ok (.iload_n 1, 1) := by decide +kernel
theorem dX9_seeks_93 : decode cX9_seeks 93 = .ok (.iconst 1, 1) := by decide +kernel
theorem dX9_seeks_94 : decode cX9_seeks 94 = .ok (.iadd, 1) := by decide +kernel
theorem dX9_seeks_95 : decode cX9_seeks 95 = .ok (.bipush 10, 2) := by decide +kernel
theorem dX9_seeks_97 : decode cX9_seeks 97 = .ok (.iload_n 2, 1) := by decide +kernel
theorem dX9_seeks_98 : decode cX9_seeks 98 = .ok (.imul, 1) := by decide +kernel
theorem dX9_seeks_99 : decode cX9_seeks 99 = .ok (.iload_n 3, 1) := by decide +kernel
theorem dX9_seeks_100 : decode cX9_seeks 100 = .ok (.iadd, 1) := by decide +kernel
theorem dX9_seeks_101 : decode cX9_seeks 101 = .ok (.iconst 1, 1) := by decide +kernel
theorem dX9_seeks_102 : decode cX9_seeks 102 = .ok (.iadd, 1) := by decide +kernel
theorem dX9_seeks_103 : decode cX9_seeks 103 = .ok (.invokevirtual 293, 3) := by decide +kernel
theorem dX9_seeks_106 : decode cX9_seeks 106 = .ok (.aload_n 0, 1) := by decide +kernel
theorem dX9_seeks_107 : decode cX9_seeks 107 = .ok (.getfield 50, 3) := by decide +kernel
theorem dX9_seeks_110 : decode cX9_seeks 110 = .ok (.iload_n 3, 1) := by decide +kernel
theorem dX9_seeks_111 : decode cX9_seeks 111 = .ok (.dup2, 1) := by decide +kernel
theorem dX9_seeks_112 : decode cX9_seeks 112 = .ok (.iaload, 1) := by decide +kernel
theorem dX9_seeks_113 : decode cX9_seeks 113 = .ok (.iconst 1, 1) := by decide +kernel
theorem dX9_seeks_114 : decode cX9_seeks 114 = .ok (.iload_n 1, 1) := by decide +kernel
theorem dX9_seeks_115 : decode cX9_seeks 115 = .ok (.ishl, 1) := by decide +kernel
theorem dX9_seeks_116 : decode cX9_seeks 116 = .ok (.iconst (-1), 1) := by decide +kernel
theorem dX9_seeks_117 : decode cX9_seeks 117 = .ok (.ixor, 1) := by decide +kernel
theorem dX9_seeks_118 : decode cX9_seeks 118 = .ok (.iand, 1) := by decide +kernel
theorem dX9_seeks_119 : decode cX9_seeks 119 = .ok (.iastore, 1) := by decide +kernel
theorem dX9_seeks_120 : decode cX9_seeks 120 = .ok (.iinc 3 1, 3) := by decide +kernel
theorem dX9_seeks_123 : decode cX9_seeks 123 = .ok (.goto (-49), 3) := by decide +kernel
theorem dX9_seeks_126 : decode cX9_seeks 126 = .ok (.return_, 1) := by decide +kernel
theorem qX9_seeks (d : Nat) (x1 : Int) (x2 : Int) (s : Sg) : RUN d mX9_seeks [vr 32 0, vi x1, vi x2] s = if x1 = (s 32 0 9) then (EV d mX9_seeks (13, [vr 32 0, vi x1, vi x2, vi 0, vi 0], [], s)) else (EV d mX9_seeks (74, [vr 32 0, vi x1, vi x2, vi 0, UU], [], s)) := x_run rfl (x_st 1 dX9_seeks_0 rfl (x_st 2 dX9_seeks_1 rfl (x_st 5 dX9_seeks_2 rfl (x_br dX9_seeks_5 (x_if (x_go 8 (x_st 9 dX9_seeks_8 rfl (x_so 10 [vr 32 0, vi x1, vi x2, vi 0, UU] dX9_seeks_9 rfl (x_st 11 dX9_seeks_10 rfl (x_so 13 [vr 32 0, vi x1, vi x2, vi 0, vi 0] dX9_seeks_11 rfl (rfl)))))) (x_go 72 (x_st 73 dX9_seeks_72 rfl (x_so 74 [vr 32 0, vi x1, vi x2, vi 0, UU] dX9_seeks_73 rfl (rfl)))))))))
theorem qX9_seeks_13 (d : Nat) (z1 : PV) (x2 : Int) (x3 : Int) (x4 : Int) (s : Sg) : EV d mX9_seeks (13, [vr 32 0, z1, vi x2, vi x3, vi x4], [], s) = if x4 < 4 then (if inb x4 4 then (if inb (w32 ((w32 (64 * x4)) + (s 45 0 (Int.toNat x4)))) 256 then (EV d mX9_seeks (13, [vr 32 0, z1, vi x2, vi (w32 (x3 + (s 44 0 (Int.toNat (w32 ((w32 (64 * x4)) + (s 45 0 (Int.toNat x4)))))))), vi (w32 (x4 + 1))], [], s)) else none) else none) else (if (s 32 0 34) = 0 then (some (none, (up (up s 32 0 34 x2) 32 0 35 x3))) else (if x3 < (s 32 0 35) then (some (none, (up (up s 32 0 34 x2) 32 0 35 x3))) else (some (none, s)))) := x_st 15 dX9_seeks_13 rfl (x_st 16 dX9_seeks_15 rfl (x_br dX9_seeks_16 (x_if (x_go 19 (x_st 20 dX9_seeks_19 rfl (x_st 21 dX9_seeks_20 rfl (x_st 24 dX9_seeks_21 rfl (x_st 26 dX9_seeks_24 rfl (x_st 28 dX9_seeks_26 rfl (x_st 29 dX9_seeks_28 rfl (x_st 30 dX9_seeks_29 rfl (x_st 33 dX9_seeks_30 rfl (x_st 35 dX9_seeks_33 rfl (x_br dX9_seeks_35 (x_if (x_go 36 (x_st 37 dX9_seeks_36 rfl (x_br dX9_seeks_37 (x_if (x_go 38 (x_st 39 dX9_seeks_38 rfl (x_so 40 [vr 32 0, z1, vi x2, vi (w32 (x3 + (s 44 0 (Int.toNat (w32 ((w32 (64 * x4)) + (s 45 0 (Int.toNat x4)))))))), vi x4] dX9_seeks_39 rfl (x_so 43 [vr 32 0, z1, vi x2, vi (w32 (x3 + (s 44 0 (Int.toNat (w32 ((w32 (64 * x4)) + (s 45 0 (Int.toNat x4)))))))), vi (w32 (x4 + 1))] dX9_seeks_40 rfl (x_st 13 dX9_seeks_43 rfl (rfl)))))) x_no)))) x_no)))))))))))) (x_go 46 (x_st 47 dX9_seeks_46 rfl (x_st 50 dX9_seeks_47 rfl (x_br dX9_seeks_50 (x_if (x_go 61 (x_st 62 dX9_seeks_61 rfl (x_st 63 dX9_seeks_62 rfl (x_st 66 dX9_seeks_63 rfl (x_st 67 dX9_seeks_66 rfl (x_st 68 dX9_seeks_67 rfl (x_st 71 dX9_seeks_68 rfl (x_ret dX9_seeks_71 rfl)))))))) (x_go 53 (x_st 54 dX9_seeks_53 rfl (x_st 55 dX9_seeks_54 rfl (x_st 58 dX9_seeks_55 rfl (x_br dX9_seeks_58 (x_if (x_go 61 (x_st 62 dX9_seeks_61 rfl (x_st 63 dX9_seeks_62 rfl (x_st 66 dX9_seeks_63 rfl (x_st 67 dX9_seeks_66 rfl (x_st 68 dX9_seeks_67 rfl (x_st 71 dX9_seeks_68 rfl (x_ret dX9_seeks_71 rfl)))))))) (x_go 71 (x_ret dX9_seeks_71 rfl))))))))))))))))
theorem qX9_seeks_74 (d : Nat) (x1 : Int) (x2 : Int) (x3 : Int) (z4 : PV) (s : Sg) : EV (d + 1) mX9_seeks (74, [vr 32 0, vi x1, vi x2, vi x3, z4], [], s) = if x3 < 4 then (if inb x3 4 then (if inb x3 4 then (bV (RUN d mX9_seeks [vr 32 0, vi (w32 (x1 + 1)), vi (w32 ((w32 ((w32 (10 * x2)) + x3)) + 1))] (up s 45 0 (Int.toNat x3) (wor (s 45 0 (Int.toNat x3)) (wshl 1 x1)))) (fun s1 => if inb x3 4 then (if inb x3 4 then (EV (d + 1) mX9_seeks (74, [vr 32 0, vi x1, vi x2, vi (w32 (x3 + 1)), z4], [], (up s1 45 0 (Int.toNat x3) (wand (s1 45 0 (Int.toNat x3)) (wxor (wshl 1 x1) (-1)))))) else none) else none)) else none) else none) else (some (none, s)) := x_st 75 dX9_seeks_74 rfl (x_st 76 dX9_seeks_75 rfl (x_br dX9_seeks_76 (x_if (x_go 79 (x_st 80 dX9_seeks_79 rfl (x_st 83 dX9_seeks_80 rfl (x_st 84 dX9_seeks_83 rfl (x_st 85 dX9_seeks_84 rfl (x_br dX9_seeks_85 (x_if (x_go 86 (x_st 87 dX9_seeks_86 rfl (x_st 88 dX9_seeks_87 rfl (x_st 89 dX9_seeks_88 rfl (x_st 90 dX9_seeks_89 rfl (x_br dX9_seeks_90 (x_if (x_go 91 (x_st 92 dX9_seeks_91 rfl (x_st 93 dX9_seeks_92 rfl (x_st 94 dX9_seeks_93 rfl (x_st 95 dX9_seeks_94 rfl (x_st 97 dX9_seeks_95 rfl (x_st 98 dX9_seeks_97 rfl (x_st 99 dX9_seeks_98 rfl (x_st 100 dX9_seeks_99 rfl (x_st 101 dX9_seeks_100 rfl (x_st 102 dX9_seeks_101 rfl (x_st 103 dX9_seeks_102 rfl (x_cv 106 [vr 32 0, vi x1, vi x2, vi x3, z4] [] dX9_seeks_103 rfl (fun s1 => x_st 107 dX9_seeks_106 rfl (x_st 110 dX9_seeks_107 rfl (x_st 111 dX9_seeks_110 rfl (x_st 112 dX9_seeks_111 rfl (x_br dX9_seeks_112 (x_if (x_go 113 (x_st 114 dX9_seeks_113 rfl (x_st 115 dX9_seeks_114 rfl (x_st 116 dX9_seeks_115 rfl (x_st 117 dX9_seeks_116 rfl (x_st 118 dX9_seeks_117 rfl (x_st 119 dX9_seeks_118 rfl (x_br dX9_seeks_119 (x_if (x_go 120 (x_so 123 [vr 32 0, vi x1, vi x2, vi (w32 (x3 + 1)), z4] dX9_seeks_120 rfl (x_st 74 dX9_seeks_123 rfl (rfl)))) x_no))))))))) x_no))))))))))))))))))) x_no))))))) x_no))))))) (x_go 126 (x_ret dX9_seeks_126 rfl)))))
theorem dX9_unlike_0 : decode cX9_unlike 0 = .ok (.aload_n 0, 1) := by decide +kernel
theorem dX9_unlike_1 : decode cX9_unlike 1 = .ok (.invokevirtual 270, 3) := by decide +kernel
theorem dX9_unlike_4 : decode cX9_unlike 4 = .ok (.iconst 0, 1) := by decide +kernel
theorem dX9_unlike_5 : decode cX9_unlike 5 = .ok (.istore_n 2, 1) := by decide +kernel
theorem dX9_unlike_6 : decode cX9_unlike 6 = .ok (.iconst 0, 1) := by decide +kernel
theorem dX9_unlike_7 : decode cX9_unlike 7 = .ok (.istore_n 3, 1) := by decide +kernel
theorem dX9_unlike_8 : decode cX9_unlike 8 = .ok (.iload_n 3, 1) := by decide +kernel
theorem dX9_unlike_9 : decode cX9_unlike 9 = .ok (.aload_n 0, 1) := by decide +kernel
theorem dX9_unlike_10 : decode cX9_unlike 10 = .ok (.getfield 82, 3) := by decide +kernel
theorem dX9_unlike_13 : decode cX9_unlike 13 = .ok (.if_icmp .ge 39, 3) := by decide +kernel
theorem dX9_unlike_16 : decode cX9_unlike 16 = .ok (.iload_n 2, 1) := by decide +kernel
theorem dX9_unlike_17 : decode cX9_unlike 17 = .ok (.aload_n 0, 1) := by decide +kernel
theorem dX9_unlike_18 : decode cX9_unlike 18 = .ok (.getfield 32, 3) := by decide +kernel
theorem dX9_unlike_21 : decode cX9_unlike 21 = .ok (.iload_n 3, 1) := by decide +kernel
theorem dX9_unlike_22 : decode cX9_unlike 22 = .ok (.iaload, 1) := by decide +kernel
theorem dX9_unlike_23 : decode cX9_unlike 23 = .ok (.aload_n 0, 1) := by decide +kernel
theorem dX9_unlike_24 : decode cX9_unlike 24 = .ok (.getfield 72, 3) := by decide +kernel
theorem dX9_unlike_27 : decode cX9_unlike 27 = .ok (.bipush 40, 2) := by decide +kernel
theorem dX9_unlike_29 : decode cX9_unlike 29 = .ok (.iload_n 1, 1) := by decide +kernel
theorem dX9_unlike_30 : decode cX9_unlike 30 = .ok (.imul, 1) := by decide +kernel
theorem dX9_unlike_31 : decode cX9_unlike 31 = .ok (.iload_n 3, 1) := by decide +kernel
theorem dX9_unlike_32 : decode cX9_unlike 32 = .ok (.iadd, 1) := by decide +kernel
theorem dX9_unlike_33 : decode cX9_unlike 33 = .ok (.iaload, 1) := by decide +kernel
theorem dX9_unlike_34 : decode cX9_unlike 34 = .ok (.if_icmp .ne 7, 3) := by decide +kernel
theorem dX9_unlike_37 : decode cX9_unlike 37 = .ok (.iconst 0, 1) := by decide +kernel
theorem dX9_unlike_38 : decode cX9_unlike 38 = .ok (.goto 4, 3) := by decide +kernel
theorem dX9_unlike_41 : decode cX9_unlike 41 = .ok (.iconst 1, 1) := by decide +kernel
theorem dX9_unlike_42 : decode cX9_unlike 42 = .ok (.iload_n 3, 1) := by decide +kernel
theorem dX9_unlike_43 : decode cX9_unlike 43 = .ok (.ishl, 1) := by decide +kernel
theorem dX9_unlike_44 : decode cX9_unlike 44 = .ok (.ior, 1) := by decide +kernel
theorem dX9_unlike_45 : decode cX9_unlike 45 = .ok (.istore_n 2, 1) := by decide +kernel
theorem dX9_unlike_46 : decode cX9_unlike 46 = .ok (.iinc 3 1, 3) := by decide +kernel
theorem dX9_unlike_49 : decode cX9_unlike 49 = .ok (.goto (-41), 3) := by decide +kernel
theorem dX9_unlike_52 : decode cX9_unlike 52 = .ok (.iload_n 2, 1) := by decide +kernel
theorem dX9_unlike_53 : decode cX9_unlike 53 = .ok (.ireturn, 1) := by decide +kernel
theorem qX9_unlike (d : Nat) (x1 : Int) (s : Sg) : RUN (d + 1) mX9_unlike [vr 32 0, vi x1] s = bV (RUN d mX9_goesAll [vr 32 0] s) (fun s1 => EV (d + 1) mX9_unlike (8, [vr 32 0, vi x1, vi 0, vi 0], [], s1)) := x_run rfl (x_st 1 dX9_unlike_0 rfl (x_cv 4 [vr 32 0, vi x1, UU, UU] [] dX9_unlike_1 rfl (fun s1 => x_st 5 dX9_unlike_4 rfl (x_so 6 [vr 32 0, vi x1, vi 0, UU] dX9_unlike_5 rfl (x_st 7 dX9_unlike_6 rfl (x_so 8 [vr 32 0, vi x1, vi 0, vi 0] dX9_unlike_7 rfl (rfl)))))))
theorem qX9_unlike_8 (d : Nat) (x1 : Int) (x2 : Int) (x3 : Int) (s : Sg) : EV d mX9_unlike (8, [vr 32 0, vi x1, vi x2, vi x3], [], s) = if x3 < (s 32 0 9) then (if inb x3 6 then (if inb (w32 ((w32 (40 * x1)) + x3)) 160 then (if (s 39 0 (Int.toNat x3)) = (s 51 0 (Int.toNat (w32 ((w32 (40 * x1)) + x3)))) then (EV d mX9_unlike (42, [vr 32 0, vi x1, vi x2, vi x3], [vi 0, vi x2], s)) else (EV d mX9_unlike (42, [vr 32 0, vi x1, vi x2, vi x3], [vi 1, vi x2], s))) else none) else none) else (some (some (vi x2), s)) := x_st 9 dX9_unlike_8 rfl (x_st 10 dX9_unlike_9 rfl (x_st 13 dX9_unlike_10 rfl (x_br dX9_unlike_13 (x_if (x_go 16 (x_st 17 dX9_unlike_16 rfl (x_st 18 dX9_unlike_17 rfl (x_st 21 dX9_unlike_18 rfl (x_st 22 dX9_unlike_21 rfl (x_br dX9_unlike_22 (x_if (x_go 23 (x_st 24 dX9_unlike_23 rfl (x_st 27 dX9_unlike_24 rfl (x_st 29 dX9_unlike_27 rfl (x_st 30 dX9_unlike_29 rfl (x_st 31 dX9_unlike_30 rfl (x_st 32 dX9_unlike_31 rfl (x_st 33 dX9_unlike_32 rfl (x_br dX9_unlike_33 (x_if (x_go 34 (x_br dX9_unlike_34 (x_if (x_go 37 (x_st 38 dX9_unlike_37 rfl (x_st 42 dX9_unlike_38 rfl (rfl)))) (x_go 41 (x_st 42 dX9_unlike_41 rfl (rfl)))))) x_no)))))))))) x_no))))))) (x_go 52 (x_st 53 dX9_unlike_52 rfl (x_ret dX9_unlike_53 rfl)))))))
theorem qX9_unlike_42 (d : Nat) (x1 : Int) (z2 : PV) (x3 : Int) (y0 : Int) (y1 : Int) (s : Sg) : EV d mX9_unlike (42, [vr 32 0, vi x1, z2, vi x3], [vi y0, vi y1], s) = EV d mX9_unlike (8, [vr 32 0, vi x1, vi (wor y1 (wshl y0 x3)), vi (w32 (x3 + 1))], [], s) := x_st 43 dX9_unlike_42 rfl (x_st 44 dX9_unlike_43 rfl (x_st 45 dX9_unlike_44 rfl (x_so 46 [vr 32 0, vi x1, vi (wor y1 (wshl y0 x3)), vi x3] dX9_unlike_45 rfl (x_so 49 [vr 32 0, vi x1, vi (wor y1 (wshl y0 x3)), vi (w32 (x3 + 1))] dX9_unlike_46 rfl (x_st 8 dX9_unlike_49 rfl (rfl))))))
theorem dX9_over_0 : decode cX9_over 0 = .ok (.iload_n 0, 1) := by decide +kernel
theorem dX9_over_1 : decode cX9_over 1 = .ok (.ifCond .ne 7, 3) := by decide +kernel
theorem dX9_over_4 : decode cX9_over 4 = .ok (.iconst (-1), 1) := by decide +kernel
theorem dX9_over_5 : decode cX9_over 5 = .ok (.goto 22, 3) := by decide +kernel
theorem dX9_over_8 : decode cX9_over 8 = .ok (.iload_n 0, 1) := by decide +kernel
theorem dX9_over_9 : decode cX9_over 9 = .ok (.iconst 3, 1) := by decide +kernel
theorem dX9_over_10 : decode cX9_over 10 = .ok (.if_icmp .ne 7, 3) := by decide +kernel
theorem dX9_over_13 : decode cX9_over 13 = .ok (.iconst 1, 1) := by decide +kernel
theorem dX9_over_14 : decode cX9_over 14 = .ok (.goto 13, 3) := by decide +kernel
theorem dX9_over_17 : decode cX9_over 17 = .ok (.iload_n 0, 1) := by decide +kernel
theorem dX9_over_18 : decode cX9_over 18 = .ok (.iconst 4, 1) := by decide +kernel
theorem dX9_over_19 : decode cX9_over 19 = .ok (.if_icmp .ne 7, 3) := by decide +kernel
theorem dX9_over_22 : decode cX9_over 22 = .ok (.iconst 2, 1) := by decide +kernel
theorem dX9_over_23 : decode cX9_over 23 = .ok (.goto 4, 3) := by decide +kernel
theorem dX9_over_26 : decode cX9_over 26 = .ok (.iconst 0, 1) := by decide +kernel
theorem dX9_over_27 : decode cX9_over 27 = .ok (.ireturn, 1) := by decide +kernel
theorem qX9_over (d : Nat) (x0 : Int) (s : Sg) : RUN d mX9_over [vi x0] s = if x0 = 0 then (some (some (vi (-1)), s)) else (if x0 = 3 then (some (some (vi 1), s)) else (if x0 = 4 then (some (some (vi 2), s)) else (some (some (vi 0), s)))) := x_run rfl (x_st 1 dX9_over_0 rfl (x_br dX9_over_1 (x_if (x_go 4 (x_st 5 dX9_over_4 rfl (x_st 27 dX9_over_5 rfl (x_ret dX9_over_27 rfl)))) (x_go 8 (x_st 9 dX9_over_8 rfl (x_st 10 dX9_over_9 rfl (x_br dX9_over_10 (x_if (x_go 13 (x_st 14 dX9_over_13 rfl (x_st 27 dX9_over_14 rfl (x_ret dX9_over_27 rfl)))) (x_go 17 (x_st 18 dX9_over_17 rfl (x_st 19 dX9_over_18 rfl (x_br dX9_over_19 (x_if (x_go 22 (x_st 23 dX9_over_22 rfl (x_st 27 dX9_over_23 rfl (x_ret dX9_over_27 rfl)))) (x_go 26 (x_st 27 dX9_over_26 rfl (x_ret dX9_over_27 rfl))))))))))))))))
theorem dX9_next_0 : decode cX9_next 0 = .ok (.aload_n 0, 1) := by decide +kernel
theorem dX9_next_1 : decode cX9_next 1 = .ok (.aload_n 0, 1) := by decide +kernel
theorem dX9_next_2 : decode cX9_next 2 = .ok (.getfield 140, 3) := by decide +kernel
theorem dX9_next_5 : decode cX9_next 5 = .ok (.invokevirtual 143, 3) := by decide +kernel
theorem dX9_next_8 : decode cX9_next 8 = .ok (.bipush 32, 2) := by decide +kernel
theorem dX9_next_10 : decode cX9_next 10 = .ok (.if_icmp .eq 16, 3) := by decide +kernel
theorem dX9_next_13 : decode cX9_next 13 = .ok (.aload_n 0, 1) := by decide +kernel
theorem dX9_next_14 : decode cX9_next 14 = .ok (.aload_n 0, 1) := by decide +kernel
theorem dX9_next_15 : decode cX9_next 15 = .ok (.getfield 140, 3) := by decide +kernel
theorem dX9_next_18 : decode cX9_next 18 = .ok (.invokevirtual 143, 3) := by decide +kernel
theorem dX9_next_21 : decode cX9_next 21 = .ok (.bipush 10, 2) := by decide +kernel
theorem dX9_next_23 : decode cX9_next 23 = .ok (.if_icmp .ne 16, 3) := by decide +kernel
theorem dX9_next_26 : decode cX9_next 26 = .ok (.aload_n 0, 1) := by decide +kernel
theorem dX9_next_27 : decode cX9_next 27 = .ok (.dup, 1) := by decide +kernel
theorem dX9_next_28 : decode cX9_next 28 = .ok (.getfield 140, 3) := by decide +kernel
theorem dX9_next_31 : decode cX9_next 31 = .ok (.iconst 1, 1) := by decide +kernel
theorem dX9_next_32 : decode cX9_next 32 = .ok (.iadd, 1) := by decide +kernel
theorem dX9_next_33 : decode cX9_next 33 = .ok (.putfield 140, 3) := by decide +kernel
theorem dX9_next_36 : decode cX9_next 36 = .ok (.goto (-36), 3) := by decide +kernel
theorem dX9_next_39 : decode cX9_next 39 = .ok (.aload_n 0, 1) := by decide +kernel
theorem dX9_next_40 : decode cX9_next 40 = .ok (.aload_n 0, 1) := by decide +kernel
theorem dX9_next_41 : decode cX9_next 41 = .ok (.getfield 140, 3) := by decide +kernel
theorem dX9_next_44 : decode cX9_next 44 = .ok (.putfield 146, 3) := by decide +kernel
theorem dX9_next_47 : decode cX9_next 47 = .ok (.aload_n 0, 1) := by decide +kernel
theorem dX9_next_48 : decode cX9_next 48 = .ok (.aload_n 0, 1) := by decide +kernel
theorem dX9_next_49 : decode cX9_next 49 = .ok (.getfield 140, 3) := by decide +kernel
theorem dX9_next_52 : decode cX9_next 52 = .ok (.invokevirtual 143, 3) := by decide +kernel
theorem dX9_next_55 : decode cX9_next 55 = .ok (.istore_n 1, 1) := by decide +kernel
theorem dX9_next_56 : decode cX9_next 56 = .ok (.aload_n 0, 1) := by decide +kernel
theorem dX9_next_57 : decode cX9_next 57 = .ok (.iconst 4, 1) := by decide +kernel
theorem dX9_next_58 : decode cX9_next 58 = .ok (.putfield 149, 3) := by decide +kernel
theorem dX9_next_61 : decode cX9_next 61 = .ok (.iload_n 1, 1) := by decide +kernel
theorem dX9_next_62 : decode cX9_next 62 = .ok (.ifCond .ge 19, 3) := by decide +kernel
theorem dX9_next_65 : decode cX9_next 65 = .ok (.aload_n 0, 1) := by decide +kernel
theorem dX9_next_66 : decode cX9_next 66 = .ok (.iconst 0, 1) := by decide +kernel
theorem dX9_next_67 : decode cX9_next 67 = .ok (.putfield 149, 3) := by decide +kernel
theorem dX9_next_70 : decode cX9_next 70 = .ok (.aload_n 0, 1) := by decide +kernel
theorem dX9_next_71 : decode cX9_next 71 = .ok (.aload_n 0, 1) := by decide +kernel
theorem dX9_next_72 : decode cX9_next 72 = .ok (.getfield 134, 3) := by decide +kernel
theorem dX9_next_75 : decode cX9_next 75 = .ok (.putfield 146, 3) := by decide +kernel
theorem dX9_next_78 : decode cX9_next 78 = .ok (.goto 243, 3) := by decide +kernel
theorem dX9_next_81 : decode cX9_next 81 = .ok (.iload_n 1, 1) := by decide +kernel
theorem dX9_next_82 : decode cX9_next 82 = .ok (.i2l, 1) := by decide +kernel
theorem dX9_next_83 : decode cX9_next 83 = .ok (.ldc2_w 152, 3) := by decide +kernel
theorem dX9_next_86 : decode cX9_next 86 = .ok (.ldc2_w 154, 3) := by decide +kernel
theorem dX9_next_89 : decode cX9_next 89 = .ok (.invokestatic 85, 3) := by decide +kernel
theorem dX9_next_92 : decode cX9_next 92 = .ok (.ifCond .eq 42, 3) := by decide +kernel
theorem dX9_next_95 : decode cX9_next 95 = .ok (.aload_n 0, 1) := by decide +kernel
theorem dX9_next_96 : decode cX9_next 96 = .ok (.iconst 1, 1) := by decide +kernel
theorem dX9_next_97 : decode cX9_next 97 = .ok (.putfield 149, 3) := by decide +kernel
theorem dX9_next_100 : decode cX9_next 100 = .ok (.aload_n 0, 1) := by decide +kernel
theorem dX9_next_101 : decode cX9_next 101 = .ok (.aload_n 0, 1) := by decide +kernel
theorem dX9_next_102 : decode cX9_next 102 = .ok (.getfield 140, 3) := by decide +kernel
theorem dX9_next_105 : decode cX9_next 105 = .ok (.invokevirtual 143, 3) := by decide +kernel
theorem dX9_next_108 : decode cX9_next 108 = .ok (.i2l, 1) := by decide +kernel
theorem dX9_next_109 : decode cX9_next 109 = .ok (.ldc2_w 152, 3) := by decide +kernel
theorem dX9_next_112 : decode cX9_next 112 = .ok (.ldc2_w 154, 3) := by decide +kernel
theorem dX9_next_115 : decode cX9_next 115 = .ok (.invokestatic 85, 3) := by decide +kernel
theorem dX9_next_118 : decode cX9_next 118 = .ok (.ifCond .eq 203, 3) := by decide +kernel
theorem dX9_next_121 : decode cX9_next 121 = .ok (.aload_n 0, 1) := by decide +kernel
theorem dX9_next_122 : decode cX9_next 122 = .ok (.dup, 1) := by decide +kernel
theorem dX9_next_123 : decode cX9_next 123 = .ok (.getfield 140, 3) := by decide +kernel
theorem dX9_next_126 : decode cX9_next 126 = .ok (.iconst 1, 1) := by decide +kernel
theorem dX9_next_127 : decode cX9_next 127 = .ok (.iadd, 1) := by decide +kernel
theorem dX9_next_128 : decode cX9_next 128 = .ok (.putfield 140, 3) := by decide +kernel
theorem dX9_next_131 : decode cX9_next 131 = .ok (.goto (-31), 3) := by decide +kernel
theorem dX9_next_134 : decode cX9_next 134 = .ok (.iload_n 1, 1) := by decide +kernel
theorem dX9_next_135 : decode cX9_next 135 = .ok (.i2l, 1) := by decide +kernel
theorem dX9_next_136 : decode cX9_next 136 = .ok (.ldc2_w 156, 3) := by decide +kernel
theorem dX9_next_139 : decode cX9_next 139 = .ok (.ldc2_w 158, 3) := by decide +kernel
theorem dX9_next_142 : decode cX9_next 142 = .ok (.invokestatic 85, 3) := by decide +kernel
theorem dX9_next_145 : decode cX9_next 145 = .ok (.ifCond .eq 107, 3) := by decide +kernel
theorem dX9_next_148 : decode cX9_next 148 = .ok (.aload_n 0, 1) := by decide +kernel
theorem dX9_next_149 : decode cX9_next 149 = .ok (.iconst 2, 1) := by decide +kernel
theorem dX9_next_150 : decode cX9_next 150 = .ok (.putfield 149, 3) := by decide +kernel
theorem dX9_next_153 : decode cX9_next 153 = .ok (.aload_n 0, 1) := by decide +kernel
theorem dX9_next_154 : decode cX9_next 154 = .ok (.lconst 0, 1) := by decide +kernel
theorem dX9_next_155 : decode cX9_next 155 = .ok (.putfield 160, 3) := by decide +kernel
theorem dX9_next_158 : decode cX9_next 158 = .ok (.iconst 0, 1) := by decide +kernel
theorem dX9_next_159 : decode cX9_next 159 = .ok (.istore_n 2, 1) := by decide +kernel
theorem dX9_next_160 : decode cX9_next 160 = .ok (.aload_n 0, 1) := by decide +kernel
theorem dX9_next_161 : decode cX9_next 161 = .ok (.aload_n 0, 1) := by decide +kernel
theorem dX9_next_162 : decode cX9_next 162 = .ok (.getfield 140, 3) := by decide +kernel
theorem dX9_next_165 : decode cX9_next 165 = .ok (.invokevirtual 143, 3) := by decide +kernel
theorem dX9_next_168 : decode cX9_next 168 = .ok (.i2l, 1) := by decide +kernel
theorem dX9_next_169 : decode cX9_next 169 = .ok (.ldc2_w 156, 3) := by decide +kernel
theorem dX9_next_172 : decode cX9_next 172 = .ok (.ldc2_w 158, 3) := by decide +kernel
theorem dX9_next_175 : decode cX9_next 175 = .ok (.invokestatic 85, 3) := by decide +kernel
theorem dX9_next_178 : decode cX9_next 178 = .ok (.ifCond .eq 57, 3) := by decide +kernel
theorem dX9_next_181 : decode cX9_next 181 = .ok (.aload_n 0, 1) := by decide +kernel
theorem dX9_next_182 : decode cX9_next 182 = .ok (.iload_n 2, 1) := by decide +kernel
theorem dX9_next_183 : decode cX9_next 183 = .ok (.iconst 4, 1) := by decide +kernel
theorem dX9_next_184 : decode cX9_next 184 = .ok (.if_icmp .ge 28, 3) := by decide +kernel
theorem dX9_next_187 : decode cX9_next 187 = .ok (.ldc2_w 108, 3) := by decide +kernel
theorem dX9_next_190 : decode cX9_next 190 = .ok (.aload_n 0, 1) := by decide +kernel
theorem dX9_next_191 : decode cX9_next 191 = .ok (.getfield 160, 3) := by decide +kernel
theorem dX9_next_194 : decode cX9_next 194 = .ok (.lmul, 1) := by decide +kernel
theorem dX9_next_195 : decode cX9_next 195 = .ok (.aload_n 0, 1) := by decide +kernel
theorem dX9_next_196 : decode cX9_next 196 = .ok (.aload_n 0, 1) := by decide +kernel
theorem dX9_next_197 : decode cX9_next 197 = .ok (.getfield 140, 3) := by decide +kernel
theorem dX9_next_200 : decode cX9_next 200 = .ok (.invokevirtual 143, 3) := by decide +kernel
theorem dX9_next_203 : decode cX9_next 203 = .ok (.i2l, 1) := by decide +kernel
theorem dX9_next_204 : decode cX9_next 204 = .ok (.ladd, 1) := by decide +kernel
theorem dX9_next_205 : decode cX9_next 205 = .ok (.ldc2_w 156, 3) := by decide +kernel
theorem dX9_next_208 : decode cX9_next 208 = .ok (.lsub, 1) := by decide +kernel
theorem dX9_next_209 : decode cX9_next 209 = .ok (.goto 7, 3) := by decide +kernel
theorem dX9_next_212 : decode cX9_next 212 = .ok (.aload_n 0, 1) := by decide +kernel
theorem dX9_next_213 : decode cX9_next 213 = .ok (.getfield 160, 3) := by decide +kernel
theorem dX9_next_216 : decode cX9_next 216 = .ok (.putfield 160, 3) := by decide +kernel
theorem dX9_next_219 : decode cX9_next 219 = .ok (.iinc 2 1, 3) := by decide +kernel
theorem dX9_next_222 : decode cX9_next 222 = .ok (.aload_n 0, 1) := by decide +kernel
theorem dX9_next_223 : decode cX9_next 223 = .ok (.dup, 1) := by decide +kernel
theorem dX9_next_224 : decode cX9_next 224 = .ok (.getfield 140, 3) := by decide +kernel
theorem dX9_next_227 : decode cX9_next 227 = .ok (.iconst 1, 1) := by decide +kernel
theorem dX9_next_228 : decode cX9_next 228 = .ok (.iadd, 1) := by decide +kernel
theorem dX9_next_229 : decode cX9_next 229 = .ok (.putfield 140, 3) := by decide +kernel
theorem dX9_next_232 : decode cX9_next 232 = .ok (.goto (-72), 3) := by decide +kernel
theorem dX9_next_235 : decode cX9_next 235 = .ok (.aload_n 0, 1) := by decide +kernel
theorem dX9_next_236 : decode cX9_next 236 = .ok (.iload_n 2, 1) := by decide +kernel
theorem dX9_next_237 : decode cX9_next 237 = .ok (.iconst 4, 1) := by decide +kernel
theorem dX9_next_238 : decode cX9_next 238 = .ok (.if_icmp .le 7, 3) := by decide +kernel
theorem dX9_next_241 : decode cX9_next 241 = .ok (.iconst 4, 1) := by decide +kernel
theorem dX9_next_242 : decode cX9_next 242 = .ok (.goto 4, 3) := by decide +kernel
theorem dX9_next_245 : decode cX9_next 245 = .ok (.iconst 2, 1) := by decide +kernel
theorem dX9_next_246 : decode cX9_next 246 = .ok (.putfield 149, 3) := by decide +kernel
theorem dX9_next_249 : decode cX9_next 249 = .ok (.goto 72, 3) := by decide +kernel
theorem dX9_next_252 : decode cX9_next 252 = .ok (.iload_n 1, 1) := by decide +kernel
theorem dX9_next_253 : decode cX9_next 253 = .ok (.bipush 40, 2) := by decide +kernel
theorem dX9_next_255 : decode cX9_next 255 = .ok (.if_icmp .eq 45, 3) := by decide +kernel
theorem dX9_next_258 : decode cX9_next 258 = .ok (.iload_n 1, 1) := by decide +kernel
theorem dX9_next_259 : decode cX9_next 259 = .ok (.bipush 41, 2) := by decide +kernel
theorem dX9_next_261 : decode cX9_next 261 = .ok (.if_icmp .eq 39, 3) := by decide +kernel
theorem dX9_next_264 : decode cX9_next 264 = .ok (.iload_n 1, 1) := by decide +kernel
theorem dX9_next_265 : decode cX9_next 265 = .ok (.bipush 59, 2) := by decide +kernel
theorem dX9_next_267 : decode cX9_next 267 = .ok (.if_icmp .eq 33, 3) := by decide +kernel
theorem dX9_next_270 : decode cX9_next 270 = .ok (.iload_n 1, 1) := by decide +kernel
theorem dX9_next_271 : decode cX9_next 271 = .ok (.bipush 43, 2) := by decide +kernel
theorem dX9_next_273 : decode cX9_next 273 = .ok (.if_icmp .eq 27, 3) := by decide +kernel
theorem dX9_next_276 : decode cX9_next 276 = .ok (.iload_n 1, 1) := by decide +kernel
theorem dX9_next_277 : decode cX9_next 277 = .ok (.bipush 45, 2) := by decide +kernel
theorem dX9_next_279 : decode cX9_next 279 = .ok (.if_icmp .eq 21, 3) := by decide +kernel
theorem dX9_next_282 : decode cX9_next 282 = .ok (.iload_n 1, 1) := by decide +kernel
theorem dX9_next_283 : decode cX9_next 283 = .ok (.bipush 42, 2) := by decide +kernel
theorem dX9_next_285 : decode cX9_next 285 = .ok (.if_icmp .eq 15, 3) := by decide +kernel
theorem dX9_next_288 : decode cX9_next 288 = .ok (.iload_n 1, 1) := by decide +kernel
theorem dX9_next_289 : decode cX9_next 289 = .ok (.bipush 60, 2) := by decide +kernel
theorem dX9_next_291 : decode cX9_next 291 = .ok (.if_icmp .eq 9, 3) := by decide +kernel
theorem dX9_next_294 : decode cX9_next 294 = .ok (.iload_n 1, 1) := by decide +kernel
theorem dX9_next_295 : decode cX9_next 295 = .ok (.bipush 61, 2) := by decide +kernel
theorem dX9_next_297 : decode cX9_next 297 = .ok (.if_icmp .ne 24, 3) := by decide +kernel
theorem dX9_next_300 : decode cX9_next 300 = .ok (.aload_n 0, 1) := by decide +kernel
theorem dX9_next_301 : decode cX9_next 301 = .ok (.iconst 3, 1) := by decide +kernel
theorem dX9_next_302 : decode cX9_next 302 = .ok (.putfield 149, 3) := by decide +kernel
theorem dX9_next_305 : decode cX9_next 305 = .ok (.aload_n 0, 1) := by decide +kernel
theorem dX9_next_306 : decode cX9_next 306 = .ok (.iload_n 1, 1) := by decide +kernel
theorem dX9_next_307 : decode cX9_next 307 = .ok (.i2l, 1) := by decide +kernel
theorem dX9_next_308 : decode cX9_next 308 = .ok (.putfield 160, 3) := by decide +kernel
theorem dX9_next_311 : decode cX9_next 311 = .ok (.aload_n 0, 1) := by decide +kernel
theorem dX9_next_312 : decode cX9_next 312 = .ok (.dup, 1) := by decide +kernel
theorem dX9_next_313 : decode cX9_next 313 = .ok (.getfield 140, 3) := by decide +kernel
theorem dX9_next_316 : decode cX9_next 316 = .ok (.iconst 1, 1) := by decide +kernel
theorem dX9_next_317 : decode cX9_next 317 = .ok (.iadd, 1) := by decide +kernel
theorem dX9_next_318 : decode cX9_next 318 = .ok (.putfield 140, 3) := by decide +kernel
theorem dX9_next_321 : decode cX9_next 321 = .ok (.return_, 1) := by decide +kernel
theorem qX9_next (d : Nat) (s : Sg) : RUN d mX9_next [vr 32 0] s = EV d mX9_next (0, [vr 32 0, UU, UU], [], s) := x_run rfl (rfl)
theorem qX9_next_0 (d : Nat) (z1 : PV) (z2 : PV) (s : Sg) : EV (d + 1) mX9_next (0, [vr 32 0, z1, z2], [], s) = bI (RUN d mX9_byteAt [vr 32 0, vi (s 32 0 18)] s) (fun r1 s1 => if r1 = 32 then (EV (d + 1) mX9_next (26, [vr 32 0, z1, z2], [], s1)) else (bI (RUN d mX9_byteAt [vr 32 0, vi (s1 32 0 18)] s1) (fun r2 s2 => if r2 = 10 then (EV (d + 1) mX9_next (26, [vr 32 0, z1, z2], [], s2)) else (bI (RUN d mX9_byteAt [vr 32 0, vi (s2 32 0 18)] (up s2 32 0 20 (s2 32 0 18))) (fun r3 s3 => if r3 < 0 then (some (none, (up (up (up s3 32 0 19 4) 32 0 19 0) 32 0 20 (s3 32 0 17)))) else (bI (RUN d mX9_in [vl r3, vl 97, vl 122] (up s3 32 0 19 4)) (fun r4 s4 => if r4 = 0 then (bI (RUN d mX9_in [vl r3, vl 48, vl 57] s4) (fun r5 s5 => if r5 = 0 then (if r3 = 40 then (EV (d + 1) mX9_next (300, [vr 32 0, vi r3, z2], [], s5)) else (if r3 = 41 then (EV (d + 1) mX9_next (300, [vr 32 0, vi r3, z2], [], s5)) else (if r3 = 59 then (EV (d + 1) mX9_next (300, [vr 32 0, vi r3, z2], [], s5)) else (if r3 = 43 then (EV (d + 1) mX9_next (300, [vr 32 0, vi r3, z2], [], s5)) else (if r3 = 45 then (EV (d + 1) mX9_next (300, [vr 32 0, vi r3, z2], [], s5)) else (if r3 = 42 then (EV (d + 1) mX9_next (300, [vr 32 0, vi r3, z2], [], s5)) else (if r3 = 60 then (EV (d + 1) mX9_next (300, [vr 32 0, vi r3, z2], [], s5)) else (if r3 = 61 then (EV (d + 1) mX9_next (300, [vr 32 0, vi r3, z2], [], s5)) else (some (none, s5)))))))))) else (EV (d + 1) mX9_next (160, [vr 32 0, vi r3, vi 0], [], (up (up s5 32 0 19 2) 32 0 21 0))))) else (EV (d + 1) mX9_next (100, [vr 32 0, vi r3, z2], [], (up s4 32 0 19 1)))))))))) := x_st 1 dX9_next_0 rfl (x_st 2 dX9_next_1 rfl (x_st 5 dX9_next_2 rfl (x_ci 8 [vr 32 0, z1, z2] [] dX9_next_5 rfl (fun r1 s1 => x_st 10 dX9_next_8 rfl (x_br dX9_next_10 (x_if (x_go 26 (rfl)) (x_go 13 (x_st 14 dX9_next_13 rfl (x_st 15 dX9_next_14 rfl (x_st 18 dX9_next_15 rfl (x_ci 21 [vr 32 0, z1, z2] [] dX9_next_18 rfl (fun r2 s2 => x_st 23 dX9_next_21 rfl (x_br dX9_next_23 (x_if (x_go 26 (rfl)) (x_go 39 (x_st 40 dX9_next_39 rfl (x_st 41 dX9_next_40 rfl (x_st 44 dX9_next_41 rfl (x_st 47 dX9_next_44 rfl (x_st 48 dX9_next_47 rfl (x_st 49 dX9_next_48 rfl (x_st 52 dX9_next_49 rfl (x_ci 55 [vr 32 0, z1, z2] [] dX9_next_52 rfl (fun r3 s3 => x_so 56 [vr 32 0, vi r3, z2] dX9_next_55 rfl (x_st 57 dX9_next_56 rfl (x_st 58 dX9_next_57 rfl (x_st 61 dX9_next_58 rfl (x_st 62 dX9_next_61 rfl (x_br dX9_next_62 (x_if (x_go 65 (x_st 66 dX9_next_65 rfl (x_st 67 dX9_next_66 rfl (x_st 70 dX9_next_67 rfl (x_st 71 dX9_next_70 rfl (x_st 72 dX9_next_71 rfl (x_st 75 dX9_next_72 rfl (x_st 78 dX9_next_75 rfl (x_st 321 dX9_next_78 rfl (x_ret dX9_next_321 rfl)))))))))) (x_go 81 (x_st 82 dX9_next_81 rfl (x_st 83 dX9_next_82 rfl (x_st 86 dX9_next_83 rfl (x_st 89 dX9_next_86 rfl (x_ci 92 [vr 32 0, vi r3, z2] [] dX9_next_89 rfl (fun r4 s4 => x_br dX9_next_92 (x_if (x_go 134 (x_st 135 dX9_next_134 rfl (x_st 136 dX9_next_135 rfl (x_st 139 dX9_next_136 rfl (x_st 142 dX9_next_139 rfl (x_ci 145 [vr 32 0, vi r3, z2] [] dX9_next_142 rfl (fun r5 s5 => x_br dX9_next_145 (x_if (x_go 252 (x_st 253 dX9_next_252 rfl (x_st 255 dX9_next_253 rfl (x_br dX9_next_255 (x_if (x_go 300 (rfl)) (x_go 258 (x_st 259 dX9_next_258 rfl (x_st 261 dX9_next_259 rfl (x_br dX9_next_261 (x_if (x_go 300 (rfl)) (x_go 264 (x_st 265 dX9_next_264 rfl (x_st 267 dX9_next_265 rfl (x_br dX9_next_267 (x_if (x_go 300 (rfl)) (x_go 270 (x_st 271 dX9_next_270 rfl (x_st 273 dX9_next_271 rfl (x_br dX9_next_273 (x_if (x_go 300 (rfl)) (x_go 276 (x_st 277 dX9_next_276 rfl (x_st 279 dX9_next_277 rfl (x_br dX9_next_279 (x_if (x_go 300 (rfl)) (x_go 282 (x_st 283 dX9_next_282 rfl (x_st 285 dX9_next_283 rfl (x_br dX9_next_285 (x_if (x_go 300 (rfl)) (x_go 288 (x_st 289 dX9_next_288 rfl (x_st 291 dX9_next_289 rfl (x_br dX9_next_291 (x_if (x_go 300 (rfl)) (x_go 294 (x_st 295 dX9_next_294 rfl (x_st 297 dX9_next_295 rfl (x_br dX9_next_297 (x_if (x_go 300 (rfl)) (x_go 321 (x_ret dX9_next_321 rfl)))))))))))))))))))))))))))))))))))))))))) (x_go 148 (x_st 149 dX9_next_148 rfl (x_st 150 dX9_next_149 rfl (x_st 153 dX9_next_150 rfl (x_st 154 dX9_next_153 rfl (x_st 155 dX9_next_154 rfl (x_st 158 dX9_next_155 rfl (x_st 159 dX9_next_158 rfl (x_so 160 [vr 32 0, vi r3, vi 0] dX9_next_159 rfl (rfl)))))))))))))))))) (x_go 95 (x_st 96 dX9_next_95 rfl (x_st 97 dX9_next_96 rfl (x_st 100 dX9_next_97 rfl (rfl)))))))))))))))))))))))))))))))))))))))))))
theorem qX9_next_26 (d : Nat) (z1 : PV) (z2 : PV) (s : Sg) : EV d mX9_next (26, [vr 32 0, z1, z2], [], s) = EV d mX9_next (0, [vr 32 0, z1, z2], [], (up s 32 0 18 (w32 ((s 32 0 18) + 1)))) := x_st 27 dX9_next_26 rfl (x_st 28 dX9_next_27 rfl (x_st 31 dX9_next_28 rfl (x_st 32 dX9_next_31 rfl (x_st 33 dX9_next_32 rfl (x_st 36 dX9_next_33 rfl (x_st 0 dX9_next_36 rfl (rfl)))))))
theorem qX9_next_300 (d : Nat) (x1 : Int) (z2 : PV) (s : Sg) : EV d mX9_next (300, [vr 32 0, vi x1, z2], [], s) = some (none, (up (up (up s 32 0 19 3) 32 0 21 x1) 32 0 18 (w32 ((s 32 0 18) + 1)))) := x_st 301 dX9_next_300 rfl (x_st 302 dX9_next_301 rfl (x_st 305 dX9_next_302 rfl (x_st 306 dX9_next_305 rfl (x_st 307 dX9_next_306 rfl (x_st 308 dX9_next_307 rfl (x_st 311 dX9_next_308 rfl (x_st 312 dX9_next_311 rfl (x_st 313 dX9_next_312 rfl (x_st 316 dX9_next_313 rfl (x_st 317 dX9_next_316 rfl (x_st 318 dX9_next_317 rfl (x_st 321 dX9_next_318 rfl (x_ret dX9_next_321 rfl)))))))))))))
theorem qX9_next_160 (d : Nat) (z1 : PV) (x2 : Int) (s : Sg) : EV (d + 1) mX9_next (160, [vr 32 0, z1, vi x2], [], s) = bI (RUN d mX9_byteAt [vr 32 0, vi (s 32 0 18)] s) (fun r1 s1 => bI (RUN d mX9_in [vl r1, vl 48, vl 57] s1) (fun r2 s2 => if r2 = 0 then (if 4 < x2 then (some (none, (up s2 32 0 19 4))) else (some (none, (up s2 32 0 19 2)))) else (if x2 < 4 then (bI (RUN d mX9_byteAt [vr 32 0, vi (s2 32 0 18)] s2) (fun r3 s3 => EV (d + 1) mX9_next (216, [vr 32 0, z1, vi x2], [vl (w64 ((w64 ((w64 (10 * (s2 32 0 21))) + r3)) - 48)), vr 32 0], s3))) else (EV (d + 1) mX9_next (216, [vr 32 0, z1, vi x2], [vl (s2 32 0 21), vr 32 0], s2))))) := x_st 161 dX9_next_160 rfl (x_st 162 dX9_next_161 rfl (x_st 165 dX9_next_162 rfl (x_ci 168 [vr 32 0, z1, vi x2] [] dX9_next_165 rfl (fun r1 s1 => x_st 169 dX9_next_168 rfl (x_st 172 dX9_next_169 rfl (x_st 175 dX9_next_172 rfl (x_ci 178 [vr 32 0, z1, vi x2] [] dX9_next_175 rfl (fun r2 s2 => x_br dX9_next_178 (x_if (x_go 235 (x_st 236 dX9_next_235 rfl (x_st 237 dX9_next_236 rfl (x_st 238 dX9_next_237 rfl (x_br dX9_next_238 (x_if (x_go 241 (x_st 242 dX9_next_241 rfl (x_st 246 dX9_next_242 rfl (x_st 249 dX9_next_246 rfl (x_st 321 dX9_next_249 rfl (x_ret dX9_next_321 rfl)))))) (x_go 245 (x_st 246 dX9_next_245 rfl (x_st 249 dX9_next_246 rfl (x_st 321 dX9_next_249 rfl (x_ret dX9_next_321 rfl))))))))))) (x_go 181 (x_st 182 dX9_next_181 rfl (x_st 183 dX9_next_182 rfl (x_st 184 dX9_next_183 rfl (x_br dX9_next_184 (x_if (x_go 187 (x_st 190 dX9_next_187 rfl (x_st 191 dX9_next_190 rfl (x_st 194 dX9_next_191 rfl (x_st 195 dX9_next_194 rfl (x_st 196 dX9_next_195 rfl (x_st 197 dX9_next_196 rfl (x_st 200 dX9_next_197 rfl (x_ci 203 [vr 32 0, z1, vi x2] [vl (w64 (10 * (s2 32 0 21))), vr 32 0] dX9_next_200 rfl (fun r3 s3 => x_st 204 dX9_next_203 rfl (x_st 205 dX9_next_204 rfl (x_st 208 dX9_next_205 rfl (x_st 209 dX9_next_208 rfl (x_st 216 dX9_next_209 rfl (rfl))))))))))))))) (x_go 212 (x_st 213 dX9_next_212 rfl (x_st 216 dX9_next_213 rfl (rfl)))))))))))))))))))
theorem qX9_next_100 (d : Nat) (z1 : PV) (z2 : PV) (s : Sg) : EV (d + 1) mX9_next (100, [vr 32 0, z1, z2], [], s) = bI (RUN d mX9_byteAt [vr 32 0, vi (s 32 0 18)] s) (fun r1 s1 => bI (RUN d mX9_in [vl r1, vl 97, vl 122] s1) (fun r2 s2 => if r2 = 0 then (some (none, s2)) else (EV (d + 1) mX9_next (100, [vr 32 0, z1, z2], [], (up s2 32 0 18 (w32 ((s2 32 0 18) + 1))))))) := x_st 101 dX9_next_100 rfl (x_st 102 dX9_next_101 rfl (x_st 105 dX9_next_102 rfl (x_ci 108 [vr 32 0, z1, z2] [] dX9_next_105 rfl (fun r1 s1 => x_st 109 dX9_next_108 rfl (x_st 112 dX9_next_109 rfl (x_st 115 dX9_next_112 rfl (x_ci 118 [vr 32 0, z1, z2] [] dX9_next_115 rfl (fun r2 s2 => x_br dX9_next_118 (x_if (x_go 321 (x_ret dX9_next_321 rfl)) (x_go 121 (x_st 122 dX9_next_121 rfl (x_st 123 dX9_next_122 rfl (x_st 126 dX9_next_123 rfl (x_st 127 dX9_next_126 rfl (x_st 128 dX9_next_127 rfl (x_st 131 dX9_next_128 rfl (x_st 100 dX9_next_131 rfl (rfl))))))))))))))))))
theorem qX9_next_216 (d : Nat) (z1 : PV) (x2 : Int) (y0 : Int) (s : Sg) : EV d mX9_next (216, [vr 32 0, z1, vi x2], [vl y0, vr 32 0], s) = EV d mX9_next (160, [vr 32 0, z1, vi (w32 (x2 + 1))], [], (up (up s 32 0 21 y0) 32 0 18 (w32 ((s 32 0 18) + 1)))) := x_st 219 dX9_next_216 rfl (x_so 222 [vr 32 0, z1, vi (w32 (x2 + 1))] dX9_next_219 rfl (x_st 223 dX9_next_222 rfl (x_st 224 dX9_next_223 rfl (x_st 227 dX9_next_224 rfl (x_st 228 dX9_next_227 rfl (x_st 229 dX9_next_228 rfl (x_st 232 dX9_next_229 rfl (x_st 160 dX9_next_232 rfl (rfl)))))))))
theorem dX9_isWord_0 : decode cX9_isWord 0 = .ok (.aload_n 0, 1) := by decide +kernel
theorem dX9_isWord_1 : decode cX9_isWord 1 = .ok (.getfield 164, 3) := by decide +kernel
theorem dX9_isWord_4 : decode cX9_isWord 4 = .ok (.ifCond .ne 108, 3) := by decide +kernel
theorem dX9_isWord_7 : decode cX9_isWord 7 = .ok (.aload_n 0, 1) := by decide +kernel
theorem dX9_isWord_8 : decode cX9_isWord 8 = .ok (.getfield 149, 3) := by decide +kernel
theorem dX9_isWord_11 : decode cX9_isWord 11 = .ok (.iconst 1, 1) := by decide +kernel
theorem dX9_isWord_12 : decode cX9_isWord 12 = .ok (.if_icmp .ne 100, 3) := by decide +kernel
theorem dX9_isWord_15 : decode cX9_isWord 15 = .ok (.aload_n 0, 1) := by decide +kernel
theorem dX9_isWord_16 : decode cX9_isWord 16 = .ok (.getfield 140, 3) := by decide +kernel
theorem dX9_isWord_19 : decode cX9_isWord 19 = .ok (.aload_n 0, 1) := by decide +kernel
theorem dX9_isWord_20 : decode cX9_isWord 20 = .ok (.getfield 146, 3) := by decide +kernel
theorem dX9_isWord_23 : decode cX9_isWord 23 = .ok (.bipush 8, 2) := by decide +kernel
theorem dX9_isWord_25 : decode cX9_isWord 25 = .ok (.iadd, 1) := by decide +kernel
theorem dX9_isWord_26 : decode cX9_isWord 26 = .ok (.if_icmp .gt 86, 3) := by decide +kernel
theorem dX9_isWord_29 : decode cX9_isWord 29 = .ok (.aload_n 0, 1) := by decide +kernel
theorem dX9_isWord_30 : decode cX9_isWord 30 = .ok (.iconst 0, 1) := by decide +kernel
theorem dX9_isWord_31 : decode cX9_isWord 31 = .ok (.iload_n 1, 1) := by decide +kernel
theorem dX9_isWord_32 : decode cX9_isWord 32 = .ok (.invokevirtual 171, 3) := by decide +kernel
theorem dX9_isWord_35 : decode cX9_isWord 35 = .ok (.ifCond .eq 77, 3) := by decide +kernel
theorem dX9_isWord_38 : decode cX9_isWord 38 = .ok (.aload_n 0, 1) := by decide +kernel
theorem dX9_isWord_39 : decode cX9_isWord 39 = .ok (.iconst 1, 1) := by decide +kernel
theorem dX9_isWord_40 : decode cX9_isWord 40 = .ok (.iload_n 2, 1) := by decide +kernel
theorem dX9_isWord_41 : decode cX9_isWord 41 = .ok (.invokevirtual 171, 3) := by decide +kernel
theorem dX9_isWord_44 : decode cX9_isWord 44 = .ok (.ifCond .eq 68, 3) := by decide +kernel
theorem dX9_isWord_47 : decode cX9_isWord 47 = .ok (.aload_n 0, 1) := by decide +kernel
theorem dX9_isWord_48 : decode cX9_isWord 48 = .ok (.iconst 2, 1) := by decide +kernel
theorem dX9_isWord_49 : decode cX9_isWord 49 = .ok (.iload_n 3, 1) := by decide +kernel
theorem dX9_isWord_50 : decode cX9_isWord 50 = .ok (.invokevirtual 171, 3) := by decide +kernel
theorem dX9_isWord_53 : decode cX9_isWord 53 = .ok (.ifCond .eq 59, 3) := by decide +kernel
theorem dX9_isWord_56 : decode cX9_isWord 56 = .ok (.aload_n 0, 1) := by decide +kernel
theorem dX9_isWord_57 : decode cX9_isWord 57 = .ok (.iconst 3, 1) := by decide +kernel
theorem dX9_isWord_58 : decode cX9_isWord 58 = .ok (.iload 4, 2) := by decide +kernel
theorem dX9_isWord_60 : decode cX9_isWord 60 = .ok (.invokevirtual 171, 3) := by decide +kernel
theorem dX9_isWord_63 : decode cX9_isWord 63 = .ok (.ifCond .eq 49, 3) := by decide +kernel
theorem dX9_isWord_66 : decode cX9_isWord 66 = .ok (.aload_n 0, 1) := by decide +kernel
theorem dX9_isWord_67 : decode cX9_isWord 67 = .ok (.iconst 4, 1) := by decide +kernel
theorem dX9_isWord_68 : decode cX9_isWord 68 = .ok (.iload 5, 2) := by decide +kernel
theorem dX9_isWord_70 : decode cX9_isWord 70 = .ok (.invokevirtual 171, 3) := by decide +kernel
theorem dX9_isWord_73 : decode cX9_isWord 73 = .ok (.ifCond .eq 39, 3) := by decide +kernel
theorem dX9_isWord_76 : decode cX9_isWord 76 = .ok (.aload_n 0, 1) := by decide +kernel
theorem dX9_isWord_77 : decode cX9_isWord 77 = .ok (.iconst 5, 1) := by decide +kernel
theorem dX9_isWord_78 : decode cX9_isWord 78 = .ok (.iload 6, 2) := by decide +kernel
theorem dX9_isWord_80 : decode cX9_isWord 80 = .ok (.invokevirtual 171, 3) := by decide +kernel
theorem dX9_isWord_83 : decode cX9_isWord 83 = .ok (.ifCond .eq 29, 3) := by decide +kernel
theorem dX9_isWord_86 : decode cX9_isWord 86 = .ok (.aload_n 0, 1) := by decide +kernel
theorem dX9_isWord_87 : decode cX9_isWord 87 = .ok (.bipush 6, 2) := by decide +kernel
theorem dX9_isWord_89 : decode cX9_isWord 89 = .ok (.iload 7, 2) := by decide +kernel
theorem dX9_isWord_91 : decode cX9_isWord 91 = .ok (.invokevirtual 171, 3) := by decide +kernel
theorem dX9_isWord_94 : decode cX9_isWord 94 = .ok (.ifCond .eq 18, 3) := by decide +kernel
theorem dX9_isWord_97 : decode cX9_isWord 97 = .ok (.aload_n 0, 1) := by decide +kernel
theorem dX9_isWord_98 : decode cX9_isWord 98 = .ok (.bipush 7, 2) := by decide +kernel
theorem dX9_isWord_100 : decode cX9_isWord 100 = .ok (.iload 8, 2) := by decide +kernel
theorem dX9_isWord_102 : decode cX9_isWord 102 = .ok (.invokevirtual 171, 3) := by decide +kernel
theorem dX9_isWord_105 : decode cX9_isWord 105 = .ok (.ifCond .eq 7, 3) := by decide +kernel
theorem dX9_isWord_108 : decode cX9_isWord 108 = .ok (.iconst 1, 1) := by decide +kernel
theorem dX9_isWord_109 : decode cX9_isWord 109 = .ok (.goto 4, 3) := by decide +kernel
theorem dX9_isWord_112 : decode cX9_isWord 112 = .ok (.iconst 0, 1) := by decide +kernel
theorem dX9_isWord_113 : decode cX9_isWord 113 = .ok (.ireturn, 1) := by decide +kernel
theorem qX9_isWord (d : Nat) (x1 : Int) (x2 : Int) (x3 : Int) (x4 : Int) (x5 : Int) (x6 : Int) (x7 : Int) (x8 : Int) (s : Sg) : RUN (d + 1) mX9_isWord [vr 32 0, vi x1, vi x2, vi x3, vi x4, vi x5, vi x6, vi x7, vi x8] s = if (s 32 0 23) = 0 then (if (s 32 0 19) = 1 then (if (w32 ((s 32 0 20) + 8)) < (s 32 0 18) then (some (some (vi 0), s)) else (bI (RUN d mX9_isLetter [vr 32 0, vi 0, vi x1] s) (fun r1 s1 => if r1 = 0 then (some (some (vi 0), s1)) else (bI (RUN d mX9_isLetter [vr 32 0, vi 1, vi x2] s1) (fun r2 s2 => if r2 = 0 then (some (some (vi 0), s2)) else (bI (RUN d mX9_isLetter [vr 32 0, vi 2, vi x3] s2) (fun r3 s3 => if r3 = 0 then (some (some (vi 0), s3)) else (bI (RUN d mX9_isLetter [vr 32 0, vi 3, vi x4] s3) (fun r4 s4 => if r4 = 0 then (some (some (vi 0), s4)) else (bI (RUN d mX9_isLetter [vr 32 0, vi 4, vi x5] s4) (fun r5 s5 => if r5 = 0 then (some (some (vi 0), s5)) else (bI (RUN d mX9_isLetter [vr 32 0, vi 5, vi x6] s5) (fun r6 s6 => if r6 = 0 then (some (some (vi 0), s6)) else (bI (RUN d mX9_isLetter [vr 32 0, vi 6, vi x7] s6) (fun r7 s7 => if r7 = 0 then (some (some (vi 0), s7)) else (bI (RUN d mX9_isLetter [vr 32 0, vi 7, vi x8] s7) (fun r8 s8 => if r8 = 0 then (some (some (vi 0), s8)) else (some (some (vi 1), s8))))))))))))))))))) else (some (some (vi 0), s))) else (some (some (vi 0), s)) := x_run rfl (x_st 1 dX9_isWord_0 rfl (x_st 4 dX9_isWord_1 rfl (x_br dX9_isWord_4 (x_if (x_go 7 (x_st 8 dX9_isWord_7 rfl (x_st 11 dX9_isWord_8 rfl (x_st 12 dX9_isWord_11 rfl (x_br dX9_isWord_12 (x_if (x_go 15 (x_st 16 dX9_isWord_15 rfl (x_st 19 dX9_isWord_16 rfl (x_st 20 dX9_isWord_19 rfl (x_st 23 dX9_isWord_20 rfl (x_st 25 dX9_isWord_23 rfl (x_st 26 dX9_isWord_25 rfl (x_br dX9_isWord_26 (x_if (x_go 112 (x_st 113 dX9_isWord_112 rfl (x_ret dX9_isWord_113 rfl))) (x_go 29 (x_st 30 dX9_isWord_29 rfl (x_st 31 dX9_isWord_30 rfl (x_st 32 dX9_isWord_31 rfl (x_ci 35 [vr 32 0, vi x1, vi x2, vi x3, vi x4, vi x5, vi x6, vi x7, vi x8] [] dX9_isWord_32 rfl (fun r1 s1 => x_br dX9_isWord_35 (x_if (x_go 112 (x_st 113 dX9_isWord_112 rfl (x_ret dX9_isWord_113 rfl))) (x_go 38 (x_st 39 dX9_isWord_38 rfl (x_st 40 dX9_isWord_39 rfl (x_st 41 dX9_isWord_40 rfl (x_ci 44 [vr 32 0, vi x1, vi x2, vi x3, vi x4, vi x5, vi x6, vi x7, vi x8] [] dX9_isWord_41 rfl (fun r2 s2 => x_br dX9_isWord_44 (x_if (x_go 112 (x_st 113 dX9_isWord_112 rfl (x_ret dX9_isWord_113 rfl))) (x_go 47 (x_st 48 dX9_isWord_47 rfl (x_st 49 dX9_isWord_48 rfl (x_st 50 dX9_isWord_49 rfl (x_ci 53 [vr 32 0, vi x1, vi x2, vi x3, vi x4, vi x5, vi x6, vi x7, vi x8] [] dX9_isWord_50 rfl (fun r3 s3 => x_br dX9_isWord_53 (x_if (x_go 112 (x_st 113 dX9_isWord_112 rfl (x_ret dX9_isWord_113 rfl))) (x_go 56 (x_st 57 dX9_isWord_56 rfl (x_st 58 dX9_isWord_57 rfl (x_st 60 dX9_isWord_58 rfl (x_ci 63 [vr 32 0, vi x1, vi x2, vi x3, vi x4, vi x5, vi x6, vi x7, vi x8] [] dX9_isWord_60 rfl (fun r4 s4 => x_br dX9_isWord_63 (x_if (x_go 112 (x_st 113 dX9_isWord_112 rfl (x_ret dX9_isWord_113 rfl))) (x_go 66 (x_st 67 dX9_isWord_66 rfl (x_st 68 dX9_isWord_67 rfl (x_st 70 dX9_isWord_68 rfl (x_ci 73 [vr 32 0, vi x1, vi x2, vi x3, vi x4, vi x5, vi x6, vi x7, vi x8] [] dX9_isWord_70 rfl (fun r5 s5 => x_br dX9_isWord_73 (x_if (x_go 112 (x_st 113 dX9_isWord_112 rfl (x_ret dX9_isWord_113 rfl))) (x_go 76 (x_st 77 dX9_isWord_76 rfl (x_st 78 dX9_isWord_77 rfl (x_st 80 dX9_isWord_78 rfl (x_ci 83 [vr 32 0, vi x1, vi x2, vi x3, vi x4, vi x5, vi x6, vi x7, vi x8] [] dX9_isWord_80 rfl (fun r6 s6 => x_br dX9_isWord_83 (x_if (x_go 112 (x_st 113 dX9_isWord_112 rfl (x_ret dX9_isWord_113 rfl))) (x_go 86 (x_st 87 dX9_isWord_86 rfl (x_st 89 dX9_isWord_87 rfl (x_st 91 dX9_isWord_89 rfl (x_ci 94 [vr 32 0, vi x1, vi x2, vi x3, vi x4, vi x5, vi x6, vi x7, vi x8] [] dX9_isWord_91 rfl (fun r7 s7 => x_br dX9_isWord_94 (x_if (x_go 112 (x_st 113 dX9_isWord_112 rfl (x_ret dX9_isWord_113 rfl))) (x_go 97 (x_st 98 dX9_isWord_97 rfl (x_st 100 dX9_isWord_98 rfl (x_st 102 dX9_isWord_100 rfl (x_ci 105 [vr 32 0, vi x1, vi x2, vi x3, vi x4, vi x5, vi x6, vi x7, vi x8] [] dX9_isWord_102 rfl (fun r8 s8 => x_br dX9_isWord_105 (x_if (x_go 112 (x_st 113 dX9_isWord_112 rfl (x_ret dX9_isWord_113 rfl))) (x_go 108 (x_st 109 dX9_isWord_108 rfl (x_st 113 dX9_isWord_109 rfl (x_ret dX9_isWord_113 rfl))))))))))))))))))))))))))))))))))))))))))))))))))))))))))))))))))))) (x_go 112 (x_st 113 dX9_isWord_112 rfl (x_ret dX9_isWord_113 rfl))))))))) (x_go 112 (x_st 113 dX9_isWord_112 rfl (x_ret dX9_isWord_113 rfl)))))))
theorem dX9_part_0 : decode cX9_part 0 = .ok (.iload_n 1, 1) := by decide +kernel
theorem dX9_part_1 : decode cX9_part 1 = .ok (.ifCond .ne 7, 3) := by decide +kernel
theorem dX9_part_4 : decode cX9_part 4 = .ok (.aload_n 0, 1) := by decide +kernel
theorem dX9_part_5 : decode cX9_part 5 = .ok (.invokevirtual 177, 3) := by decide +kernel
theorem dX9_part_8 : decode cX9_part 8 = .ok (.aload_n 0, 1) := by decide +kernel
theorem dX9_part_9 : decode cX9_part 9 = .ok (.getfield 164, 3) := by decide +kernel
theorem dX9_part_12 : decode cX9_part 12 = .ok (.ifCond .ne 7, 3) := by decide +kernel
theorem dX9_part_15 : decode cX9_part 15 = .ok (.aload_n 0, 1) := by decide +kernel
theorem dX9_part_16 : decode cX9_part 16 = .ok (.invokevirtual 180, 3) := by decide +kernel
theorem dX9_part_19 : decode cX9_part 19 = .ok (.aload_n 0, 1) := by decide +kernel
theorem dX9_part_20 : decode cX9_part 20 = .ok (.getfield 164, 3) := by decide +kernel
theorem dX9_part_23 : decode cX9_part 23 = .ok (.ifCond .eq 7, 3) := by decide +kernel
theorem dX9_part_26 : decode cX9_part 26 = .ok (.iconst 0, 1) := by decide +kernel
theorem dX9_part_27 : decode cX9_part 27 = .ok (.goto 7, 3) := by decide +kernel
theorem dX9_part_30 : decode cX9_part 30 = .ok (.aload_n 0, 1) := by decide +kernel
theorem dX9_part_31 : decode cX9_part 31 = .ok (.invokevirtual 216, 3) := by decide +kernel
theorem dX9_part_34 : decode cX9_part 34 = .ok (.istore_n 2, 1) := by decide +kernel
theorem dX9_part_35 : decode cX9_part 35 = .ok (.aload_n 0, 1) := by decide +kernel
theorem dX9_part_36 : decode cX9_part 36 = .ok (.bipush 59, 2) := by decide +kernel
theorem dX9_part_38 : decode cX9_part 38 = .ok (.invokevirtual 205, 3) := by decide +kernel
theorem dX9_part_41 : decode cX9_part 41 = .ok (.ifCond .ne 7, 3) := by decide +kernel
theorem dX9_part_44 : decode cX9_part 44 = .ok (.aload_n 0, 1) := by decide +kernel
theorem dX9_part_45 : decode cX9_part 45 = .ok (.invokevirtual 177, 3) := by decide +kernel
theorem dX9_part_48 : decode cX9_part 48 = .ok (.aload_n 0, 1) := by decide +kernel
theorem dX9_part_49 : decode cX9_part 49 = .ok (.getfield 164, 3) := by decide +kernel
theorem dX9_part_52 : decode cX9_part 52 = .ok (.ifCond .ne 7, 3) := by decide +kernel
theorem dX9_part_55 : decode cX9_part 55 = .ok (.aload_n 0, 1) := by decide +kernel
theorem dX9_part_56 : decode cX9_part 56 = .ok (.invokevirtual 180, 3) := by decide +kernel
theorem dX9_part_59 : decode cX9_part 59 = .ok (.iload_n 2, 1) := by decide +kernel
theorem dX9_part_60 : decode cX9_part 60 = .ok (.ireturn, 1) := by decide +kernel
theorem qX9_part (d : Nat) (x1 : Int) (s : Sg) : RUN (d + 1) mX9_part [vr 32 0, vi x1] s = if x1 = 0 then (bV (RUN d mX9_fail [vr 32 0] s) (fun s1 => EV (d + 1) mX9_part (8, [vr 32 0, vi x1, UU], [], s1))) else (EV (d + 1) mX9_part (8, [vr 32 0, vi x1, UU], [], s)) := x_run rfl (x_st 1 dX9_part_0 rfl (x_br dX9_part_1 (x_if (x_go 4 (x_st 5 dX9_part_4 rfl (x_cv 8 [vr 32 0, vi x1, UU] [] dX9_part_5 rfl (fun s1 => rfl)))) (x_go 8 (rfl)))))
theorem qX9_part_8 (d : Nat) (z1 : PV) (z2 : PV) (s : Sg) : EV (d + 1) mX9_part (8, [vr 32 0, z1, z2], [], s) = if (s 32 0 23) = 0 then (bV (RUN d mX9_next [vr 32 0] s) (fun s1 => EV (d + 1) mX9_part (19, [vr 32 0, z1, z2], [], s1))) else (EV (d + 1) mX9_part (19, [vr 32 0, z1, z2], [], s)) := x_st 9 dX9_part_8 rfl (x_st 12 dX9_part_9 rfl (x_br dX9_part_12 (x_if (x_go 15 (x_st 16 dX9_part_15 rfl (x_cv 19 [vr 32 0, z1, z2] [] dX9_part_16 rfl (fun s1 => rfl)))) (x_go 19 (rfl)))))
theorem qX9_part_19 (d : Nat) (z1 : PV) (z2 : PV) (s : Sg) : EV (d + 1) mX9_part (19, [vr 32 0, z1, z2], [], s) = if (s 32 0 23) = 0 then (bI (RUN d mX9_either [vr 32 0] s) (fun r1 s1 => EV (d + 1) mX9_part (34, [vr 32 0, z1, z2], [vi r1], s1))) else (EV (d + 1) mX9_part (34, [vr 32 0, z1, z2], [vi 0], s)) := x_st 20 dX9_part_19 rfl (x_st 23 dX9_part_20 rfl (x_br dX9_part_23 (x_if (x_go 30 (x_st 31 dX9_part_30 rfl (x_ci 34 [vr 32 0, z1, z2] [] dX9_part_31 rfl (fun r1 s1 => rfl)))) (x_go 26 (x_st 27 dX9_part_26 rfl (x_st 34 dX9_part_27 rfl (rfl)))))))
theorem qX9_part_34 (d : Nat) (z1 : PV) (z2 : PV) (y0 : Int) (s : Sg) : EV (d + 1) mX9_part (34, [vr 32 0, z1, z2], [vi y0], s) = bI (RUN d mX9_isSign [vr 32 0, vi 59] s) (fun r1 s1 => if r1 = 0 then (bV (RUN d mX9_fail [vr 32 0] s1) (fun s2 => EV (d + 1) mX9_part (48, [vr 32 0, z1, vi y0], [], s2))) else (EV (d + 1) mX9_part (48, [vr 32 0, z1, vi y0], [], s1))) := x_so 35 [vr 32 0, z1, vi y0] dX9_part_34 rfl (x_st 36 dX9_part_35 rfl (x_st 38 dX9_part_36 rfl (x_ci 41 [vr 32 0, z1, vi y0] [] dX9_part_38 rfl (fun r1 s1 => x_br dX9_part_41 (x_if (x_go 44 (x_st 45 dX9_part_44 rfl (x_cv 48 [vr 32 0, z1, vi y0] [] dX9_part_45 rfl (fun s2 => rfl)))) (x_go 48 (rfl)))))))
theorem qX9_part_48 (d : Nat) (z1 : PV) (x2 : Int) (s : Sg) : EV (d + 1) mX9_part (48, [vr 32 0, z1, vi x2], [], s) = if (s 32 0 23) = 0 then (bV (RUN d mX9_next [vr 32 0] s) (fun s1 => some (some (vi x2), s1))) else (some (some (vi x2), s)) := x_st 49 dX9_part_48 rfl (x_st 52 dX9_part_49 rfl (x_br dX9_part_52 (x_if (x_go 55 (x_st 56 dX9_part_55 rfl (x_cv 59 [vr 32 0, z1, vi x2] [] dX9_part_56 rfl (fun s1 => x_st 60 dX9_part_59 rfl (x_ret dX9_part_60 rfl))))) (x_go 59 (x_st 60 dX9_part_59 rfl (x_ret dX9_part_60 rfl))))))
theorem dX9_badOf_0 : decode cX9_badOf 0 = .ok (.aload_n 0, 1) := by decide +kernel
theorem dX9_badOf_1 : decode cX9_badOf 1 = .ok (.iconst 2, 1) := by decide +kernel
theorem dX9_badOf_2 : decode cX9_badOf 2 = .ok (.iload_n 1, 1) := by decide +kernel
theorem dX9_badOf_3 : decode cX9_badOf 3 = .ok (.iload_n 2, 1) := by decide +kernel
theorem dX9_badOf_4 : decode cX9_badOf 4 = .ok (.aload_n 0, 1) := by decide +kernel
theorem dX9_badOf_5 : decode cX9_badOf 5 = .ok (.getfield 26, 3) := by decide +kernel
theorem dX9_badOf_8 : decode cX9_badOf 8 = .ok (.iconst 5, 1) := by decide +kernel
theorem dX9_badOf_9 : decode cX9_badOf 9 = .ok (.iload_n 1, 1) := by decide +kernel
theorem dX9_badOf_10 : decode cX9_badOf 10 = .ok (.imul, 1) := by decide +kernel
theorem dX9_badOf_11 : decode cX9_badOf 11 = .ok (.iconst 3, 1) := by decide +kernel
theorem dX9_badOf_12 : decode cX9_badOf 12 = .ok (.iadd, 1) := by decide +kernel
theorem dX9_badOf_13 : decode cX9_badOf 13 = .ok (.iaload, 1) := by decide +kernel
theorem dX9_badOf_14 : decode cX9_badOf 14 = .ok (.iconst 0, 1) := by decide +kernel
theorem dX9_badOf_15 : decode cX9_badOf 15 = .ok (.invokevirtual 125, 3) := by decide +kernel
theorem dX9_badOf_18 : decode cX9_badOf 18 = .ok (.aload_n 0, 1) := by decide +kernel
theorem dX9_badOf_19 : decode cX9_badOf 19 = .ok (.iload_n 1, 1) := by decide +kernel
theorem dX9_badOf_20 : decode cX9_badOf 20 = .ok (.invokevirtual 267, 3) := by decide +kernel
theorem dX9_badOf_23 : decode cX9_badOf 23 = .ok (.imul, 1) := by decide +kernel
theorem dX9_badOf_24 : decode cX9_badOf 24 = .ok (.ireturn, 1) := by decide +kernel
theorem qX9_badOf (d : Nat) (x1 : Int) (x2 : Int) (s : Sg) : RUN (d + 1) mX9_badOf [vr 32 0, vi x1, vi x2] s = if inb (w32 ((w32 (5 * x1)) + 3)) 30 then (bI (RUN d mX9_asks [vr 32 0, vi 2, vi x1, vi x2, vi (s 37 0 (Int.toNat (w32 ((w32 (5 * x1)) + 3)))), vi 0] s) (fun r1 s1 => bI (RUN d mX9_waitedOf [vr 32 0, vi x1] s1) (fun r2 s2 => some (some (vi (w32 (r1 * r2))), s2)))) else none := x_run rfl (x_st 1 dX9_badOf_0 rfl (x_st 2 dX9_badOf_1 rfl (x_st 3 dX9_badOf_2 rfl (x_st 4 dX9_badOf_3 rfl (x_st 5 dX9_badOf_4 rfl (x_st 8 dX9_badOf_5 rfl (x_st 9 dX9_badOf_8 rfl (x_st 10 dX9_badOf_9 rfl (x_st 11 dX9_badOf_10 rfl (x_st 12 dX9_badOf_11 rfl (x_st 13 dX9_badOf_12 rfl (x_br dX9_badOf_13 (x_if (x_go 14 (x_st 15 dX9_badOf_14 rfl (x_ci 18 [vr 32 0, vi x1, vi x2] [] dX9_badOf_15 rfl (fun r1 s1 => x_st 19 dX9_badOf_18 rfl (x_st 20 dX9_badOf_19 rfl (x_ci 23 [vr 32 0, vi x1, vi x2] [vi r1] dX9_badOf_20 rfl (fun r2 s2 => x_st 24 dX9_badOf_23 rfl (x_ret dX9_badOf_24 rfl)))))))) x_no)))))))))))))
theorem dX9_isLetter_0 : decode cX9_isLetter 0 = .ok (.aload_n 0, 1) := by decide +kernel
theorem dX9_isLetter_1 : decode cX9_isLetter 1 = .ok (.getfield 146, 3) := by decide +kernel
theorem dX9_isLetter_4 : decode cX9_isLetter 4 = .ok (.iload_n 1, 1) := by decide +kernel
theorem dX9_isLetter_5 : decode cX9_isLetter 5 = .ok (.iadd, 1) := by decide +kernel
theorem dX9_isLetter_6 : decode cX9_isLetter 6 = .ok (.aload_n 0, 1) := by decide +kernel
theorem dX9_isLetter_7 : decode cX9_isLetter 7 = .ok (.getfield 140, 3) := by decide +kernel
theorem dX9_isLetter_10 : decode cX9_isLetter 10 = .ok (.if_icmp .ge 25, 3) := by decide +kernel
theorem dX9_isLetter_13 : decode cX9_isLetter 13 = .ok (.aload_n 0, 1) := by decide +kernel
theorem dX9_isLetter_14 : decode cX9_isLetter 14 = .ok (.aload_n 0, 1) := by decide +kernel
theorem dX9_isLetter_15 : decode cX9_isLetter 15 = .ok (.getfield 146, 3) := by decide +kernel
theorem dX9_isLetter_18 : decode cX9_isLetter 18 = .ok (.iload_n 1, 1) := by decide +kernel
theorem dX9_isLetter_19 : decode cX9_isLetter 19 = .ok (.iadd, 1) := by decide +kernel
theorem dX9_isLetter_20 : decode cX9_isLetter 20 = .ok (.invokevirtual 143, 3) := by decide +kernel
theorem dX9_isLetter_23 : decode cX9_isLetter 23 = .ok (.iload_n 2, 1) := by decide +kernel
theorem dX9_isLetter_24 : decode cX9_isLetter 24 = .ok (.if_icmp .ne 7, 3) := by decide +kernel
theorem dX9_isLetter_27 : decode cX9_isLetter 27 = .ok (.iconst 1, 1) := by decide +kernel
theorem dX9_isLetter_28 : decode cX9_isLetter 28 = .ok (.goto 16, 3) := by decide +kernel
theorem dX9_isLetter_31 : decode cX9_isLetter 31 = .ok (.iconst 0, 1) := by decide +kernel
theorem dX9_isLetter_32 : decode cX9_isLetter 32 = .ok (.goto 12, 3) := by decide +kernel
theorem dX9_isLetter_35 : decode cX9_isLetter 35 = .ok (.iload_n 2, 1) := by decide +kernel
theorem dX9_isLetter_36 : decode cX9_isLetter 36 = .ok (.ifCond .ne 7, 3) := by decide +kernel
theorem dX9_isLetter_39 : decode cX9_isLetter 39 = .ok (.iconst 1, 1) := by decide +kernel
theorem dX9_isLetter_40 : decode cX9_isLetter 40 = .ok (.goto 4, 3) := by decide +kernel
theorem dX9_isLetter_43 : decode cX9_isLetter 43 = .ok (.iconst 0, 1) := by decide +kernel
theorem dX9_isLetter_44 : decode cX9_isLetter 44 = .ok (.ireturn, 1) := by decide +kernel
theorem qX9_isLetter (d : Nat) (x1 : Int) (x2 : Int) (s : Sg) : RUN (d + 1) mX9_isLetter [vr 32 0, vi x1, vi x2] s = if (w32 ((s 32 0 20) + x1)) < (s 32 0 18) then (bI (RUN d mX9_byteAt [vr 32 0, vi (w32 ((s 32 0 20) + x1))] s) (fun r1 s1 => if r1 = x2 then (some (some (vi 1), s1)) else (some (some (vi 0), s1)))) else (if x2 = 0 then (some (some (vi 1), s)) else (some (some (vi 0), s))) := x_run rfl (x_st 1 dX9_isLetter_0 rfl (x_st 4 dX9_isLetter_1 rfl (x_st 5 dX9_isLetter_4 rfl (x_st 6 dX9_isLetter_5 rfl (x_st 7 dX9_isLetter_6 rfl (x_st 10 dX9_isLetter_7 rfl (x_br dX9_isLetter_10 (x_if (x_go 13 (x_st 14 dX9_isLetter_13 rfl (x_st 15 dX9_isLetter_14 rfl (x_st 18 dX9_isLetter_15 rfl (x_st 19 dX9_isLetter_18 rfl (x_st 20 dX9_isLetter_19 rfl (x_ci 23 [vr 32 0, vi x1, vi x2] [] dX9_isLetter_20 rfl (fun r1 s1 => x_st 24 dX9_isLetter_23 rfl (x_br dX9_isLetter_24 (x_if (x_go 27 (x_st 28 dX9_isLetter_27 rfl (x_st 44 dX9_isLetter_28 rfl (x_ret dX9_isLetter_44 rfl)))) (x_go 31 (x_st 32 dX9_isLetter_31 rfl (x_st 44 dX9_isLetter_32 rfl (x_ret dX9_isLetter_44 rfl)))))))))))))) (x_go 35 (x_st 36 dX9_isLetter_35 rfl (x_br dX9_isLetter_36 (x_if (x_go 39 (x_st 40 dX9_isLetter_39 rfl (x_st 44 dX9_isLetter_40 rfl (x_ret dX9_isLetter_44 rfl)))) (x_go 43 (x_st 44 dX9_isLetter_43 rfl (x_ret dX9_isLetter_44 rfl)))))))))))))))
theorem dX9_fail_0 : decode cX9_fail 0 = .ok (.aload_n 0, 1) := by decide +kernel
theorem dX9_fail_1 : decode cX9_fail 1 = .ok (.getfield 164, 3) := by decide +kernel
theorem dX9_fail_4 : decode cX9_fail 4 = .ok (.ifCond .ne 16, 3) := by decide +kernel
theorem dX9_fail_7 : decode cX9_fail 7 = .ok (.aload_n 0, 1) := by decide +kernel
theorem dX9_fail_8 : decode cX9_fail 8 = .ok (.iconst 1, 1) := by decide +kernel
theorem dX9_fail_9 : decode cX9_fail 9 = .ok (.putfield 164, 3) := by decide +kernel
theorem dX9_fail_12 : decode cX9_fail 12 = .ok (.aload_n 0, 1) := by decide +kernel
theorem dX9_fail_13 : decode cX9_fail 13 = .ok (.aload_n 0, 1) := by decide +kernel
theorem dX9_fail_14 : decode cX9_fail 14 = .ok (.getfield 146, 3) := by decide +kernel
theorem dX9_fail_17 : decode cX9_fail 17 = .ok (.putfield 168, 3) := by decide +kernel
theorem dX9_fail_20 : decode cX9_fail 20 = .ok (.return_, 1) := by decide +kernel
theorem qX9_fail (d : Nat) (s : Sg) : RUN d mX9_fail [vr 32 0] s = if (s 32 0 23) = 0 then (some (none, (up (up s 32 0 23 1) 32 0 24 (s 32 0 20)))) else (some (none, s)) := x_run rfl (x_st 1 dX9_fail_0 rfl (x_st 4 dX9_fail_1 rfl (x_br dX9_fail_4 (x_if (x_go 7 (x_st 8 dX9_fail_7 rfl (x_st 9 dX9_fail_8 rfl (x_st 12 dX9_fail_9 rfl (x_st 13 dX9_fail_12 rfl (x_st 14 dX9_fail_13 rfl (x_st 17 dX9_fail_14 rfl (x_st 20 dX9_fail_17 rfl (x_ret dX9_fail_20 rfl))))))))) (x_go 20 (x_ret dX9_fail_20 rfl))))))
theorem dX9_isAhead_0 : decode cX9_isAhead 0 = .ok (.aload_n 0, 1) := by decide +kernel
theorem dX9_isAhead_1 : decode cX9_isAhead 1 = .ok (.getfield 26, 3) := by decide +kernel
theorem dX9_isAhead_4 : decode cX9_isAhead 4 = .ok (.iconst 5, 1) := by decide +kernel
theorem dX9_isAhead_5 : decode cX9_isAhead 5 = .ok (.iload_n 1, 1) := by decide +kernel
theorem dX9_isAhead_6 : decode cX9_isAhead 6 = .ok (.imul, 1) := by decide +kernel
theorem dX9_isAhead_7 : decode cX9_isAhead 7 = .ok (.iconst 3, 1) := by decide +kernel
theorem dX9_isAhead_8 : decode cX9_isAhead 8 = .ok (.iadd, 1) := by decide +kernel
theorem dX9_isAhead_9 : decode cX9_isAhead 9 = .ok (.iaload, 1) := by decide +kernel
theorem dX9_isAhead_10 : decode cX9_isAhead 10 = .ok (.aload_n 0, 1) := by decide +kernel
theorem dX9_isAhead_11 : decode cX9_isAhead 11 = .ok (.getfield 26, 3) := by decide +kernel
theorem dX9_isAhead_14 : decode cX9_isAhead 14 = .ok (.iconst 5, 1) := by decide +kernel
theorem dX9_isAhead_15 : decode cX9_isAhead 15 = .ok (.iload_n 2, 1) := by decide +kernel
theorem dX9_isAhead_16 : decode cX9_isAhead 16 = .ok (.imul, 1) := by decide +kernel
theorem dX9_isAhead_17 : decode cX9_isAhead 17 = .ok (.iconst 3, 1) := by decide +kernel
theorem dX9_isAhead_18 : decode cX9_isAhead 18 = .ok (.iadd, 1) := by decide +kernel
theorem dX9_isAhead_19 : decode cX9_isAhead 19 = .ok (.iaload, 1) := by decide +kernel
theorem dX9_isAhead_20 : decode cX9_isAhead 20 = .ok (.if_icmp .lt 31, 3) := by decide +kernel
theorem dX9_isAhead_23 : decode cX9_isAhead 23 = .ok (.aload_n 0, 1) := by decide +kernel
theorem dX9_isAhead_24 : decode cX9_isAhead 24 = .ok (.getfield 26, 3) := by decide +kernel
theorem dX9_isAhead_27 : decode cX9_isAhead 27 = .ok (.iconst 5, 1) := by decide +kernel
theorem dX9_isAhead_28 : decode cX9_isAhead 28 = .ok (.iload_n 1, 1) := by decide +kernel
theorem dX9_isAhead_29 : decode cX9_isAhead 29 = .ok (.imul, 1) := by decide +kernel
theorem dX9_isAhead_30 : decode cX9_isAhead 30 = .ok (.iconst 3, 1) := by decide +kernel
theorem dX9_isAhead_31 : decode cX9_isAhead 31 = .ok (.iadd, 1) := by decide +kernel
theorem dX9_isAhead_32 : decode cX9_isAhead 32 = .ok (.iaload, 1) := by decide +kernel
theorem dX9_isAhead_33 : decode cX9_isAhead 33 = .ok (.aload_n 0, 1) := by decide +kernel
theorem dX9_isAhead_34 : decode cX9_isAhead 34 = .ok (.getfield 26, 3) := by decide +kernel
theorem dX9_isAhead_37 : decode cX9_isAhead 37 = .ok (.iconst 5, 1) := by decide +kernel
theorem dX9_isAhead_38 : decode cX9_isAhead 38 = .ok (.iload_n 2, 1) := by decide +kernel
theorem dX9_isAhead_39 : decode cX9_isAhead 39 = .ok (.imul, 1) := by decide +kernel
theorem dX9_isAhead_40 : decode cX9_isAhead 40 = .ok (.iconst 3, 1) := by decide +kernel
theorem dX9_isAhead_41 : decode cX9_isAhead 41 = .ok (.iadd, 1) := by decide +kernel
theorem dX9_isAhead_42 : decode cX9_isAhead 42 = .ok (.iaload, 1) := by decide +kernel
theorem dX9_isAhead_43 : decode cX9_isAhead 43 = .ok (.if_icmp .ne 12, 3) := by decide +kernel
theorem dX9_isAhead_46 : decode cX9_isAhead 46 = .ok (.iload_n 1, 1) := by decide +kernel
theorem dX9_isAhead_47 : decode cX9_isAhead 47 = .ok (.iload_n 2, 1) := by decide +kernel
theorem dX9_isAhead_48 : decode cX9_isAhead 48 = .ok (.if_icmp .ge 7, 3) := by decide +kernel
theorem dX9_isAhead_51 : decode cX9_isAhead 51 = .ok (.iconst 1, 1) := by decide +kernel
theorem dX9_isAhead_52 : decode cX9_isAhead 52 = .ok (.goto 4, 3) := by decide +kernel
theorem dX9_isAhead_55 : decode cX9_isAhead 55 = .ok (.iconst 0, 1) := by decide +kernel
theorem dX9_isAhead_56 : decode cX9_isAhead 56 = .ok (.ireturn, 1) := by decide +kernel
theorem qX9_isAhead (d : Nat) (x1 : Int) (x2 : Int) (s : Sg) : RUN d mX9_isAhead [vr 32 0, vi x1, vi x2] s = if inb (w32 ((w32 (5 * x1)) + 3)) 30 then (if inb (w32 ((w32 (5 * x2)) + 3)) 30 then (if (s 37 0 (Int.toNat (w32 ((w32 (5 * x1)) + 3)))) < (s 37 0 (Int.toNat (w32 ((w32 (5 * x2)) + 3)))) then (some (some (vi 1), s)) else (if inb (w32 ((w32 (5 * x1)) + 3)) 30 then (if inb (w32 ((w32 (5 * x2)) + 3)) 30 then (if (s 37 0 (Int.toNat (w32 ((w32 (5 * x1)) + 3)))) = (s 37 0 (Int.toNat (w32 ((w32 (5 * x2)) + 3)))) then (if x1 < x2 then (some (some (vi 1), s)) else (some (some (vi 0), s))) else (some (some (vi 0), s))) else none) else none)) else none) else none := x_run rfl (x_st 1 dX9_isAhead_0 rfl (x_st 4 dX9_isAhead_1 rfl (x_st 5 dX9_isAhead_4 rfl (x_st 6 dX9_isAhead_5 rfl (x_st 7 dX9_isAhead_6 rfl (x_st 8 dX9_isAhead_7 rfl (x_st 9 dX9_isAhead_8 rfl (x_br dX9_isAhead_9 (x_if (x_go 10 (x_st 11 dX9_isAhead_10 rfl (x_st 14 dX9_isAhead_11 rfl (x_st 15 dX9_isAhead_14 rfl (x_st 16 dX9_isAhead_15 rfl (x_st 17 dX9_isAhead_16 rfl (x_st 18 dX9_isAhead_17 rfl (x_st 19 dX9_isAhead_18 rfl (x_br dX9_isAhead_19 (x_if (x_go 20 (x_br dX9_isAhead_20 (x_if (x_go 51 (x_st 52 dX9_isAhead_51 rfl (x_st 56 dX9_isAhead_52 rfl (x_ret dX9_isAhead_56 rfl)))) (x_go 23 (x_st 24 dX9_isAhead_23 rfl (x_st 27 dX9_isAhead_24 rfl (x_st 28 dX9_isAhead_27 rfl (x_st 29 dX9_isAhead_28 rfl (x_st 30 dX9_isAhead_29 rfl (x_st 31 dX9_isAhead_30 rfl (x_st 32 dX9_isAhead_31 rfl (x_br dX9_isAhead_32 (x_if (x_go 33 (x_st 34 dX9_isAhead_33 rfl (x_st 37 dX9_isAhead_34 rfl (x_st 38 dX9_isAhead_37 rfl (x_st 39 dX9_isAhead_38 rfl (x_st 40 dX9_isAhead_39 rfl (x_st 41 dX9_isAhead_40 rfl (x_st 42 dX9_isAhead_41 rfl (x_br dX9_isAhead_42 (x_if (x_go 43 (x_br dX9_isAhead_43 (x_if (x_go 46 (x_st 47 dX9_isAhead_46 rfl (x_st 48 dX9_isAhead_47 rfl (x_br dX9_isAhead_48 (x_if (x_go 51 (x_st 52 dX9_isAhead_51 rfl (x_st 56 dX9_isAhead_52 rfl (x_ret dX9_isAhead_56 rfl)))) (x_go 55 (x_st 56 dX9_isAhead_55 rfl (x_ret dX9_isAhead_56 rfl)))))))) (x_go 55 (x_st 56 dX9_isAhead_55 rfl (x_ret dX9_isAhead_56 rfl)))))) x_no)))))))))) x_no))))))))))))) x_no)))))))))) x_no)))))))))
theorem dX9_byteAt_0 : decode cX9_byteAt 0 = .ok (.iload_n 1, 1) := by decide +kernel
theorem dX9_byteAt_1 : decode cX9_byteAt 1 = .ok (.aload_n 0, 1) := by decide +kernel
theorem dX9_byteAt_2 : decode cX9_byteAt 2 = .ok (.getfield 134, 3) := by decide +kernel
theorem dX9_byteAt_5 : decode cX9_byteAt 5 = .ok (.if_icmp .ge 17, 3) := by decide +kernel
theorem dX9_byteAt_8 : decode cX9_byteAt 8 = .ok (.aload_n 0, 1) := by decide +kernel
theorem dX9_byteAt_9 : decode cX9_byteAt 9 = .ok (.getfield 13, 3) := by decide +kernel
theorem dX9_byteAt_12 : decode cX9_byteAt 12 = .ok (.aload_n 0, 1) := by decide +kernel
theorem dX9_byteAt_13 : decode cX9_byteAt 13 = .ok (.getfield 137, 3) := by decide +kernel
theorem dX9_byteAt_16 : decode cX9_byteAt 16 = .ok (.iload_n 1, 1) := by decide +kernel
theorem dX9_byteAt_17 : decode cX9_byteAt 17 = .ok (.iadd, 1) := by decide +kernel
theorem dX9_byteAt_18 : decode cX9_byteAt 18 = .ok (.iaload, 1) := by decide +kernel
theorem dX9_byteAt_19 : decode cX9_byteAt 19 = .ok (.goto 4, 3) := by decide +kernel
theorem dX9_byteAt_22 : decode cX9_byteAt 22 = .ok (.iconst (-1), 1) := by decide +kernel
theorem dX9_byteAt_23 : decode cX9_byteAt 23 = .ok (.ireturn, 1) := by decide +kernel
theorem qX9_byteAt (d : Nat) (x1 : Int) (s : Sg) : RUN d mX9_byteAt [vr 32 0, vi x1] s = if x1 < (s 32 0 17) then (if inb (w32 ((s 32 0 16) + x1)) 960 then (some (some (vi (s 33 0 (Int.toNat (w32 ((s 32 0 16) + x1))))), s)) else none) else (some (some (vi (-1)), s)) := x_run rfl (x_st 1 dX9_byteAt_0 rfl (x_st 2 dX9_byteAt_1 rfl (x_st 5 dX9_byteAt_2 rfl (x_br dX9_byteAt_5 (x_if (x_go 8 (x_st 9 dX9_byteAt_8 rfl (x_st 12 dX9_byteAt_9 rfl (x_st 13 dX9_byteAt_12 rfl (x_st 16 dX9_byteAt_13 rfl (x_st 17 dX9_byteAt_16 rfl (x_st 18 dX9_byteAt_17 rfl (x_br dX9_byteAt_18 (x_if (x_go 19 (x_st 23 dX9_byteAt_19 rfl (x_ret dX9_byteAt_23 rfl))) x_no))))))))) (x_go 22 (x_st 23 dX9_byteAt_22 rfl (x_ret dX9_byteAt_23 rfl))))))))
theorem dX9_either_0 : decode cX9_either 0 = .ok (.aload_n 0, 1) := by decide +kernel
theorem dX9_either_1 : decode cX9_either 1 = .ok (.invokevirtual 235, 3) := by decide +kernel
theorem dX9_either_4 : decode cX9_either 4 = .ok (.istore_n 1, 1) := by decide +kernel
theorem dX9_either_5 : decode cX9_either 5 = .ok (.aload_n 0, 1) := by decide +kernel
theorem dX9_either_6 : decode cX9_either 6 = .ok (.bipush 111, 2) := by decide +kernel
theorem dX9_either_8 : decode cX9_either 8 = .ok (.bipush 114, 2) := by decide +kernel
theorem dX9_either_10 : decode cX9_either 10 = .ok (.iconst 0, 1) := by decide +kernel
theorem dX9_either_11 : decode cX9_either 11 = .ok (.iconst 0, 1) := by decide +kernel
theorem dX9_either_12 : decode cX9_either 12 = .ok (.iconst 0, 1) := by decide +kernel
theorem dX9_either_13 : decode cX9_either 13 = .ok (.iconst 0, 1) := by decide +kernel
theorem dX9_either_14 : decode cX9_either 14 = .ok (.iconst 0, 1) := by decide +kernel
theorem dX9_either_15 : decode cX9_either 15 = .ok (.iconst 0, 1) := by decide +kernel
theorem dX9_either_16 : decode cX9_either 16 = .ok (.invokevirtual 183, 3) := by decide +kernel
theorem dX9_either_19 : decode cX9_either 19 = .ok (.ifCond .eq 29, 3) := by decide +kernel
theorem dX9_either_22 : decode cX9_either 22 = .ok (.aload_n 0, 1) := by decide +kernel
theorem dX9_either_23 : decode cX9_either 23 = .ok (.invokevirtual 180, 3) := by decide +kernel
theorem dX9_either_26 : decode cX9_either 26 = .ok (.aload_n 0, 1) := by decide +kernel
theorem dX9_either_27 : decode cX9_either 27 = .ok (.invokevirtual 235, 3) := by decide +kernel
theorem dX9_either_30 : decode cX9_either 30 = .ok (.istore_n 2, 1) := by decide +kernel
theorem dX9_either_31 : decode cX9_either 31 = .ok (.iload_n 1, 1) := by decide +kernel
theorem dX9_either_32 : decode cX9_either 32 = .ok (.ifCond .ne 7, 3) := by decide +kernel
theorem dX9_either_35 : decode cX9_either 35 = .ok (.iload_n 2, 1) := by decide +kernel
theorem dX9_either_36 : decode cX9_either 36 = .ok (.ifCond .eq 7, 3) := by decide +kernel
theorem dX9_either_39 : decode cX9_either 39 = .ok (.iconst 1, 1) := by decide +kernel
theorem dX9_either_40 : decode cX9_either 40 = .ok (.goto 4, 3) := by decide +kernel
theorem dX9_either_43 : decode cX9_either 43 = .ok (.iconst 0, 1) := by decide +kernel
theorem dX9_either_44 : decode cX9_either 44 = .ok (.istore_n 1, 1) := by decide +kernel
theorem dX9_either_45 : decode cX9_either 45 = .ok (.goto (-40), 3) := by decide +kernel
theorem dX9_either_48 : decode cX9_either 48 = .ok (.iload_n 1, 1) := by decide +kernel
theorem dX9_either_49 : decode cX9_either 49 = .ok (.ireturn, 1) := by decide +kernel
theorem qX9_either (d : Nat) (s : Sg) : RUN (d + 1) mX9_either [vr 32 0] s = bI (RUN d mX9_both [vr 32 0] s) (fun r1 s1 => EV (d + 1) mX9_either (5, [vr 32 0, vi r1, UU], [], s1)) := x_run rfl (x_st 1 dX9_either_0 rfl (x_ci 4 [vr 32 0, UU, UU] [] dX9_either_1 rfl (fun r1 s1 => x_so 5 [vr 32 0, vi r1, UU] dX9_either_4 rfl (rfl))))
theorem qX9_either_5 (d : Nat) (x1 : Int) (z2 : PV) (s : Sg) : EV (d + 1) mX9_either (5, [vr 32 0, vi x1, z2], [], s) = bI (RUN d mX9_isWord [vr 32 0, vi 111, vi 114, vi 0, vi 0, vi 0, vi 0, vi 0, vi 0] s) (fun r1 s1 => if r1 = 0 then (some (some (vi x1), s1)) else (bV (RUN d mX9_next [vr 32 0] s1) (fun s2 => bI (RUN d mX9_both [vr 32 0] s2) (fun r3 s3 => if x1 = 0 then (if r3 = 0 then (EV (d + 1) mX9_either (44, [vr 32 0, vi x1, vi r3], [vi 0], s3)) else (EV (d + 1) mX9_either (39, [vr 32 0, vi x1, vi r3], [], s3))) else (EV (d + 1) mX9_either (39, [vr 32 0, vi x1, vi r3], [], s3)))))) := x_st 6 dX9_either_5 rfl (x_st 8 dX9_either_6 rfl (x_st 10 dX9_either_8 rfl (x_st 11 dX9_either_10 rfl (x_st 12 dX9_either_11 rfl (x_st 13 dX9_either_12 rfl (x_st 14 dX9_either_13 rfl (x_st 15 dX9_either_14 rfl (x_st 16 dX9_either_15 rfl (x_ci 19 [vr 32 0, vi x1, z2] [] dX9_either_16 rfl (fun r1 s1 => x_br dX9_either_19 (x_if (x_go 48 (x_st 49 dX9_either_48 rfl (x_ret dX9_either_49 rfl))) (x_go 22 (x_st 23 dX9_either_22 rfl (x_cv 26 [vr 32 0, vi x1, z2] [] dX9_either_23 rfl (fun s2 => x_st 27 dX9_either_26 rfl (x_ci 30 [vr 32 0, vi x1, z2] [] dX9_either_27 rfl (fun r3 s3 => x_so 31 [vr 32 0, vi x1, vi r3] dX9_either_30 rfl (x_st 32 dX9_either_31 rfl (x_br dX9_either_32 (x_if (x_go 35 (x_st 36 dX9_either_35 rfl (x_br dX9_either_36 (x_if (x_go 43 (x_st 44 dX9_either_43 rfl (rfl))) (x_go 39 (rfl)))))) (x_go 39 (rfl))))))))))))))))))))))
theorem qX9_either_44 (d : Nat) (z1 : PV) (z2 : PV) (y0 : Int) (s : Sg) : EV d mX9_either (44, [vr 32 0, z1, z2], [vi y0], s) = EV d mX9_either (5, [vr 32 0, vi y0, z2], [], s) := x_so 45 [vr 32 0, vi y0, z2] dX9_either_44 rfl (x_st 5 dX9_either_45 rfl (rfl))
theorem qX9_either_39 (d : Nat) (z1 : PV) (z2 : PV) (s : Sg) : EV d mX9_either (39, [vr 32 0, z1, z2], [], s) = EV d mX9_either (44, [vr 32 0, z1, z2], [vi 1], s) := x_st 40 dX9_either_39 rfl (x_st 44 dX9_either_40 rfl (rfl))
theorem dX9_lays_0 : decode cX9_lays 0 = .ok (.iload_n 1, 1) := by decide +kernel
theorem dX9_lays_1 : decode cX9_lays 1 = .ok (.iconst 5, 1) := by decide +kernel
theorem dX9_lays_2 : decode cX9_lays 2 = .ok (.if_icmp .ge 17, 3) := by decide +kernel
theorem dX9_lays_5 : decode cX9_lays 5 = .ok (.aload_n 0, 1) := by decide +kernel
theorem dX9_lays_6 : decode cX9_lays 6 = .ok (.getfield 26, 3) := by decide +kernel
theorem dX9_lays_9 : decode cX9_lays 9 = .ok (.iconst 5, 1) := by decide +kernel
theorem dX9_lays_10 : decode cX9_lays 10 = .ok (.iload_n 2, 1) := by decide +kernel
theorem dX9_lays_11 : decode cX9_lays 11 = .ok (.imul, 1) := by decide +kernel
theorem dX9_lays_12 : decode cX9_lays 12 = .ok (.iload_n 1, 1) := by decide +kernel
theorem dX9_lays_13 : decode cX9_lays 13 = .ok (.iadd, 1) := by decide +kernel
theorem dX9_lays_14 : decode cX9_lays 14 = .ok (.iload_n 3, 1) := by decide +kernel
theorem dX9_lays_15 : decode cX9_lays 15 = .ok (.iastore, 1) := by decide +kernel
theorem dX9_lays_16 : decode cX9_lays 16 = .ok (.goto 23, 3) := by decide +kernel
theorem dX9_lays_19 : decode cX9_lays 19 = .ok (.iload_n 1, 1) := by decide +kernel
theorem dX9_lays_20 : decode cX9_lays 20 = .ok (.iconst 5, 1) := by decide +kernel
theorem dX9_lays_21 : decode cX9_lays 21 = .ok (.if_icmp .ne 13, 3) := by decide +kernel
theorem dX9_lays_24 : decode cX9_lays 24 = .ok (.aload_n 0, 1) := by decide +kernel
theorem dX9_lays_25 : decode cX9_lays 25 = .ok (.getfield 23, 3) := by decide +kernel
theorem dX9_lays_28 : decode cX9_lays 28 = .ok (.iload_n 2, 1) := by decide +kernel
theorem dX9_lays_29 : decode cX9_lays 29 = .ok (.iload_n 3, 1) := by decide +kernel
theorem dX9_lays_30 : decode cX9_lays 30 = .ok (.iastore, 1) := by decide +kernel
theorem dX9_lays_31 : decode cX9_lays 31 = .ok (.goto 8, 3) := by decide +kernel
theorem dX9_lays_34 : decode cX9_lays 34 = .ok (.aload_n 0, 1) := by decide +kernel
theorem dX9_lays_35 : decode cX9_lays 35 = .ok (.iload_n 3, 1) := by decide +kernel
theorem dX9_lays_36 : decode cX9_lays 36 = .ok (.putfield 99, 3) := by decide +kernel
theorem dX9_lays_39 : decode cX9_lays 39 = .ok (.return_, 1) := by decide +kernel
theorem qX9_lays (d : Nat) (x1 : Int) (x2 : Int) (x3 : Int) (s : Sg) : RUN d mX9_lays [vr 32 0, vi x1, vi x2, vi x3] s = if x1 < 5 then (if inb (w32 ((w32 (5 * x2)) + x1)) 30 then (some (none, (up s 37 0 (Int.toNat (w32 ((w32 (5 * x2)) + x1))) x3))) else none) else (if x1 = 5 then (if inb x2 6 then (some (none, (up s 36 0 (Int.toNat x2) x3))) else none) else (some (none, (up s 32 0 4 x3)))) := x_run rfl (x_st 1 dX9_lays_0 rfl (x_st 2 dX9_lays_1 rfl (x_br dX9_lays_2 (x_if (x_go 5 (x_st 6 dX9_lays_5 rfl (x_st 9 dX9_lays_6 rfl (x_st 10 dX9_lays_9 rfl (x_st 11 dX9_lays_10 rfl (x_st 12 dX9_lays_11 rfl (x_st 13 dX9_lays_12 rfl (x_st 14 dX9_lays_13 rfl (x_st 15 dX9_lays_14 rfl (x_br dX9_lays_15 (x_if (x_go 16 (x_st 39 dX9_lays_16 rfl (x_ret dX9_lays_39 rfl))) x_no))))))))))) (x_go 19 (x_st 20 dX9_lays_19 rfl (x_st 21 dX9_lays_20 rfl (x_br dX9_lays_21 (x_if (x_go 24 (x_st 25 dX9_lays_24 rfl (x_st 28 dX9_lays_25 rfl (x_st 29 dX9_lays_28 rfl (x_st 30 dX9_lays_29 rfl (x_br dX9_lays_30 (x_if (x_go 31 (x_st 39 dX9_lays_31 rfl (x_ret dX9_lays_39 rfl))) x_no))))))) (x_go 34 (x_st 35 dX9_lays_34 rfl (x_st 36 dX9_lays_35 rfl (x_st 39 dX9_lays_36 rfl (x_ret dX9_lays_39 rfl))))))))))))))
theorem dX9_both_0 : decode cX9_both 0 = .ok (.aload_n 0, 1) := by decide +kernel
theorem dX9_both_1 : decode cX9_both 1 = .ok (.invokevirtual 227, 3) := by decide +kernel
theorem dX9_both_4 : decode cX9_both 4 = .ok (.istore_n 1, 1) := by decide +kernel
theorem dX9_both_5 : decode cX9_both 5 = .ok (.aload_n 0, 1) := by decide +kernel
theorem dX9_both_6 : decode cX9_both 6 = .ok (.bipush 97, 2) := by decide +kernel
theorem dX9_both_8 : decode cX9_both 8 = .ok (.bipush 110, 2) := by decide +kernel
theorem dX9_both_10 : decode cX9_both 10 = .ok (.bipush 100, 2) := by decide +kernel
theorem dX9_both_12 : decode cX9_both 12 = .ok (.iconst 0, 1) := by decide +kernel
theorem dX9_both_13 : decode cX9_both 13 = .ok (.iconst 0, 1) := by decide +kernel
theorem dX9_both_14 : decode cX9_both 14 = .ok (.iconst 0, 1) := by decide +kernel
theorem dX9_both_15 : decode cX9_both 15 = .ok (.iconst 0, 1) := by decide +kernel
theorem dX9_both_16 : decode cX9_both 16 = .ok (.iconst 0, 1) := by decide +kernel
theorem dX9_both_17 : decode cX9_both 17 = .ok (.invokevirtual 183, 3) := by decide +kernel
theorem dX9_both_20 : decode cX9_both 20 = .ok (.ifCond .eq 29, 3) := by decide +kernel
theorem dX9_both_23 : decode cX9_both 23 = .ok (.aload_n 0, 1) := by decide +kernel
theorem dX9_both_24 : decode cX9_both 24 = .ok (.invokevirtual 180, 3) := by decide +kernel
theorem dX9_both_27 : decode cX9_both 27 = .ok (.aload_n 0, 1) := by decide +kernel
theorem dX9_both_28 : decode cX9_both 28 = .ok (.invokevirtual 227, 3) := by decide +kernel
theorem dX9_both_31 : decode cX9_both 31 = .ok (.istore_n 2, 1) := by decide +kernel
theorem dX9_both_32 : decode cX9_both 32 = .ok (.iload_n 1, 1) := by decide +kernel
theorem dX9_both_33 : decode cX9_both 33 = .ok (.ifCond .eq 11, 3) := by decide +kernel
theorem dX9_both_36 : decode cX9_both 36 = .ok (.iload_n 2, 1) := by decide +kernel
theorem dX9_both_37 : decode cX9_both 37 = .ok (.ifCond .eq 7, 3) := by decide +kernel
theorem dX9_both_40 : decode cX9_both 40 = .ok (.iconst 1, 1) := by decide +kernel
theorem dX9_both_41 : decode cX9_both 41 = .ok (.goto 4, 3) := by decide +kernel
theorem dX9_both_44 : decode cX9_both 44 = .ok (.iconst 0, 1) := by decide +kernel
theorem dX9_both_45 : decode cX9_both 45 = .ok (.istore_n 1, 1) := by decide +kernel
theorem dX9_both_46 : decode cX9_both 46 = .ok (.goto (-41), 3) := by decide +kernel
theorem dX9_both_49 : decode cX9_both 49 = .ok (.iload_n 1, 1) := by decide +kernel
theorem dX9_both_50 : decode cX9_both 50 = .ok (.ireturn, 1) := by decide +kernel
theorem qX9_both (d : Nat) (s : Sg) : RUN (d + 1) mX9_both [vr 32 0] s = bI (RUN d mX9_not [vr 32 0] s) (fun r1 s1 => EV (d + 1) mX9_both (5, [vr 32 0, vi r1, UU], [], s1)) := x_run rfl (x_st 1 dX9_both_0 rfl (x_ci 4 [vr 32 0, UU, UU] [] dX9_both_1 rfl (fun r1 s1 => x_so 5 [vr 32 0, vi r1, UU] dX9_both_4 rfl (rfl))))
theorem qX9_both_5 (d : Nat) (x1 : Int) (z2 : PV) (s : Sg) : EV (d + 1) mX9_both (5, [vr 32 0, vi x1, z2], [], s) = bI (RUN d mX9_isWord [vr 32 0, vi 97, vi 110, vi 100, vi 0, vi 0, vi 0, vi 0, vi 0] s) (fun r1 s1 => if r1 = 0 then (some (some (vi x1), s1)) else (bV (RUN d mX9_next [vr 32 0] s1) (fun s2 => bI (RUN d mX9_not [vr 32 0] s2) (fun r3 s3 => if x1 = 0 then (EV (d + 1) mX9_both (44, [vr 32 0, vi x1, vi r3], [], s3)) else (if r3 = 0 then (EV (d + 1) mX9_both (44, [vr 32 0, vi x1, vi r3], [], s3)) else (EV (d + 1) mX9_both (45, [vr 32 0, vi x1, vi r3], [vi 1], s3))))))) := x_st 6 dX9_both_5 rfl (x_st 8 dX9_both_6 rfl (x_st 10 dX9_both_8 rfl (x_st 12 dX9_both_10 rfl (x_st 13 dX9_both_12 rfl (x_st 14 dX9_both_13 rfl (x_st 15 dX9_both_14 rfl (x_st 16 dX9_both_15 rfl (x_st 17 dX9_both_16 rfl (x_ci 20 [vr 32 0, vi x1, z2] [] dX9_both_17 rfl (fun r1 s1 => x_br dX9_both_20 (x_if (x_go 49 (x_st 50 dX9_both_49 rfl (x_ret dX9_both_50 rfl))) (x_go 23 (x_st 24 dX9_both_23 rfl (x_cv 27 [vr 32 0, vi x1, z2] [] dX9_both_24 rfl (fun s2 => x_st 28 dX9_both_27 rfl (x_ci 31 [vr 32 0, vi x1, z2] [] dX9_both_28 rfl (fun r3 s3 => x_so 32 [vr 32 0, vi x1, vi r3] dX9_both_31 rfl (x_st 33 dX9_both_32 rfl (x_br dX9_both_33 (x_if (x_go 44 (rfl)) (x_go 36 (x_st 37 dX9_both_36 rfl (x_br dX9_both_37 (x_if (x_go 44 (rfl)) (x_go 40 (x_st 41 dX9_both_40 rfl (x_st 45 dX9_both_41 rfl (rfl))))))))))))))))))))))))))))
theorem qX9_both_44 (d : Nat) (z1 : PV) (z2 : PV) (s : Sg) : EV d mX9_both (44, [vr 32 0, z1, z2], [], s) = EV d mX9_both (45, [vr 32 0, z1, z2], [vi 0], s) := x_st 45 dX9_both_44 rfl (rfl)
theorem qX9_both_45 (d : Nat) (z1 : PV) (z2 : PV) (y0 : Int) (s : Sg) : EV d mX9_both (45, [vr 32 0, z1, z2], [vi y0], s) = EV d mX9_both (5, [vr 32 0, vi y0, z2], [], s) := x_so 46 [vr 32 0, vi y0, z2] dX9_both_45 rfl (x_st 5 dX9_both_46 rfl (rfl))
theorem dX9_isSign_0 : decode cX9_isSign 0 = .ok (.aload_n 0, 1) := by decide +kernel
theorem dX9_isSign_1 : decode cX9_isSign 1 = .ok (.getfield 164, 3) := by decide +kernel
theorem dX9_isSign_4 : decode cX9_isSign 4 = .ok (.ifCond .ne 25, 3) := by decide +kernel
theorem dX9_isSign_7 : decode cX9_isSign 7 = .ok (.aload_n 0, 1) := by decide +kernel
theorem dX9_isSign_8 : decode cX9_isSign 8 = .ok (.getfield 149, 3) := by decide +kernel
theorem dX9_isSign_11 : decode cX9_isSign 11 = .ok (.iconst 3, 1) := by decide +kernel
theorem dX9_isSign_12 : decode cX9_isSign 12 = .ok (.if_icmp .ne 17, 3) := by decide +kernel
theorem dX9_isSign_15 : decode cX9_isSign 15 = .ok (.aload_n 0, 1) := by decide +kernel
theorem dX9_isSign_16 : decode cX9_isSign 16 = .ok (.getfield 160, 3) := by decide +kernel
theorem dX9_isSign_19 : decode cX9_isSign 19 = .ok (.iload_n 1, 1) := by decide +kernel
theorem dX9_isSign_20 : decode cX9_isSign 20 = .ok (.i2l, 1) := by decide +kernel
theorem dX9_isSign_21 : decode cX9_isSign 21 = .ok (.lcmp, 1) := by decide +kernel
theorem dX9_isSign_22 : decode cX9_isSign 22 = .ok (.ifCond .ne 7, 3) := by decide +kernel
theorem dX9_isSign_25 : decode cX9_isSign 25 = .ok (.iconst 1, 1) := by decide +kernel
theorem dX9_isSign_26 : decode cX9_isSign 26 = .ok (.goto 4, 3) := by decide +kernel
theorem dX9_isSign_29 : decode cX9_isSign 29 = .ok (.iconst 0, 1) := by decide +kernel
theorem dX9_isSign_30 : decode cX9_isSign 30 = .ok (.ireturn, 1) := by decide +kernel
theorem qX9_isSign (d : Nat) (x1 : Int) (s : Sg) : RUN d mX9_isSign [vr 32 0, vi x1] s = if (s 32 0 23) = 0 then (if (s 32 0 19) = 3 then (if (wlcmp (s 32 0 21) x1) = 0 then (some (some (vi 1), s)) else (some (some (vi 0), s))) else (some (some (vi 0), s))) else (some (some (vi 0), s)) := x_run rfl (x_st 1 dX9_isSign_0 rfl (x_st 4 dX9_isSign_1 rfl (x_br dX9_isSign_4 (x_if (x_go 7 (x_st 8 dX9_isSign_7 rfl (x_st 11 dX9_isSign_8 rfl (x_st 12 dX9_isSign_11 rfl (x_br dX9_isSign_12 (x_if (x_go 15 (x_st 16 dX9_isSign_15 rfl (x_st 19 dX9_isSign_16 rfl (x_st 20 dX9_isSign_19 rfl (x_st 21 dX9_isSign_20 rfl (x_st 22 dX9_isSign_21 rfl (x_br dX9_isSign_22 (x_if (x_go 25 (x_st 26 dX9_isSign_25 rfl (x_st 30 dX9_isSign_26 rfl (x_ret dX9_isSign_30 rfl)))) (x_go 29 (x_st 30 dX9_isSign_29 rfl (x_ret dX9_isSign_30 rfl))))))))))) (x_go 29 (x_st 30 dX9_isSign_29 rfl (x_ret dX9_isSign_30 rfl))))))))) (x_go 29 (x_st 30 dX9_isSign_29 rfl (x_ret dX9_isSign_30 rfl)))))))
theorem dX9_nextOf_0 : decode cX9_nextOf 0 = .ok (.iconst (-1), 1) := by decide +kernel
theorem dX9_nextOf_1 : decode cX9_nextOf 1 = .ok (.istore 4, 2) := by decide +kernel
theorem dX9_nextOf_3 : decode cX9_nextOf 3 = .ok (.iconst 0, 1) := by decide +kernel
theorem dX9_nextOf_4 : decode cX9_nextOf 4 = .ok (.istore 5, 2) := by decide +kernel
theorem dX9_nextOf_6 : decode cX9_nextOf 6 = .ok (.iload 5, 2) := by decide +kernel
theorem dX9_nextOf_8 : decode cX9_nextOf 8 = .ok (.aload_n 0, 1) := by decide +kernel
theorem dX9_nextOf_9 : decode cX9_nextOf 9 = .ok (.getfield 82, 3) := by decide +kernel
theorem dX9_nextOf_12 : decode cX9_nextOf 12 = .ok (.if_icmp .ge 95, 3) := by decide +kernel
theorem dX9_nextOf_15 : decode cX9_nextOf 15 = .ok (.iload_n 2, 1) := by decide +kernel
theorem dX9_nextOf_16 : decode cX9_nextOf 16 = .ok (.iload 5, 2) := by decide +kernel
theorem dX9_nextOf_18 : decode cX9_nextOf 18 = .ok (.ishr, 1) := by decide +kernel
theorem dX9_nextOf_19 : decode cX9_nextOf 19 = .ok (.iconst 1, 1) := by decide +kernel
theorem dX9_nextOf_20 : decode cX9_nextOf 20 = .ok (.iand, 1) := by decide +kernel
theorem dX9_nextOf_21 : decode cX9_nextOf 21 = .ok (.iconst 1, 1) := by decide +kernel
theorem dX9_nextOf_22 : decode cX9_nextOf 22 = .ok (.if_icmp .ne 79, 3) := by decide +kernel
theorem dX9_nextOf_25 : decode cX9_nextOf 25 = .ok (.aload_n 0, 1) := by decide +kernel
theorem dX9_nextOf_26 : decode cX9_nextOf 26 = .ok (.getfield 29, 3) := by decide +kernel
theorem dX9_nextOf_29 : decode cX9_nextOf 29 = .ok (.iload 5, 2) := by decide +kernel
theorem dX9_nextOf_31 : decode cX9_nextOf 31 = .ok (.iaload, 1) := by decide +kernel
theorem dX9_nextOf_32 : decode cX9_nextOf 32 = .ok (.iconst (-1), 1) := by decide +kernel
theorem dX9_nextOf_33 : decode cX9_nextOf 33 = .ok (.if_icmp .ne 68, 3) := by decide +kernel
theorem dX9_nextOf_36 : decode cX9_nextOf 36 = .ok (.aload_n 0, 1) := by decide +kernel
theorem dX9_nextOf_37 : decode cX9_nextOf 37 = .ok (.getfield 26, 3) := by decide +kernel
theorem dX9_nextOf_40 : decode cX9_nextOf 40 = .ok (.iconst 5, 1) := by decide +kernel
theorem dX9_nextOf_41 : decode cX9_nextOf 41 = .ok (.iload 5, 2) := by decide +kernel
theorem dX9_nextOf_43 : decode cX9_nextOf 43 = .ok (.imul, 1) := by decide +kernel
theorem dX9_nextOf_44 : decode cX9_nextOf 44 = .ok (.iconst 3, 1) := by decide +kernel
theorem dX9_nextOf_45 : decode cX9_nextOf 45 = .ok (.iadd, 1) := by decide +kernel
theorem dX9_nextOf_46 : decode cX9_nextOf 46 = .ok (.iaload, 1) := by decide +kernel
theorem dX9_nextOf_47 : decode cX9_nextOf 47 = .ok (.iload_n 3, 1) := by decide +kernel
theorem dX9_nextOf_48 : decode cX9_nextOf 48 = .ok (.if_icmp .gt 53, 3) := by decide +kernel
theorem dX9_nextOf_51 : decode cX9_nextOf 51 = .ok (.aload_n 0, 1) := by decide +kernel
theorem dX9_nextOf_52 : decode cX9_nextOf 52 = .ok (.iload 5, 2) := by decide +kernel
theorem dX9_nextOf_54 : decode cX9_nextOf 54 = .ok (.iload_n 1, 1) := by decide +kernel
theorem dX9_nextOf_55 : decode cX9_nextOf 55 = .ok (.invokevirtual 110, 3) := by decide +kernel
theorem dX9_nextOf_58 : decode cX9_nextOf 58 = .ok (.ifCond .eq 43, 3) := by decide +kernel
theorem dX9_nextOf_61 : decode cX9_nextOf 61 = .ok (.iload 4, 2) := by decide +kernel
theorem dX9_nextOf_63 : decode cX9_nextOf 63 = .ok (.iconst (-1), 1) := by decide +kernel
theorem dX9_nextOf_64 : decode cX9_nextOf 64 = .ok (.if_icmp .eq 28, 3) := by decide +kernel
theorem dX9_nextOf_67 : decode cX9_nextOf 67 = .ok (.aload_n 0, 1) := by decide +kernel
theorem dX9_nextOf_68 : decode cX9_nextOf 68 = .ok (.getfield 26, 3) := by decide +kernel
theorem dX9_nextOf_71 : decode cX9_nextOf 71 = .ok (.iconst 5, 1) := by decide +kernel
theorem dX9_nextOf_72 : decode cX9_nextOf 72 = .ok (.iload 5, 2) := by decide +kernel
theorem dX9_nextOf_74 : decode cX9_nextOf 74 = .ok (.imul, 1) := by decide +kernel
theorem dX9_nextOf_75 : decode cX9_nextOf 75 = .ok (.iconst 3, 1) := by decide +kernel
theorem dX9_nextOf_76 : decode cX9_nextOf 76 = .ok (.iadd, 1) := by decide +kernel
theorem dX9_nextOf_77 : decode cX9_nextOf 77 = .ok (.iaload, 1) := by decide +kernel
theorem dX9_nextOf_78 : decode cX9_nextOf 78 = .ok (.aload_n 0, 1) := by decide +kernel
theorem dX9_nextOf_79 : decode cX9_nextOf 79 = .ok (.getfield 26, 3) := by decide +kernel
theorem dX9_nextOf_82 : decode cX9_nextOf 82 = .ok (.iconst 5, 1) := by decide +kernel
theorem dX9_nextOf_83 : decode cX9_nextOf 83 = .ok (.iload 4, 2) := by decide +kernel
theorem dX9_nextOf_85 : decode cX9_nextOf 85 = .ok (.imul, 1) := by decide +kernel
theorem dX9_nextOf_86 : decode cX9_nextOf 86 = .ok (.iconst 3, 1) := by decide +kernel
theorem dX9_nextOf_87 : decode cX9_nextOf 87 = .ok (.iadd, 1) := by decide +kernel
theorem dX9_nextOf_88 : decode cX9_nextOf 88 = .ok (.iaload, 1) := by decide +kernel
theorem dX9_nextOf_89 : decode cX9_nextOf 89 = .ok (.if_icmp .ge 8, 3) := by decide +kernel
theorem dX9_nextOf_92 : decode cX9_nextOf 92 = .ok (.iload 5, 2) := by decide +kernel
theorem dX9_nextOf_94 : decode cX9_nextOf 94 = .ok (.goto 5, 3) := by decide +kernel
theorem dX9_nextOf_97 : decode cX9_nextOf 97 = .ok (.iload 4, 2) := by decide +kernel
theorem dX9_nextOf_99 : decode cX9_nextOf 99 = .ok (.istore 4, 2) := by decide +kernel
theorem dX9_nextOf_101 : decode cX9_nextOf 101 = .ok (.iinc 5 1, 3) := by decide +kernel
theorem dX9_nextOf_104 : decode cX9_nextOf 104 = .ok (.goto (-98), 3) := by decide +kernel
theorem dX9_nextOf_107 : decode cX9_nextOf 107 = .ok (.iload 4, 2) := by decide +kernel
theorem dX9_nextOf_109 : decode cX9_nextOf 109 = .ok (.ireturn, 1) := by decide +kernel
theorem qX9_nextOf (d : Nat) (x1 : Int) (x2 : Int) (x3 : Int) (s : Sg) : RUN d mX9_nextOf [vr 32 0, vi x1, vi x2, vi x3] s = EV d mX9_nextOf (6, [vr 32 0, vi x1, vi x2, vi x3, vi (-1), vi 0], [], s) := x_run rfl (x_st 1 dX9_nextOf_0 rfl (x_so 3 [vr 32 0, vi x1, vi x2, vi x3, vi (-1), UU] dX9_nextOf_1 rfl (x_st 4 dX9_nextOf_3 rfl (x_so 6 [vr 32 0, vi x1, vi x2, vi x3, vi (-1), vi 0] dX9_nextOf_4 rfl (rfl)))))
theorem qX9_nextOf_6 (d : Nat) (x1 : Int) (x2 : Int) (x3 : Int) (x4 : Int) (x5 : Int) (s : Sg) : EV (d + 1) mX9_nextOf (6, [vr 32 0, vi x1, vi x2, vi x3, vi x4, vi x5], [], s) = if x5 < (s 32 0 9) then (if (wand (wshr x2 x5) 1) = 1 then (if inb x5 6 then (if (s 38 0 (Int.toNat x5)) = (-1) then (if inb (w32 ((w32 (5 * x5)) + 3)) 30 then (if x3 < (s 37 0 (Int.toNat (w32 ((w32 (5 * x5)) + 3)))) then (EV (d + 1) mX9_nextOf (101, [vr 32 0, vi x1, vi x2, vi x3, vi x4, vi x5], [], s)) else (bI (RUN d mX9_fits [vr 32 0, vi x5, vi x1] s) (fun r1 s1 => if r1 = 0 then (EV (d + 1) mX9_nextOf (101, [vr 32 0, vi x1, vi x2, vi x3, vi x4, vi x5], [], s1)) else (if x4 = (-1) then (EV (d + 1) mX9_nextOf (92, [vr 32 0, vi x1, vi x2, vi x3, vi x4, vi x5], [], s1)) else (if inb (w32 ((w32 (5 * x5)) + 3)) 30 then (if inb (w32 ((w32 (5 * x4)) + 3)) 30 then (if (s1 37 0 (Int.toNat (w32 ((w32 (5 * x5)) + 3)))) < (s1 37 0 (Int.toNat (w32 ((w32 (5 * x4)) + 3)))) then (EV (d + 1) mX9_nextOf (92, [vr 32 0, vi x1, vi x2, vi x3, vi x4, vi x5], [], s1)) else (EV (d + 1) mX9_nextOf (99, [vr 32 0, vi x1, vi x2, vi x3, vi x4, vi x5], [vi x4], s1))) else none) else none))))) else none) else (EV (d + 1) mX9_nextOf (101, [vr 32 0, vi x1, vi x2, vi x3, vi x4, vi x5], [], s))) else none) else (EV (d + 1) mX9_nextOf (101, [vr 32 0, vi x1, vi x2, vi x3, vi x4, vi x5], [], s))) else (some (some (vi x4), s)) := x_st 8 dX9_nextOf_6 rfl (x_st 9 dX9_nextOf_8 rfl (x_st 12 dX9_nextOf_9 rfl (x_br dX9_nextOf_12 (x_if (x_go 15 (x_st 16 dX9_nextOf_15 rfl (x_st 18 dX9_nextOf_16 rfl (x_st 19 dX9_nextOf_18 rfl (x_st 20 dX9_nextOf_19 rfl (x_st 21 dX9_nextOf_20 rfl (x_st 22 dX9_nextOf_21 rfl (x_br dX9_nextOf_22 (x_if (x_go 25 (x_st 26 dX9_nextOf_25 rfl (x_st 29 dX9_nextOf_26 rfl (x_st 31 dX9_nextOf_29 rfl (x_br dX9_nextOf_31 (x_if (x_go 32 (x_st 33 dX9_nextOf_32 rfl (x_br dX9_nextOf_33 (x_if (x_go 36 (x_st 37 dX9_nextOf_36 rfl (x_st 40 dX9_nextOf_37 rfl (x_st 41 dX9_nextOf_40 rfl (x_st 43 dX9_nextOf_41 rfl (x_st 44 dX9_nextOf_43 rfl (x_st 45 dX9_nextOf_44 rfl (x_st 46 dX9_nextOf_45 rfl (x_br dX9_nextOf_46 (x_if (x_go 47 (x_st 48 dX9_nextOf_47 rfl (x_br dX9_nextOf_48 (x_if (x_go 101 (rfl)) (x_go 51 (x_st 52 dX9_nextOf_51 rfl (x_st 54 dX9_nextOf_52 rfl (x_st 55 dX9_nextOf_54 rfl (x_ci 58 [vr 32 0, vi x1, vi x2, vi x3, vi x4, vi x5] [] dX9_nextOf_55 rfl (fun r1 s1 => x_br dX9_nextOf_58 (x_if (x_go 101 (rfl)) (x_go 61 (x_st 63 dX9_nextOf_61 rfl (x_st 64 dX9_nextOf_63 rfl (x_br dX9_nextOf_64 (x_if (x_go 92 (rfl)) (x_go 67 (x_st 68 dX9_nextOf_67 rfl (x_st 71 dX9_nextOf_68 rfl (x_st 72 dX9_nextOf_71 rfl (x_st 74 dX9_nextOf_72 rfl (x_st 75 dX9_nextOf_74 rfl (x_st 76 dX9_nextOf_75 rfl (x_st 77 dX9_nextOf_76 rfl (x_br dX9_nextOf_77 (x_if (x_go 78 (x_st 79 dX9_nextOf_78 rfl (x_st 82 dX9_nextOf_79 rfl (x_st 83 dX9_nextOf_82 rfl (x_st 85 dX9_nextOf_83 rfl (x_st 86 dX9_nextOf_85 rfl (x_st 87 dX9_nextOf_86 rfl (x_st 88 dX9_nextOf_87 rfl (x_br dX9_nextOf_88 (x_if (x_go 89 (x_br dX9_nextOf_89 (x_if (x_go 92 (rfl)) (x_go 97 (x_st 99 dX9_nextOf_97 rfl (rfl)))))) x_no)))))))))) x_no)))))))))))))))))))))))))) x_no)))))))))) (x_go 101 (rfl)))))) x_no)))))) (x_go 101 (rfl))))))))))) (x_go 107 (x_st 109 dX9_nextOf_107 rfl (x_ret dX9_nextOf_109 rfl)))))))
theorem qX9_nextOf_101 (d : Nat) (x1 : Int) (x2 : Int) (x3 : Int) (x4 : Int) (x5 : Int) (s : Sg) : EV d mX9_nextOf (101, [vr 32 0, vi x1, vi x2, vi x3, vi x4, vi x5], [], s) = EV d mX9_nextOf (6, [vr 32 0, vi x1, vi x2, vi x3, vi x4, vi (w32 (x5 + 1))], [], s) := x_so 104 [vr 32 0, vi x1, vi x2, vi x3, vi x4, vi (w32 (x5 + 1))] dX9_nextOf_101 rfl (x_st 6 dX9_nextOf_104 rfl (rfl))
theorem qX9_nextOf_92 (d : Nat) (x1 : Int) (x2 : Int) (x3 : Int) (z4 : PV) (x5 : Int) (s : Sg) : EV d mX9_nextOf (92, [vr 32 0, vi x1, vi x2, vi x3, z4, vi x5], [], s) = EV d mX9_nextOf (99, [vr 32 0, vi x1, vi x2, vi x3, z4, vi x5], [vi x5], s) := x_st 94 dX9_nextOf_92 rfl (x_st 99 dX9_nextOf_94 rfl (rfl))
theorem qX9_nextOf_99 (d : Nat) (x1 : Int) (x2 : Int) (x3 : Int) (z4 : PV) (x5 : Int) (y0 : Int) (s : Sg) : EV d mX9_nextOf (99, [vr 32 0, vi x1, vi x2, vi x3, z4, vi x5], [vi y0], s) = EV d mX9_nextOf (101, [vr 32 0, vi x1, vi x2, vi x3, vi y0, vi x5], [], s) := x_so 101 [vr 32 0, vi x1, vi x2, vi x3, vi y0, vi x5] dX9_nextOf_99 rfl (rfl)
