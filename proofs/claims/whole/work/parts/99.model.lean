/-! CONSTRUCTORS 9: OtherSidesPumpModel, its walk -/
section NWC
variable {p : Program} {l : Launch} {e : Env} {R : Room} {s : State} {m : MethodId} {args : Array Value} {below : List Frame} {meth : Method} {c : Code} {H : Heap} {locs : List Loc} {cells slots : Nat} {Q : State → Prop}
variable {cc : ByteArray} {pc : Nat} {ls : Array Slot} {rest : List Value} {D : va_G} {cl : List vw_C} {A : Nat → Prop} {a : Nat} {x : Nat × va_E} {ws : va_W} {H0 : Heap} {Aa : Nat → ClassId}
theorem nw_intc (hexec : p.tables.exec = Jvm.exec) (hb : c.code = cc) (harr : (Cond.arrayClass .int).before args s = true) (hK : va_K D cl (tyS Aa) s) (hP : va_P D cl (x :: ws) H) (hD : va_D A (x :: ws)) (hS : va_S A H0 H locs) (hA : ∀ q, H0.size ≤ q → A q)
    {n : Int32} {N' : Nat} (hn : ¬ n < 0) (hN : n.toNatClampNeg = N') (hbytes : N' ≤ 1000) (hcells : cells + 1 ≤ R.cells) (hslots : slots + N' ≤ R.slots) (hdg : decode cc pc = .ok (.newarray .int, 2))
    (kk : ∀ (q : Nat) (H1 : Heap), va_P D cl (x :: (ws ++ [(q, .inl (Aa 0, zI N'))])) H1 → va_D A (x :: (ws ++ [(q, .inl (Aa 0, zI N'))])) → va_S A H0 H1 locs →
      W p l e R s m args below meth c H1 locs (cells + 1) (slots + N') Q (F0 m (pc + 2) ls (.ref q :: rest))) : W p l e R s m args below meth c H locs cells slots Q (F0 m pc ls (.int n :: rest)) :=
  nw_int hexec hb harr hK hP hD hS hA hn hN hbytes hcells hslots hdg kk
theorem nw_boolc (hexec : p.tables.exec = Jvm.exec) (hb : c.code = cc) (harr : (Cond.arrayClass .boolean).before args s = true) (hK : va_K D cl (tyS Aa) s) (hP : va_P D cl (x :: ws) H) (hD : va_D A (x :: ws)) (hS : va_S A H0 H locs) (hA : ∀ q, H0.size ≤ q → A q)
    {n : Int32} {N' : Nat} (hn : ¬ n < 0) (hN : n.toNatClampNeg = N') (hbytes : N' ≤ 1000) (hcells : cells + 1 ≤ R.cells) (hslots : slots + N' ≤ R.slots) (hdg : decode cc pc = .ok (.newarray .boolean, 2))
    (kk : ∀ (q : Nat) (H1 : Heap), va_P D cl (x :: (ws ++ [(q, .inl (Aa 1, zI N'))])) H1 → va_D A (x :: (ws ++ [(q, .inl (Aa 1, zI N'))])) → va_S A H0 H1 locs →
      W p l e R s m args below meth c H1 locs (cells + 1) (slots + N') Q (F0 m (pc + 2) ls (.ref q :: rest))) : W p l e R s m args below meth c H locs cells slots Q (F0 m pc ls (.int n :: rest)) :=
  nw_bool hexec hb harr hK hP hD hS hA hn hN hbytes hcells hslots hdg kk
theorem nw_putx {o k idx : Nat} {fs F1 : List Value} {v : Value} {dC : Nat → ClassId} {dI : Nat → Nat → Nat} {tys : List (ClassId × FieldType)} (hF : fs.set k v = F1) (hexec : p.tables.exec = Jvm.exec) (hb : c.code = cc) (hgs : ∀ w ∈ gws, w.before args s = true) (hown : s.vm.findClass (RO o) = some m.cls) (hin2 : meth.name = "<init>") (hK : va_K (dC, dI) scl tys s) (hP : va_P (dC, dI) scl ((a, .inr (o, fs)) :: ws) H) (hD : va_D A ((a, .inr (o, fs)) :: ws)) (hS : va_S A H0 H locs)
    (ho : o < 10) (hf : ftl o idx = some (o, k)) (hdecl : (TF o k).1 = RO o) (hn : narrow (tyF o k) v = v) (hfit : fits (tyF o k) v = true) (hl : k < fs.length) (hdg : decode cc pc = .ok (.putfield idx, 3))
    (kk : ∀ (H1 : Heap) (locs1 : List Loc), va_P (dC, dI) scl ((a, .inr (o, F1)) :: ws) H1 → va_D A ((a, .inr (o, F1)) :: ws) → va_S A H0 H1 locs1 → W p l e R s m args below meth c H1 locs1 cells slots Q (F0 m (pc + 3) ls rest)) :
    W p l e R s m args below meth c H locs cells slots Q (F0 m pc ls (v :: .ref a :: rest)) := by
  subst hF
  exact nw_put hexec hb hgs hown hin2 hK hP hD hS ho hf hdecl hn hfit hl hdg kk
end NWC
theorem dX9_init_0 : decode cX9_init 0 = .ok (.aload_n 0, 1) := by decide +kernel
theorem dX9_init_1 : decode cX9_init 1 = .ok (.invokespecial 7, 3) := by decide +kernel
theorem dX9_init_4 : decode cX9_init 4 = .ok (.aload_n 0, 1) := by decide +kernel
theorem dX9_init_5 : decode cX9_init 5 = .ok (.sipush 960, 3) := by decide +kernel
theorem dX9_init_8 : decode cX9_init 8 = .ok (.newarray .int, 2) := by decide +kernel
theorem dX9_init_10 : decode cX9_init 10 = .ok (.putfield 13, 3) := by decide +kernel
theorem dX9_init_13 : decode cX9_init 13 = .ok (.aload_n 0, 1) := by decide +kernel
theorem dX9_init_14 : decode cX9_init 14 = .ok (.bipush 6, 2) := by decide +kernel
theorem dX9_init_16 : decode cX9_init 16 = .ok (.newarray .int, 2) := by decide +kernel
theorem dX9_init_18 : decode cX9_init 18 = .ok (.putfield 17, 3) := by decide +kernel
theorem dX9_init_21 : decode cX9_init 21 = .ok (.aload_n 0, 1) := by decide +kernel
theorem dX9_init_22 : decode cX9_init 22 = .ok (.sipush 160, 3) := by decide +kernel
theorem dX9_init_25 : decode cX9_init 25 = .ok (.newarray .int, 2) := by decide +kernel
theorem dX9_init_27 : decode cX9_init 27 = .ok (.putfield 20, 3) := by decide +kernel
theorem dX9_init_30 : decode cX9_init 30 = .ok (.aload_n 0, 1) := by decide +kernel
theorem dX9_init_31 : decode cX9_init 31 = .ok (.bipush 6, 2) := by decide +kernel
theorem dX9_init_33 : decode cX9_init 33 = .ok (.newarray .int, 2) := by decide +kernel
theorem dX9_init_35 : decode cX9_init 35 = .ok (.putfield 23, 3) := by decide +kernel
theorem dX9_init_38 : decode cX9_init 38 = .ok (.aload_n 0, 1) := by decide +kernel
theorem dX9_init_39 : decode cX9_init 39 = .ok (.bipush 30, 2) := by decide +kernel
theorem dX9_init_41 : decode cX9_init 41 = .ok (.newarray .int, 2) := by decide +kernel
theorem dX9_init_43 : decode cX9_init 43 = .ok (.putfield 26, 3) := by decide +kernel
theorem dX9_init_46 : decode cX9_init 46 = .ok (.aload_n 0, 1) := by decide +kernel
theorem dX9_init_47 : decode cX9_init 47 = .ok (.bipush 6, 2) := by decide +kernel
theorem dX9_init_49 : decode cX9_init 49 = .ok (.newarray .int, 2) := by decide +kernel
theorem dX9_init_51 : decode cX9_init 51 = .ok (.putfield 29, 3) := by decide +kernel
theorem dX9_init_54 : decode cX9_init 54 = .ok (.aload_n 0, 1) := by decide +kernel
theorem dX9_init_55 : decode cX9_init 55 = .ok (.bipush 6, 2) := by decide +kernel
theorem dX9_init_57 : decode cX9_init 57 = .ok (.newarray .int, 2) := by decide +kernel
theorem dX9_init_59 : decode cX9_init 59 = .ok (.putfield 32, 3) := by decide +kernel
theorem dX9_init_62 : decode cX9_init 62 = .ok (.aload_n 0, 1) := by decide +kernel
theorem dX9_init_63 : decode cX9_init 63 = .ok (.bipush 6, 2) := by decide +kernel
theorem dX9_init_65 : decode cX9_init 65 = .ok (.newarray .int, 2) := by decide +kernel
theorem dX9_init_67 : decode cX9_init 67 = .ok (.putfield 35, 3) := by decide +kernel
theorem dX9_init_70 : decode cX9_init 70 = .ok (.aload_n 0, 1) := by decide +kernel
theorem dX9_init_71 : decode cX9_init 71 = .ok (.bipush 6, 2) := by decide +kernel
theorem dX9_init_73 : decode cX9_init 73 = .ok (.newarray .int, 2) := by decide +kernel
theorem dX9_init_75 : decode cX9_init 75 = .ok (.putfield 38, 3) := by decide +kernel
theorem dX9_init_78 : decode cX9_init 78 = .ok (.aload_n 0, 1) := by decide +kernel
theorem dX9_init_79 : decode cX9_init 79 = .ok (.sipush 800, 3) := by decide +kernel
theorem dX9_init_82 : decode cX9_init 82 = .ok (.newarray .int, 2) := by decide +kernel
theorem dX9_init_84 : decode cX9_init 84 = .ok (.putfield 41, 3) := by decide +kernel
theorem dX9_init_87 : decode cX9_init 87 = .ok (.aload_n 0, 1) := by decide +kernel
theorem dX9_init_88 : decode cX9_init 88 = .ok (.sipush 800, 3) := by decide +kernel
theorem dX9_init_91 : decode cX9_init 91 = .ok (.newarray .int, 2) := by decide +kernel
theorem dX9_init_93 : decode cX9_init 93 = .ok (.putfield 44, 3) := by decide +kernel
theorem dX9_init_96 : decode cX9_init 96 = .ok (.aload_n 0, 1) := by decide +kernel
theorem dX9_init_97 : decode cX9_init 97 = .ok (.sipush 256, 3) := by decide +kernel
theorem dX9_init_100 : decode cX9_init 100 = .ok (.newarray .int, 2) := by decide +kernel
theorem dX9_init_102 : decode cX9_init 102 = .ok (.putfield 47, 3) := by decide +kernel
theorem dX9_init_105 : decode cX9_init 105 = .ok (.aload_n 0, 1) := by decide +kernel
theorem dX9_init_106 : decode cX9_init 106 = .ok (.iconst 4, 1) := by decide +kernel
theorem dX9_init_107 : decode cX9_init 107 = .ok (.newarray .int, 2) := by decide +kernel
theorem dX9_init_109 : decode cX9_init 109 = .ok (.putfield 50, 3) := by decide +kernel
theorem dX9_init_112 : decode cX9_init 112 = .ok (.aload_n 0, 1) := by decide +kernel
theorem dX9_init_113 : decode cX9_init 113 = .ok (.bipush 6, 2) := by decide +kernel
theorem dX9_init_115 : decode cX9_init 115 = .ok (.newarray .int, 2) := by decide +kernel
theorem dX9_init_117 : decode cX9_init 117 = .ok (.putfield 53, 3) := by decide +kernel
theorem dX9_init_120 : decode cX9_init 120 = .ok (.aload_n 0, 1) := by decide +kernel
theorem dX9_init_121 : decode cX9_init 121 = .ok (.bipush 30, 2) := by decide +kernel
theorem dX9_init_123 : decode cX9_init 123 = .ok (.newarray .int, 2) := by decide +kernel
theorem dX9_init_125 : decode cX9_init 125 = .ok (.putfield 56, 3) := by decide +kernel
theorem dX9_init_128 : decode cX9_init 128 = .ok (.aload_n 0, 1) := by decide +kernel
theorem dX9_init_129 : decode cX9_init 129 = .ok (.iconst (-1), 1) := by decide +kernel
theorem dX9_init_130 : decode cX9_init 130 = .ok (.putfield 59, 3) := by decide +kernel
theorem dX9_init_133 : decode cX9_init 133 = .ok (.aload_n 0, 1) := by decide +kernel
theorem dX9_init_134 : decode cX9_init 134 = .ok (.iconst 4, 1) := by decide +kernel
theorem dX9_init_135 : decode cX9_init 135 = .ok (.newarray .boolean, 2) := by decide +kernel
theorem dX9_init_137 : decode cX9_init 137 = .ok (.putfield 62, 3) := by decide +kernel
theorem dX9_init_140 : decode cX9_init 140 = .ok (.aload_n 0, 1) := by decide +kernel
theorem dX9_init_141 : decode cX9_init 141 = .ok (.iconst 4, 1) := by decide +kernel
theorem dX9_init_142 : decode cX9_init 142 = .ok (.newarray .int, 2) := by decide +kernel
theorem dX9_init_144 : decode cX9_init 144 = .ok (.putfield 66, 3) := by decide +kernel
theorem dX9_init_147 : decode cX9_init 147 = .ok (.aload_n 0, 1) := by decide +kernel
theorem dX9_init_148 : decode cX9_init 148 = .ok (.iconst 4, 1) := by decide +kernel
theorem dX9_init_149 : decode cX9_init 149 = .ok (.newarray .int, 2) := by decide +kernel
theorem dX9_init_151 : decode cX9_init 151 = .ok (.putfield 69, 3) := by decide +kernel
theorem dX9_init_154 : decode cX9_init 154 = .ok (.aload_n 0, 1) := by decide +kernel
theorem dX9_init_155 : decode cX9_init 155 = .ok (.sipush 160, 3) := by decide +kernel
theorem dX9_init_158 : decode cX9_init 158 = .ok (.newarray .int, 2) := by decide +kernel
theorem dX9_init_160 : decode cX9_init 160 = .ok (.putfield 72, 3) := by decide +kernel
theorem dX9_init_163 : decode cX9_init 163 = .ok (.aload_n 0, 1) := by decide +kernel
theorem dX9_init_164 : decode cX9_init 164 = .ok (.iconst 0, 1) := by decide +kernel
theorem dX9_init_165 : decode cX9_init 165 = .ok (.bipush 116, 2) := by decide +kernel
theorem dX9_init_167 : decode cX9_init 167 = .ok (.bipush 97, 2) := by decide +kernel
theorem dX9_init_169 : decode cX9_init 169 = .ok (.bipush 107, 2) := by decide +kernel
theorem dX9_init_171 : decode cX9_init 171 = .ok (.bipush 101, 2) := by decide +kernel
theorem dX9_init_173 : decode cX9_init 173 = .ok (.bipush 115, 2) := by decide +kernel
theorem dX9_init_175 : decode cX9_init 175 = .ok (.bipush 32, 2) := by decide +kernel
theorem dX9_init_177 : decode cX9_init 177 = .ok (.bipush 52, 2) := by decide +kernel
theorem dX9_init_179 : decode cX9_init 179 = .ok (.bipush 32, 2) := by decide +kernel
theorem dX9_init_181 : decode cX9_init 181 = .ok (.invokevirtual 75, 3) := by decide +kernel
theorem dX9_init_184 : decode cX9_init 184 = .ok (.aload_n 0, 1) := by decide +kernel
theorem dX9_init_185 : decode cX9_init 185 = .ok (.bipush 8, 2) := by decide +kernel
theorem dX9_init_187 : decode cX9_init 187 = .ok (.bipush 59, 2) := by decide +kernel
theorem dX9_init_189 : decode cX9_init 189 = .ok (.bipush 32, 2) := by decide +kernel
theorem dX9_init_191 : decode cX9_init 191 = .ok (.bipush 102, 2) := by decide +kernel
theorem dX9_init_193 : decode cX9_init 193 = .ok (.bipush 111, 2) := by decide +kernel
theorem dX9_init_195 : decode cX9_init 195 = .ok (.bipush 114, 2) := by decide +kernel
theorem dX9_init_197 : decode cX9_init 197 = .ok (.bipush 119, 2) := by decide +kernel
theorem dX9_init_199 : decode cX9_init 199 = .ok (.bipush 97, 2) := by decide +kernel
theorem dX9_init_201 : decode cX9_init 201 = .ok (.bipush 114, 2) := by decide +kernel
theorem dX9_init_203 : decode cX9_init 203 = .ok (.invokevirtual 75, 3) := by decide +kernel
theorem dX9_init_206 : decode cX9_init 206 = .ok (.aload_n 0, 1) := by decide +kernel
theorem dX9_init_207 : decode cX9_init 207 = .ok (.bipush 16, 2) := by decide +kernel
theorem dX9_init_209 : decode cX9_init 209 = .ok (.bipush 100, 2) := by decide +kernel
theorem dX9_init_211 : decode cX9_init 211 = .ok (.bipush 115, 2) := by decide +kernel
theorem dX9_init_213 : decode cX9_init 213 = .ok (.bipush 32, 2) := by decide +kernel
theorem dX9_init_215 : decode cX9_init 215 = .ok (.bipush 49, 2) := by decide +kernel
theorem dX9_init_217 : decode cX9_init 217 = .ok (.bipush 32, 2) := by decide +kernel
theorem dX9_init_219 : decode cX9_init 219 = .ok (.bipush 59, 2) := by decide +kernel
theorem dX9_init_221 : decode cX9_init 221 = .ok (.bipush 32, 2) := by decide +kernel
theorem dX9_init_223 : decode cX9_init 223 = .ok (.bipush 109, 2) := by decide +kernel
theorem dX9_init_225 : decode cX9_init 225 = .ok (.invokevirtual 75, 3) := by decide +kernel
theorem dX9_init_228 : decode cX9_init 228 = .ok (.aload_n 0, 1) := by decide +kernel
theorem dX9_init_229 : decode cX9_init 229 = .ok (.bipush 24, 2) := by decide +kernel
theorem dX9_init_231 : decode cX9_init 231 = .ok (.bipush 105, 2) := by decide +kernel
theorem dX9_init_233 : decode cX9_init 233 = .ok (.bipush 110, 2) := by decide +kernel
theorem dX9_init_235 : decode cX9_init 235 = .ok (.bipush 100, 2) := by decide +kernel
theorem dX9_init_237 : decode cX9_init 237 = .ok (.bipush 115, 2) := by decide +kernel
theorem dX9_init_239 : decode cX9_init 239 = .ok (.bipush 32, 2) := by decide +kernel
theorem dX9_init_241 : decode cX9_init 241 = .ok (.bipush 49, 2) := by decide +kernel
theorem dX9_init_243 : decode cX9_init 243 = .ok (.bipush 32, 2) := by decide +kernel
theorem dX9_init_245 : decode cX9_init 245 = .ok (.bipush 59, 2) := by decide +kernel
theorem dX9_init_247 : decode cX9_init 247 = .ok (.invokevirtual 75, 3) := by decide +kernel
theorem dX9_init_250 : decode cX9_init 250 = .ok (.aload_n 0, 1) := by decide +kernel
theorem dX9_init_251 : decode cX9_init 251 = .ok (.getfield 17, 3) := by decide +kernel
theorem dX9_init_254 : decode cX9_init 254 = .ok (.iconst 0, 1) := by decide +kernel
theorem dX9_init_255 : decode cX9_init 255 = .ok (.bipush 32, 2) := by decide +kernel
theorem dX9_init_257 : decode cX9_init 257 = .ok (.iastore, 1) := by decide +kernel
theorem dX9_init_258 : decode cX9_init 258 = .ok (.aload_n 0, 1) := by decide +kernel
theorem dX9_init_259 : decode cX9_init 259 = .ok (.iconst 1, 1) := by decide +kernel
theorem dX9_init_260 : decode cX9_init 260 = .ok (.putfield 79, 3) := by decide +kernel
theorem dX9_init_263 : decode cX9_init 263 = .ok (.return_, 1) := by decide +kernel
def pre9 (dC : Nat → ClassId) (dI : Nat → Nat → Nat) (Aa : Nat → ClassId) (adS : Nat → Nat → Nat) (nz : Value) (h0 sz : Nat) : Array Value → State → Prop := va_Pc [.ref h0] (fun U => U.heap.size = sz ∧ va_P (dC, dI) scl [(h0, .inr (9, [.int 0, .null, .null, .int 0, .int 0, .null, .int 0, .null, .null, .int 0, .int 0, .int 0, .int 0, .int 0, .int 0, .int 0, .int 0, .int 0, .int 0, .int 0, .int 0, .long 0, .int 0, .int 0, .int 0, .int 0, .null, .null, .null, .null, .null, .null, .null, .null, .int 0, .int 0, .null, .null, .int 0, .int 0, .null, .null, .null, .null]))] U.heap ∧ va_K (dC, dI) scl (tyS Aa) U ∧ SF adS nz (va_A [(h0, .inr (9, [.int 0, .null, .null, .int 0, .int 0, .null, .int 0, .null, .null, .int 0, .int 0, .int 0, .int 0, .int 0, .int 0, .int 0, .int 0, .int 0, .int 0, .int 0, .int 0, .long 0, .int 0, .int 0, .int 0, .int 0, .null, .null, .null, .null, .null, .null, .null, .null, .int 0, .int 0, .null, .null, .int 0, .int 0, .null, .null, .null, .null]))] sz) U U.heap ∧ va_D (fun _ => True) [(h0, .inr (9, [.int 0, .null, .null, .int 0, .int 0, .null, .int 0, .null, .null, .int 0, .int 0, .int 0, .int 0, .int 0, .int 0, .int 0, .int 0, .int 0, .int 0, .int 0, .int 0, .long 0, .int 0, .int 0, .int 0, .int 0, .null, .null, .null, .null, .null, .null, .null, .null, .int 0, .int 0, .null, .null, .int 0, .int 0, .null, .null, .null, .null]))])
def post9 (dC : Nat → ClassId) (dI : Nat → Nat → Nat) (Aa : Nat → ClassId) (adS : Nat → Nat → Nat) (σ : Sg) (h0 : Nat) (A : Nat → Prop) : Array Value → State → Outcome → State → Prop := va_Qv (fun u : Nat → Nat → Nat => u 32 0 = h0 ∧ (∀ c j, 52 ≤ c → u c j = adS c j) ∧ okS σ) (fun u t => va_P (dC, dI) scl (wl u Aa prsM σ) t.heap ∧ va_D A (wl u Aa prsM σ)) A
set_option maxHeartbeats 4000000 in
set_option maxRecDepth 100000 in
theorem c_X9 (l : Launch) (dC : Nat → ClassId) (dI : Nat → Nat → Nat) (Aa : Nat → ClassId) (adS : Nat → Nat → Nat) (nz : Value) (hz : nz.category = 1) {s3 s4 s5 s6 s7 : Sg} (ok0 : okS s3) (h3 : ∀ c j i, c ≠ 11 → c ≠ 12 → c ≠ 6 → c ≠ 8 → c ≠ 4 → s3 c j i = sg0 c j i) (b1 : RUN 60 mX9_spell [vr 32 0, vi 0, vi 116, vi 97, vi 107, vi 101, vi 115, vi 32, vi 52, vi 32] s3 = some (none, s4)) (b2 : RUN 60 mX9_spell [vr 32 0, vi 8, vi 59, vi 32, vi 102, vi 111, vi 114, vi 119, vi 97, vi 114] s4 = some (none, s5)) (b3 : RUN 60 mX9_spell [vr 32 0, vi 16, vi 100, vi 115, vi 32, vi 49, vi 32, vi 59, vi 32, vi 109] s5 = some (none, s6)) (b4 : RUN 60 mX9_spell [vr 32 0, vi 24, vi 105, vi 110, vi 100, vi 115, vi 32, vi 49, vi 32, vi 59] s6 = some (none, s7)) (h0 sz : Nat) : Met l yX9_init (Cond.code yX9_init cX9_init 1 none :: gws) ({ frames := 62, cells := 19, slots := 3254, locals := 6200 }) (pre9 dC dI Aa adS nz h0 sz) (post9 dC dI Aa adS (up (up s7 34 0 0 32) 32 0 3 1) h0 (va_A [(h0, .inr (9, [.int 0, .null, .null, .int 0, .int 0, .null, .int 0, .null, .null, .int 0, .int 0, .int 0, .int 0, .int 0, .int 0, .int 0, .int 0, .int 0, .int 0, .int 0, .int 0, .long 0, .int 0, .int 0, .int 0, .int 0, .null, .null, .null, .null, .null, .null, .null, .null, .int 0, .int 0, .null, .null, .int 0, .int 0, .null, .null, .null, .null]))] sz)) 19 3254 (va_A [(h0, .inr (9, [.int 0, .null, .null, .int 0, .int 0, .null, .int 0, .null, .null, .int 0, .int 0, .int 0, .int 0, .int 0, .int 0, .int 0, .int 0, .int 0, .int 0, .int 0, .int 0, .long 0, .int 0, .int 0, .int 0, .int 0, .null, .null, .null, .null, .null, .null, .null, .null, .int 0, .int 0, .null, .null, .int 0, .int 0, .null, .null, .null, .null]))] sz) := by
  have hs3 : ∀ u : Nat → Nat → Nat, wl u Aa prsM s3 = wl u Aa prsM sg0 := fun u => List.map_congr_left (fun q hq => by
    have hq2 : 32 ≤ q.1 := (show ∀ q ∈ prsM, 32 ≤ q.1 by decide) q hq
    rw [enc_congr (σ := sg0) (funext fun i => h3 q.1 q.2 i (by omega) (by omega) (by omega) (by omega) (by omega))])
  refine Met.ofW (cc := cX9_init) (maxL := 1) (ret := none) (by decide) rfl ?_
  intro p e s m args below meth c s₁ B hml hv
  obtain ⟨rfl, hsz, hP, hK, hSF, hD0⟩ := hv
  have hx := B.exec
  have hb := B.bytes
  have hr := B.returns
  have hts := atoms_spec (ws := Cond.code yX9_init cX9_init 1 none :: gws) B.pre
  have hgs : ∀ w ∈ gws, w.before ([.ref h0] : List Value).toArray s = true := fun w hw => hts w (List.mem_cons_of_mem _ hw)
  have hown : s.vm.findClass (RO 9) = some m.cls := findClass_of_methodNamed B.named
  have hin : meth.name = "<init>" := (name_of_methodNamed B.named B.method).1
  subst hsz
  have hD := hD0.self (sz := s.heap.size)
  generalize hAe : va_A [(h0, .inr (9, [.int 0, .null, .null, .int 0, .int 0, .null, .int 0, .null, .null, .int 0, .int 0, .int 0, .int 0, .int 0, .int 0, .int 0, .int 0, .int 0, .int 0, .int 0, .int 0, .long 0, .int 0, .int 0, .int 0, .int 0, .null, .null, .null, .null, .null, .null, .null, .null, .int 0, .int 0, .null, .null, .int 0, .int 0, .null, .null, .null, .null]))] s.heap.size = A at hD hSF ⊢
  have hA : ∀ q : Nat, s.heap.size ≤ q → A q := fun q h => by rw [← hAe]; exact Or.inr h
  have hS : va_S A s.heap s.heap [] := va_S.rf
  have hl := lv_entry ([.ref h0]) (n := 1) (Nat.le_of_ble_eq_true rfl)
  rw [lg_entry_eq]
  generalize (lg_sl ([.ref h0]) ++ List.replicate (1 - (lg_sl ([.ref h0])).length) Slot.unset).toArray = ls at hl ⊢
  have hl : lv_has ls 1 [(0, .ref h0)] := hl
  refine lv_aload_n hx hb dX9_init_0 rfl (lv_at hl 0 rfl) ?_
  refine W.objInit hx hb hown (hgs (.methodLink (RO 9) 7 objectInit) (gws_4 167 (by decide +kernel) (by decide +kernel))) (hgs (.instanceMethod objectInit) (gws_1 24 (by decide +kernel) (by decide +kernel))) (hgs (.code objectInit ⟨#[0xb1]⟩ 1 none) (gws_1 25 (by decide +kernel) (by decide +kernel))) rfl (by rw [hml]; exact hl.1) rfl dX9_init_1 (Nat.le_of_ble_eq_true rfl) (Nat.le_of_ble_eq_true rfl) ?_
  refine W.eq (g2 := F0 m 4 ls []) rfl ?_
  refine lv_aload_n hx hb dX9_init_4 rfl (lv_at hl 0 rfl) ?_
  refine lv_sipush hx hb dX9_init_5 rfl ?_
  refine nw_intc (N' := 960) hx hb (hgs (.arrayClass .int) (gws_1 41 (by decide +kernel) (by decide +kernel))) hK hP hD hS hA (by decide) (by decide +kernel) (Nat.le_of_ble_eq_true rfl) (Nat.le_of_ble_eq_true rfl) (Nat.le_of_ble_eq_true rfl) dX9_init_8 (fun q1 H hP hD hS => ?_)
  refine nw_putx (o := 9) (k := 1) (v := .ref q1) (F1 := [.int 0, .ref q1, .null, .int 0, .int 0, .null, .int 0, .null, .null, .int 0, .int 0, .int 0, .int 0, .int 0, .int 0, .int 0, .int 0, .int 0, .int 0, .int 0, .int 0, .long 0, .int 0, .int 0, .int 0, .int 0, .null, .null, .null, .null, .null, .null, .null, .null, .int 0, .int 0, .null, .null, .int 0, .int 0, .null, .null, .null, .null]) rfl hx hb hgs hown hin hK hP hD hS (by decide) rfl rfl rfl rfl (Nat.le_of_ble_eq_true rfl) dX9_init_10 (fun H locs hP hD hS => ?_)
  refine lv_aload_n hx hb dX9_init_13 rfl (lv_at hl 0 rfl) ?_
  refine lv_bipush hx hb dX9_init_14 rfl ?_
  refine nw_intc (N' := 6) hx hb (hgs (.arrayClass .int) (gws_1 41 (by decide +kernel) (by decide +kernel))) hK hP hD hS hA (by decide) (by decide +kernel) (Nat.le_of_ble_eq_true rfl) (Nat.le_of_ble_eq_true rfl) (Nat.le_of_ble_eq_true rfl) dX9_init_16 (fun q2 H hP hD hS => ?_)
  refine nw_putx (o := 9) (k := 2) (v := .ref q2) (F1 := [.int 0, .ref q1, .ref q2, .int 0, .int 0, .null, .int 0, .null, .null, .int 0, .int 0, .int 0, .int 0, .int 0, .int 0, .int 0, .int 0, .int 0, .int 0, .int 0, .int 0, .long 0, .int 0, .int 0, .int 0, .int 0, .null, .null, .null, .null, .null, .null, .null, .null, .int 0, .int 0, .null, .null, .int 0, .int 0, .null, .null, .null, .null]) rfl hx hb hgs hown hin hK hP hD hS (by decide) rfl rfl rfl rfl (Nat.le_of_ble_eq_true rfl) dX9_init_18 (fun H locs hP hD hS => ?_)
  refine lv_aload_n hx hb dX9_init_21 rfl (lv_at hl 0 rfl) ?_
  refine lv_sipush hx hb dX9_init_22 rfl ?_
  refine nw_intc (N' := 160) hx hb (hgs (.arrayClass .int) (gws_1 41 (by decide +kernel) (by decide +kernel))) hK hP hD hS hA (by decide) (by decide +kernel) (Nat.le_of_ble_eq_true rfl) (Nat.le_of_ble_eq_true rfl) (Nat.le_of_ble_eq_true rfl) dX9_init_25 (fun q3 H hP hD hS => ?_)
  refine nw_putx (o := 9) (k := 5) (v := .ref q3) (F1 := [.int 0, .ref q1, .ref q2, .int 0, .int 0, .ref q3, .int 0, .null, .null, .int 0, .int 0, .int 0, .int 0, .int 0, .int 0, .int 0, .int 0, .int 0, .int 0, .int 0, .int 0, .long 0, .int 0, .int 0, .int 0, .int 0, .null, .null, .null, .null, .null, .null, .null, .null, .int 0, .int 0, .null, .null, .int 0, .int 0, .null, .null, .null, .null]) rfl hx hb hgs hown hin hK hP hD hS (by decide) rfl rfl rfl rfl (Nat.le_of_ble_eq_true rfl) dX9_init_27 (fun H locs hP hD hS => ?_)
  refine lv_aload_n hx hb dX9_init_30 rfl (lv_at hl 0 rfl) ?_
  refine lv_bipush hx hb dX9_init_31 rfl ?_
  refine nw_intc (N' := 6) hx hb (hgs (.arrayClass .int) (gws_1 41 (by decide +kernel) (by decide +kernel))) hK hP hD hS hA (by decide) (by decide +kernel) (Nat.le_of_ble_eq_true rfl) (Nat.le_of_ble_eq_true rfl) (Nat.le_of_ble_eq_true rfl) dX9_init_33 (fun q4 H hP hD hS => ?_)
  refine nw_putx (o := 9) (k := 7) (v := .ref q4) (F1 := [.int 0, .ref q1, .ref q2, .int 0, .int 0, .ref q3, .int 0, .ref q4, .null, .int 0, .int 0, .int 0, .int 0, .int 0, .int 0, .int 0, .int 0, .int 0, .int 0, .int 0, .int 0, .long 0, .int 0, .int 0, .int 0, .int 0, .null, .null, .null, .null, .null, .null, .null, .null, .int 0, .int 0, .null, .null, .int 0, .int 0, .null, .null, .null, .null]) rfl hx hb hgs hown hin hK hP hD hS (by decide) rfl rfl rfl rfl (Nat.le_of_ble_eq_true rfl) dX9_init_35 (fun H locs hP hD hS => ?_)
  refine lv_aload_n hx hb dX9_init_38 rfl (lv_at hl 0 rfl) ?_
  refine lv_bipush hx hb dX9_init_39 rfl ?_
  refine nw_intc (N' := 30) hx hb (hgs (.arrayClass .int) (gws_1 41 (by decide +kernel) (by decide +kernel))) hK hP hD hS hA (by decide) (by decide +kernel) (Nat.le_of_ble_eq_true rfl) (Nat.le_of_ble_eq_true rfl) (Nat.le_of_ble_eq_true rfl) dX9_init_41 (fun q5 H hP hD hS => ?_)
  refine nw_putx (o := 9) (k := 8) (v := .ref q5) (F1 := [.int 0, .ref q1, .ref q2, .int 0, .int 0, .ref q3, .int 0, .ref q4, .ref q5, .int 0, .int 0, .int 0, .int 0, .int 0, .int 0, .int 0, .int 0, .int 0, .int 0, .int 0, .int 0, .long 0, .int 0, .int 0, .int 0, .int 0, .null, .null, .null, .null, .null, .null, .null, .null, .int 0, .int 0, .null, .null, .int 0, .int 0, .null, .null, .null, .null]) rfl hx hb hgs hown hin hK hP hD hS (by decide) rfl rfl rfl rfl (Nat.le_of_ble_eq_true rfl) dX9_init_43 (fun H locs hP hD hS => ?_)
  refine lv_aload_n hx hb dX9_init_46 rfl (lv_at hl 0 rfl) ?_
  refine lv_bipush hx hb dX9_init_47 rfl ?_
  refine nw_intc (N' := 6) hx hb (hgs (.arrayClass .int) (gws_1 41 (by decide +kernel) (by decide +kernel))) hK hP hD hS hA (by decide) (by decide +kernel) (Nat.le_of_ble_eq_true rfl) (Nat.le_of_ble_eq_true rfl) (Nat.le_of_ble_eq_true rfl) dX9_init_49 (fun q6 H hP hD hS => ?_)
  refine nw_putx (o := 9) (k := 26) (v := .ref q6) (F1 := [.int 0, .ref q1, .ref q2, .int 0, .int 0, .ref q3, .int 0, .ref q4, .ref q5, .int 0, .int 0, .int 0, .int 0, .int 0, .int 0, .int 0, .int 0, .int 0, .int 0, .int 0, .int 0, .long 0, .int 0, .int 0, .int 0, .int 0, .ref q6, .null, .null, .null, .null, .null, .null, .null, .int 0, .int 0, .null, .null, .int 0, .int 0, .null, .null, .null, .null]) rfl hx hb hgs hown hin hK hP hD hS (by decide) rfl rfl rfl rfl (Nat.le_of_ble_eq_true rfl) dX9_init_51 (fun H locs hP hD hS => ?_)
  refine lv_aload_n hx hb dX9_init_54 rfl (lv_at hl 0 rfl) ?_
  refine lv_bipush hx hb dX9_init_55 rfl ?_
  refine nw_intc (N' := 6) hx hb (hgs (.arrayClass .int) (gws_1 41 (by decide +kernel) (by decide +kernel))) hK hP hD hS hA (by decide) (by decide +kernel) (Nat.le_of_ble_eq_true rfl) (Nat.le_of_ble_eq_true rfl) (Nat.le_of_ble_eq_true rfl) dX9_init_57 (fun q7 H hP hD hS => ?_)
  refine nw_putx (o := 9) (k := 27) (v := .ref q7) (F1 := [.int 0, .ref q1, .ref q2, .int 0, .int 0, .ref q3, .int 0, .ref q4, .ref q5, .int 0, .int 0, .int 0, .int 0, .int 0, .int 0, .int 0, .int 0, .int 0, .int 0, .int 0, .int 0, .long 0, .int 0, .int 0, .int 0, .int 0, .ref q6, .ref q7, .null, .null, .null, .null, .null, .null, .int 0, .int 0, .null, .null, .int 0, .int 0, .null, .null, .null, .null]) rfl hx hb hgs hown hin hK hP hD hS (by decide) rfl rfl rfl rfl (Nat.le_of_ble_eq_true rfl) dX9_init_59 (fun H locs hP hD hS => ?_)
  refine lv_aload_n hx hb dX9_init_62 rfl (lv_at hl 0 rfl) ?_
  refine lv_bipush hx hb dX9_init_63 rfl ?_
  refine nw_intc (N' := 6) hx hb (hgs (.arrayClass .int) (gws_1 41 (by decide +kernel) (by decide +kernel))) hK hP hD hS hA (by decide) (by decide +kernel) (Nat.le_of_ble_eq_true rfl) (Nat.le_of_ble_eq_true rfl) (Nat.le_of_ble_eq_true rfl) dX9_init_65 (fun q8 H hP hD hS => ?_)
  refine nw_putx (o := 9) (k := 28) (v := .ref q8) (F1 := [.int 0, .ref q1, .ref q2, .int 0, .int 0, .ref q3, .int 0, .ref q4, .ref q5, .int 0, .int 0, .int 0, .int 0, .int 0, .int 0, .int 0, .int 0, .int 0, .int 0, .int 0, .int 0, .long 0, .int 0, .int 0, .int 0, .int 0, .ref q6, .ref q7, .ref q8, .null, .null, .null, .null, .null, .int 0, .int 0, .null, .null, .int 0, .int 0, .null, .null, .null, .null]) rfl hx hb hgs hown hin hK hP hD hS (by decide) rfl rfl rfl rfl (Nat.le_of_ble_eq_true rfl) dX9_init_67 (fun H locs hP hD hS => ?_)
  refine lv_aload_n hx hb dX9_init_70 rfl (lv_at hl 0 rfl) ?_
  refine lv_bipush hx hb dX9_init_71 rfl ?_
  refine nw_intc (N' := 6) hx hb (hgs (.arrayClass .int) (gws_1 41 (by decide +kernel) (by decide +kernel))) hK hP hD hS hA (by decide) (by decide +kernel) (Nat.le_of_ble_eq_true rfl) (Nat.le_of_ble_eq_true rfl) (Nat.le_of_ble_eq_true rfl) dX9_init_73 (fun q9 H hP hD hS => ?_)
  refine nw_putx (o := 9) (k := 29) (v := .ref q9) (F1 := [.int 0, .ref q1, .ref q2, .int 0, .int 0, .ref q3, .int 0, .ref q4, .ref q5, .int 0, .int 0, .int 0, .int 0, .int 0, .int 0, .int 0, .int 0, .int 0, .int 0, .int 0, .int 0, .long 0, .int 0, .int 0, .int 0, .int 0, .ref q6, .ref q7, .ref q8, .ref q9, .null, .null, .null, .null, .int 0, .int 0, .null, .null, .int 0, .int 0, .null, .null, .null, .null]) rfl hx hb hgs hown hin hK hP hD hS (by decide) rfl rfl rfl rfl (Nat.le_of_ble_eq_true rfl) dX9_init_75 (fun H locs hP hD hS => ?_)
  refine lv_aload_n hx hb dX9_init_78 rfl (lv_at hl 0 rfl) ?_
  refine lv_sipush hx hb dX9_init_79 rfl ?_
  refine nw_intc (N' := 800) hx hb (hgs (.arrayClass .int) (gws_1 41 (by decide +kernel) (by decide +kernel))) hK hP hD hS hA (by decide) (by decide +kernel) (Nat.le_of_ble_eq_true rfl) (Nat.le_of_ble_eq_true rfl) (Nat.le_of_ble_eq_true rfl) dX9_init_82 (fun q10 H hP hD hS => ?_)
  refine nw_putx (o := 9) (k := 30) (v := .ref q10) (F1 := [.int 0, .ref q1, .ref q2, .int 0, .int 0, .ref q3, .int 0, .ref q4, .ref q5, .int 0, .int 0, .int 0, .int 0, .int 0, .int 0, .int 0, .int 0, .int 0, .int 0, .int 0, .int 0, .long 0, .int 0, .int 0, .int 0, .int 0, .ref q6, .ref q7, .ref q8, .ref q9, .ref q10, .null, .null, .null, .int 0, .int 0, .null, .null, .int 0, .int 0, .null, .null, .null, .null]) rfl hx hb hgs hown hin hK hP hD hS (by decide) rfl rfl rfl rfl (Nat.le_of_ble_eq_true rfl) dX9_init_84 (fun H locs hP hD hS => ?_)
  refine lv_aload_n hx hb dX9_init_87 rfl (lv_at hl 0 rfl) ?_
  refine lv_sipush hx hb dX9_init_88 rfl ?_
  refine nw_intc (N' := 800) hx hb (hgs (.arrayClass .int) (gws_1 41 (by decide +kernel) (by decide +kernel))) hK hP hD hS hA (by decide) (by decide +kernel) (Nat.le_of_ble_eq_true rfl) (Nat.le_of_ble_eq_true rfl) (Nat.le_of_ble_eq_true rfl) dX9_init_91 (fun q11 H hP hD hS => ?_)
  refine nw_putx (o := 9) (k := 31) (v := .ref q11) (F1 := [.int 0, .ref q1, .ref q2, .int 0, .int 0, .ref q3, .int 0, .ref q4, .ref q5, .int 0, .int 0, .int 0, .int 0, .int 0, .int 0, .int 0, .int 0, .int 0, .int 0, .int 0, .int 0, .long 0, .int 0, .int 0, .int 0, .int 0, .ref q6, .ref q7, .ref q8, .ref q9, .ref q10, .ref q11, .null, .null, .int 0, .int 0, .null, .null, .int 0, .int 0, .null, .null, .null, .null]) rfl hx hb hgs hown hin hK hP hD hS (by decide) rfl rfl rfl rfl (Nat.le_of_ble_eq_true rfl) dX9_init_93 (fun H locs hP hD hS => ?_)
  refine lv_aload_n hx hb dX9_init_96 rfl (lv_at hl 0 rfl) ?_
  refine lv_sipush hx hb dX9_init_97 rfl ?_
  refine nw_intc (N' := 256) hx hb (hgs (.arrayClass .int) (gws_1 41 (by decide +kernel) (by decide +kernel))) hK hP hD hS hA (by decide) (by decide +kernel) (Nat.le_of_ble_eq_true rfl) (Nat.le_of_ble_eq_true rfl) (Nat.le_of_ble_eq_true rfl) dX9_init_100 (fun q12 H hP hD hS => ?_)
  refine nw_putx (o := 9) (k := 32) (v := .ref q12) (F1 := [.int 0, .ref q1, .ref q2, .int 0, .int 0, .ref q3, .int 0, .ref q4, .ref q5, .int 0, .int 0, .int 0, .int 0, .int 0, .int 0, .int 0, .int 0, .int 0, .int 0, .int 0, .int 0, .long 0, .int 0, .int 0, .int 0, .int 0, .ref q6, .ref q7, .ref q8, .ref q9, .ref q10, .ref q11, .ref q12, .null, .int 0, .int 0, .null, .null, .int 0, .int 0, .null, .null, .null, .null]) rfl hx hb hgs hown hin hK hP hD hS (by decide) rfl rfl rfl rfl (Nat.le_of_ble_eq_true rfl) dX9_init_102 (fun H locs hP hD hS => ?_)
  refine lv_aload_n hx hb dX9_init_105 rfl (lv_at hl 0 rfl) ?_
  refine lv_iconst hx hb dX9_init_106 rfl ?_
  refine nw_intc (N' := 4) hx hb (hgs (.arrayClass .int) (gws_1 41 (by decide +kernel) (by decide +kernel))) hK hP hD hS hA (by decide) (by decide +kernel) (Nat.le_of_ble_eq_true rfl) (Nat.le_of_ble_eq_true rfl) (Nat.le_of_ble_eq_true rfl) dX9_init_107 (fun q13 H hP hD hS => ?_)
  refine nw_putx (o := 9) (k := 33) (v := .ref q13) (F1 := [.int 0, .ref q1, .ref q2, .int 0, .int 0, .ref q3, .int 0, .ref q4, .ref q5, .int 0, .int 0, .int 0, .int 0, .int 0, .int 0, .int 0, .int 0, .int 0, .int 0, .int 0, .int 0, .long 0, .int 0, .int 0, .int 0, .int 0, .ref q6, .ref q7, .ref q8, .ref q9, .ref q10, .ref q11, .ref q12, .ref q13, .int 0, .int 0, .null, .null, .int 0, .int 0, .null, .null, .null, .null]) rfl hx hb hgs hown hin hK hP hD hS (by decide) rfl rfl rfl rfl (Nat.le_of_ble_eq_true rfl) dX9_init_109 (fun H locs hP hD hS => ?_)
  refine lv_aload_n hx hb dX9_init_112 rfl (lv_at hl 0 rfl) ?_
  refine lv_bipush hx hb dX9_init_113 rfl ?_
  refine nw_intc (N' := 6) hx hb (hgs (.arrayClass .int) (gws_1 41 (by decide +kernel) (by decide +kernel))) hK hP hD hS hA (by decide) (by decide +kernel) (Nat.le_of_ble_eq_true rfl) (Nat.le_of_ble_eq_true rfl) (Nat.le_of_ble_eq_true rfl) dX9_init_115 (fun q14 H hP hD hS => ?_)
  refine nw_putx (o := 9) (k := 36) (v := .ref q14) (F1 := [.int 0, .ref q1, .ref q2, .int 0, .int 0, .ref q3, .int 0, .ref q4, .ref q5, .int 0, .int 0, .int 0, .int 0, .int 0, .int 0, .int 0, .int 0, .int 0, .int 0, .int 0, .int 0, .long 0, .int 0, .int 0, .int 0, .int 0, .ref q6, .ref q7, .ref q8, .ref q9, .ref q10, .ref q11, .ref q12, .ref q13, .int 0, .int 0, .ref q14, .null, .int 0, .int 0, .null, .null, .null, .null]) rfl hx hb hgs hown hin hK hP hD hS (by decide) rfl rfl rfl rfl (Nat.le_of_ble_eq_true rfl) dX9_init_117 (fun H locs hP hD hS => ?_)
  refine lv_aload_n hx hb dX9_init_120 rfl (lv_at hl 0 rfl) ?_
  refine lv_bipush hx hb dX9_init_121 rfl ?_
  refine nw_intc (N' := 30) hx hb (hgs (.arrayClass .int) (gws_1 41 (by decide +kernel) (by decide +kernel))) hK hP hD hS hA (by decide) (by decide +kernel) (Nat.le_of_ble_eq_true rfl) (Nat.le_of_ble_eq_true rfl) (Nat.le_of_ble_eq_true rfl) dX9_init_123 (fun q15 H hP hD hS => ?_)
  refine nw_putx (o := 9) (k := 37) (v := .ref q15) (F1 := [.int 0, .ref q1, .ref q2, .int 0, .int 0, .ref q3, .int 0, .ref q4, .ref q5, .int 0, .int 0, .int 0, .int 0, .int 0, .int 0, .int 0, .int 0, .int 0, .int 0, .int 0, .int 0, .long 0, .int 0, .int 0, .int 0, .int 0, .ref q6, .ref q7, .ref q8, .ref q9, .ref q10, .ref q11, .ref q12, .ref q13, .int 0, .int 0, .ref q14, .ref q15, .int 0, .int 0, .null, .null, .null, .null]) rfl hx hb hgs hown hin hK hP hD hS (by decide) rfl rfl rfl rfl (Nat.le_of_ble_eq_true rfl) dX9_init_125 (fun H locs hP hD hS => ?_)
  refine lv_aload_n hx hb dX9_init_128 rfl (lv_at hl 0 rfl) ?_
  refine lv_iconst hx hb dX9_init_129 rfl ?_
  refine nw_putx (o := 9) (k := 38) (v := .int (-1)) (F1 := [.int 0, .ref q1, .ref q2, .int 0, .int 0, .ref q3, .int 0, .ref q4, .ref q5, .int 0, .int 0, .int 0, .int 0, .int 0, .int 0, .int 0, .int 0, .int 0, .int 0, .int 0, .int 0, .long 0, .int 0, .int 0, .int 0, .int 0, .ref q6, .ref q7, .ref q8, .ref q9, .ref q10, .ref q11, .ref q12, .ref q13, .int 0, .int 0, .ref q14, .ref q15, .int (-1), .int 0, .null, .null, .null, .null]) rfl hx hb hgs hown hin hK hP hD hS (by decide) rfl rfl rfl rfl (Nat.le_of_ble_eq_true rfl) dX9_init_130 (fun H locs hP hD hS => ?_)
  refine lv_aload_n hx hb dX9_init_133 rfl (lv_at hl 0 rfl) ?_
  refine lv_iconst hx hb dX9_init_134 rfl ?_
  refine nw_boolc (N' := 4) hx hb (hgs (.arrayClass .boolean) (gws_5 64 (by decide +kernel) (by decide +kernel))) hK hP hD hS hA (by decide) (by decide +kernel) (Nat.le_of_ble_eq_true rfl) (Nat.le_of_ble_eq_true rfl) (Nat.le_of_ble_eq_true rfl) dX9_init_135 (fun q16 H hP hD hS => ?_)
  refine nw_putx (o := 9) (k := 40) (v := .ref q16) (F1 := [.int 0, .ref q1, .ref q2, .int 0, .int 0, .ref q3, .int 0, .ref q4, .ref q5, .int 0, .int 0, .int 0, .int 0, .int 0, .int 0, .int 0, .int 0, .int 0, .int 0, .int 0, .int 0, .long 0, .int 0, .int 0, .int 0, .int 0, .ref q6, .ref q7, .ref q8, .ref q9, .ref q10, .ref q11, .ref q12, .ref q13, .int 0, .int 0, .ref q14, .ref q15, .int (-1), .int 0, .ref q16, .null, .null, .null]) rfl hx hb hgs hown hin hK hP hD hS (by decide) rfl rfl rfl rfl (Nat.le_of_ble_eq_true rfl) dX9_init_137 (fun H locs hP hD hS => ?_)
  refine lv_aload_n hx hb dX9_init_140 rfl (lv_at hl 0 rfl) ?_
  refine lv_iconst hx hb dX9_init_141 rfl ?_
  refine nw_intc (N' := 4) hx hb (hgs (.arrayClass .int) (gws_1 41 (by decide +kernel) (by decide +kernel))) hK hP hD hS hA (by decide) (by decide +kernel) (Nat.le_of_ble_eq_true rfl) (Nat.le_of_ble_eq_true rfl) (Nat.le_of_ble_eq_true rfl) dX9_init_142 (fun q17 H hP hD hS => ?_)
  refine nw_putx (o := 9) (k := 41) (v := .ref q17) (F1 := [.int 0, .ref q1, .ref q2, .int 0, .int 0, .ref q3, .int 0, .ref q4, .ref q5, .int 0, .int 0, .int 0, .int 0, .int 0, .int 0, .int 0, .int 0, .int 0, .int 0, .int 0, .int 0, .long 0, .int 0, .int 0, .int 0, .int 0, .ref q6, .ref q7, .ref q8, .ref q9, .ref q10, .ref q11, .ref q12, .ref q13, .int 0, .int 0, .ref q14, .ref q15, .int (-1), .int 0, .ref q16, .ref q17, .null, .null]) rfl hx hb hgs hown hin hK hP hD hS (by decide) rfl rfl rfl rfl (Nat.le_of_ble_eq_true rfl) dX9_init_144 (fun H locs hP hD hS => ?_)
  refine lv_aload_n hx hb dX9_init_147 rfl (lv_at hl 0 rfl) ?_
  refine lv_iconst hx hb dX9_init_148 rfl ?_
  refine nw_intc (N' := 4) hx hb (hgs (.arrayClass .int) (gws_1 41 (by decide +kernel) (by decide +kernel))) hK hP hD hS hA (by decide) (by decide +kernel) (Nat.le_of_ble_eq_true rfl) (Nat.le_of_ble_eq_true rfl) (Nat.le_of_ble_eq_true rfl) dX9_init_149 (fun q18 H hP hD hS => ?_)
  refine nw_putx (o := 9) (k := 42) (v := .ref q18) (F1 := [.int 0, .ref q1, .ref q2, .int 0, .int 0, .ref q3, .int 0, .ref q4, .ref q5, .int 0, .int 0, .int 0, .int 0, .int 0, .int 0, .int 0, .int 0, .int 0, .int 0, .int 0, .int 0, .long 0, .int 0, .int 0, .int 0, .int 0, .ref q6, .ref q7, .ref q8, .ref q9, .ref q10, .ref q11, .ref q12, .ref q13, .int 0, .int 0, .ref q14, .ref q15, .int (-1), .int 0, .ref q16, .ref q17, .ref q18, .null]) rfl hx hb hgs hown hin hK hP hD hS (by decide) rfl rfl rfl rfl (Nat.le_of_ble_eq_true rfl) dX9_init_151 (fun H locs hP hD hS => ?_)
  refine lv_aload_n hx hb dX9_init_154 rfl (lv_at hl 0 rfl) ?_
  refine lv_sipush hx hb dX9_init_155 rfl ?_
  refine nw_intc (N' := 160) hx hb (hgs (.arrayClass .int) (gws_1 41 (by decide +kernel) (by decide +kernel))) hK hP hD hS hA (by decide) (by decide +kernel) (Nat.le_of_ble_eq_true rfl) (Nat.le_of_ble_eq_true rfl) (Nat.le_of_ble_eq_true rfl) dX9_init_158 (fun q19 H hP hD hS => ?_)
  refine nw_putx (o := 9) (k := 43) (v := .ref q19) (F1 := [.int 0, .ref q1, .ref q2, .int 0, .int 0, .ref q3, .int 0, .ref q4, .ref q5, .int 0, .int 0, .int 0, .int 0, .int 0, .int 0, .int 0, .int 0, .int 0, .int 0, .int 0, .int 0, .long 0, .int 0, .int 0, .int 0, .int 0, .ref q6, .ref q7, .ref q8, .ref q9, .ref q10, .ref q11, .ref q12, .ref q13, .int 0, .int 0, .ref q14, .ref q15, .int (-1), .int 0, .ref q16, .ref q17, .ref q18, .ref q19]) rfl hx hb hgs hown hin hK hP hD hS (by decide) rfl rfl rfl rfl (Nat.le_of_ble_eq_true rfl) dX9_init_160 (fun H locs hP hD hS => ?_)
  have hP9 : va_P (dC, dI) scl (wl (adM h0 q1 q2 q3 q4 q5 q6 q7 q8 q9 q10 q11 q12 q13 q14 q15 q16 q17 q18 q19 adS) Aa prsM s3) H := by rw [hs3, wlM]; exact hP
  have hD9 : va_D A (wl (adM h0 q1 q2 q3 q4 q5 q6 q7 q8 q9 q10 q11 q12 q13 q14 q15 q16 q17 q18 q19 adS) Aa prsM s3) := by rw [hs3, wlM]; exact hD
  clear hP hD
  have hsf : ∀ c j, 52 ≤ c → (adM h0 q1 q2 q3 q4 q5 q6 q7 q8 q9 q10 q11 q12 q13 q14 q15 q16 q17 q18 q19 adS) c j = adS c j := fun c j h => by
    unfold adM
    rw [if_neg (by omega), if_neg (by omega), if_neg (by omega), if_neg (by omega), if_neg (by omega), if_neg (by omega), if_neg (by omega), if_neg (by omega), if_neg (by omega), if_neg (by omega), if_neg (by omega), if_neg (by omega), if_neg (by omega), if_neg (by omega), if_neg (by omega), if_neg (by omega), if_neg (by omega), if_neg (by omega), if_neg (by omega), if_neg (by omega)]
  have had0 : (adM h0 q1 q2 q3 q4 q5 q6 q7 q8 q9 q10 q11 q12 q13 q14 q15 q16 q17 q18 q19 adS) 32 0 = h0 := rfl
  generalize (adM h0 q1 q2 q3 q4 q5 q6 q7 q8 q9 q10 q11 q12 q13 q14 q15 q16 q17 q18 q19 adS) = ad at hP9 hD9 hsf had0
  have hP := hP9
  have hD := hD9
  have hSF := SF_cg (fun c h => hsf c 0 h) hSF
  have C : RX p s m _ c cX9_init 1 (RO 9) dC dI ad nz Aa (tyS Aa) prsM A := ⟨hx, hb, hml, hown, hgs, hK, hz, prsM_ok, tysOk_S Aa prsM, wl_D _ hD, hSF, hA⟩
  refine lv_aload_n hx hb dX9_init_163 rfl (lv_at hl 0 rfl) ?_
  refine lv_iconst (v := Int32.ofInt 0) hx hb dX9_init_164 (by decide) ?_
  refine lv_bipush (v := Int32.ofInt 116) hx hb dX9_init_165 (by decide) ?_
  refine lv_bipush (v := Int32.ofInt 97) hx hb dX9_init_167 (by decide) ?_
  refine lv_bipush (v := Int32.ofInt 107) hx hb dX9_init_169 (by decide) ?_
  refine lv_bipush (v := Int32.ofInt 101) hx hb dX9_init_171 (by decide) ?_
  refine lv_bipush (v := Int32.ofInt 115) hx hb dX9_init_173 (by decide) ?_
  refine lv_bipush (v := Int32.ofInt 32) hx hb dX9_init_175 (by decide) ?_
  refine lv_bipush (v := Int32.ofInt 52) hx hb dX9_init_177 (by decide) ?_
  refine lv_bipush (v := Int32.ofInt 32) hx hb dX9_init_179 (by decide) ?_
  refine W.eq (g2 := F0 m 181 ls ((([vi 0, vi 116, vi 97, vi 107, vi 101, vi 115, vi 32, vi 52, vi 32] : List PV).map (kc ad nz)).reverse ++ .ref (ad 32 0) :: [])) (by rw [had0]; rfl) ?_
  refine rm_v C ⟨gvX9_spell, ml_9_75.1, by decide +kernel, by decide +kernel, rfl⟩ b1 (fun v hv => by simp only [List.mem_cons, List.not_mem_nil, or_false] at hv; rcases hv with rfl | rfl | rfl | rfl | rfl | rfl | rfl | rfl | rfl <;> exact ⟨by decide, by decide⟩) ok0 rfl (by decide +kernel) hP hS ⟨(Nat.le_of_ble_eq_true rfl), (Nat.le_of_ble_eq_true rfl)⟩ ⟨(Nat.le_of_ble_eq_true rfl), (Nat.le_of_ble_eq_true rfl)⟩ hl.1 (Nat.le_of_ble_eq_true rfl) dX9_init_181 (fun H locs ok1 hP hS => ?_)
  refine lv_aload_n hx hb dX9_init_184 rfl (lv_at hl 0 rfl) ?_
  refine lv_bipush (v := Int32.ofInt 8) hx hb dX9_init_185 (by decide) ?_
  refine lv_bipush (v := Int32.ofInt 59) hx hb dX9_init_187 (by decide) ?_
  refine lv_bipush (v := Int32.ofInt 32) hx hb dX9_init_189 (by decide) ?_
  refine lv_bipush (v := Int32.ofInt 102) hx hb dX9_init_191 (by decide) ?_
  refine lv_bipush (v := Int32.ofInt 111) hx hb dX9_init_193 (by decide) ?_
  refine lv_bipush (v := Int32.ofInt 114) hx hb dX9_init_195 (by decide) ?_
  refine lv_bipush (v := Int32.ofInt 119) hx hb dX9_init_197 (by decide) ?_
  refine lv_bipush (v := Int32.ofInt 97) hx hb dX9_init_199 (by decide) ?_
  refine lv_bipush (v := Int32.ofInt 114) hx hb dX9_init_201 (by decide) ?_
  refine W.eq (g2 := F0 m 203 ls ((([vi 8, vi 59, vi 32, vi 102, vi 111, vi 114, vi 119, vi 97, vi 114] : List PV).map (kc ad nz)).reverse ++ .ref (ad 32 0) :: [])) (by rw [had0]; rfl) ?_
  refine rm_v C ⟨gvX9_spell, ml_9_75.1, by decide +kernel, by decide +kernel, rfl⟩ b2 (fun v hv => by simp only [List.mem_cons, List.not_mem_nil, or_false] at hv; rcases hv with rfl | rfl | rfl | rfl | rfl | rfl | rfl | rfl | rfl <;> exact ⟨by decide, by decide⟩) ok1 rfl (by decide +kernel) hP hS ⟨(Nat.le_of_ble_eq_true rfl), (Nat.le_of_ble_eq_true rfl)⟩ ⟨(Nat.le_of_ble_eq_true rfl), (Nat.le_of_ble_eq_true rfl)⟩ hl.1 (Nat.le_of_ble_eq_true rfl) dX9_init_203 (fun H locs ok2 hP hS => ?_)
  refine lv_aload_n hx hb dX9_init_206 rfl (lv_at hl 0 rfl) ?_
  refine lv_bipush (v := Int32.ofInt 16) hx hb dX9_init_207 (by decide) ?_
  refine lv_bipush (v := Int32.ofInt 100) hx hb dX9_init_209 (by decide) ?_
  refine lv_bipush (v := Int32.ofInt 115) hx hb dX9_init_211 (by decide) ?_
  refine lv_bipush (v := Int32.ofInt 32) hx hb dX9_init_213 (by decide) ?_
  refine lv_bipush (v := Int32.ofInt 49) hx hb dX9_init_215 (by decide) ?_
  refine lv_bipush (v := Int32.ofInt 32) hx hb dX9_init_217 (by decide) ?_
  refine lv_bipush (v := Int32.ofInt 59) hx hb dX9_init_219 (by decide) ?_
  refine lv_bipush (v := Int32.ofInt 32) hx hb dX9_init_221 (by decide) ?_
  refine lv_bipush (v := Int32.ofInt 109) hx hb dX9_init_223 (by decide) ?_
  refine W.eq (g2 := F0 m 225 ls ((([vi 16, vi 100, vi 115, vi 32, vi 49, vi 32, vi 59, vi 32, vi 109] : List PV).map (kc ad nz)).reverse ++ .ref (ad 32 0) :: [])) (by rw [had0]; rfl) ?_
  refine rm_v C ⟨gvX9_spell, ml_9_75.1, by decide +kernel, by decide +kernel, rfl⟩ b3 (fun v hv => by simp only [List.mem_cons, List.not_mem_nil, or_false] at hv; rcases hv with rfl | rfl | rfl | rfl | rfl | rfl | rfl | rfl | rfl <;> exact ⟨by decide, by decide⟩) ok2 rfl (by decide +kernel) hP hS ⟨(Nat.le_of_ble_eq_true rfl), (Nat.le_of_ble_eq_true rfl)⟩ ⟨(Nat.le_of_ble_eq_true rfl), (Nat.le_of_ble_eq_true rfl)⟩ hl.1 (Nat.le_of_ble_eq_true rfl) dX9_init_225 (fun H locs ok3 hP hS => ?_)
  refine lv_aload_n hx hb dX9_init_228 rfl (lv_at hl 0 rfl) ?_
  refine lv_bipush (v := Int32.ofInt 24) hx hb dX9_init_229 (by decide) ?_
  refine lv_bipush (v := Int32.ofInt 105) hx hb dX9_init_231 (by decide) ?_
  refine lv_bipush (v := Int32.ofInt 110) hx hb dX9_init_233 (by decide) ?_
  refine lv_bipush (v := Int32.ofInt 100) hx hb dX9_init_235 (by decide) ?_
  refine lv_bipush (v := Int32.ofInt 115) hx hb dX9_init_237 (by decide) ?_
  refine lv_bipush (v := Int32.ofInt 32) hx hb dX9_init_239 (by decide) ?_
  refine lv_bipush (v := Int32.ofInt 49) hx hb dX9_init_241 (by decide) ?_
  refine lv_bipush (v := Int32.ofInt 32) hx hb dX9_init_243 (by decide) ?_
  refine lv_bipush (v := Int32.ofInt 59) hx hb dX9_init_245 (by decide) ?_
  refine W.eq (g2 := F0 m 247 ls ((([vi 24, vi 105, vi 110, vi 100, vi 115, vi 32, vi 49, vi 32, vi 59] : List PV).map (kc ad nz)).reverse ++ .ref (ad 32 0) :: [])) (by rw [had0]; rfl) ?_
  refine rm_v C ⟨gvX9_spell, ml_9_75.1, by decide +kernel, by decide +kernel, rfl⟩ b4 (fun v hv => by simp only [List.mem_cons, List.not_mem_nil, or_false] at hv; rcases hv with rfl | rfl | rfl | rfl | rfl | rfl | rfl | rfl | rfl <;> exact ⟨by decide, by decide⟩) ok3 rfl (by decide +kernel) hP hS ⟨(Nat.le_of_ble_eq_true rfl), (Nat.le_of_ble_eq_true rfl)⟩ ⟨(Nat.le_of_ble_eq_true rfl), (Nat.le_of_ble_eq_true rfl)⟩ hl.1 (Nat.le_of_ble_eq_true rfl) dX9_init_247 (fun H locs ok4 hP hS => ?_)
  refine lv_aload_n hx hb dX9_init_250 rfl (lv_at hl 0 rfl) ?_
  have hE : ∀ σ, wl ad Aa prsM σ = (h0, .inr (9, (List.range 44).map (fV ad σ 32 0 9))) :: wl ad Aa prsM.tail σ := fun σ => by rw [← had0]; rfl
  refine nw_get (o := 9) (k := 2) (v := .ref (ad 34 0)) hx hb hgs hown hK (by rw [hE] at hP; exact hP) (by decide) rfl rfl dX9_init_251 ?_
  refine lv_iconst (v := Int32.ofInt 0) hx hb dX9_init_254 (by decide) ?_
  refine lv_bipush (v := Int32.ofInt 32) hx hb dX9_init_255 (by decide) ?_
  refine va_iast (cA := Aa 0) (n := 6) (f := fun i => Int32.ofInt (s7 34 0 i)) hx hb hK hP (wl_D _ hD) hS 2 0 rfl rfl (by rw [vp_in_iff]; decide) dX9_init_257 (fun H locs hP1 hD1 hS => ?_)
  have hP : va_P (dC, dI) scl (wl ad Aa prsM (up s7 34 0 0 32)) H := by
    rw [← wl_set (q := 2) (c := 34) (j := 0) prsM_ok.1 rfl up_ne, enc_up_int rfl]
    exact hP1
  clear hP1 hD1
  refine lv_aload_n hx hb dX9_init_258 rfl (lv_at hl 0 rfl) ?_
  refine lv_iconst (v := Int32.ofInt 1) hx hb dX9_init_259 (by decide) ?_
  refine nw_put (o := 9) (k := 3) (v := .int (Int32.ofInt 1)) (ws := wl ad Aa prsM.tail (up s7 34 0 0 32)) hx hb hgs hown hin hK (by rw [hE] at hP; exact hP) (by rw [← hE]; exact wl_D _ hD) hS (by decide) rfl rfl rfl rfl (Nat.le_of_ble_eq_true rfl) dX9_init_260 (fun H locs hP1 hD1 hS => ?_)
  have hP : va_P (dC, dI) scl (wl ad Aa prsM (up (up s7 34 0 0 32) 32 0 3 1)) H := by
    rw [← wl_set (q := 0) (c := 32) (j := 0) (σ := up s7 34 0 0 32) prsM_ok.1 rfl up_ne, hE, had0, enc_obj (by decide)]
    have e9 : ((List.range 44).map (fV ad (up s7 34 0 0 32) 32 0 9)).set 3 (.int (Int32.ofInt 1)) = (List.range 44).map (fV ad (up (up s7 34 0 0 32) 32 0 3 1) 32 0 9) := fs_set (ad := ad) (σ := up s7 34 0 0 32) (a0 := 32) (j0 := 0) (ci := 9) (k := 3) (v := 1) (by rw [fV_i (show fk 9 3 = 0 ∨ fk 9 3 = 2 from Or.inl rfl), up_hit])
    rw [e9] at hP1
    exact hP1
  have ok5 : okS (up (up s7 34 0 0 32) 32 0 3 1) := okS_up (okS_up ok4 (Or.inl ⟨by decide, by decide⟩)) (Or.inl ⟨by decide, by decide⟩)
  exact W.vret hx hb hr (fun t ht hW => ⟨⟨ad, rfl, ⟨had0, hsf, ok5⟩, by rw [ht]; exact hP, wl_D _ hD⟩, hS.F ht⟩) hS.2.2 dX9_init_263
