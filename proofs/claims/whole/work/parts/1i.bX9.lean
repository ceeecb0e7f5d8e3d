theorem dX9_copy_0 : decode cX9_copy 0 = .ok (.iload_n 1, 1) := by decide +kernel
theorem dX9_copy_1 : decode cX9_copy 1 = .ok (.invokestatic 296, 3) := by decide +kernel
theorem dX9_copy_4 : decode cX9_copy 4 = .ok (.ifCond .eq 10, 3) := by decide +kernel
theorem dX9_copy_7 : decode cX9_copy 7 = .ok (.iload_n 3, 1) := by decide +kernel
theorem dX9_copy_8 : decode cX9_copy 8 = .ok (.invokestatic 296, 3) := by decide +kernel
theorem dX9_copy_11 : decode cX9_copy 11 = .ok (.ifCond .ne 6, 3) := by decide +kernel
theorem dX9_copy_14 : decode cX9_copy 14 = .ok (.bipush (-2), 2) := by decide +kernel
theorem dX9_copy_16 : decode cX9_copy 16 = .ok (.ireturn, 1) := by decide +kernel
theorem dX9_copy_17 : decode cX9_copy 17 = .ok (.aload_n 0, 1) := by decide +kernel
theorem dX9_copy_18 : decode cX9_copy 18 = .ok (.getfield 62, 3) := by decide +kernel
theorem dX9_copy_21 : decode cX9_copy 21 = .ok (.iload_n 1, 1) := by decide +kernel
theorem dX9_copy_22 : decode cX9_copy 22 = .ok (.baload, 1) := by decide +kernel
theorem dX9_copy_23 : decode cX9_copy 23 = .ok (.ifCond .eq 12, 3) := by decide +kernel
theorem dX9_copy_26 : decode cX9_copy 26 = .ok (.aload_n 0, 1) := by decide +kernel
theorem dX9_copy_27 : decode cX9_copy 27 = .ok (.getfield 62, 3) := by decide +kernel
theorem dX9_copy_30 : decode cX9_copy 30 = .ok (.iload_n 3, 1) := by decide +kernel
theorem dX9_copy_31 : decode cX9_copy 31 = .ok (.baload, 1) := by decide +kernel
theorem dX9_copy_32 : decode cX9_copy 32 = .ok (.ifCond .ne 6, 3) := by decide +kernel
theorem dX9_copy_35 : decode cX9_copy 35 = .ok (.bipush (-11), 2) := by decide +kernel
theorem dX9_copy_37 : decode cX9_copy 37 = .ok (.ireturn, 1) := by decide +kernel
theorem dX9_copy_38 : decode cX9_copy 38 = .ok (.aload_n 0, 1) := by decide +kernel
theorem dX9_copy_39 : decode cX9_copy 39 = .ok (.getfield 66, 3) := by decide +kernel
theorem dX9_copy_42 : decode cX9_copy 42 = .ok (.iload_n 1, 1) := by decide +kernel
theorem dX9_copy_43 : decode cX9_copy 43 = .ok (.iaload, 1) := by decide +kernel
theorem dX9_copy_44 : decode cX9_copy 44 = .ok (.aload_n 0, 1) := by decide +kernel
theorem dX9_copy_45 : decode cX9_copy 45 = .ok (.getfield 66, 3) := by decide +kernel
theorem dX9_copy_48 : decode cX9_copy 48 = .ok (.iload_n 3, 1) := by decide +kernel
theorem dX9_copy_49 : decode cX9_copy 49 = .ok (.iaload, 1) := by decide +kernel
theorem dX9_copy_50 : decode cX9_copy 50 = .ok (.if_icmp .eq 6, 3) := by decide +kernel
theorem dX9_copy_53 : decode cX9_copy 53 = .ok (.bipush (-13), 2) := by decide +kernel
theorem dX9_copy_55 : decode cX9_copy 55 = .ok (.ireturn, 1) := by decide +kernel
theorem dX9_copy_56 : decode cX9_copy 56 = .ok (.iload 5, 2) := by decide +kernel
theorem dX9_copy_58 : decode cX9_copy 58 = .ok (.ifCond .lt 39, 3) := by decide +kernel
theorem dX9_copy_61 : decode cX9_copy 61 = .ok (.iload_n 2, 1) := by decide +kernel
theorem dX9_copy_62 : decode cX9_copy 62 = .ok (.ifCond .lt 35, 3) := by decide +kernel
theorem dX9_copy_65 : decode cX9_copy 65 = .ok (.iload 4, 2) := by decide +kernel
theorem dX9_copy_67 : decode cX9_copy 67 = .ok (.ifCond .lt 30, 3) := by decide +kernel
theorem dX9_copy_70 : decode cX9_copy 70 = .ok (.iload_n 2, 1) := by decide +kernel
theorem dX9_copy_71 : decode cX9_copy 71 = .ok (.aload_n 0, 1) := by decide +kernel
theorem dX9_copy_72 : decode cX9_copy 72 = .ok (.getfield 69, 3) := by decide +kernel
theorem dX9_copy_75 : decode cX9_copy 75 = .ok (.iload_n 1, 1) := by decide +kernel
theorem dX9_copy_76 : decode cX9_copy 76 = .ok (.iaload, 1) := by decide +kernel
theorem dX9_copy_77 : decode cX9_copy 77 = .ok (.iload 5, 2) := by decide +kernel
theorem dX9_copy_79 : decode cX9_copy 79 = .ok (.isub, 1) := by decide +kernel
theorem dX9_copy_80 : decode cX9_copy 80 = .ok (.if_icmp .gt 17, 3) := by decide +kernel
theorem dX9_copy_83 : decode cX9_copy 83 = .ok (.iload 4, 2) := by decide +kernel
theorem dX9_copy_85 : decode cX9_copy 85 = .ok (.aload_n 0, 1) := by decide +kernel
theorem dX9_copy_86 : decode cX9_copy 86 = .ok (.getfield 69, 3) := by decide +kernel
theorem dX9_copy_89 : decode cX9_copy 89 = .ok (.iload_n 3, 1) := by decide +kernel
theorem dX9_copy_90 : decode cX9_copy 90 = .ok (.iaload, 1) := by decide +kernel
theorem dX9_copy_91 : decode cX9_copy 91 = .ok (.iload 5, 2) := by decide +kernel
theorem dX9_copy_93 : decode cX9_copy 93 = .ok (.isub, 1) := by decide +kernel
theorem dX9_copy_94 : decode cX9_copy 94 = .ok (.if_icmp .le 6, 3) := by decide +kernel
theorem dX9_copy_97 : decode cX9_copy 97 = .ok (.bipush (-12), 2) := by decide +kernel
theorem dX9_copy_99 : decode cX9_copy 99 = .ok (.ireturn, 1) := by decide +kernel
theorem dX9_copy_100 : decode cX9_copy 100 = .ok (.iload_n 1, 1) := by decide +kernel
theorem dX9_copy_101 : decode cX9_copy 101 = .ok (.iload_n 3, 1) := by decide +kernel
theorem dX9_copy_102 : decode cX9_copy 102 = .ok (.if_icmp .ne 13, 3) := by decide +kernel
theorem dX9_copy_105 : decode cX9_copy 105 = .ok (.iload_n 2, 1) := by decide +kernel
theorem dX9_copy_106 : decode cX9_copy 106 = .ok (.iload 4, 2) := by decide +kernel
theorem dX9_copy_108 : decode cX9_copy 108 = .ok (.if_icmp .ge 7, 3) := by decide +kernel
theorem dX9_copy_111 : decode cX9_copy 111 = .ok (.iconst 1, 1) := by decide +kernel
theorem dX9_copy_112 : decode cX9_copy 112 = .ok (.goto 4, 3) := by decide +kernel
theorem dX9_copy_115 : decode cX9_copy 115 = .ok (.iconst 0, 1) := by decide +kernel
theorem dX9_copy_116 : decode cX9_copy 116 = .ok (.istore 6, 2) := by decide +kernel
theorem dX9_copy_118 : decode cX9_copy 118 = .ok (.iconst 0, 1) := by decide +kernel
theorem dX9_copy_119 : decode cX9_copy 119 = .ok (.istore 7, 2) := by decide +kernel
theorem dX9_copy_121 : decode cX9_copy 121 = .ok (.iload 7, 2) := by decide +kernel
theorem dX9_copy_123 : decode cX9_copy 123 = .ok (.iload 5, 2) := by decide +kernel
theorem dX9_copy_125 : decode cX9_copy 125 = .ok (.if_icmp .ge 57, 3) := by decide +kernel
theorem dX9_copy_128 : decode cX9_copy 128 = .ok (.iload 6, 2) := by decide +kernel
theorem dX9_copy_130 : decode cX9_copy 130 = .ok (.ifCond .eq 13, 3) := by decide +kernel
theorem dX9_copy_133 : decode cX9_copy 133 = .ok (.iload 5, 2) := by decide +kernel
theorem dX9_copy_135 : decode cX9_copy 135 = .ok (.iconst 1, 1) := by decide +kernel
theorem dX9_copy_136 : decode cX9_copy 136 = .ok (.isub, 1) := by decide +kernel
theorem dX9_copy_137 : decode cX9_copy 137 = .ok (.iload 7, 2) := by decide +kernel
theorem dX9_copy_139 : decode cX9_copy 139 = .ok (.isub, 1) := by decide +kernel
theorem dX9_copy_140 : decode cX9_copy 140 = .ok (.goto 5, 3) := by decide +kernel
theorem dX9_copy_143 : decode cX9_copy 143 = .ok (.iload 7, 2) := by decide +kernel
theorem dX9_copy_145 : decode cX9_copy 145 = .ok (.istore 8, 2) := by decide +kernel
theorem dX9_copy_147 : decode cX9_copy 147 = .ok (.aload_n 0, 1) := by decide +kernel
theorem dX9_copy_148 : decode cX9_copy 148 = .ok (.getfield 72, 3) := by decide +kernel
theorem dX9_copy_151 : decode cX9_copy 151 = .ok (.bipush 40, 2) := by decide +kernel
theorem dX9_copy_153 : decode cX9_copy 153 = .ok (.iload_n 3, 1) := by decide +kernel
theorem dX9_copy_154 : decode cX9_copy 154 = .ok (.imul, 1) := by decide +kernel
theorem dX9_copy_155 : decode cX9_copy 155 = .ok (.iload 4, 2) := by decide +kernel
theorem dX9_copy_157 : decode cX9_copy 157 = .ok (.iadd, 1) := by decide +kernel
theorem dX9_copy_158 : decode cX9_copy 158 = .ok (.iload 8, 2) := by decide +kernel
theorem dX9_copy_160 : decode cX9_copy 160 = .ok (.iadd, 1) := by decide +kernel
theorem dX9_copy_161 : decode cX9_copy 161 = .ok (.aload_n 0, 1) := by decide +kernel
theorem dX9_copy_162 : decode cX9_copy 162 = .ok (.getfield 72, 3) := by decide +kernel
theorem dX9_copy_165 : decode cX9_copy 165 = .ok (.bipush 40, 2) := by decide +kernel
theorem dX9_copy_167 : decode cX9_copy 167 = .ok (.iload_n 1, 1) := by decide +kernel
theorem dX9_copy_168 : decode cX9_copy 168 = .ok (.imul, 1) := by decide +kernel
theorem dX9_copy_169 : decode cX9_copy 169 = .ok (.iload_n 2, 1) := by decide +kernel
theorem dX9_copy_170 : decode cX9_copy 170 = .ok (.iadd, 1) := by decide +kernel
theorem dX9_copy_171 : decode cX9_copy 171 = .ok (.iload 8, 2) := by decide +kernel
theorem dX9_copy_173 : decode cX9_copy 173 = .ok (.iadd, 1) := by decide +kernel
theorem dX9_copy_174 : decode cX9_copy 174 = .ok (.iaload, 1) := by decide +kernel
theorem dX9_copy_175 : decode cX9_copy 175 = .ok (.iastore, 1) := by decide +kernel
theorem dX9_copy_176 : decode cX9_copy 176 = .ok (.iinc 7 1, 3) := by decide +kernel
theorem dX9_copy_179 : decode cX9_copy 179 = .ok (.goto (-58), 3) := by decide +kernel
theorem dX9_copy_182 : decode cX9_copy 182 = .ok (.iload 5, 2) := by decide +kernel
theorem dX9_copy_184 : decode cX9_copy 184 = .ok (.ireturn, 1) := by decide +kernel
theorem qX9_copy (d : Nat) (x1 : Int) (x2 : Int) (x3 : Int) (x4 : Int) (x5 : Int) (s : Sg) : RUN (d + 1) mX9_copy [vr 32 0, vi x1, vi x2, vi x3, vi x4, vi x5] s = bI (RUN d mX9_isSheet [vi x1] s) (fun r1 s1 => if r1 = 0 then (some (some (vi (-2)), s1)) else (bI (RUN d mX9_isSheet [vi x3] s1) (fun r2 s2 => if r2 = 0 then (some (some (vi (-2)), s2)) else (if inb x1 4 then (if (s2 48 0 (Int.toNat x1)) = 0 then (some (some (vi (-11)), s2)) else (if inb x3 4 then (if (s2 48 0 (Int.toNat x3)) = 0 then (some (some (vi (-11)), s2)) else (if inb x1 4 then (if inb x3 4 then (if (s2 49 0 (Int.toNat x1)) = (s2 49 0 (Int.toNat x3)) then (if x5 < 0 then (some (some (vi (-12)), s2)) else (if x2 < 0 then (some (some (vi (-12)), s2)) else (if x4 < 0 then (some (some (vi (-12)), s2)) else (if inb x1 4 then (if (w32 ((s2 50 0 (Int.toNat x1)) - x5)) < x2 then (some (some (vi (-12)), s2)) else (if inb x3 4 then (if (w32 ((s2 50 0 (Int.toNat x3)) - x5)) < x4 then (some (some (vi (-12)), s2)) else (if x1 = x3 then (if x2 < x4 then (EV (d + 1) mX9_copy (116, [vr 32 0, vi x1, vi x2, vi x3, vi x4, vi x5, UU, UU, UU], [vi 1], s2)) else (EV (d + 1) mX9_copy (115, [vr 32 0, vi x1, vi x2, vi x3, vi x4, vi x5, UU, UU, UU], [], s2))) else (EV (d + 1) mX9_copy (115, [vr 32 0, vi x1, vi x2, vi x3, vi x4, vi x5, UU, UU, UU], [], s2)))) else none)) else none)))) else (some (some (vi (-13)), s2))) else none) else none)) else none)) else none)))) := x_run rfl (x_st 1 dX9_copy_0 rfl (x_ci 4 [vr 32 0, vi x1, vi x2, vi x3, vi x4, vi x5, UU, UU, UU] [] dX9_copy_1 rfl (fun r1 s1 => x_br dX9_copy_4 (x_if (x_go 14 (x_st 16 dX9_copy_14 rfl (x_ret dX9_copy_16 rfl))) (x_go 7 (x_st 8 dX9_copy_7 rfl (x_ci 11 [vr 32 0, vi x1, vi x2, vi x3, vi x4, vi x5, UU, UU, UU] [] dX9_copy_8 rfl (fun r2 s2 => x_br dX9_copy_11 (x_if (x_go 14 (x_st 16 dX9_copy_14 rfl (x_ret dX9_copy_16 rfl))) (x_go 17 (x_st 18 dX9_copy_17 rfl (x_st 21 dX9_copy_18 rfl (x_st 22 dX9_copy_21 rfl (x_br dX9_copy_22 (x_if (x_go 23 (x_br dX9_copy_23 (x_if (x_go 35 (x_st 37 dX9_copy_35 rfl (x_ret dX9_copy_37 rfl))) (x_go 26 (x_st 27 dX9_copy_26 rfl (x_st 30 dX9_copy_27 rfl (x_st 31 dX9_copy_30 rfl (x_br dX9_copy_31 (x_if (x_go 32 (x_br dX9_copy_32 (x_if (x_go 35 (x_st 37 dX9_copy_35 rfl (x_ret dX9_copy_37 rfl))) (x_go 38 (x_st 39 dX9_copy_38 rfl (x_st 42 dX9_copy_39 rfl (x_st 43 dX9_copy_42 rfl (x_br dX9_copy_43 (x_if (x_go 44 (x_st 45 dX9_copy_44 rfl (x_st 48 dX9_copy_45 rfl (x_st 49 dX9_copy_48 rfl (x_br dX9_copy_49 (x_if (x_go 50 (x_br dX9_copy_50 (x_if (x_go 56 (x_st 58 dX9_copy_56 rfl (x_br dX9_copy_58 (x_if (x_go 97 (x_st 99 dX9_copy_97 rfl (x_ret dX9_copy_99 rfl))) (x_go 61 (x_st 62 dX9_copy_61 rfl (x_br dX9_copy_62 (x_if (x_go 97 (x_st 99 dX9_copy_97 rfl (x_ret dX9_copy_99 rfl))) (x_go 65 (x_st 67 dX9_copy_65 rfl (x_br dX9_copy_67 (x_if (x_go 97 (x_st 99 dX9_copy_97 rfl (x_ret dX9_copy_99 rfl))) (x_go 70 (x_st 71 dX9_copy_70 rfl (x_st 72 dX9_copy_71 rfl (x_st 75 dX9_copy_72 rfl (x_st 76 dX9_copy_75 rfl (x_br dX9_copy_76 (x_if (x_go 77 (x_st 79 dX9_copy_77 rfl (x_st 80 dX9_copy_79 rfl (x_br dX9_copy_80 (x_if (x_go 97 (x_st 99 dX9_copy_97 rfl (x_ret dX9_copy_99 rfl))) (x_go 83 (x_st 85 dX9_copy_83 rfl (x_st 86 dX9_copy_85 rfl (x_st 89 dX9_copy_86 rfl (x_st 90 dX9_copy_89 rfl (x_br dX9_copy_90 (x_if (x_go 91 (x_st 93 dX9_copy_91 rfl (x_st 94 dX9_copy_93 rfl (x_br dX9_copy_94 (x_if (x_go 97 (x_st 99 dX9_copy_97 rfl (x_ret dX9_copy_99 rfl))) (x_go 100 (x_st 101 dX9_copy_100 rfl (x_st 102 dX9_copy_101 rfl (x_br dX9_copy_102 (x_if (x_go 105 (x_st 106 dX9_copy_105 rfl (x_st 108 dX9_copy_106 rfl (x_br dX9_copy_108 (x_if (x_go 111 (x_st 112 dX9_copy_111 rfl (x_st 116 dX9_copy_112 rfl (rfl)))) (x_go 115 (rfl))))))) (x_go 115 (rfl)))))))))))) x_no)))))))))))) x_no))))))))))))))))))) (x_go 53 (x_st 55 dX9_copy_53 rfl (x_ret dX9_copy_55 rfl)))))) x_no)))))) x_no))))))))) x_no))))))))) x_no)))))))))))))))
theorem qX9_copy_116 (d : Nat) (x1 : Int) (x2 : Int) (x3 : Int) (x4 : Int) (x5 : Int) (z6 : PV) (z7 : PV) (z8 : PV) (y0 : Int) (s : Sg) : EV d mX9_copy (116, [vr 32 0, vi x1, vi x2, vi x3, vi x4, vi x5, z6, z7, z8], [vi y0], s) = EV d mX9_copy (121, [vr 32 0, vi x1, vi x2, vi x3, vi x4, vi x5, vi y0, vi 0, z8], [], s) := x_so 118 [vr 32 0, vi x1, vi x2, vi x3, vi x4, vi x5, vi y0, z7, z8] dX9_copy_116 rfl (x_st 119 dX9_copy_118 rfl (x_so 121 [vr 32 0, vi x1, vi x2, vi x3, vi x4, vi x5, vi y0, vi 0, z8] dX9_copy_119 rfl (rfl)))
theorem qX9_copy_115 (d : Nat) (x1 : Int) (x2 : Int) (x3 : Int) (x4 : Int) (x5 : Int) (z6 : PV) (z7 : PV) (z8 : PV) (s : Sg) : EV d mX9_copy (115, [vr 32 0, vi x1, vi x2, vi x3, vi x4, vi x5, z6, z7, z8], [], s) = EV d mX9_copy (116, [vr 32 0, vi x1, vi x2, vi x3, vi x4, vi x5, z6, z7, z8], [vi 0], s) := x_st 116 dX9_copy_115 rfl (rfl)
theorem qX9_copy_121 (d : Nat) (x1 : Int) (x2 : Int) (x3 : Int) (x4 : Int) (x5 : Int) (x6 : Int) (x7 : Int) (z8 : PV) (s : Sg) : EV d mX9_copy (121, [vr 32 0, vi x1, vi x2, vi x3, vi x4, vi x5, vi x6, vi x7, z8], [], s) = if x7 < x5 then (if x6 = 0 then (EV d mX9_copy (145, [vr 32 0, vi x1, vi x2, vi x3, vi x4, vi x5, vi x6, vi x7, z8], [vi x7], s)) else (EV d mX9_copy (145, [vr 32 0, vi x1, vi x2, vi x3, vi x4, vi x5, vi x6, vi x7, z8], [vi (w32 ((w32 (x5 - 1)) - x7))], s))) else (some (some (vi x5), s)) := x_st 123 dX9_copy_121 rfl (x_st 125 dX9_copy_123 rfl (x_br dX9_copy_125 (x_if (x_go 128 (x_st 130 dX9_copy_128 rfl (x_br dX9_copy_130 (x_if (x_go 143 (x_st 145 dX9_copy_143 rfl (rfl))) (x_go 133 (x_st 135 dX9_copy_133 rfl (x_st 136 dX9_copy_135 rfl (x_st 137 dX9_copy_136 rfl (x_st 139 dX9_copy_137 rfl (x_st 140 dX9_copy_139 rfl (x_st 145 dX9_copy_140 rfl (rfl)))))))))))) (x_go 182 (x_st 184 dX9_copy_182 rfl (x_ret dX9_copy_184 rfl))))))
theorem qX9_copy_145 (d : Nat) (x1 : Int) (x2 : Int) (x3 : Int) (x4 : Int) (x5 : Int) (x6 : Int) (x7 : Int) (z8 : PV) (y0 : Int) (s : Sg) : EV d mX9_copy (145, [vr 32 0, vi x1, vi x2, vi x3, vi x4, vi x5, vi x6, vi x7, z8], [vi y0], s) = if inb (w32 ((w32 ((w32 (40 * x1)) + x2)) + y0)) 160 then (if inb (w32 ((w32 ((w32 (40 * x3)) + x4)) + y0)) 160 then (EV d mX9_copy (121, [vr 32 0, vi x1, vi x2, vi x3, vi x4, vi x5, vi x6, vi (w32 (x7 + 1)), vi y0], [], (up s 51 0 (Int.toNat (w32 ((w32 ((w32 (40 * x3)) + x4)) + y0))) (s 51 0 (Int.toNat (w32 ((w32 ((w32 (40 * x1)) + x2)) + y0))))))) else none) else none := x_so 147 [vr 32 0, vi x1, vi x2, vi x3, vi x4, vi x5, vi x6, vi x7, vi y0] dX9_copy_145 rfl (x_st 148 dX9_copy_147 rfl (x_st 151 dX9_copy_148 rfl (x_st 153 dX9_copy_151 rfl (x_st 154 dX9_copy_153 rfl (x_st 155 dX9_copy_154 rfl (x_st 157 dX9_copy_155 rfl (x_st 158 dX9_copy_157 rfl (x_st 160 dX9_copy_158 rfl (x_st 161 dX9_copy_160 rfl (x_st 162 dX9_copy_161 rfl (x_st 165 dX9_copy_162 rfl (x_st 167 dX9_copy_165 rfl (x_st 168 dX9_copy_167 rfl (x_st 169 dX9_copy_168 rfl (x_st 170 dX9_copy_169 rfl (x_st 171 dX9_copy_170 rfl (x_st 173 dX9_copy_171 rfl (x_st 174 dX9_copy_173 rfl (x_br dX9_copy_174 (x_if (x_go 175 (x_br dX9_copy_175 (x_if (x_go 176 (x_so 179 [vr 32 0, vi x1, vi x2, vi x3, vi x4, vi x5, vi x6, vi (w32 (x7 + 1)), vi y0] dX9_copy_176 rfl (x_st 121 dX9_copy_179 rfl (rfl)))) x_no))) x_no))))))))))))))))))))
theorem dX9_cars_0 : decode cX9_cars 0 = .ok (.iload_n 1, 1) := by decide +kernel
theorem dX9_cars_1 : decode cX9_cars 1 = .ok (.invokestatic 296, 3) := by decide +kernel
theorem dX9_cars_4 : decode cX9_cars 4 = .ok (.ifCond .eq 28, 3) := by decide +kernel
theorem dX9_cars_7 : decode cX9_cars 7 = .ok (.iload_n 2, 1) := by decide +kernel
theorem dX9_cars_8 : decode cX9_cars 8 = .ok (.i2l, 1) := by decide +kernel
theorem dX9_cars_9 : decode cX9_cars 9 = .ok (.lconst 0, 1) := by decide +kernel
theorem dX9_cars_10 : decode cX9_cars 10 = .ok (.ldc2_w 324, 3) := by decide +kernel
theorem dX9_cars_13 : decode cX9_cars 13 = .ok (.invokestatic 85, 3) := by decide +kernel
theorem dX9_cars_16 : decode cX9_cars 16 = .ok (.ifCond .eq 16, 3) := by decide +kernel
theorem dX9_cars_19 : decode cX9_cars 19 = .ok (.iload 4, 2) := by decide +kernel
theorem dX9_cars_21 : decode cX9_cars 21 = .ok (.i2l, 1) := by decide +kernel
theorem dX9_cars_22 : decode cX9_cars 22 = .ok (.lconst 0, 1) := by decide +kernel
theorem dX9_cars_23 : decode cX9_cars 23 = .ok (.ldc2_w 326, 3) := by decide +kernel
theorem dX9_cars_26 : decode cX9_cars 26 = .ok (.invokestatic 85, 3) := by decide +kernel
theorem dX9_cars_29 : decode cX9_cars 29 = .ok (.ifCond .ne 6, 3) := by decide +kernel
theorem dX9_cars_32 : decode cX9_cars 32 = .ok (.bipush (-2), 2) := by decide +kernel
theorem dX9_cars_34 : decode cX9_cars 34 = .ok (.ireturn, 1) := by decide +kernel
theorem dX9_cars_35 : decode cX9_cars 35 = .ok (.aload_n 0, 1) := by decide +kernel
theorem dX9_cars_36 : decode cX9_cars 36 = .ok (.getfield 62, 3) := by decide +kernel
theorem dX9_cars_39 : decode cX9_cars 39 = .ok (.iload_n 1, 1) := by decide +kernel
theorem dX9_cars_40 : decode cX9_cars 40 = .ok (.baload, 1) := by decide +kernel
theorem dX9_cars_41 : decode cX9_cars 41 = .ok (.ifCond .eq 16, 3) := by decide +kernel
theorem dX9_cars_44 : decode cX9_cars 44 = .ok (.aload_n 0, 1) := by decide +kernel
theorem dX9_cars_45 : decode cX9_cars 45 = .ok (.getfield 66, 3) := by decide +kernel
theorem dX9_cars_48 : decode cX9_cars 48 = .ok (.iload_n 1, 1) := by decide +kernel
theorem dX9_cars_49 : decode cX9_cars 49 = .ok (.iaload, 1) := by decide +kernel
theorem dX9_cars_50 : decode cX9_cars 50 = .ok (.iload_n 2, 1) := by decide +kernel
theorem dX9_cars_51 : decode cX9_cars 51 = .ok (.if_icmp .eq 6, 3) := by decide +kernel
theorem dX9_cars_54 : decode cX9_cars 54 = .ok (.bipush (-13), 2) := by decide +kernel
theorem dX9_cars_56 : decode cX9_cars 56 = .ok (.ireturn, 1) := by decide +kernel
theorem dX9_cars_57 : decode cX9_cars 57 = .ok (.aload_n 0, 1) := by decide +kernel
theorem dX9_cars_58 : decode cX9_cars 58 = .ok (.getfield 62, 3) := by decide +kernel
theorem dX9_cars_61 : decode cX9_cars 61 = .ok (.iload_n 1, 1) := by decide +kernel
theorem dX9_cars_62 : decode cX9_cars 62 = .ok (.baload, 1) := by decide +kernel
theorem dX9_cars_63 : decode cX9_cars 63 = .ok (.ifCond .ne 6, 3) := by decide +kernel
theorem dX9_cars_66 : decode cX9_cars 66 = .ok (.bipush (-11), 2) := by decide +kernel
theorem dX9_cars_68 : decode cX9_cars 68 = .ok (.ireturn, 1) := by decide +kernel
theorem dX9_cars_69 : decode cX9_cars 69 = .ok (.iconst 0, 1) := by decide +kernel
theorem dX9_cars_70 : decode cX9_cars 70 = .ok (.istore 5, 2) := by decide +kernel
theorem dX9_cars_72 : decode cX9_cars 72 = .ok (.iconst 0, 1) := by decide +kernel
theorem dX9_cars_73 : decode cX9_cars 73 = .ok (.istore 6, 2) := by decide +kernel
theorem dX9_cars_75 : decode cX9_cars 75 = .ok (.iload 6, 2) := by decide +kernel
theorem dX9_cars_77 : decode cX9_cars 77 = .ok (.iload 4, 2) := by decide +kernel
theorem dX9_cars_79 : decode cX9_cars 79 = .ok (.if_icmp .ge 88, 3) := by decide +kernel
theorem dX9_cars_82 : decode cX9_cars 82 = .ok (.iload_n 3, 1) := by decide +kernel
theorem dX9_cars_83 : decode cX9_cars 83 = .ok (.ifCond .lt 20, 3) := by decide +kernel
theorem dX9_cars_86 : decode cX9_cars 86 = .ok (.iload_n 3, 1) := by decide +kernel
theorem dX9_cars_87 : decode cX9_cars 87 = .ok (.aload_n 0, 1) := by decide +kernel
theorem dX9_cars_88 : decode cX9_cars 88 = .ok (.getfield 69, 3) := by decide +kernel
theorem dX9_cars_91 : decode cX9_cars 91 = .ok (.iload_n 1, 1) := by decide +kernel
theorem dX9_cars_92 : decode cX9_cars 92 = .ok (.iaload, 1) := by decide +kernel
theorem dX9_cars_93 : decode cX9_cars 93 = .ok (.iconst 3, 1) := by decide +kernel
theorem dX9_cars_94 : decode cX9_cars 94 = .ok (.iload 6, 2) := by decide +kernel
theorem dX9_cars_96 : decode cX9_cars 96 = .ok (.imul, 1) := by decide +kernel
theorem dX9_cars_97 : decode cX9_cars 97 = .ok (.isub, 1) := by decide +kernel
theorem dX9_cars_98 : decode cX9_cars 98 = .ok (.iconst 3, 1) := by decide +kernel
theorem dX9_cars_99 : decode cX9_cars 99 = .ok (.isub, 1) := by decide +kernel
theorem dX9_cars_100 : decode cX9_cars 100 = .ok (.if_icmp .le 6, 3) := by decide +kernel
theorem dX9_cars_103 : decode cX9_cars 103 = .ok (.bipush (-12), 2) := by decide +kernel
theorem dX9_cars_105 : decode cX9_cars 105 = .ok (.ireturn, 1) := by decide +kernel
theorem dX9_cars_106 : decode cX9_cars 106 = .ok (.bipush 40, 2) := by decide +kernel
theorem dX9_cars_108 : decode cX9_cars 108 = .ok (.iload_n 1, 1) := by decide +kernel
theorem dX9_cars_109 : decode cX9_cars 109 = .ok (.imul, 1) := by decide +kernel
theorem dX9_cars_110 : decode cX9_cars 110 = .ok (.iload_n 3, 1) := by decide +kernel
theorem dX9_cars_111 : decode cX9_cars 111 = .ok (.iadd, 1) := by decide +kernel
theorem dX9_cars_112 : decode cX9_cars 112 = .ok (.iconst 3, 1) := by decide +kernel
theorem dX9_cars_113 : decode cX9_cars 113 = .ok (.iload 6, 2) := by decide +kernel
theorem dX9_cars_115 : decode cX9_cars 115 = .ok (.imul, 1) := by decide +kernel
theorem dX9_cars_116 : decode cX9_cars 116 = .ok (.iadd, 1) := by decide +kernel
theorem dX9_cars_117 : decode cX9_cars 117 = .ok (.istore 7, 2) := by decide +kernel
theorem dX9_cars_119 : decode cX9_cars 119 = .ok (.iload 5, 2) := by decide +kernel
theorem dX9_cars_121 : decode cX9_cars 121 = .ok (.aload_n 0, 1) := by decide +kernel
theorem dX9_cars_122 : decode cX9_cars 122 = .ok (.aload_n 0, 1) := by decide +kernel
theorem dX9_cars_123 : decode cX9_cars 123 = .ok (.getfield 72, 3) := by decide +kernel
theorem dX9_cars_126 : decode cX9_cars 126 = .ok (.iload 7, 2) := by decide +kernel
theorem dX9_cars_128 : decode cX9_cars 128 = .ok (.iaload, 1) := by decide +kernel
theorem dX9_cars_129 : decode cX9_cars 129 = .ok (.aload_n 0, 1) := by decide +kernel
theorem dX9_cars_130 : decode cX9_cars 130 = .ok (.getfield 72, 3) := by decide +kernel
theorem dX9_cars_133 : decode cX9_cars 133 = .ok (.iload 7, 2) := by decide +kernel
theorem dX9_cars_135 : decode cX9_cars 135 = .ok (.iconst 1, 1) := by decide +kernel
theorem dX9_cars_136 : decode cX9_cars 136 = .ok (.iadd, 1) := by decide +kernel
theorem dX9_cars_137 : decode cX9_cars 137 = .ok (.iaload, 1) := by decide +kernel
theorem dX9_cars_138 : decode cX9_cars 138 = .ok (.aload_n 0, 1) := by decide +kernel
theorem dX9_cars_139 : decode cX9_cars 139 = .ok (.getfield 72, 3) := by decide +kernel
theorem dX9_cars_142 : decode cX9_cars 142 = .ok (.iload 7, 2) := by decide +kernel
theorem dX9_cars_144 : decode cX9_cars 144 = .ok (.iconst 2, 1) := by decide +kernel
theorem dX9_cars_145 : decode cX9_cars 145 = .ok (.iadd, 1) := by decide +kernel
theorem dX9_cars_146 : decode cX9_cars 146 = .ok (.iaload, 1) := by decide +kernel
theorem dX9_cars_147 : decode cX9_cars 147 = .ok (.invokevirtual 328, 3) := by decide +kernel
theorem dX9_cars_150 : decode cX9_cars 150 = .ok (.ifCond .lt 7, 3) := by decide +kernel
theorem dX9_cars_153 : decode cX9_cars 153 = .ok (.iconst 1, 1) := by decide +kernel
theorem dX9_cars_154 : decode cX9_cars 154 = .ok (.goto 4, 3) := by decide +kernel
theorem dX9_cars_157 : decode cX9_cars 157 = .ok (.iconst 0, 1) := by decide +kernel
theorem dX9_cars_158 : decode cX9_cars 158 = .ok (.iadd, 1) := by decide +kernel
theorem dX9_cars_159 : decode cX9_cars 159 = .ok (.istore 5, 2) := by decide +kernel
theorem dX9_cars_161 : decode cX9_cars 161 = .ok (.iinc 6 1, 3) := by decide +kernel
theorem dX9_cars_164 : decode cX9_cars 164 = .ok (.goto (-89), 3) := by decide +kernel
theorem dX9_cars_167 : decode cX9_cars 167 = .ok (.iload 5, 2) := by decide +kernel
theorem dX9_cars_169 : decode cX9_cars 169 = .ok (.ireturn, 1) := by decide +kernel
theorem qX9_cars (d : Nat) (x1 : Int) (x2 : Int) (x3 : Int) (x4 : Int) (s : Sg) : RUN (d + 1) mX9_cars [vr 32 0, vi x1, vi x2, vi x3, vi x4] s = bI (RUN d mX9_isSheet [vi x1] s) (fun r1 s1 => if r1 = 0 then (some (some (vi (-2)), s1)) else (bI (RUN d mX9_in [vl x2, vl 0, vl 2] s1) (fun r2 s2 => if r2 = 0 then (some (some (vi (-2)), s2)) else (bI (RUN d mX9_in [vl x4, vl 0, vl 6] s2) (fun r3 s3 => if r3 = 0 then (some (some (vi (-2)), s3)) else (if inb x1 4 then (if (s3 48 0 (Int.toNat x1)) = 0 then (EV (d + 1) mX9_cars (57, [vr 32 0, vi x1, vi x2, vi x3, vi x4, UU, UU, UU], [], s3)) else (if inb x1 4 then (if (s3 49 0 (Int.toNat x1)) = x2 then (EV (d + 1) mX9_cars (57, [vr 32 0, vi x1, vi x2, vi x3, vi x4, UU, UU, UU], [], s3)) else (some (some (vi (-13)), s3))) else none)) else none)))))) := x_run rfl (x_st 1 dX9_cars_0 rfl (x_ci 4 [vr 32 0, vi x1, vi x2, vi x3, vi x4, UU, UU, UU] [] dX9_cars_1 rfl (fun r1 s1 => x_br dX9_cars_4 (x_if (x_go 32 (x_st 34 dX9_cars_32 rfl (x_ret dX9_cars_34 rfl))) (x_go 7 (x_st 8 dX9_cars_7 rfl (x_st 9 dX9_cars_8 rfl (x_st 10 dX9_cars_9 rfl (x_st 13 dX9_cars_10 rfl (x_ci 16 [vr 32 0, vi x1, vi x2, vi x3, vi x4, UU, UU, UU] [] dX9_cars_13 rfl (fun r2 s2 => x_br dX9_cars_16 (x_if (x_go 32 (x_st 34 dX9_cars_32 rfl (x_ret dX9_cars_34 rfl))) (x_go 19 (x_st 21 dX9_cars_19 rfl (x_st 22 dX9_cars_21 rfl (x_st 23 dX9_cars_22 rfl (x_st 26 dX9_cars_23 rfl (x_ci 29 [vr 32 0, vi x1, vi x2, vi x3, vi x4, UU, UU, UU] [] dX9_cars_26 rfl (fun r3 s3 => x_br dX9_cars_29 (x_if (x_go 32 (x_st 34 dX9_cars_32 rfl (x_ret dX9_cars_34 rfl))) (x_go 35 (x_st 36 dX9_cars_35 rfl (x_st 39 dX9_cars_36 rfl (x_st 40 dX9_cars_39 rfl (x_br dX9_cars_40 (x_if (x_go 41 (x_br dX9_cars_41 (x_if (x_go 57 (rfl)) (x_go 44 (x_st 45 dX9_cars_44 rfl (x_st 48 dX9_cars_45 rfl (x_st 49 dX9_cars_48 rfl (x_br dX9_cars_49 (x_if (x_go 50 (x_st 51 dX9_cars_50 rfl (x_br dX9_cars_51 (x_if (x_go 57 (rfl)) (x_go 54 (x_st 56 dX9_cars_54 rfl (x_ret dX9_cars_56 rfl))))))) x_no))))))))) x_no))))))))))))))))))))))))))
theorem qX9_cars_57 (d : Nat) (x1 : Int) (z2 : PV) (x3 : Int) (x4 : Int) (z5 : PV) (z6 : PV) (z7 : PV) (s : Sg) : EV d mX9_cars (57, [vr 32 0, vi x1, z2, vi x3, vi x4, z5, z6, z7], [], s) = if inb x1 4 then (if (s 48 0 (Int.toNat x1)) = 0 then (some (some (vi (-11)), s)) else (EV d mX9_cars (75, [vr 32 0, vi x1, z2, vi x3, vi x4, vi 0, vi 0, z7], [], s))) else none := x_st 58 dX9_cars_57 rfl (x_st 61 dX9_cars_58 rfl (x_st 62 dX9_cars_61 rfl (x_br dX9_cars_62 (x_if (x_go 63 (x_br dX9_cars_63 (x_if (x_go 66 (x_st 68 dX9_cars_66 rfl (x_ret dX9_cars_68 rfl))) (x_go 69 (x_st 70 dX9_cars_69 rfl (x_so 72 [vr 32 0, vi x1, z2, vi x3, vi x4, vi 0, z6, z7] dX9_cars_70 rfl (x_st 73 dX9_cars_72 rfl (x_so 75 [vr 32 0, vi x1, z2, vi x3, vi x4, vi 0, vi 0, z7] dX9_cars_73 rfl (rfl))))))))) x_no))))
theorem qX9_cars_75 (d : Nat) (x1 : Int) (z2 : PV) (x3 : Int) (x4 : Int) (x5 : Int) (x6 : Int) (z7 : PV) (s : Sg) : EV (d + 1) mX9_cars (75, [vr 32 0, vi x1, z2, vi x3, vi x4, vi x5, vi x6, z7], [], s) = if x6 < x4 then (if x3 < 0 then (some (some (vi (-12)), s)) else (if inb x1 4 then (if (w32 ((w32 ((s 50 0 (Int.toNat x1)) - (w32 (3 * x6)))) - 3)) < x3 then (some (some (vi (-12)), s)) else (if inb (w32 ((w32 ((w32 (40 * x1)) + x3)) + (w32 (3 * x6)))) 160 then (if inb (w32 ((w32 ((w32 ((w32 (40 * x1)) + x3)) + (w32 (3 * x6)))) + 1)) 160 then (if inb (w32 ((w32 ((w32 ((w32 (40 * x1)) + x3)) + (w32 (3 * x6)))) + 2)) 160 then (bI (RUN d mX9_car [vr 32 0, vi (s 51 0 (Int.toNat (w32 ((w32 ((w32 (40 * x1)) + x3)) + (w32 (3 * x6)))))), vi (s 51 0 (Int.toNat (w32 ((w32 ((w32 ((w32 (40 * x1)) + x3)) + (w32 (3 * x6)))) + 1)))), vi (s 51 0 (Int.toNat (w32 ((w32 ((w32 ((w32 (40 * x1)) + x3)) + (w32 (3 * x6)))) + 2))))] s) (fun r1 s1 => if r1 < 0 then (EV (d + 1) mX9_cars (158, [vr 32 0, vi x1, z2, vi x3, vi x4, vi x5, vi x6, vi (w32 ((w32 ((w32 (40 * x1)) + x3)) + (w32 (3 * x6))))], [vi 0, vi x5], s1)) else (EV (d + 1) mX9_cars (158, [vr 32 0, vi x1, z2, vi x3, vi x4, vi x5, vi x6, vi (w32 ((w32 ((w32 (40 * x1)) + x3)) + (w32 (3 * x6))))], [vi 1, vi x5], s1)))) else none) else none) else none)) else none)) else (some (some (vi x5), s)) := x_st 77 dX9_cars_75 rfl (x_st 79 dX9_cars_77 rfl (x_br dX9_cars_79 (x_if (x_go 82 (x_st 83 dX9_cars_82 rfl (x_br dX9_cars_83 (x_if (x_go 103 (x_st 105 dX9_cars_103 rfl (x_ret dX9_cars_105 rfl))) (x_go 86 (x_st 87 dX9_cars_86 rfl (x_st 88 dX9_cars_87 rfl (x_st 91 dX9_cars_88 rfl (x_st 92 dX9_cars_91 rfl (x_br dX9_cars_92 (x_if (x_go 93 (x_st 94 dX9_cars_93 rfl (x_st 96 dX9_cars_94 rfl (x_st 97 dX9_cars_96 rfl (x_st 98 dX9_cars_97 rfl (x_st 99 dX9_cars_98 rfl (x_st 100 dX9_cars_99 rfl (x_br dX9_cars_100 (x_if (x_go 103 (x_st 105 dX9_cars_103 rfl (x_ret dX9_cars_105 rfl))) (x_go 106 (x_st 108 dX9_cars_106 rfl (x_st 109 dX9_cars_108 rfl (x_st 110 dX9_cars_109 rfl (x_st 111 dX9_cars_110 rfl (x_st 112 dX9_cars_111 rfl (x_st 113 dX9_cars_112 rfl (x_st 115 dX9_cars_113 rfl (x_st 116 dX9_cars_115 rfl (x_st 117 dX9_cars_116 rfl (x_so 119 [vr 32 0, vi x1, z2, vi x3, vi x4, vi x5, vi x6, vi (w32 ((w32 ((w32 (40 * x1)) + x3)) + (w32 (3 * x6))))] dX9_cars_117 rfl (x_st 121 dX9_cars_119 rfl (x_st 122 dX9_cars_121 rfl (x_st 123 dX9_cars_122 rfl (x_st 126 dX9_cars_123 rfl (x_st 128 dX9_cars_126 rfl (x_br dX9_cars_128 (x_if (x_go 129 (x_st 130 dX9_cars_129 rfl (x_st 133 dX9_cars_130 rfl (x_st 135 dX9_cars_133 rfl (x_st 136 dX9_cars_135 rfl (x_st 137 dX9_cars_136 rfl (x_br dX9_cars_137 (x_if (x_go 138 (x_st 139 dX9_cars_138 rfl (x_st 142 dX9_cars_139 rfl (x_st 144 dX9_cars_142 rfl (x_st 145 dX9_cars_144 rfl (x_st 146 dX9_cars_145 rfl (x_br dX9_cars_146 (x_if (x_go 147 (x_ci 150 [vr 32 0, vi x1, z2, vi x3, vi x4, vi x5, vi x6, vi (w32 ((w32 ((w32 (40 * x1)) + x3)) + (w32 (3 * x6))))] [vi x5] dX9_cars_147 rfl (fun r1 s1 => x_br dX9_cars_150 (x_if (x_go 157 (x_st 158 dX9_cars_157 rfl (rfl))) (x_go 153 (x_st 154 dX9_cars_153 rfl (x_st 158 dX9_cars_154 rfl (rfl)))))))) x_no)))))))) x_no)))))))) x_no))))))))))))))))))))))))))) x_no))))))))))) (x_go 167 (x_st 169 dX9_cars_167 rfl (x_ret dX9_cars_169 rfl))))))
theorem qX9_cars_158 (d : Nat) (x1 : Int) (z2 : PV) (x3 : Int) (x4 : Int) (z5 : PV) (x6 : Int) (z7 : PV) (y0 : Int) (y1 : Int) (s : Sg) : EV d mX9_cars (158, [vr 32 0, vi x1, z2, vi x3, vi x4, z5, vi x6, z7], [vi y0, vi y1], s) = EV d mX9_cars (75, [vr 32 0, vi x1, z2, vi x3, vi x4, vi (w32 (y1 + y0)), vi (w32 (x6 + 1)), z7], [], s) := x_st 159 dX9_cars_158 rfl (x_so 161 [vr 32 0, vi x1, z2, vi x3, vi x4, vi (w32 (y1 + y0)), vi x6, z7] dX9_cars_159 rfl (x_so 164 [vr 32 0, vi x1, z2, vi x3, vi x4, vi (w32 (y1 + y0)), vi (w32 (x6 + 1)), z7] dX9_cars_161 rfl (x_st 75 dX9_cars_164 rfl (rfl))))
theorem dX9_taken_0 : decode cX9_taken 0 = .ok (.iload_n 2, 1) := by decide +kernel
theorem dX9_taken_1 : decode cX9_taken 1 = .ok (.i2l, 1) := by decide +kernel
theorem dX9_taken_2 : decode cX9_taken 2 = .ok (.lconst 0, 1) := by decide +kernel
theorem dX9_taken_3 : decode cX9_taken 3 = .ok (.ldc2_w 102, 3) := by decide +kernel
theorem dX9_taken_6 : decode cX9_taken 6 = .ok (.invokestatic 85, 3) := by decide +kernel
theorem dX9_taken_9 : decode cX9_taken 9 = .ok (.ifCond .ne 6, 3) := by decide +kernel
theorem dX9_taken_12 : decode cX9_taken 12 = .ok (.bipush (-2), 2) := by decide +kernel
theorem dX9_taken_14 : decode cX9_taken 14 = .ok (.ireturn, 1) := by decide +kernel
theorem dX9_taken_15 : decode cX9_taken 15 = .ok (.aload_n 0, 1) := by decide +kernel
theorem dX9_taken_16 : decode cX9_taken 16 = .ok (.iload_n 1, 1) := by decide +kernel
theorem dX9_taken_17 : decode cX9_taken 17 = .ok (.invokevirtual 91, 3) := by decide +kernel
theorem dX9_taken_20 : decode cX9_taken 20 = .ok (.ifCond .ne 6, 3) := by decide +kernel
theorem dX9_taken_23 : decode cX9_taken 23 = .ok (.bipush (-11), 2) := by decide +kernel
theorem dX9_taken_25 : decode cX9_taken 25 = .ok (.ireturn, 1) := by decide +kernel
theorem dX9_taken_26 : decode cX9_taken 26 = .ok (.aload_n 0, 1) := by decide +kernel
theorem dX9_taken_27 : decode cX9_taken 27 = .ok (.getfield 23, 3) := by decide +kernel
theorem dX9_taken_30 : decode cX9_taken 30 = .ok (.iload_n 1, 1) := by decide +kernel
theorem dX9_taken_31 : decode cX9_taken 31 = .ok (.iaload, 1) := by decide +kernel
theorem dX9_taken_32 : decode cX9_taken 32 = .ok (.istore_n 3, 1) := by decide +kernel
theorem dX9_taken_33 : decode cX9_taken 33 = .ok (.iload_n 3, 1) := by decide +kernel
theorem dX9_taken_34 : decode cX9_taken 34 = .ok (.iconst (-1), 1) := by decide +kernel
theorem dX9_taken_35 : decode cX9_taken 35 = .ok (.if_icmp .eq 16, 3) := by decide +kernel
theorem dX9_taken_38 : decode cX9_taken 38 = .ok (.iload_n 3, 1) := by decide +kernel
theorem dX9_taken_39 : decode cX9_taken 39 = .ok (.iload_n 2, 1) := by decide +kernel
theorem dX9_taken_40 : decode cX9_taken 40 = .ok (.if_icmp .eq 11, 3) := by decide +kernel
theorem dX9_taken_43 : decode cX9_taken 43 = .ok (.iload_n 3, 1) := by decide +kernel
theorem dX9_taken_44 : decode cX9_taken 44 = .ok (.invokestatic 331, 3) := by decide +kernel
theorem dX9_taken_47 : decode cX9_taken 47 = .ok (.istore_n 3, 1) := by decide +kernel
theorem dX9_taken_48 : decode cX9_taken 48 = .ok (.goto (-15), 3) := by decide +kernel
theorem dX9_taken_51 : decode cX9_taken 51 = .ok (.iload_n 3, 1) := by decide +kernel
theorem dX9_taken_52 : decode cX9_taken 52 = .ok (.iload_n 2, 1) := by decide +kernel
theorem dX9_taken_53 : decode cX9_taken 53 = .ok (.if_icmp .ne 14, 3) := by decide +kernel
theorem dX9_taken_56 : decode cX9_taken 56 = .ok (.aload_n 0, 1) := by decide +kernel
theorem dX9_taken_57 : decode cX9_taken 57 = .ok (.getfield 26, 3) := by decide +kernel
theorem dX9_taken_60 : decode cX9_taken 60 = .ok (.iconst 5, 1) := by decide +kernel
theorem dX9_taken_61 : decode cX9_taken 61 = .ok (.iload_n 1, 1) := by decide +kernel
theorem dX9_taken_62 : decode cX9_taken 62 = .ok (.imul, 1) := by decide +kernel
theorem dX9_taken_63 : decode cX9_taken 63 = .ok (.iaload, 1) := by decide +kernel
theorem dX9_taken_64 : decode cX9_taken 64 = .ok (.goto 5, 3) := by decide +kernel
theorem dX9_taken_67 : decode cX9_taken 67 = .ok (.bipush (-13), 2) := by decide +kernel
theorem dX9_taken_69 : decode cX9_taken 69 = .ok (.ireturn, 1) := by decide +kernel
theorem qX9_taken (d : Nat) (x1 : Int) (x2 : Int) (s : Sg) : RUN (d + 1) mX9_taken [vr 32 0, vi x1, vi x2] s = bI (RUN d mX9_in [vl x2, vl 0, vl 5] s) (fun r1 s1 => if r1 = 0 then (some (some (vi (-2)), s1)) else (bI (RUN d mX9_isCar [vr 32 0, vi x1] s1) (fun r2 s2 => if r2 = 0 then (some (some (vi (-11)), s2)) else (if inb x1 6 then (EV (d + 1) mX9_taken (33, [vr 32 0, vi x1, vi x2, vi (s2 36 0 (Int.toNat x1))], [], s2)) else none)))) := x_run rfl (x_st 1 dX9_taken_0 rfl (x_st 2 dX9_taken_1 rfl (x_st 3 dX9_taken_2 rfl (x_st 6 dX9_taken_3 rfl (x_ci 9 [vr 32 0, vi x1, vi x2, UU] [] dX9_taken_6 rfl (fun r1 s1 => x_br dX9_taken_9 (x_if (x_go 12 (x_st 14 dX9_taken_12 rfl (x_ret dX9_taken_14 rfl))) (x_go 15 (x_st 16 dX9_taken_15 rfl (x_st 17 dX9_taken_16 rfl (x_ci 20 [vr 32 0, vi x1, vi x2, UU] [] dX9_taken_17 rfl (fun r2 s2 => x_br dX9_taken_20 (x_if (x_go 23 (x_st 25 dX9_taken_23 rfl (x_ret dX9_taken_25 rfl))) (x_go 26 (x_st 27 dX9_taken_26 rfl (x_st 30 dX9_taken_27 rfl (x_st 31 dX9_taken_30 rfl (x_br dX9_taken_31 (x_if (x_go 32 (x_so 33 [vr 32 0, vi x1, vi x2, vi (s2 36 0 (Int.toNat x1))] dX9_taken_32 rfl (rfl))) x_no)))))))))))))))))))
theorem qX9_taken_33 (d : Nat) (x1 : Int) (x2 : Int) (x3 : Int) (s : Sg) : EV (d + 1) mX9_taken (33, [vr 32 0, vi x1, vi x2, vi x3], [], s) = if x3 = (-1) then (EV (d + 1) mX9_taken (51, [vr 32 0, vi x1, vi x2, vi x3], [], s)) else (if x3 = x2 then (EV (d + 1) mX9_taken (51, [vr 32 0, vi x1, vi x2, vi x3], [], s)) else (bI (RUN d mX9_over [vi x3] s) (fun r1 s1 => EV (d + 1) mX9_taken (33, [vr 32 0, vi x1, vi x2, vi r1], [], s1)))) := x_st 34 dX9_taken_33 rfl (x_st 35 dX9_taken_34 rfl (x_br dX9_taken_35 (x_if (x_go 51 (rfl)) (x_go 38 (x_st 39 dX9_taken_38 rfl (x_st 40 dX9_taken_39 rfl (x_br dX9_taken_40 (x_if (x_go 51 (rfl)) (x_go 43 (x_st 44 dX9_taken_43 rfl (x_ci 47 [vr 32 0, vi x1, vi x2, vi x3] [] dX9_taken_44 rfl (fun r1 s1 => x_so 48 [vr 32 0, vi x1, vi x2, vi r1] dX9_taken_47 rfl (x_st 33 dX9_taken_48 rfl (rfl))))))))))))))
theorem qX9_taken_51 (d : Nat) (x1 : Int) (x2 : Int) (x3 : Int) (s : Sg) : EV d mX9_taken (51, [vr 32 0, vi x1, vi x2, vi x3], [], s) = if x3 = x2 then (if inb (w32 (5 * x1)) 30 then (some (some (vi (s 37 0 (Int.toNat (w32 (5 * x1))))), s)) else none) else (some (some (vi (-13)), s)) := x_st 52 dX9_taken_51 rfl (x_st 53 dX9_taken_52 rfl (x_br dX9_taken_53 (x_if (x_go 56 (x_st 57 dX9_taken_56 rfl (x_st 60 dX9_taken_57 rfl (x_st 61 dX9_taken_60 rfl (x_st 62 dX9_taken_61 rfl (x_st 63 dX9_taken_62 rfl (x_br dX9_taken_63 (x_if (x_go 64 (x_st 69 dX9_taken_64 rfl (x_ret dX9_taken_69 rfl))) x_no)))))))) (x_go 67 (x_st 69 dX9_taken_67 rfl (x_ret dX9_taken_69 rfl))))))
theorem dX9_in_0 : decode cX9_in 0 = .ok (.lload_n 0, 1) := by decide +kernel
theorem dX9_in_1 : decode cX9_in 1 = .ok (.lload_n 2, 1) := by decide +kernel
theorem dX9_in_2 : decode cX9_in 2 = .ok (.lcmp, 1) := by decide +kernel
theorem dX9_in_3 : decode cX9_in 3 = .ok (.ifCond .lt 14, 3) := by decide +kernel
theorem dX9_in_6 : decode cX9_in 6 = .ok (.lload_n 0, 1) := by decide +kernel
theorem dX9_in_7 : decode cX9_in 7 = .ok (.lload 4, 2) := by decide +kernel
theorem dX9_in_9 : decode cX9_in 9 = .ok (.lcmp, 1) := by decide +kernel
theorem dX9_in_10 : decode cX9_in 10 = .ok (.ifCond .gt 7, 3) := by decide +kernel
theorem dX9_in_13 : decode cX9_in 13 = .ok (.iconst 1, 1) := by decide +kernel
theorem dX9_in_14 : decode cX9_in 14 = .ok (.goto 4, 3) := by decide +kernel
theorem dX9_in_17 : decode cX9_in 17 = .ok (.iconst 0, 1) := by decide +kernel
theorem dX9_in_18 : decode cX9_in 18 = .ok (.ireturn, 1) := by decide +kernel
theorem qX9_in (d : Nat) (x0 : Int) (x1 : Int) (x2 : Int) (s : Sg) : RUN d mX9_in [vl x0, vl x1, vl x2] s = if (wlcmp x0 x1) < 0 then (some (some (vi 0), s)) else (if 0 < (wlcmp x0 x2) then (some (some (vi 0), s)) else (some (some (vi 1), s))) := x_run rfl (x_st 1 dX9_in_0 rfl (x_st 2 dX9_in_1 rfl (x_st 3 dX9_in_2 rfl (x_br dX9_in_3 (x_if (x_go 17 (x_st 18 dX9_in_17 rfl (x_ret dX9_in_18 rfl))) (x_go 6 (x_st 7 dX9_in_6 rfl (x_st 9 dX9_in_7 rfl (x_st 10 dX9_in_9 rfl (x_br dX9_in_10 (x_if (x_go 17 (x_st 18 dX9_in_17 rfl (x_ret dX9_in_18 rfl))) (x_go 13 (x_st 14 dX9_in_13 rfl (x_st 18 dX9_in_14 rfl (x_ret dX9_in_18 rfl)))))))))))))))
theorem dX9_isCar_0 : decode cX9_isCar 0 = .ok (.iload_n 1, 1) := by decide +kernel
theorem dX9_isCar_1 : decode cX9_isCar 1 = .ok (.i2l, 1) := by decide +kernel
theorem dX9_isCar_2 : decode cX9_isCar 2 = .ok (.lconst 0, 1) := by decide +kernel
theorem dX9_isCar_3 : decode cX9_isCar 3 = .ok (.aload_n 0, 1) := by decide +kernel
theorem dX9_isCar_4 : decode cX9_isCar 4 = .ok (.getfield 82, 3) := by decide +kernel
theorem dX9_isCar_7 : decode cX9_isCar 7 = .ok (.iconst 1, 1) := by decide +kernel
theorem dX9_isCar_8 : decode cX9_isCar 8 = .ok (.isub, 1) := by decide +kernel
theorem dX9_isCar_9 : decode cX9_isCar 9 = .ok (.i2l, 1) := by decide +kernel
theorem dX9_isCar_10 : decode cX9_isCar 10 = .ok (.invokestatic 85, 3) := by decide +kernel
theorem dX9_isCar_13 : decode cX9_isCar 13 = .ok (.ireturn, 1) := by decide +kernel
theorem qX9_isCar (d : Nat) (x1 : Int) (s : Sg) : RUN (d + 1) mX9_isCar [vr 32 0, vi x1] s = bI (RUN d mX9_in [vl x1, vl 0, vl (w32 ((s 32 0 9) - 1))] s) (fun r1 s1 => if 0 ≤ r1 ∧ r1 ≤ 1 then some (some (vi r1), s1) else none) := x_run rfl (x_st 1 dX9_isCar_0 rfl (x_st 2 dX9_isCar_1 rfl (x_st 3 dX9_isCar_2 rfl (x_st 4 dX9_isCar_3 rfl (x_st 7 dX9_isCar_4 rfl (x_st 8 dX9_isCar_7 rfl (x_st 9 dX9_isCar_8 rfl (x_st 10 dX9_isCar_9 rfl (x_ci 13 [vr 32 0, vi x1] [] dX9_isCar_10 rfl (fun r1 s1 => x_br dX9_isCar_13 x_rg))))))))))
theorem dX9_mostOf_0 : decode cX9_mostOf 0 = .ok (.iload_n 0, 1) := by decide +kernel
theorem dX9_mostOf_1 : decode cX9_mostOf 1 = .ok (.iconst 1, 1) := by decide +kernel
theorem dX9_mostOf_2 : decode cX9_mostOf 2 = .ok (.if_icmp .ne 7, 3) := by decide +kernel
theorem dX9_mostOf_5 : decode cX9_mostOf 5 = .ok (.iconst 1, 1) := by decide +kernel
theorem dX9_mostOf_6 : decode cX9_mostOf 6 = .ok (.goto 24, 3) := by decide +kernel
theorem dX9_mostOf_9 : decode cX9_mostOf 9 = .ok (.iload_n 0, 1) := by decide +kernel
theorem dX9_mostOf_10 : decode cX9_mostOf 10 = .ok (.iconst 2, 1) := by decide +kernel
theorem dX9_mostOf_11 : decode cX9_mostOf 11 = .ok (.if_icmp .ne 7, 3) := by decide +kernel
theorem dX9_mostOf_14 : decode cX9_mostOf 14 = .ok (.iconst 3, 1) := by decide +kernel
theorem dX9_mostOf_15 : decode cX9_mostOf 15 = .ok (.goto 15, 3) := by decide +kernel
theorem dX9_mostOf_18 : decode cX9_mostOf 18 = .ok (.iload_n 0, 1) := by decide +kernel
theorem dX9_mostOf_19 : decode cX9_mostOf 19 = .ok (.iconst 3, 1) := by decide +kernel
theorem dX9_mostOf_20 : decode cX9_mostOf 20 = .ok (.if_icmp .ne 8, 3) := by decide +kernel
theorem dX9_mostOf_23 : decode cX9_mostOf 23 = .ok (.bipush 99, 2) := by decide +kernel
theorem dX9_mostOf_25 : decode cX9_mostOf 25 = .ok (.goto 5, 3) := by decide +kernel
theorem dX9_mostOf_28 : decode cX9_mostOf 28 = .ok (.bipush 9, 2) := by decide +kernel
theorem dX9_mostOf_30 : decode cX9_mostOf 30 = .ok (.ireturn, 1) := by decide +kernel
theorem qX9_mostOf (d : Nat) (x0 : Int) (s : Sg) : RUN d mX9_mostOf [vi x0] s = if x0 = 1 then (some (some (vi 1), s)) else (if x0 = 2 then (some (some (vi 3), s)) else (if x0 = 3 then (some (some (vi 99), s)) else (some (some (vi 9), s)))) := x_run rfl (x_st 1 dX9_mostOf_0 rfl (x_st 2 dX9_mostOf_1 rfl (x_br dX9_mostOf_2 (x_if (x_go 5 (x_st 6 dX9_mostOf_5 rfl (x_st 30 dX9_mostOf_6 rfl (x_ret dX9_mostOf_30 rfl)))) (x_go 9 (x_st 10 dX9_mostOf_9 rfl (x_st 11 dX9_mostOf_10 rfl (x_br dX9_mostOf_11 (x_if (x_go 14 (x_st 15 dX9_mostOf_14 rfl (x_st 30 dX9_mostOf_15 rfl (x_ret dX9_mostOf_30 rfl)))) (x_go 18 (x_st 19 dX9_mostOf_18 rfl (x_st 20 dX9_mostOf_19 rfl (x_br dX9_mostOf_20 (x_if (x_go 23 (x_st 25 dX9_mostOf_23 rfl (x_st 30 dX9_mostOf_25 rfl (x_ret dX9_mostOf_30 rfl)))) (x_go 28 (x_st 30 dX9_mostOf_28 rfl (x_ret dX9_mostOf_30 rfl)))))))))))))))))
theorem dX9_fits_0 : decode cX9_fits 0 = .ok (.aload_n 0, 1) := by decide +kernel
theorem dX9_fits_1 : decode cX9_fits 1 = .ok (.getfield 23, 3) := by decide +kernel
theorem dX9_fits_4 : decode cX9_fits 4 = .ok (.iload_n 1, 1) := by decide +kernel
theorem dX9_fits_5 : decode cX9_fits 5 = .ok (.iaload, 1) := by decide +kernel
theorem dX9_fits_6 : decode cX9_fits 6 = .ok (.istore_n 3, 1) := by decide +kernel
theorem dX9_fits_7 : decode cX9_fits 7 = .ok (.iload_n 3, 1) := by decide +kernel
theorem dX9_fits_8 : decode cX9_fits 8 = .ok (.iconst 2, 1) := by decide +kernel
theorem dX9_fits_9 : decode cX9_fits 9 = .ok (.if_icmp .eq 37, 3) := by decide +kernel
theorem dX9_fits_12 : decode cX9_fits 12 = .ok (.iload_n 3, 1) := by decide +kernel
theorem dX9_fits_13 : decode cX9_fits 13 = .ok (.iconst 4, 1) := by decide +kernel
theorem dX9_fits_14 : decode cX9_fits 14 = .ok (.if_icmp .eq 32, 3) := by decide +kernel
theorem dX9_fits_17 : decode cX9_fits 17 = .ok (.iload_n 3, 1) := by decide +kernel
theorem dX9_fits_18 : decode cX9_fits 18 = .ok (.iconst 5, 1) := by decide +kernel
theorem dX9_fits_19 : decode cX9_fits 19 = .ok (.if_icmp .ne 11, 3) := by decide +kernel
theorem dX9_fits_22 : decode cX9_fits 22 = .ok (.iload_n 2, 1) := by decide +kernel
theorem dX9_fits_23 : decode cX9_fits 23 = .ok (.iconst 3, 1) := by decide +kernel
theorem dX9_fits_24 : decode cX9_fits 24 = .ok (.if_icmp .eq 26, 3) := by decide +kernel
theorem dX9_fits_27 : decode cX9_fits 27 = .ok (.goto 19, 3) := by decide +kernel
theorem dX9_fits_30 : decode cX9_fits 30 = .ok (.iload_n 2, 1) := by decide +kernel
theorem dX9_fits_31 : decode cX9_fits 31 = .ok (.iconst 2, 1) := by decide +kernel
theorem dX9_fits_32 : decode cX9_fits 32 = .ok (.irem, 1) := by decide +kernel
theorem dX9_fits_33 : decode cX9_fits 33 = .ok (.aload_n 0, 1) := by decide +kernel
theorem dX9_fits_34 : decode cX9_fits 34 = .ok (.getfield 26, 3) := by decide +kernel
theorem dX9_fits_37 : decode cX9_fits 37 = .ok (.iconst 5, 1) := by decide +kernel
theorem dX9_fits_38 : decode cX9_fits 38 = .ok (.iload_n 1, 1) := by decide +kernel
theorem dX9_fits_39 : decode cX9_fits 39 = .ok (.imul, 1) := by decide +kernel
theorem dX9_fits_40 : decode cX9_fits 40 = .ok (.iconst 1, 1) := by decide +kernel
theorem dX9_fits_41 : decode cX9_fits 41 = .ok (.iadd, 1) := by decide +kernel
theorem dX9_fits_42 : decode cX9_fits 42 = .ok (.iaload, 1) := by decide +kernel
theorem dX9_fits_43 : decode cX9_fits 43 = .ok (.if_icmp .ne 7, 3) := by decide +kernel
theorem dX9_fits_46 : decode cX9_fits 46 = .ok (.iconst 1, 1) := by decide +kernel
theorem dX9_fits_47 : decode cX9_fits 47 = .ok (.goto 4, 3) := by decide +kernel
theorem dX9_fits_50 : decode cX9_fits 50 = .ok (.iconst 0, 1) := by decide +kernel
theorem dX9_fits_51 : decode cX9_fits 51 = .ok (.ireturn, 1) := by decide +kernel
theorem qX9_fits (d : Nat) (x1 : Int) (x2 : Int) (s : Sg) : RUN d mX9_fits [vr 32 0, vi x1, vi x2] s = if inb x1 6 then (if (s 36 0 (Int.toNat x1)) = 2 then (some (some (vi 1), s)) else (if (s 36 0 (Int.toNat x1)) = 4 then (some (some (vi 1), s)) else (if (s 36 0 (Int.toNat x1)) = 5 then (if x2 = 3 then (some (some (vi 0), s)) else (some (some (vi 1), s))) else (if inb (w32 ((w32 (5 * x1)) + 1)) 30 then (if (wrem x2 2) = (s 37 0 (Int.toNat (w32 ((w32 (5 * x1)) + 1)))) then (some (some (vi 1), s)) else (some (some (vi 0), s))) else none)))) else none := x_run rfl (x_st 1 dX9_fits_0 rfl (x_st 4 dX9_fits_1 rfl (x_st 5 dX9_fits_4 rfl (x_br dX9_fits_5 (x_if (x_go 6 (x_so 7 [vr 32 0, vi x1, vi x2, vi (s 36 0 (Int.toNat x1))] dX9_fits_6 rfl (x_st 8 dX9_fits_7 rfl (x_st 9 dX9_fits_8 rfl (x_br dX9_fits_9 (x_if (x_go 46 (x_st 47 dX9_fits_46 rfl (x_st 51 dX9_fits_47 rfl (x_ret dX9_fits_51 rfl)))) (x_go 12 (x_st 13 dX9_fits_12 rfl (x_st 14 dX9_fits_13 rfl (x_br dX9_fits_14 (x_if (x_go 46 (x_st 47 dX9_fits_46 rfl (x_st 51 dX9_fits_47 rfl (x_ret dX9_fits_51 rfl)))) (x_go 17 (x_st 18 dX9_fits_17 rfl (x_st 19 dX9_fits_18 rfl (x_br dX9_fits_19 (x_if (x_go 22 (x_st 23 dX9_fits_22 rfl (x_st 24 dX9_fits_23 rfl (x_br dX9_fits_24 (x_if (x_go 50 (x_st 51 dX9_fits_50 rfl (x_ret dX9_fits_51 rfl))) (x_go 27 (x_st 46 dX9_fits_27 rfl (x_st 47 dX9_fits_46 rfl (x_st 51 dX9_fits_47 rfl (x_ret dX9_fits_51 rfl)))))))))) (x_go 30 (x_st 31 dX9_fits_30 rfl (x_st 32 dX9_fits_31 rfl (x_st 33 dX9_fits_32 rfl (x_st 34 dX9_fits_33 rfl (x_st 37 dX9_fits_34 rfl (x_st 38 dX9_fits_37 rfl (x_st 39 dX9_fits_38 rfl (x_st 40 dX9_fits_39 rfl (x_st 41 dX9_fits_40 rfl (x_st 42 dX9_fits_41 rfl (x_br dX9_fits_42 (x_if (x_go 43 (x_br dX9_fits_43 (x_if (x_go 46 (x_st 47 dX9_fits_46 rfl (x_st 51 dX9_fits_47 rfl (x_ret dX9_fits_51 rfl)))) (x_go 50 (x_st 51 dX9_fits_50 rfl (x_ret dX9_fits_51 rfl)))))) x_no))))))))))))))))))))))))))))) x_no)))))
theorem dX9_isLong_0 : decode cX9_isLong 0 = .ok (.aload_n 0, 1) := by decide +kernel
theorem dX9_isLong_1 : decode cX9_isLong 1 = .ok (.getfield 23, 3) := by decide +kernel
theorem dX9_isLong_4 : decode cX9_isLong 4 = .ok (.iload_n 1, 1) := by decide +kernel
theorem dX9_isLong_5 : decode cX9_isLong 5 = .ok (.iaload, 1) := by decide +kernel
theorem dX9_isLong_6 : decode cX9_isLong 6 = .ok (.iconst 3, 1) := by decide +kernel
theorem dX9_isLong_7 : decode cX9_isLong 7 = .ok (.if_icmp .eq 13, 3) := by decide +kernel
theorem dX9_isLong_10 : decode cX9_isLong 10 = .ok (.aload_n 0, 1) := by decide +kernel
theorem dX9_isLong_11 : decode cX9_isLong 11 = .ok (.getfield 23, 3) := by decide +kernel
theorem dX9_isLong_14 : decode cX9_isLong 14 = .ok (.iload_n 1, 1) := by decide +kernel
theorem dX9_isLong_15 : decode cX9_isLong 15 = .ok (.iaload, 1) := by decide +kernel
theorem dX9_isLong_16 : decode cX9_isLong 16 = .ok (.iconst 5, 1) := by decide +kernel
theorem dX9_isLong_17 : decode cX9_isLong 17 = .ok (.if_icmp .ne 7, 3) := by decide +kernel
theorem dX9_isLong_20 : decode cX9_isLong 20 = .ok (.iconst 1, 1) := by decide +kernel
theorem dX9_isLong_21 : decode cX9_isLong 21 = .ok (.goto 4, 3) := by decide +kernel
theorem dX9_isLong_24 : decode cX9_isLong 24 = .ok (.iconst 0, 1) := by decide +kernel
theorem dX9_isLong_25 : decode cX9_isLong 25 = .ok (.ireturn, 1) := by decide +kernel
theorem qX9_isLong (d : Nat) (x1 : Int) (s : Sg) : RUN d mX9_isLong [vr 32 0, vi x1] s = if inb x1 6 then (if (s 36 0 (Int.toNat x1)) = 3 then (some (some (vi 1), s)) else (if inb x1 6 then (if (s 36 0 (Int.toNat x1)) = 5 then (some (some (vi 1), s)) else (some (some (vi 0), s))) else none)) else none := x_run rfl (x_st 1 dX9_isLong_0 rfl (x_st 4 dX9_isLong_1 rfl (x_st 5 dX9_isLong_4 rfl (x_br dX9_isLong_5 (x_if (x_go 6 (x_st 7 dX9_isLong_6 rfl (x_br dX9_isLong_7 (x_if (x_go 20 (x_st 21 dX9_isLong_20 rfl (x_st 25 dX9_isLong_21 rfl (x_ret dX9_isLong_25 rfl)))) (x_go 10 (x_st 11 dX9_isLong_10 rfl (x_st 14 dX9_isLong_11 rfl (x_st 15 dX9_isLong_14 rfl (x_br dX9_isLong_15 (x_if (x_go 16 (x_st 17 dX9_isLong_16 rfl (x_br dX9_isLong_17 (x_if (x_go 20 (x_st 21 dX9_isLong_20 rfl (x_st 25 dX9_isLong_21 rfl (x_ret dX9_isLong_25 rfl)))) (x_go 24 (x_st 25 dX9_isLong_24 rfl (x_ret dX9_isLong_25 rfl))))))) x_no)))))))))) x_no)))))
theorem dX9_draws_0 : decode cX9_draws 0 = .ok (.aload_n 0, 1) := by decide +kernel
theorem dX9_draws_1 : decode cX9_draws 1 = .ok (.getfield 23, 3) := by decide +kernel
theorem dX9_draws_4 : decode cX9_draws 4 = .ok (.iload_n 1, 1) := by decide +kernel
theorem dX9_draws_5 : decode cX9_draws 5 = .ok (.iaload, 1) := by decide +kernel
theorem dX9_draws_6 : decode cX9_draws 6 = .ok (.istore 5, 2) := by decide +kernel
theorem dX9_draws_8 : decode cX9_draws 8 = .ok (.iload 5, 2) := by decide +kernel
theorem dX9_draws_10 : decode cX9_draws 10 = .ok (.iconst 2, 1) := by decide +kernel
theorem dX9_draws_11 : decode cX9_draws 11 = .ok (.if_icmp .eq 9, 3) := by decide +kernel
theorem dX9_draws_14 : decode cX9_draws 14 = .ok (.iload 5, 2) := by decide +kernel
theorem dX9_draws_16 : decode cX9_draws 16 = .ok (.iconst 4, 1) := by decide +kernel
theorem dX9_draws_17 : decode cX9_draws 17 = .ok (.if_icmp .ne 15, 3) := by decide +kernel
theorem dX9_draws_20 : decode cX9_draws 20 = .ok (.iload 5, 2) := by decide +kernel
theorem dX9_draws_22 : decode cX9_draws 22 = .ok (.iconst 4, 1) := by decide +kernel
theorem dX9_draws_23 : decode cX9_draws 23 = .ok (.if_icmp .ne 7, 3) := by decide +kernel
theorem dX9_draws_26 : decode cX9_draws 26 = .ok (.iconst 1, 1) := by decide +kernel
theorem dX9_draws_27 : decode cX9_draws 27 = .ok (.goto 4, 3) := by decide +kernel
theorem dX9_draws_30 : decode cX9_draws 30 = .ok (.iconst 0, 1) := by decide +kernel
theorem dX9_draws_31 : decode cX9_draws 31 = .ok (.ireturn, 1) := by decide +kernel
theorem dX9_draws_32 : decode cX9_draws 32 = .ok (.iload 5, 2) := by decide +kernel
theorem dX9_draws_34 : decode cX9_draws 34 = .ok (.iconst 5, 1) := by decide +kernel
theorem dX9_draws_35 : decode cX9_draws 35 = .ok (.if_icmp .ne 15, 3) := by decide +kernel
theorem dX9_draws_38 : decode cX9_draws 38 = .ok (.aload_n 0, 1) := by decide +kernel
theorem dX9_draws_39 : decode cX9_draws 39 = .ok (.getfield 26, 3) := by decide +kernel
theorem dX9_draws_42 : decode cX9_draws 42 = .ok (.iconst 5, 1) := by decide +kernel
theorem dX9_draws_43 : decode cX9_draws 43 = .ok (.iload_n 1, 1) := by decide +kernel
theorem dX9_draws_44 : decode cX9_draws 44 = .ok (.imul, 1) := by decide +kernel
theorem dX9_draws_45 : decode cX9_draws 45 = .ok (.iaload, 1) := by decide +kernel
theorem dX9_draws_46 : decode cX9_draws 46 = .ok (.iconst 4, 1) := by decide +kernel
theorem dX9_draws_47 : decode cX9_draws 47 = .ok (.if_icmp .le 28, 3) := by decide +kernel
theorem dX9_draws_50 : decode cX9_draws 50 = .ok (.aload_n 0, 1) := by decide +kernel
theorem dX9_draws_51 : decode cX9_draws 51 = .ok (.getfield 250, 3) := by decide +kernel
theorem dX9_draws_54 : decode cX9_draws 54 = .ok (.ifCond .ne 17, 3) := by decide +kernel
theorem dX9_draws_57 : decode cX9_draws 57 = .ok (.aload_n 0, 1) := by decide +kernel
theorem dX9_draws_58 : decode cX9_draws 58 = .ok (.iconst 1, 1) := by decide +kernel
theorem dX9_draws_59 : decode cX9_draws 59 = .ok (.iload_n 1, 1) := by decide +kernel
theorem dX9_draws_60 : decode cX9_draws 60 = .ok (.iload_n 2, 1) := by decide +kernel
theorem dX9_draws_61 : decode cX9_draws 61 = .ok (.iload_n 3, 1) := by decide +kernel
theorem dX9_draws_62 : decode cX9_draws 62 = .ok (.iload 4, 2) := by decide +kernel
theorem dX9_draws_64 : decode cX9_draws 64 = .ok (.invokevirtual 125, 3) := by decide +kernel
theorem dX9_draws_67 : decode cX9_draws 67 = .ok (.iconst 1, 1) := by decide +kernel
theorem dX9_draws_68 : decode cX9_draws 68 = .ok (.if_icmp .ne 7, 3) := by decide +kernel
theorem dX9_draws_71 : decode cX9_draws 71 = .ok (.iconst 1, 1) := by decide +kernel
theorem dX9_draws_72 : decode cX9_draws 72 = .ok (.goto 4, 3) := by decide +kernel
theorem dX9_draws_75 : decode cX9_draws 75 = .ok (.iconst 0, 1) := by decide +kernel
theorem dX9_draws_76 : decode cX9_draws 76 = .ok (.ireturn, 1) := by decide +kernel
theorem qX9_draws (d : Nat) (x1 : Int) (x2 : Int) (x3 : Int) (x4 : Int) (s : Sg) : RUN d mX9_draws [vr 32 0, vi x1, vi x2, vi x3, vi x4] s = if inb x1 6 then (if (s 36 0 (Int.toNat x1)) = 2 then (EV d mX9_draws (20, [vr 32 0, vi x1, vi x2, vi x3, vi x4, vi (s 36 0 (Int.toNat x1))], [], s)) else (if (s 36 0 (Int.toNat x1)) = 4 then (EV d mX9_draws (20, [vr 32 0, vi x1, vi x2, vi x3, vi x4, vi (s 36 0 (Int.toNat x1))], [], s)) else (if (s 36 0 (Int.toNat x1)) = 5 then (if inb (w32 (5 * x1)) 30 then (if 4 < (s 37 0 (Int.toNat (w32 (5 * x1)))) then (EV d mX9_draws (50, [vr 32 0, vi x1, vi x2, vi x3, vi x4, vi (s 36 0 (Int.toNat x1))], [], s)) else (some (some (vi 0), s))) else none) else (EV d mX9_draws (50, [vr 32 0, vi x1, vi x2, vi x3, vi x4, vi (s 36 0 (Int.toNat x1))], [], s))))) else none := x_run rfl (x_st 1 dX9_draws_0 rfl (x_st 4 dX9_draws_1 rfl (x_st 5 dX9_draws_4 rfl (x_br dX9_draws_5 (x_if (x_go 6 (x_so 8 [vr 32 0, vi x1, vi x2, vi x3, vi x4, vi (s 36 0 (Int.toNat x1))] dX9_draws_6 rfl (x_st 10 dX9_draws_8 rfl (x_st 11 dX9_draws_10 rfl (x_br dX9_draws_11 (x_if (x_go 20 (rfl)) (x_go 14 (x_st 16 dX9_draws_14 rfl (x_st 17 dX9_draws_16 rfl (x_br dX9_draws_17 (x_if (x_go 20 (rfl)) (x_go 32 (x_st 34 dX9_draws_32 rfl (x_st 35 dX9_draws_34 rfl (x_br dX9_draws_35 (x_if (x_go 38 (x_st 39 dX9_draws_38 rfl (x_st 42 dX9_draws_39 rfl (x_st 43 dX9_draws_42 rfl (x_st 44 dX9_draws_43 rfl (x_st 45 dX9_draws_44 rfl (x_br dX9_draws_45 (x_if (x_go 46 (x_st 47 dX9_draws_46 rfl (x_br dX9_draws_47 (x_if (x_go 50 (rfl)) (x_go 75 (x_st 76 dX9_draws_75 rfl (x_ret dX9_draws_76 rfl))))))) x_no)))))))) (x_go 50 (rfl)))))))))))))))))) x_no)))))
theorem qX9_draws_20 (d : Nat) (z0 : PV) (z1 : PV) (z2 : PV) (z3 : PV) (z4 : PV) (x5 : Int) (s : Sg) : EV d mX9_draws (20, [z0, z1, z2, z3, z4, vi x5], [], s) = if x5 = 4 then (some (some (vi 1), s)) else (some (some (vi 0), s)) := x_st 22 dX9_draws_20 rfl (x_st 23 dX9_draws_22 rfl (x_br dX9_draws_23 (x_if (x_go 26 (x_st 27 dX9_draws_26 rfl (x_st 31 dX9_draws_27 rfl (x_ret dX9_draws_31 rfl)))) (x_go 30 (x_st 31 dX9_draws_30 rfl (x_ret dX9_draws_31 rfl))))))
theorem qX9_draws_50 (d : Nat) (x1 : Int) (x2 : Int) (x3 : Int) (x4 : Int) (z5 : PV) (s : Sg) : EV (d + 1) mX9_draws (50, [vr 32 0, vi x1, vi x2, vi x3, vi x4, z5], [], s) = if (s 32 0 25) = 0 then (bI (RUN d mX9_asks [vr 32 0, vi 1, vi x1, vi x2, vi x3, vi x4] s) (fun r1 s1 => if r1 = 1 then (some (some (vi 1), s1)) else (some (some (vi 0), s1)))) else (some (some (vi 1), s)) := x_st 51 dX9_draws_50 rfl (x_st 54 dX9_draws_51 rfl (x_br dX9_draws_54 (x_if (x_go 57 (x_st 58 dX9_draws_57 rfl (x_st 59 dX9_draws_58 rfl (x_st 60 dX9_draws_59 rfl (x_st 61 dX9_draws_60 rfl (x_st 62 dX9_draws_61 rfl (x_st 64 dX9_draws_62 rfl (x_ci 67 [vr 32 0, vi x1, vi x2, vi x3, vi x4, z5] [] dX9_draws_64 rfl (fun r1 s1 => x_st 68 dX9_draws_67 rfl (x_br dX9_draws_68 (x_if (x_go 71 (x_st 72 dX9_draws_71 rfl (x_st 76 dX9_draws_72 rfl (x_ret dX9_draws_76 rfl)))) (x_go 75 (x_st 76 dX9_draws_75 rfl (x_ret dX9_draws_76 rfl)))))))))))))) (x_go 71 (x_st 72 dX9_draws_71 rfl (x_st 76 dX9_draws_72 rfl (x_ret dX9_draws_76 rfl)))))))
theorem dX9_takesOf_0 : decode cX9_takesOf 0 = .ok (.aload_n 0, 1) := by decide +kernel
theorem dX9_takesOf_1 : decode cX9_takesOf 1 = .ok (.getfield 23, 3) := by decide +kernel
theorem dX9_takesOf_4 : decode cX9_takesOf 4 = .ok (.iload_n 1, 1) := by decide +kernel
theorem dX9_takesOf_5 : decode cX9_takesOf 5 = .ok (.iaload, 1) := by decide +kernel
theorem dX9_takesOf_6 : decode cX9_takesOf 6 = .ok (.istore 5, 2) := by decide +kernel
theorem dX9_takesOf_8 : decode cX9_takesOf 8 = .ok (.aload_n 0, 1) := by decide +kernel
theorem dX9_takesOf_9 : decode cX9_takesOf 9 = .ok (.iconst 0, 1) := by decide +kernel
theorem dX9_takesOf_10 : decode cX9_takesOf 10 = .ok (.iload_n 1, 1) := by decide +kernel
theorem dX9_takesOf_11 : decode cX9_takesOf 11 = .ok (.iload_n 2, 1) := by decide +kernel
theorem dX9_takesOf_12 : decode cX9_takesOf 12 = .ok (.iload_n 3, 1) := by decide +kernel
theorem dX9_takesOf_13 : decode cX9_takesOf 13 = .ok (.iload 4, 2) := by decide +kernel
theorem dX9_takesOf_15 : decode cX9_takesOf 15 = .ok (.invokevirtual 125, 3) := by decide +kernel
theorem dX9_takesOf_18 : decode cX9_takesOf 18 = .ok (.aload_n 0, 1) := by decide +kernel
theorem dX9_takesOf_19 : decode cX9_takesOf 19 = .ok (.getfield 26, 3) := by decide +kernel
theorem dX9_takesOf_22 : decode cX9_takesOf 22 = .ok (.iconst 5, 1) := by decide +kernel
theorem dX9_takesOf_23 : decode cX9_takesOf 23 = .ok (.iload_n 1, 1) := by decide +kernel
theorem dX9_takesOf_24 : decode cX9_takesOf 24 = .ok (.imul, 1) := by decide +kernel
theorem dX9_takesOf_25 : decode cX9_takesOf 25 = .ok (.iconst 4, 1) := by decide +kernel
theorem dX9_takesOf_26 : decode cX9_takesOf 26 = .ok (.iadd, 1) := by decide +kernel
theorem dX9_takesOf_27 : decode cX9_takesOf 27 = .ok (.iaload, 1) := by decide +kernel
theorem dX9_takesOf_28 : decode cX9_takesOf 28 = .ok (.iadd, 1) := by decide +kernel
theorem dX9_takesOf_29 : decode cX9_takesOf 29 = .ok (.istore 6, 2) := by decide +kernel
theorem dX9_takesOf_31 : decode cX9_takesOf 31 = .ok (.iload 5, 2) := by decide +kernel
theorem dX9_takesOf_33 : decode cX9_takesOf 33 = .ok (.iconst 1, 1) := by decide +kernel
theorem dX9_takesOf_34 : decode cX9_takesOf 34 = .ok (.if_icmp .ne 10, 3) := by decide +kernel
theorem dX9_takesOf_37 : decode cX9_takesOf 37 = .ok (.iconst 2, 1) := by decide +kernel
theorem dX9_takesOf_38 : decode cX9_takesOf 38 = .ok (.iload 6, 2) := by decide +kernel
theorem dX9_takesOf_40 : decode cX9_takesOf 40 = .ok (.imul, 1) := by decide +kernel
theorem dX9_takesOf_41 : decode cX9_takesOf 41 = .ok (.goto 60, 3) := by decide +kernel
theorem dX9_takesOf_44 : decode cX9_takesOf 44 = .ok (.iload 5, 2) := by decide +kernel
theorem dX9_takesOf_46 : decode cX9_takesOf 46 = .ok (.iconst 3, 1) := by decide +kernel
theorem dX9_takesOf_47 : decode cX9_takesOf 47 = .ok (.if_icmp .ne 19, 3) := by decide +kernel
theorem dX9_takesOf_50 : decode cX9_takesOf 50 = .ok (.iconst 2, 1) := by decide +kernel
theorem dX9_takesOf_51 : decode cX9_takesOf 51 = .ok (.iload 6, 2) := by decide +kernel
theorem dX9_takesOf_53 : decode cX9_takesOf 53 = .ok (.imul, 1) := by decide +kernel
theorem dX9_takesOf_54 : decode cX9_takesOf 54 = .ok (.aload_n 0, 1) := by decide +kernel
theorem dX9_takesOf_55 : decode cX9_takesOf 55 = .ok (.getfield 26, 3) := by decide +kernel
theorem dX9_takesOf_58 : decode cX9_takesOf 58 = .ok (.iconst 5, 1) := by decide +kernel
theorem dX9_takesOf_59 : decode cX9_takesOf 59 = .ok (.iload_n 1, 1) := by decide +kernel
theorem dX9_takesOf_60 : decode cX9_takesOf 60 = .ok (.imul, 1) := by decide +kernel
theorem dX9_takesOf_61 : decode cX9_takesOf 61 = .ok (.iaload, 1) := by decide +kernel
theorem dX9_takesOf_62 : decode cX9_takesOf 62 = .ok (.iadd, 1) := by decide +kernel
theorem dX9_takesOf_63 : decode cX9_takesOf 63 = .ok (.goto 38, 3) := by decide +kernel
theorem dX9_takesOf_66 : decode cX9_takesOf 66 = .ok (.iload 5, 2) := by decide +kernel
theorem dX9_takesOf_68 : decode cX9_takesOf 68 = .ok (.iconst 2, 1) := by decide +kernel
theorem dX9_takesOf_69 : decode cX9_takesOf 69 = .ok (.if_icmp .eq 9, 3) := by decide +kernel
theorem dX9_takesOf_72 : decode cX9_takesOf 72 = .ok (.iload 5, 2) := by decide +kernel
theorem dX9_takesOf_74 : decode cX9_takesOf 74 = .ok (.iconst 4, 1) := by decide +kernel
theorem dX9_takesOf_75 : decode cX9_takesOf 75 = .ok (.if_icmp .ne 10, 3) := by decide +kernel
theorem dX9_takesOf_78 : decode cX9_takesOf 78 = .ok (.iload 6, 2) := by decide +kernel
theorem dX9_takesOf_80 : decode cX9_takesOf 80 = .ok (.iconst 2, 1) := by decide +kernel
theorem dX9_takesOf_81 : decode cX9_takesOf 81 = .ok (.idiv, 1) := by decide +kernel
theorem dX9_takesOf_82 : decode cX9_takesOf 82 = .ok (.goto 19, 3) := by decide +kernel
theorem dX9_takesOf_85 : decode cX9_takesOf 85 = .ok (.iload 5, 2) := by decide +kernel
theorem dX9_takesOf_87 : decode cX9_takesOf 87 = .ok (.iconst 5, 1) := by decide +kernel
theorem dX9_takesOf_88 : decode cX9_takesOf 88 = .ok (.if_icmp .ne 11, 3) := by decide +kernel
theorem dX9_takesOf_91 : decode cX9_takesOf 91 = .ok (.iload 6, 2) := by decide +kernel
theorem dX9_takesOf_93 : decode cX9_takesOf 93 = .ok (.bipush 10, 2) := by decide +kernel
theorem dX9_takesOf_95 : decode cX9_takesOf 95 = .ok (.iadd, 1) := by decide +kernel
theorem dX9_takesOf_96 : decode cX9_takesOf 96 = .ok (.goto 5, 3) := by decide +kernel
theorem dX9_takesOf_99 : decode cX9_takesOf 99 = .ok (.iload 6, 2) := by decide +kernel
theorem dX9_takesOf_101 : decode cX9_takesOf 101 = .ok (.istore 7, 2) := by decide +kernel
theorem dX9_takesOf_103 : decode cX9_takesOf 103 = .ok (.iload 7, 2) := by decide +kernel
theorem dX9_takesOf_105 : decode cX9_takesOf 105 = .ok (.iconst 1, 1) := by decide +kernel
theorem dX9_takesOf_106 : decode cX9_takesOf 106 = .ok (.if_icmp .ge 7, 3) := by decide +kernel
theorem dX9_takesOf_109 : decode cX9_takesOf 109 = .ok (.iconst 1, 1) := by decide +kernel
theorem dX9_takesOf_110 : decode cX9_takesOf 110 = .ok (.goto 5, 3) := by decide +kernel
theorem dX9_takesOf_113 : decode cX9_takesOf 113 = .ok (.iload 7, 2) := by decide +kernel
theorem dX9_takesOf_115 : decode cX9_takesOf 115 = .ok (.ireturn, 1) := by decide +kernel
theorem qX9_takesOf (d : Nat) (x1 : Int) (x2 : Int) (x3 : Int) (x4 : Int) (s : Sg) : RUN (d + 1) mX9_takesOf [vr 32 0, vi x1, vi x2, vi x3, vi x4] s = if inb x1 6 then (bI (RUN d mX9_asks [vr 32 0, vi 0, vi x1, vi x2, vi x3, vi x4] s) (fun r1 s1 => if inb (w32 ((w32 (5 * x1)) + 4)) 30 then (if (s 36 0 (Int.toNat x1)) = 1 then (EV (d + 1) mX9_takesOf (101, [vr 32 0, vi x1, vi x2, vi x3, vi x4, vi (s 36 0 (Int.toNat x1)), vi (w32 (r1 + (s1 37 0 (Int.toNat (w32 ((w32 (5 * x1)) + 4)))))), UU], [vi (w32 (2 * (w32 (r1 + (s1 37 0 (Int.toNat (w32 ((w32 (5 * x1)) + 4))))))))], s1)) else (if (s 36 0 (Int.toNat x1)) = 3 then (if inb (w32 (5 * x1)) 30 then (EV (d + 1) mX9_takesOf (101, [vr 32 0, vi x1, vi x2, vi x3, vi x4, vi (s 36 0 (Int.toNat x1)), vi (w32 (r1 + (s1 37 0 (Int.toNat (w32 ((w32 (5 * x1)) + 4)))))), UU], [vi (w32 ((w32 (2 * (w32 (r1 + (s1 37 0 (Int.toNat (w32 ((w32 (5 * x1)) + 4)))))))) + (s1 37 0 (Int.toNat (w32 (5 * x1))))))], s1)) else none) else (if (s 36 0 (Int.toNat x1)) = 2 then (EV (d + 1) mX9_takesOf (78, [vr 32 0, vi x1, vi x2, vi x3, vi x4, vi (s 36 0 (Int.toNat x1)), vi (w32 (r1 + (s1 37 0 (Int.toNat (w32 ((w32 (5 * x1)) + 4)))))), UU], [], s1)) else (if (s 36 0 (Int.toNat x1)) = 4 then (EV (d + 1) mX9_takesOf (78, [vr 32 0, vi x1, vi x2, vi x3, vi x4, vi (s 36 0 (Int.toNat x1)), vi (w32 (r1 + (s1 37 0 (Int.toNat (w32 ((w32 (5 * x1)) + 4)))))), UU], [], s1)) else (if (s 36 0 (Int.toNat x1)) = 5 then (EV (d + 1) mX9_takesOf (101, [vr 32 0, vi x1, vi x2, vi x3, vi x4, vi (s 36 0 (Int.toNat x1)), vi (w32 (r1 + (s1 37 0 (Int.toNat (w32 ((w32 (5 * x1)) + 4)))))), UU], [vi (w32 ((w32 (r1 + (s1 37 0 (Int.toNat (w32 ((w32 (5 * x1)) + 4)))))) + 10))], s1)) else (EV (d + 1) mX9_takesOf (101, [vr 32 0, vi x1, vi x2, vi x3, vi x4, vi (s 36 0 (Int.toNat x1)), vi (w32 (r1 + (s1 37 0 (Int.toNat (w32 ((w32 (5 * x1)) + 4)))))), UU], [vi (w32 (r1 + (s1 37 0 (Int.toNat (w32 ((w32 (5 * x1)) + 4))))))], s1))))))) else none)) else none := x_run rfl (x_st 1 dX9_takesOf_0 rfl (x_st 4 dX9_takesOf_1 rfl (x_st 5 dX9_takesOf_4 rfl (x_br dX9_takesOf_5 (x_if (x_go 6 (x_so 8 [vr 32 0, vi x1, vi x2, vi x3, vi x4, vi (s 36 0 (Int.toNat x1)), UU, UU] dX9_takesOf_6 rfl (x_st 9 dX9_takesOf_8 rfl (x_st 10 dX9_takesOf_9 rfl (x_st 11 dX9_takesOf_10 rfl (x_st 12 dX9_takesOf_11 rfl (x_st 13 dX9_takesOf_12 rfl (x_st 15 dX9_takesOf_13 rfl (x_ci 18 [vr 32 0, vi x1, vi x2, vi x3, vi x4, vi (s 36 0 (Int.toNat x1)), UU, UU] [] dX9_takesOf_15 rfl (fun r1 s1 => x_st 19 dX9_takesOf_18 rfl (x_st 22 dX9_takesOf_19 rfl (x_st 23 dX9_takesOf_22 rfl (x_st 24 dX9_takesOf_23 rfl (x_st 25 dX9_takesOf_24 rfl (x_st 26 dX9_takesOf_25 rfl (x_st 27 dX9_takesOf_26 rfl (x_br dX9_takesOf_27 (x_if (x_go 28 (x_st 29 dX9_takesOf_28 rfl (x_so 31 [vr 32 0, vi x1, vi x2, vi x3, vi x4, vi (s 36 0 (Int.toNat x1)), vi (w32 (r1 + (s1 37 0 (Int.toNat (w32 ((w32 (5 * x1)) + 4)))))), UU] dX9_takesOf_29 rfl (x_st 33 dX9_takesOf_31 rfl (x_st 34 dX9_takesOf_33 rfl (x_br dX9_takesOf_34 (x_if (x_go 37 (x_st 38 dX9_takesOf_37 rfl (x_st 40 dX9_takesOf_38 rfl (x_st 41 dX9_takesOf_40 rfl (x_st 101 dX9_takesOf_41 rfl (rfl)))))) (x_go 44 (x_st 46 dX9_takesOf_44 rfl (x_st 47 dX9_takesOf_46 rfl (x_br dX9_takesOf_47 (x_if (x_go 50 (x_st 51 dX9_takesOf_50 rfl (x_st 53 dX9_takesOf_51 rfl (x_st 54 dX9_takesOf_53 rfl (x_st 55 dX9_takesOf_54 rfl (x_st 58 dX9_takesOf_55 rfl (x_st 59 dX9_takesOf_58 rfl (x_st 60 dX9_takesOf_59 rfl (x_st 61 dX9_takesOf_60 rfl (x_br dX9_takesOf_61 (x_if (x_go 62 (x_st 63 dX9_takesOf_62 rfl (x_st 101 dX9_takesOf_63 rfl (rfl)))) x_no))))))))))) (x_go 66 (x_st 68 dX9_takesOf_66 rfl (x_st 69 dX9_takesOf_68 rfl (x_br dX9_takesOf_69 (x_if (x_go 78 (rfl)) (x_go 72 (x_st 74 dX9_takesOf_72 rfl (x_st 75 dX9_takesOf_74 rfl (x_br dX9_takesOf_75 (x_if (x_go 78 (rfl)) (x_go 85 (x_st 87 dX9_takesOf_85 rfl (x_st 88 dX9_takesOf_87 rfl (x_br dX9_takesOf_88 (x_if (x_go 91 (x_st 93 dX9_takesOf_91 rfl (x_st 95 dX9_takesOf_93 rfl (x_st 96 dX9_takesOf_95 rfl (x_st 101 dX9_takesOf_96 rfl (rfl)))))) (x_go 99 (x_st 101 dX9_takesOf_99 rfl (rfl)))))))))))))))))))))))))))))) x_no)))))))))))))))))) x_no)))))
theorem qX9_takesOf_101 (d : Nat) (z0 : PV) (z1 : PV) (z2 : PV) (z3 : PV) (z4 : PV) (z5 : PV) (z6 : PV) (z7 : PV) (y0 : Int) (s : Sg) : EV d mX9_takesOf (101, [z0, z1, z2, z3, z4, z5, z6, z7], [vi y0], s) = if y0 < 1 then (some (some (vi 1), s)) else (some (some (vi y0), s)) := x_so 103 [z0, z1, z2, z3, z4, z5, z6, vi y0] dX9_takesOf_101 rfl (x_st 105 dX9_takesOf_103 rfl (x_st 106 dX9_takesOf_105 rfl (x_br dX9_takesOf_106 (x_if (x_go 109 (x_st 110 dX9_takesOf_109 rfl (x_st 115 dX9_takesOf_110 rfl (x_ret dX9_takesOf_115 rfl)))) (x_go 113 (x_st 115 dX9_takesOf_113 rfl (x_ret dX9_takesOf_115 rfl)))))))
theorem qX9_takesOf_78 (d : Nat) (z0 : PV) (z1 : PV) (z2 : PV) (z3 : PV) (z4 : PV) (z5 : PV) (x6 : Int) (z7 : PV) (s : Sg) : EV d mX9_takesOf (78, [z0, z1, z2, z3, z4, z5, vi x6, z7], [], s) = EV d mX9_takesOf (101, [z0, z1, z2, z3, z4, z5, vi x6, z7], [vi (wdiv x6 2)], s) := x_st 80 dX9_takesOf_78 rfl (x_st 81 dX9_takesOf_80 rfl (x_st 82 dX9_takesOf_81 rfl (x_st 101 dX9_takesOf_82 rfl (rfl))))
theorem dX9_asks_0 : decode cX9_asks 0 = .ok (.aload_n 0, 1) := by decide +kernel
theorem dX9_asks_1 : decode cX9_asks 1 = .ok (.aload_n 0, 1) := by decide +kernel
theorem dX9_asks_2 : decode cX9_asks 2 = .ok (.getfield 26, 3) := by decide +kernel
theorem dX9_asks_5 : decode cX9_asks 5 = .ok (.iconst 5, 1) := by decide +kernel
theorem dX9_asks_6 : decode cX9_asks 6 = .ok (.iload_n 2, 1) := by decide +kernel
theorem dX9_asks_7 : decode cX9_asks 7 = .ok (.imul, 1) := by decide +kernel
theorem dX9_asks_8 : decode cX9_asks 8 = .ok (.iconst 1, 1) := by decide +kernel
theorem dX9_asks_9 : decode cX9_asks 9 = .ok (.iadd, 1) := by decide +kernel
theorem dX9_asks_10 : decode cX9_asks 10 = .ok (.iaload, 1) := by decide +kernel
theorem dX9_asks_11 : decode cX9_asks 11 = .ok (.putfield 187, 3) := by decide +kernel
theorem dX9_asks_14 : decode cX9_asks 14 = .ok (.aload_n 0, 1) := by decide +kernel
theorem dX9_asks_15 : decode cX9_asks 15 = .ok (.iload_n 3, 1) := by decide +kernel
theorem dX9_asks_16 : decode cX9_asks 16 = .ok (.putfield 190, 3) := by decide +kernel
theorem dX9_asks_19 : decode cX9_asks 19 = .ok (.aload_n 0, 1) := by decide +kernel
theorem dX9_asks_20 : decode cX9_asks 20 = .ok (.iload 4, 2) := by decide +kernel
theorem dX9_asks_22 : decode cX9_asks 22 = .ok (.putfield 193, 3) := by decide +kernel
theorem dX9_asks_25 : decode cX9_asks 25 = .ok (.aload_n 0, 1) := by decide +kernel
theorem dX9_asks_26 : decode cX9_asks 26 = .ok (.aload_n 0, 1) := by decide +kernel
theorem dX9_asks_27 : decode cX9_asks 27 = .ok (.getfield 26, 3) := by decide +kernel
theorem dX9_asks_30 : decode cX9_asks 30 = .ok (.iconst 5, 1) := by decide +kernel
theorem dX9_asks_31 : decode cX9_asks 31 = .ok (.iload_n 2, 1) := by decide +kernel
theorem dX9_asks_32 : decode cX9_asks 32 = .ok (.imul, 1) := by decide +kernel
theorem dX9_asks_33 : decode cX9_asks 33 = .ok (.iaload, 1) := by decide +kernel
theorem dX9_asks_34 : decode cX9_asks 34 = .ok (.putfield 196, 3) := by decide +kernel
theorem dX9_asks_37 : decode cX9_asks 37 = .ok (.aload_n 0, 1) := by decide +kernel
theorem dX9_asks_38 : decode cX9_asks 38 = .ok (.iload 5, 2) := by decide +kernel
theorem dX9_asks_40 : decode cX9_asks 40 = .ok (.putfield 199, 3) := by decide +kernel
theorem dX9_asks_43 : decode cX9_asks 43 = .ok (.aload_n 0, 1) := by decide +kernel
theorem dX9_asks_44 : decode cX9_asks 44 = .ok (.aload_n 0, 1) := by decide +kernel
theorem dX9_asks_45 : decode cX9_asks 45 = .ok (.getfield 26, 3) := by decide +kernel
theorem dX9_asks_48 : decode cX9_asks 48 = .ok (.iconst 5, 1) := by decide +kernel
theorem dX9_asks_49 : decode cX9_asks 49 = .ok (.iload_n 2, 1) := by decide +kernel
theorem dX9_asks_50 : decode cX9_asks 50 = .ok (.imul, 1) := by decide +kernel
theorem dX9_asks_51 : decode cX9_asks 51 = .ok (.iconst 4, 1) := by decide +kernel
theorem dX9_asks_52 : decode cX9_asks 52 = .ok (.iadd, 1) := by decide +kernel
theorem dX9_asks_53 : decode cX9_asks 53 = .ok (.iaload, 1) := by decide +kernel
theorem dX9_asks_54 : decode cX9_asks 54 = .ok (.putfield 202, 3) := by decide +kernel
theorem dX9_asks_57 : decode cX9_asks 57 = .ok (.aload_n 0, 1) := by decide +kernel
theorem dX9_asks_58 : decode cX9_asks 58 = .ok (.aload_n 0, 1) := by decide +kernel
theorem dX9_asks_59 : decode cX9_asks 59 = .ok (.getfield 99, 3) := by decide +kernel
theorem dX9_asks_62 : decode cX9_asks 62 = .ok (.iload_n 1, 1) := by decide +kernel
theorem dX9_asks_63 : decode cX9_asks 63 = .ok (.invokevirtual 242, 3) := by decide +kernel
theorem dX9_asks_66 : decode cX9_asks 66 = .ok (.istore 6, 2) := by decide +kernel
theorem dX9_asks_68 : decode cX9_asks 68 = .ok (.iload_n 1, 1) := by decide +kernel
theorem dX9_asks_69 : decode cX9_asks 69 = .ok (.ifCond .ne 14, 3) := by decide +kernel
theorem dX9_asks_72 : decode cX9_asks 72 = .ok (.iload 6, 2) := by decide +kernel
theorem dX9_asks_74 : decode cX9_asks 74 = .ok (.iconst 0, 1) := by decide +kernel
theorem dX9_asks_75 : decode cX9_asks 75 = .ok (.bipush 40, 2) := by decide +kernel
theorem dX9_asks_77 : decode cX9_asks 77 = .ok (.invokestatic 246, 3) := by decide +kernel
theorem dX9_asks_80 : decode cX9_asks 80 = .ok (.goto 29, 3) := by decide +kernel
theorem dX9_asks_83 : decode cX9_asks 83 = .ok (.iload_n 1, 1) := by decide +kernel
theorem dX9_asks_84 : decode cX9_asks 84 = .ok (.iconst 1, 1) := by decide +kernel
theorem dX9_asks_85 : decode cX9_asks 85 = .ok (.if_icmp .ne 16, 3) := by decide +kernel
theorem dX9_asks_88 : decode cX9_asks 88 = .ok (.iload 6, 2) := by decide +kernel
theorem dX9_asks_90 : decode cX9_asks 90 = .ok (.ifCond .eq 7, 3) := by decide +kernel
theorem dX9_asks_93 : decode cX9_asks 93 = .ok (.iconst 1, 1) := by decide +kernel
theorem dX9_asks_94 : decode cX9_asks 94 = .ok (.goto 15, 3) := by decide +kernel
theorem dX9_asks_97 : decode cX9_asks 97 = .ok (.iconst 0, 1) := by decide +kernel
theorem dX9_asks_98 : decode cX9_asks 98 = .ok (.goto 11, 3) := by decide +kernel
theorem dX9_asks_101 : decode cX9_asks 101 = .ok (.iload 6, 2) := by decide +kernel
theorem dX9_asks_103 : decode cX9_asks 103 = .ok (.iconst 0, 1) := by decide +kernel
theorem dX9_asks_104 : decode cX9_asks 104 = .ok (.bipush 9, 2) := by decide +kernel
theorem dX9_asks_106 : decode cX9_asks 106 = .ok (.invokestatic 246, 3) := by decide +kernel
theorem dX9_asks_109 : decode cX9_asks 109 = .ok (.ireturn, 1) := by decide +kernel
theorem qX9_asks (d : Nat) (x1 : Int) (x2 : Int) (x3 : Int) (x4 : Int) (x5 : Int) (s : Sg) : RUN (d + 1) mX9_asks [vr 32 0, vi x1, vi x2, vi x3, vi x4, vi x5] s = if inb (w32 ((w32 (5 * x2)) + 1)) 30 then (if inb (w32 (5 * x2)) 30 then (if inb (w32 ((w32 (5 * x2)) + 4)) 30 then (bI (RUN d mX9_read [vr 32 0, vi (s 32 0 4), vi x1] (up (up (up (up (up (up s 32 0 10 (s 37 0 (Int.toNat (w32 ((w32 (5 * x2)) + 1))))) 32 0 11 x3) 32 0 12 x4) 32 0 13 (s 37 0 (Int.toNat (w32 (5 * x2))))) 32 0 14 x5) 32 0 15 (s 37 0 (Int.toNat (w32 ((w32 (5 * x2)) + 4)))))) (fun r1 s1 => if x1 = 0 then (bI (RUN d mX9_within [vi r1, vi 0, vi 40] s1) (fun r2 s2 => some (some (vi r2), s2))) else (if x1 = 1 then (if r1 = 0 then (some (some (vi 0), s1)) else (some (some (vi 1), s1))) else (bI (RUN d mX9_within [vi r1, vi 0, vi 9] s1) (fun r3 s3 => some (some (vi r3), s3)))))) else none) else none) else none := x_run rfl (x_st 1 dX9_asks_0 rfl (x_st 2 dX9_asks_1 rfl (x_st 5 dX9_asks_2 rfl (x_st 6 dX9_asks_5 rfl (x_st 7 dX9_asks_6 rfl (x_st 8 dX9_asks_7 rfl (x_st 9 dX9_asks_8 rfl (x_st 10 dX9_asks_9 rfl (x_br dX9_asks_10 (x_if (x_go 11 (x_st 14 dX9_asks_11 rfl (x_st 15 dX9_asks_14 rfl (x_st 16 dX9_asks_15 rfl (x_st 19 dX9_asks_16 rfl (x_st 20 dX9_asks_19 rfl (x_st 22 dX9_asks_20 rfl (x_st 25 dX9_asks_22 rfl (x_st 26 dX9_asks_25 rfl (x_st 27 dX9_asks_26 rfl (x_st 30 dX9_asks_27 rfl (x_st 31 dX9_asks_30 rfl (x_st 32 dX9_asks_31 rfl (x_st 33 dX9_asks_32 rfl (x_br dX9_asks_33 (x_if (x_go 34 (x_st 37 dX9_asks_34 rfl (x_st 38 dX9_asks_37 rfl (x_st 40 dX9_asks_38 rfl (x_st 43 dX9_asks_40 rfl (x_st 44 dX9_asks_43 rfl (x_st 45 dX9_asks_44 rfl (x_st 48 dX9_asks_45 rfl (x_st 49 dX9_asks_48 rfl (x_st 50 dX9_asks_49 rfl (x_st 51 dX9_asks_50 rfl (x_st 52 dX9_asks_51 rfl (x_st 53 dX9_asks_52 rfl (x_br dX9_asks_53 (x_if (x_go 54 (x_st 57 dX9_asks_54 rfl (x_st 58 dX9_asks_57 rfl (x_st 59 dX9_asks_58 rfl (x_st 62 dX9_asks_59 rfl (x_st 63 dX9_asks_62 rfl (x_ci 66 [vr 32 0, vi x1, vi x2, vi x3, vi x4, vi x5, UU] [] dX9_asks_63 rfl (fun r1 s1 => x_so 68 [vr 32 0, vi x1, vi x2, vi x3, vi x4, vi x5, vi r1] dX9_asks_66 rfl (x_st 69 dX9_asks_68 rfl (x_br dX9_asks_69 (x_if (x_go 72 (x_st 74 dX9_asks_72 rfl (x_st 75 dX9_asks_74 rfl (x_st 77 dX9_asks_75 rfl (x_ci 80 [vr 32 0, vi x1, vi x2, vi x3, vi x4, vi x5, vi r1] [] dX9_asks_77 rfl (fun r2 s2 => x_st 109 dX9_asks_80 rfl (x_ret dX9_asks_109 rfl))))))) (x_go 83 (x_st 84 dX9_asks_83 rfl (x_st 85 dX9_asks_84 rfl (x_br dX9_asks_85 (x_if (x_go 88 (x_st 90 dX9_asks_88 rfl (x_br dX9_asks_90 (x_if (x_go 97 (x_st 98 dX9_asks_97 rfl (x_st 109 dX9_asks_98 rfl (x_ret dX9_asks_109 rfl)))) (x_go 93 (x_st 94 dX9_asks_93 rfl (x_st 109 dX9_asks_94 rfl (x_ret dX9_asks_109 rfl)))))))) (x_go 101 (x_st 103 dX9_asks_101 rfl (x_st 104 dX9_asks_103 rfl (x_st 106 dX9_asks_104 rfl (x_ci 109 [vr 32 0, vi x1, vi x2, vi x3, vi x4, vi x5, vi r1] [] dX9_asks_106 rfl (fun r3 s3 => x_ret dX9_asks_109 rfl)))))))))))))))))))))) x_no))))))))))))))) x_no)))))))))))))))) x_no))))))))))
theorem dX9_goesAll_0 : decode cX9_goesAll 0 = .ok (.iconst 0, 1) := by decide +kernel
theorem dX9_goesAll_1 : decode cX9_goesAll 1 = .ok (.istore_n 1, 1) := by decide +kernel
theorem dX9_goesAll_2 : decode cX9_goesAll 2 = .ok (.iload_n 1, 1) := by decide +kernel
theorem dX9_goesAll_3 : decode cX9_goesAll 3 = .ok (.iconst 4, 1) := by decide +kernel
theorem dX9_goesAll_4 : decode cX9_goesAll 4 = .ok (.if_icmp .ge 19, 3) := by decide +kernel
theorem dX9_goesAll_7 : decode cX9_goesAll 7 = .ok (.aload_n 0, 1) := by decide +kernel
theorem dX9_goesAll_8 : decode cX9_goesAll 8 = .ok (.iload_n 1, 1) := by decide +kernel
theorem dX9_goesAll_9 : decode cX9_goesAll 9 = .ok (.aload_n 0, 1) := by decide +kernel
theorem dX9_goesAll_10 : decode cX9_goesAll 10 = .ok (.iload_n 1, 1) := by decide +kernel
theorem dX9_goesAll_11 : decode cX9_goesAll 11 = .ok (.invokevirtual 260, 3) := by decide +kernel
theorem dX9_goesAll_14 : decode cX9_goesAll 14 = .ok (.invokevirtual 263, 3) := by decide +kernel
theorem dX9_goesAll_17 : decode cX9_goesAll 17 = .ok (.iinc 1 1, 3) := by decide +kernel
theorem dX9_goesAll_20 : decode cX9_goesAll 20 = .ok (.goto (-18), 3) := by decide +kernel
theorem dX9_goesAll_23 : decode cX9_goesAll 23 = .ok (.return_, 1) := by decide +kernel
theorem qX9_goesAll (d : Nat) (s : Sg) : RUN d mX9_goesAll [vr 32 0] s = EV d mX9_goesAll (2, [vr 32 0, vi 0], [], s) := x_run rfl (x_st 1 dX9_goesAll_0 rfl (x_so 2 [vr 32 0, vi 0] dX9_goesAll_1 rfl (rfl)))
theorem qX9_goesAll_2 (d : Nat) (x1 : Int) (s : Sg) : EV (d + 1) mX9_goesAll (2, [vr 32 0, vi x1], [], s) = if x1 < 4 then (bI (RUN d mX9_setOf [vr 32 0, vi x1] s) (fun r1 s1 => bV (RUN d mX9_goes [vr 32 0, vi x1, vi r1] s1) (fun s2 => EV (d + 1) mX9_goesAll (2, [vr 32 0, vi (w32 (x1 + 1))], [], s2)))) else (some (none, s)) := x_st 3 dX9_goesAll_2 rfl (x_st 4 dX9_goesAll_3 rfl (x_br dX9_goesAll_4 (x_if (x_go 7 (x_st 8 dX9_goesAll_7 rfl (x_st 9 dX9_goesAll_8 rfl (x_st 10 dX9_goesAll_9 rfl (x_st 11 dX9_goesAll_10 rfl (x_ci 14 [vr 32 0, vi x1] [vi x1, vr 32 0] dX9_goesAll_11 rfl (fun r1 s1 => x_cv 17 [vr 32 0, vi x1] [] dX9_goesAll_14 rfl (fun s2 => x_so 20 [vr 32 0, vi (w32 (x1 + 1))] dX9_goesAll_17 rfl (x_st 2 dX9_goesAll_20 rfl (rfl)))))))))) (x_go 23 (x_ret dX9_goesAll_23 rfl)))))
theorem dX9_waitedOf_0 : decode cX9_waitedOf 0 = .ok (.aload_n 0, 1) := by decide +kernel
theorem dX9_waitedOf_1 : decode cX9_waitedOf 1 = .ok (.getfield 29, 3) := by decide +kernel
theorem dX9_waitedOf_4 : decode cX9_waitedOf 4 = .ok (.iload_n 1, 1) := by decide +kernel
theorem dX9_waitedOf_5 : decode cX9_waitedOf 5 = .ok (.iaload, 1) := by decide +kernel
theorem dX9_waitedOf_6 : decode cX9_waitedOf 6 = .ok (.iconst (-1), 1) := by decide +kernel
theorem dX9_waitedOf_7 : decode cX9_waitedOf 7 = .ok (.if_icmp .ne 9, 3) := by decide +kernel
theorem dX9_waitedOf_10 : decode cX9_waitedOf 10 = .ok (.sipush 200, 3) := by decide +kernel
theorem dX9_waitedOf_13 : decode cX9_waitedOf 13 = .ok (.goto 9, 3) := by decide +kernel
theorem dX9_waitedOf_16 : decode cX9_waitedOf 16 = .ok (.aload_n 0, 1) := by decide +kernel
theorem dX9_waitedOf_17 : decode cX9_waitedOf 17 = .ok (.getfield 29, 3) := by decide +kernel
theorem dX9_waitedOf_20 : decode cX9_waitedOf 20 = .ok (.iload_n 1, 1) := by decide +kernel
theorem dX9_waitedOf_21 : decode cX9_waitedOf 21 = .ok (.iaload, 1) := by decide +kernel
theorem dX9_waitedOf_22 : decode cX9_waitedOf 22 = .ok (.aload_n 0, 1) := by decide +kernel
theorem dX9_waitedOf_23 : decode cX9_waitedOf 23 = .ok (.getfield 26, 3) := by decide +kernel
theorem dX9_waitedOf_26 : decode cX9_waitedOf 26 = .ok (.iconst 5, 1) := by decide +kernel
theorem dX9_waitedOf_27 : decode cX9_waitedOf 27 = .ok (.iload_n 1, 1) := by decide +kernel
theorem dX9_waitedOf_28 : decode cX9_waitedOf 28 = .ok (.imul, 1) := by decide +kernel
theorem dX9_waitedOf_29 : decode cX9_waitedOf 29 = .ok (.iconst 3, 1) := by decide +kernel
theorem dX9_waitedOf_30 : decode cX9_waitedOf 30 = .ok (.iadd, 1) := by decide +kernel
theorem dX9_waitedOf_31 : decode cX9_waitedOf 31 = .ok (.iaload, 1) := by decide +kernel
theorem dX9_waitedOf_32 : decode cX9_waitedOf 32 = .ok (.isub, 1) := by decide +kernel
theorem dX9_waitedOf_33 : decode cX9_waitedOf 33 = .ok (.ireturn, 1) := by decide +kernel
theorem qX9_waitedOf (d : Nat) (x1 : Int) (s : Sg) : RUN d mX9_waitedOf [vr 32 0, vi x1] s = if inb x1 6 then (if (s 38 0 (Int.toNat x1)) = (-1) then (EV d mX9_waitedOf (22, [vr 32 0, vi x1], [vi 200], s)) else (if inb x1 6 then (EV d mX9_waitedOf (22, [vr 32 0, vi x1], [vi (s 38 0 (Int.toNat x1))], s)) else none)) else none := x_run rfl (x_st 1 dX9_waitedOf_0 rfl (x_st 4 dX9_waitedOf_1 rfl (x_st 5 dX9_waitedOf_4 rfl (x_br dX9_waitedOf_5 (x_if (x_go 6 (x_st 7 dX9_waitedOf_6 rfl (x_br dX9_waitedOf_7 (x_if (x_go 10 (x_st 13 dX9_waitedOf_10 rfl (x_st 22 dX9_waitedOf_13 rfl (rfl)))) (x_go 16 (x_st 17 dX9_waitedOf_16 rfl (x_st 20 dX9_waitedOf_17 rfl (x_st 21 dX9_waitedOf_20 rfl (x_br dX9_waitedOf_21 (x_if (x_go 22 (rfl)) x_no)))))))))) x_no)))))
theorem qX9_waitedOf_22 (d : Nat) (x1 : Int) (y0 : Int) (s : Sg) : EV d mX9_waitedOf (22, [vr 32 0, vi x1], [vi y0], s) = if inb (w32 ((w32 (5 * x1)) + 3)) 30 then (some (some (vi (w32 (y0 - (s 37 0 (Int.toNat (w32 ((w32 (5 * x1)) + 3))))))), s)) else none := x_st 23 dX9_waitedOf_22 rfl (x_st 26 dX9_waitedOf_23 rfl (x_st 27 dX9_waitedOf_26 rfl (x_st 28 dX9_waitedOf_27 rfl (x_st 29 dX9_waitedOf_28 rfl (x_st 30 dX9_waitedOf_29 rfl (x_st 31 dX9_waitedOf_30 rfl (x_br dX9_waitedOf_31 (x_if (x_go 32 (x_st 33 dX9_waitedOf_32 rfl (x_ret dX9_waitedOf_33 rfl))) x_no))))))))
theorem dX9_badness_0 : decode cX9_badness 0 = .ok (.aload_n 0, 1) := by decide +kernel
theorem dX9_badness_1 : decode cX9_badness 1 = .ok (.invokevirtual 270, 3) := by decide +kernel
theorem dX9_badness_4 : decode cX9_badness 4 = .ok (.iconst 0, 1) := by decide +kernel
theorem dX9_badness_5 : decode cX9_badness 5 = .ok (.istore_n 1, 1) := by decide +kernel
theorem dX9_badness_6 : decode cX9_badness 6 = .ok (.iconst 0, 1) := by decide +kernel
theorem dX9_badness_7 : decode cX9_badness 7 = .ok (.istore_n 2, 1) := by decide +kernel
theorem dX9_badness_8 : decode cX9_badness 8 = .ok (.iload_n 2, 1) := by decide +kernel
theorem dX9_badness_9 : decode cX9_badness 9 = .ok (.aload_n 0, 1) := by decide +kernel
theorem dX9_badness_10 : decode cX9_badness 10 = .ok (.getfield 82, 3) := by decide +kernel
theorem dX9_badness_13 : decode cX9_badness 13 = .ok (.if_icmp .ge 27, 3) := by decide +kernel
theorem dX9_badness_16 : decode cX9_badness 16 = .ok (.iload_n 1, 1) := by decide +kernel
theorem dX9_badness_17 : decode cX9_badness 17 = .ok (.aload_n 0, 1) := by decide +kernel
theorem dX9_badness_18 : decode cX9_badness 18 = .ok (.iload_n 2, 1) := by decide +kernel
theorem dX9_badness_19 : decode cX9_badness 19 = .ok (.aload_n 0, 1) := by decide +kernel
theorem dX9_badness_20 : decode cX9_badness 20 = .ok (.getfield 26, 3) := by decide +kernel
theorem dX9_badness_23 : decode cX9_badness 23 = .ok (.iconst 5, 1) := by decide +kernel
theorem dX9_badness_24 : decode cX9_badness 24 = .ok (.iload_n 2, 1) := by decide +kernel
theorem dX9_badness_25 : decode cX9_badness 25 = .ok (.imul, 1) := by decide +kernel
theorem dX9_badness_26 : decode cX9_badness 26 = .ok (.iconst 2, 1) := by decide +kernel
theorem dX9_badness_27 : decode cX9_badness 27 = .ok (.iadd, 1) := by decide +kernel
theorem dX9_badness_28 : decode cX9_badness 28 = .ok (.iaload, 1) := by decide +kernel
theorem dX9_badness_29 : decode cX9_badness 29 = .ok (.invokevirtual 273, 3) := by decide +kernel
theorem dX9_badness_32 : decode cX9_badness 32 = .ok (.iadd, 1) := by decide +kernel
theorem dX9_badness_33 : decode cX9_badness 33 = .ok (.istore_n 1, 1) := by decide +kernel
theorem dX9_badness_34 : decode cX9_badness 34 = .ok (.iinc 2 1, 3) := by decide +kernel
theorem dX9_badness_37 : decode cX9_badness 37 = .ok (.goto (-29), 3) := by decide +kernel
theorem dX9_badness_40 : decode cX9_badness 40 = .ok (.iload_n 1, 1) := by decide +kernel
theorem dX9_badness_41 : decode cX9_badness 41 = .ok (.ireturn, 1) := by decide +kernel
theorem qX9_badness (d : Nat) (s : Sg) : RUN (d + 1) mX9_badness [vr 32 0] s = bV (RUN d mX9_goesAll [vr 32 0] s) (fun s1 => EV (d + 1) mX9_badness (8, [vr 32 0, vi 0, vi 0], [], s1)) := x_run rfl (x_st 1 dX9_badness_0 rfl (x_cv 4 [vr 32 0, UU, UU] [] dX9_badness_1 rfl (fun s1 => x_st 5 dX9_badness_4 rfl (x_so 6 [vr 32 0, vi 0, UU] dX9_badness_5 rfl (x_st 7 dX9_badness_6 rfl (x_so 8 [vr 32 0, vi 0, vi 0] dX9_badness_7 rfl (rfl)))))))
theorem qX9_badness_8 (d : Nat) (x1 : Int) (x2 : Int) (s : Sg) : EV (d + 1) mX9_badness (8, [vr 32 0, vi x1, vi x2], [], s) = if x2 < (s 32 0 9) then (if inb (w32 ((w32 (5 * x2)) + 2)) 30 then (bI (RUN d mX9_badOf [vr 32 0, vi x2, vi (s 37 0 (Int.toNat (w32 ((w32 (5 * x2)) + 2))))] s) (fun r1 s1 => EV (d + 1) mX9_badness (8, [vr 32 0, vi (w32 (x1 + r1)), vi (w32 (x2 + 1))], [], s1))) else none) else (some (some (vi x1), s)) := x_st 9 dX9_badness_8 rfl (x_st 10 dX9_badness_9 rfl (x_st 13 dX9_badness_10 rfl (x_br dX9_badness_13 (x_if (x_go 16 (x_st 17 dX9_badness_16 rfl (x_st 18 dX9_badness_17 rfl (x_st 19 dX9_badness_18 rfl (x_st 20 dX9_badness_19 rfl (x_st 23 dX9_badness_20 rfl (x_st 24 dX9_badness_23 rfl (x_st 25 dX9_badness_24 rfl (x_st 26 dX9_badness_25 rfl (x_st 27 dX9_badness_26 rfl (x_st 28 dX9_badness_27 rfl (x_br dX9_badness_28 (x_if (x_go 29 (x_ci 32 [vr 32 0, vi x1, vi x2] [vi x1] dX9_badness_29 rfl (fun r1 s1 => x_st 33 dX9_badness_32 rfl (x_so 34 [vr 32 0, vi (w32 (x1 + r1)), vi x2] dX9_badness_33 rfl (x_so 37 [vr 32 0, vi (w32 (x1 + r1)), vi (w32 (x2 + 1))] dX9_badness_34 rfl (x_st 8 dX9_badness_37 rfl (rfl))))))) x_no))))))))))))) (x_go 40 (x_st 41 dX9_badness_40 rfl (x_ret dX9_badness_41 rfl)))))))
theorem dX9_isSheet_0 : decode cX9_isSheet 0 = .ok (.iload_n 0, 1) := by decide +kernel
theorem dX9_isSheet_1 : decode cX9_isSheet 1 = .ok (.i2l, 1) := by decide +kernel
theorem dX9_isSheet_2 : decode cX9_isSheet 2 = .ok (.lconst 0, 1) := by decide +kernel
theorem dX9_isSheet_3 : decode cX9_isSheet 3 = .ok (.ldc2_w 106, 3) := by decide +kernel
theorem dX9_isSheet_6 : decode cX9_isSheet 6 = .ok (.invokestatic 85, 3) := by decide +kernel
theorem dX9_isSheet_9 : decode cX9_isSheet 9 = .ok (.ireturn, 1) := by decide +kernel
theorem qX9_isSheet (d : Nat) (x0 : Int) (s : Sg) : RUN (d + 1) mX9_isSheet [vi x0] s = bI (RUN d mX9_in [vl x0, vl 0, vl 3] s) (fun r1 s1 => if 0 ≤ r1 ∧ r1 ≤ 1 then some (some (vi r1), s1) else none) := x_run rfl (x_st 1 dX9_isSheet_0 rfl (x_st 2 dX9_isSheet_1 rfl (x_st 3 dX9_isSheet_2 rfl (x_st 6 dX9_isSheet_3 rfl (x_ci 9 [vi x0] [] dX9_isSheet_6 rfl (fun r1 s1 => x_br dX9_isSheet_9 x_rg))))))
theorem dX9_drives_0 : decode cX9_drives 0 = .ok (.iload_n 1, 1) := by decide +kernel
theorem dX9_drives_1 : decode cX9_drives 1 = .ok (.istore_n 2, 1) := by decide +kernel
theorem dX9_drives_2 : decode cX9_drives 2 = .ok (.iconst 0, 1) := by decide +kernel
theorem dX9_drives_3 : decode cX9_drives 3 = .ok (.istore_n 3, 1) := by decide +kernel
theorem dX9_drives_4 : decode cX9_drives 4 = .ok (.iload_n 3, 1) := by decide +kernel
theorem dX9_drives_5 : decode cX9_drives 5 = .ok (.aload_n 0, 1) := by decide +kernel
theorem dX9_drives_6 : decode cX9_drives 6 = .ok (.getfield 82, 3) := by decide +kernel
theorem dX9_drives_9 : decode cX9_drives 9 = .ok (.if_icmp .ge 51, 3) := by decide +kernel
theorem dX9_drives_12 : decode cX9_drives 12 = .ok (.aload_n 0, 1) := by decide +kernel
theorem dX9_drives_13 : decode cX9_drives 13 = .ok (.getfield 53, 3) := by decide +kernel
theorem dX9_drives_16 : decode cX9_drives 16 = .ok (.iload_n 3, 1) := by decide +kernel
theorem dX9_drives_17 : decode cX9_drives 17 = .ok (.aload_n 0, 1) := by decide +kernel
theorem dX9_drives_18 : decode cX9_drives 18 = .ok (.getfield 26, 3) := by decide +kernel
theorem dX9_drives_21 : decode cX9_drives 21 = .ok (.iconst 5, 1) := by decide +kernel
theorem dX9_drives_22 : decode cX9_drives 22 = .ok (.iload_n 3, 1) := by decide +kernel
theorem dX9_drives_23 : decode cX9_drives 23 = .ok (.imul, 1) := by decide +kernel
theorem dX9_drives_24 : decode cX9_drives 24 = .ok (.iconst 2, 1) := by decide +kernel
theorem dX9_drives_25 : decode cX9_drives 25 = .ok (.iadd, 1) := by decide +kernel
theorem dX9_drives_26 : decode cX9_drives 26 = .ok (.iaload, 1) := by decide +kernel
theorem dX9_drives_27 : decode cX9_drives 27 = .ok (.iastore, 1) := by decide +kernel
theorem dX9_drives_28 : decode cX9_drives 28 = .ok (.iload_n 2, 1) := by decide +kernel
theorem dX9_drives_29 : decode cX9_drives 29 = .ok (.ldc_w 311, 3) := by decide +kernel
theorem dX9_drives_32 : decode cX9_drives 32 = .ok (.imul, 1) := by decide +kernel
theorem dX9_drives_33 : decode cX9_drives 33 = .ok (.sipush 12345, 3) := by decide +kernel
theorem dX9_drives_36 : decode cX9_drives 36 = .ok (.iadd, 1) := by decide +kernel
theorem dX9_drives_37 : decode cX9_drives 37 = .ok (.istore_n 2, 1) := by decide +kernel
theorem dX9_drives_38 : decode cX9_drives 38 = .ok (.aload_n 0, 1) := by decide +kernel
theorem dX9_drives_39 : decode cX9_drives 39 = .ok (.getfield 26, 3) := by decide +kernel
theorem dX9_drives_42 : decode cX9_drives 42 = .ok (.iconst 5, 1) := by decide +kernel
theorem dX9_drives_43 : decode cX9_drives 43 = .ok (.iload_n 3, 1) := by decide +kernel
theorem dX9_drives_44 : decode cX9_drives 44 = .ok (.imul, 1) := by decide +kernel
theorem dX9_drives_45 : decode cX9_drives 45 = .ok (.iconst 2, 1) := by decide +kernel
theorem dX9_drives_46 : decode cX9_drives 46 = .ok (.iadd, 1) := by decide +kernel
theorem dX9_drives_47 : decode cX9_drives 47 = .ok (.iload_n 2, 1) := by decide +kernel
theorem dX9_drives_48 : decode cX9_drives 48 = .ok (.bipush 9, 2) := by decide +kernel
theorem dX9_drives_50 : decode cX9_drives 50 = .ok (.iushr, 1) := by decide +kernel
theorem dX9_drives_51 : decode cX9_drives 51 = .ok (.iconst 4, 1) := by decide +kernel
theorem dX9_drives_52 : decode cX9_drives 52 = .ok (.irem, 1) := by decide +kernel
theorem dX9_drives_53 : decode cX9_drives 53 = .ok (.iastore, 1) := by decide +kernel
theorem dX9_drives_54 : decode cX9_drives 54 = .ok (.iinc 3 1, 3) := by decide +kernel
theorem dX9_drives_57 : decode cX9_drives 57 = .ok (.goto (-53), 3) := by decide +kernel
theorem dX9_drives_60 : decode cX9_drives 60 = .ok (.aload_n 0, 1) := by decide +kernel
theorem dX9_drives_61 : decode cX9_drives 61 = .ok (.invokevirtual 278, 3) := by decide +kernel
theorem dX9_drives_64 : decode cX9_drives 64 = .ok (.istore_n 3, 1) := by decide +kernel
theorem dX9_drives_65 : decode cX9_drives 65 = .ok (.iconst 0, 1) := by decide +kernel
theorem dX9_drives_66 : decode cX9_drives 66 = .ok (.istore 4, 2) := by decide +kernel
theorem dX9_drives_68 : decode cX9_drives 68 = .ok (.iload 4, 2) := by decide +kernel
theorem dX9_drives_70 : decode cX9_drives 70 = .ok (.aload_n 0, 1) := by decide +kernel
theorem dX9_drives_71 : decode cX9_drives 71 = .ok (.getfield 82, 3) := by decide +kernel
theorem dX9_drives_74 : decode cX9_drives 74 = .ok (.if_icmp .ge 27, 3) := by decide +kernel
theorem dX9_drives_77 : decode cX9_drives 77 = .ok (.aload_n 0, 1) := by decide +kernel
theorem dX9_drives_78 : decode cX9_drives 78 = .ok (.getfield 26, 3) := by decide +kernel
theorem dX9_drives_81 : decode cX9_drives 81 = .ok (.iconst 5, 1) := by decide +kernel
theorem dX9_drives_82 : decode cX9_drives 82 = .ok (.iload 4, 2) := by decide +kernel
theorem dX9_drives_84 : decode cX9_drives 84 = .ok (.imul, 1) := by decide +kernel
theorem dX9_drives_85 : decode cX9_drives 85 = .ok (.iconst 2, 1) := by decide +kernel
theorem dX9_drives_86 : decode cX9_drives 86 = .ok (.iadd, 1) := by decide +kernel
theorem dX9_drives_87 : decode cX9_drives 87 = .ok (.aload_n 0, 1) := by decide +kernel
theorem dX9_drives_88 : decode cX9_drives 88 = .ok (.getfield 53, 3) := by decide +kernel
theorem dX9_drives_91 : decode cX9_drives 91 = .ok (.iload 4, 2) := by decide +kernel
theorem dX9_drives_93 : decode cX9_drives 93 = .ok (.iaload, 1) := by decide +kernel
theorem dX9_drives_94 : decode cX9_drives 94 = .ok (.iastore, 1) := by decide +kernel
theorem dX9_drives_95 : decode cX9_drives 95 = .ok (.iinc 4 1, 3) := by decide +kernel
theorem dX9_drives_98 : decode cX9_drives 98 = .ok (.goto (-30), 3) := by decide +kernel
theorem dX9_drives_101 : decode cX9_drives 101 = .ok (.iload_n 3, 1) := by decide +kernel
theorem dX9_drives_102 : decode cX9_drives 102 = .ok (.ireturn, 1) := by decide +kernel
theorem qX9_drives (d : Nat) (x1 : Int) (s : Sg) : RUN d mX9_drives [vr 32 0, vi x1] s = EV d mX9_drives (4, [vr 32 0, vi x1, vi x1, vi 0, UU], [], s) := x_run rfl (x_st 1 dX9_drives_0 rfl (x_so 2 [vr 32 0, vi x1, vi x1, UU, UU] dX9_drives_1 rfl (x_st 3 dX9_drives_2 rfl (x_so 4 [vr 32 0, vi x1, vi x1, vi 0, UU] dX9_drives_3 rfl (rfl)))))
theorem qX9_drives_4 (d : Nat) (z1 : PV) (x2 : Int) (x3 : Int) (z4 : PV) (s : Sg) : EV (d + 1) mX9_drives (4, [vr 32 0, z1, vi x2, vi x3, z4], [], s) = if x3 < (s 32 0 9) then (if inb (w32 ((w32 (5 * x3)) + 2)) 30 then (if inb x3 6 then (if inb (w32 ((w32 (5 * x3)) + 2)) 30 then (EV (d + 1) mX9_drives (4, [vr 32 0, z1, vi (w32 ((w32 (x2 * 1103515245)) + 12345)), vi (w32 (x3 + 1)), z4], [], (up (up s 46 0 (Int.toNat x3) (s 37 0 (Int.toNat (w32 ((w32 (5 * x3)) + 2))))) 37 0 (Int.toNat (w32 ((w32 (5 * x3)) + 2))) (wrem (wush (w32 ((w32 (x2 * 1103515245)) + 12345)) 9) 4)))) else none) else none) else none) else (bI (RUN d mX9_badness [vr 32 0] s) (fun r1 s1 => EV (d + 1) mX9_drives (68, [vr 32 0, z1, vi x2, vi r1, vi 0], [], s1))) := x_st 5 dX9_drives_4 rfl (x_st 6 dX9_drives_5 rfl (x_st 9 dX9_drives_6 rfl (x_br dX9_drives_9 (x_if (x_go 12 (x_st 13 dX9_drives_12 rfl (x_st 16 dX9_drives_13 rfl (x_st 17 dX9_drives_16 rfl (x_st 18 dX9_drives_17 rfl (x_st 21 dX9_drives_18 rfl (x_st 22 dX9_drives_21 rfl (x_st 23 dX9_drives_22 rfl (x_st 24 dX9_drives_23 rfl (x_st 25 dX9_drives_24 rfl (x_st 26 dX9_drives_25 rfl (x_br dX9_drives_26 (x_if (x_go 27 (x_br dX9_drives_27 (x_if (x_go 28 (x_st 29 dX9_drives_28 rfl (x_st 32 dX9_drives_29 rfl (x_st 33 dX9_drives_32 rfl (x_st 36 dX9_drives_33 rfl (x_st 37 dX9_drives_36 rfl (x_so 38 [vr 32 0, z1, vi (w32 ((w32 (x2 * 1103515245)) + 12345)), vi x3, z4] dX9_drives_37 rfl (x_st 39 dX9_drives_38 rfl (x_st 42 dX9_drives_39 rfl (x_st 43 dX9_drives_42 rfl (x_st 44 dX9_drives_43 rfl (x_st 45 dX9_drives_44 rfl (x_st 46 dX9_drives_45 rfl (x_st 47 dX9_drives_46 rfl (x_st 48 dX9_drives_47 rfl (x_st 50 dX9_drives_48 rfl (x_st 51 dX9_drives_50 rfl (x_st 52 dX9_drives_51 rfl (x_st 53 dX9_drives_52 rfl (x_br dX9_drives_53 (x_if (x_go 54 (x_so 57 [vr 32 0, z1, vi (w32 ((w32 (x2 * 1103515245)) + 12345)), vi (w32 (x3 + 1)), z4] dX9_drives_54 rfl (x_st 4 dX9_drives_57 rfl (rfl)))) x_no))))))))))))))))))))) x_no))) x_no))))))))))))) (x_go 60 (x_st 61 dX9_drives_60 rfl (x_ci 64 [vr 32 0, z1, vi x2, vi x3, z4] [] dX9_drives_61 rfl (fun r1 s1 => x_so 65 [vr 32 0, z1, vi x2, vi r1, z4] dX9_drives_64 rfl (x_st 66 dX9_drives_65 rfl (x_so 68 [vr 32 0, z1, vi x2, vi r1, vi 0] dX9_drives_66 rfl (rfl)))))))))))
theorem qX9_drives_68 (d : Nat) (z1 : PV) (z2 : PV) (x3 : Int) (x4 : Int) (s : Sg) : EV d mX9_drives (68, [vr 32 0, z1, z2, vi x3, vi x4], [], s) = if x4 < (s 32 0 9) then (if inb x4 6 then (if inb (w32 ((w32 (5 * x4)) + 2)) 30 then (EV d mX9_drives (68, [vr 32 0, z1, z2, vi x3, vi (w32 (x4 + 1))], [], (up s 37 0 (Int.toNat (w32 ((w32 (5 * x4)) + 2))) (s 46 0 (Int.toNat x4))))) else none) else none) else (some (some (vi x3), s)) := x_st 70 dX9_drives_68 rfl (x_st 71 dX9_drives_70 rfl (x_st 74 dX9_drives_71 rfl (x_br dX9_drives_74 (x_if (x_go 77 (x_st 78 dX9_drives_77 rfl (x_st 81 dX9_drives_78 rfl (x_st 82 dX9_drives_81 rfl (x_st 84 dX9_drives_82 rfl (x_st 85 dX9_drives_84 rfl (x_st 86 dX9_drives_85 rfl (x_st 87 dX9_drives_86 rfl (x_st 88 dX9_drives_87 rfl (x_st 91 dX9_drives_88 rfl (x_st 93 dX9_drives_91 rfl (x_br dX9_drives_93 (x_if (x_go 94 (x_br dX9_drives_94 (x_if (x_go 95 (x_so 98 [vr 32 0, z1, z2, vi x3, vi (w32 (x4 + 1))] dX9_drives_95 rfl (x_st 68 dX9_drives_98 rfl (rfl)))) x_no))) x_no))))))))))))) (x_go 101 (x_st 102 dX9_drives_101 rfl (x_ret dX9_drives_102 rfl)))))))
theorem dX9_read_0 : decode cX9_read 0 = .ok (.aload_n 0, 1) := by decide +kernel
theorem dX9_read_1 : decode cX9_read 1 = .ok (.sipush 160, 3) := by decide +kernel
theorem dX9_read_4 : decode cX9_read 4 = .ok (.iload_n 1, 1) := by decide +kernel
theorem dX9_read_5 : decode cX9_read 5 = .ok (.imul, 1) := by decide +kernel
theorem dX9_read_6 : decode cX9_read 6 = .ok (.putfield 137, 3) := by decide +kernel
theorem dX9_read_9 : decode cX9_read 9 = .ok (.aload_n 0, 1) := by decide +kernel
theorem dX9_read_10 : decode cX9_read 10 = .ok (.aload_n 0, 1) := by decide +kernel
theorem dX9_read_11 : decode cX9_read 11 = .ok (.getfield 17, 3) := by decide +kernel
theorem dX9_read_14 : decode cX9_read 14 = .ok (.iload_n 1, 1) := by decide +kernel
theorem dX9_read_15 : decode cX9_read 15 = .ok (.iaload, 1) := by decide +kernel
theorem dX9_read_16 : decode cX9_read 16 = .ok (.putfield 134, 3) := by decide +kernel
theorem dX9_read_19 : decode cX9_read 19 = .ok (.aload_n 0, 1) := by decide +kernel
theorem dX9_read_20 : decode cX9_read 20 = .ok (.iconst 0, 1) := by decide +kernel
theorem dX9_read_21 : decode cX9_read 21 = .ok (.putfield 140, 3) := by decide +kernel
theorem dX9_read_24 : decode cX9_read 24 = .ok (.aload_n 0, 1) := by decide +kernel
theorem dX9_read_25 : decode cX9_read 25 = .ok (.iconst 0, 1) := by decide +kernel
theorem dX9_read_26 : decode cX9_read 26 = .ok (.putfield 174, 3) := by decide +kernel
theorem dX9_read_29 : decode cX9_read 29 = .ok (.aload_n 0, 1) := by decide +kernel
theorem dX9_read_30 : decode cX9_read 30 = .ok (.iconst 0, 1) := by decide +kernel
theorem dX9_read_31 : decode cX9_read 31 = .ok (.putfield 164, 3) := by decide +kernel
theorem dX9_read_34 : decode cX9_read 34 = .ok (.aload_n 0, 1) := by decide +kernel
theorem dX9_read_35 : decode cX9_read 35 = .ok (.invokevirtual 180, 3) := by decide +kernel
theorem dX9_read_38 : decode cX9_read 38 = .ok (.aload_n 0, 1) := by decide +kernel
theorem dX9_read_39 : decode cX9_read 39 = .ok (.aload_n 0, 1) := by decide +kernel
theorem dX9_read_40 : decode cX9_read 40 = .ok (.bipush 116, 2) := by decide +kernel
theorem dX9_read_42 : decode cX9_read 42 = .ok (.bipush 97, 2) := by decide +kernel
theorem dX9_read_44 : decode cX9_read 44 = .ok (.bipush 107, 2) := by decide +kernel
theorem dX9_read_46 : decode cX9_read 46 = .ok (.bipush 101, 2) := by decide +kernel
theorem dX9_read_48 : decode cX9_read 48 = .ok (.bipush 115, 2) := by decide +kernel
theorem dX9_read_50 : decode cX9_read 50 = .ok (.iconst 0, 1) := by decide +kernel
theorem dX9_read_51 : decode cX9_read 51 = .ok (.iconst 0, 1) := by decide +kernel
theorem dX9_read_52 : decode cX9_read 52 = .ok (.iconst 0, 1) := by decide +kernel
theorem dX9_read_53 : decode cX9_read 53 = .ok (.invokevirtual 183, 3) := by decide +kernel
theorem dX9_read_56 : decode cX9_read 56 = .ok (.invokevirtual 238, 3) := by decide +kernel
theorem dX9_read_59 : decode cX9_read 59 = .ok (.istore_n 3, 1) := by decide +kernel
theorem dX9_read_60 : decode cX9_read 60 = .ok (.aload_n 0, 1) := by decide +kernel
theorem dX9_read_61 : decode cX9_read 61 = .ok (.getfield 164, 3) := by decide +kernel
theorem dX9_read_64 : decode cX9_read 64 = .ok (.ifCond .eq 7, 3) := by decide +kernel
theorem dX9_read_67 : decode cX9_read 67 = .ok (.iconst 0, 1) := by decide +kernel
theorem dX9_read_68 : decode cX9_read 68 = .ok (.goto 27, 3) := by decide +kernel
theorem dX9_read_71 : decode cX9_read 71 = .ok (.aload_n 0, 1) := by decide +kernel
theorem dX9_read_72 : decode cX9_read 72 = .ok (.aload_n 0, 1) := by decide +kernel
theorem dX9_read_73 : decode cX9_read 73 = .ok (.bipush 102, 2) := by decide +kernel
theorem dX9_read_75 : decode cX9_read 75 = .ok (.bipush 111, 2) := by decide +kernel
theorem dX9_read_77 : decode cX9_read 77 = .ok (.bipush 114, 2) := by decide +kernel
theorem dX9_read_79 : decode cX9_read 79 = .ok (.bipush 119, 2) := by decide +kernel
theorem dX9_read_81 : decode cX9_read 81 = .ok (.bipush 97, 2) := by decide +kernel
theorem dX9_read_83 : decode cX9_read 83 = .ok (.bipush 114, 2) := by decide +kernel
theorem dX9_read_85 : decode cX9_read 85 = .ok (.bipush 100, 2) := by decide +kernel
theorem dX9_read_87 : decode cX9_read 87 = .ok (.bipush 115, 2) := by decide +kernel
theorem dX9_read_89 : decode cX9_read 89 = .ok (.invokevirtual 183, 3) := by decide +kernel
theorem dX9_read_92 : decode cX9_read 92 = .ok (.invokevirtual 238, 3) := by decide +kernel
theorem dX9_read_95 : decode cX9_read 95 = .ok (.istore 4, 2) := by decide +kernel
theorem dX9_read_97 : decode cX9_read 97 = .ok (.aload_n 0, 1) := by decide +kernel
theorem dX9_read_98 : decode cX9_read 98 = .ok (.getfield 164, 3) := by decide +kernel
theorem dX9_read_101 : decode cX9_read 101 = .ok (.ifCond .eq 7, 3) := by decide +kernel
theorem dX9_read_104 : decode cX9_read 104 = .ok (.iconst 0, 1) := by decide +kernel
theorem dX9_read_105 : decode cX9_read 105 = .ok (.goto 24, 3) := by decide +kernel
theorem dX9_read_108 : decode cX9_read 108 = .ok (.aload_n 0, 1) := by decide +kernel
theorem dX9_read_109 : decode cX9_read 109 = .ok (.aload_n 0, 1) := by decide +kernel
theorem dX9_read_110 : decode cX9_read 110 = .ok (.bipush 109, 2) := by decide +kernel
theorem dX9_read_112 : decode cX9_read 112 = .ok (.bipush 105, 2) := by decide +kernel
theorem dX9_read_114 : decode cX9_read 114 = .ok (.bipush 110, 2) := by decide +kernel
theorem dX9_read_116 : decode cX9_read 116 = .ok (.bipush 100, 2) := by decide +kernel
theorem dX9_read_118 : decode cX9_read 118 = .ok (.bipush 115, 2) := by decide +kernel
theorem dX9_read_120 : decode cX9_read 120 = .ok (.iconst 0, 1) := by decide +kernel
theorem dX9_read_121 : decode cX9_read 121 = .ok (.iconst 0, 1) := by decide +kernel
theorem dX9_read_122 : decode cX9_read 122 = .ok (.iconst 0, 1) := by decide +kernel
theorem dX9_read_123 : decode cX9_read 123 = .ok (.invokevirtual 183, 3) := by decide +kernel
theorem dX9_read_126 : decode cX9_read 126 = .ok (.invokevirtual 238, 3) := by decide +kernel
theorem dX9_read_129 : decode cX9_read 129 = .ok (.istore 5, 2) := by decide +kernel
theorem dX9_read_131 : decode cX9_read 131 = .ok (.aload_n 0, 1) := by decide +kernel
theorem dX9_read_132 : decode cX9_read 132 = .ok (.getfield 164, 3) := by decide +kernel
theorem dX9_read_135 : decode cX9_read 135 = .ok (.ifCond .ne 14, 3) := by decide +kernel
theorem dX9_read_138 : decode cX9_read 138 = .ok (.aload_n 0, 1) := by decide +kernel
theorem dX9_read_139 : decode cX9_read 139 = .ok (.getfield 149, 3) := by decide +kernel
theorem dX9_read_142 : decode cX9_read 142 = .ok (.ifCond .eq 7, 3) := by decide +kernel
theorem dX9_read_145 : decode cX9_read 145 = .ok (.aload_n 0, 1) := by decide +kernel
theorem dX9_read_146 : decode cX9_read 146 = .ok (.invokevirtual 177, 3) := by decide +kernel
theorem dX9_read_149 : decode cX9_read 149 = .ok (.iload_n 2, 1) := by decide +kernel
theorem dX9_read_150 : decode cX9_read 150 = .ok (.ifCond .ne 7, 3) := by decide +kernel
theorem dX9_read_153 : decode cX9_read 153 = .ok (.iload_n 3, 1) := by decide +kernel
theorem dX9_read_154 : decode cX9_read 154 = .ok (.goto 15, 3) := by decide +kernel
theorem dX9_read_157 : decode cX9_read 157 = .ok (.iload_n 2, 1) := by decide +kernel
theorem dX9_read_158 : decode cX9_read 158 = .ok (.iconst 1, 1) := by decide +kernel
theorem dX9_read_159 : decode cX9_read 159 = .ok (.if_icmp .ne 8, 3) := by decide +kernel
theorem dX9_read_162 : decode cX9_read 162 = .ok (.iload 4, 2) := by decide +kernel
theorem dX9_read_164 : decode cX9_read 164 = .ok (.goto 5, 3) := by decide +kernel
theorem dX9_read_167 : decode cX9_read 167 = .ok (.iload 5, 2) := by decide +kernel
theorem dX9_read_169 : decode cX9_read 169 = .ok (.ireturn, 1) := by decide +kernel
theorem qX9_read (d : Nat) (x1 : Int) (x2 : Int) (s : Sg) : RUN (d + 1) mX9_read [vr 32 0, vi x1, vi x2] s = if inb x1 6 then (bV (RUN d mX9_next [vr 32 0] (up (up (up (up (up s 32 0 16 (w32 (160 * x1))) 32 0 17 (s 34 0 (Int.toNat x1))) 32 0 18 0) 32 0 22 0) 32 0 23 0)) (fun s1 => bI (RUN d mX9_isWord [vr 32 0, vi 116, vi 97, vi 107, vi 101, vi 115, vi 0, vi 0, vi 0] s1) (fun r2 s2 => bI (RUN d mX9_part [vr 32 0, vi r2] s2) (fun r3 s3 => if (s3 32 0 23) = 0 then (bI (RUN d mX9_isWord [vr 32 0, vi 102, vi 111, vi 114, vi 119, vi 97, vi 114, vi 100, vi 115] s3) (fun r4 s4 => bI (RUN d mX9_part [vr 32 0, vi r4] s4) (fun r5 s5 => EV (d + 1) mX9_read (95, [vr 32 0, vi x1, vi x2, vi r3, UU, UU], [vi r5], s5)))) else (EV (d + 1) mX9_read (95, [vr 32 0, vi x1, vi x2, vi r3, UU, UU], [vi 0], s3)))))) else none := x_run rfl (x_st 1 dX9_read_0 rfl (x_st 4 dX9_read_1 rfl (x_st 5 dX9_read_4 rfl (x_st 6 dX9_read_5 rfl (x_st 9 dX9_read_6 rfl (x_st 10 dX9_read_9 rfl (x_st 11 dX9_read_10 rfl (x_st 14 dX9_read_11 rfl (x_st 15 dX9_read_14 rfl (x_br dX9_read_15 (x_if (x_go 16 (x_st 19 dX9_read_16 rfl (x_st 20 dX9_read_19 rfl (x_st 21 dX9_read_20 rfl (x_st 24 dX9_read_21 rfl (x_st 25 dX9_read_24 rfl (x_st 26 dX9_read_25 rfl (x_st 29 dX9_read_26 rfl (x_st 30 dX9_read_29 rfl (x_st 31 dX9_read_30 rfl (x_st 34 dX9_read_31 rfl (x_st 35 dX9_read_34 rfl (x_cv 38 [vr 32 0, vi x1, vi x2, UU, UU, UU] [] dX9_read_35 rfl (fun s1 => x_st 39 dX9_read_38 rfl (x_st 40 dX9_read_39 rfl (x_st 42 dX9_read_40 rfl (x_st 44 dX9_read_42 rfl (x_st 46 dX9_read_44 rfl (x_st 48 dX9_read_46 rfl (x_st 50 dX9_read_48 rfl (x_st 51 dX9_read_50 rfl (x_st 52 dX9_read_51 rfl (x_st 53 dX9_read_52 rfl (x_ci 56 [vr 32 0, vi x1, vi x2, UU, UU, UU] [vr 32 0] dX9_read_53 rfl (fun r2 s2 => x_ci 59 [vr 32 0, vi x1, vi x2, UU, UU, UU] [] dX9_read_56 rfl (fun r3 s3 => x_so 60 [vr 32 0, vi x1, vi x2, vi r3, UU, UU] dX9_read_59 rfl (x_st 61 dX9_read_60 rfl (x_st 64 dX9_read_61 rfl (x_br dX9_read_64 (x_if (x_go 71 (x_st 72 dX9_read_71 rfl (x_st 73 dX9_read_72 rfl (x_st 75 dX9_read_73 rfl (x_st 77 dX9_read_75 rfl (x_st 79 dX9_read_77 rfl (x_st 81 dX9_read_79 rfl (x_st 83 dX9_read_81 rfl (x_st 85 dX9_read_83 rfl (x_st 87 dX9_read_85 rfl (x_st 89 dX9_read_87 rfl (x_ci 92 [vr 32 0, vi x1, vi x2, vi r3, UU, UU] [vr 32 0] dX9_read_89 rfl (fun r4 s4 => x_ci 95 [vr 32 0, vi x1, vi x2, vi r3, UU, UU] [] dX9_read_92 rfl (fun r5 s5 => rfl)))))))))))))) (x_go 67 (x_st 68 dX9_read_67 rfl (x_st 95 dX9_read_68 rfl (rfl)))))))))))))))))))))))))))))))))) x_no)))))))))))
theorem qX9_read_95 (d : Nat) (z1 : PV) (x2 : Int) (x3 : Int) (z4 : PV) (z5 : PV) (y0 : Int) (s : Sg) : EV (d + 1) mX9_read (95, [vr 32 0, z1, vi x2, vi x3, z4, z5], [vi y0], s) = if (s 32 0 23) = 0 then (bI (RUN d mX9_isWord [vr 32 0, vi 109, vi 105, vi 110, vi 100, vi 115, vi 0, vi 0, vi 0] s) (fun r1 s1 => bI (RUN d mX9_part [vr 32 0, vi r1] s1) (fun r2 s2 => EV (d + 1) mX9_read (129, [vr 32 0, z1, vi x2, vi x3, vi y0, z5], [vi r2], s2)))) else (EV (d + 1) mX9_read (129, [vr 32 0, z1, vi x2, vi x3, vi y0, z5], [vi 0], s)) := x_so 97 [vr 32 0, z1, vi x2, vi x3, vi y0, z5] dX9_read_95 rfl (x_st 98 dX9_read_97 rfl (x_st 101 dX9_read_98 rfl (x_br dX9_read_101 (x_if (x_go 108 (x_st 109 dX9_read_108 rfl (x_st 110 dX9_read_109 rfl (x_st 112 dX9_read_110 rfl (x_st 114 dX9_read_112 rfl (x_st 116 dX9_read_114 rfl (x_st 118 dX9_read_116 rfl (x_st 120 dX9_read_118 rfl (x_st 121 dX9_read_120 rfl (x_st 122 dX9_read_121 rfl (x_st 123 dX9_read_122 rfl (x_ci 126 [vr 32 0, z1, vi x2, vi x3, vi y0, z5] [vr 32 0] dX9_read_123 rfl (fun r1 s1 => x_ci 129 [vr 32 0, z1, vi x2, vi x3, vi y0, z5] [] dX9_read_126 rfl (fun r2 s2 => rfl)))))))))))))) (x_go 104 (x_st 105 dX9_read_104 rfl (x_st 129 dX9_read_105 rfl (rfl))))))))
theorem qX9_read_129 (d : Nat) (z1 : PV) (x2 : Int) (x3 : Int) (x4 : Int) (z5 : PV) (y0 : Int) (s : Sg) : EV (d + 1) mX9_read (129, [vr 32 0, z1, vi x2, vi x3, vi x4, z5], [vi y0], s) = if (s 32 0 23) = 0 then (if (s 32 0 19) = 0 then (EV (d + 1) mX9_read (149, [vr 32 0, z1, vi x2, vi x3, vi x4, vi y0], [], s)) else (bV (RUN d mX9_fail [vr 32 0] s) (fun s1 => EV (d + 1) mX9_read (149, [vr 32 0, z1, vi x2, vi x3, vi x4, vi y0], [], s1)))) else (EV (d + 1) mX9_read (149, [vr 32 0, z1, vi x2, vi x3, vi x4, vi y0], [], s)) := x_so 131 [vr 32 0, z1, vi x2, vi x3, vi x4, vi y0] dX9_read_129 rfl (x_st 132 dX9_read_131 rfl (x_st 135 dX9_read_132 rfl (x_br dX9_read_135 (x_if (x_go 138 (x_st 139 dX9_read_138 rfl (x_st 142 dX9_read_139 rfl (x_br dX9_read_142 (x_if (x_go 149 (rfl)) (x_go 145 (x_st 146 dX9_read_145 rfl (x_cv 149 [vr 32 0, z1, vi x2, vi x3, vi x4, vi y0] [] dX9_read_146 rfl (fun s1 => rfl))))))))) (x_go 149 (rfl))))))
theorem qX9_read_149 (d : Nat) (z0 : PV) (z1 : PV) (x2 : Int) (x3 : Int) (x4 : Int) (x5 : Int) (s : Sg) : EV d mX9_read (149, [z0, z1, vi x2, vi x3, vi x4, vi x5], [], s) = if x2 = 0 then (some (some (vi x3), s)) else (if x2 = 1 then (some (some (vi x4), s)) else (some (some (vi x5), s))) := x_st 150 dX9_read_149 rfl (x_br dX9_read_150 (x_if (x_go 153 (x_st 154 dX9_read_153 rfl (x_st 169 dX9_read_154 rfl (x_ret dX9_read_169 rfl)))) (x_go 157 (x_st 158 dX9_read_157 rfl (x_st 159 dX9_read_158 rfl (x_br dX9_read_159 (x_if (x_go 162 (x_st 164 dX9_read_162 rfl (x_st 169 dX9_read_164 rfl (x_ret dX9_read_169 rfl)))) (x_go 167 (x_st 169 dX9_read_167 rfl (x_ret dX9_read_169 rfl))))))))))
theorem dX9_within_0 : decode cX9_within 0 = .ok (.iload_n 0, 1) := by decide +kernel
theorem dX9_within_1 : decode cX9_within 1 = .ok (.iload_n 1, 1) := by decide +kernel
theorem dX9_within_2 : decode cX9_within 2 = .ok (.if_icmp .ge 7, 3) := by decide +kernel
theorem dX9_within_5 : decode cX9_within 5 = .ok (.iload_n 1, 1) := by decide +kernel
theorem dX9_within_6 : decode cX9_within 6 = .ok (.goto 13, 3) := by decide +kernel
theorem dX9_within_9 : decode cX9_within 9 = .ok (.iload_n 0, 1) := by decide +kernel
theorem dX9_within_10 : decode cX9_within 10 = .ok (.iload_n 2, 1) := by decide +kernel
theorem dX9_within_11 : decode cX9_within 11 = .ok (.if_icmp .le 7, 3) := by decide +kernel
theorem dX9_within_14 : decode cX9_within 14 = .ok (.iload_n 2, 1) := by decide +kernel
theorem dX9_within_15 : decode cX9_within 15 = .ok (.goto 4, 3) := by decide +kernel
theorem dX9_within_18 : decode cX9_within 18 = .ok (.iload_n 0, 1) := by decide +kernel
theorem dX9_within_19 : decode cX9_within 19 = .ok (.ireturn, 1) := by decide +kernel
theorem qX9_within (d : Nat) (x0 : Int) (x1 : Int) (x2 : Int) (s : Sg) : RUN d mX9_within [vi x0, vi x1, vi x2] s = if x0 < x1 then (some (some (vi x1), s)) else (if x2 < x0 then (some (some (vi x2), s)) else (some (some (vi x0), s))) := x_run rfl (x_st 1 dX9_within_0 rfl (x_st 2 dX9_within_1 rfl (x_br dX9_within_2 (x_if (x_go 5 (x_st 6 dX9_within_5 rfl (x_st 19 dX9_within_6 rfl (x_ret dX9_within_19 rfl)))) (x_go 9 (x_st 10 dX9_within_9 rfl (x_st 11 dX9_within_10 rfl (x_br dX9_within_11 (x_if (x_go 14 (x_st 15 dX9_within_14 rfl (x_st 19 dX9_within_15 rfl (x_ret dX9_within_19 rfl)))) (x_go 18 (x_st 19 dX9_within_18 rfl (x_ret dX9_within_19 rfl))))))))))))
theorem dX9_lastOff_0 : decode cX9_lastOff 0 = .ok (.iconst (-1), 1) := by decide +kernel
theorem dX9_lastOff_1 : decode cX9_lastOff 1 = .ok (.istore_n 1, 1) := by decide +kernel
theorem dX9_lastOff_2 : decode cX9_lastOff 2 = .ok (.iconst 0, 1) := by decide +kernel
theorem dX9_lastOff_3 : decode cX9_lastOff 3 = .ok (.istore_n 2, 1) := by decide +kernel
theorem dX9_lastOff_4 : decode cX9_lastOff 4 = .ok (.iload_n 2, 1) := by decide +kernel
theorem dX9_lastOff_5 : decode cX9_lastOff 5 = .ok (.aload_n 0, 1) := by decide +kernel
theorem dX9_lastOff_6 : decode cX9_lastOff 6 = .ok (.getfield 82, 3) := by decide +kernel
theorem dX9_lastOff_9 : decode cX9_lastOff 9 = .ok (.if_icmp .ge 42, 3) := by decide +kernel
theorem dX9_lastOff_12 : decode cX9_lastOff 12 = .ok (.aload_n 0, 1) := by decide +kernel
theorem dX9_lastOff_13 : decode cX9_lastOff 13 = .ok (.getfield 32, 3) := by decide +kernel
theorem dX9_lastOff_16 : decode cX9_lastOff 16 = .ok (.iload_n 2, 1) := by decide +kernel
theorem dX9_lastOff_17 : decode cX9_lastOff 17 = .ok (.iaload, 1) := by decide +kernel
theorem dX9_lastOff_18 : decode cX9_lastOff 18 = .ok (.iconst (-1), 1) := by decide +kernel
theorem dX9_lastOff_19 : decode cX9_lastOff 19 = .ok (.if_icmp .ne 5, 3) := by decide +kernel
theorem dX9_lastOff_22 : decode cX9_lastOff 22 = .ok (.iconst (-1), 1) := by decide +kernel
theorem dX9_lastOff_23 : decode cX9_lastOff 23 = .ok (.ireturn, 1) := by decide +kernel
theorem dX9_lastOff_24 : decode cX9_lastOff 24 = .ok (.aload_n 0, 1) := by decide +kernel
theorem dX9_lastOff_25 : decode cX9_lastOff 25 = .ok (.getfield 32, 3) := by decide +kernel
theorem dX9_lastOff_28 : decode cX9_lastOff 28 = .ok (.iload_n 2, 1) := by decide +kernel
theorem dX9_lastOff_29 : decode cX9_lastOff 29 = .ok (.iaload, 1) := by decide +kernel
theorem dX9_lastOff_30 : decode cX9_lastOff 30 = .ok (.iload_n 1, 1) := by decide +kernel
theorem dX9_lastOff_31 : decode cX9_lastOff 31 = .ok (.if_icmp .le 12, 3) := by decide +kernel
theorem dX9_lastOff_34 : decode cX9_lastOff 34 = .ok (.aload_n 0, 1) := by decide +kernel
theorem dX9_lastOff_35 : decode cX9_lastOff 35 = .ok (.getfield 32, 3) := by decide +kernel
theorem dX9_lastOff_38 : decode cX9_lastOff 38 = .ok (.iload_n 2, 1) := by decide +kernel
theorem dX9_lastOff_39 : decode cX9_lastOff 39 = .ok (.iaload, 1) := by decide +kernel
theorem dX9_lastOff_40 : decode cX9_lastOff 40 = .ok (.goto 4, 3) := by decide +kernel
theorem dX9_lastOff_43 : decode cX9_lastOff 43 = .ok (.iload_n 1, 1) := by decide +kernel
theorem dX9_lastOff_44 : decode cX9_lastOff 44 = .ok (.istore_n 1, 1) := by decide +kernel
theorem dX9_lastOff_45 : decode cX9_lastOff 45 = .ok (.iinc 2 1, 3) := by decide +kernel
theorem dX9_lastOff_48 : decode cX9_lastOff 48 = .ok (.goto (-44), 3) := by decide +kernel
theorem dX9_lastOff_51 : decode cX9_lastOff 51 = .ok (.iload_n 1, 1) := by decide +kernel
theorem dX9_lastOff_52 : decode cX9_lastOff 52 = .ok (.ireturn, 1) := by decide +kernel
theorem qX9_lastOff (d : Nat) (s : Sg) : RUN d mX9_lastOff [vr 32 0] s = EV d mX9_lastOff (4, [vr 32 0, vi (-1), vi 0], [], s) := x_run rfl (x_st 1 dX9_lastOff_0 rfl (x_so 2 [vr 32 0, vi (-1), UU] dX9_lastOff_1 rfl (x_st 3 dX9_lastOff_2 rfl (x_so 4 [vr 32 0, vi (-1), vi 0] dX9_lastOff_3 rfl (rfl)))))
theorem qX9_lastOff_4 (d : Nat) (x1 : Int) (x2 : Int) (s : Sg) : EV d mX9_lastOff (4, [vr 32 0, vi x1, vi x2], [], s) = if x2 < (s 32 0 9) then (if inb x2 6 then (if (s 39 0 (Int.toNat x2)) = (-1) then (some (some (vi (-1)), s)) else (if inb x2 6 then (if x1 < (s 39 0 (Int.toNat x2)) then (if inb x2 6 then (EV d mX9_lastOff (44, [vr 32 0, vi x1, vi x2], [vi (s 39 0 (Int.toNat x2))], s)) else none) else (EV d mX9_lastOff (44, [vr 32 0, vi x1, vi x2], [vi x1], s))) else none)) else none) else (some (some (vi x1), s)) := x_st 5 dX9_lastOff_4 rfl (x_st 6 dX9_lastOff_5 rfl (x_st 9 dX9_lastOff_6 rfl (x_br dX9_lastOff_9 (x_if (x_go 12 (x_st 13 dX9_lastOff_12 rfl (x_st 16 dX9_lastOff_13 rfl (x_st 17 dX9_lastOff_16 rfl (x_br dX9_lastOff_17 (x_if (x_go 18 (x_st 19 dX9_lastOff_18 rfl (x_br dX9_lastOff_19 (x_if (x_go 22 (x_st 23 dX9_lastOff_22 rfl (x_ret dX9_lastOff_23 rfl))) (x_go 24 (x_st 25 dX9_lastOff_24 rfl (x_st 28 dX9_lastOff_25 rfl (x_st 29 dX9_lastOff_28 rfl (x_br dX9_lastOff_29 (x_if (x_go 30 (x_st 31 dX9_lastOff_30 rfl (x_br dX9_lastOff_31 (x_if (x_go 34 (x_st 35 dX9_lastOff_34 rfl (x_st 38 dX9_lastOff_35 rfl (x_st 39 dX9_lastOff_38 rfl (x_br dX9_lastOff_39 (x_if (x_go 40 (x_st 44 dX9_lastOff_40 rfl (rfl))) x_no)))))) (x_go 43 (x_st 44 dX9_lastOff_43 rfl (rfl))))))) x_no)))))))))) x_no)))))) (x_go 51 (x_st 52 dX9_lastOff_51 rfl (x_ret dX9_lastOff_52 rfl)))))))
theorem qX9_lastOff_44 (d : Nat) (z1 : PV) (x2 : Int) (y0 : Int) (s : Sg) : EV d mX9_lastOff (44, [vr 32 0, z1, vi x2], [vi y0], s) = EV d mX9_lastOff (4, [vr 32 0, vi y0, vi (w32 (x2 + 1))], [], s) := x_so 45 [vr 32 0, vi y0, vi x2] dX9_lastOff_44 rfl (x_so 48 [vr 32 0, vi y0, vi (w32 (x2 + 1))] dX9_lastOff_45 rfl (x_st 4 dX9_lastOff_48 rfl (rfl)))
theorem dX9_setOf_0 : decode cX9_setOf 0 = .ok (.iconst 0, 1) := by decide +kernel
theorem dX9_setOf_1 : decode cX9_setOf 1 = .ok (.istore_n 2, 1) := by decide +kernel
theorem dX9_setOf_2 : decode cX9_setOf 2 = .ok (.iconst 0, 1) := by decide +kernel
theorem dX9_setOf_3 : decode cX9_setOf 3 = .ok (.istore_n 3, 1) := by decide +kernel
theorem dX9_setOf_4 : decode cX9_setOf 4 = .ok (.iload_n 3, 1) := by decide +kernel
theorem dX9_setOf_5 : decode cX9_setOf 5 = .ok (.aload_n 0, 1) := by decide +kernel
theorem dX9_setOf_6 : decode cX9_setOf 6 = .ok (.getfield 82, 3) := by decide +kernel
theorem dX9_setOf_9 : decode cX9_setOf 9 = .ok (.if_icmp .ge 33, 3) := by decide +kernel
theorem dX9_setOf_12 : decode cX9_setOf 12 = .ok (.iload_n 2, 1) := by decide +kernel
theorem dX9_setOf_13 : decode cX9_setOf 13 = .ok (.aload_n 0, 1) := by decide +kernel
theorem dX9_setOf_14 : decode cX9_setOf 14 = .ok (.getfield 26, 3) := by decide +kernel
theorem dX9_setOf_17 : decode cX9_setOf 17 = .ok (.iconst 5, 1) := by decide +kernel
theorem dX9_setOf_18 : decode cX9_setOf 18 = .ok (.iload_n 3, 1) := by decide +kernel
theorem dX9_setOf_19 : decode cX9_setOf 19 = .ok (.imul, 1) := by decide +kernel
theorem dX9_setOf_20 : decode cX9_setOf 20 = .ok (.iconst 2, 1) := by decide +kernel
theorem dX9_setOf_21 : decode cX9_setOf 21 = .ok (.iadd, 1) := by decide +kernel
theorem dX9_setOf_22 : decode cX9_setOf 22 = .ok (.iaload, 1) := by decide +kernel
theorem dX9_setOf_23 : decode cX9_setOf 23 = .ok (.iload_n 1, 1) := by decide +kernel
theorem dX9_setOf_24 : decode cX9_setOf 24 = .ok (.if_icmp .ne 7, 3) := by decide +kernel
theorem dX9_setOf_27 : decode cX9_setOf 27 = .ok (.iconst 1, 1) := by decide +kernel
theorem dX9_setOf_28 : decode cX9_setOf 28 = .ok (.goto 4, 3) := by decide +kernel
theorem dX9_setOf_31 : decode cX9_setOf 31 = .ok (.iconst 0, 1) := by decide +kernel
theorem dX9_setOf_32 : decode cX9_setOf 32 = .ok (.iload_n 3, 1) := by decide +kernel
theorem dX9_setOf_33 : decode cX9_setOf 33 = .ok (.ishl, 1) := by decide +kernel
theorem dX9_setOf_34 : decode cX9_setOf 34 = .ok (.ior, 1) := by decide +kernel
theorem dX9_setOf_35 : decode cX9_setOf 35 = .ok (.istore_n 2, 1) := by decide +kernel
theorem dX9_setOf_36 : decode cX9_setOf 36 = .ok (.iinc 3 1, 3) := by decide +kernel
theorem dX9_setOf_39 : decode cX9_setOf 39 = .ok (.goto (-35), 3) := by decide +kernel
theorem dX9_setOf_42 : decode cX9_setOf 42 = .ok (.iload_n 2, 1) := by decide +kernel
theorem dX9_setOf_43 : decode cX9_setOf 43 = .ok (.ireturn, 1) := by decide +kernel
theorem qX9_setOf (d : Nat) (x1 : Int) (s : Sg) : RUN d mX9_setOf [vr 32 0, vi x1] s = EV d mX9_setOf (4, [vr 32 0, vi x1, vi 0, vi 0], [], s) := x_run rfl (x_st 1 dX9_setOf_0 rfl (x_so 2 [vr 32 0, vi x1, vi 0, UU] dX9_setOf_1 rfl (x_st 3 dX9_setOf_2 rfl (x_so 4 [vr 32 0, vi x1, vi 0, vi 0] dX9_setOf_3 rfl (rfl)))))
theorem qX9_setOf_4 (d : Nat) (x1 : Int) (x2 : Int) (x3 : Int) (s : Sg) : EV d mX9_setOf (4, [vr 32 0, vi x1, vi x2, vi x3], [], s) = if x3 < (s 32 0 9) then (if inb (w32 ((w32 (5 * x3)) + 2)) 30 then (if (s 37 0 (Int.toNat (w32 ((w32 (5 * x3)) + 2)))) = x1 then (EV d mX9_setOf (32, [vr 32 0, vi x1, vi x2, vi x3], [vi 1, vi x2], s)) else (EV d mX9_setOf (32, [vr 32 0, vi x1, vi x2, vi x3], [vi 0, vi x2], s))) else none) else (some (some (vi x2), s)) := x_st 5 dX9_setOf_4 rfl (x_st 6 dX9_setOf_5 rfl (x_st 9 dX9_setOf_6 rfl (x_br dX9_setOf_9 (x_if (x_go 12 (x_st 13 dX9_setOf_12 rfl (x_st 14 dX9_setOf_13 rfl (x_st 17 dX9_setOf_14 rfl (x_st 18 dX9_setOf_17 rfl (x_st 19 dX9_setOf_18 rfl (x_st 20 dX9_setOf_19 rfl (x_st 21 dX9_setOf_20 rfl (x_st 22 dX9_setOf_21 rfl (x_br dX9_setOf_22 (x_if (x_go 23 (x_st 24 dX9_setOf_23 rfl (x_br dX9_setOf_24 (x_if (x_go 27 (x_st 28 dX9_setOf_27 rfl (x_st 32 dX9_setOf_28 rfl (rfl)))) (x_go 31 (x_st 32 dX9_setOf_31 rfl (rfl))))))) x_no))))))))))) (x_go 42 (x_st 43 dX9_setOf_42 rfl (x_ret dX9_setOf_43 rfl)))))))
theorem qX9_setOf_32 (d : Nat) (x1 : Int) (z2 : PV) (x3 : Int) (y0 : Int) (y1 : Int) (s : Sg) : EV d mX9_setOf (32, [vr 32 0, vi x1, z2, vi x3], [vi y0, vi y1], s) = EV d mX9_setOf (4, [vr 32 0, vi x1, vi (wor y1 (wshl y0 x3)), vi (w32 (x3 + 1))], [], s) := x_st 33 dX9_setOf_32 rfl (x_st 34 dX9_setOf_33 rfl (x_st 35 dX9_setOf_34 rfl (x_so 36 [vr 32 0, vi x1, vi (wor y1 (wshl y0 x3)), vi x3] dX9_setOf_35 rfl (x_so 39 [vr 32 0, vi x1, vi (wor y1 (wshl y0 x3)), vi (w32 (x3 + 1))] dX9_setOf_36 rfl (x_st 4 dX9_setOf_39 rfl (rfl))))))
