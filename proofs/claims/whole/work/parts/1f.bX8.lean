theorem dX8_set_0 : decode cX8_set 0 = .ok (.iload_n 1, 1) := by decide +kernel
theorem dX8_set_1 : decode cX8_set 1 = .ok (.ifCond .lt 32, 3) := by decide +kernel
theorem dX8_set_4 : decode cX8_set 4 = .ok (.iload_n 1, 1) := by decide +kernel
theorem dX8_set_5 : decode cX8_set 5 = .ok (.iconst 4, 1) := by decide +kernel
theorem dX8_set_6 : decode cX8_set 6 = .ok (.if_icmp .gt 27, 3) := by decide +kernel
theorem dX8_set_9 : decode cX8_set 9 = .ok (.aload_n 0, 1) := by decide +kernel
theorem dX8_set_10 : decode cX8_set 10 = .ok (.getfield 10, 3) := by decide +kernel
theorem dX8_set_13 : decode cX8_set 13 = .ok (.iload_n 2, 1) := by decide +kernel
theorem dX8_set_14 : decode cX8_set 14 = .ok (.invokevirtual 77, 3) := by decide +kernel
theorem dX8_set_17 : decode cX8_set 17 = .ok (.ifCond .eq 16, 3) := by decide +kernel
theorem dX8_set_20 : decode cX8_set 20 = .ok (.iload_n 3, 1) := by decide +kernel
theorem dX8_set_21 : decode cX8_set 21 = .ok (.ifCond .lt 12, 3) := by decide +kernel
theorem dX8_set_24 : decode cX8_set 24 = .ok (.iload_n 3, 1) := by decide +kernel
theorem dX8_set_25 : decode cX8_set 25 = .ok (.getstatic 81, 3) := by decide +kernel
theorem dX8_set_28 : decode cX8_set 28 = .ok (.iload_n 1, 1) := by decide +kernel
theorem dX8_set_29 : decode cX8_set 29 = .ok (.iaload, 1) := by decide +kernel
theorem dX8_set_30 : decode cX8_set 30 = .ok (.if_icmp .le 6, 3) := by decide +kernel
theorem dX8_set_33 : decode cX8_set 33 = .ok (.bipush (-2), 2) := by decide +kernel
theorem dX8_set_35 : decode cX8_set 35 = .ok (.ireturn, 1) := by decide +kernel
theorem dX8_set_36 : decode cX8_set 36 = .ok (.aload_n 0, 1) := by decide +kernel
theorem dX8_set_37 : decode cX8_set 37 = .ok (.getfield 10, 3) := by decide +kernel
theorem dX8_set_40 : decode cX8_set 40 = .ok (.iload_n 1, 1) := by decide +kernel
theorem dX8_set_41 : decode cX8_set 41 = .ok (.iload_n 2, 1) := by decide +kernel
theorem dX8_set_42 : decode cX8_set 42 = .ok (.iload_n 3, 1) := by decide +kernel
theorem dX8_set_43 : decode cX8_set 43 = .ok (.invokevirtual 85, 3) := by decide +kernel
theorem dX8_set_46 : decode cX8_set 46 = .ok (.ireturn, 1) := by decide +kernel
theorem qX8_set (d : Nat) (x1 : Int) (x2 : Int) (x3 : Int) (s : Sg) : RUN (d + 1) mX8_set [vr 0 0, vi x1, vi x2, vi x3] s = if x1 < 0 then (some (some (vi (-2)), s)) else (if 4 < x1 then (some (some (vi (-2)), s)) else (bI (RUN d mX1_has [vr 1 0, vi x2] s) (fun r1 s1 => if r1 = 0 then (some (some (vi (-2)), s1)) else (if x3 < 0 then (some (some (vi (-2)), s1)) else (if inb x1 6 then (if (sv 52 (Int.toNat x1)) < x3 then (some (some (vi (-2)), s1)) else (bI (RUN d mX1_put [vr 1 0, vi x1, vi x2, vi x3] s1) (fun r2 s2 => some (some (vi r2), s2)))) else none))))) := x_run rfl (x_st 1 dX8_set_0 rfl (x_br dX8_set_1 (x_if (x_go 33 (x_st 35 dX8_set_33 rfl (x_ret dX8_set_35 rfl))) (x_go 4 (x_st 5 dX8_set_4 rfl (x_st 6 dX8_set_5 rfl (x_br dX8_set_6 (x_if (x_go 33 (x_st 35 dX8_set_33 rfl (x_ret dX8_set_35 rfl))) (x_go 9 (x_st 10 dX8_set_9 rfl (x_st 13 dX8_set_10 rfl (x_st 14 dX8_set_13 rfl (x_ci 17 [vr 0 0, vi x1, vi x2, vi x3] [] dX8_set_14 rfl (fun r1 s1 => x_br dX8_set_17 (x_if (x_go 33 (x_st 35 dX8_set_33 rfl (x_ret dX8_set_35 rfl))) (x_go 20 (x_st 21 dX8_set_20 rfl (x_br dX8_set_21 (x_if (x_go 33 (x_st 35 dX8_set_33 rfl (x_ret dX8_set_35 rfl))) (x_go 24 (x_st 25 dX8_set_24 rfl (x_st 28 dX8_set_25 rfl (x_st 29 dX8_set_28 rfl (x_br dX8_set_29 (x_if (x_go 30 (x_br dX8_set_30 (x_if (x_go 33 (x_st 35 dX8_set_33 rfl (x_ret dX8_set_35 rfl))) (x_go 36 (x_st 37 dX8_set_36 rfl (x_st 40 dX8_set_37 rfl (x_st 41 dX8_set_40 rfl (x_st 42 dX8_set_41 rfl (x_st 43 dX8_set_42 rfl (x_ci 46 [vr 0 0, vi x1, vi x2, vi x3] [] dX8_set_43 rfl (fun r2 s2 => x_ret dX8_set_46 rfl))))))))))) x_no)))))))))))))))))))))))))
theorem dX8_car_0 : decode cX8_car 0 = .ok (.aload_n 0, 1) := by decide +kernel
theorem dX8_car_1 : decode cX8_car 1 = .ok (.getfield 10, 3) := by decide +kernel
theorem dX8_car_4 : decode cX8_car 4 = .ok (.iload_n 1, 1) := by decide +kernel
theorem dX8_car_5 : decode cX8_car 5 = .ok (.iload_n 2, 1) := by decide +kernel
theorem dX8_car_6 : decode cX8_car 6 = .ok (.iload_n 3, 1) := by decide +kernel
theorem dX8_car_7 : decode cX8_car 7 = .ok (.invokevirtual 89, 3) := by decide +kernel
theorem dX8_car_10 : decode cX8_car 10 = .ok (.ireturn, 1) := by decide +kernel
theorem qX8_car (d : Nat) (x1 : Int) (x2 : Int) (x3 : Int) (s : Sg) : RUN (d + 1) mX8_car [vr 0 0, vi x1, vi x2, vi x3] s = bI (RUN d mX1_welcome [vr 1 0, vi x1, vi x2, vi x3] s) (fun r1 s1 => some (some (vi r1), s1)) := x_run rfl (x_st 1 dX8_car_0 rfl (x_st 4 dX8_car_1 rfl (x_st 5 dX8_car_4 rfl (x_st 6 dX8_car_5 rfl (x_st 7 dX8_car_6 rfl (x_ci 10 [vr 0 0, vi x1, vi x2, vi x3] [] dX8_car_7 rfl (fun r1 s1 => x_ret dX8_car_10 rfl)))))))
theorem dX8_told_0 : decode cX8_told 0 = .ok (.aload_n 0, 1) := by decide +kernel
theorem dX8_told_1 : decode cX8_told 1 = .ok (.getfield 10, 3) := by decide +kernel
theorem dX8_told_4 : decode cX8_told 4 = .ok (.iload_n 1, 1) := by decide +kernel
theorem dX8_told_5 : decode cX8_told 5 = .ok (.invokevirtual 77, 3) := by decide +kernel
theorem dX8_told_8 : decode cX8_told 8 = .ok (.ifCond .eq 13, 3) := by decide +kernel
theorem dX8_told_11 : decode cX8_told 11 = .ok (.iload_n 2, 1) := by decide +kernel
theorem dX8_told_12 : decode cX8_told 12 = .ok (.ifCond .lt 9, 3) := by decide +kernel
theorem dX8_told_15 : decode cX8_told 15 = .ok (.iload_n 2, 1) := by decide +kernel
theorem dX8_told_16 : decode cX8_told 16 = .ok (.bipush 10, 2) := by decide +kernel
theorem dX8_told_18 : decode cX8_told 18 = .ok (.if_icmp .le 6, 3) := by decide +kernel
theorem dX8_told_21 : decode cX8_told 21 = .ok (.bipush (-2), 2) := by decide +kernel
theorem dX8_told_23 : decode cX8_told 23 = .ok (.ireturn, 1) := by decide +kernel
theorem dX8_told_24 : decode cX8_told 24 = .ok (.aload_n 0, 1) := by decide +kernel
theorem dX8_told_25 : decode cX8_told 25 = .ok (.getfield 10, 3) := by decide +kernel
theorem dX8_told_28 : decode cX8_told 28 = .ok (.iconst 2, 1) := by decide +kernel
theorem dX8_told_29 : decode cX8_told 29 = .ok (.iload_n 1, 1) := by decide +kernel
theorem dX8_told_30 : decode cX8_told 30 = .ok (.invokevirtual 92, 3) := by decide +kernel
theorem dX8_told_33 : decode cX8_told 33 = .ok (.istore_n 3, 1) := by decide +kernel
theorem dX8_told_34 : decode cX8_told 34 = .ok (.aload_n 0, 1) := by decide +kernel
theorem dX8_told_35 : decode cX8_told 35 = .ok (.getfield 10, 3) := by decide +kernel
theorem dX8_told_38 : decode cX8_told 38 = .ok (.iconst 3, 1) := by decide +kernel
theorem dX8_told_39 : decode cX8_told 39 = .ok (.iload_n 1, 1) := by decide +kernel
theorem dX8_told_40 : decode cX8_told 40 = .ok (.invokevirtual 92, 3) := by decide +kernel
theorem dX8_told_43 : decode cX8_told 43 = .ok (.istore 4, 2) := by decide +kernel
theorem dX8_told_45 : decode cX8_told 45 = .ok (.iload_n 2, 1) := by decide +kernel
theorem dX8_told_46 : decode cX8_told 46 = .ok (.tableswitch 116 6 10 #[34, 52, 73, 93, 106], 34) := by decide +kernel
theorem dX8_told_80 : decode cX8_told 80 = .ok (.aload_n 0, 1) := by decide +kernel
theorem dX8_told_81 : decode cX8_told 81 = .ok (.getfield 37, 3) := by decide +kernel
theorem dX8_told_84 : decode cX8_told 84 = .ok (.iload_n 1, 1) := by decide +kernel
theorem dX8_told_85 : decode cX8_told 85 = .ok (.iload_n 3, 1) := by decide +kernel
theorem dX8_told_86 : decode cX8_told 86 = .ok (.invokevirtual 96, 3) := by decide +kernel
theorem dX8_told_89 : decode cX8_told 89 = .ok (.ifCond .eq 7, 3) := by decide +kernel
theorem dX8_told_92 : decode cX8_told 92 = .ok (.iconst 1, 1) := by decide +kernel
theorem dX8_told_93 : decode cX8_told 93 = .ok (.goto 4, 3) := by decide +kernel
theorem dX8_told_96 : decode cX8_told 96 = .ok (.iconst 0, 1) := by decide +kernel
theorem dX8_told_97 : decode cX8_told 97 = .ok (.ireturn, 1) := by decide +kernel
theorem dX8_told_98 : decode cX8_told 98 = .ok (.aload_n 0, 1) := by decide +kernel
theorem dX8_told_99 : decode cX8_told 99 = .ok (.getfield 10, 3) := by decide +kernel
theorem dX8_told_102 : decode cX8_told 102 = .ok (.iconst 5, 1) := by decide +kernel
theorem dX8_told_103 : decode cX8_told 103 = .ok (.iload_n 1, 1) := by decide +kernel
theorem dX8_told_104 : decode cX8_told 104 = .ok (.invokevirtual 92, 3) := by decide +kernel
theorem dX8_told_107 : decode cX8_told 107 = .ok (.invokestatic 100, 3) := by decide +kernel
theorem dX8_told_110 : decode cX8_told 110 = .ok (.ifCond .eq 7, 3) := by decide +kernel
theorem dX8_told_113 : decode cX8_told 113 = .ok (.iconst 1, 1) := by decide +kernel
theorem dX8_told_114 : decode cX8_told 114 = .ok (.goto 4, 3) := by decide +kernel
theorem dX8_told_117 : decode cX8_told 117 = .ok (.iconst 0, 1) := by decide +kernel
theorem dX8_told_118 : decode cX8_told 118 = .ok (.ireturn, 1) := by decide +kernel
theorem dX8_told_119 : decode cX8_told 119 = .ok (.aload_n 0, 1) := by decide +kernel
theorem dX8_told_120 : decode cX8_told 120 = .ok (.getfield 37, 3) := by decide +kernel
theorem dX8_told_123 : decode cX8_told 123 = .ok (.iload_n 1, 1) := by decide +kernel
theorem dX8_told_124 : decode cX8_told 124 = .ok (.iload_n 3, 1) := by decide +kernel
theorem dX8_told_125 : decode cX8_told 125 = .ok (.iload 4, 2) := by decide +kernel
theorem dX8_told_127 : decode cX8_told 127 = .ok (.invokevirtual 105, 3) := by decide +kernel
theorem dX8_told_130 : decode cX8_told 130 = .ok (.ifCond .eq 7, 3) := by decide +kernel
theorem dX8_told_133 : decode cX8_told 133 = .ok (.iconst 1, 1) := by decide +kernel
theorem dX8_told_134 : decode cX8_told 134 = .ok (.goto 4, 3) := by decide +kernel
theorem dX8_told_137 : decode cX8_told 137 = .ok (.iconst 0, 1) := by decide +kernel
theorem dX8_told_138 : decode cX8_told 138 = .ok (.ireturn, 1) := by decide +kernel
theorem dX8_told_139 : decode cX8_told 139 = .ok (.aload_n 0, 1) := by decide +kernel
theorem dX8_told_140 : decode cX8_told 140 = .ok (.getfield 37, 3) := by decide +kernel
theorem dX8_told_143 : decode cX8_told 143 = .ok (.iload_n 1, 1) := by decide +kernel
theorem dX8_told_144 : decode cX8_told 144 = .ok (.iload_n 3, 1) := by decide +kernel
theorem dX8_told_145 : decode cX8_told 145 = .ok (.iload 4, 2) := by decide +kernel
theorem dX8_told_147 : decode cX8_told 147 = .ok (.iconst 0, 1) := by decide +kernel
theorem dX8_told_148 : decode cX8_told 148 = .ok (.invokevirtual 109, 3) := by decide +kernel
theorem dX8_told_151 : decode cX8_told 151 = .ok (.ireturn, 1) := by decide +kernel
theorem dX8_told_152 : decode cX8_told 152 = .ok (.aload_n 0, 1) := by decide +kernel
theorem dX8_told_153 : decode cX8_told 153 = .ok (.getfield 37, 3) := by decide +kernel
theorem dX8_told_156 : decode cX8_told 156 = .ok (.iload_n 1, 1) := by decide +kernel
theorem dX8_told_157 : decode cX8_told 157 = .ok (.iload_n 3, 1) := by decide +kernel
theorem dX8_told_158 : decode cX8_told 158 = .ok (.invokevirtual 113, 3) := by decide +kernel
theorem dX8_told_161 : decode cX8_told 161 = .ok (.ireturn, 1) := by decide +kernel
theorem dX8_told_162 : decode cX8_told 162 = .ok (.aload_n 0, 1) := by decide +kernel
theorem dX8_told_163 : decode cX8_told 163 = .ok (.getfield 10, 3) := by decide +kernel
theorem dX8_told_166 : decode cX8_told 166 = .ok (.iload_n 2, 1) := by decide +kernel
theorem dX8_told_167 : decode cX8_told 167 = .ok (.iload_n 1, 1) := by decide +kernel
theorem dX8_told_168 : decode cX8_told 168 = .ok (.invokevirtual 92, 3) := by decide +kernel
theorem dX8_told_171 : decode cX8_told 171 = .ok (.ireturn, 1) := by decide +kernel
theorem qX8_told (d : Nat) (x1 : Int) (x2 : Int) (s : Sg) : RUN (d + 1) mX8_told [vr 0 0, vi x1, vi x2] s = bI (RUN d mX1_has [vr 1 0, vi x1] s) (fun r1 s1 => if r1 = 0 then (some (some (vi (-2)), s1)) else (if x2 < 0 then (some (some (vi (-2)), s1)) else (if 10 < x2 then (some (some (vi (-2)), s1)) else (bI (RUN d mX1_tell [vr 1 0, vi 2, vi x1] s1) (fun r2 s2 => bI (RUN d mX1_tell [vr 1 0, vi 3, vi x1] s2) (fun r3 s3 => if x2 = 6 then (bI (RUN d mX7_fits [vr 13 0, vi x1, vi r2] s3) (fun r4 s4 => if r4 = 0 then (some (some (vi 0), s4)) else (some (some (vi 1), s4)))) else if x2 = 7 then (bI (RUN d mX1_tell [vr 1 0, vi 5, vi x1] s3) (fun r5 s5 => bI (RUN d mX3_isLong [vi r5] s5) (fun r6 s6 => if r6 = 0 then (some (some (vi 0), s6)) else (some (some (vi 1), s6))))) else if x2 = 8 then (bI (RUN d mX7_drawsForward [vr 13 0, vi x1, vi r2, vi r3] s3) (fun r7 s7 => if r7 = 0 then (some (some (vi 0), s7)) else (some (some (vi 1), s7)))) else if x2 = 9 then (bI (RUN d mX7_takes [vr 13 0, vi x1, vi r2, vi r3, vi 0] s3) (fun r8 s8 => some (some (vi r8), s8))) else if x2 = 10 then (bI (RUN d mX7_minds [vr 13 0, vi x1, vi r2] s3) (fun r9 s9 => some (some (vi r9), s9))) else (bI (RUN d mX1_tell [vr 1 0, vi x2, vi x1] s3) (fun r10 s10 => some (some (vi r10), s10))))))))) := x_run rfl (x_st 1 dX8_told_0 rfl (x_st 4 dX8_told_1 rfl (x_st 5 dX8_told_4 rfl (x_ci 8 [vr 0 0, vi x1, vi x2, UU, UU] [] dX8_told_5 rfl (fun r1 s1 => x_br dX8_told_8 (x_if (x_go 21 (x_st 23 dX8_told_21 rfl (x_ret dX8_told_23 rfl))) (x_go 11 (x_st 12 dX8_told_11 rfl (x_br dX8_told_12 (x_if (x_go 21 (x_st 23 dX8_told_21 rfl (x_ret dX8_told_23 rfl))) (x_go 15 (x_st 16 dX8_told_15 rfl (x_st 18 dX8_told_16 rfl (x_br dX8_told_18 (x_if (x_go 21 (x_st 23 dX8_told_21 rfl (x_ret dX8_told_23 rfl))) (x_go 24 (x_st 25 dX8_told_24 rfl (x_st 28 dX8_told_25 rfl (x_st 29 dX8_told_28 rfl (x_st 30 dX8_told_29 rfl (x_ci 33 [vr 0 0, vi x1, vi x2, UU, UU] [] dX8_told_30 rfl (fun r2 s2 => x_so 34 [vr 0 0, vi x1, vi x2, vi r2, UU] dX8_told_33 rfl (x_st 35 dX8_told_34 rfl (x_st 38 dX8_told_35 rfl (x_st 39 dX8_told_38 rfl (x_st 40 dX8_told_39 rfl (x_ci 43 [vr 0 0, vi x1, vi x2, vi r2, UU] [] dX8_told_40 rfl (fun r3 s3 => x_so 45 [vr 0 0, vi x1, vi x2, vi r2, vi r3] dX8_told_43 rfl (x_st 46 dX8_told_45 rfl (x_br dX8_told_46 (x_if (x_go 80 (x_st 81 dX8_told_80 rfl (x_st 84 dX8_told_81 rfl (x_st 85 dX8_told_84 rfl (x_st 86 dX8_told_85 rfl (x_ci 89 [vr 0 0, vi x1, vi x2, vi r2, vi r3] [] dX8_told_86 rfl (fun r4 s4 => x_br dX8_told_89 (x_if (x_go 96 (x_st 97 dX8_told_96 rfl (x_ret dX8_told_97 rfl))) (x_go 92 (x_st 93 dX8_told_92 rfl (x_st 97 dX8_told_93 rfl (x_ret dX8_told_97 rfl)))))))))))) (x_if (x_go 98 (x_st 99 dX8_told_98 rfl (x_st 102 dX8_told_99 rfl (x_st 103 dX8_told_102 rfl (x_st 104 dX8_told_103 rfl (x_ci 107 [vr 0 0, vi x1, vi x2, vi r2, vi r3] [] dX8_told_104 rfl (fun r5 s5 => x_ci 110 [vr 0 0, vi x1, vi x2, vi r2, vi r3] [] dX8_told_107 rfl (fun r6 s6 => x_br dX8_told_110 (x_if (x_go 117 (x_st 118 dX8_told_117 rfl (x_ret dX8_told_118 rfl))) (x_go 113 (x_st 114 dX8_told_113 rfl (x_st 118 dX8_told_114 rfl (x_ret dX8_told_118 rfl))))))))))))) (x_if (x_go 119 (x_st 120 dX8_told_119 rfl (x_st 123 dX8_told_120 rfl (x_st 124 dX8_told_123 rfl (x_st 125 dX8_told_124 rfl (x_st 127 dX8_told_125 rfl (x_ci 130 [vr 0 0, vi x1, vi x2, vi r2, vi r3] [] dX8_told_127 rfl (fun r7 s7 => x_br dX8_told_130 (x_if (x_go 137 (x_st 138 dX8_told_137 rfl (x_ret dX8_told_138 rfl))) (x_go 133 (x_st 134 dX8_told_133 rfl (x_st 138 dX8_told_134 rfl (x_ret dX8_told_138 rfl))))))))))))) (x_if (x_go 139 (x_st 140 dX8_told_139 rfl (x_st 143 dX8_told_140 rfl (x_st 144 dX8_told_143 rfl (x_st 145 dX8_told_144 rfl (x_st 147 dX8_told_145 rfl (x_st 148 dX8_told_147 rfl (x_ci 151 [vr 0 0, vi x1, vi x2, vi r2, vi r3] [] dX8_told_148 rfl (fun r8 s8 => x_ret dX8_told_151 rfl))))))))) (x_if (x_go 152 (x_st 153 dX8_told_152 rfl (x_st 156 dX8_told_153 rfl (x_st 157 dX8_told_156 rfl (x_st 158 dX8_told_157 rfl (x_ci 161 [vr 0 0, vi x1, vi x2, vi r2, vi r3] [] dX8_told_158 rfl (fun r9 s9 => x_ret dX8_told_161 rfl))))))) (x_go 162 (x_st 163 dX8_told_162 rfl (x_st 166 dX8_told_163 rfl (x_st 167 dX8_told_166 rfl (x_st 168 dX8_told_167 rfl (x_ci 171 [vr 0 0, vi x1, vi x2, vi r2, vi r3] [] dX8_told_168 rfl (fun r10 s10 => x_ret dX8_told_171 rfl))))))))))))))))))))))))))))))))))))))))))
theorem dX8_feed_0 : decode cX8_feed 0 = .ok (.iload_n 1, 1) := by decide +kernel
theorem dX8_feed_1 : decode cX8_feed 1 = .ok (.ifCond .lt 10, 3) := by decide +kernel
theorem dX8_feed_4 : decode cX8_feed 4 = .ok (.iload_n 1, 1) := by decide +kernel
theorem dX8_feed_5 : decode cX8_feed 5 = .ok (.sipush 255, 3) := by decide +kernel
theorem dX8_feed_8 : decode cX8_feed 8 = .ok (.if_icmp .le 6, 3) := by decide +kernel
theorem dX8_feed_11 : decode cX8_feed 11 = .ok (.bipush (-2), 2) := by decide +kernel
theorem dX8_feed_13 : decode cX8_feed 13 = .ok (.ireturn, 1) := by decide +kernel
theorem dX8_feed_14 : decode cX8_feed 14 = .ok (.aload_n 0, 1) := by decide +kernel
theorem dX8_feed_15 : decode cX8_feed 15 = .ok (.getfield 28, 3) := by decide +kernel
theorem dX8_feed_18 : decode cX8_feed 18 = .ok (.iload_n 1, 1) := by decide +kernel
theorem dX8_feed_19 : decode cX8_feed 19 = .ok (.invokevirtual 116, 3) := by decide +kernel
theorem dX8_feed_22 : decode cX8_feed 22 = .ok (.ifCond .eq 13, 3) := by decide +kernel
theorem dX8_feed_25 : decode cX8_feed 25 = .ok (.aload_n 0, 1) := by decide +kernel
theorem dX8_feed_26 : decode cX8_feed 26 = .ok (.getfield 28, 3) := by decide +kernel
theorem dX8_feed_29 : decode cX8_feed 29 = .ok (.invokevirtual 119, 3) := by decide +kernel
theorem dX8_feed_32 : decode cX8_feed 32 = .ok (.goto 5, 3) := by decide +kernel
theorem dX8_feed_35 : decode cX8_feed 35 = .ok (.bipush (-4), 2) := by decide +kernel
theorem dX8_feed_37 : decode cX8_feed 37 = .ok (.ireturn, 1) := by decide +kernel
theorem qX8_feed (d : Nat) (x1 : Int) (s : Sg) : RUN (d + 1) mX8_feed [vr 0 0, vi x1] s = if x1 < 0 then (some (some (vi (-2)), s)) else (if 255 < x1 then (some (some (vi (-2)), s)) else (bI (RUN d mX4_add [vr 11 0, vi x1] s) (fun r1 s1 => if r1 = 0 then (some (some (vi (-4)), s1)) else (bI (RUN d mX4_size [vr 11 0] s1) (fun r2 s2 => some (some (vi r2), s2)))))) := x_run rfl (x_st 1 dX8_feed_0 rfl (x_br dX8_feed_1 (x_if (x_go 11 (x_st 13 dX8_feed_11 rfl (x_ret dX8_feed_13 rfl))) (x_go 4 (x_st 5 dX8_feed_4 rfl (x_st 8 dX8_feed_5 rfl (x_br dX8_feed_8 (x_if (x_go 11 (x_st 13 dX8_feed_11 rfl (x_ret dX8_feed_13 rfl))) (x_go 14 (x_st 15 dX8_feed_14 rfl (x_st 18 dX8_feed_15 rfl (x_st 19 dX8_feed_18 rfl (x_ci 22 [vr 0 0, vi x1] [] dX8_feed_19 rfl (fun r1 s1 => x_br dX8_feed_22 (x_if (x_go 35 (x_st 37 dX8_feed_35 rfl (x_ret dX8_feed_37 rfl))) (x_go 25 (x_st 26 dX8_feed_25 rfl (x_st 29 dX8_feed_26 rfl (x_ci 32 [vr 0 0, vi x1] [] dX8_feed_29 rfl (fun r2 s2 => x_st 37 dX8_feed_32 rfl (x_ret dX8_feed_37 rfl)))))))))))))))))))))
theorem dX8_text_0 : decode cX8_text 0 = .ok (.aload_n 0, 1) := by decide +kernel
theorem dX8_text_1 : decode cX8_text 1 = .ok (.getfield 19, 3) := by decide +kernel
theorem dX8_text_4 : decode cX8_text 4 = .ok (.invokevirtual 122, 3) := by decide +kernel
theorem dX8_text_7 : decode cX8_text 7 = .ok (.ifCond .eq 6, 3) := by decide +kernel
theorem dX8_text_10 : decode cX8_text 10 = .ok (.bipush (-4), 2) := by decide +kernel
theorem dX8_text_12 : decode cX8_text 12 = .ok (.ireturn, 1) := by decide +kernel
theorem dX8_text_13 : decode cX8_text 13 = .ok (.aload_n 0, 1) := by decide +kernel
theorem dX8_text_14 : decode cX8_text 14 = .ok (.getfield 28, 3) := by decide +kernel
theorem dX8_text_17 : decode cX8_text 17 = .ok (.invokevirtual 70, 3) := by decide +kernel
theorem dX8_text_20 : decode cX8_text 20 = .ok (.istore_n 1, 1) := by decide +kernel
theorem dX8_text_21 : decode cX8_text 21 = .ok (.aload_n 0, 1) := by decide +kernel
theorem dX8_text_22 : decode cX8_text 22 = .ok (.getfield 28, 3) := by decide +kernel
theorem dX8_text_25 : decode cX8_text 25 = .ok (.invokevirtual 74, 3) := by decide +kernel
theorem dX8_text_28 : decode cX8_text 28 = .ok (.iload_n 1, 1) := by decide +kernel
theorem dX8_text_29 : decode cX8_text 29 = .ok (.iconst (-1), 1) := by decide +kernel
theorem dX8_text_30 : decode cX8_text 30 = .ok (.if_icmp .ne 15, 3) := by decide +kernel
theorem dX8_text_33 : decode cX8_text 33 = .ok (.aload_n 0, 1) := by decide +kernel
theorem dX8_text_34 : decode cX8_text 34 = .ok (.getfield 19, 3) := by decide +kernel
theorem dX8_text_37 : decode cX8_text 37 = .ok (.invokevirtual 126, 3) := by decide +kernel
theorem dX8_text_40 : decode cX8_text 40 = .ok (.iconst 1, 1) := by decide +kernel
theorem dX8_text_41 : decode cX8_text 41 = .ok (.isub, 1) := by decide +kernel
theorem dX8_text_42 : decode cX8_text 42 = .ok (.goto 7, 3) := by decide +kernel
theorem dX8_text_45 : decode cX8_text 45 = .ok (.bipush (-100), 2) := by decide +kernel
theorem dX8_text_47 : decode cX8_text 47 = .ok (.iload_n 1, 1) := by decide +kernel
theorem dX8_text_48 : decode cX8_text 48 = .ok (.isub, 1) := by decide +kernel
theorem dX8_text_49 : decode cX8_text 49 = .ok (.ireturn, 1) := by decide +kernel
theorem qX8_text (d : Nat) (s : Sg) : RUN (d + 1) mX8_text [vr 0 0] s = bI (RUN d mX5_isFull [vr 4 0] s) (fun r1 s1 => if r1 = 0 then (bI (RUN d mX4_readText [vr 11 0] s1) (fun r2 s2 => bV (RUN d mX4_empty [vr 11 0] s2) (fun s3 => if r2 = (-1) then (bI (RUN d mX5_size [vr 4 0] s3) (fun r4 s4 => some (some (vi (w32 (r4 - 1))), s4))) else (some (some (vi (w32 ((-100) - r2))), s3))))) else (some (some (vi (-4)), s1))) := x_run rfl (x_st 1 dX8_text_0 rfl (x_st 4 dX8_text_1 rfl (x_ci 7 [vr 0 0, UU] [] dX8_text_4 rfl (fun r1 s1 => x_br dX8_text_7 (x_if (x_go 13 (x_st 14 dX8_text_13 rfl (x_st 17 dX8_text_14 rfl (x_ci 20 [vr 0 0, UU] [] dX8_text_17 rfl (fun r2 s2 => x_so 21 [vr 0 0, vi r2] dX8_text_20 rfl (x_st 22 dX8_text_21 rfl (x_st 25 dX8_text_22 rfl (x_cv 28 [vr 0 0, vi r2] [] dX8_text_25 rfl (fun s3 => x_st 29 dX8_text_28 rfl (x_st 30 dX8_text_29 rfl (x_br dX8_text_30 (x_if (x_go 33 (x_st 34 dX8_text_33 rfl (x_st 37 dX8_text_34 rfl (x_ci 40 [vr 0 0, vi r2] [] dX8_text_37 rfl (fun r4 s4 => x_st 41 dX8_text_40 rfl (x_st 42 dX8_text_41 rfl (x_st 49 dX8_text_42 rfl (x_ret dX8_text_49 rfl)))))))) (x_go 45 (x_st 47 dX8_text_45 rfl (x_st 48 dX8_text_47 rfl (x_st 49 dX8_text_48 rfl (x_ret dX8_text_49 rfl))))))))))))))))) (x_go 10 (x_st 12 dX8_text_10 rfl (x_ret dX8_text_12 rfl))))))))
theorem dX8_force_0 : decode cX8_force 0 = .ok (.aload_n 0, 1) := by decide +kernel
theorem dX8_force_1 : decode cX8_force 1 = .ok (.getfield 19, 3) := by decide +kernel
theorem dX8_force_4 : decode cX8_force 4 = .ok (.iload_n 1, 1) := by decide +kernel
theorem dX8_force_5 : decode cX8_force 5 = .ok (.invokevirtual 127, 3) := by decide +kernel
theorem dX8_force_8 : decode cX8_force 8 = .ok (.ifCond .eq 14, 3) := by decide +kernel
theorem dX8_force_11 : decode cX8_force 11 = .ok (.aload_n 0, 1) := by decide +kernel
theorem dX8_force_12 : decode cX8_force 12 = .ok (.getfield 19, 3) := by decide +kernel
theorem dX8_force_15 : decode cX8_force 15 = .ok (.iload_n 1, 1) := by decide +kernel
theorem dX8_force_16 : decode cX8_force 16 = .ok (.invokevirtual 128, 3) := by decide +kernel
theorem dX8_force_19 : decode cX8_force 19 = .ok (.goto 5, 3) := by decide +kernel
theorem dX8_force_22 : decode cX8_force 22 = .ok (.bipush (-2), 2) := by decide +kernel
theorem dX8_force_24 : decode cX8_force 24 = .ok (.ireturn, 1) := by decide +kernel
theorem qX8_force (d : Nat) (x1 : Int) (s : Sg) : RUN (d + 1) mX8_force [vr 0 0, vi x1] s = bI (RUN d mX5_has [vr 4 0, vi x1] s) (fun r1 s1 => if r1 = 0 then (some (some (vi (-2)), s1)) else (bI (RUN d mX5_choose [vr 4 0, vi x1] s1) (fun r2 s2 => some (some (vi r2), s2)))) := x_run rfl (x_st 1 dX8_force_0 rfl (x_st 4 dX8_force_1 rfl (x_st 5 dX8_force_4 rfl (x_ci 8 [vr 0 0, vi x1] [] dX8_force_5 rfl (fun r1 s1 => x_br dX8_force_8 (x_if (x_go 22 (x_st 24 dX8_force_22 rfl (x_ret dX8_force_24 rfl))) (x_go 11 (x_st 12 dX8_force_11 rfl (x_st 15 dX8_force_12 rfl (x_st 16 dX8_force_15 rfl (x_ci 19 [vr 0 0, vi x1] [] dX8_force_16 rfl (fun r2 s2 => x_st 24 dX8_force_19 rfl (x_ret dX8_force_24 rfl)))))))))))))
theorem dX8_times_0 : decode cX8_times 0 = .ok (.aload_n 0, 1) := by decide +kernel
theorem dX8_times_1 : decode cX8_times 1 = .ok (.getfield 10, 3) := by decide +kernel
theorem dX8_times_4 : decode cX8_times 4 = .ok (.iload_n 1, 1) := by decide +kernel
theorem dX8_times_5 : decode cX8_times 5 = .ok (.invokevirtual 77, 3) := by decide +kernel
theorem dX8_times_8 : decode cX8_times 8 = .ok (.ifCond .eq 12, 3) := by decide +kernel
theorem dX8_times_11 : decode cX8_times 11 = .ok (.iload_n 2, 1) := by decide +kernel
theorem dX8_times_12 : decode cX8_times 12 = .ok (.ifCond .lt 8, 3) := by decide +kernel
theorem dX8_times_15 : decode cX8_times 15 = .ok (.iload_n 2, 1) := by decide +kernel
theorem dX8_times_16 : decode cX8_times 16 = .ok (.iconst 3, 1) := by decide +kernel
theorem dX8_times_17 : decode cX8_times 17 = .ok (.if_icmp .le 6, 3) := by decide +kernel
theorem dX8_times_20 : decode cX8_times 20 = .ok (.bipush (-2), 2) := by decide +kernel
theorem dX8_times_22 : decode cX8_times 22 = .ok (.ireturn, 1) := by decide +kernel
theorem dX8_times_23 : decode cX8_times 23 = .ok (.aload_n 0, 1) := by decide +kernel
theorem dX8_times_24 : decode cX8_times 24 = .ok (.getfield 37, 3) := by decide +kernel
theorem dX8_times_27 : decode cX8_times 27 = .ok (.invokevirtual 132, 3) := by decide +kernel
theorem dX8_times_30 : decode cX8_times 30 = .ok (.aload_n 0, 1) := by decide +kernel
theorem dX8_times_31 : decode cX8_times 31 = .ok (.getfield 37, 3) := by decide +kernel
theorem dX8_times_34 : decode cX8_times 34 = .ok (.invokevirtual 135, 3) := by decide +kernel
theorem dX8_times_37 : decode cX8_times 37 = .ok (.pop, 1) := by decide +kernel
theorem dX8_times_38 : decode cX8_times 38 = .ok (.iload_n 2, 1) := by decide +kernel
theorem dX8_times_39 : decode cX8_times 39 = .ok (.tableswitch 52 0 2 #[25, 34, 43], 25) := by decide +kernel
theorem dX8_times_64 : decode cX8_times 64 = .ok (.aload_n 0, 1) := by decide +kernel
theorem dX8_times_65 : decode cX8_times 65 = .ok (.getfield 37, 3) := by decide +kernel
theorem dX8_times_68 : decode cX8_times 68 = .ok (.iload_n 1, 1) := by decide +kernel
theorem dX8_times_69 : decode cX8_times 69 = .ok (.invokevirtual 138, 3) := by decide +kernel
theorem dX8_times_72 : decode cX8_times 72 = .ok (.ireturn, 1) := by decide +kernel
theorem dX8_times_73 : decode cX8_times 73 = .ok (.aload_n 0, 1) := by decide +kernel
theorem dX8_times_74 : decode cX8_times 74 = .ok (.getfield 37, 3) := by decide +kernel
theorem dX8_times_77 : decode cX8_times 77 = .ok (.iload_n 1, 1) := by decide +kernel
theorem dX8_times_78 : decode cX8_times 78 = .ok (.invokevirtual 141, 3) := by decide +kernel
theorem dX8_times_81 : decode cX8_times 81 = .ok (.ireturn, 1) := by decide +kernel
theorem dX8_times_82 : decode cX8_times 82 = .ok (.aload_n 0, 1) := by decide +kernel
theorem dX8_times_83 : decode cX8_times 83 = .ok (.getfield 37, 3) := by decide +kernel
theorem dX8_times_86 : decode cX8_times 86 = .ok (.iload_n 1, 1) := by decide +kernel
theorem dX8_times_87 : decode cX8_times 87 = .ok (.invokevirtual 144, 3) := by decide +kernel
theorem dX8_times_90 : decode cX8_times 90 = .ok (.ireturn, 1) := by decide +kernel
theorem dX8_times_91 : decode cX8_times 91 = .ok (.aload_n 0, 1) := by decide +kernel
theorem dX8_times_92 : decode cX8_times 92 = .ok (.getfield 37, 3) := by decide +kernel
theorem dX8_times_95 : decode cX8_times 95 = .ok (.iload_n 1, 1) := by decide +kernel
theorem dX8_times_96 : decode cX8_times 96 = .ok (.invokevirtual 147, 3) := by decide +kernel
theorem dX8_times_99 : decode cX8_times 99 = .ok (.ireturn, 1) := by decide +kernel
theorem qX8_times (d : Nat) (x1 : Int) (x2 : Int) (s : Sg) : RUN (d + 1) mX8_times [vr 0 0, vi x1, vi x2] s = bI (RUN d mX1_has [vr 1 0, vi x1] s) (fun r1 s1 => if r1 = 0 then (some (some (vi (-2)), s1)) else (if x2 < 0 then (some (some (vi (-2)), s1)) else (if 3 < x2 then (some (some (vi (-2)), s1)) else (bV (RUN d mX7_spread [vr 13 0] s1) (fun s2 => bI (RUN d mX7_playAll [vr 13 0] s2) (fun r3 s3 => if x2 = 0 then (bI (RUN d mX7_starts [vr 13 0, vi x1] s3) (fun r4 s4 => some (some (vi r4), s4))) else if x2 = 1 then (bI (RUN d mX7_off [vr 13 0, vi x1] s3) (fun r5 s5 => some (some (vi r5), s5))) else if x2 = 2 then (bI (RUN d mX7_waited [vr 13 0, vi x1] s3) (fun r6 s6 => some (some (vi r6), s6))) else (bI (RUN d mX7_place [vr 13 0, vi x1] s3) (fun r7 s7 => some (some (vi r7), s7))))))))) := x_run rfl (x_st 1 dX8_times_0 rfl (x_st 4 dX8_times_1 rfl (x_st 5 dX8_times_4 rfl (x_ci 8 [vr 0 0, vi x1, vi x2] [] dX8_times_5 rfl (fun r1 s1 => x_br dX8_times_8 (x_if (x_go 20 (x_st 22 dX8_times_20 rfl (x_ret dX8_times_22 rfl))) (x_go 11 (x_st 12 dX8_times_11 rfl (x_br dX8_times_12 (x_if (x_go 20 (x_st 22 dX8_times_20 rfl (x_ret dX8_times_22 rfl))) (x_go 15 (x_st 16 dX8_times_15 rfl (x_st 17 dX8_times_16 rfl (x_br dX8_times_17 (x_if (x_go 20 (x_st 22 dX8_times_20 rfl (x_ret dX8_times_22 rfl))) (x_go 23 (x_st 24 dX8_times_23 rfl (x_st 27 dX8_times_24 rfl (x_cv 30 [vr 0 0, vi x1, vi x2] [] dX8_times_27 rfl (fun s2 => x_st 31 dX8_times_30 rfl (x_st 34 dX8_times_31 rfl (x_ci 37 [vr 0 0, vi x1, vi x2] [] dX8_times_34 rfl (fun r3 s3 => x_st 38 dX8_times_37 rfl (x_st 39 dX8_times_38 rfl (x_br dX8_times_39 (x_if (x_go 64 (x_st 65 dX8_times_64 rfl (x_st 68 dX8_times_65 rfl (x_st 69 dX8_times_68 rfl (x_ci 72 [vr 0 0, vi x1, vi x2] [] dX8_times_69 rfl (fun r4 s4 => x_ret dX8_times_72 rfl)))))) (x_if (x_go 73 (x_st 74 dX8_times_73 rfl (x_st 77 dX8_times_74 rfl (x_st 78 dX8_times_77 rfl (x_ci 81 [vr 0 0, vi x1, vi x2] [] dX8_times_78 rfl (fun r5 s5 => x_ret dX8_times_81 rfl)))))) (x_if (x_go 82 (x_st 83 dX8_times_82 rfl (x_st 86 dX8_times_83 rfl (x_st 87 dX8_times_86 rfl (x_ci 90 [vr 0 0, vi x1, vi x2] [] dX8_times_87 rfl (fun r6 s6 => x_ret dX8_times_90 rfl)))))) (x_go 91 (x_st 92 dX8_times_91 rfl (x_st 95 dX8_times_92 rfl (x_st 96 dX8_times_95 rfl (x_ci 99 [vr 0 0, vi x1, vi x2] [] dX8_times_96 rfl (fun r7 s7 => x_ret dX8_times_99 rfl))))))))))))))))))))))))))))))))))
theorem dX8_pump_0 : decode cX8_pump 0 = .ok (.iload_n 1, 1) := by decide +kernel
theorem dX8_pump_1 : decode cX8_pump 1 = .ok (.ifCond .lt 28, 3) := by decide +kernel
theorem dX8_pump_4 : decode cX8_pump 4 = .ok (.iload_n 1, 1) := by decide +kernel
theorem dX8_pump_5 : decode cX8_pump 5 = .ok (.iconst 4, 1) := by decide +kernel
theorem dX8_pump_6 : decode cX8_pump 6 = .ok (.if_icmp .ge 23, 3) := by decide +kernel
theorem dX8_pump_9 : decode cX8_pump 9 = .ok (.iload_n 2, 1) := by decide +kernel
theorem dX8_pump_10 : decode cX8_pump 10 = .ok (.ifCond .lt 19, 3) := by decide +kernel
theorem dX8_pump_13 : decode cX8_pump 13 = .ok (.iload_n 2, 1) := by decide +kernel
theorem dX8_pump_14 : decode cX8_pump 14 = .ok (.sipush 200, 3) := by decide +kernel
theorem dX8_pump_17 : decode cX8_pump 17 = .ok (.if_icmp .ge 12, 3) := by decide +kernel
theorem dX8_pump_20 : decode cX8_pump 20 = .ok (.iload_n 3, 1) := by decide +kernel
theorem dX8_pump_21 : decode cX8_pump 21 = .ok (.ifCond .lt 8, 3) := by decide +kernel
theorem dX8_pump_24 : decode cX8_pump 24 = .ok (.iload_n 3, 1) := by decide +kernel
theorem dX8_pump_25 : decode cX8_pump 25 = .ok (.iconst 1, 1) := by decide +kernel
theorem dX8_pump_26 : decode cX8_pump 26 = .ok (.if_icmp .le 6, 3) := by decide +kernel
theorem dX8_pump_29 : decode cX8_pump 29 = .ok (.bipush (-2), 2) := by decide +kernel
theorem dX8_pump_31 : decode cX8_pump 31 = .ok (.ireturn, 1) := by decide +kernel
theorem dX8_pump_32 : decode cX8_pump 32 = .ok (.aload_n 0, 1) := by decide +kernel
theorem dX8_pump_33 : decode cX8_pump 33 = .ok (.getfield 37, 3) := by decide +kernel
theorem dX8_pump_36 : decode cX8_pump 36 = .ok (.invokevirtual 132, 3) := by decide +kernel
theorem dX8_pump_39 : decode cX8_pump 39 = .ok (.aload_n 0, 1) := by decide +kernel
theorem dX8_pump_40 : decode cX8_pump 40 = .ok (.getfield 37, 3) := by decide +kernel
theorem dX8_pump_43 : decode cX8_pump 43 = .ok (.invokevirtual 135, 3) := by decide +kernel
theorem dX8_pump_46 : decode cX8_pump 46 = .ok (.pop, 1) := by decide +kernel
theorem dX8_pump_47 : decode cX8_pump 47 = .ok (.aload_n 0, 1) := by decide +kernel
theorem dX8_pump_48 : decode cX8_pump 48 = .ok (.getfield 37, 3) := by decide +kernel
theorem dX8_pump_51 : decode cX8_pump 51 = .ok (.iload_n 1, 1) := by decide +kernel
theorem dX8_pump_52 : decode cX8_pump 52 = .ok (.iload_n 2, 1) := by decide +kernel
theorem dX8_pump_53 : decode cX8_pump 53 = .ok (.iload_n 3, 1) := by decide +kernel
theorem dX8_pump_54 : decode cX8_pump 54 = .ok (.invokevirtual 150, 3) := by decide +kernel
theorem dX8_pump_57 : decode cX8_pump 57 = .ok (.ireturn, 1) := by decide +kernel
theorem qX8_pump (d : Nat) (x1 : Int) (x2 : Int) (x3 : Int) (s : Sg) : RUN (d + 1) mX8_pump [vr 0 0, vi x1, vi x2, vi x3] s = if x1 < 0 then (some (some (vi (-2)), s)) else (if x1 < 4 then (if x2 < 0 then (some (some (vi (-2)), s)) else (if x2 < 200 then (if x3 < 0 then (some (some (vi (-2)), s)) else (if 1 < x3 then (some (some (vi (-2)), s)) else (bV (RUN d mX7_spread [vr 13 0] s) (fun s1 => bI (RUN d mX7_playAll [vr 13 0] s1) (fun r2 s2 => bI (RUN d mX7_whoIsAt [vr 13 0, vi x1, vi x2, vi x3] s2) (fun r3 s3 => some (some (vi r3), s3))))))) else (some (some (vi (-2)), s)))) else (some (some (vi (-2)), s))) := x_run rfl (x_st 1 dX8_pump_0 rfl (x_br dX8_pump_1 (x_if (x_go 29 (x_st 31 dX8_pump_29 rfl (x_ret dX8_pump_31 rfl))) (x_go 4 (x_st 5 dX8_pump_4 rfl (x_st 6 dX8_pump_5 rfl (x_br dX8_pump_6 (x_if (x_go 9 (x_st 10 dX8_pump_9 rfl (x_br dX8_pump_10 (x_if (x_go 29 (x_st 31 dX8_pump_29 rfl (x_ret dX8_pump_31 rfl))) (x_go 13 (x_st 14 dX8_pump_13 rfl (x_st 17 dX8_pump_14 rfl (x_br dX8_pump_17 (x_if (x_go 20 (x_st 21 dX8_pump_20 rfl (x_br dX8_pump_21 (x_if (x_go 29 (x_st 31 dX8_pump_29 rfl (x_ret dX8_pump_31 rfl))) (x_go 24 (x_st 25 dX8_pump_24 rfl (x_st 26 dX8_pump_25 rfl (x_br dX8_pump_26 (x_if (x_go 29 (x_st 31 dX8_pump_29 rfl (x_ret dX8_pump_31 rfl))) (x_go 32 (x_st 33 dX8_pump_32 rfl (x_st 36 dX8_pump_33 rfl (x_cv 39 [vr 0 0, vi x1, vi x2, vi x3] [] dX8_pump_36 rfl (fun s1 => x_st 40 dX8_pump_39 rfl (x_st 43 dX8_pump_40 rfl (x_ci 46 [vr 0 0, vi x1, vi x2, vi x3] [] dX8_pump_43 rfl (fun r2 s2 => x_st 47 dX8_pump_46 rfl (x_st 48 dX8_pump_47 rfl (x_st 51 dX8_pump_48 rfl (x_st 52 dX8_pump_51 rfl (x_st 53 dX8_pump_52 rfl (x_st 54 dX8_pump_53 rfl (x_ci 57 [vr 0 0, vi x1, vi x2, vi x3] [] dX8_pump_54 rfl (fun r3 s3 => x_ret dX8_pump_57 rfl)))))))))))))))))))))))) (x_go 29 (x_st 31 dX8_pump_29 rfl (x_ret dX8_pump_31 rfl)))))))))))) (x_go 29 (x_st 31 dX8_pump_29 rfl (x_ret dX8_pump_31 rfl)))))))))))
theorem dX8_all_0 : decode cX8_all 0 = .ok (.iload_n 1, 1) := by decide +kernel
theorem dX8_all_1 : decode cX8_all 1 = .ok (.ifCond .lt 8, 3) := by decide +kernel
theorem dX8_all_4 : decode cX8_all 4 = .ok (.iload_n 1, 1) := by decide +kernel
theorem dX8_all_5 : decode cX8_all 5 = .ok (.iconst 3, 1) := by decide +kernel
theorem dX8_all_6 : decode cX8_all 6 = .ok (.if_icmp .le 6, 3) := by decide +kernel
theorem dX8_all_9 : decode cX8_all 9 = .ok (.bipush (-2), 2) := by decide +kernel
theorem dX8_all_11 : decode cX8_all 11 = .ok (.ireturn, 1) := by decide +kernel
theorem dX8_all_12 : decode cX8_all 12 = .ok (.aload_n 0, 1) := by decide +kernel
theorem dX8_all_13 : decode cX8_all 13 = .ok (.getfield 37, 3) := by decide +kernel
theorem dX8_all_16 : decode cX8_all 16 = .ok (.invokevirtual 132, 3) := by decide +kernel
theorem dX8_all_19 : decode cX8_all 19 = .ok (.aload_n 0, 1) := by decide +kernel
theorem dX8_all_20 : decode cX8_all 20 = .ok (.getfield 37, 3) := by decide +kernel
theorem dX8_all_23 : decode cX8_all 23 = .ok (.invokevirtual 135, 3) := by decide +kernel
theorem dX8_all_26 : decode cX8_all 26 = .ok (.istore_n 2, 1) := by decide +kernel
theorem dX8_all_27 : decode cX8_all 27 = .ok (.iload_n 1, 1) := by decide +kernel
theorem dX8_all_28 : decode cX8_all 28 = .ok (.tableswitch 46 0 2 #[28, 30, 38], 28) := by decide +kernel
theorem dX8_all_56 : decode cX8_all 56 = .ok (.iload_n 2, 1) := by decide +kernel
theorem dX8_all_57 : decode cX8_all 57 = .ok (.ireturn, 1) := by decide +kernel
theorem dX8_all_58 : decode cX8_all 58 = .ok (.aload_n 0, 1) := by decide +kernel
theorem dX8_all_59 : decode cX8_all 59 = .ok (.getfield 37, 3) := by decide +kernel
theorem dX8_all_62 : decode cX8_all 62 = .ok (.invokevirtual 153, 3) := by decide +kernel
theorem dX8_all_65 : decode cX8_all 65 = .ok (.ireturn, 1) := by decide +kernel
theorem dX8_all_66 : decode cX8_all 66 = .ok (.aload_n 0, 1) := by decide +kernel
theorem dX8_all_67 : decode cX8_all 67 = .ok (.getfield 37, 3) := by decide +kernel
theorem dX8_all_70 : decode cX8_all 70 = .ok (.invokevirtual 156, 3) := by decide +kernel
theorem dX8_all_73 : decode cX8_all 73 = .ok (.ireturn, 1) := by decide +kernel
theorem dX8_all_74 : decode cX8_all 74 = .ok (.aload_n 0, 1) := by decide +kernel
theorem dX8_all_75 : decode cX8_all 75 = .ok (.getfield 37, 3) := by decide +kernel
theorem dX8_all_78 : decode cX8_all 78 = .ok (.invokevirtual 159, 3) := by decide +kernel
theorem dX8_all_81 : decode cX8_all 81 = .ok (.ireturn, 1) := by decide +kernel
theorem qX8_all (d : Nat) (x1 : Int) (s : Sg) : RUN (d + 1) mX8_all [vr 0 0, vi x1] s = if x1 < 0 then (some (some (vi (-2)), s)) else (if 3 < x1 then (some (some (vi (-2)), s)) else (bV (RUN d mX7_spread [vr 13 0] s) (fun s1 => bI (RUN d mX7_playAll [vr 13 0] s1) (fun r2 s2 => if x1 = 0 then (some (some (vi r2), s2)) else if x1 = 1 then (bI (RUN d mX7_inVain [vr 13 0] s2) (fun r3 s3 => some (some (vi r3), s3))) else if x1 = 2 then (bI (RUN d mX7_lastOff [vr 13 0] s2) (fun r4 s4 => some (some (vi r4), s4))) else (bI (RUN d mX7_outOfOrder [vr 13 0] s2) (fun r5 s5 => some (some (vi r5), s5))))))) := x_run rfl (x_st 1 dX8_all_0 rfl (x_br dX8_all_1 (x_if (x_go 9 (x_st 11 dX8_all_9 rfl (x_ret dX8_all_11 rfl))) (x_go 4 (x_st 5 dX8_all_4 rfl (x_st 6 dX8_all_5 rfl (x_br dX8_all_6 (x_if (x_go 9 (x_st 11 dX8_all_9 rfl (x_ret dX8_all_11 rfl))) (x_go 12 (x_st 13 dX8_all_12 rfl (x_st 16 dX8_all_13 rfl (x_cv 19 [vr 0 0, vi x1, UU] [] dX8_all_16 rfl (fun s1 => x_st 20 dX8_all_19 rfl (x_st 23 dX8_all_20 rfl (x_ci 26 [vr 0 0, vi x1, UU] [] dX8_all_23 rfl (fun r2 s2 => x_so 27 [vr 0 0, vi x1, vi r2] dX8_all_26 rfl (x_st 28 dX8_all_27 rfl (x_br dX8_all_28 (x_if (x_go 56 (x_st 57 dX8_all_56 rfl (x_ret dX8_all_57 rfl))) (x_if (x_go 58 (x_st 59 dX8_all_58 rfl (x_st 62 dX8_all_59 rfl (x_ci 65 [vr 0 0, vi x1, vi r2] [] dX8_all_62 rfl (fun r3 s3 => x_ret dX8_all_65 rfl))))) (x_if (x_go 66 (x_st 67 dX8_all_66 rfl (x_st 70 dX8_all_67 rfl (x_ci 73 [vr 0 0, vi x1, vi r2] [] dX8_all_70 rfl (fun r4 s4 => x_ret dX8_all_73 rfl))))) (x_go 74 (x_st 75 dX8_all_74 rfl (x_st 78 dX8_all_75 rfl (x_ci 81 [vr 0 0, vi x1, vi r2] [] dX8_all_78 rfl (fun r5 s5 => x_ret dX8_all_81 rfl))))))))))))))))))))))))))
theorem dX8_lane_0 : decode cX8_lane 0 = .ok (.aload_n 0, 1) := by decide +kernel
theorem dX8_lane_1 : decode cX8_lane 1 = .ok (.getfield 10, 3) := by decide +kernel
theorem dX8_lane_4 : decode cX8_lane 4 = .ok (.iload_n 1, 1) := by decide +kernel
theorem dX8_lane_5 : decode cX8_lane 5 = .ok (.invokevirtual 77, 3) := by decide +kernel
theorem dX8_lane_8 : decode cX8_lane 8 = .ok (.ifCond .eq 12, 3) := by decide +kernel
theorem dX8_lane_11 : decode cX8_lane 11 = .ok (.iload_n 2, 1) := by decide +kernel
theorem dX8_lane_12 : decode cX8_lane 12 = .ok (.ifCond .lt 8, 3) := by decide +kernel
theorem dX8_lane_15 : decode cX8_lane 15 = .ok (.iload_n 2, 1) := by decide +kernel
theorem dX8_lane_16 : decode cX8_lane 16 = .ok (.iconst 1, 1) := by decide +kernel
theorem dX8_lane_17 : decode cX8_lane 17 = .ok (.if_icmp .le 6, 3) := by decide +kernel
theorem dX8_lane_20 : decode cX8_lane 20 = .ok (.bipush (-2), 2) := by decide +kernel
theorem dX8_lane_22 : decode cX8_lane 22 = .ok (.ireturn, 1) := by decide +kernel
theorem dX8_lane_23 : decode cX8_lane 23 = .ok (.aload_n 0, 1) := by decide +kernel
theorem dX8_lane_24 : decode cX8_lane 24 = .ok (.getfield 46, 3) := by decide +kernel
theorem dX8_lane_27 : decode cX8_lane 27 = .ok (.iload_n 1, 1) := by decide +kernel
theorem dX8_lane_28 : decode cX8_lane 28 = .ok (.invokevirtual 162, 3) := by decide +kernel
theorem dX8_lane_31 : decode cX8_lane 31 = .ok (.aload_n 0, 1) := by decide +kernel
theorem dX8_lane_32 : decode cX8_lane 32 = .ok (.getfield 46, 3) := by decide +kernel
theorem dX8_lane_35 : decode cX8_lane 35 = .ok (.iload_n 2, 1) := by decide +kernel
theorem dX8_lane_36 : decode cX8_lane 36 = .ok (.invokevirtual 166, 3) := by decide +kernel
theorem dX8_lane_39 : decode cX8_lane 39 = .ok (.ireturn, 1) := by decide +kernel
theorem qX8_lane (d : Nat) (x1 : Int) (x2 : Int) (s : Sg) : RUN (d + 1) mX8_lane [vr 0 0, vi x1, vi x2] s = bI (RUN d mX1_has [vr 1 0, vi x1] s) (fun r1 s1 => if r1 = 0 then (some (some (vi (-2)), s1)) else (if x2 < 0 then (some (some (vi (-2)), s1)) else (if 1 < x2 then (some (some (vi (-2)), s1)) else (bV (RUN d mX0_seekLane [vr 21 0, vi x1] s1) (fun s2 => bI (RUN d mX0_answer [vr 21 0, vi x2] s2) (fun r3 s3 => some (some (vi r3), s3))))))) := x_run rfl (x_st 1 dX8_lane_0 rfl (x_st 4 dX8_lane_1 rfl (x_st 5 dX8_lane_4 rfl (x_ci 8 [vr 0 0, vi x1, vi x2] [] dX8_lane_5 rfl (fun r1 s1 => x_br dX8_lane_8 (x_if (x_go 20 (x_st 22 dX8_lane_20 rfl (x_ret dX8_lane_22 rfl))) (x_go 11 (x_st 12 dX8_lane_11 rfl (x_br dX8_lane_12 (x_if (x_go 20 (x_st 22 dX8_lane_20 rfl (x_ret dX8_lane_22 rfl))) (x_go 15 (x_st 16 dX8_lane_15 rfl (x_st 17 dX8_lane_16 rfl (x_br dX8_lane_17 (x_if (x_go 20 (x_st 22 dX8_lane_20 rfl (x_ret dX8_lane_22 rfl))) (x_go 23 (x_st 24 dX8_lane_23 rfl (x_st 27 dX8_lane_24 rfl (x_st 28 dX8_lane_27 rfl (x_cv 31 [vr 0 0, vi x1, vi x2] [] dX8_lane_28 rfl (fun s2 => x_st 32 dX8_lane_31 rfl (x_st 35 dX8_lane_32 rfl (x_st 36 dX8_lane_35 rfl (x_ci 39 [vr 0 0, vi x1, vi x2] [] dX8_lane_36 rfl (fun r3 s3 => x_ret dX8_lane_39 rfl)))))))))))))))))))))))))
theorem dX8_lanes_0 : decode cX8_lanes 0 = .ok (.iload_n 1, 1) := by decide +kernel
theorem dX8_lanes_1 : decode cX8_lanes 1 = .ok (.ifCond .lt 8, 3) := by decide +kernel
theorem dX8_lanes_4 : decode cX8_lanes 4 = .ok (.iload_n 1, 1) := by decide +kernel
theorem dX8_lanes_5 : decode cX8_lanes 5 = .ok (.iconst 1, 1) := by decide +kernel
theorem dX8_lanes_6 : decode cX8_lanes 6 = .ok (.if_icmp .le 6, 3) := by decide +kernel
theorem dX8_lanes_9 : decode cX8_lanes 9 = .ok (.bipush (-2), 2) := by decide +kernel
theorem dX8_lanes_11 : decode cX8_lanes 11 = .ok (.ireturn, 1) := by decide +kernel
theorem dX8_lanes_12 : decode cX8_lanes 12 = .ok (.aload_n 0, 1) := by decide +kernel
theorem dX8_lanes_13 : decode cX8_lanes 13 = .ok (.getfield 46, 3) := by decide +kernel
theorem dX8_lanes_16 : decode cX8_lanes 16 = .ok (.invokevirtual 169, 3) := by decide +kernel
theorem dX8_lanes_19 : decode cX8_lanes 19 = .ok (.aload_n 0, 1) := by decide +kernel
theorem dX8_lanes_20 : decode cX8_lanes 20 = .ok (.getfield 46, 3) := by decide +kernel
theorem dX8_lanes_23 : decode cX8_lanes 23 = .ok (.iload_n 1, 1) := by decide +kernel
theorem dX8_lanes_24 : decode cX8_lanes 24 = .ok (.invokevirtual 166, 3) := by decide +kernel
theorem dX8_lanes_27 : decode cX8_lanes 27 = .ok (.ireturn, 1) := by decide +kernel
theorem qX8_lanes (d : Nat) (x1 : Int) (s : Sg) : RUN (d + 1) mX8_lanes [vr 0 0, vi x1] s = if x1 < 0 then (some (some (vi (-2)), s)) else (if 1 < x1 then (some (some (vi (-2)), s)) else (bV (RUN d mX0_seekLanes [vr 21 0] s) (fun s1 => bI (RUN d mX0_answer [vr 21 0, vi x1] s1) (fun r2 s2 => some (some (vi r2), s2))))) := x_run rfl (x_st 1 dX8_lanes_0 rfl (x_br dX8_lanes_1 (x_if (x_go 9 (x_st 11 dX8_lanes_9 rfl (x_ret dX8_lanes_11 rfl))) (x_go 4 (x_st 5 dX8_lanes_4 rfl (x_st 6 dX8_lanes_5 rfl (x_br dX8_lanes_6 (x_if (x_go 9 (x_st 11 dX8_lanes_9 rfl (x_ret dX8_lanes_11 rfl))) (x_go 12 (x_st 13 dX8_lanes_12 rfl (x_st 16 dX8_lanes_13 rfl (x_cv 19 [vr 0 0, vi x1] [] dX8_lanes_16 rfl (fun s1 => x_st 20 dX8_lanes_19 rfl (x_st 23 dX8_lanes_20 rfl (x_st 24 dX8_lanes_23 rfl (x_ci 27 [vr 0 0, vi x1] [] dX8_lanes_24 rfl (fun r2 s2 => x_ret dX8_lanes_27 rfl)))))))))))))))))
theorem dX8_when_0 : decode cX8_when 0 = .ok (.aload_n 0, 1) := by decide +kernel
theorem dX8_when_1 : decode cX8_when 1 = .ok (.getfield 10, 3) := by decide +kernel
theorem dX8_when_4 : decode cX8_when 4 = .ok (.iload_n 1, 1) := by decide +kernel
theorem dX8_when_5 : decode cX8_when 5 = .ok (.invokevirtual 77, 3) := by decide +kernel
theorem dX8_when_8 : decode cX8_when 8 = .ok (.ifCond .eq 12, 3) := by decide +kernel
theorem dX8_when_11 : decode cX8_when 11 = .ok (.iload_n 2, 1) := by decide +kernel
theorem dX8_when_12 : decode cX8_when 12 = .ok (.ifCond .lt 8, 3) := by decide +kernel
theorem dX8_when_15 : decode cX8_when 15 = .ok (.iload_n 2, 1) := by decide +kernel
theorem dX8_when_16 : decode cX8_when 16 = .ok (.iconst 1, 1) := by decide +kernel
theorem dX8_when_17 : decode cX8_when 17 = .ok (.if_icmp .le 6, 3) := by decide +kernel
theorem dX8_when_20 : decode cX8_when 20 = .ok (.bipush (-2), 2) := by decide +kernel
theorem dX8_when_22 : decode cX8_when 22 = .ok (.ireturn, 1) := by decide +kernel
theorem dX8_when_23 : decode cX8_when 23 = .ok (.aload_n 0, 1) := by decide +kernel
theorem dX8_when_24 : decode cX8_when 24 = .ok (.getfield 46, 3) := by decide +kernel
theorem dX8_when_27 : decode cX8_when 27 = .ok (.iload_n 1, 1) := by decide +kernel
theorem dX8_when_28 : decode cX8_when 28 = .ok (.invokevirtual 172, 3) := by decide +kernel
theorem dX8_when_31 : decode cX8_when 31 = .ok (.aload_n 0, 1) := by decide +kernel
theorem dX8_when_32 : decode cX8_when 32 = .ok (.getfield 46, 3) := by decide +kernel
theorem dX8_when_35 : decode cX8_when 35 = .ok (.iload_n 2, 1) := by decide +kernel
theorem dX8_when_36 : decode cX8_when 36 = .ok (.invokevirtual 166, 3) := by decide +kernel
theorem dX8_when_39 : decode cX8_when 39 = .ok (.ireturn, 1) := by decide +kernel
theorem qX8_when (d : Nat) (x1 : Int) (x2 : Int) (s : Sg) : RUN (d + 1) mX8_when [vr 0 0, vi x1, vi x2] s = bI (RUN d mX1_has [vr 1 0, vi x1] s) (fun r1 s1 => if r1 = 0 then (some (some (vi (-2)), s1)) else (if x2 < 0 then (some (some (vi (-2)), s1)) else (if 1 < x2 then (some (some (vi (-2)), s1)) else (bV (RUN d mX0_seekMinute [vr 21 0, vi x1] s1) (fun s2 => bI (RUN d mX0_answer [vr 21 0, vi x2] s2) (fun r3 s3 => some (some (vi r3), s3))))))) := x_run rfl (x_st 1 dX8_when_0 rfl (x_st 4 dX8_when_1 rfl (x_st 5 dX8_when_4 rfl (x_ci 8 [vr 0 0, vi x1, vi x2] [] dX8_when_5 rfl (fun r1 s1 => x_br dX8_when_8 (x_if (x_go 20 (x_st 22 dX8_when_20 rfl (x_ret dX8_when_22 rfl))) (x_go 11 (x_st 12 dX8_when_11 rfl (x_br dX8_when_12 (x_if (x_go 20 (x_st 22 dX8_when_20 rfl (x_ret dX8_when_22 rfl))) (x_go 15 (x_st 16 dX8_when_15 rfl (x_st 17 dX8_when_16 rfl (x_br dX8_when_17 (x_if (x_go 20 (x_st 22 dX8_when_20 rfl (x_ret dX8_when_22 rfl))) (x_go 23 (x_st 24 dX8_when_23 rfl (x_st 27 dX8_when_24 rfl (x_st 28 dX8_when_27 rfl (x_cv 31 [vr 0 0, vi x1, vi x2] [] dX8_when_28 rfl (fun s2 => x_st 32 dX8_when_31 rfl (x_st 35 dX8_when_32 rfl (x_st 36 dX8_when_35 rfl (x_ci 39 [vr 0 0, vi x1, vi x2] [] dX8_when_36 rfl (fun r3 s3 => x_ret dX8_when_39 rfl)))))))))))))))))))))))))
theorem dX8_forward_0 : decode cX8_forward 0 = .ok (.aload_n 0, 1) := by decide +kernel
theorem dX8_forward_1 : decode cX8_forward 1 = .ok (.getfield 37, 3) := by decide +kernel
theorem dX8_forward_4 : decode cX8_forward 4 = .ok (.invokevirtual 132, 3) := by decide +kernel
theorem dX8_forward_7 : decode cX8_forward 7 = .ok (.aload_n 0, 1) := by decide +kernel
theorem dX8_forward_8 : decode cX8_forward 8 = .ok (.getfield 37, 3) := by decide +kernel
theorem dX8_forward_11 : decode cX8_forward 11 = .ok (.invokevirtual 135, 3) := by decide +kernel
theorem dX8_forward_14 : decode cX8_forward 14 = .ok (.istore_n 1, 1) := by decide +kernel
theorem dX8_forward_15 : decode cX8_forward 15 = .ok (.aload_n 0, 1) := by decide +kernel
theorem dX8_forward_16 : decode cX8_forward 16 = .ok (.getfield 37, 3) := by decide +kernel
theorem dX8_forward_19 : decode cX8_forward 19 = .ok (.iconst 1, 1) := by decide +kernel
theorem dX8_forward_20 : decode cX8_forward 20 = .ok (.invokevirtual 175, 3) := by decide +kernel
theorem dX8_forward_23 : decode cX8_forward 23 = .ok (.aload_n 0, 1) := by decide +kernel
theorem dX8_forward_24 : decode cX8_forward 24 = .ok (.getfield 37, 3) := by decide +kernel
theorem dX8_forward_27 : decode cX8_forward 27 = .ok (.invokevirtual 135, 3) := by decide +kernel
theorem dX8_forward_30 : decode cX8_forward 30 = .ok (.istore_n 2, 1) := by decide +kernel
theorem dX8_forward_31 : decode cX8_forward 31 = .ok (.aload_n 0, 1) := by decide +kernel
theorem dX8_forward_32 : decode cX8_forward 32 = .ok (.getfield 37, 3) := by decide +kernel
theorem dX8_forward_35 : decode cX8_forward 35 = .ok (.iconst 0, 1) := by decide +kernel
theorem dX8_forward_36 : decode cX8_forward 36 = .ok (.invokevirtual 175, 3) := by decide +kernel
theorem dX8_forward_39 : decode cX8_forward 39 = .ok (.iload_n 2, 1) := by decide +kernel
theorem dX8_forward_40 : decode cX8_forward 40 = .ok (.iload_n 1, 1) := by decide +kernel
theorem dX8_forward_41 : decode cX8_forward 41 = .ok (.isub, 1) := by decide +kernel
theorem dX8_forward_42 : decode cX8_forward 42 = .ok (.ireturn, 1) := by decide +kernel
theorem qX8_forward (d : Nat) (s : Sg) : RUN (d + 1) mX8_forward [vr 0 0] s = bV (RUN d mX7_spread [vr 13 0] s) (fun s1 => bI (RUN d mX7_playAll [vr 13 0] s1) (fun r2 s2 => bV (RUN d mX7_sendAllForward [vr 13 0, vi 1] s2) (fun s3 => bI (RUN d mX7_playAll [vr 13 0] s3) (fun r4 s4 => bV (RUN d mX7_sendAllForward [vr 13 0, vi 0] s4) (fun s5 => some (some (vi (w32 (r4 - r2))), s5)))))) := x_run rfl (x_st 1 dX8_forward_0 rfl (x_st 4 dX8_forward_1 rfl (x_cv 7 [vr 0 0, UU, UU] [] dX8_forward_4 rfl (fun s1 => x_st 8 dX8_forward_7 rfl (x_st 11 dX8_forward_8 rfl (x_ci 14 [vr 0 0, UU, UU] [] dX8_forward_11 rfl (fun r2 s2 => x_so 15 [vr 0 0, vi r2, UU] dX8_forward_14 rfl (x_st 16 dX8_forward_15 rfl (x_st 19 dX8_forward_16 rfl (x_st 20 dX8_forward_19 rfl (x_cv 23 [vr 0 0, vi r2, UU] [] dX8_forward_20 rfl (fun s3 => x_st 24 dX8_forward_23 rfl (x_st 27 dX8_forward_24 rfl (x_ci 30 [vr 0 0, vi r2, UU] [] dX8_forward_27 rfl (fun r4 s4 => x_so 31 [vr 0 0, vi r2, vi r4] dX8_forward_30 rfl (x_st 32 dX8_forward_31 rfl (x_st 35 dX8_forward_32 rfl (x_st 36 dX8_forward_35 rfl (x_cv 39 [vr 0 0, vi r2, vi r4] [] dX8_forward_36 rfl (fun s5 => x_st 40 dX8_forward_39 rfl (x_st 41 dX8_forward_40 rfl (x_st 42 dX8_forward_41 rfl (x_ret dX8_forward_42 rfl)))))))))))))))))))))))
theorem dX8_blame_0 : decode cX8_blame 0 = .ok (.iload_n 1, 1) := by decide +kernel
theorem dX8_blame_1 : decode cX8_blame 1 = .ok (.ifCond .lt 8, 3) := by decide +kernel
theorem dX8_blame_4 : decode cX8_blame 4 = .ok (.iload_n 1, 1) := by decide +kernel
theorem dX8_blame_5 : decode cX8_blame 5 = .ok (.iconst 1, 1) := by decide +kernel
theorem dX8_blame_6 : decode cX8_blame 6 = .ok (.if_icmp .le 6, 3) := by decide +kernel
theorem dX8_blame_9 : decode cX8_blame 9 = .ok (.bipush (-2), 2) := by decide +kernel
theorem dX8_blame_11 : decode cX8_blame 11 = .ok (.ireturn, 1) := by decide +kernel
theorem dX8_blame_12 : decode cX8_blame 12 = .ok (.aload_n 0, 1) := by decide +kernel
theorem dX8_blame_13 : decode cX8_blame 13 = .ok (.getfield 46, 3) := by decide +kernel
theorem dX8_blame_16 : decode cX8_blame 16 = .ok (.invokevirtual 179, 3) := by decide +kernel
theorem dX8_blame_19 : decode cX8_blame 19 = .ok (.aload_n 0, 1) := by decide +kernel
theorem dX8_blame_20 : decode cX8_blame 20 = .ok (.getfield 46, 3) := by decide +kernel
theorem dX8_blame_23 : decode cX8_blame 23 = .ok (.iload_n 1, 1) := by decide +kernel
theorem dX8_blame_24 : decode cX8_blame 24 = .ok (.invokevirtual 166, 3) := by decide +kernel
theorem dX8_blame_27 : decode cX8_blame 27 = .ok (.ireturn, 1) := by decide +kernel
theorem qX8_blame (d : Nat) (x1 : Int) (s : Sg) : RUN (d + 1) mX8_blame [vr 0 0, vi x1] s = if x1 < 0 then (some (some (vi (-2)), s)) else (if 1 < x1 then (some (some (vi (-2)), s)) else (bV (RUN d mX0_seekBlame [vr 21 0] s) (fun s1 => bI (RUN d mX0_answer [vr 21 0, vi x1] s1) (fun r2 s2 => some (some (vi r2), s2))))) := x_run rfl (x_st 1 dX8_blame_0 rfl (x_br dX8_blame_1 (x_if (x_go 9 (x_st 11 dX8_blame_9 rfl (x_ret dX8_blame_11 rfl))) (x_go 4 (x_st 5 dX8_blame_4 rfl (x_st 6 dX8_blame_5 rfl (x_br dX8_blame_6 (x_if (x_go 9 (x_st 11 dX8_blame_9 rfl (x_ret dX8_blame_11 rfl))) (x_go 12 (x_st 13 dX8_blame_12 rfl (x_st 16 dX8_blame_13 rfl (x_cv 19 [vr 0 0, vi x1] [] dX8_blame_16 rfl (fun s1 => x_st 20 dX8_blame_19 rfl (x_st 23 dX8_blame_20 rfl (x_st 24 dX8_blame_23 rfl (x_ci 27 [vr 0 0, vi x1] [] dX8_blame_24 rfl (fun r2 s2 => x_ret dX8_blame_27 rfl)))))))))))))))))
theorem dX8_tells_0 : decode cX8_tells 0 = .ok (.iload_n 2, 1) := by decide +kernel
theorem dX8_tells_1 : decode cX8_tells 1 = .ok (.bipush 10, 2) := by decide +kernel
theorem dX8_tells_3 : decode cX8_tells 3 = .ok (.idiv, 1) := by decide +kernel
theorem dX8_tells_4 : decode cX8_tells 4 = .ok (.istore_n 3, 1) := by decide +kernel
theorem dX8_tells_5 : decode cX8_tells 5 = .ok (.iload_n 3, 1) := by decide +kernel
theorem dX8_tells_6 : decode cX8_tells 6 = .ok (.iconst 1, 1) := by decide +kernel
theorem dX8_tells_7 : decode cX8_tells 7 = .ok (.if_icmp .lt 13, 3) := by decide +kernel
theorem dX8_tells_10 : decode cX8_tells 10 = .ok (.iload_n 3, 1) := by decide +kernel
theorem dX8_tells_11 : decode cX8_tells 11 = .ok (.bipush 6, 2) := by decide +kernel
theorem dX8_tells_13 : decode cX8_tells 13 = .ok (.if_icmp .gt 7, 3) := by decide +kernel
theorem dX8_tells_16 : decode cX8_tells 16 = .ok (.iconst 1, 1) := by decide +kernel
theorem dX8_tells_17 : decode cX8_tells 17 = .ok (.goto 4, 3) := by decide +kernel
theorem dX8_tells_20 : decode cX8_tells 20 = .ok (.iconst 0, 1) := by decide +kernel
theorem dX8_tells_21 : decode cX8_tells 21 = .ok (.istore 4, 2) := by decide +kernel
theorem dX8_tells_23 : decode cX8_tells 23 = .ok (.iload_n 1, 1) := by decide +kernel
theorem dX8_tells_24 : decode cX8_tells 24 = .ok (.invokestatic 182, 3) := by decide +kernel
theorem dX8_tells_27 : decode cX8_tells 27 = .ok (.ifCond .eq 36, 3) := by decide +kernel
theorem dX8_tells_30 : decode cX8_tells 30 = .ok (.iload_n 2, 1) := by decide +kernel
theorem dX8_tells_31 : decode cX8_tells 31 = .ok (.ifCond .lt 32, 3) := by decide +kernel
theorem dX8_tells_34 : decode cX8_tells 34 = .ok (.iload_n 2, 1) := by decide +kernel
theorem dX8_tells_35 : decode cX8_tells 35 = .ok (.iconst 1, 1) := by decide +kernel
theorem dX8_tells_36 : decode cX8_tells 36 = .ok (.if_icmp .le 8, 3) := by decide +kernel
theorem dX8_tells_39 : decode cX8_tells 39 = .ok (.iload 4, 2) := by decide +kernel
theorem dX8_tells_41 : decode cX8_tells 41 = .ok (.ifCond .eq 22, 3) := by decide +kernel
theorem dX8_tells_44 : decode cX8_tells 44 = .ok (.iload 4, 2) := by decide +kernel
theorem dX8_tells_46 : decode cX8_tells 46 = .ok (.ifCond .eq 20, 3) := by decide +kernel
theorem dX8_tells_49 : decode cX8_tells 49 = .ok (.aload_n 0, 1) := by decide +kernel
theorem dX8_tells_50 : decode cX8_tells 50 = .ok (.getfield 10, 3) := by decide +kernel
theorem dX8_tells_53 : decode cX8_tells 53 = .ok (.iload_n 2, 1) := by decide +kernel
theorem dX8_tells_54 : decode cX8_tells 54 = .ok (.bipush 10, 2) := by decide +kernel
theorem dX8_tells_56 : decode cX8_tells 56 = .ok (.irem, 1) := by decide +kernel
theorem dX8_tells_57 : decode cX8_tells 57 = .ok (.invokevirtual 77, 3) := by decide +kernel
theorem dX8_tells_60 : decode cX8_tells 60 = .ok (.ifCond .ne 6, 3) := by decide +kernel
theorem dX8_tells_63 : decode cX8_tells 63 = .ok (.bipush (-2), 2) := by decide +kernel
theorem dX8_tells_65 : decode cX8_tells 65 = .ok (.ireturn, 1) := by decide +kernel
theorem dX8_tells_66 : decode cX8_tells 66 = .ok (.aload_n 0, 1) := by decide +kernel
theorem dX8_tells_67 : decode cX8_tells 67 = .ok (.getfield 59, 3) := by decide +kernel
theorem dX8_tells_70 : decode cX8_tells 70 = .ok (.iload_n 1, 1) := by decide +kernel
theorem dX8_tells_71 : decode cX8_tells 71 = .ok (.aaload, 1) := by decide +kernel
theorem dX8_tells_72 : decode cX8_tells 72 = .ok (.astore 5, 2) := by decide +kernel
theorem dX8_tells_74 : decode cX8_tells 74 = .ok (.aload 5, 2) := by decide +kernel
theorem dX8_tells_76 : decode cX8_tells 76 = .ok (.invokevirtual 185, 3) := by decide +kernel
theorem dX8_tells_79 : decode cX8_tells 79 = .ok (.ifCond .eq 6, 3) := by decide +kernel
theorem dX8_tells_82 : decode cX8_tells 82 = .ok (.bipush (-11), 2) := by decide +kernel
theorem dX8_tells_84 : decode cX8_tells 84 = .ok (.ireturn, 1) := by decide +kernel
theorem dX8_tells_85 : decode cX8_tells 85 = .ok (.aload 5, 2) := by decide +kernel
theorem dX8_tells_87 : decode cX8_tells 87 = .ok (.invokevirtual 188, 3) := by decide +kernel
theorem dX8_tells_90 : decode cX8_tells 90 = .ok (.aload_n 0, 1) := by decide +kernel
theorem dX8_tells_91 : decode cX8_tells 91 = .ok (.getfield 10, 3) := by decide +kernel
theorem dX8_tells_94 : decode cX8_tells 94 = .ok (.invokevirtual 189, 3) := by decide +kernel
theorem dX8_tells_97 : decode cX8_tells 97 = .ok (.if_icmp .eq 6, 3) := by decide +kernel
theorem dX8_tells_100 : decode cX8_tells 100 = .ok (.bipush (-2), 2) := by decide +kernel
theorem dX8_tells_102 : decode cX8_tells 102 = .ok (.ireturn, 1) := by decide +kernel
theorem dX8_tells_103 : decode cX8_tells 103 = .ok (.iload 4, 2) := by decide +kernel
theorem dX8_tells_105 : decode cX8_tells 105 = .ok (.ifCond .eq 15, 3) := by decide +kernel
theorem dX8_tells_108 : decode cX8_tells 108 = .ok (.aload_n 0, 1) := by decide +kernel
theorem dX8_tells_109 : decode cX8_tells 109 = .ok (.aload 5, 2) := by decide +kernel
theorem dX8_tells_111 : decode cX8_tells 111 = .ok (.iload_n 3, 1) := by decide +kernel
theorem dX8_tells_112 : decode cX8_tells 112 = .ok (.iload_n 2, 1) := by decide +kernel
theorem dX8_tells_113 : decode cX8_tells 113 = .ok (.bipush 10, 2) := by decide +kernel
theorem dX8_tells_115 : decode cX8_tells 115 = .ok (.irem, 1) := by decide +kernel
theorem dX8_tells_116 : decode cX8_tells 116 = .ok (.invokevirtual 190, 3) := by decide +kernel
theorem dX8_tells_119 : decode cX8_tells 119 = .ok (.ireturn, 1) := by decide +kernel
theorem dX8_tells_120 : decode cX8_tells 120 = .ok (.iload_n 2, 1) := by decide +kernel
theorem dX8_tells_121 : decode cX8_tells 121 = .ok (.ifCond .ne 12, 3) := by decide +kernel
theorem dX8_tells_124 : decode cX8_tells 124 = .ok (.aload_n 0, 1) := by decide +kernel
theorem dX8_tells_125 : decode cX8_tells 125 = .ok (.aload 5, 2) := by decide +kernel
theorem dX8_tells_127 : decode cX8_tells 127 = .ok (.invokevirtual 194, 3) := by decide +kernel
theorem dX8_tells_130 : decode cX8_tells 130 = .ok (.goto 9, 3) := by decide +kernel
theorem dX8_tells_133 : decode cX8_tells 133 = .ok (.aload_n 0, 1) := by decide +kernel
theorem dX8_tells_134 : decode cX8_tells 134 = .ok (.aload 5, 2) := by decide +kernel
theorem dX8_tells_136 : decode cX8_tells 136 = .ok (.invokevirtual 198, 3) := by decide +kernel
theorem dX8_tells_139 : decode cX8_tells 139 = .ok (.ireturn, 1) := by decide +kernel
theorem qX8_tells (d : Nat) (x1 : Int) (x2 : Int) (s : Sg) : RUN d mX8_tells [vr 0 0, vi x1, vi x2] s = if (wdiv x2 10) < 1 then (EV d mX8_tells (20, [vr 0 0, vi x1, vi x2, vi (wdiv x2 10), UU, UU], [], s)) else (if 6 < (wdiv x2 10) then (EV d mX8_tells (20, [vr 0 0, vi x1, vi x2, vi (wdiv x2 10), UU, UU], [], s)) else (EV d mX8_tells (21, [vr 0 0, vi x1, vi x2, vi (wdiv x2 10), UU, UU], [vi 1], s))) := x_run rfl (x_st 1 dX8_tells_0 rfl (x_st 3 dX8_tells_1 rfl (x_st 4 dX8_tells_3 rfl (x_so 5 [vr 0 0, vi x1, vi x2, vi (wdiv x2 10), UU, UU] dX8_tells_4 rfl (x_st 6 dX8_tells_5 rfl (x_st 7 dX8_tells_6 rfl (x_br dX8_tells_7 (x_if (x_go 20 (rfl)) (x_go 10 (x_st 11 dX8_tells_10 rfl (x_st 13 dX8_tells_11 rfl (x_br dX8_tells_13 (x_if (x_go 20 (rfl)) (x_go 16 (x_st 17 dX8_tells_16 rfl (x_st 21 dX8_tells_17 rfl (rfl)))))))))))))))))
theorem qX8_tells_20 (d : Nat) (x1 : Int) (x2 : Int) (x3 : Int) (z4 : PV) (z5 : PV) (s : Sg) : EV d mX8_tells (20, [vr 0 0, vi x1, vi x2, vi x3, z4, z5], [], s) = EV d mX8_tells (21, [vr 0 0, vi x1, vi x2, vi x3, z4, z5], [vi 0], s) := x_st 21 dX8_tells_20 rfl (rfl)
theorem qX8_tells_21 (d : Nat) (x1 : Int) (x2 : Int) (x3 : Int) (z4 : PV) (z5 : PV) (y0 : Int) (s : Sg) : EV (d + 1) mX8_tells (21, [vr 0 0, vi x1, vi x2, vi x3, z4, z5], [vi y0], s) = bI (RUN d mX8_isSheet [vi x1] s) (fun r1 s1 => if r1 = 0 then (some (some (vi (-2)), s1)) else (if x2 < 0 then (some (some (vi (-2)), s1)) else (if 1 < x2 then (if y0 = 0 then (some (some (vi (-2)), s1)) else (EV (d + 1) mX8_tells (44, [vr 0 0, vi x1, vi x2, vi x3, vi y0, z5], [], s1))) else (EV (d + 1) mX8_tells (44, [vr 0 0, vi x1, vi x2, vi x3, vi y0, z5], [], s1))))) := x_so 23 [vr 0 0, vi x1, vi x2, vi x3, vi y0, z5] dX8_tells_21 rfl (x_st 24 dX8_tells_23 rfl (x_ci 27 [vr 0 0, vi x1, vi x2, vi x3, vi y0, z5] [] dX8_tells_24 rfl (fun r1 s1 => x_br dX8_tells_27 (x_if (x_go 63 (x_st 65 dX8_tells_63 rfl (x_ret dX8_tells_65 rfl))) (x_go 30 (x_st 31 dX8_tells_30 rfl (x_br dX8_tells_31 (x_if (x_go 63 (x_st 65 dX8_tells_63 rfl (x_ret dX8_tells_65 rfl))) (x_go 34 (x_st 35 dX8_tells_34 rfl (x_st 36 dX8_tells_35 rfl (x_br dX8_tells_36 (x_if (x_go 39 (x_st 41 dX8_tells_39 rfl (x_br dX8_tells_41 (x_if (x_go 63 (x_st 65 dX8_tells_63 rfl (x_ret dX8_tells_65 rfl))) (x_go 44 (rfl)))))) (x_go 44 (rfl)))))))))))))))
theorem qX8_tells_44 (d : Nat) (x1 : Int) (x2 : Int) (x3 : Int) (x4 : Int) (z5 : PV) (s : Sg) : EV (d + 1) mX8_tells (44, [vr 0 0, vi x1, vi x2, vi x3, vi x4, z5], [], s) = if x4 = 0 then (EV (d + 1) mX8_tells (66, [vr 0 0, vi x1, vi x2, vi x3, vi x4, z5], [], s)) else (bI (RUN d mX1_has [vr 1 0, vi (wrem x2 10)] s) (fun r1 s1 => if r1 = 0 then (some (some (vi (-2)), s1)) else (EV (d + 1) mX8_tells (66, [vr 0 0, vi x1, vi x2, vi x3, vi x4, z5], [], s1)))) := x_st 46 dX8_tells_44 rfl (x_br dX8_tells_46 (x_if (x_go 66 (rfl)) (x_go 49 (x_st 50 dX8_tells_49 rfl (x_st 53 dX8_tells_50 rfl (x_st 54 dX8_tells_53 rfl (x_st 56 dX8_tells_54 rfl (x_st 57 dX8_tells_56 rfl (x_ci 60 [vr 0 0, vi x1, vi x2, vi x3, vi x4, z5] [] dX8_tells_57 rfl (fun r1 s1 => x_br dX8_tells_60 (x_if (x_go 63 (x_st 65 dX8_tells_63 rfl (x_ret dX8_tells_65 rfl))) (x_go 66 (rfl)))))))))))))
theorem qX8_tells_66 (d : Nat) (x1 : Int) (x2 : Int) (x3 : Int) (x4 : Int) (z5 : PV) (s : Sg) : EV (d + 1) mX8_tells (66, [vr 0 0, vi x1, vi x2, vi x3, vi x4, z5], [], s) = if inb x1 4 then (bI (RUN d mX6_isMissing [vr 30 (Int.toNat x1)] s) (fun r1 s1 => if r1 = 0 then (bI (RUN d mX6_size [vr 30 (Int.toNat x1)] s1) (fun r2 s2 => bI (RUN d mX1_size [vr 1 0] s2) (fun r3 s3 => if r2 = r3 then (if x4 = 0 then (if x2 = 0 then (bI (RUN d mX8_otherwiseNow [vr 0 0, vr 30 (Int.toNat x1)] s3) (fun r4 s4 => some (some (vi r4), s4))) else (bI (RUN d mX8_likelyTexts [vr 0 0, vr 30 (Int.toNat x1)] s3) (fun r5 s5 => some (some (vi r5), s5)))) else (bI (RUN d mX8_likely [vr 0 0, vr 30 (Int.toNat x1), vi x3, vi (wrem x2 10)] s3) (fun r6 s6 => some (some (vi r6), s6)))) else (some (some (vi (-2)), s3))))) else (some (some (vi (-11)), s1)))) else none := x_st 67 dX8_tells_66 rfl (x_st 70 dX8_tells_67 rfl (x_st 71 dX8_tells_70 rfl (x_br dX8_tells_71 (x_if (x_go 72 (x_so 74 [vr 0 0, vi x1, vi x2, vi x3, vi x4, vr 30 (Int.toNat x1)] dX8_tells_72 rfl (x_st 76 dX8_tells_74 rfl (x_ci 79 [vr 0 0, vi x1, vi x2, vi x3, vi x4, vr 30 (Int.toNat x1)] [] dX8_tells_76 rfl (fun r1 s1 => x_br dX8_tells_79 (x_if (x_go 85 (x_st 87 dX8_tells_85 rfl (x_ci 90 [vr 0 0, vi x1, vi x2, vi x3, vi x4, vr 30 (Int.toNat x1)] [] dX8_tells_87 rfl (fun r2 s2 => x_st 91 dX8_tells_90 rfl (x_st 94 dX8_tells_91 rfl (x_ci 97 [vr 0 0, vi x1, vi x2, vi x3, vi x4, vr 30 (Int.toNat x1)] [vi r2] dX8_tells_94 rfl (fun r3 s3 => x_br dX8_tells_97 (x_if (x_go 103 (x_st 105 dX8_tells_103 rfl (x_br dX8_tells_105 (x_if (x_go 120 (x_st 121 dX8_tells_120 rfl (x_br dX8_tells_121 (x_if (x_go 124 (x_st 125 dX8_tells_124 rfl (x_st 127 dX8_tells_125 rfl (x_ci 130 [vr 0 0, vi x1, vi x2, vi x3, vi x4, vr 30 (Int.toNat x1)] [] dX8_tells_127 rfl (fun r4 s4 => x_st 139 dX8_tells_130 rfl (x_ret dX8_tells_139 rfl)))))) (x_go 133 (x_st 134 dX8_tells_133 rfl (x_st 136 dX8_tells_134 rfl (x_ci 139 [vr 0 0, vi x1, vi x2, vi x3, vi x4, vr 30 (Int.toNat x1)] [] dX8_tells_136 rfl (fun r5 s5 => x_ret dX8_tells_139 rfl))))))))) (x_go 108 (x_st 109 dX8_tells_108 rfl (x_st 111 dX8_tells_109 rfl (x_st 112 dX8_tells_111 rfl (x_st 113 dX8_tells_112 rfl (x_st 115 dX8_tells_113 rfl (x_st 116 dX8_tells_115 rfl (x_ci 119 [vr 0 0, vi x1, vi x2, vi x3, vi x4, vr 30 (Int.toNat x1)] [] dX8_tells_116 rfl (fun r6 s6 => x_ret dX8_tells_119 rfl))))))))))))) (x_go 100 (x_st 102 dX8_tells_100 rfl (x_ret dX8_tells_102 rfl))))))))))) (x_go 82 (x_st 84 dX8_tells_82 rfl (x_ret dX8_tells_84 rfl))))))))) x_no))))
theorem dX8_film_0 : decode cX8_film 0 = .ok (.iload_n 1, 1) := by decide +kernel
theorem dX8_film_1 : decode cX8_film 1 = .ok (.invokestatic 182, 3) := by decide +kernel
theorem dX8_film_4 : decode cX8_film 4 = .ok (.ifCond .ne 6, 3) := by decide +kernel
theorem dX8_film_7 : decode cX8_film 7 = .ok (.bipush (-2), 2) := by decide +kernel
theorem dX8_film_9 : decode cX8_film 9 = .ok (.ireturn, 1) := by decide +kernel
theorem dX8_film_10 : decode cX8_film 10 = .ok (.aload_n 0, 1) := by decide +kernel
theorem dX8_film_11 : decode cX8_film 11 = .ok (.getfield 37, 3) := by decide +kernel
theorem dX8_film_14 : decode cX8_film 14 = .ok (.invokevirtual 132, 3) := by decide +kernel
theorem dX8_film_17 : decode cX8_film 17 = .ok (.aload_n 0, 1) := by decide +kernel
theorem dX8_film_18 : decode cX8_film 18 = .ok (.getfield 37, 3) := by decide +kernel
theorem dX8_film_21 : decode cX8_film 21 = .ok (.invokevirtual 135, 3) := by decide +kernel
theorem dX8_film_24 : decode cX8_film 24 = .ok (.pop, 1) := by decide +kernel
theorem dX8_film_25 : decode cX8_film 25 = .ok (.aload_n 0, 1) := by decide +kernel
theorem dX8_film_26 : decode cX8_film 26 = .ok (.getfield 59, 3) := by decide +kernel
theorem dX8_film_29 : decode cX8_film 29 = .ok (.iload_n 1, 1) := by decide +kernel
theorem dX8_film_30 : decode cX8_film 30 = .ok (.aaload, 1) := by decide +kernel
theorem dX8_film_31 : decode cX8_film 31 = .ok (.astore_n 2, 1) := by decide +kernel
theorem dX8_film_32 : decode cX8_film 32 = .ok (.aload_n 2, 1) := by decide +kernel
theorem dX8_film_33 : decode cX8_film 33 = .ok (.iconst 1, 1) := by decide +kernel
theorem dX8_film_34 : decode cX8_film 34 = .ok (.aload_n 0, 1) := by decide +kernel
theorem dX8_film_35 : decode cX8_film 35 = .ok (.getfield 10, 3) := by decide +kernel
theorem dX8_film_38 : decode cX8_film 38 = .ok (.invokevirtual 189, 3) := by decide +kernel
theorem dX8_film_41 : decode cX8_film 41 = .ok (.invokevirtual 201, 3) := by decide +kernel
theorem dX8_film_44 : decode cX8_film 44 = .ok (.iconst 0, 1) := by decide +kernel
theorem dX8_film_45 : decode cX8_film 45 = .ok (.istore_n 3, 1) := by decide +kernel
theorem dX8_film_46 : decode cX8_film 46 = .ok (.iload_n 3, 1) := by decide +kernel
theorem dX8_film_47 : decode cX8_film 47 = .ok (.aload_n 0, 1) := by decide +kernel
theorem dX8_film_48 : decode cX8_film 48 = .ok (.getfield 10, 3) := by decide +kernel
theorem dX8_film_51 : decode cX8_film 51 = .ok (.invokevirtual 189, 3) := by decide +kernel
theorem dX8_film_54 : decode cX8_film 54 = .ok (.if_icmp .ge 23, 3) := by decide +kernel
theorem dX8_film_57 : decode cX8_film 57 = .ok (.aload_n 2, 1) := by decide +kernel
theorem dX8_film_58 : decode cX8_film 58 = .ok (.iload_n 3, 1) := by decide +kernel
theorem dX8_film_59 : decode cX8_film 59 = .ok (.aload_n 0, 1) := by decide +kernel
theorem dX8_film_60 : decode cX8_film 60 = .ok (.getfield 37, 3) := by decide +kernel
theorem dX8_film_63 : decode cX8_film 63 = .ok (.iload_n 3, 1) := by decide +kernel
theorem dX8_film_64 : decode cX8_film 64 = .ok (.invokevirtual 141, 3) := by decide +kernel
theorem dX8_film_67 : decode cX8_film 67 = .ok (.invokevirtual 205, 3) := by decide +kernel
theorem dX8_film_70 : decode cX8_film 70 = .ok (.pop, 1) := by decide +kernel
theorem dX8_film_71 : decode cX8_film 71 = .ok (.iinc 3 1, 3) := by decide +kernel
theorem dX8_film_74 : decode cX8_film 74 = .ok (.goto (-28), 3) := by decide +kernel
theorem dX8_film_77 : decode cX8_film 77 = .ok (.aload_n 0, 1) := by decide +kernel
theorem dX8_film_78 : decode cX8_film 78 = .ok (.getfield 10, 3) := by decide +kernel
theorem dX8_film_81 : decode cX8_film 81 = .ok (.invokevirtual 189, 3) := by decide +kernel
theorem dX8_film_84 : decode cX8_film 84 = .ok (.ireturn, 1) := by decide +kernel
theorem qX8_film (d : Nat) (x1 : Int) (s : Sg) : RUN (d + 1) mX8_film [vr 0 0, vi x1] s = bI (RUN d mX8_isSheet [vi x1] s) (fun r1 s1 => if r1 = 0 then (some (some (vi (-2)), s1)) else (bV (RUN d mX7_spread [vr 13 0] s1) (fun s2 => bI (RUN d mX7_playAll [vr 13 0] s2) (fun r3 s3 => if inb x1 4 then (bI (RUN d mX1_size [vr 1 0] s3) (fun r4 s4 => bV (RUN d mX6_become [vr 30 (Int.toNat x1), vi 1, vi r4] s4) (fun s5 => EV (d + 1) mX8_film (46, [vr 0 0, vi x1, vr 30 (Int.toNat x1), vi 0], [], s5)))) else none)))) := x_run rfl (x_st 1 dX8_film_0 rfl (x_ci 4 [vr 0 0, vi x1, UU, UU] [] dX8_film_1 rfl (fun r1 s1 => x_br dX8_film_4 (x_if (x_go 7 (x_st 9 dX8_film_7 rfl (x_ret dX8_film_9 rfl))) (x_go 10 (x_st 11 dX8_film_10 rfl (x_st 14 dX8_film_11 rfl (x_cv 17 [vr 0 0, vi x1, UU, UU] [] dX8_film_14 rfl (fun s2 => x_st 18 dX8_film_17 rfl (x_st 21 dX8_film_18 rfl (x_ci 24 [vr 0 0, vi x1, UU, UU] [] dX8_film_21 rfl (fun r3 s3 => x_st 25 dX8_film_24 rfl (x_st 26 dX8_film_25 rfl (x_st 29 dX8_film_26 rfl (x_st 30 dX8_film_29 rfl (x_br dX8_film_30 (x_if (x_go 31 (x_so 32 [vr 0 0, vi x1, vr 30 (Int.toNat x1), UU] dX8_film_31 rfl (x_st 33 dX8_film_32 rfl (x_st 34 dX8_film_33 rfl (x_st 35 dX8_film_34 rfl (x_st 38 dX8_film_35 rfl (x_ci 41 [vr 0 0, vi x1, vr 30 (Int.toNat x1), UU] [vi 1, vr 30 (Int.toNat x1)] dX8_film_38 rfl (fun r4 s4 => x_cv 44 [vr 0 0, vi x1, vr 30 (Int.toNat x1), UU] [] dX8_film_41 rfl (fun s5 => x_st 45 dX8_film_44 rfl (x_so 46 [vr 0 0, vi x1, vr 30 (Int.toNat x1), vi 0] dX8_film_45 rfl (rfl))))))))))) x_no)))))))))))))))))
theorem qX8_film_46 (d : Nat) (z1 : PV) (j2 : Nat) (x3 : Int) (s : Sg) : EV (d + 1) mX8_film (46, [vr 0 0, z1, vr 30 j2, vi x3], [], s) = bI (RUN d mX1_size [vr 1 0] s) (fun r1 s1 => if x3 < r1 then (bI (RUN d mX7_off [vr 13 0, vi x3] s1) (fun r2 s2 => bI (RUN d mX6_put [vr 30 j2, vi x3, vi r2] s2) (fun r3 s3 => EV (d + 1) mX8_film (46, [vr 0 0, z1, vr 30 j2, vi (w32 (x3 + 1))], [], s3)))) else (bI (RUN d mX1_size [vr 1 0] s1) (fun r4 s4 => some (some (vi r4), s4)))) := x_st 47 dX8_film_46 rfl (x_st 48 dX8_film_47 rfl (x_st 51 dX8_film_48 rfl (x_ci 54 [vr 0 0, z1, vr 30 j2, vi x3] [vi x3] dX8_film_51 rfl (fun r1 s1 => x_br dX8_film_54 (x_if (x_go 57 (x_st 58 dX8_film_57 rfl (x_st 59 dX8_film_58 rfl (x_st 60 dX8_film_59 rfl (x_st 63 dX8_film_60 rfl (x_st 64 dX8_film_63 rfl (x_ci 67 [vr 0 0, z1, vr 30 j2, vi x3] [vi x3, vr 30 j2] dX8_film_64 rfl (fun r2 s2 => x_ci 70 [vr 0 0, z1, vr 30 j2, vi x3] [] dX8_film_67 rfl (fun r3 s3 => x_st 71 dX8_film_70 rfl (x_so 74 [vr 0 0, z1, vr 30 j2, vi (w32 (x3 + 1))] dX8_film_71 rfl (x_st 46 dX8_film_74 rfl (rfl)))))))))))) (x_go 77 (x_st 78 dX8_film_77 rfl (x_st 81 dX8_film_78 rfl (x_ci 84 [vr 0 0, z1, vr 30 j2, vi x3] [] dX8_film_81 rfl (fun r4 s4 => x_ret dX8_film_84 rfl))))))))))
theorem dX8_drawn_0 : decode cX8_drawn 0 = .ok (.aload_n 0, 1) := by decide +kernel
theorem dX8_drawn_1 : decode cX8_drawn 1 = .ok (.getfield 37, 3) := by decide +kernel
theorem dX8_drawn_4 : decode cX8_drawn 4 = .ok (.iload_n 1, 1) := by decide +kernel
theorem dX8_drawn_5 : decode cX8_drawn 5 = .ok (.invokevirtual 207, 3) := by decide +kernel
theorem dX8_drawn_8 : decode cX8_drawn 8 = .ok (.aload_n 0, 1) := by decide +kernel
theorem dX8_drawn_9 : decode cX8_drawn 9 = .ok (.getfield 37, 3) := by decide +kernel
theorem dX8_drawn_12 : decode cX8_drawn 12 = .ok (.invokevirtual 135, 3) := by decide +kernel
theorem dX8_drawn_15 : decode cX8_drawn 15 = .ok (.ireturn, 1) := by decide +kernel
theorem qX8_drawn (d : Nat) (x1 : Int) (s : Sg) : RUN (d + 1) mX8_drawn [vr 0 0, vi x1] s = bV (RUN d mX7_spreadBySeed [vr 13 0, vi x1] s) (fun s1 => bI (RUN d mX7_playAll [vr 13 0] s1) (fun r2 s2 => some (some (vi r2), s2))) := x_run rfl (x_st 1 dX8_drawn_0 rfl (x_st 4 dX8_drawn_1 rfl (x_st 5 dX8_drawn_4 rfl (x_cv 8 [vr 0 0, vi x1] [] dX8_drawn_5 rfl (fun s1 => x_st 9 dX8_drawn_8 rfl (x_st 12 dX8_drawn_9 rfl (x_ci 15 [vr 0 0, vi x1] [] dX8_drawn_12 rfl (fun r2 s2 => x_ret dX8_drawn_15 rfl))))))))
theorem dX8_chance_0 : decode cX8_chance 0 = .ok (.iload_n 2, 1) := by decide +kernel
theorem dX8_chance_1 : decode cX8_chance 1 = .ok (.iconst 1, 1) := by decide +kernel
theorem dX8_chance_2 : decode cX8_chance 2 = .ok (.if_icmp .lt 18, 3) := by decide +kernel
theorem dX8_chance_5 : decode cX8_chance 5 = .ok (.iload_n 2, 1) := by decide +kernel
theorem dX8_chance_6 : decode cX8_chance 6 = .ok (.bipush 20, 2) := by decide +kernel
theorem dX8_chance_8 : decode cX8_chance 8 = .ok (.if_icmp .gt 12, 3) := by decide +kernel
theorem dX8_chance_11 : decode cX8_chance 11 = .ok (.iload_n 3, 1) := by decide +kernel
theorem dX8_chance_12 : decode cX8_chance 12 = .ok (.ifCond .lt 8, 3) := by decide +kernel
theorem dX8_chance_15 : decode cX8_chance 15 = .ok (.iload_n 3, 1) := by decide +kernel
theorem dX8_chance_16 : decode cX8_chance 16 = .ok (.iconst 1, 1) := by decide +kernel
theorem dX8_chance_17 : decode cX8_chance 17 = .ok (.if_icmp .le 7, 3) := by decide +kernel
theorem dX8_chance_20 : decode cX8_chance 20 = .ok (.ldc2_w 210, 3) := by decide +kernel
theorem dX8_chance_23 : decode cX8_chance 23 = .ok (.lreturn, 1) := by decide +kernel
theorem dX8_chance_24 : decode cX8_chance 24 = .ok (.aload_n 0, 1) := by decide +kernel
theorem dX8_chance_25 : decode cX8_chance 25 = .ok (.getfield 37, 3) := by decide +kernel
theorem dX8_chance_28 : decode cX8_chance 28 = .ok (.invokevirtual 132, 3) := by decide +kernel
theorem dX8_chance_31 : decode cX8_chance 31 = .ok (.aload_n 0, 1) := by decide +kernel
theorem dX8_chance_32 : decode cX8_chance 32 = .ok (.getfield 37, 3) := by decide +kernel
theorem dX8_chance_35 : decode cX8_chance 35 = .ok (.invokevirtual 135, 3) := by decide +kernel
theorem dX8_chance_38 : decode cX8_chance 38 = .ok (.istore 4, 2) := by decide +kernel
theorem dX8_chance_40 : decode cX8_chance 40 = .ok (.iconst 0, 1) := by decide +kernel
theorem dX8_chance_41 : decode cX8_chance 41 = .ok (.istore 5, 2) := by decide +kernel
theorem dX8_chance_43 : decode cX8_chance 43 = .ok (.iconst 0, 1) := by decide +kernel
theorem dX8_chance_44 : decode cX8_chance 44 = .ok (.istore 6, 2) := by decide +kernel
theorem dX8_chance_46 : decode cX8_chance 46 = .ok (.iload 6, 2) := by decide +kernel
theorem dX8_chance_48 : decode cX8_chance 48 = .ok (.iload_n 2, 1) := by decide +kernel
theorem dX8_chance_49 : decode cX8_chance 49 = .ok (.if_icmp .ge 35, 3) := by decide +kernel
theorem dX8_chance_52 : decode cX8_chance 52 = .ok (.aload_n 0, 1) := by decide +kernel
theorem dX8_chance_53 : decode cX8_chance 53 = .ok (.getfield 37, 3) := by decide +kernel
theorem dX8_chance_56 : decode cX8_chance 56 = .ok (.iload_n 1, 1) := by decide +kernel
theorem dX8_chance_57 : decode cX8_chance 57 = .ok (.iload 6, 2) := by decide +kernel
theorem dX8_chance_59 : decode cX8_chance 59 = .ok (.iadd, 1) := by decide +kernel
theorem dX8_chance_60 : decode cX8_chance 60 = .ok (.invokevirtual 207, 3) := by decide +kernel
theorem dX8_chance_63 : decode cX8_chance 63 = .ok (.aload_n 0, 1) := by decide +kernel
theorem dX8_chance_64 : decode cX8_chance 64 = .ok (.getfield 37, 3) := by decide +kernel
theorem dX8_chance_67 : decode cX8_chance 67 = .ok (.invokevirtual 135, 3) := by decide +kernel
theorem dX8_chance_70 : decode cX8_chance 70 = .ok (.iload 4, 2) := by decide +kernel
theorem dX8_chance_72 : decode cX8_chance 72 = .ok (.if_icmp .gt 6, 3) := by decide +kernel
theorem dX8_chance_75 : decode cX8_chance 75 = .ok (.iinc 5 1, 3) := by decide +kernel
theorem dX8_chance_78 : decode cX8_chance 78 = .ok (.iinc 6 1, 3) := by decide +kernel
theorem dX8_chance_81 : decode cX8_chance 81 = .ok (.goto (-35), 3) := by decide +kernel
theorem dX8_chance_84 : decode cX8_chance 84 = .ok (.iload 5, 2) := by decide +kernel
theorem dX8_chance_86 : decode cX8_chance 86 = .ok (.iload_n 2, 1) := by decide +kernel
theorem dX8_chance_87 : decode cX8_chance 87 = .ok (.invokestatic 212, 3) := by decide +kernel
theorem dX8_chance_90 : decode cX8_chance 90 = .ok (.istore 6, 2) := by decide +kernel
theorem dX8_chance_92 : decode cX8_chance 92 = .ok (.iload_n 3, 1) := by decide +kernel
theorem dX8_chance_93 : decode cX8_chance 93 = .ok (.ifCond .ne 12, 3) := by decide +kernel
theorem dX8_chance_96 : decode cX8_chance 96 = .ok (.iload 5, 2) := by decide +kernel
theorem dX8_chance_98 : decode cX8_chance 98 = .ok (.iload 6, 2) := by decide +kernel
theorem dX8_chance_100 : decode cX8_chance 100 = .ok (.idiv, 1) := by decide +kernel
theorem dX8_chance_101 : decode cX8_chance 101 = .ok (.i2l, 1) := by decide +kernel
theorem dX8_chance_102 : decode cX8_chance 102 = .ok (.goto 8, 3) := by decide +kernel
theorem dX8_chance_105 : decode cX8_chance 105 = .ok (.iload_n 2, 1) := by decide +kernel
theorem dX8_chance_106 : decode cX8_chance 106 = .ok (.iload 6, 2) := by decide +kernel
theorem dX8_chance_108 : decode cX8_chance 108 = .ok (.idiv, 1) := by decide +kernel
theorem dX8_chance_109 : decode cX8_chance 109 = .ok (.i2l, 1) := by decide +kernel
theorem dX8_chance_110 : decode cX8_chance 110 = .ok (.lreturn, 1) := by decide +kernel
theorem qX8_chance (d : Nat) (x1 : Int) (x2 : Int) (x3 : Int) (s : Sg) : RUN (d + 1) mX8_chance [vr 0 0, vi x1, vi x2, vi x3] s = if x2 < 1 then (some (some (vl (-4611686018427387904)), s)) else (if 20 < x2 then (some (some (vl (-4611686018427387904)), s)) else (if x3 < 0 then (some (some (vl (-4611686018427387904)), s)) else (if 1 < x3 then (some (some (vl (-4611686018427387904)), s)) else (bV (RUN d mX7_spread [vr 13 0] s) (fun s1 => bI (RUN d mX7_playAll [vr 13 0] s1) (fun r2 s2 => EV (d + 1) mX8_chance (46, [vr 0 0, vi x1, vi x2, vi x3, vi r2, vi 0, vi 0], [], s2))))))) := x_run rfl (x_st 1 dX8_chance_0 rfl (x_st 2 dX8_chance_1 rfl (x_br dX8_chance_2 (x_if (x_go 20 (x_st 23 dX8_chance_20 rfl (x_ret dX8_chance_23 rfl))) (x_go 5 (x_st 6 dX8_chance_5 rfl (x_st 8 dX8_chance_6 rfl (x_br dX8_chance_8 (x_if (x_go 20 (x_st 23 dX8_chance_20 rfl (x_ret dX8_chance_23 rfl))) (x_go 11 (x_st 12 dX8_chance_11 rfl (x_br dX8_chance_12 (x_if (x_go 20 (x_st 23 dX8_chance_20 rfl (x_ret dX8_chance_23 rfl))) (x_go 15 (x_st 16 dX8_chance_15 rfl (x_st 17 dX8_chance_16 rfl (x_br dX8_chance_17 (x_if (x_go 20 (x_st 23 dX8_chance_20 rfl (x_ret dX8_chance_23 rfl))) (x_go 24 (x_st 25 dX8_chance_24 rfl (x_st 28 dX8_chance_25 rfl (x_cv 31 [vr 0 0, vi x1, vi x2, vi x3, UU, UU, UU] [] dX8_chance_28 rfl (fun s1 => x_st 32 dX8_chance_31 rfl (x_st 35 dX8_chance_32 rfl (x_ci 38 [vr 0 0, vi x1, vi x2, vi x3, UU, UU, UU] [] dX8_chance_35 rfl (fun r2 s2 => x_so 40 [vr 0 0, vi x1, vi x2, vi x3, vi r2, UU, UU] dX8_chance_38 rfl (x_st 41 dX8_chance_40 rfl (x_so 43 [vr 0 0, vi x1, vi x2, vi x3, vi r2, vi 0, UU] dX8_chance_41 rfl (x_st 44 dX8_chance_43 rfl (x_so 46 [vr 0 0, vi x1, vi x2, vi x3, vi r2, vi 0, vi 0] dX8_chance_44 rfl (rfl)))))))))))))))))))))))))))))))
theorem qX8_chance_46 (d : Nat) (x1 : Int) (x2 : Int) (x3 : Int) (x4 : Int) (x5 : Int) (x6 : Int) (s : Sg) : EV (d + 1) mX8_chance (46, [vr 0 0, vi x1, vi x2, vi x3, vi x4, vi x5, vi x6], [], s) = if x6 < x2 then (bV (RUN d mX7_spreadBySeed [vr 13 0, vi (w32 (x1 + x6))] s) (fun s1 => bI (RUN d mX7_playAll [vr 13 0] s1) (fun r2 s2 => if x4 < r2 then (EV (d + 1) mX8_chance (78, [vr 0 0, vi x1, vi x2, vi x3, vi x4, vi x5, vi x6], [], s2)) else (EV (d + 1) mX8_chance (78, [vr 0 0, vi x1, vi x2, vi x3, vi x4, vi (w32 (x5 + 1)), vi x6], [], s2))))) else (bI (RUN d mX0_commonDivisor [vi x5, vi x2] s) (fun r3 s3 => if x3 = 0 then (if r3 = 0 then none else (some (some (vl (wdiv x5 r3)), s3))) else (if r3 = 0 then none else (some (some (vl (wdiv x2 r3)), s3))))) := x_st 48 dX8_chance_46 rfl (x_st 49 dX8_chance_48 rfl (x_br dX8_chance_49 (x_if (x_go 52 (x_st 53 dX8_chance_52 rfl (x_st 56 dX8_chance_53 rfl (x_st 57 dX8_chance_56 rfl (x_st 59 dX8_chance_57 rfl (x_st 60 dX8_chance_59 rfl (x_cv 63 [vr 0 0, vi x1, vi x2, vi x3, vi x4, vi x5, vi x6] [] dX8_chance_60 rfl (fun s1 => x_st 64 dX8_chance_63 rfl (x_st 67 dX8_chance_64 rfl (x_ci 70 [vr 0 0, vi x1, vi x2, vi x3, vi x4, vi x5, vi x6] [] dX8_chance_67 rfl (fun r2 s2 => x_st 72 dX8_chance_70 rfl (x_br dX8_chance_72 (x_if (x_go 78 (rfl)) (x_go 75 (x_so 78 [vr 0 0, vi x1, vi x2, vi x3, vi x4, vi (w32 (x5 + 1)), vi x6] dX8_chance_75 rfl (rfl)))))))))))))))) (x_go 84 (x_st 86 dX8_chance_84 rfl (x_st 87 dX8_chance_86 rfl (x_ci 90 [vr 0 0, vi x1, vi x2, vi x3, vi x4, vi x5, vi x6] [] dX8_chance_87 rfl (fun r3 s3 => x_so 92 [vr 0 0, vi x1, vi x2, vi x3, vi x4, vi x5, vi r3] dX8_chance_90 rfl (x_st 93 dX8_chance_92 rfl (x_br dX8_chance_93 (x_if (x_go 96 (x_st 98 dX8_chance_96 rfl (x_st 100 dX8_chance_98 rfl (x_br dX8_chance_100 (x_if x_no (x_go 101 (x_st 102 dX8_chance_101 rfl (x_st 110 dX8_chance_102 rfl (x_ret dX8_chance_110 rfl))))))))) (x_go 105 (x_st 106 dX8_chance_105 rfl (x_st 108 dX8_chance_106 rfl (x_br dX8_chance_108 (x_if x_no (x_go 109 (x_st 110 dX8_chance_109 rfl (x_ret dX8_chance_110 rfl)))))))))))))))))))
theorem qX8_chance_78 (d : Nat) (x1 : Int) (x2 : Int) (x3 : Int) (x4 : Int) (x5 : Int) (x6 : Int) (s : Sg) : EV d mX8_chance (78, [vr 0 0, vi x1, vi x2, vi x3, vi x4, vi x5, vi x6], [], s) = EV d mX8_chance (46, [vr 0 0, vi x1, vi x2, vi x3, vi x4, vi x5, vi (w32 (x6 + 1))], [], s) := x_so 81 [vr 0 0, vi x1, vi x2, vi x3, vi x4, vi x5, vi (w32 (x6 + 1))] dX8_chance_78 rfl (x_st 46 dX8_chance_81 rfl (rfl))
theorem dX8_image_0 : decode cX8_image 0 = .ok (.aload_n 0, 1) := by decide +kernel
theorem dX8_image_1 : decode cX8_image 1 = .ok (.getfield 53, 3) := by decide +kernel
theorem dX8_image_4 : decode cX8_image 4 = .ok (.aload_n 0, 1) := by decide +kernel
theorem dX8_image_5 : decode cX8_image 5 = .ok (.getfield 10, 3) := by decide +kernel
theorem dX8_image_8 : decode cX8_image 8 = .ok (.aload_n 0, 1) := by decide +kernel
theorem dX8_image_9 : decode cX8_image 9 = .ok (.getfield 19, 3) := by decide +kernel
theorem dX8_image_12 : decode cX8_image 12 = .ok (.invokevirtual 215, 3) := by decide +kernel
theorem dX8_image_15 : decode cX8_image 15 = .ok (.aload_n 0, 1) := by decide +kernel
theorem dX8_image_16 : decode cX8_image 16 = .ok (.getfield 10, 3) := by decide +kernel
theorem dX8_image_19 : decode cX8_image 19 = .ok (.invokevirtual 189, 3) := by decide +kernel
theorem dX8_image_22 : decode cX8_image 22 = .ok (.ireturn, 1) := by decide +kernel
theorem qX8_image (d : Nat) (s : Sg) : RUN (d + 1) mX8_image [vr 0 0] s = bV (RUN d mX2_take [vr 26 0, vr 1 0, vr 4 0] s) (fun s1 => bI (RUN d mX1_size [vr 1 0] s1) (fun r2 s2 => some (some (vi r2), s2))) := x_run rfl (x_st 1 dX8_image_0 rfl (x_st 4 dX8_image_1 rfl (x_st 5 dX8_image_4 rfl (x_st 8 dX8_image_5 rfl (x_st 9 dX8_image_8 rfl (x_st 12 dX8_image_9 rfl (x_cv 15 [vr 0 0] [] dX8_image_12 rfl (fun s1 => x_st 16 dX8_image_15 rfl (x_st 19 dX8_image_16 rfl (x_ci 22 [vr 0 0] [] dX8_image_19 rfl (fun r2 s2 => x_ret dX8_image_22 rfl)))))))))))
theorem dX8_back_0 : decode cX8_back 0 = .ok (.aload_n 0, 1) := by decide +kernel
theorem dX8_back_1 : decode cX8_back 1 = .ok (.getfield 53, 3) := by decide +kernel
theorem dX8_back_4 : decode cX8_back 4 = .ok (.invokevirtual 218, 3) := by decide +kernel
theorem dX8_back_7 : decode cX8_back 7 = .ok (.ifCond .ne 6, 3) := by decide +kernel
theorem dX8_back_10 : decode cX8_back 10 = .ok (.bipush (-3), 2) := by decide +kernel
theorem dX8_back_12 : decode cX8_back 12 = .ok (.ireturn, 1) := by decide +kernel
theorem dX8_back_13 : decode cX8_back 13 = .ok (.aload_n 0, 1) := by decide +kernel
theorem dX8_back_14 : decode cX8_back 14 = .ok (.getfield 53, 3) := by decide +kernel
theorem dX8_back_17 : decode cX8_back 17 = .ok (.aload_n 0, 1) := by decide +kernel
theorem dX8_back_18 : decode cX8_back 18 = .ok (.getfield 10, 3) := by decide +kernel
theorem dX8_back_21 : decode cX8_back 21 = .ok (.aload_n 0, 1) := by decide +kernel
theorem dX8_back_22 : decode cX8_back 22 = .ok (.getfield 19, 3) := by decide +kernel
theorem dX8_back_25 : decode cX8_back 25 = .ok (.invokevirtual 221, 3) := by decide +kernel
theorem dX8_back_28 : decode cX8_back 28 = .ok (.aload_n 0, 1) := by decide +kernel
theorem dX8_back_29 : decode cX8_back 29 = .ok (.getfield 10, 3) := by decide +kernel
theorem dX8_back_32 : decode cX8_back 32 = .ok (.invokevirtual 189, 3) := by decide +kernel
theorem dX8_back_35 : decode cX8_back 35 = .ok (.ireturn, 1) := by decide +kernel
theorem qX8_back (d : Nat) (s : Sg) : RUN (d + 1) mX8_back [vr 0 0] s = bI (RUN d mX2_isTaken [vr 26 0] s) (fun r1 s1 => if r1 = 0 then (some (some (vi (-3)), s1)) else (bV (RUN d mX2_layBack [vr 26 0, vr 1 0, vr 4 0] s1) (fun s2 => bI (RUN d mX1_size [vr 1 0] s2) (fun r3 s3 => some (some (vi r3), s3))))) := x_run rfl (x_st 1 dX8_back_0 rfl (x_st 4 dX8_back_1 rfl (x_ci 7 [vr 0 0] [] dX8_back_4 rfl (fun r1 s1 => x_br dX8_back_7 (x_if (x_go 10 (x_st 12 dX8_back_10 rfl (x_ret dX8_back_12 rfl))) (x_go 13 (x_st 14 dX8_back_13 rfl (x_st 17 dX8_back_14 rfl (x_st 18 dX8_back_17 rfl (x_st 21 dX8_back_18 rfl (x_st 22 dX8_back_21 rfl (x_st 25 dX8_back_22 rfl (x_cv 28 [vr 0 0] [] dX8_back_25 rfl (fun s2 => x_st 29 dX8_back_28 rfl (x_st 32 dX8_back_29 rfl (x_ci 35 [vr 0 0] [] dX8_back_32 rfl (fun r3 s3 => x_ret dX8_back_35 rfl)))))))))))))))))
theorem dX8_count_0 : decode cX8_count 0 = .ok (.iload_n 1, 1) := by decide +kernel
theorem dX8_count_1 : decode cX8_count 1 = .ok (.tableswitch 63 0 3 #[31, 39, 47, 55], 31) := by decide +kernel
theorem dX8_count_32 : decode cX8_count 32 = .ok (.aload_n 0, 1) := by decide +kernel
theorem dX8_count_33 : decode cX8_count 33 = .ok (.getfield 10, 3) := by decide +kernel
theorem dX8_count_36 : decode cX8_count 36 = .ok (.invokevirtual 189, 3) := by decide +kernel
theorem dX8_count_39 : decode cX8_count 39 = .ok (.ireturn, 1) := by decide +kernel
theorem dX8_count_40 : decode cX8_count 40 = .ok (.aload_n 0, 1) := by decide +kernel
theorem dX8_count_41 : decode cX8_count 41 = .ok (.getfield 19, 3) := by decide +kernel
theorem dX8_count_44 : decode cX8_count 44 = .ok (.invokevirtual 126, 3) := by decide +kernel
theorem dX8_count_47 : decode cX8_count 47 = .ok (.ireturn, 1) := by decide +kernel
theorem dX8_count_48 : decode cX8_count 48 = .ok (.aload_n 0, 1) := by decide +kernel
theorem dX8_count_49 : decode cX8_count 49 = .ok (.getfield 28, 3) := by decide +kernel
theorem dX8_count_52 : decode cX8_count 52 = .ok (.invokevirtual 119, 3) := by decide +kernel
theorem dX8_count_55 : decode cX8_count 55 = .ok (.ireturn, 1) := by decide +kernel
theorem dX8_count_56 : decode cX8_count 56 = .ok (.aload_n 0, 1) := by decide +kernel
theorem dX8_count_57 : decode cX8_count 57 = .ok (.getfield 19, 3) := by decide +kernel
theorem dX8_count_60 : decode cX8_count 60 = .ok (.invokevirtual 224, 3) := by decide +kernel
theorem dX8_count_63 : decode cX8_count 63 = .ok (.ireturn, 1) := by decide +kernel
theorem dX8_count_64 : decode cX8_count 64 = .ok (.bipush (-2), 2) := by decide +kernel
theorem dX8_count_66 : decode cX8_count 66 = .ok (.ireturn, 1) := by decide +kernel
theorem qX8_count (d : Nat) (x1 : Int) (s : Sg) : RUN (d + 1) mX8_count [vr 0 0, vi x1] s = if x1 = 0 then (bI (RUN d mX1_size [vr 1 0] s) (fun r1 s1 => some (some (vi r1), s1))) else if x1 = 1 then (bI (RUN d mX5_size [vr 4 0] s) (fun r2 s2 => some (some (vi r2), s2))) else if x1 = 2 then (bI (RUN d mX4_size [vr 11 0] s) (fun r3 s3 => some (some (vi r3), s3))) else if x1 = 3 then (bI (RUN d mX5_chosen [vr 4 0] s) (fun r4 s4 => some (some (vi r4), s4))) else (some (some (vi (-2)), s)) := x_run rfl (x_st 1 dX8_count_0 rfl (x_br dX8_count_1 (x_if (x_go 32 (x_st 33 dX8_count_32 rfl (x_st 36 dX8_count_33 rfl (x_ci 39 [vr 0 0, vi x1] [] dX8_count_36 rfl (fun r1 s1 => x_ret dX8_count_39 rfl))))) (x_if (x_go 40 (x_st 41 dX8_count_40 rfl (x_st 44 dX8_count_41 rfl (x_ci 47 [vr 0 0, vi x1] [] dX8_count_44 rfl (fun r2 s2 => x_ret dX8_count_47 rfl))))) (x_if (x_go 48 (x_st 49 dX8_count_48 rfl (x_st 52 dX8_count_49 rfl (x_ci 55 [vr 0 0, vi x1] [] dX8_count_52 rfl (fun r3 s3 => x_ret dX8_count_55 rfl))))) (x_if (x_go 56 (x_st 57 dX8_count_56 rfl (x_st 60 dX8_count_57 rfl (x_ci 63 [vr 0 0, vi x1] [] dX8_count_60 rfl (fun r4 s4 => x_ret dX8_count_63 rfl))))) (x_go 64 (x_st 66 dX8_count_64 rfl (x_ret dX8_count_66 rfl)))))))))
theorem dX8_sheet_0 : decode cX8_sheet 0 = .ok (.iload_n 1, 1) := by decide +kernel
theorem dX8_sheet_1 : decode cX8_sheet 1 = .ok (.invokestatic 182, 3) := by decide +kernel
theorem dX8_sheet_4 : decode cX8_sheet 4 = .ok (.ifCond .eq 13, 3) := by decide +kernel
theorem dX8_sheet_7 : decode cX8_sheet 7 = .ok (.iload_n 2, 1) := by decide +kernel
theorem dX8_sheet_8 : decode cX8_sheet 8 = .ok (.iconst (-1), 1) := by decide +kernel
theorem dX8_sheet_9 : decode cX8_sheet 9 = .ok (.if_icmp .lt 8, 3) := by decide +kernel
theorem dX8_sheet_12 : decode cX8_sheet 12 = .ok (.iload_n 2, 1) := by decide +kernel
theorem dX8_sheet_13 : decode cX8_sheet 13 = .ok (.iconst 3, 1) := by decide +kernel
theorem dX8_sheet_14 : decode cX8_sheet 14 = .ok (.if_icmp .lt 6, 3) := by decide +kernel
theorem dX8_sheet_17 : decode cX8_sheet 17 = .ok (.bipush (-2), 2) := by decide +kernel
theorem dX8_sheet_19 : decode cX8_sheet 19 = .ok (.ireturn, 1) := by decide +kernel
theorem dX8_sheet_20 : decode cX8_sheet 20 = .ok (.iload_n 2, 1) := by decide +kernel
theorem dX8_sheet_21 : decode cX8_sheet 21 = .ok (.iconst (-1), 1) := by decide +kernel
theorem dX8_sheet_22 : decode cX8_sheet 22 = .ok (.if_icmp .ne 16, 3) := by decide +kernel
theorem dX8_sheet_25 : decode cX8_sheet 25 = .ok (.aload_n 0, 1) := by decide +kernel
theorem dX8_sheet_26 : decode cX8_sheet 26 = .ok (.getfield 59, 3) := by decide +kernel
theorem dX8_sheet_29 : decode cX8_sheet 29 = .ok (.iload_n 1, 1) := by decide +kernel
theorem dX8_sheet_30 : decode cX8_sheet 30 = .ok (.aaload, 1) := by decide +kernel
theorem dX8_sheet_31 : decode cX8_sheet 31 = .ok (.iconst (-1), 1) := by decide +kernel
theorem dX8_sheet_32 : decode cX8_sheet 32 = .ok (.iconst 0, 1) := by decide +kernel
theorem dX8_sheet_33 : decode cX8_sheet 33 = .ok (.invokevirtual 201, 3) := by decide +kernel
theorem dX8_sheet_36 : decode cX8_sheet 36 = .ok (.iconst 1, 1) := by decide +kernel
theorem dX8_sheet_37 : decode cX8_sheet 37 = .ok (.ireturn, 1) := by decide +kernel
theorem dX8_sheet_38 : decode cX8_sheet 38 = .ok (.iload_n 3, 1) := by decide +kernel
theorem dX8_sheet_39 : decode cX8_sheet 39 = .ok (.bipush 40, 2) := by decide +kernel
theorem dX8_sheet_41 : decode cX8_sheet 41 = .ok (.if_icmp .le 6, 3) := by decide +kernel
theorem dX8_sheet_44 : decode cX8_sheet 44 = .ok (.bipush (-2), 2) := by decide +kernel
theorem dX8_sheet_46 : decode cX8_sheet 46 = .ok (.ireturn, 1) := by decide +kernel
theorem dX8_sheet_47 : decode cX8_sheet 47 = .ok (.iload_n 3, 1) := by decide +kernel
theorem dX8_sheet_48 : decode cX8_sheet 48 = .ok (.ifCond .ge 6, 3) := by decide +kernel
theorem dX8_sheet_51 : decode cX8_sheet 51 = .ok (.bipush (-14), 2) := by decide +kernel
theorem dX8_sheet_53 : decode cX8_sheet 53 = .ok (.ireturn, 1) := by decide +kernel
theorem dX8_sheet_54 : decode cX8_sheet 54 = .ok (.aload_n 0, 1) := by decide +kernel
theorem dX8_sheet_55 : decode cX8_sheet 55 = .ok (.getfield 59, 3) := by decide +kernel
theorem dX8_sheet_58 : decode cX8_sheet 58 = .ok (.iload_n 1, 1) := by decide +kernel
theorem dX8_sheet_59 : decode cX8_sheet 59 = .ok (.aaload, 1) := by decide +kernel
theorem dX8_sheet_60 : decode cX8_sheet 60 = .ok (.iload_n 2, 1) := by decide +kernel
theorem dX8_sheet_61 : decode cX8_sheet 61 = .ok (.iload_n 3, 1) := by decide +kernel
theorem dX8_sheet_62 : decode cX8_sheet 62 = .ok (.invokevirtual 201, 3) := by decide +kernel
theorem dX8_sheet_65 : decode cX8_sheet 65 = .ok (.iconst 1, 1) := by decide +kernel
theorem dX8_sheet_66 : decode cX8_sheet 66 = .ok (.ireturn, 1) := by decide +kernel
theorem qX8_sheet (d : Nat) (x1 : Int) (x2 : Int) (x3 : Int) (s : Sg) : RUN (d + 1) mX8_sheet [vr 0 0, vi x1, vi x2, vi x3] s = bI (RUN d mX8_isSheet [vi x1] s) (fun r1 s1 => if r1 = 0 then (some (some (vi (-2)), s1)) else (if x2 < (-1) then (some (some (vi (-2)), s1)) else (if x2 < 3 then (if x2 = (-1) then (if inb x1 4 then (bV (RUN d mX6_become [vr 30 (Int.toNat x1), vi (-1), vi 0] s1) (fun s2 => some (some (vi 1), s2))) else none) else (if 40 < x3 then (some (some (vi (-2)), s1)) else (if x3 < 0 then (some (some (vi (-14)), s1)) else (if inb x1 4 then (bV (RUN d mX6_become [vr 30 (Int.toNat x1), vi x2, vi x3] s1) (fun s3 => some (some (vi 1), s3))) else none)))) else (some (some (vi (-2)), s1))))) := x_run rfl (x_st 1 dX8_sheet_0 rfl (x_ci 4 [vr 0 0, vi x1, vi x2, vi x3] [] dX8_sheet_1 rfl (fun r1 s1 => x_br dX8_sheet_4 (x_if (x_go 17 (x_st 19 dX8_sheet_17 rfl (x_ret dX8_sheet_19 rfl))) (x_go 7 (x_st 8 dX8_sheet_7 rfl (x_st 9 dX8_sheet_8 rfl (x_br dX8_sheet_9 (x_if (x_go 17 (x_st 19 dX8_sheet_17 rfl (x_ret dX8_sheet_19 rfl))) (x_go 12 (x_st 13 dX8_sheet_12 rfl (x_st 14 dX8_sheet_13 rfl (x_br dX8_sheet_14 (x_if (x_go 20 (x_st 21 dX8_sheet_20 rfl (x_st 22 dX8_sheet_21 rfl (x_br dX8_sheet_22 (x_if (x_go 25 (x_st 26 dX8_sheet_25 rfl (x_st 29 dX8_sheet_26 rfl (x_st 30 dX8_sheet_29 rfl (x_br dX8_sheet_30 (x_if (x_go 31 (x_st 32 dX8_sheet_31 rfl (x_st 33 dX8_sheet_32 rfl (x_cv 36 [vr 0 0, vi x1, vi x2, vi x3] [] dX8_sheet_33 rfl (fun s2 => x_st 37 dX8_sheet_36 rfl (x_ret dX8_sheet_37 rfl)))))) x_no)))))) (x_go 38 (x_st 39 dX8_sheet_38 rfl (x_st 41 dX8_sheet_39 rfl (x_br dX8_sheet_41 (x_if (x_go 44 (x_st 46 dX8_sheet_44 rfl (x_ret dX8_sheet_46 rfl))) (x_go 47 (x_st 48 dX8_sheet_47 rfl (x_br dX8_sheet_48 (x_if (x_go 51 (x_st 53 dX8_sheet_51 rfl (x_ret dX8_sheet_53 rfl))) (x_go 54 (x_st 55 dX8_sheet_54 rfl (x_st 58 dX8_sheet_55 rfl (x_st 59 dX8_sheet_58 rfl (x_br dX8_sheet_59 (x_if (x_go 60 (x_st 61 dX8_sheet_60 rfl (x_st 62 dX8_sheet_61 rfl (x_cv 65 [vr 0 0, vi x1, vi x2, vi x3] [] dX8_sheet_62 rfl (fun s3 => x_st 66 dX8_sheet_65 rfl (x_ret dX8_sheet_66 rfl)))))) x_no)))))))))))))))))))) (x_go 17 (x_st 19 dX8_sheet_17 rfl (x_ret dX8_sheet_19 rfl)))))))))))))))))
theorem dX8_cell_0 : decode cX8_cell 0 = .ok (.iload_n 1, 1) := by decide +kernel
theorem dX8_cell_1 : decode cX8_cell 1 = .ok (.invokestatic 182, 3) := by decide +kernel
theorem dX8_cell_4 : decode cX8_cell 4 = .ok (.ifCond .ne 6, 3) := by decide +kernel
theorem dX8_cell_7 : decode cX8_cell 7 = .ok (.bipush (-2), 2) := by decide +kernel
theorem dX8_cell_9 : decode cX8_cell 9 = .ok (.ireturn, 1) := by decide +kernel
theorem dX8_cell_10 : decode cX8_cell 10 = .ok (.aload_n 0, 1) := by decide +kernel
theorem dX8_cell_11 : decode cX8_cell 11 = .ok (.getfield 59, 3) := by decide +kernel
theorem dX8_cell_14 : decode cX8_cell 14 = .ok (.iload_n 1, 1) := by decide +kernel
theorem dX8_cell_15 : decode cX8_cell 15 = .ok (.aaload, 1) := by decide +kernel
theorem dX8_cell_16 : decode cX8_cell 16 = .ok (.astore 4, 2) := by decide +kernel
theorem dX8_cell_18 : decode cX8_cell 18 = .ok (.aload 4, 2) := by decide +kernel
theorem dX8_cell_20 : decode cX8_cell 20 = .ok (.invokevirtual 185, 3) := by decide +kernel
theorem dX8_cell_23 : decode cX8_cell 23 = .ok (.ifCond .eq 6, 3) := by decide +kernel
theorem dX8_cell_26 : decode cX8_cell 26 = .ok (.bipush (-11), 2) := by decide +kernel
theorem dX8_cell_28 : decode cX8_cell 28 = .ok (.ireturn, 1) := by decide +kernel
theorem dX8_cell_29 : decode cX8_cell 29 = .ok (.aload 4, 2) := by decide +kernel
theorem dX8_cell_31 : decode cX8_cell 31 = .ok (.iload_n 2, 1) := by decide +kernel
theorem dX8_cell_32 : decode cX8_cell 32 = .ok (.iload_n 3, 1) := by decide +kernel
theorem dX8_cell_33 : decode cX8_cell 33 = .ok (.invokevirtual 205, 3) := by decide +kernel
theorem dX8_cell_36 : decode cX8_cell 36 = .ok (.ifCond .eq 7, 3) := by decide +kernel
theorem dX8_cell_39 : decode cX8_cell 39 = .ok (.iconst 1, 1) := by decide +kernel
theorem dX8_cell_40 : decode cX8_cell 40 = .ok (.goto 5, 3) := by decide +kernel
theorem dX8_cell_43 : decode cX8_cell 43 = .ok (.bipush (-12), 2) := by decide +kernel
theorem dX8_cell_45 : decode cX8_cell 45 = .ok (.ireturn, 1) := by decide +kernel
theorem qX8_cell (d : Nat) (x1 : Int) (x2 : Int) (x3 : Int) (s : Sg) : RUN (d + 1) mX8_cell [vr 0 0, vi x1, vi x2, vi x3] s = bI (RUN d mX8_isSheet [vi x1] s) (fun r1 s1 => if r1 = 0 then (some (some (vi (-2)), s1)) else (if inb x1 4 then (bI (RUN d mX6_isMissing [vr 30 (Int.toNat x1)] s1) (fun r2 s2 => if r2 = 0 then (bI (RUN d mX6_put [vr 30 (Int.toNat x1), vi x2, vi x3] s2) (fun r3 s3 => if r3 = 0 then (some (some (vi (-12)), s3)) else (some (some (vi 1), s3)))) else (some (some (vi (-11)), s2)))) else none)) := x_run rfl (x_st 1 dX8_cell_0 rfl (x_ci 4 [vr 0 0, vi x1, vi x2, vi x3, UU] [] dX8_cell_1 rfl (fun r1 s1 => x_br dX8_cell_4 (x_if (x_go 7 (x_st 9 dX8_cell_7 rfl (x_ret dX8_cell_9 rfl))) (x_go 10 (x_st 11 dX8_cell_10 rfl (x_st 14 dX8_cell_11 rfl (x_st 15 dX8_cell_14 rfl (x_br dX8_cell_15 (x_if (x_go 16 (x_so 18 [vr 0 0, vi x1, vi x2, vi x3, vr 30 (Int.toNat x1)] dX8_cell_16 rfl (x_st 20 dX8_cell_18 rfl (x_ci 23 [vr 0 0, vi x1, vi x2, vi x3, vr 30 (Int.toNat x1)] [] dX8_cell_20 rfl (fun r2 s2 => x_br dX8_cell_23 (x_if (x_go 29 (x_st 31 dX8_cell_29 rfl (x_st 32 dX8_cell_31 rfl (x_st 33 dX8_cell_32 rfl (x_ci 36 [vr 0 0, vi x1, vi x2, vi x3, vr 30 (Int.toNat x1)] [] dX8_cell_33 rfl (fun r3 s3 => x_br dX8_cell_36 (x_if (x_go 43 (x_st 45 dX8_cell_43 rfl (x_ret dX8_cell_45 rfl))) (x_go 39 (x_st 40 dX8_cell_39 rfl (x_st 45 dX8_cell_40 rfl (x_ret dX8_cell_45 rfl))))))))))) (x_go 26 (x_st 28 dX8_cell_26 rfl (x_ret dX8_cell_28 rfl))))))))) x_no))))))))))
theorem dX8_copy_0 : decode cX8_copy 0 = .ok (.iload_n 1, 1) := by decide +kernel
theorem dX8_copy_1 : decode cX8_copy 1 = .ok (.invokestatic 182, 3) := by decide +kernel
theorem dX8_copy_4 : decode cX8_copy 4 = .ok (.ifCond .eq 10, 3) := by decide +kernel
theorem dX8_copy_7 : decode cX8_copy 7 = .ok (.iload_n 3, 1) := by decide +kernel
theorem dX8_copy_8 : decode cX8_copy 8 = .ok (.invokestatic 182, 3) := by decide +kernel
theorem dX8_copy_11 : decode cX8_copy 11 = .ok (.ifCond .ne 6, 3) := by decide +kernel
theorem dX8_copy_14 : decode cX8_copy 14 = .ok (.bipush (-2), 2) := by decide +kernel
theorem dX8_copy_16 : decode cX8_copy 16 = .ok (.ireturn, 1) := by decide +kernel
theorem dX8_copy_17 : decode cX8_copy 17 = .ok (.aload_n 0, 1) := by decide +kernel
theorem dX8_copy_18 : decode cX8_copy 18 = .ok (.getfield 59, 3) := by decide +kernel
theorem dX8_copy_21 : decode cX8_copy 21 = .ok (.iload_n 1, 1) := by decide +kernel
theorem dX8_copy_22 : decode cX8_copy 22 = .ok (.aaload, 1) := by decide +kernel
theorem dX8_copy_23 : decode cX8_copy 23 = .ok (.astore 6, 2) := by decide +kernel
theorem dX8_copy_25 : decode cX8_copy 25 = .ok (.aload_n 0, 1) := by decide +kernel
theorem dX8_copy_26 : decode cX8_copy 26 = .ok (.getfield 59, 3) := by decide +kernel
theorem dX8_copy_29 : decode cX8_copy 29 = .ok (.iload_n 3, 1) := by decide +kernel
theorem dX8_copy_30 : decode cX8_copy 30 = .ok (.aaload, 1) := by decide +kernel
theorem dX8_copy_31 : decode cX8_copy 31 = .ok (.astore 7, 2) := by decide +kernel
theorem dX8_copy_33 : decode cX8_copy 33 = .ok (.aload 6, 2) := by decide +kernel
theorem dX8_copy_35 : decode cX8_copy 35 = .ok (.invokevirtual 185, 3) := by decide +kernel
theorem dX8_copy_38 : decode cX8_copy 38 = .ok (.ifCond .ne 11, 3) := by decide +kernel
theorem dX8_copy_41 : decode cX8_copy 41 = .ok (.aload 7, 2) := by decide +kernel
theorem dX8_copy_43 : decode cX8_copy 43 = .ok (.invokevirtual 185, 3) := by decide +kernel
theorem dX8_copy_46 : decode cX8_copy 46 = .ok (.ifCond .eq 6, 3) := by decide +kernel
theorem dX8_copy_49 : decode cX8_copy 49 = .ok (.bipush (-11), 2) := by decide +kernel
theorem dX8_copy_51 : decode cX8_copy 51 = .ok (.ireturn, 1) := by decide +kernel
theorem dX8_copy_52 : decode cX8_copy 52 = .ok (.aload 6, 2) := by decide +kernel
theorem dX8_copy_54 : decode cX8_copy 54 = .ok (.invokevirtual 227, 3) := by decide +kernel
theorem dX8_copy_57 : decode cX8_copy 57 = .ok (.aload 7, 2) := by decide +kernel
theorem dX8_copy_59 : decode cX8_copy 59 = .ok (.invokevirtual 227, 3) := by decide +kernel
theorem dX8_copy_62 : decode cX8_copy 62 = .ok (.if_icmp .eq 6, 3) := by decide +kernel
theorem dX8_copy_65 : decode cX8_copy 65 = .ok (.bipush (-13), 2) := by decide +kernel
theorem dX8_copy_67 : decode cX8_copy 67 = .ok (.ireturn, 1) := by decide +kernel
theorem dX8_copy_68 : decode cX8_copy 68 = .ok (.aload 6, 2) := by decide +kernel
theorem dX8_copy_70 : decode cX8_copy 70 = .ok (.iload_n 2, 1) := by decide +kernel
theorem dX8_copy_71 : decode cX8_copy 71 = .ok (.iload 5, 2) := by decide +kernel
theorem dX8_copy_73 : decode cX8_copy 73 = .ok (.invokevirtual 230, 3) := by decide +kernel
theorem dX8_copy_76 : decode cX8_copy 76 = .ok (.ifCond .eq 15, 3) := by decide +kernel
theorem dX8_copy_79 : decode cX8_copy 79 = .ok (.aload 7, 2) := by decide +kernel
theorem dX8_copy_81 : decode cX8_copy 81 = .ok (.iload 4, 2) := by decide +kernel
theorem dX8_copy_83 : decode cX8_copy 83 = .ok (.iload 5, 2) := by decide +kernel
theorem dX8_copy_85 : decode cX8_copy 85 = .ok (.invokevirtual 230, 3) := by decide +kernel
theorem dX8_copy_88 : decode cX8_copy 88 = .ok (.ifCond .ne 6, 3) := by decide +kernel
theorem dX8_copy_91 : decode cX8_copy 91 = .ok (.bipush (-12), 2) := by decide +kernel
theorem dX8_copy_93 : decode cX8_copy 93 = .ok (.ireturn, 1) := by decide +kernel
theorem dX8_copy_94 : decode cX8_copy 94 = .ok (.aload 7, 2) := by decide +kernel
theorem dX8_copy_96 : decode cX8_copy 96 = .ok (.iload 4, 2) := by decide +kernel
theorem dX8_copy_98 : decode cX8_copy 98 = .ok (.aload 6, 2) := by decide +kernel
theorem dX8_copy_100 : decode cX8_copy 100 = .ok (.iload_n 2, 1) := by decide +kernel
theorem dX8_copy_101 : decode cX8_copy 101 = .ok (.iload 5, 2) := by decide +kernel
theorem dX8_copy_103 : decode cX8_copy 103 = .ok (.invokevirtual 233, 3) := by decide +kernel
theorem dX8_copy_106 : decode cX8_copy 106 = .ok (.iload 5, 2) := by decide +kernel
theorem dX8_copy_108 : decode cX8_copy 108 = .ok (.ireturn, 1) := by decide +kernel
theorem qX8_copy (d : Nat) (x1 : Int) (x2 : Int) (x3 : Int) (x4 : Int) (x5 : Int) (s : Sg) : RUN (d + 1) mX8_copy [vr 0 0, vi x1, vi x2, vi x3, vi x4, vi x5] s = bI (RUN d mX8_isSheet [vi x1] s) (fun r1 s1 => if r1 = 0 then (some (some (vi (-2)), s1)) else (bI (RUN d mX8_isSheet [vi x3] s1) (fun r2 s2 => if r2 = 0 then (some (some (vi (-2)), s2)) else (if inb x1 4 then (if inb x3 4 then (bI (RUN d mX6_isMissing [vr 30 (Int.toNat x1)] s2) (fun r3 s3 => if r3 = 0 then (bI (RUN d mX6_isMissing [vr 30 (Int.toNat x3)] s3) (fun r4 s4 => if r4 = 0 then (bI (RUN d mX6_sort [vr 30 (Int.toNat x1)] s4) (fun r5 s5 => bI (RUN d mX6_sort [vr 30 (Int.toNat x3)] s5) (fun r6 s6 => if r5 = r6 then (bI (RUN d mX6_hasRun [vr 30 (Int.toNat x1), vi x2, vi x5] s6) (fun r7 s7 => if r7 = 0 then (some (some (vi (-12)), s7)) else (bI (RUN d mX6_hasRun [vr 30 (Int.toNat x3), vi x4, vi x5] s7) (fun r8 s8 => if r8 = 0 then (some (some (vi (-12)), s8)) else (bV (RUN d mX6_putRun [vr 30 (Int.toNat x3), vi x4, vr 30 (Int.toNat x1), vi x2, vi x5] s8) (fun s9 => some (some (vi x5), s9))))))) else (some (some (vi (-13)), s6))))) else (some (some (vi (-11)), s4)))) else (some (some (vi (-11)), s3)))) else none) else none)))) := x_run rfl (x_st 1 dX8_copy_0 rfl (x_ci 4 [vr 0 0, vi x1, vi x2, vi x3, vi x4, vi x5, UU, UU] [] dX8_copy_1 rfl (fun r1 s1 => x_br dX8_copy_4 (x_if (x_go 14 (x_st 16 dX8_copy_14 rfl (x_ret dX8_copy_16 rfl))) (x_go 7 (x_st 8 dX8_copy_7 rfl (x_ci 11 [vr 0 0, vi x1, vi x2, vi x3, vi x4, vi x5, UU, UU] [] dX8_copy_8 rfl (fun r2 s2 => x_br dX8_copy_11 (x_if (x_go 14 (x_st 16 dX8_copy_14 rfl (x_ret dX8_copy_16 rfl))) (x_go 17 (x_st 18 dX8_copy_17 rfl (x_st 21 dX8_copy_18 rfl (x_st 22 dX8_copy_21 rfl (x_br dX8_copy_22 (x_if (x_go 23 (x_so 25 [vr 0 0, vi x1, vi x2, vi x3, vi x4, vi x5, vr 30 (Int.toNat x1), UU] dX8_copy_23 rfl (x_st 26 dX8_copy_25 rfl (x_st 29 dX8_copy_26 rfl (x_st 30 dX8_copy_29 rfl (x_br dX8_copy_30 (x_if (x_go 31 (x_so 33 [vr 0 0, vi x1, vi x2, vi x3, vi x4, vi x5, vr 30 (Int.toNat x1), vr 30 (Int.toNat x3)] dX8_copy_31 rfl (x_st 35 dX8_copy_33 rfl (x_ci 38 [vr 0 0, vi x1, vi x2, vi x3, vi x4, vi x5, vr 30 (Int.toNat x1), vr 30 (Int.toNat x3)] [] dX8_copy_35 rfl (fun r3 s3 => x_br dX8_copy_38 (x_if (x_go 41 (x_st 43 dX8_copy_41 rfl (x_ci 46 [vr 0 0, vi x1, vi x2, vi x3, vi x4, vi x5, vr 30 (Int.toNat x1), vr 30 (Int.toNat x3)] [] dX8_copy_43 rfl (fun r4 s4 => x_br dX8_copy_46 (x_if (x_go 52 (x_st 54 dX8_copy_52 rfl (x_ci 57 [vr 0 0, vi x1, vi x2, vi x3, vi x4, vi x5, vr 30 (Int.toNat x1), vr 30 (Int.toNat x3)] [] dX8_copy_54 rfl (fun r5 s5 => x_st 59 dX8_copy_57 rfl (x_ci 62 [vr 0 0, vi x1, vi x2, vi x3, vi x4, vi x5, vr 30 (Int.toNat x1), vr 30 (Int.toNat x3)] [vi r5] dX8_copy_59 rfl (fun r6 s6 => x_br dX8_copy_62 (x_if (x_go 68 (x_st 70 dX8_copy_68 rfl (x_st 71 dX8_copy_70 rfl (x_st 73 dX8_copy_71 rfl (x_ci 76 [vr 0 0, vi x1, vi x2, vi x3, vi x4, vi x5, vr 30 (Int.toNat x1), vr 30 (Int.toNat x3)] [] dX8_copy_73 rfl (fun r7 s7 => x_br dX8_copy_76 (x_if (x_go 91 (x_st 93 dX8_copy_91 rfl (x_ret dX8_copy_93 rfl))) (x_go 79 (x_st 81 dX8_copy_79 rfl (x_st 83 dX8_copy_81 rfl (x_st 85 dX8_copy_83 rfl (x_ci 88 [vr 0 0, vi x1, vi x2, vi x3, vi x4, vi x5, vr 30 (Int.toNat x1), vr 30 (Int.toNat x3)] [] dX8_copy_85 rfl (fun r8 s8 => x_br dX8_copy_88 (x_if (x_go 91 (x_st 93 dX8_copy_91 rfl (x_ret dX8_copy_93 rfl))) (x_go 94 (x_st 96 dX8_copy_94 rfl (x_st 98 dX8_copy_96 rfl (x_st 100 dX8_copy_98 rfl (x_st 101 dX8_copy_100 rfl (x_st 103 dX8_copy_101 rfl (x_cv 106 [vr 0 0, vi x1, vi x2, vi x3, vi x4, vi x5, vr 30 (Int.toNat x1), vr 30 (Int.toNat x3)] [] dX8_copy_103 rfl (fun s9 => x_st 108 dX8_copy_106 rfl (x_ret dX8_copy_108 rfl))))))))))))))))))))))) (x_go 65 (x_st 67 dX8_copy_65 rfl (x_ret dX8_copy_67 rfl)))))))))) (x_go 49 (x_st 51 dX8_copy_49 rfl (x_ret dX8_copy_51 rfl)))))))) (x_go 49 (x_st 51 dX8_copy_49 rfl (x_ret dX8_copy_51 rfl))))))))) x_no))))))) x_no)))))))))))))))
theorem dX8_cars_0 : decode cX8_cars 0 = .ok (.iload_n 1, 1) := by decide +kernel
theorem dX8_cars_1 : decode cX8_cars 1 = .ok (.invokestatic 182, 3) := by decide +kernel
theorem dX8_cars_4 : decode cX8_cars 4 = .ok (.ifCond .eq 24, 3) := by decide +kernel
theorem dX8_cars_7 : decode cX8_cars 7 = .ok (.iload_n 2, 1) := by decide +kernel
theorem dX8_cars_8 : decode cX8_cars 8 = .ok (.ifCond .lt 20, 3) := by decide +kernel
theorem dX8_cars_11 : decode cX8_cars 11 = .ok (.iload_n 2, 1) := by decide +kernel
theorem dX8_cars_12 : decode cX8_cars 12 = .ok (.iconst 3, 1) := by decide +kernel
theorem dX8_cars_13 : decode cX8_cars 13 = .ok (.if_icmp .ge 15, 3) := by decide +kernel
theorem dX8_cars_16 : decode cX8_cars 16 = .ok (.iload 4, 2) := by decide +kernel
theorem dX8_cars_18 : decode cX8_cars 18 = .ok (.ifCond .lt 10, 3) := by decide +kernel
theorem dX8_cars_21 : decode cX8_cars 21 = .ok (.iload 4, 2) := by decide +kernel
theorem dX8_cars_23 : decode cX8_cars 23 = .ok (.bipush 6, 2) := by decide +kernel
theorem dX8_cars_25 : decode cX8_cars 25 = .ok (.if_icmp .le 6, 3) := by decide +kernel
theorem dX8_cars_28 : decode cX8_cars 28 = .ok (.bipush (-2), 2) := by decide +kernel
theorem dX8_cars_30 : decode cX8_cars 30 = .ok (.ireturn, 1) := by decide +kernel
theorem dX8_cars_31 : decode cX8_cars 31 = .ok (.aload_n 0, 1) := by decide +kernel
theorem dX8_cars_32 : decode cX8_cars 32 = .ok (.getfield 59, 3) := by decide +kernel
theorem dX8_cars_35 : decode cX8_cars 35 = .ok (.iload_n 1, 1) := by decide +kernel
theorem dX8_cars_36 : decode cX8_cars 36 = .ok (.aaload, 1) := by decide +kernel
theorem dX8_cars_37 : decode cX8_cars 37 = .ok (.astore 5, 2) := by decide +kernel
theorem dX8_cars_39 : decode cX8_cars 39 = .ok (.aload 5, 2) := by decide +kernel
theorem dX8_cars_41 : decode cX8_cars 41 = .ok (.invokevirtual 185, 3) := by decide +kernel
theorem dX8_cars_44 : decode cX8_cars 44 = .ok (.ifCond .eq 6, 3) := by decide +kernel
theorem dX8_cars_47 : decode cX8_cars 47 = .ok (.bipush (-11), 2) := by decide +kernel
theorem dX8_cars_49 : decode cX8_cars 49 = .ok (.ireturn, 1) := by decide +kernel
theorem dX8_cars_50 : decode cX8_cars 50 = .ok (.aload 5, 2) := by decide +kernel
theorem dX8_cars_52 : decode cX8_cars 52 = .ok (.invokevirtual 227, 3) := by decide +kernel
theorem dX8_cars_55 : decode cX8_cars 55 = .ok (.iload_n 2, 1) := by decide +kernel
theorem dX8_cars_56 : decode cX8_cars 56 = .ok (.if_icmp .eq 6, 3) := by decide +kernel
theorem dX8_cars_59 : decode cX8_cars 59 = .ok (.bipush (-13), 2) := by decide +kernel
theorem dX8_cars_61 : decode cX8_cars 61 = .ok (.ireturn, 1) := by decide +kernel
theorem dX8_cars_62 : decode cX8_cars 62 = .ok (.iconst 0, 1) := by decide +kernel
theorem dX8_cars_63 : decode cX8_cars 63 = .ok (.istore 6, 2) := by decide +kernel
theorem dX8_cars_65 : decode cX8_cars 65 = .ok (.iload_n 3, 1) := by decide +kernel
theorem dX8_cars_66 : decode cX8_cars 66 = .ok (.istore 7, 2) := by decide +kernel
theorem dX8_cars_68 : decode cX8_cars 68 = .ok (.iconst 0, 1) := by decide +kernel
theorem dX8_cars_69 : decode cX8_cars 69 = .ok (.istore 8, 2) := by decide +kernel
theorem dX8_cars_71 : decode cX8_cars 71 = .ok (.iload 8, 2) := by decide +kernel
theorem dX8_cars_73 : decode cX8_cars 73 = .ok (.iload 4, 2) := by decide +kernel
theorem dX8_cars_75 : decode cX8_cars 75 = .ok (.if_icmp .ge 64, 3) := by decide +kernel
theorem dX8_cars_78 : decode cX8_cars 78 = .ok (.aload 5, 2) := by decide +kernel
theorem dX8_cars_80 : decode cX8_cars 80 = .ok (.iload 7, 2) := by decide +kernel
theorem dX8_cars_82 : decode cX8_cars 82 = .ok (.iconst 3, 1) := by decide +kernel
theorem dX8_cars_83 : decode cX8_cars 83 = .ok (.invokevirtual 230, 3) := by decide +kernel
theorem dX8_cars_86 : decode cX8_cars 86 = .ok (.ifCond .ne 6, 3) := by decide +kernel
theorem dX8_cars_89 : decode cX8_cars 89 = .ok (.bipush (-12), 2) := by decide +kernel
theorem dX8_cars_91 : decode cX8_cars 91 = .ok (.ireturn, 1) := by decide +kernel
theorem dX8_cars_92 : decode cX8_cars 92 = .ok (.aload_n 0, 1) := by decide +kernel
theorem dX8_cars_93 : decode cX8_cars 93 = .ok (.getfield 10, 3) := by decide +kernel
theorem dX8_cars_96 : decode cX8_cars 96 = .ok (.aload 5, 2) := by decide +kernel
theorem dX8_cars_98 : decode cX8_cars 98 = .ok (.iload 7, 2) := by decide +kernel
theorem dX8_cars_100 : decode cX8_cars 100 = .ok (.invokevirtual 237, 3) := by decide +kernel
theorem dX8_cars_103 : decode cX8_cars 103 = .ok (.aload 5, 2) := by decide +kernel
theorem dX8_cars_105 : decode cX8_cars 105 = .ok (.iload 7, 2) := by decide +kernel
theorem dX8_cars_107 : decode cX8_cars 107 = .ok (.iconst 1, 1) := by decide +kernel
theorem dX8_cars_108 : decode cX8_cars 108 = .ok (.iadd, 1) := by decide +kernel
theorem dX8_cars_109 : decode cX8_cars 109 = .ok (.invokevirtual 237, 3) := by decide +kernel
theorem dX8_cars_112 : decode cX8_cars 112 = .ok (.aload 5, 2) := by decide +kernel
theorem dX8_cars_114 : decode cX8_cars 114 = .ok (.iload 7, 2) := by decide +kernel
theorem dX8_cars_116 : decode cX8_cars 116 = .ok (.iconst 2, 1) := by decide +kernel
theorem dX8_cars_117 : decode cX8_cars 117 = .ok (.iadd, 1) := by decide +kernel
theorem dX8_cars_118 : decode cX8_cars 118 = .ok (.invokevirtual 237, 3) := by decide +kernel
theorem dX8_cars_121 : decode cX8_cars 121 = .ok (.invokevirtual 89, 3) := by decide +kernel
theorem dX8_cars_124 : decode cX8_cars 124 = .ok (.ifCond .lt 6, 3) := by decide +kernel
theorem dX8_cars_127 : decode cX8_cars 127 = .ok (.iinc 6 1, 3) := by decide +kernel
theorem dX8_cars_130 : decode cX8_cars 130 = .ok (.iinc 7 3, 3) := by decide +kernel
theorem dX8_cars_133 : decode cX8_cars 133 = .ok (.iinc 8 1, 3) := by decide +kernel
theorem dX8_cars_136 : decode cX8_cars 136 = .ok (.goto (-65), 3) := by decide +kernel
theorem dX8_cars_139 : decode cX8_cars 139 = .ok (.iload 6, 2) := by decide +kernel
theorem dX8_cars_141 : decode cX8_cars 141 = .ok (.ireturn, 1) := by decide +kernel
theorem qX8_cars (d : Nat) (x1 : Int) (x2 : Int) (x3 : Int) (x4 : Int) (s : Sg) : RUN (d + 1) mX8_cars [vr 0 0, vi x1, vi x2, vi x3, vi x4] s = bI (RUN d mX8_isSheet [vi x1] s) (fun r1 s1 => if r1 = 0 then (some (some (vi (-2)), s1)) else (if x2 < 0 then (some (some (vi (-2)), s1)) else (if x2 < 3 then (if x4 < 0 then (some (some (vi (-2)), s1)) else (if 6 < x4 then (some (some (vi (-2)), s1)) else (if inb x1 4 then (bI (RUN d mX6_isMissing [vr 30 (Int.toNat x1)] s1) (fun r2 s2 => if r2 = 0 then (bI (RUN d mX6_sort [vr 30 (Int.toNat x1)] s2) (fun r3 s3 => if r3 = x2 then (EV (d + 1) mX8_cars (71, [vr 0 0, vi x1, vi x2, vi x3, vi x4, vr 30 (Int.toNat x1), vi 0, vi x3, vi 0], [], s3)) else (some (some (vi (-13)), s3)))) else (some (some (vi (-11)), s2)))) else none))) else (some (some (vi (-2)), s1))))) := x_run rfl (x_st 1 dX8_cars_0 rfl (x_ci 4 [vr 0 0, vi x1, vi x2, vi x3, vi x4, UU, UU, UU, UU] [] dX8_cars_1 rfl (fun r1 s1 => x_br dX8_cars_4 (x_if (x_go 28 (x_st 30 dX8_cars_28 rfl (x_ret dX8_cars_30 rfl))) (x_go 7 (x_st 8 dX8_cars_7 rfl (x_br dX8_cars_8 (x_if (x_go 28 (x_st 30 dX8_cars_28 rfl (x_ret dX8_cars_30 rfl))) (x_go 11 (x_st 12 dX8_cars_11 rfl (x_st 13 dX8_cars_12 rfl (x_br dX8_cars_13 (x_if (x_go 16 (x_st 18 dX8_cars_16 rfl (x_br dX8_cars_18 (x_if (x_go 28 (x_st 30 dX8_cars_28 rfl (x_ret dX8_cars_30 rfl))) (x_go 21 (x_st 23 dX8_cars_21 rfl (x_st 25 dX8_cars_23 rfl (x_br dX8_cars_25 (x_if (x_go 28 (x_st 30 dX8_cars_28 rfl (x_ret dX8_cars_30 rfl))) (x_go 31 (x_st 32 dX8_cars_31 rfl (x_st 35 dX8_cars_32 rfl (x_st 36 dX8_cars_35 rfl (x_br dX8_cars_36 (x_if (x_go 37 (x_so 39 [vr 0 0, vi x1, vi x2, vi x3, vi x4, vr 30 (Int.toNat x1), UU, UU, UU] dX8_cars_37 rfl (x_st 41 dX8_cars_39 rfl (x_ci 44 [vr 0 0, vi x1, vi x2, vi x3, vi x4, vr 30 (Int.toNat x1), UU, UU, UU] [] dX8_cars_41 rfl (fun r2 s2 => x_br dX8_cars_44 (x_if (x_go 50 (x_st 52 dX8_cars_50 rfl (x_ci 55 [vr 0 0, vi x1, vi x2, vi x3, vi x4, vr 30 (Int.toNat x1), UU, UU, UU] [] dX8_cars_52 rfl (fun r3 s3 => x_st 56 dX8_cars_55 rfl (x_br dX8_cars_56 (x_if (x_go 62 (x_st 63 dX8_cars_62 rfl (x_so 65 [vr 0 0, vi x1, vi x2, vi x3, vi x4, vr 30 (Int.toNat x1), vi 0, UU, UU] dX8_cars_63 rfl (x_st 66 dX8_cars_65 rfl (x_so 68 [vr 0 0, vi x1, vi x2, vi x3, vi x4, vr 30 (Int.toNat x1), vi 0, vi x3, UU] dX8_cars_66 rfl (x_st 69 dX8_cars_68 rfl (x_so 71 [vr 0 0, vi x1, vi x2, vi x3, vi x4, vr 30 (Int.toNat x1), vi 0, vi x3, vi 0] dX8_cars_69 rfl (rfl)))))))) (x_go 59 (x_st 61 dX8_cars_59 rfl (x_ret dX8_cars_61 rfl))))))))) (x_go 47 (x_st 49 dX8_cars_47 rfl (x_ret dX8_cars_49 rfl))))))))) x_no))))))))))))))) (x_go 28 (x_st 30 dX8_cars_28 rfl (x_ret dX8_cars_30 rfl))))))))))))))))
theorem qX8_cars_71 (d : Nat) (z1 : PV) (z2 : PV) (z3 : PV) (x4 : Int) (j5 : Nat) (x6 : Int) (x7 : Int) (x8 : Int) (s : Sg) : EV (d + 1) mX8_cars (71, [vr 0 0, z1, z2, z3, vi x4, vr 30 j5, vi x6, vi x7, vi x8], [], s) = if x8 < x4 then (bI (RUN d mX6_hasRun [vr 30 j5, vi x7, vi 3] s) (fun r1 s1 => if r1 = 0 then (some (some (vi (-12)), s1)) else (bI (RUN d mX6_item [vr 30 j5, vi x7] s1) (fun r2 s2 => bI (RUN d mX6_item [vr 30 j5, vi (w32 (x7 + 1))] s2) (fun r3 s3 => bI (RUN d mX6_item [vr 30 j5, vi (w32 (x7 + 2))] s3) (fun r4 s4 => bI (RUN d mX1_welcome [vr 1 0, vi r2, vi r3, vi r4] s4) (fun r5 s5 => if r5 < 0 then (EV (d + 1) mX8_cars (130, [vr 0 0, z1, z2, z3, vi x4, vr 30 j5, vi x6, vi x7, vi x8], [], s5)) else (EV (d + 1) mX8_cars (130, [vr 0 0, z1, z2, z3, vi x4, vr 30 j5, vi (w32 (x6 + 1)), vi x7, vi x8], [], s5))))))))) else (some (some (vi x6), s)) := x_st 73 dX8_cars_71 rfl (x_st 75 dX8_cars_73 rfl (x_br dX8_cars_75 (x_if (x_go 78 (x_st 80 dX8_cars_78 rfl (x_st 82 dX8_cars_80 rfl (x_st 83 dX8_cars_82 rfl (x_ci 86 [vr 0 0, z1, z2, z3, vi x4, vr 30 j5, vi x6, vi x7, vi x8] [] dX8_cars_83 rfl (fun r1 s1 => x_br dX8_cars_86 (x_if (x_go 89 (x_st 91 dX8_cars_89 rfl (x_ret dX8_cars_91 rfl))) (x_go 92 (x_st 93 dX8_cars_92 rfl (x_st 96 dX8_cars_93 rfl (x_st 98 dX8_cars_96 rfl (x_st 100 dX8_cars_98 rfl (x_ci 103 [vr 0 0, z1, z2, z3, vi x4, vr 30 j5, vi x6, vi x7, vi x8] [vr 1 0] dX8_cars_100 rfl (fun r2 s2 => x_st 105 dX8_cars_103 rfl (x_st 107 dX8_cars_105 rfl (x_st 108 dX8_cars_107 rfl (x_st 109 dX8_cars_108 rfl (x_ci 112 [vr 0 0, z1, z2, z3, vi x4, vr 30 j5, vi x6, vi x7, vi x8] [vi r2, vr 1 0] dX8_cars_109 rfl (fun r3 s3 => x_st 114 dX8_cars_112 rfl (x_st 116 dX8_cars_114 rfl (x_st 117 dX8_cars_116 rfl (x_st 118 dX8_cars_117 rfl (x_ci 121 [vr 0 0, z1, z2, z3, vi x4, vr 30 j5, vi x6, vi x7, vi x8] [vi r3, vi r2, vr 1 0] dX8_cars_118 rfl (fun r4 s4 => x_ci 124 [vr 0 0, z1, z2, z3, vi x4, vr 30 j5, vi x6, vi x7, vi x8] [] dX8_cars_121 rfl (fun r5 s5 => x_br dX8_cars_124 (x_if (x_go 130 (rfl)) (x_go 127 (x_so 130 [vr 0 0, z1, z2, z3, vi x4, vr 30 j5, vi (w32 (x6 + 1)), vi x7, vi x8] dX8_cars_127 rfl (rfl))))))))))))))))))))))))))))) (x_go 139 (x_st 141 dX8_cars_139 rfl (x_ret dX8_cars_141 rfl))))))
theorem qX8_cars_130 (d : Nat) (z1 : PV) (z2 : PV) (z3 : PV) (x4 : Int) (j5 : Nat) (x6 : Int) (x7 : Int) (x8 : Int) (s : Sg) : EV d mX8_cars (130, [vr 0 0, z1, z2, z3, vi x4, vr 30 j5, vi x6, vi x7, vi x8], [], s) = EV d mX8_cars (71, [vr 0 0, z1, z2, z3, vi x4, vr 30 j5, vi x6, vi (w32 (x7 + 3)), vi (w32 (x8 + 1))], [], s) := x_so 133 [vr 0 0, z1, z2, z3, vi x4, vr 30 j5, vi x6, vi (w32 (x7 + 3)), vi x8] dX8_cars_130 rfl (x_so 136 [vr 0 0, z1, z2, z3, vi x4, vr 30 j5, vi x6, vi (w32 (x7 + 3)), vi (w32 (x8 + 1))] dX8_cars_133 rfl (x_st 71 dX8_cars_136 rfl (rfl)))
theorem dX8_taken_0 : decode cX8_taken 0 = .ok (.iload_n 2, 1) := by decide +kernel
theorem dX8_taken_1 : decode cX8_taken 1 = .ok (.ifCond .lt 12, 3) := by decide +kernel
theorem dX8_taken_4 : decode cX8_taken 4 = .ok (.iload_n 2, 1) := by decide +kernel
theorem dX8_taken_5 : decode cX8_taken 5 = .ok (.getstatic 81, 3) := by decide +kernel
theorem dX8_taken_8 : decode cX8_taken 8 = .ok (.iconst 5, 1) := by decide +kernel
theorem dX8_taken_9 : decode cX8_taken 9 = .ok (.iaload, 1) := by decide +kernel
theorem dX8_taken_10 : decode cX8_taken 10 = .ok (.if_icmp .le 6, 3) := by decide +kernel
theorem dX8_taken_13 : decode cX8_taken 13 = .ok (.bipush (-2), 2) := by decide +kernel
theorem dX8_taken_15 : decode cX8_taken 15 = .ok (.ireturn, 1) := by decide +kernel
theorem dX8_taken_16 : decode cX8_taken 16 = .ok (.aload_n 0, 1) := by decide +kernel
theorem dX8_taken_17 : decode cX8_taken 17 = .ok (.getfield 10, 3) := by decide +kernel
theorem dX8_taken_20 : decode cX8_taken 20 = .ok (.iload_n 1, 1) := by decide +kernel
theorem dX8_taken_21 : decode cX8_taken 21 = .ok (.invokevirtual 77, 3) := by decide +kernel
theorem dX8_taken_24 : decode cX8_taken 24 = .ok (.ifCond .ne 6, 3) := by decide +kernel
theorem dX8_taken_27 : decode cX8_taken 27 = .ok (.bipush (-11), 2) := by decide +kernel
theorem dX8_taken_29 : decode cX8_taken 29 = .ok (.ireturn, 1) := by decide +kernel
theorem dX8_taken_30 : decode cX8_taken 30 = .ok (.aload_n 0, 1) := by decide +kernel
theorem dX8_taken_31 : decode cX8_taken 31 = .ok (.getfield 10, 3) := by decide +kernel
theorem dX8_taken_34 : decode cX8_taken 34 = .ok (.iconst 5, 1) := by decide +kernel
theorem dX8_taken_35 : decode cX8_taken 35 = .ok (.iload_n 1, 1) := by decide +kernel
theorem dX8_taken_36 : decode cX8_taken 36 = .ok (.invokevirtual 92, 3) := by decide +kernel
theorem dX8_taken_39 : decode cX8_taken 39 = .ok (.iload_n 2, 1) := by decide +kernel
theorem dX8_taken_40 : decode cX8_taken 40 = .ok (.invokestatic 240, 3) := by decide +kernel
theorem dX8_taken_43 : decode cX8_taken 43 = .ok (.ifCond .eq 15, 3) := by decide +kernel
theorem dX8_taken_46 : decode cX8_taken 46 = .ok (.aload_n 0, 1) := by decide +kernel
theorem dX8_taken_47 : decode cX8_taken 47 = .ok (.getfield 10, 3) := by decide +kernel
theorem dX8_taken_50 : decode cX8_taken 50 = .ok (.iconst 0, 1) := by decide +kernel
theorem dX8_taken_51 : decode cX8_taken 51 = .ok (.iload_n 1, 1) := by decide +kernel
theorem dX8_taken_52 : decode cX8_taken 52 = .ok (.invokevirtual 92, 3) := by decide +kernel
theorem dX8_taken_55 : decode cX8_taken 55 = .ok (.goto 5, 3) := by decide +kernel
theorem dX8_taken_58 : decode cX8_taken 58 = .ok (.bipush (-13), 2) := by decide +kernel
theorem dX8_taken_60 : decode cX8_taken 60 = .ok (.ireturn, 1) := by decide +kernel
theorem qX8_taken (d : Nat) (x1 : Int) (x2 : Int) (s : Sg) : RUN (d + 1) mX8_taken [vr 0 0, vi x1, vi x2] s = if x2 < 0 then (some (some (vi (-2)), s)) else (if 5 < x2 then (some (some (vi (-2)), s)) else (bI (RUN d mX1_has [vr 1 0, vi x1] s) (fun r1 s1 => if r1 = 0 then (some (some (vi (-11)), s1)) else (bI (RUN d mX1_tell [vr 1 0, vi 5, vi x1] s1) (fun r2 s2 => bI (RUN d mX3_isUnder [vi r2, vi x2] s2) (fun r3 s3 => if r3 = 0 then (some (some (vi (-13)), s3)) else (bI (RUN d mX1_tell [vr 1 0, vi 0, vi x1] s3) (fun r4 s4 => some (some (vi r4), s4))))))))) := x_run rfl (x_st 1 dX8_taken_0 rfl (x_br dX8_taken_1 (x_if (x_go 13 (x_st 15 dX8_taken_13 rfl (x_ret dX8_taken_15 rfl))) (x_go 4 (x_st 5 dX8_taken_4 rfl (x_st 8 dX8_taken_5 rfl (x_st 9 dX8_taken_8 rfl (x_st 10 dX8_taken_9 rfl (x_br dX8_taken_10 (x_if (x_go 13 (x_st 15 dX8_taken_13 rfl (x_ret dX8_taken_15 rfl))) (x_go 16 (x_st 17 dX8_taken_16 rfl (x_st 20 dX8_taken_17 rfl (x_st 21 dX8_taken_20 rfl (x_ci 24 [vr 0 0, vi x1, vi x2] [] dX8_taken_21 rfl (fun r1 s1 => x_br dX8_taken_24 (x_if (x_go 27 (x_st 29 dX8_taken_27 rfl (x_ret dX8_taken_29 rfl))) (x_go 30 (x_st 31 dX8_taken_30 rfl (x_st 34 dX8_taken_31 rfl (x_st 35 dX8_taken_34 rfl (x_st 36 dX8_taken_35 rfl (x_ci 39 [vr 0 0, vi x1, vi x2] [] dX8_taken_36 rfl (fun r2 s2 => x_st 40 dX8_taken_39 rfl (x_ci 43 [vr 0 0, vi x1, vi x2] [] dX8_taken_40 rfl (fun r3 s3 => x_br dX8_taken_43 (x_if (x_go 58 (x_st 60 dX8_taken_58 rfl (x_ret dX8_taken_60 rfl))) (x_go 46 (x_st 47 dX8_taken_46 rfl (x_st 50 dX8_taken_47 rfl (x_st 51 dX8_taken_50 rfl (x_st 52 dX8_taken_51 rfl (x_ci 55 [vr 0 0, vi x1, vi x2] [] dX8_taken_52 rfl (fun r4 s4 => x_st 60 dX8_taken_55 rfl (x_ret dX8_taken_60 rfl)))))))))))))))))))))))))))))))))))
theorem dX8_isSheet_0 : decode cX8_isSheet 0 = .ok (.iload_n 0, 1) := by decide +kernel
theorem dX8_isSheet_1 : decode cX8_isSheet 1 = .ok (.ifCond .lt 12, 3) := by decide +kernel
theorem dX8_isSheet_4 : decode cX8_isSheet 4 = .ok (.iload_n 0, 1) := by decide +kernel
theorem dX8_isSheet_5 : decode cX8_isSheet 5 = .ok (.iconst 4, 1) := by decide +kernel
theorem dX8_isSheet_6 : decode cX8_isSheet 6 = .ok (.if_icmp .ge 7, 3) := by decide +kernel
theorem dX8_isSheet_9 : decode cX8_isSheet 9 = .ok (.iconst 1, 1) := by decide +kernel
theorem dX8_isSheet_10 : decode cX8_isSheet 10 = .ok (.goto 4, 3) := by decide +kernel
theorem dX8_isSheet_13 : decode cX8_isSheet 13 = .ok (.iconst 0, 1) := by decide +kernel
theorem dX8_isSheet_14 : decode cX8_isSheet 14 = .ok (.ireturn, 1) := by decide +kernel
theorem qX8_isSheet (d : Nat) (x0 : Int) (s : Sg) : RUN d mX8_isSheet [vi x0] s = if x0 < 0 then (some (some (vi 0), s)) else (if x0 < 4 then (some (some (vi 1), s)) else (some (some (vi 0), s))) := x_run rfl (x_st 1 dX8_isSheet_0 rfl (x_br dX8_isSheet_1 (x_if (x_go 13 (x_st 14 dX8_isSheet_13 rfl (x_ret dX8_isSheet_14 rfl))) (x_go 4 (x_st 5 dX8_isSheet_4 rfl (x_st 6 dX8_isSheet_5 rfl (x_br dX8_isSheet_6 (x_if (x_go 9 (x_st 10 dX8_isSheet_9 rfl (x_st 14 dX8_isSheet_10 rfl (x_ret dX8_isSheet_14 rfl)))) (x_go 13 (x_st 14 dX8_isSheet_13 rfl (x_ret dX8_isSheet_14 rfl)))))))))))
theorem dX8_otherwiseNow_0 : decode cX8_otherwiseNow 0 = .ok (.aload_n 0, 1) := by decide +kernel
theorem dX8_otherwiseNow_1 : decode cX8_otherwiseNow 1 = .ok (.getfield 37, 3) := by decide +kernel
theorem dX8_otherwiseNow_4 : decode cX8_otherwiseNow 4 = .ok (.invokevirtual 132, 3) := by decide +kernel
theorem dX8_otherwiseNow_7 : decode cX8_otherwiseNow 7 = .ok (.aload_n 0, 1) := by decide +kernel
theorem dX8_otherwiseNow_8 : decode cX8_otherwiseNow 8 = .ok (.getfield 37, 3) := by decide +kernel
theorem dX8_otherwiseNow_11 : decode cX8_otherwiseNow 11 = .ok (.invokevirtual 135, 3) := by decide +kernel
theorem dX8_otherwiseNow_14 : decode cX8_otherwiseNow 14 = .ok (.pop, 1) := by decide +kernel
theorem dX8_otherwiseNow_15 : decode cX8_otherwiseNow 15 = .ok (.aload_n 0, 1) := by decide +kernel
theorem dX8_otherwiseNow_16 : decode cX8_otherwiseNow 16 = .ok (.getfield 37, 3) := by decide +kernel
theorem dX8_otherwiseNow_19 : decode cX8_otherwiseNow 19 = .ok (.aload_n 1, 1) := by decide +kernel
theorem dX8_otherwiseNow_20 : decode cX8_otherwiseNow 20 = .ok (.invokevirtual 243, 3) := by decide +kernel
theorem dX8_otherwiseNow_23 : decode cX8_otherwiseNow 23 = .ok (.ireturn, 1) := by decide +kernel
theorem qX8_otherwiseNow (d : Nat) (j1 : Nat) (s : Sg) : RUN (d + 1) mX8_otherwiseNow [vr 0 0, vr 30 j1] s = bV (RUN d mX7_spread [vr 13 0] s) (fun s1 => bI (RUN d mX7_playAll [vr 13 0] s1) (fun r2 s2 => bI (RUN d mX7_otherwise [vr 13 0, vr 30 j1] s2) (fun r3 s3 => some (some (vi r3), s3)))) := x_run rfl (x_st 1 dX8_otherwiseNow_0 rfl (x_st 4 dX8_otherwiseNow_1 rfl (x_cv 7 [vr 0 0, vr 30 j1] [] dX8_otherwiseNow_4 rfl (fun s1 => x_st 8 dX8_otherwiseNow_7 rfl (x_st 11 dX8_otherwiseNow_8 rfl (x_ci 14 [vr 0 0, vr 30 j1] [] dX8_otherwiseNow_11 rfl (fun r2 s2 => x_st 15 dX8_otherwiseNow_14 rfl (x_st 16 dX8_otherwiseNow_15 rfl (x_st 19 dX8_otherwiseNow_16 rfl (x_st 20 dX8_otherwiseNow_19 rfl (x_ci 23 [vr 0 0, vr 30 j1] [] dX8_otherwiseNow_20 rfl (fun r3 s3 => x_ret dX8_otherwiseNow_23 rfl))))))))))))
