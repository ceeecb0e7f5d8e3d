theorem dX9_when_0 : decode cX9_when 0 = .ok (.aload_n 0, 1) := by decide +kernel
theorem dX9_when_1 : decode cX9_when 1 = .ok (.iload_n 1, 1) := by decide +kernel
theorem dX9_when_2 : decode cX9_when 2 = .ok (.invokevirtual 91, 3) := by decide +kernel
theorem dX9_when_5 : decode cX9_when 5 = .ok (.ifCond .eq 13, 3) := by decide +kernel
theorem dX9_when_8 : decode cX9_when 8 = .ok (.iload_n 2, 1) := by decide +kernel
theorem dX9_when_9 : decode cX9_when 9 = .ok (.i2l, 1) := by decide +kernel
theorem dX9_when_10 : decode cX9_when 10 = .ok (.lconst 0, 1) := by decide +kernel
theorem dX9_when_11 : decode cX9_when 11 = .ok (.lconst 1, 1) := by decide +kernel
theorem dX9_when_12 : decode cX9_when 12 = .ok (.invokestatic 85, 3) := by decide +kernel
theorem dX9_when_15 : decode cX9_when 15 = .ok (.ifCond .ne 6, 3) := by decide +kernel
theorem dX9_when_18 : decode cX9_when 18 = .ok (.bipush (-2), 2) := by decide +kernel
theorem dX9_when_20 : decode cX9_when 20 = .ok (.ireturn, 1) := by decide +kernel
theorem dX9_when_21 : decode cX9_when 21 = .ok (.aload_n 0, 1) := by decide +kernel
theorem dX9_when_22 : decode cX9_when 22 = .ok (.getfield 26, 3) := by decide +kernel
theorem dX9_when_25 : decode cX9_when 25 = .ok (.iconst 5, 1) := by decide +kernel
theorem dX9_when_26 : decode cX9_when 26 = .ok (.iload_n 1, 1) := by decide +kernel
theorem dX9_when_27 : decode cX9_when 27 = .ok (.imul, 1) := by decide +kernel
theorem dX9_when_28 : decode cX9_when 28 = .ok (.iconst 3, 1) := by decide +kernel
theorem dX9_when_29 : decode cX9_when 29 = .ok (.iadd, 1) := by decide +kernel
theorem dX9_when_30 : decode cX9_when 30 = .ok (.iaload, 1) := by decide +kernel
theorem dX9_when_31 : decode cX9_when 31 = .ok (.istore_n 3, 1) := by decide +kernel
theorem dX9_when_32 : decode cX9_when 32 = .ok (.aload_n 0, 1) := by decide +kernel
theorem dX9_when_33 : decode cX9_when 33 = .ok (.getfield 26, 3) := by decide +kernel
theorem dX9_when_36 : decode cX9_when 36 = .ok (.iconst 5, 1) := by decide +kernel
theorem dX9_when_37 : decode cX9_when 37 = .ok (.iload_n 1, 1) := by decide +kernel
theorem dX9_when_38 : decode cX9_when 38 = .ok (.imul, 1) := by decide +kernel
theorem dX9_when_39 : decode cX9_when 39 = .ok (.iconst 2, 1) := by decide +kernel
theorem dX9_when_40 : decode cX9_when 40 = .ok (.iadd, 1) := by decide +kernel
theorem dX9_when_41 : decode cX9_when 41 = .ok (.iaload, 1) := by decide +kernel
theorem dX9_when_42 : decode cX9_when 42 = .ok (.istore 4, 2) := by decide +kernel
theorem dX9_when_44 : decode cX9_when 44 = .ok (.iconst (-1), 1) := by decide +kernel
theorem dX9_when_45 : decode cX9_when 45 = .ok (.istore 5, 2) := by decide +kernel
theorem dX9_when_47 : decode cX9_when 47 = .ok (.iconst 0, 1) := by decide +kernel
theorem dX9_when_48 : decode cX9_when 48 = .ok (.istore 6, 2) := by decide +kernel
theorem dX9_when_50 : decode cX9_when 50 = .ok (.iconst 0, 1) := by decide +kernel
theorem dX9_when_51 : decode cX9_when 51 = .ok (.istore 7, 2) := by decide +kernel
theorem dX9_when_53 : decode cX9_when 53 = .ok (.iload 7, 2) := by decide +kernel
theorem dX9_when_55 : decode cX9_when 55 = .ok (.bipush 100, 2) := by decide +kernel
theorem dX9_when_57 : decode cX9_when 57 = .ok (.if_icmp .ge 60, 3) := by decide +kernel
theorem dX9_when_60 : decode cX9_when 60 = .ok (.aload_n 0, 1) := by decide +kernel
theorem dX9_when_61 : decode cX9_when 61 = .ok (.getfield 26, 3) := by decide +kernel
theorem dX9_when_64 : decode cX9_when 64 = .ok (.iconst 5, 1) := by decide +kernel
theorem dX9_when_65 : decode cX9_when 65 = .ok (.iload_n 1, 1) := by decide +kernel
theorem dX9_when_66 : decode cX9_when 66 = .ok (.imul, 1) := by decide +kernel
theorem dX9_when_67 : decode cX9_when 67 = .ok (.iconst 3, 1) := by decide +kernel
theorem dX9_when_68 : decode cX9_when 68 = .ok (.iadd, 1) := by decide +kernel
theorem dX9_when_69 : decode cX9_when 69 = .ok (.iload 7, 2) := by decide +kernel
theorem dX9_when_71 : decode cX9_when 71 = .ok (.iastore, 1) := by decide +kernel
theorem dX9_when_72 : decode cX9_when 72 = .ok (.aload_n 0, 1) := by decide +kernel
theorem dX9_when_73 : decode cX9_when 73 = .ok (.iload 4, 2) := by decide +kernel
theorem dX9_when_75 : decode cX9_when 75 = .ok (.aload_n 0, 1) := by decide +kernel
theorem dX9_when_76 : decode cX9_when 76 = .ok (.iload 4, 2) := by decide +kernel
theorem dX9_when_78 : decode cX9_when 78 = .ok (.invokevirtual 260, 3) := by decide +kernel
theorem dX9_when_81 : decode cX9_when 81 = .ok (.invokevirtual 263, 3) := by decide +kernel
theorem dX9_when_84 : decode cX9_when 84 = .ok (.iload 5, 2) := by decide +kernel
theorem dX9_when_86 : decode cX9_when 86 = .ok (.iconst (-1), 1) := by decide +kernel
theorem dX9_when_87 : decode cX9_when 87 = .ok (.if_icmp .eq 13, 3) := by decide +kernel
theorem dX9_when_90 : decode cX9_when 90 = .ok (.aload_n 0, 1) := by decide +kernel
theorem dX9_when_91 : decode cX9_when 91 = .ok (.iload_n 1, 1) := by decide +kernel
theorem dX9_when_92 : decode cX9_when 92 = .ok (.invokevirtual 267, 3) := by decide +kernel
theorem dX9_when_95 : decode cX9_when 95 = .ok (.iload 6, 2) := by decide +kernel
theorem dX9_when_97 : decode cX9_when 97 = .ok (.if_icmp .ge 14, 3) := by decide +kernel
theorem dX9_when_100 : decode cX9_when 100 = .ok (.iload 7, 2) := by decide +kernel
theorem dX9_when_102 : decode cX9_when 102 = .ok (.istore 5, 2) := by decide +kernel
theorem dX9_when_104 : decode cX9_when 104 = .ok (.aload_n 0, 1) := by decide +kernel
theorem dX9_when_105 : decode cX9_when 105 = .ok (.iload_n 1, 1) := by decide +kernel
theorem dX9_when_106 : decode cX9_when 106 = .ok (.invokevirtual 267, 3) := by decide +kernel
theorem dX9_when_109 : decode cX9_when 109 = .ok (.istore 6, 2) := by decide +kernel
theorem dX9_when_111 : decode cX9_when 111 = .ok (.iinc 7 1, 3) := by decide +kernel
theorem dX9_when_114 : decode cX9_when 114 = .ok (.goto (-61), 3) := by decide +kernel
theorem dX9_when_117 : decode cX9_when 117 = .ok (.aload_n 0, 1) := by decide +kernel
theorem dX9_when_118 : decode cX9_when 118 = .ok (.getfield 26, 3) := by decide +kernel
theorem dX9_when_121 : decode cX9_when 121 = .ok (.iconst 5, 1) := by decide +kernel
theorem dX9_when_122 : decode cX9_when 122 = .ok (.iload_n 1, 1) := by decide +kernel
theorem dX9_when_123 : decode cX9_when 123 = .ok (.imul, 1) := by decide +kernel
theorem dX9_when_124 : decode cX9_when 124 = .ok (.iconst 3, 1) := by decide +kernel
theorem dX9_when_125 : decode cX9_when 125 = .ok (.iadd, 1) := by decide +kernel
theorem dX9_when_126 : decode cX9_when 126 = .ok (.iload_n 3, 1) := by decide +kernel
theorem dX9_when_127 : decode cX9_when 127 = .ok (.iastore, 1) := by decide +kernel
theorem dX9_when_128 : decode cX9_when 128 = .ok (.iload_n 2, 1) := by decide +kernel
theorem dX9_when_129 : decode cX9_when 129 = .ok (.ifCond .ne 8, 3) := by decide +kernel
theorem dX9_when_132 : decode cX9_when 132 = .ok (.iload 5, 2) := by decide +kernel
theorem dX9_when_134 : decode cX9_when 134 = .ok (.goto 5, 3) := by decide +kernel
theorem dX9_when_137 : decode cX9_when 137 = .ok (.iload 6, 2) := by decide +kernel
theorem dX9_when_139 : decode cX9_when 139 = .ok (.ireturn, 1) := by decide +kernel
theorem qX9_when (d : Nat) (x1 : Int) (x2 : Int) (s : Sg) : RUN (d + 1) mX9_when [vr 32 0, vi x1, vi x2] s = bI (RUN d mX9_isCar [vr 32 0, vi x1] s) (fun r1 s1 => if r1 = 0 then (some (some (vi (-2)), s1)) else (bI (RUN d mX9_in [vl x2, vl 0, vl 1] s1) (fun r2 s2 => if r2 = 0 then (some (some (vi (-2)), s2)) else (if inb (w32 ((w32 (5 * x1)) + 3)) 30 then (if inb (w32 ((w32 (5 * x1)) + 2)) 30 then (EV (d + 1) mX9_when (53, [vr 32 0, vi x1, vi x2, vi (s2 37 0 (Int.toNat (w32 ((w32 (5 * x1)) + 3)))), vi (s2 37 0 (Int.toNat (w32 ((w32 (5 * x1)) + 2)))), vi (-1), vi 0, vi 0], [], s2)) else none) else none)))) := x_run rfl (x_st 1 dX9_when_0 rfl (x_st 2 dX9_when_1 rfl (x_ci 5 [vr 32 0, vi x1, vi x2, UU, UU, UU, UU, UU] [] dX9_when_2 rfl (fun r1 s1 => x_br dX9_when_5 (x_if (x_go 18 (x_st 20 dX9_when_18 rfl (x_ret dX9_when_20 rfl))) (x_go 8 (x_st 9 dX9_when_8 rfl (x_st 10 dX9_when_9 rfl (x_st 11 dX9_when_10 rfl (x_st 12 dX9_when_11 rfl (x_ci 15 [vr 32 0, vi x1, vi x2, UU, UU, UU, UU, UU] [] dX9_when_12 rfl (fun r2 s2 => x_br dX9_when_15 (x_if (x_go 18 (x_st 20 dX9_when_18 rfl (x_ret dX9_when_20 rfl))) (x_go 21 (x_st 22 dX9_when_21 rfl (x_st 25 dX9_when_22 rfl (x_st 26 dX9_when_25 rfl (x_st 27 dX9_when_26 rfl (x_st 28 dX9_when_27 rfl (x_st 29 dX9_when_28 rfl (x_st 30 dX9_when_29 rfl (x_br dX9_when_30 (x_if (x_go 31 (x_so 32 [vr 32 0, vi x1, vi x2, vi (s2 37 0 (Int.toNat (w32 ((w32 (5 * x1)) + 3)))), UU, UU, UU, UU] dX9_when_31 rfl (x_st 33 dX9_when_32 rfl (x_st 36 dX9_when_33 rfl (x_st 37 dX9_when_36 rfl (x_st 38 dX9_when_37 rfl (x_st 39 dX9_when_38 rfl (x_st 40 dX9_when_39 rfl (x_st 41 dX9_when_40 rfl (x_br dX9_when_41 (x_if (x_go 42 (x_so 44 [vr 32 0, vi x1, vi x2, vi (s2 37 0 (Int.toNat (w32 ((w32 (5 * x1)) + 3)))), vi (s2 37 0 (Int.toNat (w32 ((w32 (5 * x1)) + 2)))), UU, UU, UU] dX9_when_42 rfl (x_st 45 dX9_when_44 rfl (x_so 47 [vr 32 0, vi x1, vi x2, vi (s2 37 0 (Int.toNat (w32 ((w32 (5 * x1)) + 3)))), vi (s2 37 0 (Int.toNat (w32 ((w32 (5 * x1)) + 2)))), vi (-1), UU, UU] dX9_when_45 rfl (x_st 48 dX9_when_47 rfl (x_so 50 [vr 32 0, vi x1, vi x2, vi (s2 37 0 (Int.toNat (w32 ((w32 (5 * x1)) + 3)))), vi (s2 37 0 (Int.toNat (w32 ((w32 (5 * x1)) + 2)))), vi (-1), vi 0, UU] dX9_when_48 rfl (x_st 51 dX9_when_50 rfl (x_so 53 [vr 32 0, vi x1, vi x2, vi (s2 37 0 (Int.toNat (w32 ((w32 (5 * x1)) + 3)))), vi (s2 37 0 (Int.toNat (w32 ((w32 (5 * x1)) + 2)))), vi (-1), vi 0, vi 0] dX9_when_51 rfl (rfl))))))))) x_no))))))))))) x_no)))))))))))))))))))))))
theorem qX9_when_53 (d : Nat) (x1 : Int) (x2 : Int) (x3 : Int) (x4 : Int) (x5 : Int) (x6 : Int) (x7 : Int) (s : Sg) : EV (d + 1) mX9_when (53, [vr 32 0, vi x1, vi x2, vi x3, vi x4, vi x5, vi x6, vi x7], [], s) = if x7 < 100 then (if inb (w32 ((w32 (5 * x1)) + 3)) 30 then (bI (RUN d mX9_setOf [vr 32 0, vi x4] (up s 37 0 (Int.toNat (w32 ((w32 (5 * x1)) + 3))) x7)) (fun r1 s1 => bV (RUN d mX9_goes [vr 32 0, vi x4, vi r1] s1) (fun s2 => if x5 = (-1) then (EV (d + 1) mX9_when (100, [vr 32 0, vi x1, vi x2, vi x3, vi x4, vi x5, vi x6, vi x7], [], s2)) else (bI (RUN d mX9_waitedOf [vr 32 0, vi x1] s2) (fun r3 s3 => if r3 < x6 then (EV (d + 1) mX9_when (100, [vr 32 0, vi x1, vi x2, vi x3, vi x4, vi x5, vi x6, vi x7], [], s3)) else (EV (d + 1) mX9_when (111, [vr 32 0, vi x1, vi x2, vi x3, vi x4, vi x5, vi x6, vi x7], [], s3))))))) else none) else (if inb (w32 ((w32 (5 * x1)) + 3)) 30 then (if x2 = 0 then (some (some (vi x5), (up s 37 0 (Int.toNat (w32 ((w32 (5 * x1)) + 3))) x3))) else (some (some (vi x6), (up s 37 0 (Int.toNat (w32 ((w32 (5 * x1)) + 3))) x3)))) else none) := x_st 55 dX9_when_53 rfl (x_st 57 dX9_when_55 rfl (x_br dX9_when_57 (x_if (x_go 60 (x_st 61 dX9_when_60 rfl (x_st 64 dX9_when_61 rfl (x_st 65 dX9_when_64 rfl (x_st 66 dX9_when_65 rfl (x_st 67 dX9_when_66 rfl (x_st 68 dX9_when_67 rfl (x_st 69 dX9_when_68 rfl (x_st 71 dX9_when_69 rfl (x_br dX9_when_71 (x_if (x_go 72 (x_st 73 dX9_when_72 rfl (x_st 75 dX9_when_73 rfl (x_st 76 dX9_when_75 rfl (x_st 78 dX9_when_76 rfl (x_ci 81 [vr 32 0, vi x1, vi x2, vi x3, vi x4, vi x5, vi x6, vi x7] [vi x4, vr 32 0] dX9_when_78 rfl (fun r1 s1 => x_cv 84 [vr 32 0, vi x1, vi x2, vi x3, vi x4, vi x5, vi x6, vi x7] [] dX9_when_81 rfl (fun s2 => x_st 86 dX9_when_84 rfl (x_st 87 dX9_when_86 rfl (x_br dX9_when_87 (x_if (x_go 100 (rfl)) (x_go 90 (x_st 91 dX9_when_90 rfl (x_st 92 dX9_when_91 rfl (x_ci 95 [vr 32 0, vi x1, vi x2, vi x3, vi x4, vi x5, vi x6, vi x7] [] dX9_when_92 rfl (fun r3 s3 => x_st 97 dX9_when_95 rfl (x_br dX9_when_97 (x_if (x_go 100 (rfl)) (x_go 111 (rfl)))))))))))))))))))) x_no))))))))))) (x_go 117 (x_st 118 dX9_when_117 rfl (x_st 121 dX9_when_118 rfl (x_st 122 dX9_when_121 rfl (x_st 123 dX9_when_122 rfl (x_st 124 dX9_when_123 rfl (x_st 125 dX9_when_124 rfl (x_st 126 dX9_when_125 rfl (x_st 127 dX9_when_126 rfl (x_br dX9_when_127 (x_if (x_go 128 (x_st 129 dX9_when_128 rfl (x_br dX9_when_129 (x_if (x_go 132 (x_st 134 dX9_when_132 rfl (x_st 139 dX9_when_134 rfl (x_ret dX9_when_139 rfl)))) (x_go 137 (x_st 139 dX9_when_137 rfl (x_ret dX9_when_139 rfl))))))) x_no))))))))))))))
theorem qX9_when_100 (d : Nat) (x1 : Int) (x2 : Int) (x3 : Int) (x4 : Int) (z5 : PV) (z6 : PV) (x7 : Int) (s : Sg) : EV (d + 1) mX9_when (100, [vr 32 0, vi x1, vi x2, vi x3, vi x4, z5, z6, vi x7], [], s) = bI (RUN d mX9_waitedOf [vr 32 0, vi x1] s) (fun r1 s1 => EV (d + 1) mX9_when (111, [vr 32 0, vi x1, vi x2, vi x3, vi x4, vi x7, vi r1, vi x7], [], s1)) := x_st 102 dX9_when_100 rfl (x_so 104 [vr 32 0, vi x1, vi x2, vi x3, vi x4, vi x7, z6, vi x7] dX9_when_102 rfl (x_st 105 dX9_when_104 rfl (x_st 106 dX9_when_105 rfl (x_ci 109 [vr 32 0, vi x1, vi x2, vi x3, vi x4, vi x7, z6, vi x7] [] dX9_when_106 rfl (fun r1 s1 => x_so 111 [vr 32 0, vi x1, vi x2, vi x3, vi x4, vi x7, vi r1, vi x7] dX9_when_109 rfl (rfl))))))
theorem qX9_when_111 (d : Nat) (x1 : Int) (x2 : Int) (x3 : Int) (x4 : Int) (x5 : Int) (x6 : Int) (x7 : Int) (s : Sg) : EV d mX9_when (111, [vr 32 0, vi x1, vi x2, vi x3, vi x4, vi x5, vi x6, vi x7], [], s) = EV d mX9_when (53, [vr 32 0, vi x1, vi x2, vi x3, vi x4, vi x5, vi x6, vi (w32 (x7 + 1))], [], s) := x_so 114 [vr 32 0, vi x1, vi x2, vi x3, vi x4, vi x5, vi x6, vi (w32 (x7 + 1))] dX9_when_111 rfl (x_st 53 dX9_when_114 rfl (rfl))
theorem dX9_forward_0 : decode cX9_forward 0 = .ok (.aload_n 0, 1) := by decide +kernel
theorem dX9_forward_1 : decode cX9_forward 1 = .ok (.invokevirtual 278, 3) := by decide +kernel
theorem dX9_forward_4 : decode cX9_forward 4 = .ok (.istore_n 1, 1) := by decide +kernel
theorem dX9_forward_5 : decode cX9_forward 5 = .ok (.aload_n 0, 1) := by decide +kernel
theorem dX9_forward_6 : decode cX9_forward 6 = .ok (.iconst 1, 1) := by decide +kernel
theorem dX9_forward_7 : decode cX9_forward 7 = .ok (.putfield 250, 3) := by decide +kernel
theorem dX9_forward_10 : decode cX9_forward 10 = .ok (.aload_n 0, 1) := by decide +kernel
theorem dX9_forward_11 : decode cX9_forward 11 = .ok (.invokevirtual 278, 3) := by decide +kernel
theorem dX9_forward_14 : decode cX9_forward 14 = .ok (.istore_n 2, 1) := by decide +kernel
theorem dX9_forward_15 : decode cX9_forward 15 = .ok (.aload_n 0, 1) := by decide +kernel
theorem dX9_forward_16 : decode cX9_forward 16 = .ok (.iconst 0, 1) := by decide +kernel
theorem dX9_forward_17 : decode cX9_forward 17 = .ok (.putfield 250, 3) := by decide +kernel
theorem dX9_forward_20 : decode cX9_forward 20 = .ok (.iload_n 2, 1) := by decide +kernel
theorem dX9_forward_21 : decode cX9_forward 21 = .ok (.iload_n 1, 1) := by decide +kernel
theorem dX9_forward_22 : decode cX9_forward 22 = .ok (.isub, 1) := by decide +kernel
theorem dX9_forward_23 : decode cX9_forward 23 = .ok (.ireturn, 1) := by decide +kernel
theorem qX9_forward (d : Nat) (s : Sg) : RUN (d + 1) mX9_forward [vr 32 0] s = bI (RUN d mX9_badness [vr 32 0] s) (fun r1 s1 => bI (RUN d mX9_badness [vr 32 0] (up s1 32 0 25 1)) (fun r2 s2 => some (some (vi (w32 (r2 - r1))), (up s2 32 0 25 0)))) := x_run rfl (x_st 1 dX9_forward_0 rfl (x_ci 4 [vr 32 0, UU, UU] [] dX9_forward_1 rfl (fun r1 s1 => x_so 5 [vr 32 0, vi r1, UU] dX9_forward_4 rfl (x_st 6 dX9_forward_5 rfl (x_st 7 dX9_forward_6 rfl (x_st 10 dX9_forward_7 rfl (x_st 11 dX9_forward_10 rfl (x_ci 14 [vr 32 0, vi r1, UU] [] dX9_forward_11 rfl (fun r2 s2 => x_so 15 [vr 32 0, vi r1, vi r2] dX9_forward_14 rfl (x_st 16 dX9_forward_15 rfl (x_st 17 dX9_forward_16 rfl (x_st 20 dX9_forward_17 rfl (x_st 21 dX9_forward_20 rfl (x_st 22 dX9_forward_21 rfl (x_st 23 dX9_forward_22 rfl (x_ret dX9_forward_23 rfl))))))))))))))))
theorem dX9_blame_0 : decode cX9_blame 0 = .ok (.iload_n 1, 1) := by decide +kernel
theorem dX9_blame_1 : decode cX9_blame 1 = .ok (.i2l, 1) := by decide +kernel
theorem dX9_blame_2 : decode cX9_blame 2 = .ok (.lconst 0, 1) := by decide +kernel
theorem dX9_blame_3 : decode cX9_blame 3 = .ok (.lconst 1, 1) := by decide +kernel
theorem dX9_blame_4 : decode cX9_blame 4 = .ok (.invokestatic 85, 3) := by decide +kernel
theorem dX9_blame_7 : decode cX9_blame 7 = .ok (.ifCond .ne 6, 3) := by decide +kernel
theorem dX9_blame_10 : decode cX9_blame 10 = .ok (.bipush (-2), 2) := by decide +kernel
theorem dX9_blame_12 : decode cX9_blame 12 = .ok (.ireturn, 1) := by decide +kernel
theorem dX9_blame_13 : decode cX9_blame 13 = .ok (.aload_n 0, 1) := by decide +kernel
theorem dX9_blame_14 : decode cX9_blame 14 = .ok (.invokevirtual 278, 3) := by decide +kernel
theorem dX9_blame_17 : decode cX9_blame 17 = .ok (.istore_n 2, 1) := by decide +kernel
theorem dX9_blame_18 : decode cX9_blame 18 = .ok (.iconst (-1), 1) := by decide +kernel
theorem dX9_blame_19 : decode cX9_blame 19 = .ok (.istore_n 3, 1) := by decide +kernel
theorem dX9_blame_20 : decode cX9_blame 20 = .ok (.iconst 0, 1) := by decide +kernel
theorem dX9_blame_21 : decode cX9_blame 21 = .ok (.istore 4, 2) := by decide +kernel
theorem dX9_blame_23 : decode cX9_blame 23 = .ok (.iload_n 2, 1) := by decide +kernel
theorem dX9_blame_24 : decode cX9_blame 24 = .ok (.istore 5, 2) := by decide +kernel
theorem dX9_blame_26 : decode cX9_blame 26 = .ok (.iconst 0, 1) := by decide +kernel
theorem dX9_blame_27 : decode cX9_blame 27 = .ok (.istore 6, 2) := by decide +kernel
theorem dX9_blame_29 : decode cX9_blame 29 = .ok (.iload 6, 2) := by decide +kernel
theorem dX9_blame_31 : decode cX9_blame 31 = .ok (.aload_n 0, 1) := by decide +kernel
theorem dX9_blame_32 : decode cX9_blame 32 = .ok (.getfield 82, 3) := by decide +kernel
theorem dX9_blame_35 : decode cX9_blame 35 = .ok (.if_icmp .ge 214, 3) := by decide +kernel
theorem dX9_blame_38 : decode cX9_blame 38 = .ok (.aload_n 0, 1) := by decide +kernel
theorem dX9_blame_39 : decode cX9_blame 39 = .ok (.getfield 26, 3) := by decide +kernel
theorem dX9_blame_42 : decode cX9_blame 42 = .ok (.iconst 5, 1) := by decide +kernel
theorem dX9_blame_43 : decode cX9_blame 43 = .ok (.iload 6, 2) := by decide +kernel
theorem dX9_blame_45 : decode cX9_blame 45 = .ok (.imul, 1) := by decide +kernel
theorem dX9_blame_46 : decode cX9_blame 46 = .ok (.iconst 2, 1) := by decide +kernel
theorem dX9_blame_47 : decode cX9_blame 47 = .ok (.iadd, 1) := by decide +kernel
theorem dX9_blame_48 : decode cX9_blame 48 = .ok (.iaload, 1) := by decide +kernel
theorem dX9_blame_49 : decode cX9_blame 49 = .ok (.istore 7, 2) := by decide +kernel
theorem dX9_blame_51 : decode cX9_blame 51 = .ok (.iconst 0, 1) := by decide +kernel
theorem dX9_blame_52 : decode cX9_blame 52 = .ok (.istore 8, 2) := by decide +kernel
theorem dX9_blame_54 : decode cX9_blame 54 = .ok (.iconst 0, 1) := by decide +kernel
theorem dX9_blame_55 : decode cX9_blame 55 = .ok (.istore 9, 2) := by decide +kernel
theorem dX9_blame_57 : decode cX9_blame 57 = .ok (.aload_n 0, 1) := by decide +kernel
theorem dX9_blame_58 : decode cX9_blame 58 = .ok (.iload 7, 2) := by decide +kernel
theorem dX9_blame_60 : decode cX9_blame 60 = .ok (.aload_n 0, 1) := by decide +kernel
theorem dX9_blame_61 : decode cX9_blame 61 = .ok (.iload 7, 2) := by decide +kernel
theorem dX9_blame_63 : decode cX9_blame 63 = .ok (.invokevirtual 260, 3) := by decide +kernel
theorem dX9_blame_66 : decode cX9_blame 66 = .ok (.invokevirtual 263, 3) := by decide +kernel
theorem dX9_blame_69 : decode cX9_blame 69 = .ok (.iconst 0, 1) := by decide +kernel
theorem dX9_blame_70 : decode cX9_blame 70 = .ok (.istore 10, 2) := by decide +kernel
theorem dX9_blame_72 : decode cX9_blame 72 = .ok (.iload 10, 2) := by decide +kernel
theorem dX9_blame_74 : decode cX9_blame 74 = .ok (.aload_n 0, 1) := by decide +kernel
theorem dX9_blame_75 : decode cX9_blame 75 = .ok (.getfield 82, 3) := by decide +kernel
theorem dX9_blame_78 : decode cX9_blame 78 = .ok (.if_icmp .ge 49, 3) := by decide +kernel
theorem dX9_blame_81 : decode cX9_blame 81 = .ok (.iload 8, 2) := by decide +kernel
theorem dX9_blame_83 : decode cX9_blame 83 = .ok (.iload 10, 2) := by decide +kernel
theorem dX9_blame_85 : decode cX9_blame 85 = .ok (.iload 6, 2) := by decide +kernel
theorem dX9_blame_87 : decode cX9_blame 87 = .ok (.if_icmp .eq 30, 3) := by decide +kernel
theorem dX9_blame_90 : decode cX9_blame 90 = .ok (.aload_n 0, 1) := by decide +kernel
theorem dX9_blame_91 : decode cX9_blame 91 = .ok (.getfield 26, 3) := by decide +kernel
theorem dX9_blame_94 : decode cX9_blame 94 = .ok (.iconst 5, 1) := by decide +kernel
theorem dX9_blame_95 : decode cX9_blame 95 = .ok (.iload 10, 2) := by decide +kernel
theorem dX9_blame_97 : decode cX9_blame 97 = .ok (.imul, 1) := by decide +kernel
theorem dX9_blame_98 : decode cX9_blame 98 = .ok (.iconst 2, 1) := by decide +kernel
theorem dX9_blame_99 : decode cX9_blame 99 = .ok (.iadd, 1) := by decide +kernel
theorem dX9_blame_100 : decode cX9_blame 100 = .ok (.iaload, 1) := by decide +kernel
theorem dX9_blame_101 : decode cX9_blame 101 = .ok (.iload 7, 2) := by decide +kernel
theorem dX9_blame_103 : decode cX9_blame 103 = .ok (.if_icmp .ne 14, 3) := by decide +kernel
theorem dX9_blame_106 : decode cX9_blame 106 = .ok (.aload_n 0, 1) := by decide +kernel
theorem dX9_blame_107 : decode cX9_blame 107 = .ok (.iload 10, 2) := by decide +kernel
theorem dX9_blame_109 : decode cX9_blame 109 = .ok (.iload 7, 2) := by decide +kernel
theorem dX9_blame_111 : decode cX9_blame 111 = .ok (.invokevirtual 273, 3) := by decide +kernel
theorem dX9_blame_114 : decode cX9_blame 114 = .ok (.goto 4, 3) := by decide +kernel
theorem dX9_blame_117 : decode cX9_blame 117 = .ok (.iconst 0, 1) := by decide +kernel
theorem dX9_blame_118 : decode cX9_blame 118 = .ok (.iadd, 1) := by decide +kernel
theorem dX9_blame_119 : decode cX9_blame 119 = .ok (.istore 8, 2) := by decide +kernel
theorem dX9_blame_121 : decode cX9_blame 121 = .ok (.iinc 10 1, 3) := by decide +kernel
theorem dX9_blame_124 : decode cX9_blame 124 = .ok (.goto (-52), 3) := by decide +kernel
theorem dX9_blame_127 : decode cX9_blame 127 = .ok (.aload_n 0, 1) := by decide +kernel
theorem dX9_blame_128 : decode cX9_blame 128 = .ok (.iload 6, 2) := by decide +kernel
theorem dX9_blame_130 : decode cX9_blame 130 = .ok (.iload 7, 2) := by decide +kernel
theorem dX9_blame_132 : decode cX9_blame 132 = .ok (.invokevirtual 273, 3) := by decide +kernel
theorem dX9_blame_135 : decode cX9_blame 135 = .ok (.istore 10, 2) := by decide +kernel
theorem dX9_blame_137 : decode cX9_blame 137 = .ok (.aload_n 0, 1) := by decide +kernel
theorem dX9_blame_138 : decode cX9_blame 138 = .ok (.iload 7, 2) := by decide +kernel
theorem dX9_blame_140 : decode cX9_blame 140 = .ok (.aload_n 0, 1) := by decide +kernel
theorem dX9_blame_141 : decode cX9_blame 141 = .ok (.iload 7, 2) := by decide +kernel
theorem dX9_blame_143 : decode cX9_blame 143 = .ok (.invokevirtual 260, 3) := by decide +kernel
theorem dX9_blame_146 : decode cX9_blame 146 = .ok (.iconst 1, 1) := by decide +kernel
theorem dX9_blame_147 : decode cX9_blame 147 = .ok (.iload 6, 2) := by decide +kernel
theorem dX9_blame_149 : decode cX9_blame 149 = .ok (.ishl, 1) := by decide +kernel
theorem dX9_blame_150 : decode cX9_blame 150 = .ok (.iconst (-1), 1) := by decide +kernel
theorem dX9_blame_151 : decode cX9_blame 151 = .ok (.ixor, 1) := by decide +kernel
theorem dX9_blame_152 : decode cX9_blame 152 = .ok (.iand, 1) := by decide +kernel
theorem dX9_blame_153 : decode cX9_blame 153 = .ok (.invokevirtual 263, 3) := by decide +kernel
theorem dX9_blame_156 : decode cX9_blame 156 = .ok (.iconst 0, 1) := by decide +kernel
theorem dX9_blame_157 : decode cX9_blame 157 = .ok (.istore 11, 2) := by decide +kernel
theorem dX9_blame_159 : decode cX9_blame 159 = .ok (.iload 11, 2) := by decide +kernel
theorem dX9_blame_161 : decode cX9_blame 161 = .ok (.aload_n 0, 1) := by decide +kernel
theorem dX9_blame_162 : decode cX9_blame 162 = .ok (.getfield 82, 3) := by decide +kernel
theorem dX9_blame_165 : decode cX9_blame 165 = .ok (.if_icmp .ge 49, 3) := by decide +kernel
theorem dX9_blame_168 : decode cX9_blame 168 = .ok (.iload 9, 2) := by decide +kernel
theorem dX9_blame_170 : decode cX9_blame 170 = .ok (.iload 11, 2) := by decide +kernel
theorem dX9_blame_172 : decode cX9_blame 172 = .ok (.iload 6, 2) := by decide +kernel
theorem dX9_blame_174 : decode cX9_blame 174 = .ok (.if_icmp .eq 30, 3) := by decide +kernel
theorem dX9_blame_177 : decode cX9_blame 177 = .ok (.aload_n 0, 1) := by decide +kernel
theorem dX9_blame_178 : decode cX9_blame 178 = .ok (.getfield 26, 3) := by decide +kernel
theorem dX9_blame_181 : decode cX9_blame 181 = .ok (.iconst 5, 1) := by decide +kernel
theorem dX9_blame_182 : decode cX9_blame 182 = .ok (.iload 11, 2) := by decide +kernel
theorem dX9_blame_184 : decode cX9_blame 184 = .ok (.imul, 1) := by decide +kernel
theorem dX9_blame_185 : decode cX9_blame 185 = .ok (.iconst 2, 1) := by decide +kernel
theorem dX9_blame_186 : decode cX9_blame 186 = .ok (.iadd, 1) := by decide +kernel
theorem dX9_blame_187 : decode cX9_blame 187 = .ok (.iaload, 1) := by decide +kernel
theorem dX9_blame_188 : decode cX9_blame 188 = .ok (.iload 7, 2) := by decide +kernel
theorem dX9_blame_190 : decode cX9_blame 190 = .ok (.if_icmp .ne 14, 3) := by decide +kernel
theorem dX9_blame_193 : decode cX9_blame 193 = .ok (.aload_n 0, 1) := by decide +kernel
theorem dX9_blame_194 : decode cX9_blame 194 = .ok (.iload 11, 2) := by decide +kernel
theorem dX9_blame_196 : decode cX9_blame 196 = .ok (.iload 7, 2) := by decide +kernel
theorem dX9_blame_198 : decode cX9_blame 198 = .ok (.invokevirtual 273, 3) := by decide +kernel
theorem dX9_blame_201 : decode cX9_blame 201 = .ok (.goto 4, 3) := by decide +kernel
theorem dX9_blame_204 : decode cX9_blame 204 = .ok (.iconst 0, 1) := by decide +kernel
theorem dX9_blame_205 : decode cX9_blame 205 = .ok (.iadd, 1) := by decide +kernel
theorem dX9_blame_206 : decode cX9_blame 206 = .ok (.istore 9, 2) := by decide +kernel
theorem dX9_blame_208 : decode cX9_blame 208 = .ok (.iinc 11 1, 3) := by decide +kernel
theorem dX9_blame_211 : decode cX9_blame 211 = .ok (.goto (-52), 3) := by decide +kernel
theorem dX9_blame_214 : decode cX9_blame 214 = .ok (.iload 8, 2) := by decide +kernel
theorem dX9_blame_216 : decode cX9_blame 216 = .ok (.iload 9, 2) := by decide +kernel
theorem dX9_blame_218 : decode cX9_blame 218 = .ok (.isub, 1) := by decide +kernel
theorem dX9_blame_219 : decode cX9_blame 219 = .ok (.iload 4, 2) := by decide +kernel
theorem dX9_blame_221 : decode cX9_blame 221 = .ok (.if_icmp .le 22, 3) := by decide +kernel
theorem dX9_blame_224 : decode cX9_blame 224 = .ok (.iload 6, 2) := by decide +kernel
theorem dX9_blame_226 : decode cX9_blame 226 = .ok (.istore_n 3, 1) := by decide +kernel
theorem dX9_blame_227 : decode cX9_blame 227 = .ok (.iload 8, 2) := by decide +kernel
theorem dX9_blame_229 : decode cX9_blame 229 = .ok (.iload 9, 2) := by decide +kernel
theorem dX9_blame_231 : decode cX9_blame 231 = .ok (.isub, 1) := by decide +kernel
theorem dX9_blame_232 : decode cX9_blame 232 = .ok (.istore 4, 2) := by decide +kernel
theorem dX9_blame_234 : decode cX9_blame 234 = .ok (.iload_n 2, 1) := by decide +kernel
theorem dX9_blame_235 : decode cX9_blame 235 = .ok (.iload 10, 2) := by decide +kernel
theorem dX9_blame_237 : decode cX9_blame 237 = .ok (.isub, 1) := by decide +kernel
theorem dX9_blame_238 : decode cX9_blame 238 = .ok (.iload 4, 2) := by decide +kernel
theorem dX9_blame_240 : decode cX9_blame 240 = .ok (.isub, 1) := by decide +kernel
theorem dX9_blame_241 : decode cX9_blame 241 = .ok (.istore 5, 2) := by decide +kernel
theorem dX9_blame_243 : decode cX9_blame 243 = .ok (.iinc 6 1, 3) := by decide +kernel
theorem dX9_blame_246 : decode cX9_blame 246 = .ok (.goto (-217), 3) := by decide +kernel
theorem dX9_blame_249 : decode cX9_blame 249 = .ok (.iload_n 1, 1) := by decide +kernel
theorem dX9_blame_250 : decode cX9_blame 250 = .ok (.ifCond .ne 7, 3) := by decide +kernel
theorem dX9_blame_253 : decode cX9_blame 253 = .ok (.iload_n 3, 1) := by decide +kernel
theorem dX9_blame_254 : decode cX9_blame 254 = .ok (.goto 5, 3) := by decide +kernel
theorem dX9_blame_257 : decode cX9_blame 257 = .ok (.iload 5, 2) := by decide +kernel
theorem dX9_blame_259 : decode cX9_blame 259 = .ok (.ireturn, 1) := by decide +kernel
theorem qX9_blame (d : Nat) (x1 : Int) (s : Sg) : RUN (d + 1) mX9_blame [vr 32 0, vi x1] s = bI (RUN d mX9_in [vl x1, vl 0, vl 1] s) (fun r1 s1 => if r1 = 0 then (some (some (vi (-2)), s1)) else (bI (RUN d mX9_badness [vr 32 0] s1) (fun r2 s2 => EV (d + 1) mX9_blame (29, [vr 32 0, vi x1, vi r2, vi (-1), vi 0, vi r2, vi 0, UU, UU, UU, UU, UU], [], s2)))) := x_run rfl (x_st 1 dX9_blame_0 rfl (x_st 2 dX9_blame_1 rfl (x_st 3 dX9_blame_2 rfl (x_st 4 dX9_blame_3 rfl (x_ci 7 [vr 32 0, vi x1, UU, UU, UU, UU, UU, UU, UU, UU, UU, UU] [] dX9_blame_4 rfl (fun r1 s1 => x_br dX9_blame_7 (x_if (x_go 10 (x_st 12 dX9_blame_10 rfl (x_ret dX9_blame_12 rfl))) (x_go 13 (x_st 14 dX9_blame_13 rfl (x_ci 17 [vr 32 0, vi x1, UU, UU, UU, UU, UU, UU, UU, UU, UU, UU] [] dX9_blame_14 rfl (fun r2 s2 => x_so 18 [vr 32 0, vi x1, vi r2, UU, UU, UU, UU, UU, UU, UU, UU, UU] dX9_blame_17 rfl (x_st 19 dX9_blame_18 rfl (x_so 20 [vr 32 0, vi x1, vi r2, vi (-1), UU, UU, UU, UU, UU, UU, UU, UU] dX9_blame_19 rfl (x_st 21 dX9_blame_20 rfl (x_so 23 [vr 32 0, vi x1, vi r2, vi (-1), vi 0, UU, UU, UU, UU, UU, UU, UU] dX9_blame_21 rfl (x_st 24 dX9_blame_23 rfl (x_so 26 [vr 32 0, vi x1, vi r2, vi (-1), vi 0, vi r2, UU, UU, UU, UU, UU, UU] dX9_blame_24 rfl (x_st 27 dX9_blame_26 rfl (x_so 29 [vr 32 0, vi x1, vi r2, vi (-1), vi 0, vi r2, vi 0, UU, UU, UU, UU, UU] dX9_blame_27 rfl (rfl))))))))))))))))))))
theorem qX9_blame_29 (d : Nat) (x1 : Int) (x2 : Int) (x3 : Int) (x4 : Int) (x5 : Int) (x6 : Int) (z7 : PV) (z8 : PV) (z9 : PV) (z10 : PV) (z11 : PV) (s : Sg) : EV (d + 1) mX9_blame (29, [vr 32 0, vi x1, vi x2, vi x3, vi x4, vi x5, vi x6, z7, z8, z9, z10, z11], [], s) = if x6 < (s 32 0 9) then (if inb (w32 ((w32 (5 * x6)) + 2)) 30 then (bI (RUN d mX9_setOf [vr 32 0, vi (s 37 0 (Int.toNat (w32 ((w32 (5 * x6)) + 2))))] s) (fun r1 s1 => bV (RUN d mX9_goes [vr 32 0, vi (s 37 0 (Int.toNat (w32 ((w32 (5 * x6)) + 2)))), vi r1] s1) (fun s2 => EV (d + 1) mX9_blame (72, [vr 32 0, vi x1, vi x2, vi x3, vi x4, vi x5, vi x6, vi (s 37 0 (Int.toNat (w32 ((w32 (5 * x6)) + 2)))), vi 0, vi 0, vi 0, z11], [], s2)))) else none) else (if x1 = 0 then (some (some (vi x3), s)) else (some (some (vi x5), s))) := x_st 31 dX9_blame_29 rfl (x_st 32 dX9_blame_31 rfl (x_st 35 dX9_blame_32 rfl (x_br dX9_blame_35 (x_if (x_go 38 (x_st 39 dX9_blame_38 rfl (x_st 42 dX9_blame_39 rfl (x_st 43 dX9_blame_42 rfl (x_st 45 dX9_blame_43 rfl (x_st 46 dX9_blame_45 rfl (x_st 47 dX9_blame_46 rfl (x_st 48 dX9_blame_47 rfl (x_br dX9_blame_48 (x_if (x_go 49 (x_so 51 [vr 32 0, vi x1, vi x2, vi x3, vi x4, vi x5, vi x6, vi (s 37 0 (Int.toNat (w32 ((w32 (5 * x6)) + 2)))), z8, z9, z10, z11] dX9_blame_49 rfl (x_st 52 dX9_blame_51 rfl (x_so 54 [vr 32 0, vi x1, vi x2, vi x3, vi x4, vi x5, vi x6, vi (s 37 0 (Int.toNat (w32 ((w32 (5 * x6)) + 2)))), vi 0, z9, z10, z11] dX9_blame_52 rfl (x_st 55 dX9_blame_54 rfl (x_so 57 [vr 32 0, vi x1, vi x2, vi x3, vi x4, vi x5, vi x6, vi (s 37 0 (Int.toNat (w32 ((w32 (5 * x6)) + 2)))), vi 0, vi 0, z10, z11] dX9_blame_55 rfl (x_st 58 dX9_blame_57 rfl (x_st 60 dX9_blame_58 rfl (x_st 61 dX9_blame_60 rfl (x_st 63 dX9_blame_61 rfl (x_ci 66 [vr 32 0, vi x1, vi x2, vi x3, vi x4, vi x5, vi x6, vi (s 37 0 (Int.toNat (w32 ((w32 (5 * x6)) + 2)))), vi 0, vi 0, z10, z11] [vi (s 37 0 (Int.toNat (w32 ((w32 (5 * x6)) + 2)))), vr 32 0] dX9_blame_63 rfl (fun r1 s1 => x_cv 69 [vr 32 0, vi x1, vi x2, vi x3, vi x4, vi x5, vi x6, vi (s 37 0 (Int.toNat (w32 ((w32 (5 * x6)) + 2)))), vi 0, vi 0, z10, z11] [] dX9_blame_66 rfl (fun s2 => x_st 70 dX9_blame_69 rfl (x_so 72 [vr 32 0, vi x1, vi x2, vi x3, vi x4, vi x5, vi x6, vi (s 37 0 (Int.toNat (w32 ((w32 (5 * x6)) + 2)))), vi 0, vi 0, vi 0, z11] dX9_blame_70 rfl (rfl))))))))))))))) x_no)))))))))) (x_go 249 (x_st 250 dX9_blame_249 rfl (x_br dX9_blame_250 (x_if (x_go 253 (x_st 254 dX9_blame_253 rfl (x_st 259 dX9_blame_254 rfl (x_ret dX9_blame_259 rfl)))) (x_go 257 (x_st 259 dX9_blame_257 rfl (x_ret dX9_blame_259 rfl)))))))))))
theorem qX9_blame_72 (d : Nat) (x1 : Int) (x2 : Int) (x3 : Int) (x4 : Int) (x5 : Int) (x6 : Int) (x7 : Int) (x8 : Int) (x9 : Int) (x10 : Int) (z11 : PV) (s : Sg) : EV (d + 1) mX9_blame (72, [vr 32 0, vi x1, vi x2, vi x3, vi x4, vi x5, vi x6, vi x7, vi x8, vi x9, vi x10, z11], [], s) = if x10 < (s 32 0 9) then (if x10 = x6 then (EV (d + 1) mX9_blame (117, [vr 32 0, vi x1, vi x2, vi x3, vi x4, vi x5, vi x6, vi x7, vi x8, vi x9, vi x10, z11], [vi x8], s)) else (if inb (w32 ((w32 (5 * x10)) + 2)) 30 then (if (s 37 0 (Int.toNat (w32 ((w32 (5 * x10)) + 2)))) = x7 then (bI (RUN d mX9_badOf [vr 32 0, vi x10, vi x7] s) (fun r1 s1 => EV (d + 1) mX9_blame (118, [vr 32 0, vi x1, vi x2, vi x3, vi x4, vi x5, vi x6, vi x7, vi x8, vi x9, vi x10, z11], [vi r1, vi x8], s1))) else (EV (d + 1) mX9_blame (117, [vr 32 0, vi x1, vi x2, vi x3, vi x4, vi x5, vi x6, vi x7, vi x8, vi x9, vi x10, z11], [vi x8], s))) else none)) else (bI (RUN d mX9_badOf [vr 32 0, vi x6, vi x7] s) (fun r2 s2 => bI (RUN d mX9_setOf [vr 32 0, vi x7] s2) (fun r3 s3 => bV (RUN d mX9_goes [vr 32 0, vi x7, vi (wand r3 (wxor (wshl 1 x6) (-1)))] s3) (fun s4 => EV (d + 1) mX9_blame (159, [vr 32 0, vi x1, vi x2, vi x3, vi x4, vi x5, vi x6, vi x7, vi x8, vi x9, vi r2, vi 0], [], s4))))) := x_st 74 dX9_blame_72 rfl (x_st 75 dX9_blame_74 rfl (x_st 78 dX9_blame_75 rfl (x_br dX9_blame_78 (x_if (x_go 81 (x_st 83 dX9_blame_81 rfl (x_st 85 dX9_blame_83 rfl (x_st 87 dX9_blame_85 rfl (x_br dX9_blame_87 (x_if (x_go 117 (rfl)) (x_go 90 (x_st 91 dX9_blame_90 rfl (x_st 94 dX9_blame_91 rfl (x_st 95 dX9_blame_94 rfl (x_st 97 dX9_blame_95 rfl (x_st 98 dX9_blame_97 rfl (x_st 99 dX9_blame_98 rfl (x_st 100 dX9_blame_99 rfl (x_br dX9_blame_100 (x_if (x_go 101 (x_st 103 dX9_blame_101 rfl (x_br dX9_blame_103 (x_if (x_go 106 (x_st 107 dX9_blame_106 rfl (x_st 109 dX9_blame_107 rfl (x_st 111 dX9_blame_109 rfl (x_ci 114 [vr 32 0, vi x1, vi x2, vi x3, vi x4, vi x5, vi x6, vi x7, vi x8, vi x9, vi x10, z11] [vi x8] dX9_blame_111 rfl (fun r1 s1 => x_st 118 dX9_blame_114 rfl (rfl))))))) (x_go 117 (rfl)))))) x_no)))))))))))))))) (x_go 127 (x_st 128 dX9_blame_127 rfl (x_st 130 dX9_blame_128 rfl (x_st 132 dX9_blame_130 rfl (x_ci 135 [vr 32 0, vi x1, vi x2, vi x3, vi x4, vi x5, vi x6, vi x7, vi x8, vi x9, vi x10, z11] [] dX9_blame_132 rfl (fun r2 s2 => x_so 137 [vr 32 0, vi x1, vi x2, vi x3, vi x4, vi x5, vi x6, vi x7, vi x8, vi x9, vi r2, z11] dX9_blame_135 rfl (x_st 138 dX9_blame_137 rfl (x_st 140 dX9_blame_138 rfl (x_st 141 dX9_blame_140 rfl (x_st 143 dX9_blame_141 rfl (x_ci 146 [vr 32 0, vi x1, vi x2, vi x3, vi x4, vi x5, vi x6, vi x7, vi x8, vi x9, vi r2, z11] [vi x7, vr 32 0] dX9_blame_143 rfl (fun r3 s3 => x_st 147 dX9_blame_146 rfl (x_st 149 dX9_blame_147 rfl (x_st 150 dX9_blame_149 rfl (x_st 151 dX9_blame_150 rfl (x_st 152 dX9_blame_151 rfl (x_st 153 dX9_blame_152 rfl (x_cv 156 [vr 32 0, vi x1, vi x2, vi x3, vi x4, vi x5, vi x6, vi x7, vi x8, vi x9, vi r2, z11] [] dX9_blame_153 rfl (fun s4 => x_st 157 dX9_blame_156 rfl (x_so 159 [vr 32 0, vi x1, vi x2, vi x3, vi x4, vi x5, vi x6, vi x7, vi x8, vi x9, vi r2, vi 0] dX9_blame_157 rfl (rfl)))))))))))))))))))))))))
theorem qX9_blame_117 (d : Nat) (x1 : Int) (x2 : Int) (x3 : Int) (x4 : Int) (x5 : Int) (x6 : Int) (x7 : Int) (z8 : PV) (x9 : Int) (x10 : Int) (z11 : PV) (y0 : Int) (s : Sg) : EV d mX9_blame (117, [vr 32 0, vi x1, vi x2, vi x3, vi x4, vi x5, vi x6, vi x7, z8, vi x9, vi x10, z11], [vi y0], s) = EV d mX9_blame (118, [vr 32 0, vi x1, vi x2, vi x3, vi x4, vi x5, vi x6, vi x7, z8, vi x9, vi x10, z11], [vi 0, vi y0], s) := x_st 118 dX9_blame_117 rfl (rfl)
theorem qX9_blame_118 (d : Nat) (x1 : Int) (x2 : Int) (x3 : Int) (x4 : Int) (x5 : Int) (x6 : Int) (x7 : Int) (z8 : PV) (x9 : Int) (x10 : Int) (z11 : PV) (y0 : Int) (y1 : Int) (s : Sg) : EV d mX9_blame (118, [vr 32 0, vi x1, vi x2, vi x3, vi x4, vi x5, vi x6, vi x7, z8, vi x9, vi x10, z11], [vi y0, vi y1], s) = EV d mX9_blame (72, [vr 32 0, vi x1, vi x2, vi x3, vi x4, vi x5, vi x6, vi x7, vi (w32 (y1 + y0)), vi x9, vi (w32 (x10 + 1)), z11], [], s) := x_st 119 dX9_blame_118 rfl (x_so 121 [vr 32 0, vi x1, vi x2, vi x3, vi x4, vi x5, vi x6, vi x7, vi (w32 (y1 + y0)), vi x9, vi x10, z11] dX9_blame_119 rfl (x_so 124 [vr 32 0, vi x1, vi x2, vi x3, vi x4, vi x5, vi x6, vi x7, vi (w32 (y1 + y0)), vi x9, vi (w32 (x10 + 1)), z11] dX9_blame_121 rfl (x_st 72 dX9_blame_124 rfl (rfl))))
theorem qX9_blame_159 (d : Nat) (x1 : Int) (x2 : Int) (x3 : Int) (x4 : Int) (x5 : Int) (x6 : Int) (x7 : Int) (x8 : Int) (x9 : Int) (x10 : Int) (x11 : Int) (s : Sg) : EV (d + 1) mX9_blame (159, [vr 32 0, vi x1, vi x2, vi x3, vi x4, vi x5, vi x6, vi x7, vi x8, vi x9, vi x10, vi x11], [], s) = if x11 < (s 32 0 9) then (if x11 = x6 then (EV (d + 1) mX9_blame (204, [vr 32 0, vi x1, vi x2, vi x3, vi x4, vi x5, vi x6, vi x7, vi x8, vi x9, vi x10, vi x11], [vi x9], s)) else (if inb (w32 ((w32 (5 * x11)) + 2)) 30 then (if (s 37 0 (Int.toNat (w32 ((w32 (5 * x11)) + 2)))) = x7 then (bI (RUN d mX9_badOf [vr 32 0, vi x11, vi x7] s) (fun r1 s1 => EV (d + 1) mX9_blame (205, [vr 32 0, vi x1, vi x2, vi x3, vi x4, vi x5, vi x6, vi x7, vi x8, vi x9, vi x10, vi x11], [vi r1, vi x9], s1))) else (EV (d + 1) mX9_blame (204, [vr 32 0, vi x1, vi x2, vi x3, vi x4, vi x5, vi x6, vi x7, vi x8, vi x9, vi x10, vi x11], [vi x9], s))) else none)) else (if x4 < (w32 (x8 - x9)) then (EV (d + 1) mX9_blame (243, [vr 32 0, vi x1, vi x2, vi x6, vi (w32 (x8 - x9)), vi (w32 ((w32 (x2 - x10)) - (w32 (x8 - x9)))), vi x6, vi x7, vi x8, vi x9, vi x10, vi x11], [], s)) else (EV (d + 1) mX9_blame (243, [vr 32 0, vi x1, vi x2, vi x3, vi x4, vi x5, vi x6, vi x7, vi x8, vi x9, vi x10, vi x11], [], s))) := x_st 161 dX9_blame_159 rfl (x_st 162 dX9_blame_161 rfl (x_st 165 dX9_blame_162 rfl (x_br dX9_blame_165 (x_if (x_go 168 (x_st 170 dX9_blame_168 rfl (x_st 172 dX9_blame_170 rfl (x_st 174 dX9_blame_172 rfl (x_br dX9_blame_174 (x_if (x_go 204 (rfl)) (x_go 177 (x_st 178 dX9_blame_177 rfl (x_st 181 dX9_blame_178 rfl (x_st 182 dX9_blame_181 rfl (x_st 184 dX9_blame_182 rfl (x_st 185 dX9_blame_184 rfl (x_st 186 dX9_blame_185 rfl (x_st 187 dX9_blame_186 rfl (x_br dX9_blame_187 (x_if (x_go 188 (x_st 190 dX9_blame_188 rfl (x_br dX9_blame_190 (x_if (x_go 193 (x_st 194 dX9_blame_193 rfl (x_st 196 dX9_blame_194 rfl (x_st 198 dX9_blame_196 rfl (x_ci 201 [vr 32 0, vi x1, vi x2, vi x3, vi x4, vi x5, vi x6, vi x7, vi x8, vi x9, vi x10, vi x11] [vi x9] dX9_blame_198 rfl (fun r1 s1 => x_st 205 dX9_blame_201 rfl (rfl))))))) (x_go 204 (rfl)))))) x_no)))))))))))))))) (x_go 214 (x_st 216 dX9_blame_214 rfl (x_st 218 dX9_blame_216 rfl (x_st 219 dX9_blame_218 rfl (x_st 221 dX9_blame_219 rfl (x_br dX9_blame_221 (x_if (x_go 224 (x_st 226 dX9_blame_224 rfl (x_so 227 [vr 32 0, vi x1, vi x2, vi x6, vi x4, vi x5, vi x6, vi x7, vi x8, vi x9, vi x10, vi x11] dX9_blame_226 rfl (x_st 229 dX9_blame_227 rfl (x_st 231 dX9_blame_229 rfl (x_st 232 dX9_blame_231 rfl (x_so 234 [vr 32 0, vi x1, vi x2, vi x6, vi (w32 (x8 - x9)), vi x5, vi x6, vi x7, vi x8, vi x9, vi x10, vi x11] dX9_blame_232 rfl (x_st 235 dX9_blame_234 rfl (x_st 237 dX9_blame_235 rfl (x_st 238 dX9_blame_237 rfl (x_st 240 dX9_blame_238 rfl (x_st 241 dX9_blame_240 rfl (x_so 243 [vr 32 0, vi x1, vi x2, vi x6, vi (w32 (x8 - x9)), vi (w32 ((w32 (x2 - x10)) - (w32 (x8 - x9)))), vi x6, vi x7, vi x8, vi x9, vi x10, vi x11] dX9_blame_241 rfl (rfl)))))))))))))) (x_go 243 (rfl)))))))))))))
theorem qX9_blame_204 (d : Nat) (x1 : Int) (x2 : Int) (x3 : Int) (x4 : Int) (x5 : Int) (x6 : Int) (x7 : Int) (x8 : Int) (z9 : PV) (x10 : Int) (x11 : Int) (y0 : Int) (s : Sg) : EV d mX9_blame (204, [vr 32 0, vi x1, vi x2, vi x3, vi x4, vi x5, vi x6, vi x7, vi x8, z9, vi x10, vi x11], [vi y0], s) = EV d mX9_blame (205, [vr 32 0, vi x1, vi x2, vi x3, vi x4, vi x5, vi x6, vi x7, vi x8, z9, vi x10, vi x11], [vi 0, vi y0], s) := x_st 205 dX9_blame_204 rfl (rfl)
theorem qX9_blame_205 (d : Nat) (x1 : Int) (x2 : Int) (x3 : Int) (x4 : Int) (x5 : Int) (x6 : Int) (x7 : Int) (x8 : Int) (z9 : PV) (x10 : Int) (x11 : Int) (y0 : Int) (y1 : Int) (s : Sg) : EV d mX9_blame (205, [vr 32 0, vi x1, vi x2, vi x3, vi x4, vi x5, vi x6, vi x7, vi x8, z9, vi x10, vi x11], [vi y0, vi y1], s) = EV d mX9_blame (159, [vr 32 0, vi x1, vi x2, vi x3, vi x4, vi x5, vi x6, vi x7, vi x8, vi (w32 (y1 + y0)), vi x10, vi (w32 (x11 + 1))], [], s) := x_st 206 dX9_blame_205 rfl (x_so 208 [vr 32 0, vi x1, vi x2, vi x3, vi x4, vi x5, vi x6, vi x7, vi x8, vi (w32 (y1 + y0)), vi x10, vi x11] dX9_blame_206 rfl (x_so 211 [vr 32 0, vi x1, vi x2, vi x3, vi x4, vi x5, vi x6, vi x7, vi x8, vi (w32 (y1 + y0)), vi x10, vi (w32 (x11 + 1))] dX9_blame_208 rfl (x_st 159 dX9_blame_211 rfl (rfl))))
theorem qX9_blame_243 (d : Nat) (x1 : Int) (x2 : Int) (x3 : Int) (x4 : Int) (x5 : Int) (x6 : Int) (z7 : PV) (z8 : PV) (z9 : PV) (z10 : PV) (z11 : PV) (s : Sg) : EV d mX9_blame (243, [vr 32 0, vi x1, vi x2, vi x3, vi x4, vi x5, vi x6, z7, z8, z9, z10, z11], [], s) = EV d mX9_blame (29, [vr 32 0, vi x1, vi x2, vi x3, vi x4, vi x5, vi (w32 (x6 + 1)), z7, z8, z9, z10, z11], [], s) := x_so 246 [vr 32 0, vi x1, vi x2, vi x3, vi x4, vi x5, vi (w32 (x6 + 1)), z7, z8, z9, z10, z11] dX9_blame_243 rfl (x_st 29 dX9_blame_246 rfl (rfl))
theorem dX9_tells_0 : decode cX9_tells 0 = .ok (.iload_n 1, 1) := by decide +kernel
theorem dX9_tells_1 : decode cX9_tells 1 = .ok (.invokestatic 296, 3) := by decide +kernel
theorem dX9_tells_4 : decode cX9_tells 4 = .ok (.ifCond .eq 38, 3) := by decide +kernel
theorem dX9_tells_7 : decode cX9_tells 7 = .ok (.iload_n 2, 1) := by decide +kernel
theorem dX9_tells_8 : decode cX9_tells 8 = .ok (.i2l, 1) := by decide +kernel
theorem dX9_tells_9 : decode cX9_tells 9 = .ok (.lconst 0, 1) := by decide +kernel
theorem dX9_tells_10 : decode cX9_tells 10 = .ok (.lconst 1, 1) := by decide +kernel
theorem dX9_tells_11 : decode cX9_tells 11 = .ok (.invokestatic 85, 3) := by decide +kernel
theorem dX9_tells_14 : decode cX9_tells 14 = .ok (.ifCond .ne 31, 3) := by decide +kernel
theorem dX9_tells_17 : decode cX9_tells 17 = .ok (.iload_n 2, 1) := by decide +kernel
theorem dX9_tells_18 : decode cX9_tells 18 = .ok (.i2l, 1) := by decide +kernel
theorem dX9_tells_19 : decode cX9_tells 19 = .ok (.ldc2_w 108, 3) := by decide +kernel
theorem dX9_tells_22 : decode cX9_tells 22 = .ok (.ldc2_w 299, 3) := by decide +kernel
theorem dX9_tells_25 : decode cX9_tells 25 = .ok (.invokestatic 85, 3) := by decide +kernel
theorem dX9_tells_28 : decode cX9_tells 28 = .ok (.ifCond .eq 14, 3) := by decide +kernel
theorem dX9_tells_31 : decode cX9_tells 31 = .ok (.aload_n 0, 1) := by decide +kernel
theorem dX9_tells_32 : decode cX9_tells 32 = .ok (.iload_n 2, 1) := by decide +kernel
theorem dX9_tells_33 : decode cX9_tells 33 = .ok (.bipush 10, 2) := by decide +kernel
theorem dX9_tells_35 : decode cX9_tells 35 = .ok (.irem, 1) := by decide +kernel
theorem dX9_tells_36 : decode cX9_tells 36 = .ok (.invokevirtual 91, 3) := by decide +kernel
theorem dX9_tells_39 : decode cX9_tells 39 = .ok (.ifCond .ne 6, 3) := by decide +kernel
theorem dX9_tells_42 : decode cX9_tells 42 = .ok (.bipush (-2), 2) := by decide +kernel
theorem dX9_tells_44 : decode cX9_tells 44 = .ok (.ireturn, 1) := by decide +kernel
theorem dX9_tells_45 : decode cX9_tells 45 = .ok (.aload_n 0, 1) := by decide +kernel
theorem dX9_tells_46 : decode cX9_tells 46 = .ok (.getfield 62, 3) := by decide +kernel
theorem dX9_tells_49 : decode cX9_tells 49 = .ok (.iload_n 1, 1) := by decide +kernel
theorem dX9_tells_50 : decode cX9_tells 50 = .ok (.baload, 1) := by decide +kernel
theorem dX9_tells_51 : decode cX9_tells 51 = .ok (.ifCond .ne 6, 3) := by decide +kernel
theorem dX9_tells_54 : decode cX9_tells 54 = .ok (.bipush (-11), 2) := by decide +kernel
theorem dX9_tells_56 : decode cX9_tells 56 = .ok (.ireturn, 1) := by decide +kernel
theorem dX9_tells_57 : decode cX9_tells 57 = .ok (.aload_n 0, 1) := by decide +kernel
theorem dX9_tells_58 : decode cX9_tells 58 = .ok (.getfield 69, 3) := by decide +kernel
theorem dX9_tells_61 : decode cX9_tells 61 = .ok (.iload_n 1, 1) := by decide +kernel
theorem dX9_tells_62 : decode cX9_tells 62 = .ok (.iaload, 1) := by decide +kernel
theorem dX9_tells_63 : decode cX9_tells 63 = .ok (.aload_n 0, 1) := by decide +kernel
theorem dX9_tells_64 : decode cX9_tells 64 = .ok (.getfield 82, 3) := by decide +kernel
theorem dX9_tells_67 : decode cX9_tells 67 = .ok (.if_icmp .eq 6, 3) := by decide +kernel
theorem dX9_tells_70 : decode cX9_tells 70 = .ok (.bipush (-2), 2) := by decide +kernel
theorem dX9_tells_72 : decode cX9_tells 72 = .ok (.ireturn, 1) := by decide +kernel
theorem dX9_tells_73 : decode cX9_tells 73 = .ok (.iload_n 2, 1) := by decide +kernel
theorem dX9_tells_74 : decode cX9_tells 74 = .ok (.ifCond .ne 9, 3) := by decide +kernel
theorem dX9_tells_77 : decode cX9_tells 77 = .ok (.aload_n 0, 1) := by decide +kernel
theorem dX9_tells_78 : decode cX9_tells 78 = .ok (.iload_n 1, 1) := by decide +kernel
theorem dX9_tells_79 : decode cX9_tells 79 = .ok (.invokevirtual 301, 3) := by decide +kernel
theorem dX9_tells_82 : decode cX9_tells 82 = .ok (.ireturn, 1) := by decide +kernel
theorem dX9_tells_83 : decode cX9_tells 83 = .ok (.iload_n 2, 1) := by decide +kernel
theorem dX9_tells_84 : decode cX9_tells 84 = .ok (.bipush 10, 2) := by decide +kernel
theorem dX9_tells_86 : decode cX9_tells 86 = .ok (.irem, 1) := by decide +kernel
theorem dX9_tells_87 : decode cX9_tells 87 = .ok (.istore_n 3, 1) := by decide +kernel
theorem dX9_tells_88 : decode cX9_tells 88 = .ok (.iload_n 2, 1) := by decide +kernel
theorem dX9_tells_89 : decode cX9_tells 89 = .ok (.iconst 1, 1) := by decide +kernel
theorem dX9_tells_90 : decode cX9_tells 90 = .ok (.if_icmp .ne 8, 3) := by decide +kernel
theorem dX9_tells_93 : decode cX9_tells 93 = .ok (.bipush 6, 2) := by decide +kernel
theorem dX9_tells_95 : decode cX9_tells 95 = .ok (.goto 44, 3) := by decide +kernel
theorem dX9_tells_98 : decode cX9_tells 98 = .ok (.iload_n 2, 1) := by decide +kernel
theorem dX9_tells_99 : decode cX9_tells 99 = .ok (.bipush 20, 2) := by decide +kernel
theorem dX9_tells_101 : decode cX9_tells 101 = .ok (.if_icmp .ge 7, 3) := by decide +kernel
theorem dX9_tells_104 : decode cX9_tells 104 = .ok (.iconst 5, 1) := by decide +kernel
theorem dX9_tells_105 : decode cX9_tells 105 = .ok (.goto 34, 3) := by decide +kernel
theorem dX9_tells_108 : decode cX9_tells 108 = .ok (.iload_n 2, 1) := by decide +kernel
theorem dX9_tells_109 : decode cX9_tells 109 = .ok (.bipush 30, 2) := by decide +kernel
theorem dX9_tells_111 : decode cX9_tells 111 = .ok (.if_icmp .ge 7, 3) := by decide +kernel
theorem dX9_tells_114 : decode cX9_tells 114 = .ok (.iconst 0, 1) := by decide +kernel
theorem dX9_tells_115 : decode cX9_tells 115 = .ok (.goto 24, 3) := by decide +kernel
theorem dX9_tells_118 : decode cX9_tells 118 = .ok (.iload_n 2, 1) := by decide +kernel
theorem dX9_tells_119 : decode cX9_tells 119 = .ok (.bipush 40, 2) := by decide +kernel
theorem dX9_tells_121 : decode cX9_tells 121 = .ok (.if_icmp .ge 7, 3) := by decide +kernel
theorem dX9_tells_124 : decode cX9_tells 124 = .ok (.iconst 2, 1) := by decide +kernel
theorem dX9_tells_125 : decode cX9_tells 125 = .ok (.goto 14, 3) := by decide +kernel
theorem dX9_tells_128 : decode cX9_tells 128 = .ok (.iload_n 2, 1) := by decide +kernel
theorem dX9_tells_129 : decode cX9_tells 129 = .ok (.bipush 50, 2) := by decide +kernel
theorem dX9_tells_131 : decode cX9_tells 131 = .ok (.if_icmp .ge 7, 3) := by decide +kernel
theorem dX9_tells_134 : decode cX9_tells 134 = .ok (.iconst 4, 1) := by decide +kernel
theorem dX9_tells_135 : decode cX9_tells 135 = .ok (.goto 4, 3) := by decide +kernel
theorem dX9_tells_138 : decode cX9_tells 138 = .ok (.iconst 3, 1) := by decide +kernel
theorem dX9_tells_139 : decode cX9_tells 139 = .ok (.istore 4, 2) := by decide +kernel
theorem dX9_tells_141 : decode cX9_tells 141 = .ok (.iload 4, 2) := by decide +kernel
theorem dX9_tells_143 : decode cX9_tells 143 = .ok (.bipush 6, 2) := by decide +kernel
theorem dX9_tells_145 : decode cX9_tells 145 = .ok (.if_icmp .ne 10, 3) := by decide +kernel
theorem dX9_tells_148 : decode cX9_tells 148 = .ok (.aload_n 0, 1) := by decide +kernel
theorem dX9_tells_149 : decode cX9_tells 149 = .ok (.getfield 99, 3) := by decide +kernel
theorem dX9_tells_152 : decode cX9_tells 152 = .ok (.goto 29, 3) := by decide +kernel
theorem dX9_tells_155 : decode cX9_tells 155 = .ok (.iload 4, 2) := by decide +kernel
theorem dX9_tells_157 : decode cX9_tells 157 = .ok (.iconst 5, 1) := by decide +kernel
theorem dX9_tells_158 : decode cX9_tells 158 = .ok (.if_icmp .ne 12, 3) := by decide +kernel
theorem dX9_tells_161 : decode cX9_tells 161 = .ok (.aload_n 0, 1) := by decide +kernel
theorem dX9_tells_162 : decode cX9_tells 162 = .ok (.getfield 23, 3) := by decide +kernel
theorem dX9_tells_165 : decode cX9_tells 165 = .ok (.iload_n 3, 1) := by decide +kernel
theorem dX9_tells_166 : decode cX9_tells 166 = .ok (.iaload, 1) := by decide +kernel
theorem dX9_tells_167 : decode cX9_tells 167 = .ok (.goto 14, 3) := by decide +kernel
theorem dX9_tells_170 : decode cX9_tells 170 = .ok (.aload_n 0, 1) := by decide +kernel
theorem dX9_tells_171 : decode cX9_tells 171 = .ok (.getfield 26, 3) := by decide +kernel
theorem dX9_tells_174 : decode cX9_tells 174 = .ok (.iconst 5, 1) := by decide +kernel
theorem dX9_tells_175 : decode cX9_tells 175 = .ok (.iload_n 3, 1) := by decide +kernel
theorem dX9_tells_176 : decode cX9_tells 176 = .ok (.imul, 1) := by decide +kernel
theorem dX9_tells_177 : decode cX9_tells 177 = .ok (.iload 4, 2) := by decide +kernel
theorem dX9_tells_179 : decode cX9_tells 179 = .ok (.iadd, 1) := by decide +kernel
theorem dX9_tells_180 : decode cX9_tells 180 = .ok (.iaload, 1) := by decide +kernel
theorem dX9_tells_181 : decode cX9_tells 181 = .ok (.istore 5, 2) := by decide +kernel
theorem dX9_tells_183 : decode cX9_tells 183 = .ok (.iload 4, 2) := by decide +kernel
theorem dX9_tells_185 : decode cX9_tells 185 = .ok (.bipush 6, 2) := by decide +kernel
theorem dX9_tells_187 : decode cX9_tells 187 = .ok (.if_icmp .ne 12, 3) := by decide +kernel
theorem dX9_tells_190 : decode cX9_tells 190 = .ok (.aload_n 0, 1) := by decide +kernel
theorem dX9_tells_191 : decode cX9_tells 191 = .ok (.getfield 79, 3) := by decide +kernel
theorem dX9_tells_194 : decode cX9_tells 194 = .ok (.iconst 1, 1) := by decide +kernel
theorem dX9_tells_195 : decode cX9_tells 195 = .ok (.isub, 1) := by decide +kernel
theorem dX9_tells_196 : decode cX9_tells 196 = .ok (.goto 18, 3) := by decide +kernel
theorem dX9_tells_199 : decode cX9_tells 199 = .ok (.iload 4, 2) := by decide +kernel
theorem dX9_tells_201 : decode cX9_tells 201 = .ok (.iconst 5, 1) := by decide +kernel
theorem dX9_tells_202 : decode cX9_tells 202 = .ok (.if_icmp .ne 7, 3) := by decide +kernel
theorem dX9_tells_205 : decode cX9_tells 205 = .ok (.iconst 5, 1) := by decide +kernel
theorem dX9_tells_206 : decode cX9_tells 206 = .ok (.goto 8, 3) := by decide +kernel
theorem dX9_tells_209 : decode cX9_tells 209 = .ok (.iload 4, 2) := by decide +kernel
theorem dX9_tells_211 : decode cX9_tells 211 = .ok (.invokestatic 95, 3) := by decide +kernel
theorem dX9_tells_214 : decode cX9_tells 214 = .ok (.istore 6, 2) := by decide +kernel
theorem dX9_tells_216 : decode cX9_tells 216 = .ok (.iconst 0, 1) := by decide +kernel
theorem dX9_tells_217 : decode cX9_tells 217 = .ok (.istore 7, 2) := by decide +kernel
theorem dX9_tells_219 : decode cX9_tells 219 = .ok (.iconst 0, 1) := by decide +kernel
theorem dX9_tells_220 : decode cX9_tells 220 = .ok (.istore 8, 2) := by decide +kernel
theorem dX9_tells_222 : decode cX9_tells 222 = .ok (.iconst (-1), 1) := by decide +kernel
theorem dX9_tells_223 : decode cX9_tells 223 = .ok (.istore 9, 2) := by decide +kernel
theorem dX9_tells_225 : decode cX9_tells 225 = .ok (.iconst 0, 1) := by decide +kernel
theorem dX9_tells_226 : decode cX9_tells 226 = .ok (.istore 10, 2) := by decide +kernel
theorem dX9_tells_228 : decode cX9_tells 228 = .ok (.iload 10, 2) := by decide +kernel
theorem dX9_tells_230 : decode cX9_tells 230 = .ok (.iload 6, 2) := by decide +kernel
theorem dX9_tells_232 : decode cX9_tells 232 = .ok (.if_icmp .gt 63, 3) := by decide +kernel
theorem dX9_tells_235 : decode cX9_tells 235 = .ok (.aload_n 0, 1) := by decide +kernel
theorem dX9_tells_236 : decode cX9_tells 236 = .ok (.iload 4, 2) := by decide +kernel
theorem dX9_tells_238 : decode cX9_tells 238 = .ok (.iload_n 3, 1) := by decide +kernel
theorem dX9_tells_239 : decode cX9_tells 239 = .ok (.iload 10, 2) := by decide +kernel
theorem dX9_tells_241 : decode cX9_tells 241 = .ok (.invokevirtual 304, 3) := by decide +kernel
theorem dX9_tells_244 : decode cX9_tells 244 = .ok (.aload_n 0, 1) := by decide +kernel
theorem dX9_tells_245 : decode cX9_tells 245 = .ok (.iload_n 1, 1) := by decide +kernel
theorem dX9_tells_246 : decode cX9_tells 246 = .ok (.invokevirtual 301, 3) := by decide +kernel
theorem dX9_tells_249 : decode cX9_tells 249 = .ok (.ifCond .ne 40, 3) := by decide +kernel
theorem dX9_tells_252 : decode cX9_tells 252 = .ok (.iload 7, 2) := by decide +kernel
theorem dX9_tells_254 : decode cX9_tells 254 = .ok (.iload_n 2, 1) := by decide +kernel
theorem dX9_tells_255 : decode cX9_tells 255 = .ok (.bipush 50, 2) := by decide +kernel
theorem dX9_tells_257 : decode cX9_tells 257 = .ok (.if_icmp .ge 10, 3) := by decide +kernel
theorem dX9_tells_260 : decode cX9_tells 260 = .ok (.iconst 1, 1) := by decide +kernel
theorem dX9_tells_261 : decode cX9_tells 261 = .ok (.iload 10, 2) := by decide +kernel
theorem dX9_tells_263 : decode cX9_tells 263 = .ok (.ishl, 1) := by decide +kernel
theorem dX9_tells_264 : decode cX9_tells 264 = .ok (.goto 4, 3) := by decide +kernel
theorem dX9_tells_267 : decode cX9_tells 267 = .ok (.iconst 0, 1) := by decide +kernel
theorem dX9_tells_268 : decode cX9_tells 268 = .ok (.ior, 1) := by decide +kernel
theorem dX9_tells_269 : decode cX9_tells 269 = .ok (.istore 7, 2) := by decide +kernel
theorem dX9_tells_271 : decode cX9_tells 271 = .ok (.iinc 8 1, 3) := by decide +kernel
theorem dX9_tells_274 : decode cX9_tells 274 = .ok (.iload 9, 2) := by decide +kernel
theorem dX9_tells_276 : decode cX9_tells 276 = .ok (.iconst (-1), 1) := by decide +kernel
theorem dX9_tells_277 : decode cX9_tells 277 = .ok (.if_icmp .ne 8, 3) := by decide +kernel
theorem dX9_tells_280 : decode cX9_tells 280 = .ok (.iload 10, 2) := by decide +kernel
theorem dX9_tells_282 : decode cX9_tells 282 = .ok (.goto 5, 3) := by decide +kernel
theorem dX9_tells_285 : decode cX9_tells 285 = .ok (.iload 9, 2) := by decide +kernel
theorem dX9_tells_287 : decode cX9_tells 287 = .ok (.istore 9, 2) := by decide +kernel
theorem dX9_tells_289 : decode cX9_tells 289 = .ok (.iinc 10 1, 3) := by decide +kernel
theorem dX9_tells_292 : decode cX9_tells 292 = .ok (.goto (-64), 3) := by decide +kernel
theorem dX9_tells_295 : decode cX9_tells 295 = .ok (.aload_n 0, 1) := by decide +kernel
theorem dX9_tells_296 : decode cX9_tells 296 = .ok (.iload 4, 2) := by decide +kernel
theorem dX9_tells_298 : decode cX9_tells 298 = .ok (.iload_n 3, 1) := by decide +kernel
theorem dX9_tells_299 : decode cX9_tells 299 = .ok (.iload 5, 2) := by decide +kernel
theorem dX9_tells_301 : decode cX9_tells 301 = .ok (.invokevirtual 304, 3) := by decide +kernel
theorem dX9_tells_304 : decode cX9_tells 304 = .ok (.iload_n 2, 1) := by decide +kernel
theorem dX9_tells_305 : decode cX9_tells 305 = .ok (.bipush 50, 2) := by decide +kernel
theorem dX9_tells_307 : decode cX9_tells 307 = .ok (.if_icmp .ge 8, 3) := by decide +kernel
theorem dX9_tells_310 : decode cX9_tells 310 = .ok (.iload 7, 2) := by decide +kernel
theorem dX9_tells_312 : decode cX9_tells 312 = .ok (.goto 16, 3) := by decide +kernel
theorem dX9_tells_315 : decode cX9_tells 315 = .ok (.iload_n 2, 1) := by decide +kernel
theorem dX9_tells_316 : decode cX9_tells 316 = .ok (.bipush 60, 2) := by decide +kernel
theorem dX9_tells_318 : decode cX9_tells 318 = .ok (.if_icmp .ge 8, 3) := by decide +kernel
theorem dX9_tells_321 : decode cX9_tells 321 = .ok (.iload 8, 2) := by decide +kernel
theorem dX9_tells_323 : decode cX9_tells 323 = .ok (.goto 5, 3) := by decide +kernel
theorem dX9_tells_326 : decode cX9_tells 326 = .ok (.iload 9, 2) := by decide +kernel
theorem dX9_tells_328 : decode cX9_tells 328 = .ok (.ireturn, 1) := by decide +kernel
theorem qX9_tells (d : Nat) (x1 : Int) (x2 : Int) (s : Sg) : RUN (d + 1) mX9_tells [vr 32 0, vi x1, vi x2] s = bI (RUN d mX9_isSheet [vi x1] s) (fun r1 s1 => if r1 = 0 then (some (some (vi (-2)), s1)) else (bI (RUN d mX9_in [vl x2, vl 0, vl 1] s1) (fun r2 s2 => if r2 = 0 then (bI (RUN d mX9_in [vl x2, vl 10, vl 69] s2) (fun r3 s3 => if r3 = 0 then (some (some (vi (-2)), s3)) else (bI (RUN d mX9_isCar [vr 32 0, vi (wrem x2 10)] s3) (fun r4 s4 => if r4 = 0 then (some (some (vi (-2)), s4)) else (EV (d + 1) mX9_tells (45, [vr 32 0, vi x1, vi x2, UU, UU, UU, UU, UU, UU, UU, UU], [], s4)))))) else (EV (d + 1) mX9_tells (45, [vr 32 0, vi x1, vi x2, UU, UU, UU, UU, UU, UU, UU, UU], [], s2))))) := x_run rfl (x_st 1 dX9_tells_0 rfl (x_ci 4 [vr 32 0, vi x1, vi x2, UU, UU, UU, UU, UU, UU, UU, UU] [] dX9_tells_1 rfl (fun r1 s1 => x_br dX9_tells_4 (x_if (x_go 42 (x_st 44 dX9_tells_42 rfl (x_ret dX9_tells_44 rfl))) (x_go 7 (x_st 8 dX9_tells_7 rfl (x_st 9 dX9_tells_8 rfl (x_st 10 dX9_tells_9 rfl (x_st 11 dX9_tells_10 rfl (x_ci 14 [vr 32 0, vi x1, vi x2, UU, UU, UU, UU, UU, UU, UU, UU] [] dX9_tells_11 rfl (fun r2 s2 => x_br dX9_tells_14 (x_if (x_go 17 (x_st 18 dX9_tells_17 rfl (x_st 19 dX9_tells_18 rfl (x_st 22 dX9_tells_19 rfl (x_st 25 dX9_tells_22 rfl (x_ci 28 [vr 32 0, vi x1, vi x2, UU, UU, UU, UU, UU, UU, UU, UU] [] dX9_tells_25 rfl (fun r3 s3 => x_br dX9_tells_28 (x_if (x_go 42 (x_st 44 dX9_tells_42 rfl (x_ret dX9_tells_44 rfl))) (x_go 31 (x_st 32 dX9_tells_31 rfl (x_st 33 dX9_tells_32 rfl (x_st 35 dX9_tells_33 rfl (x_st 36 dX9_tells_35 rfl (x_ci 39 [vr 32 0, vi x1, vi x2, UU, UU, UU, UU, UU, UU, UU, UU] [] dX9_tells_36 rfl (fun r4 s4 => x_br dX9_tells_39 (x_if (x_go 42 (x_st 44 dX9_tells_42 rfl (x_ret dX9_tells_44 rfl))) (x_go 45 (rfl)))))))))))))))))) (x_go 45 (rfl))))))))))))))
theorem qX9_tells_45 (d : Nat) (x1 : Int) (x2 : Int) (z3 : PV) (z4 : PV) (z5 : PV) (z6 : PV) (z7 : PV) (z8 : PV) (z9 : PV) (z10 : PV) (s : Sg) : EV (d + 1) mX9_tells (45, [vr 32 0, vi x1, vi x2, z3, z4, z5, z6, z7, z8, z9, z10], [], s) = if inb x1 4 then (if (s 48 0 (Int.toNat x1)) = 0 then (some (some (vi (-11)), s)) else (if inb x1 4 then (if (s 50 0 (Int.toNat x1)) = (s 32 0 9) then (if x2 = 0 then (bI (RUN d mX9_unlike [vr 32 0, vi x1] s) (fun r1 s1 => some (some (vi r1), s1))) else (if x2 = 1 then (EV (d + 1) mX9_tells (139, [vr 32 0, vi x1, vi x2, vi (wrem x2 10), z4, z5, z6, z7, z8, z9, z10], [vi 6], s)) else (if x2 < 20 then (EV (d + 1) mX9_tells (139, [vr 32 0, vi x1, vi x2, vi (wrem x2 10), z4, z5, z6, z7, z8, z9, z10], [vi 5], s)) else (if x2 < 30 then (EV (d + 1) mX9_tells (139, [vr 32 0, vi x1, vi x2, vi (wrem x2 10), z4, z5, z6, z7, z8, z9, z10], [vi 0], s)) else (if x2 < 40 then (EV (d + 1) mX9_tells (139, [vr 32 0, vi x1, vi x2, vi (wrem x2 10), z4, z5, z6, z7, z8, z9, z10], [vi 2], s)) else (if x2 < 50 then (EV (d + 1) mX9_tells (139, [vr 32 0, vi x1, vi x2, vi (wrem x2 10), z4, z5, z6, z7, z8, z9, z10], [vi 4], s)) else (EV (d + 1) mX9_tells (139, [vr 32 0, vi x1, vi x2, vi (wrem x2 10), z4, z5, z6, z7, z8, z9, z10], [vi 3], s)))))))) else (some (some (vi (-2)), s))) else none)) else none := x_st 46 dX9_tells_45 rfl (x_st 49 dX9_tells_46 rfl (x_st 50 dX9_tells_49 rfl (x_br dX9_tells_50 (x_if (x_go 51 (x_br dX9_tells_51 (x_if (x_go 54 (x_st 56 dX9_tells_54 rfl (x_ret dX9_tells_56 rfl))) (x_go 57 (x_st 58 dX9_tells_57 rfl (x_st 61 dX9_tells_58 rfl (x_st 62 dX9_tells_61 rfl (x_br dX9_tells_62 (x_if (x_go 63 (x_st 64 dX9_tells_63 rfl (x_st 67 dX9_tells_64 rfl (x_br dX9_tells_67 (x_if (x_go 73 (x_st 74 dX9_tells_73 rfl (x_br dX9_tells_74 (x_if (x_go 77 (x_st 78 dX9_tells_77 rfl (x_st 79 dX9_tells_78 rfl (x_ci 82 [vr 32 0, vi x1, vi x2, z3, z4, z5, z6, z7, z8, z9, z10] [] dX9_tells_79 rfl (fun r1 s1 => x_ret dX9_tells_82 rfl))))) (x_go 83 (x_st 84 dX9_tells_83 rfl (x_st 86 dX9_tells_84 rfl (x_st 87 dX9_tells_86 rfl (x_so 88 [vr 32 0, vi x1, vi x2, vi (wrem x2 10), z4, z5, z6, z7, z8, z9, z10] dX9_tells_87 rfl (x_st 89 dX9_tells_88 rfl (x_st 90 dX9_tells_89 rfl (x_br dX9_tells_90 (x_if (x_go 93 (x_st 95 dX9_tells_93 rfl (x_st 139 dX9_tells_95 rfl (rfl)))) (x_go 98 (x_st 99 dX9_tells_98 rfl (x_st 101 dX9_tells_99 rfl (x_br dX9_tells_101 (x_if (x_go 104 (x_st 105 dX9_tells_104 rfl (x_st 139 dX9_tells_105 rfl (rfl)))) (x_go 108 (x_st 109 dX9_tells_108 rfl (x_st 111 dX9_tells_109 rfl (x_br dX9_tells_111 (x_if (x_go 114 (x_st 115 dX9_tells_114 rfl (x_st 139 dX9_tells_115 rfl (rfl)))) (x_go 118 (x_st 119 dX9_tells_118 rfl (x_st 121 dX9_tells_119 rfl (x_br dX9_tells_121 (x_if (x_go 124 (x_st 125 dX9_tells_124 rfl (x_st 139 dX9_tells_125 rfl (rfl)))) (x_go 128 (x_st 129 dX9_tells_128 rfl (x_st 131 dX9_tells_129 rfl (x_br dX9_tells_131 (x_if (x_go 134 (x_st 135 dX9_tells_134 rfl (x_st 139 dX9_tells_135 rfl (rfl)))) (x_go 138 (x_st 139 dX9_tells_138 rfl (rfl)))))))))))))))))))))))))))))))))))) (x_go 70 (x_st 72 dX9_tells_70 rfl (x_ret dX9_tells_72 rfl)))))))) x_no))))))))) x_no))))
theorem qX9_tells_139 (d : Nat) (x1 : Int) (x2 : Int) (x3 : Int) (z4 : PV) (z5 : PV) (z6 : PV) (z7 : PV) (z8 : PV) (z9 : PV) (z10 : PV) (y0 : Int) (s : Sg) : EV d mX9_tells (139, [vr 32 0, vi x1, vi x2, vi x3, z4, z5, z6, z7, z8, z9, z10], [vi y0], s) = if y0 = 6 then (EV d mX9_tells (181, [vr 32 0, vi x1, vi x2, vi x3, vi y0, z5, z6, z7, z8, z9, z10], [vi (s 32 0 4)], s)) else (if y0 = 5 then (if inb x3 6 then (EV d mX9_tells (181, [vr 32 0, vi x1, vi x2, vi x3, vi y0, z5, z6, z7, z8, z9, z10], [vi (s 36 0 (Int.toNat x3))], s)) else none) else (if inb (w32 ((w32 (5 * x3)) + y0)) 30 then (EV d mX9_tells (181, [vr 32 0, vi x1, vi x2, vi x3, vi y0, z5, z6, z7, z8, z9, z10], [vi (s 37 0 (Int.toNat (w32 ((w32 (5 * x3)) + y0))))], s)) else none)) := x_so 141 [vr 32 0, vi x1, vi x2, vi x3, vi y0, z5, z6, z7, z8, z9, z10] dX9_tells_139 rfl (x_st 143 dX9_tells_141 rfl (x_st 145 dX9_tells_143 rfl (x_br dX9_tells_145 (x_if (x_go 148 (x_st 149 dX9_tells_148 rfl (x_st 152 dX9_tells_149 rfl (x_st 181 dX9_tells_152 rfl (rfl))))) (x_go 155 (x_st 157 dX9_tells_155 rfl (x_st 158 dX9_tells_157 rfl (x_br dX9_tells_158 (x_if (x_go 161 (x_st 162 dX9_tells_161 rfl (x_st 165 dX9_tells_162 rfl (x_st 166 dX9_tells_165 rfl (x_br dX9_tells_166 (x_if (x_go 167 (x_st 181 dX9_tells_167 rfl (rfl))) x_no)))))) (x_go 170 (x_st 171 dX9_tells_170 rfl (x_st 174 dX9_tells_171 rfl (x_st 175 dX9_tells_174 rfl (x_st 176 dX9_tells_175 rfl (x_st 177 dX9_tells_176 rfl (x_st 179 dX9_tells_177 rfl (x_st 180 dX9_tells_179 rfl (x_br dX9_tells_180 (x_if (x_go 181 (rfl)) x_no)))))))))))))))))))
theorem qX9_tells_181 (d : Nat) (x1 : Int) (x2 : Int) (x3 : Int) (x4 : Int) (z5 : PV) (z6 : PV) (z7 : PV) (z8 : PV) (z9 : PV) (z10 : PV) (y0 : Int) (s : Sg) : EV (d + 1) mX9_tells (181, [vr 32 0, vi x1, vi x2, vi x3, vi x4, z5, z6, z7, z8, z9, z10], [vi y0], s) = if x4 = 6 then (EV (d + 1) mX9_tells (214, [vr 32 0, vi x1, vi x2, vi x3, vi x4, vi y0, z6, z7, z8, z9, z10], [vi (w32 ((s 32 0 3) - 1))], s)) else (if x4 = 5 then (EV (d + 1) mX9_tells (214, [vr 32 0, vi x1, vi x2, vi x3, vi x4, vi y0, z6, z7, z8, z9, z10], [vi 5], s)) else (bI (RUN d mX9_mostOf [vi x4] s) (fun r1 s1 => EV (d + 1) mX9_tells (214, [vr 32 0, vi x1, vi x2, vi x3, vi x4, vi y0, z6, z7, z8, z9, z10], [vi r1], s1)))) := x_so 183 [vr 32 0, vi x1, vi x2, vi x3, vi x4, vi y0, z6, z7, z8, z9, z10] dX9_tells_181 rfl (x_st 185 dX9_tells_183 rfl (x_st 187 dX9_tells_185 rfl (x_br dX9_tells_187 (x_if (x_go 190 (x_st 191 dX9_tells_190 rfl (x_st 194 dX9_tells_191 rfl (x_st 195 dX9_tells_194 rfl (x_st 196 dX9_tells_195 rfl (x_st 214 dX9_tells_196 rfl (rfl))))))) (x_go 199 (x_st 201 dX9_tells_199 rfl (x_st 202 dX9_tells_201 rfl (x_br dX9_tells_202 (x_if (x_go 205 (x_st 206 dX9_tells_205 rfl (x_st 214 dX9_tells_206 rfl (rfl)))) (x_go 209 (x_st 211 dX9_tells_209 rfl (x_ci 214 [vr 32 0, vi x1, vi x2, vi x3, vi x4, vi y0, z6, z7, z8, z9, z10] [] dX9_tells_211 rfl (fun r1 s1 => rfl)))))))))))))
theorem qX9_tells_214 (d : Nat) (x1 : Int) (x2 : Int) (x3 : Int) (x4 : Int) (x5 : Int) (z6 : PV) (z7 : PV) (z8 : PV) (z9 : PV) (z10 : PV) (y0 : Int) (s : Sg) : EV d mX9_tells (214, [vr 32 0, vi x1, vi x2, vi x3, vi x4, vi x5, z6, z7, z8, z9, z10], [vi y0], s) = EV d mX9_tells (228, [vr 32 0, vi x1, vi x2, vi x3, vi x4, vi x5, vi y0, vi 0, vi 0, vi (-1), vi 0], [], s) := x_so 216 [vr 32 0, vi x1, vi x2, vi x3, vi x4, vi x5, vi y0, z7, z8, z9, z10] dX9_tells_214 rfl (x_st 217 dX9_tells_216 rfl (x_so 219 [vr 32 0, vi x1, vi x2, vi x3, vi x4, vi x5, vi y0, vi 0, z8, z9, z10] dX9_tells_217 rfl (x_st 220 dX9_tells_219 rfl (x_so 222 [vr 32 0, vi x1, vi x2, vi x3, vi x4, vi x5, vi y0, vi 0, vi 0, z9, z10] dX9_tells_220 rfl (x_st 223 dX9_tells_222 rfl (x_so 225 [vr 32 0, vi x1, vi x2, vi x3, vi x4, vi x5, vi y0, vi 0, vi 0, vi (-1), z10] dX9_tells_223 rfl (x_st 226 dX9_tells_225 rfl (x_so 228 [vr 32 0, vi x1, vi x2, vi x3, vi x4, vi x5, vi y0, vi 0, vi 0, vi (-1), vi 0] dX9_tells_226 rfl (rfl)))))))))
theorem qX9_tells_228 (d : Nat) (x1 : Int) (x2 : Int) (x3 : Int) (x4 : Int) (x5 : Int) (x6 : Int) (x7 : Int) (x8 : Int) (x9 : Int) (x10 : Int) (s : Sg) : EV (d + 1) mX9_tells (228, [vr 32 0, vi x1, vi x2, vi x3, vi x4, vi x5, vi x6, vi x7, vi x8, vi x9, vi x10], [], s) = if x6 < x10 then (bV (RUN d mX9_lays [vr 32 0, vi x4, vi x3, vi x5] s) (fun s1 => if x2 < 50 then (some (some (vi x7), s1)) else (if x2 < 60 then (some (some (vi x8), s1)) else (some (some (vi x9), s1))))) else (bV (RUN d mX9_lays [vr 32 0, vi x4, vi x3, vi x10] s) (fun s2 => bI (RUN d mX9_unlike [vr 32 0, vi x1] s2) (fun r3 s3 => if r3 = 0 then (if x2 < 50 then (EV (d + 1) mX9_tells (268, [vr 32 0, vi x1, vi x2, vi x3, vi x4, vi x5, vi x6, vi x7, vi x8, vi x9, vi x10], [vi (wshl 1 x10), vi x7], s3)) else (EV (d + 1) mX9_tells (268, [vr 32 0, vi x1, vi x2, vi x3, vi x4, vi x5, vi x6, vi x7, vi x8, vi x9, vi x10], [vi 0, vi x7], s3))) else (EV (d + 1) mX9_tells (289, [vr 32 0, vi x1, vi x2, vi x3, vi x4, vi x5, vi x6, vi x7, vi x8, vi x9, vi x10], [], s3))))) := x_st 230 dX9_tells_228 rfl (x_st 232 dX9_tells_230 rfl (x_br dX9_tells_232 (x_if (x_go 295 (x_st 296 dX9_tells_295 rfl (x_st 298 dX9_tells_296 rfl (x_st 299 dX9_tells_298 rfl (x_st 301 dX9_tells_299 rfl (x_cv 304 [vr 32 0, vi x1, vi x2, vi x3, vi x4, vi x5, vi x6, vi x7, vi x8, vi x9, vi x10] [] dX9_tells_301 rfl (fun s1 => x_st 305 dX9_tells_304 rfl (x_st 307 dX9_tells_305 rfl (x_br dX9_tells_307 (x_if (x_go 310 (x_st 312 dX9_tells_310 rfl (x_st 328 dX9_tells_312 rfl (x_ret dX9_tells_328 rfl)))) (x_go 315 (x_st 316 dX9_tells_315 rfl (x_st 318 dX9_tells_316 rfl (x_br dX9_tells_318 (x_if (x_go 321 (x_st 323 dX9_tells_321 rfl (x_st 328 dX9_tells_323 rfl (x_ret dX9_tells_328 rfl)))) (x_go 326 (x_st 328 dX9_tells_326 rfl (x_ret dX9_tells_328 rfl)))))))))))))))))) (x_go 235 (x_st 236 dX9_tells_235 rfl (x_st 238 dX9_tells_236 rfl (x_st 239 dX9_tells_238 rfl (x_st 241 dX9_tells_239 rfl (x_cv 244 [vr 32 0, vi x1, vi x2, vi x3, vi x4, vi x5, vi x6, vi x7, vi x8, vi x9, vi x10] [] dX9_tells_241 rfl (fun s2 => x_st 245 dX9_tells_244 rfl (x_st 246 dX9_tells_245 rfl (x_ci 249 [vr 32 0, vi x1, vi x2, vi x3, vi x4, vi x5, vi x6, vi x7, vi x8, vi x9, vi x10] [] dX9_tells_246 rfl (fun r3 s3 => x_br dX9_tells_249 (x_if (x_go 252 (x_st 254 dX9_tells_252 rfl (x_st 255 dX9_tells_254 rfl (x_st 257 dX9_tells_255 rfl (x_br dX9_tells_257 (x_if (x_go 260 (x_st 261 dX9_tells_260 rfl (x_st 263 dX9_tells_261 rfl (x_st 264 dX9_tells_263 rfl (x_st 268 dX9_tells_264 rfl (rfl)))))) (x_go 267 (x_st 268 dX9_tells_267 rfl (rfl))))))))) (x_go 289 (rfl))))))))))))))))
theorem qX9_tells_268 (d : Nat) (x1 : Int) (x2 : Int) (x3 : Int) (x4 : Int) (x5 : Int) (x6 : Int) (z7 : PV) (x8 : Int) (x9 : Int) (x10 : Int) (y0 : Int) (y1 : Int) (s : Sg) : EV d mX9_tells (268, [vr 32 0, vi x1, vi x2, vi x3, vi x4, vi x5, vi x6, z7, vi x8, vi x9, vi x10], [vi y0, vi y1], s) = if x9 = (-1) then (EV d mX9_tells (287, [vr 32 0, vi x1, vi x2, vi x3, vi x4, vi x5, vi x6, vi (wor y1 y0), vi (w32 (x8 + 1)), vi x9, vi x10], [vi x10], s)) else (EV d mX9_tells (287, [vr 32 0, vi x1, vi x2, vi x3, vi x4, vi x5, vi x6, vi (wor y1 y0), vi (w32 (x8 + 1)), vi x9, vi x10], [vi x9], s)) := x_st 269 dX9_tells_268 rfl (x_so 271 [vr 32 0, vi x1, vi x2, vi x3, vi x4, vi x5, vi x6, vi (wor y1 y0), vi x8, vi x9, vi x10] dX9_tells_269 rfl (x_so 274 [vr 32 0, vi x1, vi x2, vi x3, vi x4, vi x5, vi x6, vi (wor y1 y0), vi (w32 (x8 + 1)), vi x9, vi x10] dX9_tells_271 rfl (x_st 276 dX9_tells_274 rfl (x_st 277 dX9_tells_276 rfl (x_br dX9_tells_277 (x_if (x_go 280 (x_st 282 dX9_tells_280 rfl (x_st 287 dX9_tells_282 rfl (rfl)))) (x_go 285 (x_st 287 dX9_tells_285 rfl (rfl)))))))))
theorem qX9_tells_289 (d : Nat) (x1 : Int) (x2 : Int) (x3 : Int) (x4 : Int) (x5 : Int) (x6 : Int) (x7 : Int) (x8 : Int) (x9 : Int) (x10 : Int) (s : Sg) : EV d mX9_tells (289, [vr 32 0, vi x1, vi x2, vi x3, vi x4, vi x5, vi x6, vi x7, vi x8, vi x9, vi x10], [], s) = EV d mX9_tells (228, [vr 32 0, vi x1, vi x2, vi x3, vi x4, vi x5, vi x6, vi x7, vi x8, vi x9, vi (w32 (x10 + 1))], [], s) := x_so 292 [vr 32 0, vi x1, vi x2, vi x3, vi x4, vi x5, vi x6, vi x7, vi x8, vi x9, vi (w32 (x10 + 1))] dX9_tells_289 rfl (x_st 228 dX9_tells_292 rfl (rfl))
theorem qX9_tells_287 (d : Nat) (x1 : Int) (x2 : Int) (x3 : Int) (x4 : Int) (x5 : Int) (x6 : Int) (x7 : Int) (x8 : Int) (z9 : PV) (x10 : Int) (y0 : Int) (s : Sg) : EV d mX9_tells (287, [vr 32 0, vi x1, vi x2, vi x3, vi x4, vi x5, vi x6, vi x7, vi x8, z9, vi x10], [vi y0], s) = EV d mX9_tells (289, [vr 32 0, vi x1, vi x2, vi x3, vi x4, vi x5, vi x6, vi x7, vi x8, vi y0, vi x10], [], s) := x_so 289 [vr 32 0, vi x1, vi x2, vi x3, vi x4, vi x5, vi x6, vi x7, vi x8, vi y0, vi x10] dX9_tells_287 rfl (rfl)
theorem dX9_film_0 : decode cX9_film 0 = .ok (.iload_n 1, 1) := by decide +kernel
theorem dX9_film_1 : decode cX9_film 1 = .ok (.invokestatic 296, 3) := by decide +kernel
theorem dX9_film_4 : decode cX9_film 4 = .ok (.ifCond .ne 6, 3) := by decide +kernel
theorem dX9_film_7 : decode cX9_film 7 = .ok (.bipush (-2), 2) := by decide +kernel
theorem dX9_film_9 : decode cX9_film 9 = .ok (.ireturn, 1) := by decide +kernel
theorem dX9_film_10 : decode cX9_film 10 = .ok (.aload_n 0, 1) := by decide +kernel
theorem dX9_film_11 : decode cX9_film 11 = .ok (.invokevirtual 270, 3) := by decide +kernel
theorem dX9_film_14 : decode cX9_film 14 = .ok (.aload_n 0, 1) := by decide +kernel
theorem dX9_film_15 : decode cX9_film 15 = .ok (.iload_n 1, 1) := by decide +kernel
theorem dX9_film_16 : decode cX9_film 16 = .ok (.iconst 1, 1) := by decide +kernel
theorem dX9_film_17 : decode cX9_film 17 = .ok (.aload_n 0, 1) := by decide +kernel
theorem dX9_film_18 : decode cX9_film 18 = .ok (.getfield 82, 3) := by decide +kernel
theorem dX9_film_21 : decode cX9_film 21 = .ok (.invokevirtual 308, 3) := by decide +kernel
theorem dX9_film_24 : decode cX9_film 24 = .ok (.pop, 1) := by decide +kernel
theorem dX9_film_25 : decode cX9_film 25 = .ok (.iconst 0, 1) := by decide +kernel
theorem dX9_film_26 : decode cX9_film 26 = .ok (.istore_n 2, 1) := by decide +kernel
theorem dX9_film_27 : decode cX9_film 27 = .ok (.iload_n 2, 1) := by decide +kernel
theorem dX9_film_28 : decode cX9_film 28 = .ok (.aload_n 0, 1) := by decide +kernel
theorem dX9_film_29 : decode cX9_film 29 = .ok (.getfield 82, 3) := by decide +kernel
theorem dX9_film_32 : decode cX9_film 32 = .ok (.if_icmp .ge 26, 3) := by decide +kernel
theorem dX9_film_35 : decode cX9_film 35 = .ok (.aload_n 0, 1) := by decide +kernel
theorem dX9_film_36 : decode cX9_film 36 = .ok (.getfield 72, 3) := by decide +kernel
theorem dX9_film_39 : decode cX9_film 39 = .ok (.bipush 40, 2) := by decide +kernel
theorem dX9_film_41 : decode cX9_film 41 = .ok (.iload_n 1, 1) := by decide +kernel
theorem dX9_film_42 : decode cX9_film 42 = .ok (.imul, 1) := by decide +kernel
theorem dX9_film_43 : decode cX9_film 43 = .ok (.iload_n 2, 1) := by decide +kernel
theorem dX9_film_44 : decode cX9_film 44 = .ok (.iadd, 1) := by decide +kernel
theorem dX9_film_45 : decode cX9_film 45 = .ok (.aload_n 0, 1) := by decide +kernel
theorem dX9_film_46 : decode cX9_film 46 = .ok (.getfield 32, 3) := by decide +kernel
theorem dX9_film_49 : decode cX9_film 49 = .ok (.iload_n 2, 1) := by decide +kernel
theorem dX9_film_50 : decode cX9_film 50 = .ok (.iaload, 1) := by decide +kernel
theorem dX9_film_51 : decode cX9_film 51 = .ok (.iastore, 1) := by decide +kernel
theorem dX9_film_52 : decode cX9_film 52 = .ok (.iinc 2 1, 3) := by decide +kernel
theorem dX9_film_55 : decode cX9_film 55 = .ok (.goto (-28), 3) := by decide +kernel
theorem dX9_film_58 : decode cX9_film 58 = .ok (.aload_n 0, 1) := by decide +kernel
theorem dX9_film_59 : decode cX9_film 59 = .ok (.getfield 82, 3) := by decide +kernel
theorem dX9_film_62 : decode cX9_film 62 = .ok (.ireturn, 1) := by decide +kernel
theorem qX9_film (d : Nat) (x1 : Int) (s : Sg) : RUN (d + 1) mX9_film [vr 32 0, vi x1] s = bI (RUN d mX9_isSheet [vi x1] s) (fun r1 s1 => if r1 = 0 then (some (some (vi (-2)), s1)) else (bV (RUN d mX9_goesAll [vr 32 0] s1) (fun s2 => bI (RUN d mX9_sheet [vr 32 0, vi x1, vi 1, vi (s2 32 0 9)] s2) (fun r3 s3 => EV (d + 1) mX9_film (27, [vr 32 0, vi x1, vi 0], [], s3))))) := x_run rfl (x_st 1 dX9_film_0 rfl (x_ci 4 [vr 32 0, vi x1, UU] [] dX9_film_1 rfl (fun r1 s1 => x_br dX9_film_4 (x_if (x_go 7 (x_st 9 dX9_film_7 rfl (x_ret dX9_film_9 rfl))) (x_go 10 (x_st 11 dX9_film_10 rfl (x_cv 14 [vr 32 0, vi x1, UU] [] dX9_film_11 rfl (fun s2 => x_st 15 dX9_film_14 rfl (x_st 16 dX9_film_15 rfl (x_st 17 dX9_film_16 rfl (x_st 18 dX9_film_17 rfl (x_st 21 dX9_film_18 rfl (x_ci 24 [vr 32 0, vi x1, UU] [] dX9_film_21 rfl (fun r3 s3 => x_st 25 dX9_film_24 rfl (x_st 26 dX9_film_25 rfl (x_so 27 [vr 32 0, vi x1, vi 0] dX9_film_26 rfl (rfl)))))))))))))))))
theorem qX9_film_27 (d : Nat) (x1 : Int) (x2 : Int) (s : Sg) : EV d mX9_film (27, [vr 32 0, vi x1, vi x2], [], s) = if x2 < (s 32 0 9) then (if inb x2 6 then (if inb (w32 ((w32 (40 * x1)) + x2)) 160 then (EV d mX9_film (27, [vr 32 0, vi x1, vi (w32 (x2 + 1))], [], (up s 51 0 (Int.toNat (w32 ((w32 (40 * x1)) + x2))) (s 39 0 (Int.toNat x2))))) else none) else none) else (some (some (vi (s 32 0 9)), s)) := x_st 28 dX9_film_27 rfl (x_st 29 dX9_film_28 rfl (x_st 32 dX9_film_29 rfl (x_br dX9_film_32 (x_if (x_go 35 (x_st 36 dX9_film_35 rfl (x_st 39 dX9_film_36 rfl (x_st 41 dX9_film_39 rfl (x_st 42 dX9_film_41 rfl (x_st 43 dX9_film_42 rfl (x_st 44 dX9_film_43 rfl (x_st 45 dX9_film_44 rfl (x_st 46 dX9_film_45 rfl (x_st 49 dX9_film_46 rfl (x_st 50 dX9_film_49 rfl (x_br dX9_film_50 (x_if (x_go 51 (x_br dX9_film_51 (x_if (x_go 52 (x_so 55 [vr 32 0, vi x1, vi (w32 (x2 + 1))] dX9_film_52 rfl (x_st 27 dX9_film_55 rfl (rfl)))) x_no))) x_no))))))))))))) (x_go 58 (x_st 59 dX9_film_58 rfl (x_st 62 dX9_film_59 rfl (x_ret dX9_film_62 rfl))))))))
theorem dX9_drawn_0 : decode cX9_drawn 0 = .ok (.aload_n 0, 1) := by decide +kernel
theorem dX9_drawn_1 : decode cX9_drawn 1 = .ok (.iload_n 1, 1) := by decide +kernel
theorem dX9_drawn_2 : decode cX9_drawn 2 = .ok (.invokevirtual 312, 3) := by decide +kernel
theorem dX9_drawn_5 : decode cX9_drawn 5 = .ok (.ireturn, 1) := by decide +kernel
theorem qX9_drawn (d : Nat) (x1 : Int) (s : Sg) : RUN (d + 1) mX9_drawn [vr 32 0, vi x1] s = bI (RUN d mX9_drives [vr 32 0, vi x1] s) (fun r1 s1 => some (some (vi r1), s1)) := x_run rfl (x_st 1 dX9_drawn_0 rfl (x_st 2 dX9_drawn_1 rfl (x_ci 5 [vr 32 0, vi x1] [] dX9_drawn_2 rfl (fun r1 s1 => x_ret dX9_drawn_5 rfl))))
theorem dX9_chance_0 : decode cX9_chance 0 = .ok (.iload_n 2, 1) := by decide +kernel
theorem dX9_chance_1 : decode cX9_chance 1 = .ok (.i2l, 1) := by decide +kernel
theorem dX9_chance_2 : decode cX9_chance 2 = .ok (.lconst 1, 1) := by decide +kernel
theorem dX9_chance_3 : decode cX9_chance 3 = .ok (.ldc2_w 315, 3) := by decide +kernel
theorem dX9_chance_6 : decode cX9_chance 6 = .ok (.invokestatic 85, 3) := by decide +kernel
theorem dX9_chance_9 : decode cX9_chance 9 = .ok (.ifCond .eq 13, 3) := by decide +kernel
theorem dX9_chance_12 : decode cX9_chance 12 = .ok (.iload_n 3, 1) := by decide +kernel
theorem dX9_chance_13 : decode cX9_chance 13 = .ok (.i2l, 1) := by decide +kernel
theorem dX9_chance_14 : decode cX9_chance 14 = .ok (.lconst 0, 1) := by decide +kernel
theorem dX9_chance_15 : decode cX9_chance 15 = .ok (.lconst 1, 1) := by decide +kernel
theorem dX9_chance_16 : decode cX9_chance 16 = .ok (.invokestatic 85, 3) := by decide +kernel
theorem dX9_chance_19 : decode cX9_chance 19 = .ok (.ifCond .ne 7, 3) := by decide +kernel
theorem dX9_chance_22 : decode cX9_chance 22 = .ok (.ldc2_w 317, 3) := by decide +kernel
theorem dX9_chance_25 : decode cX9_chance 25 = .ok (.lreturn, 1) := by decide +kernel
theorem dX9_chance_26 : decode cX9_chance 26 = .ok (.aload_n 0, 1) := by decide +kernel
theorem dX9_chance_27 : decode cX9_chance 27 = .ok (.invokevirtual 278, 3) := by decide +kernel
theorem dX9_chance_30 : decode cX9_chance 30 = .ok (.istore 4, 2) := by decide +kernel
theorem dX9_chance_32 : decode cX9_chance 32 = .ok (.lconst 0, 1) := by decide +kernel
theorem dX9_chance_33 : decode cX9_chance 33 = .ok (.lstore 5, 2) := by decide +kernel
theorem dX9_chance_35 : decode cX9_chance 35 = .ok (.iconst 0, 1) := by decide +kernel
theorem dX9_chance_36 : decode cX9_chance 36 = .ok (.istore 7, 2) := by decide +kernel
theorem dX9_chance_38 : decode cX9_chance 38 = .ok (.iload 7, 2) := by decide +kernel
theorem dX9_chance_40 : decode cX9_chance 40 = .ok (.iload_n 2, 1) := by decide +kernel
theorem dX9_chance_41 : decode cX9_chance 41 = .ok (.if_icmp .ge 32, 3) := by decide +kernel
theorem dX9_chance_44 : decode cX9_chance 44 = .ok (.lload 5, 2) := by decide +kernel
theorem dX9_chance_46 : decode cX9_chance 46 = .ok (.aload_n 0, 1) := by decide +kernel
theorem dX9_chance_47 : decode cX9_chance 47 = .ok (.iload_n 1, 1) := by decide +kernel
theorem dX9_chance_48 : decode cX9_chance 48 = .ok (.iload 7, 2) := by decide +kernel
theorem dX9_chance_50 : decode cX9_chance 50 = .ok (.iadd, 1) := by decide +kernel
theorem dX9_chance_51 : decode cX9_chance 51 = .ok (.invokevirtual 312, 3) := by decide +kernel
theorem dX9_chance_54 : decode cX9_chance 54 = .ok (.iload 4, 2) := by decide +kernel
theorem dX9_chance_56 : decode cX9_chance 56 = .ok (.if_icmp .gt 7, 3) := by decide +kernel
theorem dX9_chance_59 : decode cX9_chance 59 = .ok (.lconst 1, 1) := by decide +kernel
theorem dX9_chance_60 : decode cX9_chance 60 = .ok (.goto 4, 3) := by decide +kernel
theorem dX9_chance_63 : decode cX9_chance 63 = .ok (.lconst 0, 1) := by decide +kernel
theorem dX9_chance_64 : decode cX9_chance 64 = .ok (.ladd, 1) := by decide +kernel
theorem dX9_chance_65 : decode cX9_chance 65 = .ok (.lstore 5, 2) := by decide +kernel
theorem dX9_chance_67 : decode cX9_chance 67 = .ok (.iinc 7 1, 3) := by decide +kernel
theorem dX9_chance_70 : decode cX9_chance 70 = .ok (.goto (-32), 3) := by decide +kernel
theorem dX9_chance_73 : decode cX9_chance 73 = .ok (.lload 5, 2) := by decide +kernel
theorem dX9_chance_75 : decode cX9_chance 75 = .ok (.lstore 7, 2) := by decide +kernel
theorem dX9_chance_77 : decode cX9_chance 77 = .ok (.iload_n 2, 1) := by decide +kernel
theorem dX9_chance_78 : decode cX9_chance 78 = .ok (.i2l, 1) := by decide +kernel
theorem dX9_chance_79 : decode cX9_chance 79 = .ok (.lstore 9, 2) := by decide +kernel
theorem dX9_chance_81 : decode cX9_chance 81 = .ok (.lload 9, 2) := by decide +kernel
theorem dX9_chance_83 : decode cX9_chance 83 = .ok (.lconst 0, 1) := by decide +kernel
theorem dX9_chance_84 : decode cX9_chance 84 = .ok (.lcmp, 1) := by decide +kernel
theorem dX9_chance_85 : decode cX9_chance 85 = .ok (.ifCond .eq 21, 3) := by decide +kernel
theorem dX9_chance_88 : decode cX9_chance 88 = .ok (.lload 7, 2) := by decide +kernel
theorem dX9_chance_90 : decode cX9_chance 90 = .ok (.lload 9, 2) := by decide +kernel
theorem dX9_chance_92 : decode cX9_chance 92 = .ok (.lrem, 1) := by decide +kernel
theorem dX9_chance_93 : decode cX9_chance 93 = .ok (.lstore 11, 2) := by decide +kernel
theorem dX9_chance_95 : decode cX9_chance 95 = .ok (.lload 9, 2) := by decide +kernel
theorem dX9_chance_97 : decode cX9_chance 97 = .ok (.lstore 7, 2) := by decide +kernel
theorem dX9_chance_99 : decode cX9_chance 99 = .ok (.lload 11, 2) := by decide +kernel
theorem dX9_chance_101 : decode cX9_chance 101 = .ok (.lstore 9, 2) := by decide +kernel
theorem dX9_chance_103 : decode cX9_chance 103 = .ok (.goto (-22), 3) := by decide +kernel
theorem dX9_chance_106 : decode cX9_chance 106 = .ok (.iload_n 3, 1) := by decide +kernel
theorem dX9_chance_107 : decode cX9_chance 107 = .ok (.ifCond .ne 11, 3) := by decide +kernel
theorem dX9_chance_110 : decode cX9_chance 110 = .ok (.lload 5, 2) := by decide +kernel
theorem dX9_chance_112 : decode cX9_chance 112 = .ok (.lload 7, 2) := by decide +kernel
theorem dX9_chance_114 : decode cX9_chance 114 = .ok (.ldiv, 1) := by decide +kernel
theorem dX9_chance_115 : decode cX9_chance 115 = .ok (.goto 8, 3) := by decide +kernel
theorem dX9_chance_118 : decode cX9_chance 118 = .ok (.iload_n 2, 1) := by decide +kernel
theorem dX9_chance_119 : decode cX9_chance 119 = .ok (.i2l, 1) := by decide +kernel
theorem dX9_chance_120 : decode cX9_chance 120 = .ok (.lload 7, 2) := by decide +kernel
theorem dX9_chance_122 : decode cX9_chance 122 = .ok (.ldiv, 1) := by decide +kernel
theorem dX9_chance_123 : decode cX9_chance 123 = .ok (.lreturn, 1) := by decide +kernel
theorem qX9_chance (d : Nat) (x1 : Int) (x2 : Int) (x3 : Int) (s : Sg) : RUN (d + 1) mX9_chance [vr 32 0, vi x1, vi x2, vi x3] s = bI (RUN d mX9_in [vl x2, vl 1, vl 20] s) (fun r1 s1 => if r1 = 0 then (some (some (vl (-4611686018427387904)), s1)) else (bI (RUN d mX9_in [vl x3, vl 0, vl 1] s1) (fun r2 s2 => if r2 = 0 then (some (some (vl (-4611686018427387904)), s2)) else (bI (RUN d mX9_badness [vr 32 0] s2) (fun r3 s3 => EV (d + 1) mX9_chance (38, [vr 32 0, vi x1, vi x2, vi x3, vi r3, vl 0, SEC, vi 0, UU, UU, UU, UU, UU], [], s3)))))) := x_run rfl (x_st 1 dX9_chance_0 rfl (x_st 2 dX9_chance_1 rfl (x_st 3 dX9_chance_2 rfl (x_st 6 dX9_chance_3 rfl (x_ci 9 [vr 32 0, vi x1, vi x2, vi x3, UU, UU, UU, UU, UU, UU, UU, UU, UU] [] dX9_chance_6 rfl (fun r1 s1 => x_br dX9_chance_9 (x_if (x_go 22 (x_st 25 dX9_chance_22 rfl (x_ret dX9_chance_25 rfl))) (x_go 12 (x_st 13 dX9_chance_12 rfl (x_st 14 dX9_chance_13 rfl (x_st 15 dX9_chance_14 rfl (x_st 16 dX9_chance_15 rfl (x_ci 19 [vr 32 0, vi x1, vi x2, vi x3, UU, UU, UU, UU, UU, UU, UU, UU, UU] [] dX9_chance_16 rfl (fun r2 s2 => x_br dX9_chance_19 (x_if (x_go 22 (x_st 25 dX9_chance_22 rfl (x_ret dX9_chance_25 rfl))) (x_go 26 (x_st 27 dX9_chance_26 rfl (x_ci 30 [vr 32 0, vi x1, vi x2, vi x3, UU, UU, UU, UU, UU, UU, UU, UU, UU] [] dX9_chance_27 rfl (fun r3 s3 => x_so 32 [vr 32 0, vi x1, vi x2, vi x3, vi r3, UU, UU, UU, UU, UU, UU, UU, UU] dX9_chance_30 rfl (x_st 33 dX9_chance_32 rfl (x_so 35 [vr 32 0, vi x1, vi x2, vi x3, vi r3, vl 0, SEC, UU, UU, UU, UU, UU, UU] dX9_chance_33 rfl (x_st 36 dX9_chance_35 rfl (x_so 38 [vr 32 0, vi x1, vi x2, vi x3, vi r3, vl 0, SEC, vi 0, UU, UU, UU, UU, UU] dX9_chance_36 rfl (rfl))))))))))))))))))))))))
theorem qX9_chance_38 (d : Nat) (x1 : Int) (x2 : Int) (x3 : Int) (x4 : Int) (x5 : Int) (x7 : Int) (z8 : PV) (z9 : PV) (z10 : PV) (z11 : PV) (z12 : PV) (s : Sg) : EV (d + 1) mX9_chance (38, [vr 32 0, vi x1, vi x2, vi x3, vi x4, vl x5, SEC, vi x7, z8, z9, z10, z11, z12], [], s) = if x7 < x2 then (bI (RUN d mX9_drives [vr 32 0, vi (w32 (x1 + x7))] s) (fun r1 s1 => if x4 < r1 then (EV (d + 1) mX9_chance (64, [vr 32 0, vi x1, vi x2, vi x3, vi x4, vl x5, SEC, vi x7, z8, z9, z10, z11, z12], [vl 0, vl x5], s1)) else (EV (d + 1) mX9_chance (64, [vr 32 0, vi x1, vi x2, vi x3, vi x4, vl x5, SEC, vi x7, z8, z9, z10, z11, z12], [vl 1, vl x5], s1)))) else (EV (d + 1) mX9_chance (81, [vr 32 0, vi x1, vi x2, vi x3, vi x4, vl x5, SEC, vl x5, SEC, vl x2, SEC, z11, z12], [], s)) := x_st 40 dX9_chance_38 rfl (x_st 41 dX9_chance_40 rfl (x_br dX9_chance_41 (x_if (x_go 44 (x_st 46 dX9_chance_44 rfl (x_st 47 dX9_chance_46 rfl (x_st 48 dX9_chance_47 rfl (x_st 50 dX9_chance_48 rfl (x_st 51 dX9_chance_50 rfl (x_ci 54 [vr 32 0, vi x1, vi x2, vi x3, vi x4, vl x5, SEC, vi x7, z8, z9, z10, z11, z12] [vl x5] dX9_chance_51 rfl (fun r1 s1 => x_st 56 dX9_chance_54 rfl (x_br dX9_chance_56 (x_if (x_go 63 (x_st 64 dX9_chance_63 rfl (rfl))) (x_go 59 (x_st 60 dX9_chance_59 rfl (x_st 64 dX9_chance_60 rfl (rfl)))))))))))))) (x_go 73 (x_st 75 dX9_chance_73 rfl (x_so 77 [vr 32 0, vi x1, vi x2, vi x3, vi x4, vl x5, SEC, vl x5, SEC, z9, z10, z11, z12] dX9_chance_75 rfl (x_st 78 dX9_chance_77 rfl (x_st 79 dX9_chance_78 rfl (x_so 81 [vr 32 0, vi x1, vi x2, vi x3, vi x4, vl x5, SEC, vl x5, SEC, vl x2, SEC, z11, z12] dX9_chance_79 rfl (rfl))))))))))
theorem qX9_chance_64 (d : Nat) (x1 : Int) (x2 : Int) (x3 : Int) (x4 : Int) (z5 : PV) (z6 : PV) (x7 : Int) (z8 : PV) (z9 : PV) (z10 : PV) (z11 : PV) (z12 : PV) (y0 : Int) (y1 : Int) (s : Sg) : EV d mX9_chance (64, [vr 32 0, vi x1, vi x2, vi x3, vi x4, z5, z6, vi x7, z8, z9, z10, z11, z12], [vl y0, vl y1], s) = EV d mX9_chance (38, [vr 32 0, vi x1, vi x2, vi x3, vi x4, vl (w64 (y1 + y0)), SEC, vi (w32 (x7 + 1)), z8, z9, z10, z11, z12], [], s) := x_st 65 dX9_chance_64 rfl (x_so 67 [vr 32 0, vi x1, vi x2, vi x3, vi x4, vl (w64 (y1 + y0)), SEC, vi x7, z8, z9, z10, z11, z12] dX9_chance_65 rfl (x_so 70 [vr 32 0, vi x1, vi x2, vi x3, vi x4, vl (w64 (y1 + y0)), SEC, vi (w32 (x7 + 1)), z8, z9, z10, z11, z12] dX9_chance_67 rfl (x_st 38 dX9_chance_70 rfl (rfl))))
theorem qX9_chance_81 (d : Nat) (z0 : PV) (z1 : PV) (x2 : Int) (x3 : Int) (z4 : PV) (x5 : Int) (x7 : Int) (x9 : Int) (z11 : PV) (z12 : PV) (s : Sg) : EV d mX9_chance (81, [z0, z1, vi x2, vi x3, z4, vl x5, SEC, vl x7, SEC, vl x9, SEC, z11, z12], [], s) = if (wlcmp x9 0) = 0 then (if x3 = 0 then (if x7 = 0 then none else (some (some (vl (wldiv x5 x7)), s))) else (if x7 = 0 then none else (some (some (vl (wldiv x2 x7)), s)))) else (if x9 = 0 then none else (EV d mX9_chance (81, [z0, z1, vi x2, vi x3, z4, vl x5, SEC, vl x9, SEC, vl (wlrem x7 x9), SEC, vl (wlrem x7 x9), SEC], [], s))) := x_st 83 dX9_chance_81 rfl (x_st 84 dX9_chance_83 rfl (x_st 85 dX9_chance_84 rfl (x_br dX9_chance_85 (x_if (x_go 106 (x_st 107 dX9_chance_106 rfl (x_br dX9_chance_107 (x_if (x_go 110 (x_st 112 dX9_chance_110 rfl (x_st 114 dX9_chance_112 rfl (x_br dX9_chance_114 (x_if x_no (x_go 115 (x_st 123 dX9_chance_115 rfl (x_ret dX9_chance_123 rfl)))))))) (x_go 118 (x_st 119 dX9_chance_118 rfl (x_st 120 dX9_chance_119 rfl (x_st 122 dX9_chance_120 rfl (x_br dX9_chance_122 (x_if x_no (x_go 123 (x_ret dX9_chance_123 rfl)))))))))))) (x_go 88 (x_st 90 dX9_chance_88 rfl (x_st 92 dX9_chance_90 rfl (x_br dX9_chance_92 (x_if x_no (x_go 93 (x_so 95 [z0, z1, vi x2, vi x3, z4, vl x5, SEC, vl x7, SEC, vl x9, SEC, vl (wlrem x7 x9), SEC] dX9_chance_93 rfl (x_st 97 dX9_chance_95 rfl (x_so 99 [z0, z1, vi x2, vi x3, z4, vl x5, SEC, vl x9, SEC, vl x9, SEC, vl (wlrem x7 x9), SEC] dX9_chance_97 rfl (x_st 101 dX9_chance_99 rfl (x_so 103 [z0, z1, vi x2, vi x3, z4, vl x5, SEC, vl x9, SEC, vl (wlrem x7 x9), SEC, vl (wlrem x7 x9), SEC] dX9_chance_101 rfl (x_st 81 dX9_chance_103 rfl (rfl)))))))))))))))))
theorem dX9_image_0 : decode cX9_image 0 = .ok (.iconst 0, 1) := by decide +kernel
theorem dX9_image_1 : decode cX9_image 1 = .ok (.istore_n 1, 1) := by decide +kernel
theorem dX9_image_2 : decode cX9_image 2 = .ok (.iload_n 1, 1) := by decide +kernel
theorem dX9_image_3 : decode cX9_image 3 = .ok (.bipush 30, 2) := by decide +kernel
theorem dX9_image_5 : decode cX9_image 5 = .ok (.if_icmp .ge 21, 3) := by decide +kernel
theorem dX9_image_8 : decode cX9_image 8 = .ok (.aload_n 0, 1) := by decide +kernel
theorem dX9_image_9 : decode cX9_image 9 = .ok (.getfield 56, 3) := by decide +kernel
theorem dX9_image_12 : decode cX9_image 12 = .ok (.iload_n 1, 1) := by decide +kernel
theorem dX9_image_13 : decode cX9_image 13 = .ok (.aload_n 0, 1) := by decide +kernel
theorem dX9_image_14 : decode cX9_image 14 = .ok (.getfield 26, 3) := by decide +kernel
theorem dX9_image_17 : decode cX9_image 17 = .ok (.iload_n 1, 1) := by decide +kernel
theorem dX9_image_18 : decode cX9_image 18 = .ok (.iaload, 1) := by decide +kernel
theorem dX9_image_19 : decode cX9_image 19 = .ok (.iastore, 1) := by decide +kernel
theorem dX9_image_20 : decode cX9_image 20 = .ok (.iinc 1 1, 3) := by decide +kernel
theorem dX9_image_23 : decode cX9_image 23 = .ok (.goto (-21), 3) := by decide +kernel
theorem dX9_image_26 : decode cX9_image 26 = .ok (.aload_n 0, 1) := by decide +kernel
theorem dX9_image_27 : decode cX9_image 27 = .ok (.aload_n 0, 1) := by decide +kernel
theorem dX9_image_28 : decode cX9_image 28 = .ok (.getfield 82, 3) := by decide +kernel
theorem dX9_image_31 : decode cX9_image 31 = .ok (.putfield 59, 3) := by decide +kernel
theorem dX9_image_34 : decode cX9_image 34 = .ok (.aload_n 0, 1) := by decide +kernel
theorem dX9_image_35 : decode cX9_image 35 = .ok (.aload_n 0, 1) := by decide +kernel
theorem dX9_image_36 : decode cX9_image 36 = .ok (.getfield 99, 3) := by decide +kernel
theorem dX9_image_39 : decode cX9_image 39 = .ok (.putfield 319, 3) := by decide +kernel
theorem dX9_image_42 : decode cX9_image 42 = .ok (.aload_n 0, 1) := by decide +kernel
theorem dX9_image_43 : decode cX9_image 43 = .ok (.getfield 82, 3) := by decide +kernel
theorem dX9_image_46 : decode cX9_image 46 = .ok (.ireturn, 1) := by decide +kernel
theorem qX9_image (d : Nat) (s : Sg) : RUN d mX9_image [vr 32 0] s = EV d mX9_image (2, [vr 32 0, vi 0], [], s) := x_run rfl (x_st 1 dX9_image_0 rfl (x_so 2 [vr 32 0, vi 0] dX9_image_1 rfl (rfl)))
theorem qX9_image_2 (d : Nat) (x1 : Int) (s : Sg) : EV d mX9_image (2, [vr 32 0, vi x1], [], s) = if x1 < 30 then (if inb x1 30 then (if inb x1 30 then (EV d mX9_image (2, [vr 32 0, vi (w32 (x1 + 1))], [], (up s 47 0 (Int.toNat x1) (s 37 0 (Int.toNat x1))))) else none) else none) else (some (some (vi (s 32 0 9)), (up (up s 32 0 38 (s 32 0 9)) 32 0 39 (s 32 0 4)))) := x_st 3 dX9_image_2 rfl (x_st 5 dX9_image_3 rfl (x_br dX9_image_5 (x_if (x_go 8 (x_st 9 dX9_image_8 rfl (x_st 12 dX9_image_9 rfl (x_st 13 dX9_image_12 rfl (x_st 14 dX9_image_13 rfl (x_st 17 dX9_image_14 rfl (x_st 18 dX9_image_17 rfl (x_br dX9_image_18 (x_if (x_go 19 (x_br dX9_image_19 (x_if (x_go 20 (x_so 23 [vr 32 0, vi (w32 (x1 + 1))] dX9_image_20 rfl (x_st 2 dX9_image_23 rfl (rfl)))) x_no))) x_no))))))))) (x_go 26 (x_st 27 dX9_image_26 rfl (x_st 28 dX9_image_27 rfl (x_st 31 dX9_image_28 rfl (x_st 34 dX9_image_31 rfl (x_st 35 dX9_image_34 rfl (x_st 36 dX9_image_35 rfl (x_st 39 dX9_image_36 rfl (x_st 42 dX9_image_39 rfl (x_st 43 dX9_image_42 rfl (x_st 46 dX9_image_43 rfl (x_ret dX9_image_46 rfl)))))))))))))))
theorem dX9_back_0 : decode cX9_back 0 = .ok (.aload_n 0, 1) := by decide +kernel
theorem dX9_back_1 : decode cX9_back 1 = .ok (.getfield 59, 3) := by decide +kernel
theorem dX9_back_4 : decode cX9_back 4 = .ok (.iconst (-1), 1) := by decide +kernel
theorem dX9_back_5 : decode cX9_back 5 = .ok (.if_icmp .ne 6, 3) := by decide +kernel
theorem dX9_back_8 : decode cX9_back 8 = .ok (.bipush (-3), 2) := by decide +kernel
theorem dX9_back_10 : decode cX9_back 10 = .ok (.ireturn, 1) := by decide +kernel
theorem dX9_back_11 : decode cX9_back 11 = .ok (.iconst 0, 1) := by decide +kernel
theorem dX9_back_12 : decode cX9_back 12 = .ok (.istore_n 1, 1) := by decide +kernel
theorem dX9_back_13 : decode cX9_back 13 = .ok (.iload_n 1, 1) := by decide +kernel
theorem dX9_back_14 : decode cX9_back 14 = .ok (.bipush 30, 2) := by decide +kernel
theorem dX9_back_16 : decode cX9_back 16 = .ok (.if_icmp .ge 21, 3) := by decide +kernel
theorem dX9_back_19 : decode cX9_back 19 = .ok (.aload_n 0, 1) := by decide +kernel
theorem dX9_back_20 : decode cX9_back 20 = .ok (.getfield 26, 3) := by decide +kernel
theorem dX9_back_23 : decode cX9_back 23 = .ok (.iload_n 1, 1) := by decide +kernel
theorem dX9_back_24 : decode cX9_back 24 = .ok (.aload_n 0, 1) := by decide +kernel
theorem dX9_back_25 : decode cX9_back 25 = .ok (.getfield 56, 3) := by decide +kernel
theorem dX9_back_28 : decode cX9_back 28 = .ok (.iload_n 1, 1) := by decide +kernel
theorem dX9_back_29 : decode cX9_back 29 = .ok (.iaload, 1) := by decide +kernel
theorem dX9_back_30 : decode cX9_back 30 = .ok (.iastore, 1) := by decide +kernel
theorem dX9_back_31 : decode cX9_back 31 = .ok (.iinc 1 1, 3) := by decide +kernel
theorem dX9_back_34 : decode cX9_back 34 = .ok (.goto (-21), 3) := by decide +kernel
theorem dX9_back_37 : decode cX9_back 37 = .ok (.aload_n 0, 1) := by decide +kernel
theorem dX9_back_38 : decode cX9_back 38 = .ok (.aload_n 0, 1) := by decide +kernel
theorem dX9_back_39 : decode cX9_back 39 = .ok (.getfield 59, 3) := by decide +kernel
theorem dX9_back_42 : decode cX9_back 42 = .ok (.putfield 82, 3) := by decide +kernel
theorem dX9_back_45 : decode cX9_back 45 = .ok (.aload_n 0, 1) := by decide +kernel
theorem dX9_back_46 : decode cX9_back 46 = .ok (.aload_n 0, 1) := by decide +kernel
theorem dX9_back_47 : decode cX9_back 47 = .ok (.getfield 319, 3) := by decide +kernel
theorem dX9_back_50 : decode cX9_back 50 = .ok (.putfield 99, 3) := by decide +kernel
theorem dX9_back_53 : decode cX9_back 53 = .ok (.aload_n 0, 1) := by decide +kernel
theorem dX9_back_54 : decode cX9_back 54 = .ok (.getfield 82, 3) := by decide +kernel
theorem dX9_back_57 : decode cX9_back 57 = .ok (.ireturn, 1) := by decide +kernel
theorem qX9_back (d : Nat) (s : Sg) : RUN d mX9_back [vr 32 0] s = if (s 32 0 38) = (-1) then (some (some (vi (-3)), s)) else (EV d mX9_back (13, [vr 32 0, vi 0], [], s)) := x_run rfl (x_st 1 dX9_back_0 rfl (x_st 4 dX9_back_1 rfl (x_st 5 dX9_back_4 rfl (x_br dX9_back_5 (x_if (x_go 8 (x_st 10 dX9_back_8 rfl (x_ret dX9_back_10 rfl))) (x_go 11 (x_st 12 dX9_back_11 rfl (x_so 13 [vr 32 0, vi 0] dX9_back_12 rfl (rfl)))))))))
theorem qX9_back_13 (d : Nat) (x1 : Int) (s : Sg) : EV d mX9_back (13, [vr 32 0, vi x1], [], s) = if x1 < 30 then (if inb x1 30 then (if inb x1 30 then (EV d mX9_back (13, [vr 32 0, vi (w32 (x1 + 1))], [], (up s 37 0 (Int.toNat x1) (s 47 0 (Int.toNat x1))))) else none) else none) else (some (some (vi (s 32 0 38)), (up (up s 32 0 9 (s 32 0 38)) 32 0 4 (s 32 0 39)))) := x_st 14 dX9_back_13 rfl (x_st 16 dX9_back_14 rfl (x_br dX9_back_16 (x_if (x_go 19 (x_st 20 dX9_back_19 rfl (x_st 23 dX9_back_20 rfl (x_st 24 dX9_back_23 rfl (x_st 25 dX9_back_24 rfl (x_st 28 dX9_back_25 rfl (x_st 29 dX9_back_28 rfl (x_br dX9_back_29 (x_if (x_go 30 (x_br dX9_back_30 (x_if (x_go 31 (x_so 34 [vr 32 0, vi (w32 (x1 + 1))] dX9_back_31 rfl (x_st 13 dX9_back_34 rfl (rfl)))) x_no))) x_no))))))))) (x_go 37 (x_st 38 dX9_back_37 rfl (x_st 39 dX9_back_38 rfl (x_st 42 dX9_back_39 rfl (x_st 45 dX9_back_42 rfl (x_st 46 dX9_back_45 rfl (x_st 47 dX9_back_46 rfl (x_st 50 dX9_back_47 rfl (x_st 53 dX9_back_50 rfl (x_st 54 dX9_back_53 rfl (x_st 57 dX9_back_54 rfl (x_ret dX9_back_57 rfl)))))))))))))))
theorem dX9_count_0 : decode cX9_count 0 = .ok (.iload_n 1, 1) := by decide +kernel
theorem dX9_count_1 : decode cX9_count 1 = .ok (.ifCond .ne 10, 3) := by decide +kernel
theorem dX9_count_4 : decode cX9_count 4 = .ok (.aload_n 0, 1) := by decide +kernel
theorem dX9_count_5 : decode cX9_count 5 = .ok (.getfield 82, 3) := by decide +kernel
theorem dX9_count_8 : decode cX9_count 8 = .ok (.goto 41, 3) := by decide +kernel
theorem dX9_count_11 : decode cX9_count 11 = .ok (.iload_n 1, 1) := by decide +kernel
theorem dX9_count_12 : decode cX9_count 12 = .ok (.iconst 1, 1) := by decide +kernel
theorem dX9_count_13 : decode cX9_count 13 = .ok (.if_icmp .ne 10, 3) := by decide +kernel
theorem dX9_count_16 : decode cX9_count 16 = .ok (.aload_n 0, 1) := by decide +kernel
theorem dX9_count_17 : decode cX9_count 17 = .ok (.getfield 79, 3) := by decide +kernel
theorem dX9_count_20 : decode cX9_count 20 = .ok (.goto 29, 3) := by decide +kernel
theorem dX9_count_23 : decode cX9_count 23 = .ok (.iload_n 1, 1) := by decide +kernel
theorem dX9_count_24 : decode cX9_count 24 = .ok (.iconst 2, 1) := by decide +kernel
theorem dX9_count_25 : decode cX9_count 25 = .ok (.if_icmp .ne 10, 3) := by decide +kernel
theorem dX9_count_28 : decode cX9_count 28 = .ok (.aload_n 0, 1) := by decide +kernel
theorem dX9_count_29 : decode cX9_count 29 = .ok (.getfield 131, 3) := by decide +kernel
theorem dX9_count_32 : decode cX9_count 32 = .ok (.goto 17, 3) := by decide +kernel
theorem dX9_count_35 : decode cX9_count 35 = .ok (.iload_n 1, 1) := by decide +kernel
theorem dX9_count_36 : decode cX9_count 36 = .ok (.iconst 3, 1) := by decide +kernel
theorem dX9_count_37 : decode cX9_count 37 = .ok (.if_icmp .ne 10, 3) := by decide +kernel
theorem dX9_count_40 : decode cX9_count 40 = .ok (.aload_n 0, 1) := by decide +kernel
theorem dX9_count_41 : decode cX9_count 41 = .ok (.getfield 99, 3) := by decide +kernel
theorem dX9_count_44 : decode cX9_count 44 = .ok (.goto 5, 3) := by decide +kernel
theorem dX9_count_47 : decode cX9_count 47 = .ok (.bipush (-2), 2) := by decide +kernel
theorem dX9_count_49 : decode cX9_count 49 = .ok (.ireturn, 1) := by decide +kernel
theorem qX9_count (d : Nat) (x1 : Int) (s : Sg) : RUN d mX9_count [vr 32 0, vi x1] s = if x1 = 0 then (some (some (vi (s 32 0 9)), s)) else (if x1 = 1 then (some (some (vi (s 32 0 3)), s)) else (if x1 = 2 then (some (some (vi (s 32 0 6)), s)) else (if x1 = 3 then (some (some (vi (s 32 0 4)), s)) else (some (some (vi (-2)), s))))) := x_run rfl (x_st 1 dX9_count_0 rfl (x_br dX9_count_1 (x_if (x_go 4 (x_st 5 dX9_count_4 rfl (x_st 8 dX9_count_5 rfl (x_st 49 dX9_count_8 rfl (x_ret dX9_count_49 rfl))))) (x_go 11 (x_st 12 dX9_count_11 rfl (x_st 13 dX9_count_12 rfl (x_br dX9_count_13 (x_if (x_go 16 (x_st 17 dX9_count_16 rfl (x_st 20 dX9_count_17 rfl (x_st 49 dX9_count_20 rfl (x_ret dX9_count_49 rfl))))) (x_go 23 (x_st 24 dX9_count_23 rfl (x_st 25 dX9_count_24 rfl (x_br dX9_count_25 (x_if (x_go 28 (x_st 29 dX9_count_28 rfl (x_st 32 dX9_count_29 rfl (x_st 49 dX9_count_32 rfl (x_ret dX9_count_49 rfl))))) (x_go 35 (x_st 36 dX9_count_35 rfl (x_st 37 dX9_count_36 rfl (x_br dX9_count_37 (x_if (x_go 40 (x_st 41 dX9_count_40 rfl (x_st 44 dX9_count_41 rfl (x_st 49 dX9_count_44 rfl (x_ret dX9_count_49 rfl))))) (x_go 47 (x_st 49 dX9_count_47 rfl (x_ret dX9_count_49 rfl)))))))))))))))))))))
theorem dX9_sheet_0 : decode cX9_sheet 0 = .ok (.iload_n 1, 1) := by decide +kernel
theorem dX9_sheet_1 : decode cX9_sheet 1 = .ok (.invokestatic 296, 3) := by decide +kernel
theorem dX9_sheet_4 : decode cX9_sheet 4 = .ok (.ifCond .eq 27, 3) := by decide +kernel
theorem dX9_sheet_7 : decode cX9_sheet 7 = .ok (.iload_n 2, 1) := by decide +kernel
theorem dX9_sheet_8 : decode cX9_sheet 8 = .ok (.i2l, 1) := by decide +kernel
theorem dX9_sheet_9 : decode cX9_sheet 9 = .ok (.ldc2_w 322, 3) := by decide +kernel
theorem dX9_sheet_12 : decode cX9_sheet 12 = .ok (.ldc2_w 324, 3) := by decide +kernel
theorem dX9_sheet_15 : decode cX9_sheet 15 = .ok (.invokestatic 85, 3) := by decide +kernel
theorem dX9_sheet_18 : decode cX9_sheet 18 = .ok (.ifCond .eq 13, 3) := by decide +kernel
theorem dX9_sheet_21 : decode cX9_sheet 21 = .ok (.iload_n 2, 1) := by decide +kernel
theorem dX9_sheet_22 : decode cX9_sheet 22 = .ok (.ifCond .lt 12, 3) := by decide +kernel
theorem dX9_sheet_25 : decode cX9_sheet 25 = .ok (.iload_n 3, 1) := by decide +kernel
theorem dX9_sheet_26 : decode cX9_sheet 26 = .ok (.bipush 40, 2) := by decide +kernel
theorem dX9_sheet_28 : decode cX9_sheet 28 = .ok (.if_icmp .le 6, 3) := by decide +kernel
theorem dX9_sheet_31 : decode cX9_sheet 31 = .ok (.bipush (-2), 2) := by decide +kernel
theorem dX9_sheet_33 : decode cX9_sheet 33 = .ok (.ireturn, 1) := by decide +kernel
theorem dX9_sheet_34 : decode cX9_sheet 34 = .ok (.iload_n 2, 1) := by decide +kernel
theorem dX9_sheet_35 : decode cX9_sheet 35 = .ok (.ifCond .lt 10, 3) := by decide +kernel
theorem dX9_sheet_38 : decode cX9_sheet 38 = .ok (.iload_n 3, 1) := by decide +kernel
theorem dX9_sheet_39 : decode cX9_sheet 39 = .ok (.ifCond .ge 6, 3) := by decide +kernel
theorem dX9_sheet_42 : decode cX9_sheet 42 = .ok (.bipush (-14), 2) := by decide +kernel
theorem dX9_sheet_44 : decode cX9_sheet 44 = .ok (.ireturn, 1) := by decide +kernel
theorem dX9_sheet_45 : decode cX9_sheet 45 = .ok (.aload_n 0, 1) := by decide +kernel
theorem dX9_sheet_46 : decode cX9_sheet 46 = .ok (.getfield 62, 3) := by decide +kernel
theorem dX9_sheet_49 : decode cX9_sheet 49 = .ok (.iload_n 1, 1) := by decide +kernel
theorem dX9_sheet_50 : decode cX9_sheet 50 = .ok (.iload_n 2, 1) := by decide +kernel
theorem dX9_sheet_51 : decode cX9_sheet 51 = .ok (.ifCond .lt 7, 3) := by decide +kernel
theorem dX9_sheet_54 : decode cX9_sheet 54 = .ok (.iconst 1, 1) := by decide +kernel
theorem dX9_sheet_55 : decode cX9_sheet 55 = .ok (.goto 4, 3) := by decide +kernel
theorem dX9_sheet_58 : decode cX9_sheet 58 = .ok (.iconst 0, 1) := by decide +kernel
theorem dX9_sheet_59 : decode cX9_sheet 59 = .ok (.bastore, 1) := by decide +kernel
theorem dX9_sheet_60 : decode cX9_sheet 60 = .ok (.aload_n 0, 1) := by decide +kernel
theorem dX9_sheet_61 : decode cX9_sheet 61 = .ok (.getfield 66, 3) := by decide +kernel
theorem dX9_sheet_64 : decode cX9_sheet 64 = .ok (.iload_n 1, 1) := by decide +kernel
theorem dX9_sheet_65 : decode cX9_sheet 65 = .ok (.iload_n 2, 1) := by decide +kernel
theorem dX9_sheet_66 : decode cX9_sheet 66 = .ok (.iastore, 1) := by decide +kernel
theorem dX9_sheet_67 : decode cX9_sheet 67 = .ok (.aload_n 0, 1) := by decide +kernel
theorem dX9_sheet_68 : decode cX9_sheet 68 = .ok (.getfield 69, 3) := by decide +kernel
theorem dX9_sheet_71 : decode cX9_sheet 71 = .ok (.iload_n 1, 1) := by decide +kernel
theorem dX9_sheet_72 : decode cX9_sheet 72 = .ok (.iload_n 3, 1) := by decide +kernel
theorem dX9_sheet_73 : decode cX9_sheet 73 = .ok (.iastore, 1) := by decide +kernel
theorem dX9_sheet_74 : decode cX9_sheet 74 = .ok (.iconst 0, 1) := by decide +kernel
theorem dX9_sheet_75 : decode cX9_sheet 75 = .ok (.istore 4, 2) := by decide +kernel
theorem dX9_sheet_77 : decode cX9_sheet 77 = .ok (.iload 4, 2) := by decide +kernel
theorem dX9_sheet_79 : decode cX9_sheet 79 = .ok (.iload_n 3, 1) := by decide +kernel
theorem dX9_sheet_80 : decode cX9_sheet 80 = .ok (.if_icmp .ge 26, 3) := by decide +kernel
theorem dX9_sheet_83 : decode cX9_sheet 83 = .ok (.iload_n 2, 1) := by decide +kernel
theorem dX9_sheet_84 : decode cX9_sheet 84 = .ok (.ifCond .lt 22, 3) := by decide +kernel
theorem dX9_sheet_87 : decode cX9_sheet 87 = .ok (.aload_n 0, 1) := by decide +kernel
theorem dX9_sheet_88 : decode cX9_sheet 88 = .ok (.getfield 72, 3) := by decide +kernel
theorem dX9_sheet_91 : decode cX9_sheet 91 = .ok (.bipush 40, 2) := by decide +kernel
theorem dX9_sheet_93 : decode cX9_sheet 93 = .ok (.iload_n 1, 1) := by decide +kernel
theorem dX9_sheet_94 : decode cX9_sheet 94 = .ok (.imul, 1) := by decide +kernel
theorem dX9_sheet_95 : decode cX9_sheet 95 = .ok (.iload 4, 2) := by decide +kernel
theorem dX9_sheet_97 : decode cX9_sheet 97 = .ok (.iadd, 1) := by decide +kernel
theorem dX9_sheet_98 : decode cX9_sheet 98 = .ok (.iconst 0, 1) := by decide +kernel
theorem dX9_sheet_99 : decode cX9_sheet 99 = .ok (.iastore, 1) := by decide +kernel
theorem dX9_sheet_100 : decode cX9_sheet 100 = .ok (.iinc 4 1, 3) := by decide +kernel
theorem dX9_sheet_103 : decode cX9_sheet 103 = .ok (.goto (-26), 3) := by decide +kernel
theorem dX9_sheet_106 : decode cX9_sheet 106 = .ok (.iconst 1, 1) := by decide +kernel
theorem dX9_sheet_107 : decode cX9_sheet 107 = .ok (.ireturn, 1) := by decide +kernel
theorem qX9_sheet (d : Nat) (x1 : Int) (x2 : Int) (x3 : Int) (s : Sg) : RUN (d + 1) mX9_sheet [vr 32 0, vi x1, vi x2, vi x3] s = bI (RUN d mX9_isSheet [vi x1] s) (fun r1 s1 => if r1 = 0 then (some (some (vi (-2)), s1)) else (bI (RUN d mX9_in [vl x2, vl (-1), vl 2] s1) (fun r2 s2 => if r2 = 0 then (some (some (vi (-2)), s2)) else (if x2 < 0 then (EV (d + 1) mX9_sheet (34, [vr 32 0, vi x1, vi x2, vi x3, UU], [], s2)) else (if 40 < x3 then (some (some (vi (-2)), s2)) else (EV (d + 1) mX9_sheet (34, [vr 32 0, vi x1, vi x2, vi x3, UU], [], s2))))))) := x_run rfl (x_st 1 dX9_sheet_0 rfl (x_ci 4 [vr 32 0, vi x1, vi x2, vi x3, UU] [] dX9_sheet_1 rfl (fun r1 s1 => x_br dX9_sheet_4 (x_if (x_go 31 (x_st 33 dX9_sheet_31 rfl (x_ret dX9_sheet_33 rfl))) (x_go 7 (x_st 8 dX9_sheet_7 rfl (x_st 9 dX9_sheet_8 rfl (x_st 12 dX9_sheet_9 rfl (x_st 15 dX9_sheet_12 rfl (x_ci 18 [vr 32 0, vi x1, vi x2, vi x3, UU] [] dX9_sheet_15 rfl (fun r2 s2 => x_br dX9_sheet_18 (x_if (x_go 31 (x_st 33 dX9_sheet_31 rfl (x_ret dX9_sheet_33 rfl))) (x_go 21 (x_st 22 dX9_sheet_21 rfl (x_br dX9_sheet_22 (x_if (x_go 34 (rfl)) (x_go 25 (x_st 26 dX9_sheet_25 rfl (x_st 28 dX9_sheet_26 rfl (x_br dX9_sheet_28 (x_if (x_go 31 (x_st 33 dX9_sheet_31 rfl (x_ret dX9_sheet_33 rfl))) (x_go 34 (rfl)))))))))))))))))))))))
theorem qX9_sheet_34 (d : Nat) (x1 : Int) (x2 : Int) (x3 : Int) (z4 : PV) (s : Sg) : EV d mX9_sheet (34, [vr 32 0, vi x1, vi x2, vi x3, z4], [], s) = if x2 < 0 then (EV d mX9_sheet (45, [vr 32 0, vi x1, vi x2, vi x3, z4], [], s)) else (if x3 < 0 then (some (some (vi (-14)), s)) else (EV d mX9_sheet (45, [vr 32 0, vi x1, vi x2, vi x3, z4], [], s))) := x_st 35 dX9_sheet_34 rfl (x_br dX9_sheet_35 (x_if (x_go 45 (rfl)) (x_go 38 (x_st 39 dX9_sheet_38 rfl (x_br dX9_sheet_39 (x_if (x_go 42 (x_st 44 dX9_sheet_42 rfl (x_ret dX9_sheet_44 rfl))) (x_go 45 (rfl))))))))
theorem qX9_sheet_45 (d : Nat) (x1 : Int) (x2 : Int) (x3 : Int) (z4 : PV) (s : Sg) : EV d mX9_sheet (45, [vr 32 0, vi x1, vi x2, vi x3, z4], [], s) = if x2 < 0 then (EV d mX9_sheet (59, [vr 32 0, vi x1, vi x2, vi x3, z4], [vi 0, vi x1, vr 48 0], s)) else (EV d mX9_sheet (59, [vr 32 0, vi x1, vi x2, vi x3, z4], [vi 1, vi x1, vr 48 0], s)) := x_st 46 dX9_sheet_45 rfl (x_st 49 dX9_sheet_46 rfl (x_st 50 dX9_sheet_49 rfl (x_st 51 dX9_sheet_50 rfl (x_br dX9_sheet_51 (x_if (x_go 58 (x_st 59 dX9_sheet_58 rfl (rfl))) (x_go 54 (x_st 55 dX9_sheet_54 rfl (x_st 59 dX9_sheet_55 rfl (rfl)))))))))
theorem qX9_sheet_59 (d : Nat) (x1 : Int) (x2 : Int) (x3 : Int) (z4 : PV) (y0 : Int) (y1 : Int) (s : Sg) : EV d mX9_sheet (59, [vr 32 0, vi x1, vi x2, vi x3, z4], [vi y0, vi y1, vr 48 0], s) = if 0 ≤ y0 ∧ y0 ≤ 1 then (if inb y1 4 then (if inb x1 4 then (if inb x1 4 then (EV d mX9_sheet (77, [vr 32 0, vi x1, vi x2, vi x3, vi 0], [], (up (up (up s 48 0 (Int.toNat y1) y0) 49 0 (Int.toNat x1) x2) 50 0 (Int.toNat x1) x3))) else none) else none) else none) else none := x_br dX9_sheet_59 (x_if (x_if (x_go 60 (x_st 61 dX9_sheet_60 rfl (x_st 64 dX9_sheet_61 rfl (x_st 65 dX9_sheet_64 rfl (x_st 66 dX9_sheet_65 rfl (x_br dX9_sheet_66 (x_if (x_go 67 (x_st 68 dX9_sheet_67 rfl (x_st 71 dX9_sheet_68 rfl (x_st 72 dX9_sheet_71 rfl (x_st 73 dX9_sheet_72 rfl (x_br dX9_sheet_73 (x_if (x_go 74 (x_st 75 dX9_sheet_74 rfl (x_so 77 [vr 32 0, vi x1, vi x2, vi x3, vi 0] dX9_sheet_75 rfl (rfl)))) x_no))))))) x_no))))))) x_no) x_no)
theorem qX9_sheet_77 (d : Nat) (x1 : Int) (x2 : Int) (x3 : Int) (x4 : Int) (s : Sg) : EV d mX9_sheet (77, [vr 32 0, vi x1, vi x2, vi x3, vi x4], [], s) = if x4 < x3 then (if x2 < 0 then (some (some (vi 1), s)) else (if inb (w32 ((w32 (40 * x1)) + x4)) 160 then (EV d mX9_sheet (77, [vr 32 0, vi x1, vi x2, vi x3, vi (w32 (x4 + 1))], [], (up s 51 0 (Int.toNat (w32 ((w32 (40 * x1)) + x4))) 0))) else none)) else (some (some (vi 1), s)) := x_st 79 dX9_sheet_77 rfl (x_st 80 dX9_sheet_79 rfl (x_br dX9_sheet_80 (x_if (x_go 83 (x_st 84 dX9_sheet_83 rfl (x_br dX9_sheet_84 (x_if (x_go 106 (x_st 107 dX9_sheet_106 rfl (x_ret dX9_sheet_107 rfl))) (x_go 87 (x_st 88 dX9_sheet_87 rfl (x_st 91 dX9_sheet_88 rfl (x_st 93 dX9_sheet_91 rfl (x_st 94 dX9_sheet_93 rfl (x_st 95 dX9_sheet_94 rfl (x_st 97 dX9_sheet_95 rfl (x_st 98 dX9_sheet_97 rfl (x_st 99 dX9_sheet_98 rfl (x_br dX9_sheet_99 (x_if (x_go 100 (x_so 103 [vr 32 0, vi x1, vi x2, vi x3, vi (w32 (x4 + 1))] dX9_sheet_100 rfl (x_st 77 dX9_sheet_103 rfl (rfl)))) x_no))))))))))))))) (x_go 106 (x_st 107 dX9_sheet_106 rfl (x_ret dX9_sheet_107 rfl))))))
theorem dX9_cell_0 : decode cX9_cell 0 = .ok (.iload_n 1, 1) := by decide +kernel
theorem dX9_cell_1 : decode cX9_cell 1 = .ok (.invokestatic 296, 3) := by decide +kernel
theorem dX9_cell_4 : decode cX9_cell 4 = .ok (.ifCond .ne 6, 3) := by decide +kernel
theorem dX9_cell_7 : decode cX9_cell 7 = .ok (.bipush (-2), 2) := by decide +kernel
theorem dX9_cell_9 : decode cX9_cell 9 = .ok (.ireturn, 1) := by decide +kernel
theorem dX9_cell_10 : decode cX9_cell 10 = .ok (.aload_n 0, 1) := by decide +kernel
theorem dX9_cell_11 : decode cX9_cell 11 = .ok (.getfield 62, 3) := by decide +kernel
theorem dX9_cell_14 : decode cX9_cell 14 = .ok (.iload_n 1, 1) := by decide +kernel
theorem dX9_cell_15 : decode cX9_cell 15 = .ok (.baload, 1) := by decide +kernel
theorem dX9_cell_16 : decode cX9_cell 16 = .ok (.ifCond .ne 6, 3) := by decide +kernel
theorem dX9_cell_19 : decode cX9_cell 19 = .ok (.bipush (-11), 2) := by decide +kernel
theorem dX9_cell_21 : decode cX9_cell 21 = .ok (.ireturn, 1) := by decide +kernel
theorem dX9_cell_22 : decode cX9_cell 22 = .ok (.iload_n 2, 1) := by decide +kernel
theorem dX9_cell_23 : decode cX9_cell 23 = .ok (.i2l, 1) := by decide +kernel
theorem dX9_cell_24 : decode cX9_cell 24 = .ok (.lconst 0, 1) := by decide +kernel
theorem dX9_cell_25 : decode cX9_cell 25 = .ok (.aload_n 0, 1) := by decide +kernel
theorem dX9_cell_26 : decode cX9_cell 26 = .ok (.getfield 69, 3) := by decide +kernel
theorem dX9_cell_29 : decode cX9_cell 29 = .ok (.iload_n 1, 1) := by decide +kernel
theorem dX9_cell_30 : decode cX9_cell 30 = .ok (.iaload, 1) := by decide +kernel
theorem dX9_cell_31 : decode cX9_cell 31 = .ok (.iconst 1, 1) := by decide +kernel
theorem dX9_cell_32 : decode cX9_cell 32 = .ok (.isub, 1) := by decide +kernel
theorem dX9_cell_33 : decode cX9_cell 33 = .ok (.i2l, 1) := by decide +kernel
theorem dX9_cell_34 : decode cX9_cell 34 = .ok (.invokestatic 85, 3) := by decide +kernel
theorem dX9_cell_37 : decode cX9_cell 37 = .ok (.ifCond .ne 6, 3) := by decide +kernel
theorem dX9_cell_40 : decode cX9_cell 40 = .ok (.bipush (-12), 2) := by decide +kernel
theorem dX9_cell_42 : decode cX9_cell 42 = .ok (.ireturn, 1) := by decide +kernel
theorem dX9_cell_43 : decode cX9_cell 43 = .ok (.aload_n 0, 1) := by decide +kernel
theorem dX9_cell_44 : decode cX9_cell 44 = .ok (.getfield 72, 3) := by decide +kernel
theorem dX9_cell_47 : decode cX9_cell 47 = .ok (.bipush 40, 2) := by decide +kernel
theorem dX9_cell_49 : decode cX9_cell 49 = .ok (.iload_n 1, 1) := by decide +kernel
theorem dX9_cell_50 : decode cX9_cell 50 = .ok (.imul, 1) := by decide +kernel
theorem dX9_cell_51 : decode cX9_cell 51 = .ok (.iload_n 2, 1) := by decide +kernel
theorem dX9_cell_52 : decode cX9_cell 52 = .ok (.iadd, 1) := by decide +kernel
theorem dX9_cell_53 : decode cX9_cell 53 = .ok (.aload_n 0, 1) := by decide +kernel
theorem dX9_cell_54 : decode cX9_cell 54 = .ok (.getfield 66, 3) := by decide +kernel
theorem dX9_cell_57 : decode cX9_cell 57 = .ok (.iload_n 1, 1) := by decide +kernel
theorem dX9_cell_58 : decode cX9_cell 58 = .ok (.iaload, 1) := by decide +kernel
theorem dX9_cell_59 : decode cX9_cell 59 = .ok (.ifCond .ne 8, 3) := by decide +kernel
theorem dX9_cell_62 : decode cX9_cell 62 = .ok (.iload_n 3, 1) := by decide +kernel
theorem dX9_cell_63 : decode cX9_cell 63 = .ok (.i2b, 1) := by decide +kernel
theorem dX9_cell_64 : decode cX9_cell 64 = .ok (.goto 19, 3) := by decide +kernel
theorem dX9_cell_67 : decode cX9_cell 67 = .ok (.aload_n 0, 1) := by decide +kernel
theorem dX9_cell_68 : decode cX9_cell 68 = .ok (.getfield 66, 3) := by decide +kernel
theorem dX9_cell_71 : decode cX9_cell 71 = .ok (.iload_n 1, 1) := by decide +kernel
theorem dX9_cell_72 : decode cX9_cell 72 = .ok (.iaload, 1) := by decide +kernel
theorem dX9_cell_73 : decode cX9_cell 73 = .ok (.iconst 1, 1) := by decide +kernel
theorem dX9_cell_74 : decode cX9_cell 74 = .ok (.if_icmp .ne 8, 3) := by decide +kernel
theorem dX9_cell_77 : decode cX9_cell 77 = .ok (.iload_n 3, 1) := by decide +kernel
theorem dX9_cell_78 : decode cX9_cell 78 = .ok (.i2s, 1) := by decide +kernel
theorem dX9_cell_79 : decode cX9_cell 79 = .ok (.goto 4, 3) := by decide +kernel
theorem dX9_cell_82 : decode cX9_cell 82 = .ok (.iload_n 3, 1) := by decide +kernel
theorem dX9_cell_83 : decode cX9_cell 83 = .ok (.iastore, 1) := by decide +kernel
theorem dX9_cell_84 : decode cX9_cell 84 = .ok (.iconst 1, 1) := by decide +kernel
theorem dX9_cell_85 : decode cX9_cell 85 = .ok (.ireturn, 1) := by decide +kernel
theorem qX9_cell (d : Nat) (x1 : Int) (x2 : Int) (x3 : Int) (s : Sg) : RUN (d + 1) mX9_cell [vr 32 0, vi x1, vi x2, vi x3] s = bI (RUN d mX9_isSheet [vi x1] s) (fun r1 s1 => if r1 = 0 then (some (some (vi (-2)), s1)) else (if inb x1 4 then (if (s1 48 0 (Int.toNat x1)) = 0 then (some (some (vi (-11)), s1)) else (if inb x1 4 then (bI (RUN d mX9_in [vl x2, vl 0, vl (w32 ((s1 50 0 (Int.toNat x1)) - 1))] s1) (fun r2 s2 => if r2 = 0 then (some (some (vi (-12)), s2)) else (if inb x1 4 then (if (s2 49 0 (Int.toNat x1)) = 0 then (if inb (w32 ((w32 (40 * x1)) + x2)) 160 then (some (some (vi 1), (up s2 51 0 (Int.toNat (w32 ((w32 (40 * x1)) + x2))) (wi2b x3)))) else none) else (if inb x1 4 then (if (s2 49 0 (Int.toNat x1)) = 1 then (if inb (w32 ((w32 (40 * x1)) + x2)) 160 then (some (some (vi 1), (up s2 51 0 (Int.toNat (w32 ((w32 (40 * x1)) + x2))) (wi2s x3)))) else none) else (if inb (w32 ((w32 (40 * x1)) + x2)) 160 then (some (some (vi 1), (up s2 51 0 (Int.toNat (w32 ((w32 (40 * x1)) + x2))) x3))) else none)) else none)) else none))) else none)) else none)) := x_run rfl (x_st 1 dX9_cell_0 rfl (x_ci 4 [vr 32 0, vi x1, vi x2, vi x3] [] dX9_cell_1 rfl (fun r1 s1 => x_br dX9_cell_4 (x_if (x_go 7 (x_st 9 dX9_cell_7 rfl (x_ret dX9_cell_9 rfl))) (x_go 10 (x_st 11 dX9_cell_10 rfl (x_st 14 dX9_cell_11 rfl (x_st 15 dX9_cell_14 rfl (x_br dX9_cell_15 (x_if (x_go 16 (x_br dX9_cell_16 (x_if (x_go 19 (x_st 21 dX9_cell_19 rfl (x_ret dX9_cell_21 rfl))) (x_go 22 (x_st 23 dX9_cell_22 rfl (x_st 24 dX9_cell_23 rfl (x_st 25 dX9_cell_24 rfl (x_st 26 dX9_cell_25 rfl (x_st 29 dX9_cell_26 rfl (x_st 30 dX9_cell_29 rfl (x_br dX9_cell_30 (x_if (x_go 31 (x_st 32 dX9_cell_31 rfl (x_st 33 dX9_cell_32 rfl (x_st 34 dX9_cell_33 rfl (x_ci 37 [vr 32 0, vi x1, vi x2, vi x3] [] dX9_cell_34 rfl (fun r2 s2 => x_br dX9_cell_37 (x_if (x_go 40 (x_st 42 dX9_cell_40 rfl (x_ret dX9_cell_42 rfl))) (x_go 43 (x_st 44 dX9_cell_43 rfl (x_st 47 dX9_cell_44 rfl (x_st 49 dX9_cell_47 rfl (x_st 50 dX9_cell_49 rfl (x_st 51 dX9_cell_50 rfl (x_st 52 dX9_cell_51 rfl (x_st 53 dX9_cell_52 rfl (x_st 54 dX9_cell_53 rfl (x_st 57 dX9_cell_54 rfl (x_st 58 dX9_cell_57 rfl (x_br dX9_cell_58 (x_if (x_go 59 (x_br dX9_cell_59 (x_if (x_go 62 (x_st 63 dX9_cell_62 rfl (x_st 64 dX9_cell_63 rfl (x_st 83 dX9_cell_64 rfl (x_br dX9_cell_83 (x_if (x_go 84 (x_st 85 dX9_cell_84 rfl (x_ret dX9_cell_85 rfl))) x_no)))))) (x_go 67 (x_st 68 dX9_cell_67 rfl (x_st 71 dX9_cell_68 rfl (x_st 72 dX9_cell_71 rfl (x_br dX9_cell_72 (x_if (x_go 73 (x_st 74 dX9_cell_73 rfl (x_br dX9_cell_74 (x_if (x_go 77 (x_st 78 dX9_cell_77 rfl (x_st 79 dX9_cell_78 rfl (x_st 83 dX9_cell_79 rfl (x_br dX9_cell_83 (x_if (x_go 84 (x_st 85 dX9_cell_84 rfl (x_ret dX9_cell_85 rfl))) x_no)))))) (x_go 82 (x_st 83 dX9_cell_82 rfl (x_br dX9_cell_83 (x_if (x_go 84 (x_st 85 dX9_cell_84 rfl (x_ret dX9_cell_85 rfl))) x_no)))))))) x_no))))))))) x_no)))))))))))))))))))) x_no)))))))))))) x_no))))))))))
