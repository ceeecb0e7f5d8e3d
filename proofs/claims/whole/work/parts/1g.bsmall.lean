theorem dX8_likelyTexts_0 : decode cX8_likelyTexts 0 = .ok (.aload_n 0, 1) := by decide +kernel
theorem dX8_likelyTexts_1 : decode cX8_likelyTexts 1 = .ok (.getfield 19, 3) := by decide +kernel
theorem dX8_likelyTexts_4 : decode cX8_likelyTexts 4 = .ok (.invokevirtual 224, 3) := by decide +kernel
theorem dX8_likelyTexts_7 : decode cX8_likelyTexts 7 = .ok (.istore_n 2, 1) := by decide +kernel
theorem dX8_likelyTexts_8 : decode cX8_likelyTexts 8 = .ok (.iconst 0, 1) := by decide +kernel
theorem dX8_likelyTexts_9 : decode cX8_likelyTexts 9 = .ok (.istore_n 3, 1) := by decide +kernel
theorem dX8_likelyTexts_10 : decode cX8_likelyTexts 10 = .ok (.iconst 0, 1) := by decide +kernel
theorem dX8_likelyTexts_11 : decode cX8_likelyTexts 11 = .ok (.istore 4, 2) := by decide +kernel
theorem dX8_likelyTexts_13 : decode cX8_likelyTexts 13 = .ok (.iload 4, 2) := by decide +kernel
theorem dX8_likelyTexts_15 : decode cX8_likelyTexts 15 = .ok (.aload_n 0, 1) := by decide +kernel
theorem dX8_likelyTexts_16 : decode cX8_likelyTexts 16 = .ok (.getfield 19, 3) := by decide +kernel
theorem dX8_likelyTexts_19 : decode cX8_likelyTexts 19 = .ok (.invokevirtual 126, 3) := by decide +kernel
theorem dX8_likelyTexts_22 : decode cX8_likelyTexts 22 = .ok (.if_icmp .ge 52, 3) := by decide +kernel
theorem dX8_likelyTexts_25 : decode cX8_likelyTexts 25 = .ok (.aload_n 0, 1) := by decide +kernel
theorem dX8_likelyTexts_26 : decode cX8_likelyTexts 26 = .ok (.getfield 19, 3) := by decide +kernel
theorem dX8_likelyTexts_29 : decode cX8_likelyTexts 29 = .ok (.iload 4, 2) := by decide +kernel
theorem dX8_likelyTexts_31 : decode cX8_likelyTexts 31 = .ok (.invokevirtual 128, 3) := by decide +kernel
theorem dX8_likelyTexts_34 : decode cX8_likelyTexts 34 = .ok (.pop, 1) := by decide +kernel
theorem dX8_likelyTexts_35 : decode cX8_likelyTexts 35 = .ok (.aload_n 0, 1) := by decide +kernel
theorem dX8_likelyTexts_36 : decode cX8_likelyTexts 36 = .ok (.getfield 37, 3) := by decide +kernel
theorem dX8_likelyTexts_39 : decode cX8_likelyTexts 39 = .ok (.invokevirtual 132, 3) := by decide +kernel
theorem dX8_likelyTexts_42 : decode cX8_likelyTexts 42 = .ok (.aload_n 0, 1) := by decide +kernel
theorem dX8_likelyTexts_43 : decode cX8_likelyTexts 43 = .ok (.getfield 37, 3) := by decide +kernel
theorem dX8_likelyTexts_46 : decode cX8_likelyTexts 46 = .ok (.invokevirtual 135, 3) := by decide +kernel
theorem dX8_likelyTexts_49 : decode cX8_likelyTexts 49 = .ok (.pop, 1) := by decide +kernel
theorem dX8_likelyTexts_50 : decode cX8_likelyTexts 50 = .ok (.aload_n 0, 1) := by decide +kernel
theorem dX8_likelyTexts_51 : decode cX8_likelyTexts 51 = .ok (.getfield 37, 3) := by decide +kernel
theorem dX8_likelyTexts_54 : decode cX8_likelyTexts 54 = .ok (.aload_n 1, 1) := by decide +kernel
theorem dX8_likelyTexts_55 : decode cX8_likelyTexts 55 = .ok (.invokevirtual 243, 3) := by decide +kernel
theorem dX8_likelyTexts_58 : decode cX8_likelyTexts 58 = .ok (.ifCond .ne 10, 3) := by decide +kernel
theorem dX8_likelyTexts_61 : decode cX8_likelyTexts 61 = .ok (.iload_n 3, 1) := by decide +kernel
theorem dX8_likelyTexts_62 : decode cX8_likelyTexts 62 = .ok (.iconst 1, 1) := by decide +kernel
theorem dX8_likelyTexts_63 : decode cX8_likelyTexts 63 = .ok (.iload 4, 2) := by decide +kernel
theorem dX8_likelyTexts_65 : decode cX8_likelyTexts 65 = .ok (.ishl, 1) := by decide +kernel
theorem dX8_likelyTexts_66 : decode cX8_likelyTexts 66 = .ok (.ior, 1) := by decide +kernel
theorem dX8_likelyTexts_67 : decode cX8_likelyTexts 67 = .ok (.istore_n 3, 1) := by decide +kernel
theorem dX8_likelyTexts_68 : decode cX8_likelyTexts 68 = .ok (.iinc 4 1, 3) := by decide +kernel
theorem dX8_likelyTexts_71 : decode cX8_likelyTexts 71 = .ok (.goto (-58), 3) := by decide +kernel
theorem dX8_likelyTexts_74 : decode cX8_likelyTexts 74 = .ok (.aload_n 0, 1) := by decide +kernel
theorem dX8_likelyTexts_75 : decode cX8_likelyTexts 75 = .ok (.getfield 19, 3) := by decide +kernel
theorem dX8_likelyTexts_78 : decode cX8_likelyTexts 78 = .ok (.iload_n 2, 1) := by decide +kernel
theorem dX8_likelyTexts_79 : decode cX8_likelyTexts 79 = .ok (.invokevirtual 128, 3) := by decide +kernel
theorem dX8_likelyTexts_82 : decode cX8_likelyTexts 82 = .ok (.pop, 1) := by decide +kernel
theorem dX8_likelyTexts_83 : decode cX8_likelyTexts 83 = .ok (.iload_n 3, 1) := by decide +kernel
theorem dX8_likelyTexts_84 : decode cX8_likelyTexts 84 = .ok (.ireturn, 1) := by decide +kernel
theorem qX8_likelyTexts (d : Nat) (j1 : Nat) (s : Sg) : RUN (d + 1) mX8_likelyTexts [vr 0 0, vr 30 j1] s = bI (RUN d mX5_chosen [vr 4 0] s) (fun r1 s1 => EV (d + 1) mX8_likelyTexts (13, [vr 0 0, vr 30 j1, vi r1, vi 0, vi 0], [], s1)) := x_run rfl (x_st 1 dX8_likelyTexts_0 rfl (x_st 4 dX8_likelyTexts_1 rfl (x_ci 7 [vr 0 0, vr 30 j1, UU, UU, UU] [] dX8_likelyTexts_4 rfl (fun r1 s1 => x_so 8 [vr 0 0, vr 30 j1, vi r1, UU, UU] dX8_likelyTexts_7 rfl (x_st 9 dX8_likelyTexts_8 rfl (x_so 10 [vr 0 0, vr 30 j1, vi r1, vi 0, UU] dX8_likelyTexts_9 rfl (x_st 11 dX8_likelyTexts_10 rfl (x_so 13 [vr 0 0, vr 30 j1, vi r1, vi 0, vi 0] dX8_likelyTexts_11 rfl (rfl)))))))))
theorem qX8_likelyTexts_13 (d : Nat) (j1 : Nat) (x2 : Int) (x3 : Int) (x4 : Int) (s : Sg) : EV (d + 1) mX8_likelyTexts (13, [vr 0 0, vr 30 j1, vi x2, vi x3, vi x4], [], s) = bI (RUN d mX5_size [vr 4 0] s) (fun r1 s1 => if x4 < r1 then (bI (RUN d mX5_choose [vr 4 0, vi x4] s1) (fun r2 s2 => bV (RUN d mX7_spread [vr 13 0] s2) (fun s3 => bI (RUN d mX7_playAll [vr 13 0] s3) (fun r4 s4 => bI (RUN d mX7_otherwise [vr 13 0, vr 30 j1] s4) (fun r5 s5 => if r5 = 0 then (EV (d + 1) mX8_likelyTexts (68, [vr 0 0, vr 30 j1, vi x2, vi (wor x3 (wshl 1 x4)), vi x4], [], s5)) else (EV (d + 1) mX8_likelyTexts (68, [vr 0 0, vr 30 j1, vi x2, vi x3, vi x4], [], s5))))))) else (bI (RUN d mX5_choose [vr 4 0, vi x2] s1) (fun r6 s6 => some (some (vi x3), s6)))) := x_st 15 dX8_likelyTexts_13 rfl (x_st 16 dX8_likelyTexts_15 rfl (x_st 19 dX8_likelyTexts_16 rfl (x_ci 22 [vr 0 0, vr 30 j1, vi x2, vi x3, vi x4] [vi x4] dX8_likelyTexts_19 rfl (fun r1 s1 => x_br dX8_likelyTexts_22 (x_if (x_go 25 (x_st 26 dX8_likelyTexts_25 rfl (x_st 29 dX8_likelyTexts_26 rfl (x_st 31 dX8_likelyTexts_29 rfl (x_ci 34 [vr 0 0, vr 30 j1, vi x2, vi x3, vi x4] [] dX8_likelyTexts_31 rfl (fun r2 s2 => x_st 35 dX8_likelyTexts_34 rfl (x_st 36 dX8_likelyTexts_35 rfl (x_st 39 dX8_likelyTexts_36 rfl (x_cv 42 [vr 0 0, vr 30 j1, vi x2, vi x3, vi x4] [] dX8_likelyTexts_39 rfl (fun s3 => x_st 43 dX8_likelyTexts_42 rfl (x_st 46 dX8_likelyTexts_43 rfl (x_ci 49 [vr 0 0, vr 30 j1, vi x2, vi x3, vi x4] [] dX8_likelyTexts_46 rfl (fun r4 s4 => x_st 50 dX8_likelyTexts_49 rfl (x_st 51 dX8_likelyTexts_50 rfl (x_st 54 dX8_likelyTexts_51 rfl (x_st 55 dX8_likelyTexts_54 rfl (x_ci 58 [vr 0 0, vr 30 j1, vi x2, vi x3, vi x4] [] dX8_likelyTexts_55 rfl (fun r5 s5 => x_br dX8_likelyTexts_58 (x_if (x_go 61 (x_st 62 dX8_likelyTexts_61 rfl (x_st 63 dX8_likelyTexts_62 rfl (x_st 65 dX8_likelyTexts_63 rfl (x_st 66 dX8_likelyTexts_65 rfl (x_st 67 dX8_likelyTexts_66 rfl (x_so 68 [vr 0 0, vr 30 j1, vi x2, vi (wor x3 (wshl 1 x4)), vi x4] dX8_likelyTexts_67 rfl (rfl)))))))) (x_go 68 (rfl))))))))))))))))))))) (x_go 74 (x_st 75 dX8_likelyTexts_74 rfl (x_st 78 dX8_likelyTexts_75 rfl (x_st 79 dX8_likelyTexts_78 rfl (x_ci 82 [vr 0 0, vr 30 j1, vi x2, vi x3, vi x4] [] dX8_likelyTexts_79 rfl (fun r6 s6 => x_st 83 dX8_likelyTexts_82 rfl (x_st 84 dX8_likelyTexts_83 rfl (x_ret dX8_likelyTexts_84 rfl)))))))))))))
theorem qX8_likelyTexts_68 (d : Nat) (j1 : Nat) (x2 : Int) (x3 : Int) (x4 : Int) (s : Sg) : EV d mX8_likelyTexts (68, [vr 0 0, vr 30 j1, vi x2, vi x3, vi x4], [], s) = EV d mX8_likelyTexts (13, [vr 0 0, vr 30 j1, vi x2, vi x3, vi (w32 (x4 + 1))], [], s) := x_so 71 [vr 0 0, vr 30 j1, vi x2, vi x3, vi (w32 (x4 + 1))] dX8_likelyTexts_68 rfl (x_st 13 dX8_likelyTexts_71 rfl (rfl))
theorem dX8_likely_0 : decode cX8_likely 0 = .ok (.getstatic 246, 3) := by decide +kernel
theorem dX8_likely_3 : decode cX8_likely 3 = .ok (.iload_n 2, 1) := by decide +kernel
theorem dX8_likely_4 : decode cX8_likely 4 = .ok (.iaload, 1) := by decide +kernel
theorem dX8_likely_5 : decode cX8_likely 5 = .ok (.istore 4, 2) := by decide +kernel
theorem dX8_likely_7 : decode cX8_likely 7 = .ok (.aload_n 0, 1) := by decide +kernel
theorem dX8_likely_8 : decode cX8_likely 8 = .ok (.getfield 10, 3) := by decide +kernel
theorem dX8_likely_11 : decode cX8_likely 11 = .ok (.iload 4, 2) := by decide +kernel
theorem dX8_likely_13 : decode cX8_likely 13 = .ok (.iload_n 3, 1) := by decide +kernel
theorem dX8_likely_14 : decode cX8_likely 14 = .ok (.invokevirtual 92, 3) := by decide +kernel
theorem dX8_likely_17 : decode cX8_likely 17 = .ok (.istore 5, 2) := by decide +kernel
theorem dX8_likely_19 : decode cX8_likely 19 = .ok (.iconst 0, 1) := by decide +kernel
theorem dX8_likely_20 : decode cX8_likely 20 = .ok (.istore 6, 2) := by decide +kernel
theorem dX8_likely_22 : decode cX8_likely 22 = .ok (.iconst 0, 1) := by decide +kernel
theorem dX8_likely_23 : decode cX8_likely 23 = .ok (.istore 7, 2) := by decide +kernel
theorem dX8_likely_25 : decode cX8_likely 25 = .ok (.iconst (-1), 1) := by decide +kernel
theorem dX8_likely_26 : decode cX8_likely 26 = .ok (.istore 8, 2) := by decide +kernel
theorem dX8_likely_28 : decode cX8_likely 28 = .ok (.iconst 0, 1) := by decide +kernel
theorem dX8_likely_29 : decode cX8_likely 29 = .ok (.istore 9, 2) := by decide +kernel
theorem dX8_likely_31 : decode cX8_likely 31 = .ok (.iload 9, 2) := by decide +kernel
theorem dX8_likely_33 : decode cX8_likely 33 = .ok (.getstatic 81, 3) := by decide +kernel
theorem dX8_likely_36 : decode cX8_likely 36 = .ok (.iload 4, 2) := by decide +kernel
theorem dX8_likely_38 : decode cX8_likely 38 = .ok (.iaload, 1) := by decide +kernel
theorem dX8_likely_39 : decode cX8_likely 39 = .ok (.if_icmp .gt 74, 3) := by decide +kernel
theorem dX8_likely_42 : decode cX8_likely 42 = .ok (.aload_n 0, 1) := by decide +kernel
theorem dX8_likely_43 : decode cX8_likely 43 = .ok (.getfield 10, 3) := by decide +kernel
theorem dX8_likely_46 : decode cX8_likely 46 = .ok (.iload 4, 2) := by decide +kernel
theorem dX8_likely_48 : decode cX8_likely 48 = .ok (.iload_n 3, 1) := by decide +kernel
theorem dX8_likely_49 : decode cX8_likely 49 = .ok (.iload 9, 2) := by decide +kernel
theorem dX8_likely_51 : decode cX8_likely 51 = .ok (.invokevirtual 85, 3) := by decide +kernel
theorem dX8_likely_54 : decode cX8_likely 54 = .ok (.pop, 1) := by decide +kernel
theorem dX8_likely_55 : decode cX8_likely 55 = .ok (.aload_n 0, 1) := by decide +kernel
theorem dX8_likely_56 : decode cX8_likely 56 = .ok (.getfield 37, 3) := by decide +kernel
theorem dX8_likely_59 : decode cX8_likely 59 = .ok (.invokevirtual 132, 3) := by decide +kernel
theorem dX8_likely_62 : decode cX8_likely 62 = .ok (.aload_n 0, 1) := by decide +kernel
theorem dX8_likely_63 : decode cX8_likely 63 = .ok (.getfield 37, 3) := by decide +kernel
theorem dX8_likely_66 : decode cX8_likely 66 = .ok (.invokevirtual 135, 3) := by decide +kernel
theorem dX8_likely_69 : decode cX8_likely 69 = .ok (.pop, 1) := by decide +kernel
theorem dX8_likely_70 : decode cX8_likely 70 = .ok (.aload_n 0, 1) := by decide +kernel
theorem dX8_likely_71 : decode cX8_likely 71 = .ok (.getfield 37, 3) := by decide +kernel
theorem dX8_likely_74 : decode cX8_likely 74 = .ok (.aload_n 1, 1) := by decide +kernel
theorem dX8_likely_75 : decode cX8_likely 75 = .ok (.invokevirtual 243, 3) := by decide +kernel
theorem dX8_likely_78 : decode cX8_likely 78 = .ok (.ifCond .ne 29, 3) := by decide +kernel
theorem dX8_likely_81 : decode cX8_likely 81 = .ok (.iload 6, 2) := by decide +kernel
theorem dX8_likely_83 : decode cX8_likely 83 = .ok (.iconst 1, 1) := by decide +kernel
theorem dX8_likely_84 : decode cX8_likely 84 = .ok (.iload 9, 2) := by decide +kernel
theorem dX8_likely_86 : decode cX8_likely 86 = .ok (.ishl, 1) := by decide +kernel
theorem dX8_likely_87 : decode cX8_likely 87 = .ok (.ior, 1) := by decide +kernel
theorem dX8_likely_88 : decode cX8_likely 88 = .ok (.istore 6, 2) := by decide +kernel
theorem dX8_likely_90 : decode cX8_likely 90 = .ok (.iload 7, 2) := by decide +kernel
theorem dX8_likely_92 : decode cX8_likely 92 = .ok (.ifCond .ne 8, 3) := by decide +kernel
theorem dX8_likely_95 : decode cX8_likely 95 = .ok (.iload 9, 2) := by decide +kernel
theorem dX8_likely_97 : decode cX8_likely 97 = .ok (.goto 5, 3) := by decide +kernel
theorem dX8_likely_100 : decode cX8_likely 100 = .ok (.iload 8, 2) := by decide +kernel
theorem dX8_likely_102 : decode cX8_likely 102 = .ok (.istore 8, 2) := by decide +kernel
theorem dX8_likely_104 : decode cX8_likely 104 = .ok (.iinc 7 1, 3) := by decide +kernel
theorem dX8_likely_107 : decode cX8_likely 107 = .ok (.iinc 9 1, 3) := by decide +kernel
theorem dX8_likely_110 : decode cX8_likely 110 = .ok (.goto (-79), 3) := by decide +kernel
theorem dX8_likely_113 : decode cX8_likely 113 = .ok (.aload_n 0, 1) := by decide +kernel
theorem dX8_likely_114 : decode cX8_likely 114 = .ok (.getfield 10, 3) := by decide +kernel
theorem dX8_likely_117 : decode cX8_likely 117 = .ok (.iload 4, 2) := by decide +kernel
theorem dX8_likely_119 : decode cX8_likely 119 = .ok (.iload_n 3, 1) := by decide +kernel
theorem dX8_likely_120 : decode cX8_likely 120 = .ok (.iload 5, 2) := by decide +kernel
theorem dX8_likely_122 : decode cX8_likely 122 = .ok (.invokevirtual 85, 3) := by decide +kernel
theorem dX8_likely_125 : decode cX8_likely 125 = .ok (.pop, 1) := by decide +kernel
theorem dX8_likely_126 : decode cX8_likely 126 = .ok (.iload_n 2, 1) := by decide +kernel
theorem dX8_likely_127 : decode cX8_likely 127 = .ok (.bipush 6, 2) := by decide +kernel
theorem dX8_likely_129 : decode cX8_likely 129 = .ok (.if_icmp .ne 6, 3) := by decide +kernel
theorem dX8_likely_132 : decode cX8_likely 132 = .ok (.iload 8, 2) := by decide +kernel
theorem dX8_likely_134 : decode cX8_likely 134 = .ok (.ireturn, 1) := by decide +kernel
theorem dX8_likely_135 : decode cX8_likely 135 = .ok (.iload_n 2, 1) := by decide +kernel
theorem dX8_likely_136 : decode cX8_likely 136 = .ok (.iconst 5, 1) := by decide +kernel
theorem dX8_likely_137 : decode cX8_likely 137 = .ok (.if_icmp .ne 8, 3) := by decide +kernel
theorem dX8_likely_140 : decode cX8_likely 140 = .ok (.iload 7, 2) := by decide +kernel
theorem dX8_likely_142 : decode cX8_likely 142 = .ok (.goto 5, 3) := by decide +kernel
theorem dX8_likely_145 : decode cX8_likely 145 = .ok (.iload 6, 2) := by decide +kernel
theorem dX8_likely_147 : decode cX8_likely 147 = .ok (.ireturn, 1) := by decide +kernel
theorem qX8_likely (d : Nat) (j1 : Nat) (x2 : Int) (x3 : Int) (s : Sg) : RUN (d + 1) mX8_likely [vr 0 0, vr 30 j1, vi x2, vi x3] s = if inb x2 7 then (bI (RUN d mX1_tell [vr 1 0, vi (sv 53 (Int.toNat x2)), vi x3] s) (fun r1 s1 => EV (d + 1) mX8_likely (31, [vr 0 0, vr 30 j1, vi x2, vi x3, vi (sv 53 (Int.toNat x2)), vi r1, vi 0, vi 0, vi (-1), vi 0], [], s1))) else none := x_run rfl (x_st 3 dX8_likely_0 rfl (x_st 4 dX8_likely_3 rfl (x_br dX8_likely_4 (x_if (x_go 5 (x_so 7 [vr 0 0, vr 30 j1, vi x2, vi x3, vi (sv 53 (Int.toNat x2)), UU, UU, UU, UU, UU] dX8_likely_5 rfl (x_st 8 dX8_likely_7 rfl (x_st 11 dX8_likely_8 rfl (x_st 13 dX8_likely_11 rfl (x_st 14 dX8_likely_13 rfl (x_ci 17 [vr 0 0, vr 30 j1, vi x2, vi x3, vi (sv 53 (Int.toNat x2)), UU, UU, UU, UU, UU] [] dX8_likely_14 rfl (fun r1 s1 => x_so 19 [vr 0 0, vr 30 j1, vi x2, vi x3, vi (sv 53 (Int.toNat x2)), vi r1, UU, UU, UU, UU] dX8_likely_17 rfl (x_st 20 dX8_likely_19 rfl (x_so 22 [vr 0 0, vr 30 j1, vi x2, vi x3, vi (sv 53 (Int.toNat x2)), vi r1, vi 0, UU, UU, UU] dX8_likely_20 rfl (x_st 23 dX8_likely_22 rfl (x_so 25 [vr 0 0, vr 30 j1, vi x2, vi x3, vi (sv 53 (Int.toNat x2)), vi r1, vi 0, vi 0, UU, UU] dX8_likely_23 rfl (x_st 26 dX8_likely_25 rfl (x_so 28 [vr 0 0, vr 30 j1, vi x2, vi x3, vi (sv 53 (Int.toNat x2)), vi r1, vi 0, vi 0, vi (-1), UU] dX8_likely_26 rfl (x_st 29 dX8_likely_28 rfl (x_so 31 [vr 0 0, vr 30 j1, vi x2, vi x3, vi (sv 53 (Int.toNat x2)), vi r1, vi 0, vi 0, vi (-1), vi 0] dX8_likely_29 rfl (rfl))))))))))))))))) x_no))))
theorem qX8_likely_31 (d : Nat) (j1 : Nat) (x2 : Int) (x3 : Int) (x4 : Int) (x5 : Int) (x6 : Int) (x7 : Int) (x8 : Int) (x9 : Int) (s : Sg) : EV (d + 1) mX8_likely (31, [vr 0 0, vr 30 j1, vi x2, vi x3, vi x4, vi x5, vi x6, vi x7, vi x8, vi x9], [], s) = if inb x4 6 then (if (sv 52 (Int.toNat x4)) < x9 then (bI (RUN d mX1_put [vr 1 0, vi x4, vi x3, vi x5] s) (fun r1 s1 => if x2 = 6 then (some (some (vi x8), s1)) else (if x2 = 5 then (some (some (vi x7), s1)) else (some (some (vi x6), s1))))) else (bI (RUN d mX1_put [vr 1 0, vi x4, vi x3, vi x9] s) (fun r2 s2 => bV (RUN d mX7_spread [vr 13 0] s2) (fun s3 => bI (RUN d mX7_playAll [vr 13 0] s3) (fun r4 s4 => bI (RUN d mX7_otherwise [vr 13 0, vr 30 j1] s4) (fun r5 s5 => if r5 = 0 then (if x7 = 0 then (EV (d + 1) mX8_likely (102, [vr 0 0, vr 30 j1, vi x2, vi x3, vi x4, vi x5, vi (wor x6 (wshl 1 x9)), vi x7, vi x8, vi x9], [vi x9], s5)) else (EV (d + 1) mX8_likely (102, [vr 0 0, vr 30 j1, vi x2, vi x3, vi x4, vi x5, vi (wor x6 (wshl 1 x9)), vi x7, vi x8, vi x9], [vi x8], s5))) else (EV (d + 1) mX8_likely (107, [vr 0 0, vr 30 j1, vi x2, vi x3, vi x4, vi x5, vi x6, vi x7, vi x8, vi x9], [], s5)))))))) else none := x_st 33 dX8_likely_31 rfl (x_st 36 dX8_likely_33 rfl (x_st 38 dX8_likely_36 rfl (x_br dX8_likely_38 (x_if (x_go 39 (x_br dX8_likely_39 (x_if (x_go 113 (x_st 114 dX8_likely_113 rfl (x_st 117 dX8_likely_114 rfl (x_st 119 dX8_likely_117 rfl (x_st 120 dX8_likely_119 rfl (x_st 122 dX8_likely_120 rfl (x_ci 125 [vr 0 0, vr 30 j1, vi x2, vi x3, vi x4, vi x5, vi x6, vi x7, vi x8, vi x9] [] dX8_likely_122 rfl (fun r1 s1 => x_st 126 dX8_likely_125 rfl (x_st 127 dX8_likely_126 rfl (x_st 129 dX8_likely_127 rfl (x_br dX8_likely_129 (x_if (x_go 132 (x_st 134 dX8_likely_132 rfl (x_ret dX8_likely_134 rfl))) (x_go 135 (x_st 136 dX8_likely_135 rfl (x_st 137 dX8_likely_136 rfl (x_br dX8_likely_137 (x_if (x_go 140 (x_st 142 dX8_likely_140 rfl (x_st 147 dX8_likely_142 rfl (x_ret dX8_likely_147 rfl)))) (x_go 145 (x_st 147 dX8_likely_145 rfl (x_ret dX8_likely_147 rfl)))))))))))))))))))) (x_go 42 (x_st 43 dX8_likely_42 rfl (x_st 46 dX8_likely_43 rfl (x_st 48 dX8_likely_46 rfl (x_st 49 dX8_likely_48 rfl (x_st 51 dX8_likely_49 rfl (x_ci 54 [vr 0 0, vr 30 j1, vi x2, vi x3, vi x4, vi x5, vi x6, vi x7, vi x8, vi x9] [] dX8_likely_51 rfl (fun r2 s2 => x_st 55 dX8_likely_54 rfl (x_st 56 dX8_likely_55 rfl (x_st 59 dX8_likely_56 rfl (x_cv 62 [vr 0 0, vr 30 j1, vi x2, vi x3, vi x4, vi x5, vi x6, vi x7, vi x8, vi x9] [] dX8_likely_59 rfl (fun s3 => x_st 63 dX8_likely_62 rfl (x_st 66 dX8_likely_63 rfl (x_ci 69 [vr 0 0, vr 30 j1, vi x2, vi x3, vi x4, vi x5, vi x6, vi x7, vi x8, vi x9] [] dX8_likely_66 rfl (fun r4 s4 => x_st 70 dX8_likely_69 rfl (x_st 71 dX8_likely_70 rfl (x_st 74 dX8_likely_71 rfl (x_st 75 dX8_likely_74 rfl (x_ci 78 [vr 0 0, vr 30 j1, vi x2, vi x3, vi x4, vi x5, vi x6, vi x7, vi x8, vi x9] [] dX8_likely_75 rfl (fun r5 s5 => x_br dX8_likely_78 (x_if (x_go 81 (x_st 83 dX8_likely_81 rfl (x_st 84 dX8_likely_83 rfl (x_st 86 dX8_likely_84 rfl (x_st 87 dX8_likely_86 rfl (x_st 88 dX8_likely_87 rfl (x_so 90 [vr 0 0, vr 30 j1, vi x2, vi x3, vi x4, vi x5, vi (wor x6 (wshl 1 x9)), vi x7, vi x8, vi x9] dX8_likely_88 rfl (x_st 92 dX8_likely_90 rfl (x_br dX8_likely_92 (x_if (x_go 95 (x_st 97 dX8_likely_95 rfl (x_st 102 dX8_likely_97 rfl (rfl)))) (x_go 100 (x_st 102 dX8_likely_100 rfl (rfl))))))))))))) (x_go 107 (rfl)))))))))))))))))))))))))) x_no))))
theorem qX8_likely_102 (d : Nat) (j1 : Nat) (x2 : Int) (x3 : Int) (x4 : Int) (x5 : Int) (x6 : Int) (x7 : Int) (z8 : PV) (x9 : Int) (y0 : Int) (s : Sg) : EV d mX8_likely (102, [vr 0 0, vr 30 j1, vi x2, vi x3, vi x4, vi x5, vi x6, vi x7, z8, vi x9], [vi y0], s) = EV d mX8_likely (107, [vr 0 0, vr 30 j1, vi x2, vi x3, vi x4, vi x5, vi x6, vi (w32 (x7 + 1)), vi y0, vi x9], [], s) := x_so 104 [vr 0 0, vr 30 j1, vi x2, vi x3, vi x4, vi x5, vi x6, vi x7, vi y0, vi x9] dX8_likely_102 rfl (x_so 107 [vr 0 0, vr 30 j1, vi x2, vi x3, vi x4, vi x5, vi x6, vi (w32 (x7 + 1)), vi y0, vi x9] dX8_likely_104 rfl (rfl))
theorem qX8_likely_107 (d : Nat) (j1 : Nat) (x2 : Int) (x3 : Int) (x4 : Int) (x5 : Int) (x6 : Int) (x7 : Int) (x8 : Int) (x9 : Int) (s : Sg) : EV d mX8_likely (107, [vr 0 0, vr 30 j1, vi x2, vi x3, vi x4, vi x5, vi x6, vi x7, vi x8, vi x9], [], s) = EV d mX8_likely (31, [vr 0 0, vr 30 j1, vi x2, vi x3, vi x4, vi x5, vi x6, vi x7, vi x8, vi (w32 (x9 + 1))], [], s) := x_so 110 [vr 0 0, vr 30 j1, vi x2, vi x3, vi x4, vi x5, vi x6, vi x7, vi x8, vi (w32 (x9 + 1))] dX8_likely_107 rfl (x_st 31 dX8_likely_110 rfl (rfl))
theorem dX9_spell_0 : decode cX9_spell 0 = .ok (.aload_n 0, 1) := by decide +kernel
theorem dX9_spell_1 : decode cX9_spell 1 = .ok (.getfield 13, 3) := by decide +kernel
theorem dX9_spell_4 : decode cX9_spell 4 = .ok (.iload_n 1, 1) := by decide +kernel
theorem dX9_spell_5 : decode cX9_spell 5 = .ok (.iload_n 2, 1) := by decide +kernel
theorem dX9_spell_6 : decode cX9_spell 6 = .ok (.iastore, 1) := by decide +kernel
theorem dX9_spell_7 : decode cX9_spell 7 = .ok (.aload_n 0, 1) := by decide +kernel
theorem dX9_spell_8 : decode cX9_spell 8 = .ok (.getfield 13, 3) := by decide +kernel
theorem dX9_spell_11 : decode cX9_spell 11 = .ok (.iload_n 1, 1) := by decide +kernel
theorem dX9_spell_12 : decode cX9_spell 12 = .ok (.iconst 1, 1) := by decide +kernel
theorem dX9_spell_13 : decode cX9_spell 13 = .ok (.iadd, 1) := by decide +kernel
theorem dX9_spell_14 : decode cX9_spell 14 = .ok (.iload_n 3, 1) := by decide +kernel
theorem dX9_spell_15 : decode cX9_spell 15 = .ok (.iastore, 1) := by decide +kernel
theorem dX9_spell_16 : decode cX9_spell 16 = .ok (.aload_n 0, 1) := by decide +kernel
theorem dX9_spell_17 : decode cX9_spell 17 = .ok (.getfield 13, 3) := by decide +kernel
theorem dX9_spell_20 : decode cX9_spell 20 = .ok (.iload_n 1, 1) := by decide +kernel
theorem dX9_spell_21 : decode cX9_spell 21 = .ok (.iconst 2, 1) := by decide +kernel
theorem dX9_spell_22 : decode cX9_spell 22 = .ok (.iadd, 1) := by decide +kernel
theorem dX9_spell_23 : decode cX9_spell 23 = .ok (.iload 4, 2) := by decide +kernel
theorem dX9_spell_25 : decode cX9_spell 25 = .ok (.iastore, 1) := by decide +kernel
theorem dX9_spell_26 : decode cX9_spell 26 = .ok (.aload_n 0, 1) := by decide +kernel
theorem dX9_spell_27 : decode cX9_spell 27 = .ok (.getfield 13, 3) := by decide +kernel
theorem dX9_spell_30 : decode cX9_spell 30 = .ok (.iload_n 1, 1) := by decide +kernel
theorem dX9_spell_31 : decode cX9_spell 31 = .ok (.iconst 3, 1) := by decide +kernel
theorem dX9_spell_32 : decode cX9_spell 32 = .ok (.iadd, 1) := by decide +kernel
theorem dX9_spell_33 : decode cX9_spell 33 = .ok (.iload 5, 2) := by decide +kernel
theorem dX9_spell_35 : decode cX9_spell 35 = .ok (.iastore, 1) := by decide +kernel
theorem dX9_spell_36 : decode cX9_spell 36 = .ok (.aload_n 0, 1) := by decide +kernel
theorem dX9_spell_37 : decode cX9_spell 37 = .ok (.getfield 13, 3) := by decide +kernel
theorem dX9_spell_40 : decode cX9_spell 40 = .ok (.iload_n 1, 1) := by decide +kernel
theorem dX9_spell_41 : decode cX9_spell 41 = .ok (.iconst 4, 1) := by decide +kernel
theorem dX9_spell_42 : decode cX9_spell 42 = .ok (.iadd, 1) := by decide +kernel
theorem dX9_spell_43 : decode cX9_spell 43 = .ok (.iload 6, 2) := by decide +kernel
theorem dX9_spell_45 : decode cX9_spell 45 = .ok (.iastore, 1) := by decide +kernel
theorem dX9_spell_46 : decode cX9_spell 46 = .ok (.aload_n 0, 1) := by decide +kernel
theorem dX9_spell_47 : decode cX9_spell 47 = .ok (.getfield 13, 3) := by decide +kernel
theorem dX9_spell_50 : decode cX9_spell 50 = .ok (.iload_n 1, 1) := by decide +kernel
theorem dX9_spell_51 : decode cX9_spell 51 = .ok (.iconst 5, 1) := by decide +kernel
theorem dX9_spell_52 : decode cX9_spell 52 = .ok (.iadd, 1) := by decide +kernel
theorem dX9_spell_53 : decode cX9_spell 53 = .ok (.iload 7, 2) := by decide +kernel
theorem dX9_spell_55 : decode cX9_spell 55 = .ok (.iastore, 1) := by decide +kernel
theorem dX9_spell_56 : decode cX9_spell 56 = .ok (.aload_n 0, 1) := by decide +kernel
theorem dX9_spell_57 : decode cX9_spell 57 = .ok (.getfield 13, 3) := by decide +kernel
theorem dX9_spell_60 : decode cX9_spell 60 = .ok (.iload_n 1, 1) := by decide +kernel
theorem dX9_spell_61 : decode cX9_spell 61 = .ok (.bipush 6, 2) := by decide +kernel
theorem dX9_spell_63 : decode cX9_spell 63 = .ok (.iadd, 1) := by decide +kernel
theorem dX9_spell_64 : decode cX9_spell 64 = .ok (.iload 8, 2) := by decide +kernel
theorem dX9_spell_66 : decode cX9_spell 66 = .ok (.iastore, 1) := by decide +kernel
theorem dX9_spell_67 : decode cX9_spell 67 = .ok (.aload_n 0, 1) := by decide +kernel
theorem dX9_spell_68 : decode cX9_spell 68 = .ok (.getfield 13, 3) := by decide +kernel
theorem dX9_spell_71 : decode cX9_spell 71 = .ok (.iload_n 1, 1) := by decide +kernel
theorem dX9_spell_72 : decode cX9_spell 72 = .ok (.bipush 7, 2) := by decide +kernel
theorem dX9_spell_74 : decode cX9_spell 74 = .ok (.iadd, 1) := by decide +kernel
theorem dX9_spell_75 : decode cX9_spell 75 = .ok (.iload 9, 2) := by decide +kernel
theorem dX9_spell_77 : decode cX9_spell 77 = .ok (.iastore, 1) := by decide +kernel
theorem dX9_spell_78 : decode cX9_spell 78 = .ok (.return_, 1) := by decide +kernel
theorem qX9_spell (d : Nat) (x1 : Int) (x2 : Int) (x3 : Int) (x4 : Int) (x5 : Int) (x6 : Int) (x7 : Int) (x8 : Int) (x9 : Int) (s : Sg) : RUN d mX9_spell [vr 32 0, vi x1, vi x2, vi x3, vi x4, vi x5, vi x6, vi x7, vi x8, vi x9] s = if inb x1 960 then (if inb (w32 (x1 + 1)) 960 then (if inb (w32 (x1 + 2)) 960 then (if inb (w32 (x1 + 3)) 960 then (if inb (w32 (x1 + 4)) 960 then (if inb (w32 (x1 + 5)) 960 then (if inb (w32 (x1 + 6)) 960 then (if inb (w32 (x1 + 7)) 960 then (some (none, (up (up (up (up (up (up (up (up s 33 0 (Int.toNat x1) x2) 33 0 (Int.toNat (w32 (x1 + 1))) x3) 33 0 (Int.toNat (w32 (x1 + 2))) x4) 33 0 (Int.toNat (w32 (x1 + 3))) x5) 33 0 (Int.toNat (w32 (x1 + 4))) x6) 33 0 (Int.toNat (w32 (x1 + 5))) x7) 33 0 (Int.toNat (w32 (x1 + 6))) x8) 33 0 (Int.toNat (w32 (x1 + 7))) x9))) else none) else none) else none) else none) else none) else none) else none) else none := x_run rfl (x_st 1 dX9_spell_0 rfl (x_st 4 dX9_spell_1 rfl (x_st 5 dX9_spell_4 rfl (x_st 6 dX9_spell_5 rfl (x_br dX9_spell_6 (x_if (x_go 7 (x_st 8 dX9_spell_7 rfl (x_st 11 dX9_spell_8 rfl (x_st 12 dX9_spell_11 rfl (x_st 13 dX9_spell_12 rfl (x_st 14 dX9_spell_13 rfl (x_st 15 dX9_spell_14 rfl (x_br dX9_spell_15 (x_if (x_go 16 (x_st 17 dX9_spell_16 rfl (x_st 20 dX9_spell_17 rfl (x_st 21 dX9_spell_20 rfl (x_st 22 dX9_spell_21 rfl (x_st 23 dX9_spell_22 rfl (x_st 25 dX9_spell_23 rfl (x_br dX9_spell_25 (x_if (x_go 26 (x_st 27 dX9_spell_26 rfl (x_st 30 dX9_spell_27 rfl (x_st 31 dX9_spell_30 rfl (x_st 32 dX9_spell_31 rfl (x_st 33 dX9_spell_32 rfl (x_st 35 dX9_spell_33 rfl (x_br dX9_spell_35 (x_if (x_go 36 (x_st 37 dX9_spell_36 rfl (x_st 40 dX9_spell_37 rfl (x_st 41 dX9_spell_40 rfl (x_st 42 dX9_spell_41 rfl (x_st 43 dX9_spell_42 rfl (x_st 45 dX9_spell_43 rfl (x_br dX9_spell_45 (x_if (x_go 46 (x_st 47 dX9_spell_46 rfl (x_st 50 dX9_spell_47 rfl (x_st 51 dX9_spell_50 rfl (x_st 52 dX9_spell_51 rfl (x_st 53 dX9_spell_52 rfl (x_st 55 dX9_spell_53 rfl (x_br dX9_spell_55 (x_if (x_go 56 (x_st 57 dX9_spell_56 rfl (x_st 60 dX9_spell_57 rfl (x_st 61 dX9_spell_60 rfl (x_st 63 dX9_spell_61 rfl (x_st 64 dX9_spell_63 rfl (x_st 66 dX9_spell_64 rfl (x_br dX9_spell_66 (x_if (x_go 67 (x_st 68 dX9_spell_67 rfl (x_st 71 dX9_spell_68 rfl (x_st 72 dX9_spell_71 rfl (x_st 74 dX9_spell_72 rfl (x_st 75 dX9_spell_74 rfl (x_st 77 dX9_spell_75 rfl (x_br dX9_spell_77 (x_if (x_go 78 (x_ret dX9_spell_78 rfl)) x_no))))))))) x_no))))))))) x_no))))))))) x_no))))))))) x_no))))))))) x_no))))))))) x_no))))))))) x_no))))))
theorem dX9_set_0 : decode cX9_set 0 = .ok (.iload_n 1, 1) := by decide +kernel
theorem dX9_set_1 : decode cX9_set 1 = .ok (.i2l, 1) := by decide +kernel
theorem dX9_set_2 : decode cX9_set 2 = .ok (.lconst 0, 1) := by decide +kernel
theorem dX9_set_3 : decode cX9_set 3 = .ok (.ldc2_w 89, 3) := by decide +kernel
theorem dX9_set_6 : decode cX9_set 6 = .ok (.invokestatic 85, 3) := by decide +kernel
theorem dX9_set_9 : decode cX9_set 9 = .ok (.ifCond .eq 25, 3) := by decide +kernel
theorem dX9_set_12 : decode cX9_set 12 = .ok (.aload_n 0, 1) := by decide +kernel
theorem dX9_set_13 : decode cX9_set 13 = .ok (.iload_n 2, 1) := by decide +kernel
theorem dX9_set_14 : decode cX9_set 14 = .ok (.invokevirtual 91, 3) := by decide +kernel
theorem dX9_set_17 : decode cX9_set 17 = .ok (.ifCond .eq 17, 3) := by decide +kernel
theorem dX9_set_20 : decode cX9_set 20 = .ok (.iload_n 3, 1) := by decide +kernel
theorem dX9_set_21 : decode cX9_set 21 = .ok (.i2l, 1) := by decide +kernel
theorem dX9_set_22 : decode cX9_set 22 = .ok (.lconst 0, 1) := by decide +kernel
theorem dX9_set_23 : decode cX9_set 23 = .ok (.iload_n 1, 1) := by decide +kernel
theorem dX9_set_24 : decode cX9_set 24 = .ok (.invokestatic 95, 3) := by decide +kernel
theorem dX9_set_27 : decode cX9_set 27 = .ok (.i2l, 1) := by decide +kernel
theorem dX9_set_28 : decode cX9_set 28 = .ok (.invokestatic 85, 3) := by decide +kernel
theorem dX9_set_31 : decode cX9_set 31 = .ok (.ifCond .ne 6, 3) := by decide +kernel
theorem dX9_set_34 : decode cX9_set 34 = .ok (.bipush (-2), 2) := by decide +kernel
theorem dX9_set_36 : decode cX9_set 36 = .ok (.ireturn, 1) := by decide +kernel
theorem dX9_set_37 : decode cX9_set 37 = .ok (.aload_n 0, 1) := by decide +kernel
theorem dX9_set_38 : decode cX9_set 38 = .ok (.getfield 26, 3) := by decide +kernel
theorem dX9_set_41 : decode cX9_set 41 = .ok (.iconst 5, 1) := by decide +kernel
theorem dX9_set_42 : decode cX9_set 42 = .ok (.iload_n 2, 1) := by decide +kernel
theorem dX9_set_43 : decode cX9_set 43 = .ok (.imul, 1) := by decide +kernel
theorem dX9_set_44 : decode cX9_set 44 = .ok (.iload_n 1, 1) := by decide +kernel
theorem dX9_set_45 : decode cX9_set 45 = .ok (.iadd, 1) := by decide +kernel
theorem dX9_set_46 : decode cX9_set 46 = .ok (.iaload, 1) := by decide +kernel
theorem dX9_set_47 : decode cX9_set 47 = .ok (.istore 4, 2) := by decide +kernel
theorem dX9_set_49 : decode cX9_set 49 = .ok (.aload_n 0, 1) := by decide +kernel
theorem dX9_set_50 : decode cX9_set 50 = .ok (.getfield 26, 3) := by decide +kernel
theorem dX9_set_53 : decode cX9_set 53 = .ok (.iconst 5, 1) := by decide +kernel
theorem dX9_set_54 : decode cX9_set 54 = .ok (.iload_n 2, 1) := by decide +kernel
theorem dX9_set_55 : decode cX9_set 55 = .ok (.imul, 1) := by decide +kernel
theorem dX9_set_56 : decode cX9_set 56 = .ok (.iload_n 1, 1) := by decide +kernel
theorem dX9_set_57 : decode cX9_set 57 = .ok (.iadd, 1) := by decide +kernel
theorem dX9_set_58 : decode cX9_set 58 = .ok (.iload_n 3, 1) := by decide +kernel
theorem dX9_set_59 : decode cX9_set 59 = .ok (.iastore, 1) := by decide +kernel
theorem dX9_set_60 : decode cX9_set 60 = .ok (.iload 4, 2) := by decide +kernel
theorem dX9_set_62 : decode cX9_set 62 = .ok (.ireturn, 1) := by decide +kernel
theorem qX9_set (d : Nat) (x1 : Int) (x2 : Int) (x3 : Int) (s : Sg) : RUN (d + 1) mX9_set [vr 32 0, vi x1, vi x2, vi x3] s = bI (RUN d mX9_in [vl x1, vl 0, vl 4] s) (fun r1 s1 => if r1 = 0 then (some (some (vi (-2)), s1)) else (bI (RUN d mX9_isCar [vr 32 0, vi x2] s1) (fun r2 s2 => if r2 = 0 then (some (some (vi (-2)), s2)) else (bI (RUN d mX9_mostOf [vi x1] s2) (fun r3 s3 => bI (RUN d mX9_in [vl x3, vl 0, vl r3] s3) (fun r4 s4 => if r4 = 0 then (some (some (vi (-2)), s4)) else (if inb (w32 ((w32 (5 * x2)) + x1)) 30 then (if inb (w32 ((w32 (5 * x2)) + x1)) 30 then (some (some (vi (s4 37 0 (Int.toNat (w32 ((w32 (5 * x2)) + x1))))), (up s4 37 0 (Int.toNat (w32 ((w32 (5 * x2)) + x1))) x3))) else none) else none))))))) := x_run rfl (x_st 1 dX9_set_0 rfl (x_st 2 dX9_set_1 rfl (x_st 3 dX9_set_2 rfl (x_st 6 dX9_set_3 rfl (x_ci 9 [vr 32 0, vi x1, vi x2, vi x3, UU] [] dX9_set_6 rfl (fun r1 s1 => x_br dX9_set_9 (x_if (x_go 34 (x_st 36 dX9_set_34 rfl (x_ret dX9_set_36 rfl))) (x_go 12 (x_st 13 dX9_set_12 rfl (x_st 14 dX9_set_13 rfl (x_ci 17 [vr 32 0, vi x1, vi x2, vi x3, UU] [] dX9_set_14 rfl (fun r2 s2 => x_br dX9_set_17 (x_if (x_go 34 (x_st 36 dX9_set_34 rfl (x_ret dX9_set_36 rfl))) (x_go 20 (x_st 21 dX9_set_20 rfl (x_st 22 dX9_set_21 rfl (x_st 23 dX9_set_22 rfl (x_st 24 dX9_set_23 rfl (x_ci 27 [vr 32 0, vi x1, vi x2, vi x3, UU] [vl 0, vl x3] dX9_set_24 rfl (fun r3 s3 => x_st 28 dX9_set_27 rfl (x_ci 31 [vr 32 0, vi x1, vi x2, vi x3, UU] [] dX9_set_28 rfl (fun r4 s4 => x_br dX9_set_31 (x_if (x_go 34 (x_st 36 dX9_set_34 rfl (x_ret dX9_set_36 rfl))) (x_go 37 (x_st 38 dX9_set_37 rfl (x_st 41 dX9_set_38 rfl (x_st 42 dX9_set_41 rfl (x_st 43 dX9_set_42 rfl (x_st 44 dX9_set_43 rfl (x_st 45 dX9_set_44 rfl (x_st 46 dX9_set_45 rfl (x_br dX9_set_46 (x_if (x_go 47 (x_so 49 [vr 32 0, vi x1, vi x2, vi x3, vi (s4 37 0 (Int.toNat (w32 ((w32 (5 * x2)) + x1))))] dX9_set_47 rfl (x_st 50 dX9_set_49 rfl (x_st 53 dX9_set_50 rfl (x_st 54 dX9_set_53 rfl (x_st 55 dX9_set_54 rfl (x_st 56 dX9_set_55 rfl (x_st 57 dX9_set_56 rfl (x_st 58 dX9_set_57 rfl (x_st 59 dX9_set_58 rfl (x_br dX9_set_59 (x_if (x_go 60 (x_st 62 dX9_set_60 rfl (x_ret dX9_set_62 rfl))) x_no)))))))))))) x_no)))))))))))))))))))))))))))))))))
theorem dX9_car_0 : decode cX9_car 0 = .ok (.iload_n 1, 1) := by decide +kernel
theorem dX9_car_1 : decode cX9_car 1 = .ok (.i2l, 1) := by decide +kernel
theorem dX9_car_2 : decode cX9_car 2 = .ok (.lconst 0, 1) := by decide +kernel
theorem dX9_car_3 : decode cX9_car 3 = .ok (.ldc2_w 102, 3) := by decide +kernel
theorem dX9_car_6 : decode cX9_car 6 = .ok (.invokestatic 85, 3) := by decide +kernel
theorem dX9_car_9 : decode cX9_car 9 = .ok (.ifCond .eq 27, 3) := by decide +kernel
theorem dX9_car_12 : decode cX9_car 12 = .ok (.iload_n 2, 1) := by decide +kernel
theorem dX9_car_13 : decode cX9_car 13 = .ok (.i2l, 1) := by decide +kernel
theorem dX9_car_14 : decode cX9_car 14 = .ok (.lconst 0, 1) := by decide +kernel
theorem dX9_car_15 : decode cX9_car 15 = .ok (.ldc2_w 104, 3) := by decide +kernel
theorem dX9_car_18 : decode cX9_car 18 = .ok (.invokestatic 85, 3) := by decide +kernel
theorem dX9_car_21 : decode cX9_car 21 = .ok (.ifCond .eq 15, 3) := by decide +kernel
theorem dX9_car_24 : decode cX9_car 24 = .ok (.iload_n 3, 1) := by decide +kernel
theorem dX9_car_25 : decode cX9_car 25 = .ok (.i2l, 1) := by decide +kernel
theorem dX9_car_26 : decode cX9_car 26 = .ok (.lconst 0, 1) := by decide +kernel
theorem dX9_car_27 : decode cX9_car 27 = .ok (.ldc2_w 106, 3) := by decide +kernel
theorem dX9_car_30 : decode cX9_car 30 = .ok (.invokestatic 85, 3) := by decide +kernel
theorem dX9_car_33 : decode cX9_car 33 = .ok (.ifCond .ne 6, 3) := by decide +kernel
theorem dX9_car_36 : decode cX9_car 36 = .ok (.bipush (-2), 2) := by decide +kernel
theorem dX9_car_38 : decode cX9_car 38 = .ok (.ireturn, 1) := by decide +kernel
theorem dX9_car_39 : decode cX9_car 39 = .ok (.aload_n 0, 1) := by decide +kernel
theorem dX9_car_40 : decode cX9_car 40 = .ok (.getfield 82, 3) := by decide +kernel
theorem dX9_car_43 : decode cX9_car 43 = .ok (.bipush 6, 2) := by decide +kernel
theorem dX9_car_45 : decode cX9_car 45 = .ok (.if_icmp .ne 6, 3) := by decide +kernel
theorem dX9_car_48 : decode cX9_car 48 = .ok (.bipush (-4), 2) := by decide +kernel
theorem dX9_car_50 : decode cX9_car 50 = .ok (.ireturn, 1) := by decide +kernel
theorem dX9_car_51 : decode cX9_car 51 = .ok (.aload_n 0, 1) := by decide +kernel
theorem dX9_car_52 : decode cX9_car 52 = .ok (.getfield 23, 3) := by decide +kernel
theorem dX9_car_55 : decode cX9_car 55 = .ok (.aload_n 0, 1) := by decide +kernel
theorem dX9_car_56 : decode cX9_car 56 = .ok (.getfield 82, 3) := by decide +kernel
theorem dX9_car_59 : decode cX9_car 59 = .ok (.iload_n 1, 1) := by decide +kernel
theorem dX9_car_60 : decode cX9_car 60 = .ok (.iastore, 1) := by decide +kernel
theorem dX9_car_61 : decode cX9_car 61 = .ok (.iconst 0, 1) := by decide +kernel
theorem dX9_car_62 : decode cX9_car 62 = .ok (.istore 4, 2) := by decide +kernel
theorem dX9_car_64 : decode cX9_car 64 = .ok (.iload 4, 2) := by decide +kernel
theorem dX9_car_66 : decode cX9_car 66 = .ok (.iconst 5, 1) := by decide +kernel
theorem dX9_car_67 : decode cX9_car 67 = .ok (.if_icmp .ge 43, 3) := by decide +kernel
theorem dX9_car_70 : decode cX9_car 70 = .ok (.aload_n 0, 1) := by decide +kernel
theorem dX9_car_71 : decode cX9_car 71 = .ok (.getfield 26, 3) := by decide +kernel
theorem dX9_car_74 : decode cX9_car 74 = .ok (.iconst 5, 1) := by decide +kernel
theorem dX9_car_75 : decode cX9_car 75 = .ok (.aload_n 0, 1) := by decide +kernel
theorem dX9_car_76 : decode cX9_car 76 = .ok (.getfield 82, 3) := by decide +kernel
theorem dX9_car_79 : decode cX9_car 79 = .ok (.imul, 1) := by decide +kernel
theorem dX9_car_80 : decode cX9_car 80 = .ok (.iload 4, 2) := by decide +kernel
theorem dX9_car_82 : decode cX9_car 82 = .ok (.iadd, 1) := by decide +kernel
theorem dX9_car_83 : decode cX9_car 83 = .ok (.iload 4, 2) := by decide +kernel
theorem dX9_car_85 : decode cX9_car 85 = .ok (.ifCond .ne 7, 3) := by decide +kernel
theorem dX9_car_88 : decode cX9_car 88 = .ok (.iload_n 2, 1) := by decide +kernel
theorem dX9_car_89 : decode cX9_car 89 = .ok (.goto 14, 3) := by decide +kernel
theorem dX9_car_92 : decode cX9_car 92 = .ok (.iload 4, 2) := by decide +kernel
theorem dX9_car_94 : decode cX9_car 94 = .ok (.iconst 2, 1) := by decide +kernel
theorem dX9_car_95 : decode cX9_car 95 = .ok (.if_icmp .ne 7, 3) := by decide +kernel
theorem dX9_car_98 : decode cX9_car 98 = .ok (.iload_n 3, 1) := by decide +kernel
theorem dX9_car_99 : decode cX9_car 99 = .ok (.goto 4, 3) := by decide +kernel
theorem dX9_car_102 : decode cX9_car 102 = .ok (.iconst 0, 1) := by decide +kernel
theorem dX9_car_103 : decode cX9_car 103 = .ok (.iastore, 1) := by decide +kernel
theorem dX9_car_104 : decode cX9_car 104 = .ok (.iinc 4 1, 3) := by decide +kernel
theorem dX9_car_107 : decode cX9_car 107 = .ok (.goto (-43), 3) := by decide +kernel
theorem dX9_car_110 : decode cX9_car 110 = .ok (.aload_n 0, 1) := by decide +kernel
theorem dX9_car_111 : decode cX9_car 111 = .ok (.dup, 1) := by decide +kernel
theorem dX9_car_112 : decode cX9_car 112 = .ok (.getfield 82, 3) := by decide +kernel
theorem dX9_car_115 : decode cX9_car 115 = .ok (.iconst 1, 1) := by decide +kernel
theorem dX9_car_116 : decode cX9_car 116 = .ok (.iadd, 1) := by decide +kernel
theorem dX9_car_117 : decode cX9_car 117 = .ok (.putfield 82, 3) := by decide +kernel
theorem dX9_car_120 : decode cX9_car 120 = .ok (.aload_n 0, 1) := by decide +kernel
theorem dX9_car_121 : decode cX9_car 121 = .ok (.getfield 82, 3) := by decide +kernel
theorem dX9_car_124 : decode cX9_car 124 = .ok (.iconst 1, 1) := by decide +kernel
theorem dX9_car_125 : decode cX9_car 125 = .ok (.isub, 1) := by decide +kernel
theorem dX9_car_126 : decode cX9_car 126 = .ok (.ireturn, 1) := by decide +kernel
theorem qX9_car (d : Nat) (x1 : Int) (x2 : Int) (x3 : Int) (s : Sg) : RUN (d + 1) mX9_car [vr 32 0, vi x1, vi x2, vi x3] s = bI (RUN d mX9_in [vl x1, vl 0, vl 5] s) (fun r1 s1 => if r1 = 0 then (some (some (vi (-2)), s1)) else (bI (RUN d mX9_in [vl x2, vl 0, vl 9] s1) (fun r2 s2 => if r2 = 0 then (some (some (vi (-2)), s2)) else (bI (RUN d mX9_in [vl x3, vl 0, vl 3] s2) (fun r3 s3 => if r3 = 0 then (some (some (vi (-2)), s3)) else (if (s3 32 0 9) = 6 then (some (some (vi (-4)), s3)) else (if inb (s3 32 0 9) 6 then (EV (d + 1) mX9_car (64, [vr 32 0, vi x1, vi x2, vi x3, vi 0], [], (up s3 36 0 (Int.toNat (s3 32 0 9)) x1))) else none))))))) := x_run rfl (x_st 1 dX9_car_0 rfl (x_st 2 dX9_car_1 rfl (x_st 3 dX9_car_2 rfl (x_st 6 dX9_car_3 rfl (x_ci 9 [vr 32 0, vi x1, vi x2, vi x3, UU] [] dX9_car_6 rfl (fun r1 s1 => x_br dX9_car_9 (x_if (x_go 36 (x_st 38 dX9_car_36 rfl (x_ret dX9_car_38 rfl))) (x_go 12 (x_st 13 dX9_car_12 rfl (x_st 14 dX9_car_13 rfl (x_st 15 dX9_car_14 rfl (x_st 18 dX9_car_15 rfl (x_ci 21 [vr 32 0, vi x1, vi x2, vi x3, UU] [] dX9_car_18 rfl (fun r2 s2 => x_br dX9_car_21 (x_if (x_go 36 (x_st 38 dX9_car_36 rfl (x_ret dX9_car_38 rfl))) (x_go 24 (x_st 25 dX9_car_24 rfl (x_st 26 dX9_car_25 rfl (x_st 27 dX9_car_26 rfl (x_st 30 dX9_car_27 rfl (x_ci 33 [vr 32 0, vi x1, vi x2, vi x3, UU] [] dX9_car_30 rfl (fun r3 s3 => x_br dX9_car_33 (x_if (x_go 36 (x_st 38 dX9_car_36 rfl (x_ret dX9_car_38 rfl))) (x_go 39 (x_st 40 dX9_car_39 rfl (x_st 43 dX9_car_40 rfl (x_st 45 dX9_car_43 rfl (x_br dX9_car_45 (x_if (x_go 48 (x_st 50 dX9_car_48 rfl (x_ret dX9_car_50 rfl))) (x_go 51 (x_st 52 dX9_car_51 rfl (x_st 55 dX9_car_52 rfl (x_st 56 dX9_car_55 rfl (x_st 59 dX9_car_56 rfl (x_st 60 dX9_car_59 rfl (x_br dX9_car_60 (x_if (x_go 61 (x_st 62 dX9_car_61 rfl (x_so 64 [vr 32 0, vi x1, vi x2, vi x3, vi 0] dX9_car_62 rfl (rfl)))) x_no)))))))))))))))))))))))))))))))))))))
theorem qX9_car_64 (d : Nat) (z1 : PV) (x2 : Int) (x3 : Int) (x4 : Int) (s : Sg) : EV d mX9_car (64, [vr 32 0, z1, vi x2, vi x3, vi x4], [], s) = if x4 < 5 then (if x4 = 0 then (EV d mX9_car (103, [vr 32 0, z1, vi x2, vi x3, vi x4], [vi x2, vi (w32 ((w32 (5 * (s 32 0 9))) + x4)), vr 37 0], s)) else (if x4 = 2 then (EV d mX9_car (103, [vr 32 0, z1, vi x2, vi x3, vi x4], [vi x3, vi (w32 ((w32 (5 * (s 32 0 9))) + x4)), vr 37 0], s)) else (EV d mX9_car (103, [vr 32 0, z1, vi x2, vi x3, vi x4], [vi 0, vi (w32 ((w32 (5 * (s 32 0 9))) + x4)), vr 37 0], s)))) else (some (some (vi (w32 ((w32 ((s 32 0 9) + 1)) - 1))), (up s 32 0 9 (w32 ((s 32 0 9) + 1))))) := x_st 66 dX9_car_64 rfl (x_st 67 dX9_car_66 rfl (x_br dX9_car_67 (x_if (x_go 70 (x_st 71 dX9_car_70 rfl (x_st 74 dX9_car_71 rfl (x_st 75 dX9_car_74 rfl (x_st 76 dX9_car_75 rfl (x_st 79 dX9_car_76 rfl (x_st 80 dX9_car_79 rfl (x_st 82 dX9_car_80 rfl (x_st 83 dX9_car_82 rfl (x_st 85 dX9_car_83 rfl (x_br dX9_car_85 (x_if (x_go 88 (x_st 89 dX9_car_88 rfl (x_st 103 dX9_car_89 rfl (rfl)))) (x_go 92 (x_st 94 dX9_car_92 rfl (x_st 95 dX9_car_94 rfl (x_br dX9_car_95 (x_if (x_go 98 (x_st 99 dX9_car_98 rfl (x_st 103 dX9_car_99 rfl (rfl)))) (x_go 102 (x_st 103 dX9_car_102 rfl (rfl)))))))))))))))))))) (x_go 110 (x_st 111 dX9_car_110 rfl (x_st 112 dX9_car_111 rfl (x_st 115 dX9_car_112 rfl (x_st 116 dX9_car_115 rfl (x_st 117 dX9_car_116 rfl (x_st 120 dX9_car_117 rfl (x_st 121 dX9_car_120 rfl (x_st 124 dX9_car_121 rfl (x_st 125 dX9_car_124 rfl (x_st 126 dX9_car_125 rfl (x_ret dX9_car_126 rfl)))))))))))))))
theorem qX9_car_103 (d : Nat) (z1 : PV) (x2 : Int) (x3 : Int) (x4 : Int) (y0 : Int) (y1 : Int) (s : Sg) : EV d mX9_car (103, [vr 32 0, z1, vi x2, vi x3, vi x4], [vi y0, vi y1, vr 37 0], s) = if inb y1 30 then (EV d mX9_car (64, [vr 32 0, z1, vi x2, vi x3, vi (w32 (x4 + 1))], [], (up s 37 0 (Int.toNat y1) y0))) else none := x_br dX9_car_103 (x_if (x_go 104 (x_so 107 [vr 32 0, z1, vi x2, vi x3, vi (w32 (x4 + 1))] dX9_car_104 rfl (x_st 64 dX9_car_107 rfl (rfl)))) x_no)
theorem dX9_told_0 : decode cX9_told 0 = .ok (.iload_n 2, 1) := by decide +kernel
theorem dX9_told_1 : decode cX9_told 1 = .ok (.i2l, 1) := by decide +kernel
theorem dX9_told_2 : decode cX9_told 2 = .ok (.lconst 0, 1) := by decide +kernel
theorem dX9_told_3 : decode cX9_told 3 = .ok (.ldc2_w 108, 3) := by decide +kernel
theorem dX9_told_6 : decode cX9_told 6 = .ok (.invokestatic 85, 3) := by decide +kernel
theorem dX9_told_9 : decode cX9_told 9 = .ok (.ifCond .eq 11, 3) := by decide +kernel
theorem dX9_told_12 : decode cX9_told 12 = .ok (.aload_n 0, 1) := by decide +kernel
theorem dX9_told_13 : decode cX9_told 13 = .ok (.iload_n 1, 1) := by decide +kernel
theorem dX9_told_14 : decode cX9_told 14 = .ok (.invokevirtual 91, 3) := by decide +kernel
theorem dX9_told_17 : decode cX9_told 17 = .ok (.ifCond .ne 6, 3) := by decide +kernel
theorem dX9_told_20 : decode cX9_told 20 = .ok (.bipush (-2), 2) := by decide +kernel
theorem dX9_told_22 : decode cX9_told 22 = .ok (.ireturn, 1) := by decide +kernel
theorem dX9_told_23 : decode cX9_told 23 = .ok (.iload_n 2, 1) := by decide +kernel
theorem dX9_told_24 : decode cX9_told 24 = .ok (.bipush 6, 2) := by decide +kernel
theorem dX9_told_26 : decode cX9_told 26 = .ok (.if_icmp .ge 28, 3) := by decide +kernel
theorem dX9_told_29 : decode cX9_told 29 = .ok (.iload_n 2, 1) := by decide +kernel
theorem dX9_told_30 : decode cX9_told 30 = .ok (.iconst 5, 1) := by decide +kernel
theorem dX9_told_31 : decode cX9_told 31 = .ok (.if_icmp .ge 16, 3) := by decide +kernel
theorem dX9_told_34 : decode cX9_told 34 = .ok (.aload_n 0, 1) := by decide +kernel
theorem dX9_told_35 : decode cX9_told 35 = .ok (.getfield 26, 3) := by decide +kernel
theorem dX9_told_38 : decode cX9_told 38 = .ok (.iconst 5, 1) := by decide +kernel
theorem dX9_told_39 : decode cX9_told 39 = .ok (.iload_n 1, 1) := by decide +kernel
theorem dX9_told_40 : decode cX9_told 40 = .ok (.imul, 1) := by decide +kernel
theorem dX9_told_41 : decode cX9_told 41 = .ok (.iload_n 2, 1) := by decide +kernel
theorem dX9_told_42 : decode cX9_told 42 = .ok (.iadd, 1) := by decide +kernel
theorem dX9_told_43 : decode cX9_told 43 = .ok (.iaload, 1) := by decide +kernel
theorem dX9_told_44 : decode cX9_told 44 = .ok (.goto 9, 3) := by decide +kernel
theorem dX9_told_47 : decode cX9_told 47 = .ok (.aload_n 0, 1) := by decide +kernel
theorem dX9_told_48 : decode cX9_told 48 = .ok (.getfield 23, 3) := by decide +kernel
theorem dX9_told_51 : decode cX9_told 51 = .ok (.iload_n 1, 1) := by decide +kernel
theorem dX9_told_52 : decode cX9_told 52 = .ok (.iaload, 1) := by decide +kernel
theorem dX9_told_53 : decode cX9_told 53 = .ok (.ireturn, 1) := by decide +kernel
theorem dX9_told_54 : decode cX9_told 54 = .ok (.aload_n 0, 1) := by decide +kernel
theorem dX9_told_55 : decode cX9_told 55 = .ok (.getfield 26, 3) := by decide +kernel
theorem dX9_told_58 : decode cX9_told 58 = .ok (.iconst 5, 1) := by decide +kernel
theorem dX9_told_59 : decode cX9_told 59 = .ok (.iload_n 1, 1) := by decide +kernel
theorem dX9_told_60 : decode cX9_told 60 = .ok (.imul, 1) := by decide +kernel
theorem dX9_told_61 : decode cX9_told 61 = .ok (.iconst 2, 1) := by decide +kernel
theorem dX9_told_62 : decode cX9_told 62 = .ok (.iadd, 1) := by decide +kernel
theorem dX9_told_63 : decode cX9_told 63 = .ok (.iaload, 1) := by decide +kernel
theorem dX9_told_64 : decode cX9_told 64 = .ok (.istore_n 3, 1) := by decide +kernel
theorem dX9_told_65 : decode cX9_told 65 = .ok (.aload_n 0, 1) := by decide +kernel
theorem dX9_told_66 : decode cX9_told 66 = .ok (.getfield 26, 3) := by decide +kernel
theorem dX9_told_69 : decode cX9_told 69 = .ok (.iconst 5, 1) := by decide +kernel
theorem dX9_told_70 : decode cX9_told 70 = .ok (.iload_n 1, 1) := by decide +kernel
theorem dX9_told_71 : decode cX9_told 71 = .ok (.imul, 1) := by decide +kernel
theorem dX9_told_72 : decode cX9_told 72 = .ok (.iconst 3, 1) := by decide +kernel
theorem dX9_told_73 : decode cX9_told 73 = .ok (.iadd, 1) := by decide +kernel
theorem dX9_told_74 : decode cX9_told 74 = .ok (.iaload, 1) := by decide +kernel
theorem dX9_told_75 : decode cX9_told 75 = .ok (.istore 4, 2) := by decide +kernel
theorem dX9_told_77 : decode cX9_told 77 = .ok (.iload_n 2, 1) := by decide +kernel
theorem dX9_told_78 : decode cX9_told 78 = .ok (.bipush 9, 2) := by decide +kernel
theorem dX9_told_80 : decode cX9_told 80 = .ok (.if_icmp .ge 56, 3) := by decide +kernel
theorem dX9_told_83 : decode cX9_told 83 = .ok (.iload_n 2, 1) := by decide +kernel
theorem dX9_told_84 : decode cX9_told 84 = .ok (.bipush 6, 2) := by decide +kernel
theorem dX9_told_86 : decode cX9_told 86 = .ok (.if_icmp .ne 15, 3) := by decide +kernel
theorem dX9_told_89 : decode cX9_told 89 = .ok (.aload_n 0, 1) := by decide +kernel
theorem dX9_told_90 : decode cX9_told 90 = .ok (.iload_n 1, 1) := by decide +kernel
theorem dX9_told_91 : decode cX9_told 91 = .ok (.iload_n 3, 1) := by decide +kernel
theorem dX9_told_92 : decode cX9_told 92 = .ok (.invokevirtual 110, 3) := by decide +kernel
theorem dX9_told_95 : decode cX9_told 95 = .ok (.ifCond .eq 39, 3) := by decide +kernel
theorem dX9_told_98 : decode cX9_told 98 = .ok (.goto 32, 3) := by decide +kernel
theorem dX9_told_101 : decode cX9_told 101 = .ok (.iload_n 2, 1) := by decide +kernel
theorem dX9_told_102 : decode cX9_told 102 = .ok (.bipush 7, 2) := by decide +kernel
theorem dX9_told_104 : decode cX9_told 104 = .ok (.if_icmp .ne 14, 3) := by decide +kernel
theorem dX9_told_107 : decode cX9_told 107 = .ok (.aload_n 0, 1) := by decide +kernel
theorem dX9_told_108 : decode cX9_told 108 = .ok (.iload_n 1, 1) := by decide +kernel
theorem dX9_told_109 : decode cX9_told 109 = .ok (.invokevirtual 114, 3) := by decide +kernel
theorem dX9_told_112 : decode cX9_told 112 = .ok (.ifCond .eq 22, 3) := by decide +kernel
theorem dX9_told_115 : decode cX9_told 115 = .ok (.goto 15, 3) := by decide +kernel
theorem dX9_told_118 : decode cX9_told 118 = .ok (.aload_n 0, 1) := by decide +kernel
theorem dX9_told_119 : decode cX9_told 119 = .ok (.iload_n 1, 1) := by decide +kernel
theorem dX9_told_120 : decode cX9_told 120 = .ok (.iload_n 3, 1) := by decide +kernel
theorem dX9_told_121 : decode cX9_told 121 = .ok (.iload 4, 2) := by decide +kernel
theorem dX9_told_123 : decode cX9_told 123 = .ok (.iconst 0, 1) := by decide +kernel
theorem dX9_told_124 : decode cX9_told 124 = .ok (.invokevirtual 117, 3) := by decide +kernel
theorem dX9_told_127 : decode cX9_told 127 = .ok (.ifCond .eq 7, 3) := by decide +kernel
theorem dX9_told_130 : decode cX9_told 130 = .ok (.iconst 1, 1) := by decide +kernel
theorem dX9_told_131 : decode cX9_told 131 = .ok (.goto 4, 3) := by decide +kernel
theorem dX9_told_134 : decode cX9_told 134 = .ok (.iconst 0, 1) := by decide +kernel
theorem dX9_told_135 : decode cX9_told 135 = .ok (.ireturn, 1) := by decide +kernel
theorem dX9_told_136 : decode cX9_told 136 = .ok (.iload_n 2, 1) := by decide +kernel
theorem dX9_told_137 : decode cX9_told 137 = .ok (.bipush 9, 2) := by decide +kernel
theorem dX9_told_139 : decode cX9_told 139 = .ok (.if_icmp .ne 15, 3) := by decide +kernel
theorem dX9_told_142 : decode cX9_told 142 = .ok (.aload_n 0, 1) := by decide +kernel
theorem dX9_told_143 : decode cX9_told 143 = .ok (.iload_n 1, 1) := by decide +kernel
theorem dX9_told_144 : decode cX9_told 144 = .ok (.iload_n 3, 1) := by decide +kernel
theorem dX9_told_145 : decode cX9_told 145 = .ok (.iload 4, 2) := by decide +kernel
theorem dX9_told_147 : decode cX9_told 147 = .ok (.iconst 0, 1) := by decide +kernel
theorem dX9_told_148 : decode cX9_told 148 = .ok (.invokevirtual 121, 3) := by decide +kernel
theorem dX9_told_151 : decode cX9_told 151 = .ok (.goto 13, 3) := by decide +kernel
theorem dX9_told_154 : decode cX9_told 154 = .ok (.aload_n 0, 1) := by decide +kernel
theorem dX9_told_155 : decode cX9_told 155 = .ok (.iconst 2, 1) := by decide +kernel
theorem dX9_told_156 : decode cX9_told 156 = .ok (.iload_n 1, 1) := by decide +kernel
theorem dX9_told_157 : decode cX9_told 157 = .ok (.iload_n 3, 1) := by decide +kernel
theorem dX9_told_158 : decode cX9_told 158 = .ok (.iload 4, 2) := by decide +kernel
theorem dX9_told_160 : decode cX9_told 160 = .ok (.iconst 0, 1) := by decide +kernel
theorem dX9_told_161 : decode cX9_told 161 = .ok (.invokevirtual 125, 3) := by decide +kernel
theorem dX9_told_164 : decode cX9_told 164 = .ok (.ireturn, 1) := by decide +kernel
theorem qX9_told (d : Nat) (x1 : Int) (x2 : Int) (s : Sg) : RUN (d + 1) mX9_told [vr 32 0, vi x1, vi x2] s = bI (RUN d mX9_in [vl x2, vl 0, vl 10] s) (fun r1 s1 => if r1 = 0 then (some (some (vi (-2)), s1)) else (bI (RUN d mX9_isCar [vr 32 0, vi x1] s1) (fun r2 s2 => if r2 = 0 then (some (some (vi (-2)), s2)) else (if x2 < 6 then (if x2 < 5 then (if inb (w32 ((w32 (5 * x1)) + x2)) 30 then (some (some (vi (s2 37 0 (Int.toNat (w32 ((w32 (5 * x1)) + x2))))), s2)) else none) else (if inb x1 6 then (some (some (vi (s2 36 0 (Int.toNat x1))), s2)) else none)) else (if inb (w32 ((w32 (5 * x1)) + 2)) 30 then (if inb (w32 ((w32 (5 * x1)) + 3)) 30 then (if x2 < 9 then (if x2 = 6 then (bI (RUN d mX9_fits [vr 32 0, vi x1, vi (s2 37 0 (Int.toNat (w32 ((w32 (5 * x1)) + 2))))] s2) (fun r3 s3 => if r3 = 0 then (some (some (vi 0), s3)) else (some (some (vi 1), s3)))) else (if x2 = 7 then (bI (RUN d mX9_isLong [vr 32 0, vi x1] s2) (fun r4 s4 => if r4 = 0 then (some (some (vi 0), s4)) else (some (some (vi 1), s4)))) else (bI (RUN d mX9_draws [vr 32 0, vi x1, vi (s2 37 0 (Int.toNat (w32 ((w32 (5 * x1)) + 2)))), vi (s2 37 0 (Int.toNat (w32 ((w32 (5 * x1)) + 3)))), vi 0] s2) (fun r5 s5 => if r5 = 0 then (some (some (vi 0), s5)) else (some (some (vi 1), s5)))))) else (if x2 = 9 then (bI (RUN d mX9_takesOf [vr 32 0, vi x1, vi (s2 37 0 (Int.toNat (w32 ((w32 (5 * x1)) + 2)))), vi (s2 37 0 (Int.toNat (w32 ((w32 (5 * x1)) + 3)))), vi 0] s2) (fun r6 s6 => some (some (vi r6), s6))) else (bI (RUN d mX9_asks [vr 32 0, vi 2, vi x1, vi (s2 37 0 (Int.toNat (w32 ((w32 (5 * x1)) + 2)))), vi (s2 37 0 (Int.toNat (w32 ((w32 (5 * x1)) + 3)))), vi 0] s2) (fun r7 s7 => some (some (vi r7), s7))))) else none) else none))))) := x_run rfl (x_st 1 dX9_told_0 rfl (x_st 2 dX9_told_1 rfl (x_st 3 dX9_told_2 rfl (x_st 6 dX9_told_3 rfl (x_ci 9 [vr 32 0, vi x1, vi x2, UU, UU] [] dX9_told_6 rfl (fun r1 s1 => x_br dX9_told_9 (x_if (x_go 20 (x_st 22 dX9_told_20 rfl (x_ret dX9_told_22 rfl))) (x_go 12 (x_st 13 dX9_told_12 rfl (x_st 14 dX9_told_13 rfl (x_ci 17 [vr 32 0, vi x1, vi x2, UU, UU] [] dX9_told_14 rfl (fun r2 s2 => x_br dX9_told_17 (x_if (x_go 20 (x_st 22 dX9_told_20 rfl (x_ret dX9_told_22 rfl))) (x_go 23 (x_st 24 dX9_told_23 rfl (x_st 26 dX9_told_24 rfl (x_br dX9_told_26 (x_if (x_go 29 (x_st 30 dX9_told_29 rfl (x_st 31 dX9_told_30 rfl (x_br dX9_told_31 (x_if (x_go 34 (x_st 35 dX9_told_34 rfl (x_st 38 dX9_told_35 rfl (x_st 39 dX9_told_38 rfl (x_st 40 dX9_told_39 rfl (x_st 41 dX9_told_40 rfl (x_st 42 dX9_told_41 rfl (x_st 43 dX9_told_42 rfl (x_br dX9_told_43 (x_if (x_go 44 (x_st 53 dX9_told_44 rfl (x_ret dX9_told_53 rfl))) x_no)))))))))) (x_go 47 (x_st 48 dX9_told_47 rfl (x_st 51 dX9_told_48 rfl (x_st 52 dX9_told_51 rfl (x_br dX9_told_52 (x_if (x_go 53 (x_ret dX9_told_53 rfl)) x_no))))))))))) (x_go 54 (x_st 55 dX9_told_54 rfl (x_st 58 dX9_told_55 rfl (x_st 59 dX9_told_58 rfl (x_st 60 dX9_told_59 rfl (x_st 61 dX9_told_60 rfl (x_st 62 dX9_told_61 rfl (x_st 63 dX9_told_62 rfl (x_br dX9_told_63 (x_if (x_go 64 (x_so 65 [vr 32 0, vi x1, vi x2, vi (s2 37 0 (Int.toNat (w32 ((w32 (5 * x1)) + 2)))), UU] dX9_told_64 rfl (x_st 66 dX9_told_65 rfl (x_st 69 dX9_told_66 rfl (x_st 70 dX9_told_69 rfl (x_st 71 dX9_told_70 rfl (x_st 72 dX9_told_71 rfl (x_st 73 dX9_told_72 rfl (x_st 74 dX9_told_73 rfl (x_br dX9_told_74 (x_if (x_go 75 (x_so 77 [vr 32 0, vi x1, vi x2, vi (s2 37 0 (Int.toNat (w32 ((w32 (5 * x1)) + 2)))), vi (s2 37 0 (Int.toNat (w32 ((w32 (5 * x1)) + 3))))] dX9_told_75 rfl (x_st 78 dX9_told_77 rfl (x_st 80 dX9_told_78 rfl (x_br dX9_told_80 (x_if (x_go 83 (x_st 84 dX9_told_83 rfl (x_st 86 dX9_told_84 rfl (x_br dX9_told_86 (x_if (x_go 89 (x_st 90 dX9_told_89 rfl (x_st 91 dX9_told_90 rfl (x_st 92 dX9_told_91 rfl (x_ci 95 [vr 32 0, vi x1, vi x2, vi (s2 37 0 (Int.toNat (w32 ((w32 (5 * x1)) + 2)))), vi (s2 37 0 (Int.toNat (w32 ((w32 (5 * x1)) + 3))))] [] dX9_told_92 rfl (fun r3 s3 => x_br dX9_told_95 (x_if (x_go 134 (x_st 135 dX9_told_134 rfl (x_ret dX9_told_135 rfl))) (x_go 98 (x_st 130 dX9_told_98 rfl (x_st 131 dX9_told_130 rfl (x_st 135 dX9_told_131 rfl (x_ret dX9_told_135 rfl)))))))))))) (x_go 101 (x_st 102 dX9_told_101 rfl (x_st 104 dX9_told_102 rfl (x_br dX9_told_104 (x_if (x_go 107 (x_st 108 dX9_told_107 rfl (x_st 109 dX9_told_108 rfl (x_ci 112 [vr 32 0, vi x1, vi x2, vi (s2 37 0 (Int.toNat (w32 ((w32 (5 * x1)) + 2)))), vi (s2 37 0 (Int.toNat (w32 ((w32 (5 * x1)) + 3))))] [] dX9_told_109 rfl (fun r4 s4 => x_br dX9_told_112 (x_if (x_go 134 (x_st 135 dX9_told_134 rfl (x_ret dX9_told_135 rfl))) (x_go 115 (x_st 130 dX9_told_115 rfl (x_st 131 dX9_told_130 rfl (x_st 135 dX9_told_131 rfl (x_ret dX9_told_135 rfl))))))))))) (x_go 118 (x_st 119 dX9_told_118 rfl (x_st 120 dX9_told_119 rfl (x_st 121 dX9_told_120 rfl (x_st 123 dX9_told_121 rfl (x_st 124 dX9_told_123 rfl (x_ci 127 [vr 32 0, vi x1, vi x2, vi (s2 37 0 (Int.toNat (w32 ((w32 (5 * x1)) + 2)))), vi (s2 37 0 (Int.toNat (w32 ((w32 (5 * x1)) + 3))))] [] dX9_told_124 rfl (fun r5 s5 => x_br dX9_told_127 (x_if (x_go 134 (x_st 135 dX9_told_134 rfl (x_ret dX9_told_135 rfl))) (x_go 130 (x_st 131 dX9_told_130 rfl (x_st 135 dX9_told_131 rfl (x_ret dX9_told_135 rfl))))))))))))))))))))))) (x_go 136 (x_st 137 dX9_told_136 rfl (x_st 139 dX9_told_137 rfl (x_br dX9_told_139 (x_if (x_go 142 (x_st 143 dX9_told_142 rfl (x_st 144 dX9_told_143 rfl (x_st 145 dX9_told_144 rfl (x_st 147 dX9_told_145 rfl (x_st 148 dX9_told_147 rfl (x_ci 151 [vr 32 0, vi x1, vi x2, vi (s2 37 0 (Int.toNat (w32 ((w32 (5 * x1)) + 2)))), vi (s2 37 0 (Int.toNat (w32 ((w32 (5 * x1)) + 3))))] [] dX9_told_148 rfl (fun r6 s6 => x_st 164 dX9_told_151 rfl (x_ret dX9_told_164 rfl))))))))) (x_go 154 (x_st 155 dX9_told_154 rfl (x_st 156 dX9_told_155 rfl (x_st 157 dX9_told_156 rfl (x_st 158 dX9_told_157 rfl (x_st 160 dX9_told_158 rfl (x_st 161 dX9_told_160 rfl (x_ci 164 [vr 32 0, vi x1, vi x2, vi (s2 37 0 (Int.toNat (w32 ((w32 (5 * x1)) + 2)))), vi (s2 37 0 (Int.toNat (w32 ((w32 (5 * x1)) + 3))))] [] dX9_told_161 rfl (fun r7 s7 => x_ret dX9_told_164 rfl)))))))))))))))))))) x_no))))))))))) x_no))))))))))))))))))))))))))))
theorem dX9_feed_0 : decode cX9_feed 0 = .ok (.iload_n 1, 1) := by decide +kernel
theorem dX9_feed_1 : decode cX9_feed 1 = .ok (.i2l, 1) := by decide +kernel
theorem dX9_feed_2 : decode cX9_feed 2 = .ok (.lconst 0, 1) := by decide +kernel
theorem dX9_feed_3 : decode cX9_feed 3 = .ok (.ldc2_w 129, 3) := by decide +kernel
theorem dX9_feed_6 : decode cX9_feed 6 = .ok (.invokestatic 85, 3) := by decide +kernel
theorem dX9_feed_9 : decode cX9_feed 9 = .ok (.ifCond .ne 6, 3) := by decide +kernel
theorem dX9_feed_12 : decode cX9_feed 12 = .ok (.bipush (-2), 2) := by decide +kernel
theorem dX9_feed_14 : decode cX9_feed 14 = .ok (.ireturn, 1) := by decide +kernel
theorem dX9_feed_15 : decode cX9_feed 15 = .ok (.aload_n 0, 1) := by decide +kernel
theorem dX9_feed_16 : decode cX9_feed 16 = .ok (.getfield 131, 3) := by decide +kernel
theorem dX9_feed_19 : decode cX9_feed 19 = .ok (.sipush 160, 3) := by decide +kernel
theorem dX9_feed_22 : decode cX9_feed 22 = .ok (.if_icmp .ne 6, 3) := by decide +kernel
theorem dX9_feed_25 : decode cX9_feed 25 = .ok (.bipush (-4), 2) := by decide +kernel
theorem dX9_feed_27 : decode cX9_feed 27 = .ok (.ireturn, 1) := by decide +kernel
theorem dX9_feed_28 : decode cX9_feed 28 = .ok (.aload_n 0, 1) := by decide +kernel
theorem dX9_feed_29 : decode cX9_feed 29 = .ok (.getfield 20, 3) := by decide +kernel
theorem dX9_feed_32 : decode cX9_feed 32 = .ok (.aload_n 0, 1) := by decide +kernel
theorem dX9_feed_33 : decode cX9_feed 33 = .ok (.getfield 131, 3) := by decide +kernel
theorem dX9_feed_36 : decode cX9_feed 36 = .ok (.iload_n 1, 1) := by decide +kernel
theorem dX9_feed_37 : decode cX9_feed 37 = .ok (.iastore, 1) := by decide +kernel
theorem dX9_feed_38 : decode cX9_feed 38 = .ok (.aload_n 0, 1) := by decide +kernel
theorem dX9_feed_39 : decode cX9_feed 39 = .ok (.dup, 1) := by decide +kernel
theorem dX9_feed_40 : decode cX9_feed 40 = .ok (.getfield 131, 3) := by decide +kernel
theorem dX9_feed_43 : decode cX9_feed 43 = .ok (.iconst 1, 1) := by decide +kernel
theorem dX9_feed_44 : decode cX9_feed 44 = .ok (.iadd, 1) := by decide +kernel
theorem dX9_feed_45 : decode cX9_feed 45 = .ok (.putfield 131, 3) := by decide +kernel
theorem dX9_feed_48 : decode cX9_feed 48 = .ok (.aload_n 0, 1) := by decide +kernel
theorem dX9_feed_49 : decode cX9_feed 49 = .ok (.getfield 131, 3) := by decide +kernel
theorem dX9_feed_52 : decode cX9_feed 52 = .ok (.ireturn, 1) := by decide +kernel
theorem qX9_feed (d : Nat) (x1 : Int) (s : Sg) : RUN (d + 1) mX9_feed [vr 32 0, vi x1] s = bI (RUN d mX9_in [vl x1, vl 0, vl 255] s) (fun r1 s1 => if r1 = 0 then (some (some (vi (-2)), s1)) else (if (s1 32 0 6) = 160 then (some (some (vi (-4)), s1)) else (if inb (s1 32 0 6) 160 then (some (some (vi (w32 ((s1 32 0 6) + 1))), (up (up s1 35 0 (Int.toNat (s1 32 0 6)) x1) 32 0 6 (w32 ((s1 32 0 6) + 1))))) else none))) := x_run rfl (x_st 1 dX9_feed_0 rfl (x_st 2 dX9_feed_1 rfl (x_st 3 dX9_feed_2 rfl (x_st 6 dX9_feed_3 rfl (x_ci 9 [vr 32 0, vi x1] [] dX9_feed_6 rfl (fun r1 s1 => x_br dX9_feed_9 (x_if (x_go 12 (x_st 14 dX9_feed_12 rfl (x_ret dX9_feed_14 rfl))) (x_go 15 (x_st 16 dX9_feed_15 rfl (x_st 19 dX9_feed_16 rfl (x_st 22 dX9_feed_19 rfl (x_br dX9_feed_22 (x_if (x_go 25 (x_st 27 dX9_feed_25 rfl (x_ret dX9_feed_27 rfl))) (x_go 28 (x_st 29 dX9_feed_28 rfl (x_st 32 dX9_feed_29 rfl (x_st 33 dX9_feed_32 rfl (x_st 36 dX9_feed_33 rfl (x_st 37 dX9_feed_36 rfl (x_br dX9_feed_37 (x_if (x_go 38 (x_st 39 dX9_feed_38 rfl (x_st 40 dX9_feed_39 rfl (x_st 43 dX9_feed_40 rfl (x_st 44 dX9_feed_43 rfl (x_st 45 dX9_feed_44 rfl (x_st 48 dX9_feed_45 rfl (x_st 49 dX9_feed_48 rfl (x_st 52 dX9_feed_49 rfl (x_ret dX9_feed_52 rfl)))))))))) x_no)))))))))))))))))))))
theorem dX9_text_0 : decode cX9_text 0 = .ok (.aload_n 0, 1) := by decide +kernel
theorem dX9_text_1 : decode cX9_text 1 = .ok (.getfield 79, 3) := by decide +kernel
theorem dX9_text_4 : decode cX9_text 4 = .ok (.bipush 6, 2) := by decide +kernel
theorem dX9_text_6 : decode cX9_text 6 = .ok (.if_icmp .ne 6, 3) := by decide +kernel
theorem dX9_text_9 : decode cX9_text 9 = .ok (.bipush (-4), 2) := by decide +kernel
theorem dX9_text_11 : decode cX9_text 11 = .ok (.ireturn, 1) := by decide +kernel
theorem dX9_text_12 : decode cX9_text 12 = .ok (.iconst 0, 1) := by decide +kernel
theorem dX9_text_13 : decode cX9_text 13 = .ok (.istore_n 1, 1) := by decide +kernel
theorem dX9_text_14 : decode cX9_text 14 = .ok (.iload_n 1, 1) := by decide +kernel
theorem dX9_text_15 : decode cX9_text 15 = .ok (.aload_n 0, 1) := by decide +kernel
theorem dX9_text_16 : decode cX9_text 16 = .ok (.getfield 131, 3) := by decide +kernel
theorem dX9_text_19 : decode cX9_text 19 = .ok (.if_icmp .ge 30, 3) := by decide +kernel
theorem dX9_text_22 : decode cX9_text 22 = .ok (.aload_n 0, 1) := by decide +kernel
theorem dX9_text_23 : decode cX9_text 23 = .ok (.getfield 13, 3) := by decide +kernel
theorem dX9_text_26 : decode cX9_text 26 = .ok (.sipush 160, 3) := by decide +kernel
theorem dX9_text_29 : decode cX9_text 29 = .ok (.aload_n 0, 1) := by decide +kernel
theorem dX9_text_30 : decode cX9_text 30 = .ok (.getfield 79, 3) := by decide +kernel
theorem dX9_text_33 : decode cX9_text 33 = .ok (.imul, 1) := by decide +kernel
theorem dX9_text_34 : decode cX9_text 34 = .ok (.iload_n 1, 1) := by decide +kernel
theorem dX9_text_35 : decode cX9_text 35 = .ok (.iadd, 1) := by decide +kernel
theorem dX9_text_36 : decode cX9_text 36 = .ok (.aload_n 0, 1) := by decide +kernel
theorem dX9_text_37 : decode cX9_text 37 = .ok (.getfield 20, 3) := by decide +kernel
theorem dX9_text_40 : decode cX9_text 40 = .ok (.iload_n 1, 1) := by decide +kernel
theorem dX9_text_41 : decode cX9_text 41 = .ok (.iaload, 1) := by decide +kernel
theorem dX9_text_42 : decode cX9_text 42 = .ok (.iastore, 1) := by decide +kernel
theorem dX9_text_43 : decode cX9_text 43 = .ok (.iinc 1 1, 3) := by decide +kernel
theorem dX9_text_46 : decode cX9_text 46 = .ok (.goto (-32), 3) := by decide +kernel
theorem dX9_text_49 : decode cX9_text 49 = .ok (.aload_n 0, 1) := by decide +kernel
theorem dX9_text_50 : decode cX9_text 50 = .ok (.getfield 17, 3) := by decide +kernel
theorem dX9_text_53 : decode cX9_text 53 = .ok (.aload_n 0, 1) := by decide +kernel
theorem dX9_text_54 : decode cX9_text 54 = .ok (.getfield 79, 3) := by decide +kernel
theorem dX9_text_57 : decode cX9_text 57 = .ok (.aload_n 0, 1) := by decide +kernel
theorem dX9_text_58 : decode cX9_text 58 = .ok (.getfield 131, 3) := by decide +kernel
theorem dX9_text_61 : decode cX9_text 61 = .ok (.iastore, 1) := by decide +kernel
theorem dX9_text_62 : decode cX9_text 62 = .ok (.aload_n 0, 1) := by decide +kernel
theorem dX9_text_63 : decode cX9_text 63 = .ok (.iconst 0, 1) := by decide +kernel
theorem dX9_text_64 : decode cX9_text 64 = .ok (.putfield 131, 3) := by decide +kernel
theorem dX9_text_67 : decode cX9_text 67 = .ok (.aload_n 0, 1) := by decide +kernel
theorem dX9_text_68 : decode cX9_text 68 = .ok (.aload_n 0, 1) := by decide +kernel
theorem dX9_text_69 : decode cX9_text 69 = .ok (.getfield 79, 3) := by decide +kernel
theorem dX9_text_72 : decode cX9_text 72 = .ok (.iconst 0, 1) := by decide +kernel
theorem dX9_text_73 : decode cX9_text 73 = .ok (.invokevirtual 242, 3) := by decide +kernel
theorem dX9_text_76 : decode cX9_text 76 = .ok (.istore_n 1, 1) := by decide +kernel
theorem dX9_text_77 : decode cX9_text 77 = .ok (.aload_n 0, 1) := by decide +kernel
theorem dX9_text_78 : decode cX9_text 78 = .ok (.getfield 164, 3) := by decide +kernel
theorem dX9_text_81 : decode cX9_text 81 = .ok (.ifCond .eq 11, 3) := by decide +kernel
theorem dX9_text_84 : decode cX9_text 84 = .ok (.bipush (-100), 2) := by decide +kernel
theorem dX9_text_86 : decode cX9_text 86 = .ok (.aload_n 0, 1) := by decide +kernel
theorem dX9_text_87 : decode cX9_text 87 = .ok (.getfield 168, 3) := by decide +kernel
theorem dX9_text_90 : decode cX9_text 90 = .ok (.isub, 1) := by decide +kernel
theorem dX9_text_91 : decode cX9_text 91 = .ok (.ireturn, 1) := by decide +kernel
theorem dX9_text_92 : decode cX9_text 92 = .ok (.aload_n 0, 1) := by decide +kernel
theorem dX9_text_93 : decode cX9_text 93 = .ok (.dup, 1) := by decide +kernel
theorem dX9_text_94 : decode cX9_text 94 = .ok (.getfield 79, 3) := by decide +kernel
theorem dX9_text_97 : decode cX9_text 97 = .ok (.iconst 1, 1) := by decide +kernel
theorem dX9_text_98 : decode cX9_text 98 = .ok (.iadd, 1) := by decide +kernel
theorem dX9_text_99 : decode cX9_text 99 = .ok (.putfield 79, 3) := by decide +kernel
theorem dX9_text_102 : decode cX9_text 102 = .ok (.aload_n 0, 1) := by decide +kernel
theorem dX9_text_103 : decode cX9_text 103 = .ok (.getfield 79, 3) := by decide +kernel
theorem dX9_text_106 : decode cX9_text 106 = .ok (.iconst 1, 1) := by decide +kernel
theorem dX9_text_107 : decode cX9_text 107 = .ok (.isub, 1) := by decide +kernel
theorem dX9_text_108 : decode cX9_text 108 = .ok (.ireturn, 1) := by decide +kernel
theorem qX9_text (d : Nat) (s : Sg) : RUN d mX9_text [vr 32 0] s = if (s 32 0 3) = 6 then (some (some (vi (-4)), s)) else (EV d mX9_text (14, [vr 32 0, vi 0], [], s)) := x_run rfl (x_st 1 dX9_text_0 rfl (x_st 4 dX9_text_1 rfl (x_st 6 dX9_text_4 rfl (x_br dX9_text_6 (x_if (x_go 9 (x_st 11 dX9_text_9 rfl (x_ret dX9_text_11 rfl))) (x_go 12 (x_st 13 dX9_text_12 rfl (x_so 14 [vr 32 0, vi 0] dX9_text_13 rfl (rfl)))))))))
theorem qX9_text_14 (d : Nat) (x1 : Int) (s : Sg) : EV (d + 1) mX9_text (14, [vr 32 0, vi x1], [], s) = if x1 < (s 32 0 6) then (if inb x1 160 then (if inb (w32 ((w32 (160 * (s 32 0 3))) + x1)) 960 then (EV (d + 1) mX9_text (14, [vr 32 0, vi (w32 (x1 + 1))], [], (up s 33 0 (Int.toNat (w32 ((w32 (160 * (s 32 0 3))) + x1))) (s 35 0 (Int.toNat x1))))) else none) else none) else (if inb (s 32 0 3) 6 then (bI (RUN d mX9_read [vr 32 0, vi (s 32 0 3), vi 0] (up (up s 34 0 (Int.toNat (s 32 0 3)) (s 32 0 6)) 32 0 6 0)) (fun r1 s1 => if (s1 32 0 23) = 0 then (some (some (vi (w32 ((w32 ((s1 32 0 3) + 1)) - 1))), (up s1 32 0 3 (w32 ((s1 32 0 3) + 1))))) else (some (some (vi (w32 ((-100) - (s1 32 0 24)))), s1)))) else none) := x_st 15 dX9_text_14 rfl (x_st 16 dX9_text_15 rfl (x_st 19 dX9_text_16 rfl (x_br dX9_text_19 (x_if (x_go 22 (x_st 23 dX9_text_22 rfl (x_st 26 dX9_text_23 rfl (x_st 29 dX9_text_26 rfl (x_st 30 dX9_text_29 rfl (x_st 33 dX9_text_30 rfl (x_st 34 dX9_text_33 rfl (x_st 35 dX9_text_34 rfl (x_st 36 dX9_text_35 rfl (x_st 37 dX9_text_36 rfl (x_st 40 dX9_text_37 rfl (x_st 41 dX9_text_40 rfl (x_br dX9_text_41 (x_if (x_go 42 (x_br dX9_text_42 (x_if (x_go 43 (x_so 46 [vr 32 0, vi (w32 (x1 + 1))] dX9_text_43 rfl (x_st 14 dX9_text_46 rfl (rfl)))) x_no))) x_no)))))))))))))) (x_go 49 (x_st 50 dX9_text_49 rfl (x_st 53 dX9_text_50 rfl (x_st 54 dX9_text_53 rfl (x_st 57 dX9_text_54 rfl (x_st 58 dX9_text_57 rfl (x_st 61 dX9_text_58 rfl (x_br dX9_text_61 (x_if (x_go 62 (x_st 63 dX9_text_62 rfl (x_st 64 dX9_text_63 rfl (x_st 67 dX9_text_64 rfl (x_st 68 dX9_text_67 rfl (x_st 69 dX9_text_68 rfl (x_st 72 dX9_text_69 rfl (x_st 73 dX9_text_72 rfl (x_ci 76 [vr 32 0, vi x1] [] dX9_text_73 rfl (fun r1 s1 => x_so 77 [vr 32 0, vi r1] dX9_text_76 rfl (x_st 78 dX9_text_77 rfl (x_st 81 dX9_text_78 rfl (x_br dX9_text_81 (x_if (x_go 92 (x_st 93 dX9_text_92 rfl (x_st 94 dX9_text_93 rfl (x_st 97 dX9_text_94 rfl (x_st 98 dX9_text_97 rfl (x_st 99 dX9_text_98 rfl (x_st 102 dX9_text_99 rfl (x_st 103 dX9_text_102 rfl (x_st 106 dX9_text_103 rfl (x_st 107 dX9_text_106 rfl (x_st 108 dX9_text_107 rfl (x_ret dX9_text_108 rfl)))))))))))) (x_go 84 (x_st 86 dX9_text_84 rfl (x_st 87 dX9_text_86 rfl (x_st 90 dX9_text_87 rfl (x_st 91 dX9_text_90 rfl (x_ret dX9_text_91 rfl)))))))))))))))))))) x_no)))))))))))))
theorem dX9_force_0 : decode cX9_force 0 = .ok (.iload_n 1, 1) := by decide +kernel
theorem dX9_force_1 : decode cX9_force 1 = .ok (.i2l, 1) := by decide +kernel
theorem dX9_force_2 : decode cX9_force 2 = .ok (.lconst 0, 1) := by decide +kernel
theorem dX9_force_3 : decode cX9_force 3 = .ok (.aload_n 0, 1) := by decide +kernel
theorem dX9_force_4 : decode cX9_force 4 = .ok (.getfield 79, 3) := by decide +kernel
theorem dX9_force_7 : decode cX9_force 7 = .ok (.iconst 1, 1) := by decide +kernel
theorem dX9_force_8 : decode cX9_force 8 = .ok (.isub, 1) := by decide +kernel
theorem dX9_force_9 : decode cX9_force 9 = .ok (.i2l, 1) := by decide +kernel
theorem dX9_force_10 : decode cX9_force 10 = .ok (.invokestatic 85, 3) := by decide +kernel
theorem dX9_force_13 : decode cX9_force 13 = .ok (.ifCond .ne 6, 3) := by decide +kernel
theorem dX9_force_16 : decode cX9_force 16 = .ok (.bipush (-2), 2) := by decide +kernel
theorem dX9_force_18 : decode cX9_force 18 = .ok (.ireturn, 1) := by decide +kernel
theorem dX9_force_19 : decode cX9_force 19 = .ok (.aload_n 0, 1) := by decide +kernel
theorem dX9_force_20 : decode cX9_force 20 = .ok (.getfield 99, 3) := by decide +kernel
theorem dX9_force_23 : decode cX9_force 23 = .ok (.istore_n 2, 1) := by decide +kernel
theorem dX9_force_24 : decode cX9_force 24 = .ok (.aload_n 0, 1) := by decide +kernel
theorem dX9_force_25 : decode cX9_force 25 = .ok (.iload_n 1, 1) := by decide +kernel
theorem dX9_force_26 : decode cX9_force 26 = .ok (.putfield 99, 3) := by decide +kernel
theorem dX9_force_29 : decode cX9_force 29 = .ok (.iload_n 2, 1) := by decide +kernel
theorem dX9_force_30 : decode cX9_force 30 = .ok (.ireturn, 1) := by decide +kernel
theorem qX9_force (d : Nat) (x1 : Int) (s : Sg) : RUN (d + 1) mX9_force [vr 32 0, vi x1] s = bI (RUN d mX9_in [vl x1, vl 0, vl (w32 ((s 32 0 3) - 1))] s) (fun r1 s1 => if r1 = 0 then (some (some (vi (-2)), s1)) else (some (some (vi (s1 32 0 4)), (up s1 32 0 4 x1)))) := x_run rfl (x_st 1 dX9_force_0 rfl (x_st 2 dX9_force_1 rfl (x_st 3 dX9_force_2 rfl (x_st 4 dX9_force_3 rfl (x_st 7 dX9_force_4 rfl (x_st 8 dX9_force_7 rfl (x_st 9 dX9_force_8 rfl (x_st 10 dX9_force_9 rfl (x_ci 13 [vr 32 0, vi x1, UU] [] dX9_force_10 rfl (fun r1 s1 => x_br dX9_force_13 (x_if (x_go 16 (x_st 18 dX9_force_16 rfl (x_ret dX9_force_18 rfl))) (x_go 19 (x_st 20 dX9_force_19 rfl (x_st 23 dX9_force_20 rfl (x_so 24 [vr 32 0, vi x1, vi (s1 32 0 4)] dX9_force_23 rfl (x_st 25 dX9_force_24 rfl (x_st 26 dX9_force_25 rfl (x_st 29 dX9_force_26 rfl (x_st 30 dX9_force_29 rfl (x_ret dX9_force_30 rfl))))))))))))))))))))
theorem dX9_times_0 : decode cX9_times 0 = .ok (.aload_n 0, 1) := by decide +kernel
theorem dX9_times_1 : decode cX9_times 1 = .ok (.iload_n 1, 1) := by decide +kernel
theorem dX9_times_2 : decode cX9_times 2 = .ok (.invokevirtual 91, 3) := by decide +kernel
theorem dX9_times_5 : decode cX9_times 5 = .ok (.ifCond .eq 15, 3) := by decide +kernel
theorem dX9_times_8 : decode cX9_times 8 = .ok (.iload_n 2, 1) := by decide +kernel
theorem dX9_times_9 : decode cX9_times 9 = .ok (.i2l, 1) := by decide +kernel
theorem dX9_times_10 : decode cX9_times 10 = .ok (.lconst 0, 1) := by decide +kernel
theorem dX9_times_11 : decode cX9_times 11 = .ok (.ldc2_w 106, 3) := by decide +kernel
theorem dX9_times_14 : decode cX9_times 14 = .ok (.invokestatic 85, 3) := by decide +kernel
theorem dX9_times_17 : decode cX9_times 17 = .ok (.ifCond .ne 6, 3) := by decide +kernel
theorem dX9_times_20 : decode cX9_times 20 = .ok (.bipush (-2), 2) := by decide +kernel
theorem dX9_times_22 : decode cX9_times 22 = .ok (.ireturn, 1) := by decide +kernel
theorem dX9_times_23 : decode cX9_times 23 = .ok (.aload_n 0, 1) := by decide +kernel
theorem dX9_times_24 : decode cX9_times 24 = .ok (.invokevirtual 270, 3) := by decide +kernel
theorem dX9_times_27 : decode cX9_times 27 = .ok (.iload_n 2, 1) := by decide +kernel
theorem dX9_times_28 : decode cX9_times 28 = .ok (.ifCond .ne 12, 3) := by decide +kernel
theorem dX9_times_31 : decode cX9_times 31 = .ok (.aload_n 0, 1) := by decide +kernel
theorem dX9_times_32 : decode cX9_times 32 = .ok (.getfield 29, 3) := by decide +kernel
theorem dX9_times_35 : decode cX9_times 35 = .ok (.iload_n 1, 1) := by decide +kernel
theorem dX9_times_36 : decode cX9_times 36 = .ok (.iaload, 1) := by decide +kernel
theorem dX9_times_37 : decode cX9_times 37 = .ok (.goto 36, 3) := by decide +kernel
theorem dX9_times_40 : decode cX9_times 40 = .ok (.iload_n 2, 1) := by decide +kernel
theorem dX9_times_41 : decode cX9_times 41 = .ok (.iconst 1, 1) := by decide +kernel
theorem dX9_times_42 : decode cX9_times 42 = .ok (.if_icmp .ne 12, 3) := by decide +kernel
theorem dX9_times_45 : decode cX9_times 45 = .ok (.aload_n 0, 1) := by decide +kernel
theorem dX9_times_46 : decode cX9_times 46 = .ok (.getfield 32, 3) := by decide +kernel
theorem dX9_times_49 : decode cX9_times 49 = .ok (.iload_n 1, 1) := by decide +kernel
theorem dX9_times_50 : decode cX9_times 50 = .ok (.iaload, 1) := by decide +kernel
theorem dX9_times_51 : decode cX9_times 51 = .ok (.goto 22, 3) := by decide +kernel
theorem dX9_times_54 : decode cX9_times 54 = .ok (.iload_n 2, 1) := by decide +kernel
theorem dX9_times_55 : decode cX9_times 55 = .ok (.iconst 2, 1) := by decide +kernel
theorem dX9_times_56 : decode cX9_times 56 = .ok (.if_icmp .ne 11, 3) := by decide +kernel
theorem dX9_times_59 : decode cX9_times 59 = .ok (.aload_n 0, 1) := by decide +kernel
theorem dX9_times_60 : decode cX9_times 60 = .ok (.iload_n 1, 1) := by decide +kernel
theorem dX9_times_61 : decode cX9_times 61 = .ok (.invokevirtual 267, 3) := by decide +kernel
theorem dX9_times_64 : decode cX9_times 64 = .ok (.goto 9, 3) := by decide +kernel
theorem dX9_times_67 : decode cX9_times 67 = .ok (.aload_n 0, 1) := by decide +kernel
theorem dX9_times_68 : decode cX9_times 68 = .ok (.getfield 35, 3) := by decide +kernel
theorem dX9_times_71 : decode cX9_times 71 = .ok (.iload_n 1, 1) := by decide +kernel
theorem dX9_times_72 : decode cX9_times 72 = .ok (.iaload, 1) := by decide +kernel
theorem dX9_times_73 : decode cX9_times 73 = .ok (.ireturn, 1) := by decide +kernel
theorem qX9_times (d : Nat) (x1 : Int) (x2 : Int) (s : Sg) : RUN (d + 1) mX9_times [vr 32 0, vi x1, vi x2] s = bI (RUN d mX9_isCar [vr 32 0, vi x1] s) (fun r1 s1 => if r1 = 0 then (some (some (vi (-2)), s1)) else (bI (RUN d mX9_in [vl x2, vl 0, vl 3] s1) (fun r2 s2 => if r2 = 0 then (some (some (vi (-2)), s2)) else (bV (RUN d mX9_goesAll [vr 32 0] s2) (fun s3 => if x2 = 0 then (if inb x1 6 then (some (some (vi (s3 38 0 (Int.toNat x1))), s3)) else none) else (if x2 = 1 then (if inb x1 6 then (some (some (vi (s3 39 0 (Int.toNat x1))), s3)) else none) else (if x2 = 2 then (bI (RUN d mX9_waitedOf [vr 32 0, vi x1] s3) (fun r4 s4 => some (some (vi r4), s4))) else (if inb x1 6 then (some (some (vi (s3 40 0 (Int.toNat x1))), s3)) else none)))))))) := x_run rfl (x_st 1 dX9_times_0 rfl (x_st 2 dX9_times_1 rfl (x_ci 5 [vr 32 0, vi x1, vi x2] [] dX9_times_2 rfl (fun r1 s1 => x_br dX9_times_5 (x_if (x_go 20 (x_st 22 dX9_times_20 rfl (x_ret dX9_times_22 rfl))) (x_go 8 (x_st 9 dX9_times_8 rfl (x_st 10 dX9_times_9 rfl (x_st 11 dX9_times_10 rfl (x_st 14 dX9_times_11 rfl (x_ci 17 [vr 32 0, vi x1, vi x2] [] dX9_times_14 rfl (fun r2 s2 => x_br dX9_times_17 (x_if (x_go 20 (x_st 22 dX9_times_20 rfl (x_ret dX9_times_22 rfl))) (x_go 23 (x_st 24 dX9_times_23 rfl (x_cv 27 [vr 32 0, vi x1, vi x2] [] dX9_times_24 rfl (fun s3 => x_st 28 dX9_times_27 rfl (x_br dX9_times_28 (x_if (x_go 31 (x_st 32 dX9_times_31 rfl (x_st 35 dX9_times_32 rfl (x_st 36 dX9_times_35 rfl (x_br dX9_times_36 (x_if (x_go 37 (x_st 73 dX9_times_37 rfl (x_ret dX9_times_73 rfl))) x_no)))))) (x_go 40 (x_st 41 dX9_times_40 rfl (x_st 42 dX9_times_41 rfl (x_br dX9_times_42 (x_if (x_go 45 (x_st 46 dX9_times_45 rfl (x_st 49 dX9_times_46 rfl (x_st 50 dX9_times_49 rfl (x_br dX9_times_50 (x_if (x_go 51 (x_st 73 dX9_times_51 rfl (x_ret dX9_times_73 rfl))) x_no)))))) (x_go 54 (x_st 55 dX9_times_54 rfl (x_st 56 dX9_times_55 rfl (x_br dX9_times_56 (x_if (x_go 59 (x_st 60 dX9_times_59 rfl (x_st 61 dX9_times_60 rfl (x_ci 64 [vr 32 0, vi x1, vi x2] [] dX9_times_61 rfl (fun r4 s4 => x_st 73 dX9_times_64 rfl (x_ret dX9_times_73 rfl)))))) (x_go 67 (x_st 68 dX9_times_67 rfl (x_st 71 dX9_times_68 rfl (x_st 72 dX9_times_71 rfl (x_br dX9_times_72 (x_if (x_go 73 (x_ret dX9_times_73 rfl)) x_no)))))))))))))))))))))))))))))))))))
theorem dX9_pump_0 : decode cX9_pump 0 = .ok (.iload_n 1, 1) := by decide +kernel
theorem dX9_pump_1 : decode cX9_pump 1 = .ok (.i2l, 1) := by decide +kernel
theorem dX9_pump_2 : decode cX9_pump 2 = .ok (.lconst 0, 1) := by decide +kernel
theorem dX9_pump_3 : decode cX9_pump 3 = .ok (.ldc2_w 106, 3) := by decide +kernel
theorem dX9_pump_6 : decode cX9_pump 6 = .ok (.invokestatic 85, 3) := by decide +kernel
theorem dX9_pump_9 : decode cX9_pump 9 = .ok (.ifCond .eq 25, 3) := by decide +kernel
theorem dX9_pump_12 : decode cX9_pump 12 = .ok (.iload_n 2, 1) := by decide +kernel
theorem dX9_pump_13 : decode cX9_pump 13 = .ok (.i2l, 1) := by decide +kernel
theorem dX9_pump_14 : decode cX9_pump 14 = .ok (.lconst 0, 1) := by decide +kernel
theorem dX9_pump_15 : decode cX9_pump 15 = .ok (.ldc2_w 276, 3) := by decide +kernel
theorem dX9_pump_18 : decode cX9_pump 18 = .ok (.invokestatic 85, 3) := by decide +kernel
theorem dX9_pump_21 : decode cX9_pump 21 = .ok (.ifCond .eq 13, 3) := by decide +kernel
theorem dX9_pump_24 : decode cX9_pump 24 = .ok (.iload_n 3, 1) := by decide +kernel
theorem dX9_pump_25 : decode cX9_pump 25 = .ok (.i2l, 1) := by decide +kernel
theorem dX9_pump_26 : decode cX9_pump 26 = .ok (.lconst 0, 1) := by decide +kernel
theorem dX9_pump_27 : decode cX9_pump 27 = .ok (.lconst 1, 1) := by decide +kernel
theorem dX9_pump_28 : decode cX9_pump 28 = .ok (.invokestatic 85, 3) := by decide +kernel
theorem dX9_pump_31 : decode cX9_pump 31 = .ok (.ifCond .ne 6, 3) := by decide +kernel
theorem dX9_pump_34 : decode cX9_pump 34 = .ok (.bipush (-2), 2) := by decide +kernel
theorem dX9_pump_36 : decode cX9_pump 36 = .ok (.ireturn, 1) := by decide +kernel
theorem dX9_pump_37 : decode cX9_pump 37 = .ok (.aload_n 0, 1) := by decide +kernel
theorem dX9_pump_38 : decode cX9_pump 38 = .ok (.invokevirtual 270, 3) := by decide +kernel
theorem dX9_pump_41 : decode cX9_pump 41 = .ok (.iload_n 3, 1) := by decide +kernel
theorem dX9_pump_42 : decode cX9_pump 42 = .ok (.ifCond .ne 18, 3) := by decide +kernel
theorem dX9_pump_45 : decode cX9_pump 45 = .ok (.aload_n 0, 1) := by decide +kernel
theorem dX9_pump_46 : decode cX9_pump 46 = .ok (.getfield 41, 3) := by decide +kernel
theorem dX9_pump_49 : decode cX9_pump 49 = .ok (.sipush 200, 3) := by decide +kernel
theorem dX9_pump_52 : decode cX9_pump 52 = .ok (.iload_n 1, 1) := by decide +kernel
theorem dX9_pump_53 : decode cX9_pump 53 = .ok (.imul, 1) := by decide +kernel
theorem dX9_pump_54 : decode cX9_pump 54 = .ok (.iload_n 2, 1) := by decide +kernel
theorem dX9_pump_55 : decode cX9_pump 55 = .ok (.iadd, 1) := by decide +kernel
theorem dX9_pump_56 : decode cX9_pump 56 = .ok (.iaload, 1) := by decide +kernel
theorem dX9_pump_57 : decode cX9_pump 57 = .ok (.goto 15, 3) := by decide +kernel
theorem dX9_pump_60 : decode cX9_pump 60 = .ok (.aload_n 0, 1) := by decide +kernel
theorem dX9_pump_61 : decode cX9_pump 61 = .ok (.getfield 44, 3) := by decide +kernel
theorem dX9_pump_64 : decode cX9_pump 64 = .ok (.sipush 200, 3) := by decide +kernel
theorem dX9_pump_67 : decode cX9_pump 67 = .ok (.iload_n 1, 1) := by decide +kernel
theorem dX9_pump_68 : decode cX9_pump 68 = .ok (.imul, 1) := by decide +kernel
theorem dX9_pump_69 : decode cX9_pump 69 = .ok (.iload_n 2, 1) := by decide +kernel
theorem dX9_pump_70 : decode cX9_pump 70 = .ok (.iadd, 1) := by decide +kernel
theorem dX9_pump_71 : decode cX9_pump 71 = .ok (.iaload, 1) := by decide +kernel
theorem dX9_pump_72 : decode cX9_pump 72 = .ok (.ireturn, 1) := by decide +kernel
theorem qX9_pump (d : Nat) (x1 : Int) (x2 : Int) (x3 : Int) (s : Sg) : RUN (d + 1) mX9_pump [vr 32 0, vi x1, vi x2, vi x3] s = bI (RUN d mX9_in [vl x1, vl 0, vl 3] s) (fun r1 s1 => if r1 = 0 then (some (some (vi (-2)), s1)) else (bI (RUN d mX9_in [vl x2, vl 0, vl 199] s1) (fun r2 s2 => if r2 = 0 then (some (some (vi (-2)), s2)) else (bI (RUN d mX9_in [vl x3, vl 0, vl 1] s2) (fun r3 s3 => if r3 = 0 then (some (some (vi (-2)), s3)) else (bV (RUN d mX9_goesAll [vr 32 0] s3) (fun s4 => if x3 = 0 then (if inb (w32 ((w32 (200 * x1)) + x2)) 800 then (some (some (vi (s4 42 0 (Int.toNat (w32 ((w32 (200 * x1)) + x2))))), s4)) else none) else (if inb (w32 ((w32 (200 * x1)) + x2)) 800 then (some (some (vi (s4 43 0 (Int.toNat (w32 ((w32 (200 * x1)) + x2))))), s4)) else none)))))))) := x_run rfl (x_st 1 dX9_pump_0 rfl (x_st 2 dX9_pump_1 rfl (x_st 3 dX9_pump_2 rfl (x_st 6 dX9_pump_3 rfl (x_ci 9 [vr 32 0, vi x1, vi x2, vi x3] [] dX9_pump_6 rfl (fun r1 s1 => x_br dX9_pump_9 (x_if (x_go 34 (x_st 36 dX9_pump_34 rfl (x_ret dX9_pump_36 rfl))) (x_go 12 (x_st 13 dX9_pump_12 rfl (x_st 14 dX9_pump_13 rfl (x_st 15 dX9_pump_14 rfl (x_st 18 dX9_pump_15 rfl (x_ci 21 [vr 32 0, vi x1, vi x2, vi x3] [] dX9_pump_18 rfl (fun r2 s2 => x_br dX9_pump_21 (x_if (x_go 34 (x_st 36 dX9_pump_34 rfl (x_ret dX9_pump_36 rfl))) (x_go 24 (x_st 25 dX9_pump_24 rfl (x_st 26 dX9_pump_25 rfl (x_st 27 dX9_pump_26 rfl (x_st 28 dX9_pump_27 rfl (x_ci 31 [vr 32 0, vi x1, vi x2, vi x3] [] dX9_pump_28 rfl (fun r3 s3 => x_br dX9_pump_31 (x_if (x_go 34 (x_st 36 dX9_pump_34 rfl (x_ret dX9_pump_36 rfl))) (x_go 37 (x_st 38 dX9_pump_37 rfl (x_cv 41 [vr 32 0, vi x1, vi x2, vi x3] [] dX9_pump_38 rfl (fun s4 => x_st 42 dX9_pump_41 rfl (x_br dX9_pump_42 (x_if (x_go 45 (x_st 46 dX9_pump_45 rfl (x_st 49 dX9_pump_46 rfl (x_st 52 dX9_pump_49 rfl (x_st 53 dX9_pump_52 rfl (x_st 54 dX9_pump_53 rfl (x_st 55 dX9_pump_54 rfl (x_st 56 dX9_pump_55 rfl (x_br dX9_pump_56 (x_if (x_go 57 (x_st 72 dX9_pump_57 rfl (x_ret dX9_pump_72 rfl))) x_no)))))))))) (x_go 60 (x_st 61 dX9_pump_60 rfl (x_st 64 dX9_pump_61 rfl (x_st 67 dX9_pump_64 rfl (x_st 68 dX9_pump_67 rfl (x_st 69 dX9_pump_68 rfl (x_st 70 dX9_pump_69 rfl (x_st 71 dX9_pump_70 rfl (x_br dX9_pump_71 (x_if (x_go 72 (x_ret dX9_pump_72 rfl)) x_no)))))))))))))))))))))))))))))))))))))))
theorem dX9_all_0 : decode cX9_all 0 = .ok (.iload_n 1, 1) := by decide +kernel
theorem dX9_all_1 : decode cX9_all 1 = .ok (.i2l, 1) := by decide +kernel
theorem dX9_all_2 : decode cX9_all 2 = .ok (.lconst 0, 1) := by decide +kernel
theorem dX9_all_3 : decode cX9_all 3 = .ok (.ldc2_w 106, 3) := by decide +kernel
theorem dX9_all_6 : decode cX9_all 6 = .ok (.invokestatic 85, 3) := by decide +kernel
theorem dX9_all_9 : decode cX9_all 9 = .ok (.ifCond .ne 6, 3) := by decide +kernel
theorem dX9_all_12 : decode cX9_all 12 = .ok (.bipush (-2), 2) := by decide +kernel
theorem dX9_all_14 : decode cX9_all 14 = .ok (.ireturn, 1) := by decide +kernel
theorem dX9_all_15 : decode cX9_all 15 = .ok (.aload_n 0, 1) := by decide +kernel
theorem dX9_all_16 : decode cX9_all 16 = .ok (.invokevirtual 278, 3) := by decide +kernel
theorem dX9_all_19 : decode cX9_all 19 = .ok (.istore_n 2, 1) := by decide +kernel
theorem dX9_all_20 : decode cX9_all 20 = .ok (.iload_n 1, 1) := by decide +kernel
theorem dX9_all_21 : decode cX9_all 21 = .ok (.ifCond .eq 8, 3) := by decide +kernel
theorem dX9_all_24 : decode cX9_all 24 = .ok (.iload_n 1, 1) := by decide +kernel
theorem dX9_all_25 : decode cX9_all 25 = .ok (.iconst 2, 1) := by decide +kernel
theorem dX9_all_26 : decode cX9_all 26 = .ok (.if_icmp .ne 16, 3) := by decide +kernel
theorem dX9_all_29 : decode cX9_all 29 = .ok (.iload_n 1, 1) := by decide +kernel
theorem dX9_all_30 : decode cX9_all 30 = .ok (.ifCond .ne 7, 3) := by decide +kernel
theorem dX9_all_33 : decode cX9_all 33 = .ok (.iload_n 2, 1) := by decide +kernel
theorem dX9_all_34 : decode cX9_all 34 = .ok (.goto 7, 3) := by decide +kernel
theorem dX9_all_37 : decode cX9_all 37 = .ok (.aload_n 0, 1) := by decide +kernel
theorem dX9_all_38 : decode cX9_all 38 = .ok (.invokevirtual 281, 3) := by decide +kernel
theorem dX9_all_41 : decode cX9_all 41 = .ok (.ireturn, 1) := by decide +kernel
theorem dX9_all_42 : decode cX9_all 42 = .ok (.iconst 0, 1) := by decide +kernel
theorem dX9_all_43 : decode cX9_all 43 = .ok (.istore_n 3, 1) := by decide +kernel
theorem dX9_all_44 : decode cX9_all 44 = .ok (.iload_n 1, 1) := by decide +kernel
theorem dX9_all_45 : decode cX9_all 45 = .ok (.iconst 1, 1) := by decide +kernel
theorem dX9_all_46 : decode cX9_all 46 = .ok (.if_icmp .ne 52, 3) := by decide +kernel
theorem dX9_all_49 : decode cX9_all 49 = .ok (.iconst 0, 1) := by decide +kernel
theorem dX9_all_50 : decode cX9_all 50 = .ok (.istore 4, 2) := by decide +kernel
theorem dX9_all_52 : decode cX9_all 52 = .ok (.iload 4, 2) := by decide +kernel
theorem dX9_all_54 : decode cX9_all 54 = .ok (.sipush 800, 3) := by decide +kernel
theorem dX9_all_57 : decode cX9_all 57 = .ok (.if_icmp .ge 39, 3) := by decide +kernel
theorem dX9_all_60 : decode cX9_all 60 = .ok (.iload_n 3, 1) := by decide +kernel
theorem dX9_all_61 : decode cX9_all 61 = .ok (.aload_n 0, 1) := by decide +kernel
theorem dX9_all_62 : decode cX9_all 62 = .ok (.getfield 44, 3) := by decide +kernel
theorem dX9_all_65 : decode cX9_all 65 = .ok (.iload 4, 2) := by decide +kernel
theorem dX9_all_67 : decode cX9_all 67 = .ok (.iaload, 1) := by decide +kernel
theorem dX9_all_68 : decode cX9_all 68 = .ok (.iconst (-1), 1) := by decide +kernel
theorem dX9_all_69 : decode cX9_all 69 = .ok (.if_icmp .ne 18, 3) := by decide +kernel
theorem dX9_all_72 : decode cX9_all 72 = .ok (.aload_n 0, 1) := by decide +kernel
theorem dX9_all_73 : decode cX9_all 73 = .ok (.getfield 41, 3) := by decide +kernel
theorem dX9_all_76 : decode cX9_all 76 = .ok (.iload 4, 2) := by decide +kernel
theorem dX9_all_78 : decode cX9_all 78 = .ok (.iaload, 1) := by decide +kernel
theorem dX9_all_79 : decode cX9_all 79 = .ok (.iconst (-1), 1) := by decide +kernel
theorem dX9_all_80 : decode cX9_all 80 = .ok (.if_icmp .eq 7, 3) := by decide +kernel
theorem dX9_all_83 : decode cX9_all 83 = .ok (.iconst 1, 1) := by decide +kernel
theorem dX9_all_84 : decode cX9_all 84 = .ok (.goto 4, 3) := by decide +kernel
theorem dX9_all_87 : decode cX9_all 87 = .ok (.iconst 0, 1) := by decide +kernel
theorem dX9_all_88 : decode cX9_all 88 = .ok (.iadd, 1) := by decide +kernel
theorem dX9_all_89 : decode cX9_all 89 = .ok (.istore_n 3, 1) := by decide +kernel
theorem dX9_all_90 : decode cX9_all 90 = .ok (.iinc 4 1, 3) := by decide +kernel
theorem dX9_all_93 : decode cX9_all 93 = .ok (.goto (-41), 3) := by decide +kernel
theorem dX9_all_96 : decode cX9_all 96 = .ok (.iload_n 3, 1) := by decide +kernel
theorem dX9_all_97 : decode cX9_all 97 = .ok (.ireturn, 1) := by decide +kernel
theorem dX9_all_98 : decode cX9_all 98 = .ok (.iconst 0, 1) := by decide +kernel
theorem dX9_all_99 : decode cX9_all 99 = .ok (.istore 4, 2) := by decide +kernel
theorem dX9_all_101 : decode cX9_all 101 = .ok (.iload 4, 2) := by decide +kernel
theorem dX9_all_103 : decode cX9_all 103 = .ok (.aload_n 0, 1) := by decide +kernel
theorem dX9_all_104 : decode cX9_all 104 = .ok (.getfield 82, 3) := by decide +kernel
theorem dX9_all_107 : decode cX9_all 107 = .ok (.if_icmp .ge 122, 3) := by decide +kernel
theorem dX9_all_110 : decode cX9_all 110 = .ok (.iconst 0, 1) := by decide +kernel
theorem dX9_all_111 : decode cX9_all 111 = .ok (.istore 5, 2) := by decide +kernel
theorem dX9_all_113 : decode cX9_all 113 = .ok (.iload 5, 2) := by decide +kernel
theorem dX9_all_115 : decode cX9_all 115 = .ok (.aload_n 0, 1) := by decide +kernel
theorem dX9_all_116 : decode cX9_all 116 = .ok (.getfield 82, 3) := by decide +kernel
theorem dX9_all_119 : decode cX9_all 119 = .ok (.if_icmp .ge 104, 3) := by decide +kernel
theorem dX9_all_122 : decode cX9_all 122 = .ok (.aload_n 0, 1) := by decide +kernel
theorem dX9_all_123 : decode cX9_all 123 = .ok (.getfield 26, 3) := by decide +kernel
theorem dX9_all_126 : decode cX9_all 126 = .ok (.iconst 5, 1) := by decide +kernel
theorem dX9_all_127 : decode cX9_all 127 = .ok (.iload 4, 2) := by decide +kernel
theorem dX9_all_129 : decode cX9_all 129 = .ok (.imul, 1) := by decide +kernel
theorem dX9_all_130 : decode cX9_all 130 = .ok (.iconst 2, 1) := by decide +kernel
theorem dX9_all_131 : decode cX9_all 131 = .ok (.iadd, 1) := by decide +kernel
theorem dX9_all_132 : decode cX9_all 132 = .ok (.iaload, 1) := by decide +kernel
theorem dX9_all_133 : decode cX9_all 133 = .ok (.aload_n 0, 1) := by decide +kernel
theorem dX9_all_134 : decode cX9_all 134 = .ok (.getfield 26, 3) := by decide +kernel
theorem dX9_all_137 : decode cX9_all 137 = .ok (.iconst 5, 1) := by decide +kernel
theorem dX9_all_138 : decode cX9_all 138 = .ok (.iload 5, 2) := by decide +kernel
theorem dX9_all_140 : decode cX9_all 140 = .ok (.imul, 1) := by decide +kernel
theorem dX9_all_141 : decode cX9_all 141 = .ok (.iconst 2, 1) := by decide +kernel
theorem dX9_all_142 : decode cX9_all 142 = .ok (.iadd, 1) := by decide +kernel
theorem dX9_all_143 : decode cX9_all 143 = .ok (.iaload, 1) := by decide +kernel
theorem dX9_all_144 : decode cX9_all 144 = .ok (.if_icmp .ne 29, 3) := by decide +kernel
theorem dX9_all_147 : decode cX9_all 147 = .ok (.aload_n 0, 1) := by decide +kernel
theorem dX9_all_148 : decode cX9_all 148 = .ok (.getfield 32, 3) := by decide +kernel
theorem dX9_all_151 : decode cX9_all 151 = .ok (.iload 4, 2) := by decide +kernel
theorem dX9_all_153 : decode cX9_all 153 = .ok (.iaload, 1) := by decide +kernel
theorem dX9_all_154 : decode cX9_all 154 = .ok (.iconst (-1), 1) := by decide +kernel
theorem dX9_all_155 : decode cX9_all 155 = .ok (.if_icmp .eq 18, 3) := by decide +kernel
theorem dX9_all_158 : decode cX9_all 158 = .ok (.aload_n 0, 1) := by decide +kernel
theorem dX9_all_159 : decode cX9_all 159 = .ok (.getfield 32, 3) := by decide +kernel
theorem dX9_all_162 : decode cX9_all 162 = .ok (.iload 5, 2) := by decide +kernel
theorem dX9_all_164 : decode cX9_all 164 = .ok (.iaload, 1) := by decide +kernel
theorem dX9_all_165 : decode cX9_all 165 = .ok (.iconst (-1), 1) := by decide +kernel
theorem dX9_all_166 : decode cX9_all 166 = .ok (.if_icmp .eq 7, 3) := by decide +kernel
theorem dX9_all_169 : decode cX9_all 169 = .ok (.iconst 1, 1) := by decide +kernel
theorem dX9_all_170 : decode cX9_all 170 = .ok (.goto 4, 3) := by decide +kernel
theorem dX9_all_173 : decode cX9_all 173 = .ok (.iconst 0, 1) := by decide +kernel
theorem dX9_all_174 : decode cX9_all 174 = .ok (.istore 6, 2) := by decide +kernel
theorem dX9_all_176 : decode cX9_all 176 = .ok (.iload_n 3, 1) := by decide +kernel
theorem dX9_all_177 : decode cX9_all 177 = .ok (.iload 6, 2) := by decide +kernel
theorem dX9_all_179 : decode cX9_all 179 = .ok (.ifCond .eq 35, 3) := by decide +kernel
theorem dX9_all_182 : decode cX9_all 182 = .ok (.aload_n 0, 1) := by decide +kernel
theorem dX9_all_183 : decode cX9_all 183 = .ok (.iload 4, 2) := by decide +kernel
theorem dX9_all_185 : decode cX9_all 185 = .ok (.iload 5, 2) := by decide +kernel
theorem dX9_all_187 : decode cX9_all 187 = .ok (.invokevirtual 284, 3) := by decide +kernel
theorem dX9_all_190 : decode cX9_all 190 = .ok (.ifCond .eq 24, 3) := by decide +kernel
theorem dX9_all_193 : decode cX9_all 193 = .ok (.aload_n 0, 1) := by decide +kernel
theorem dX9_all_194 : decode cX9_all 194 = .ok (.getfield 32, 3) := by decide +kernel
theorem dX9_all_197 : decode cX9_all 197 = .ok (.iload 4, 2) := by decide +kernel
theorem dX9_all_199 : decode cX9_all 199 = .ok (.iaload, 1) := by decide +kernel
theorem dX9_all_200 : decode cX9_all 200 = .ok (.aload_n 0, 1) := by decide +kernel
theorem dX9_all_201 : decode cX9_all 201 = .ok (.getfield 32, 3) := by decide +kernel
theorem dX9_all_204 : decode cX9_all 204 = .ok (.iload 5, 2) := by decide +kernel
theorem dX9_all_206 : decode cX9_all 206 = .ok (.iaload, 1) := by decide +kernel
theorem dX9_all_207 : decode cX9_all 207 = .ok (.if_icmp .le 7, 3) := by decide +kernel
theorem dX9_all_210 : decode cX9_all 210 = .ok (.iconst 1, 1) := by decide +kernel
theorem dX9_all_211 : decode cX9_all 211 = .ok (.goto 4, 3) := by decide +kernel
theorem dX9_all_214 : decode cX9_all 214 = .ok (.iconst 0, 1) := by decide +kernel
theorem dX9_all_215 : decode cX9_all 215 = .ok (.iadd, 1) := by decide +kernel
theorem dX9_all_216 : decode cX9_all 216 = .ok (.istore_n 3, 1) := by decide +kernel
theorem dX9_all_217 : decode cX9_all 217 = .ok (.iinc 5 1, 3) := by decide +kernel
theorem dX9_all_220 : decode cX9_all 220 = .ok (.goto (-107), 3) := by decide +kernel
theorem dX9_all_223 : decode cX9_all 223 = .ok (.iinc 4 1, 3) := by decide +kernel
theorem dX9_all_226 : decode cX9_all 226 = .ok (.goto (-125), 3) := by decide +kernel
theorem dX9_all_229 : decode cX9_all 229 = .ok (.iload_n 3, 1) := by decide +kernel
theorem dX9_all_230 : decode cX9_all 230 = .ok (.ireturn, 1) := by decide +kernel
theorem qX9_all (d : Nat) (x1 : Int) (s : Sg) : RUN (d + 1) mX9_all [vr 32 0, vi x1] s = bI (RUN d mX9_in [vl x1, vl 0, vl 3] s) (fun r1 s1 => if r1 = 0 then (some (some (vi (-2)), s1)) else (bI (RUN d mX9_badness [vr 32 0] s1) (fun r2 s2 => if x1 = 0 then (EV (d + 1) mX9_all (29, [vr 32 0, vi x1, vi r2, UU, UU, UU, UU], [], s2)) else (if x1 = 2 then (EV (d + 1) mX9_all (29, [vr 32 0, vi x1, vi r2, UU, UU, UU, UU], [], s2)) else (if x1 = 1 then (EV (d + 1) mX9_all (52, [vr 32 0, vi x1, vi r2, vi 0, vi 0, UU, UU], [], s2)) else (EV (d + 1) mX9_all (101, [vr 32 0, vi x1, vi r2, vi 0, vi 0, UU, UU], [], s2))))))) := x_run rfl (x_st 1 dX9_all_0 rfl (x_st 2 dX9_all_1 rfl (x_st 3 dX9_all_2 rfl (x_st 6 dX9_all_3 rfl (x_ci 9 [vr 32 0, vi x1, UU, UU, UU, UU, UU] [] dX9_all_6 rfl (fun r1 s1 => x_br dX9_all_9 (x_if (x_go 12 (x_st 14 dX9_all_12 rfl (x_ret dX9_all_14 rfl))) (x_go 15 (x_st 16 dX9_all_15 rfl (x_ci 19 [vr 32 0, vi x1, UU, UU, UU, UU, UU] [] dX9_all_16 rfl (fun r2 s2 => x_so 20 [vr 32 0, vi x1, vi r2, UU, UU, UU, UU] dX9_all_19 rfl (x_st 21 dX9_all_20 rfl (x_br dX9_all_21 (x_if (x_go 29 (rfl)) (x_go 24 (x_st 25 dX9_all_24 rfl (x_st 26 dX9_all_25 rfl (x_br dX9_all_26 (x_if (x_go 29 (rfl)) (x_go 42 (x_st 43 dX9_all_42 rfl (x_so 44 [vr 32 0, vi x1, vi r2, vi 0, UU, UU, UU] dX9_all_43 rfl (x_st 45 dX9_all_44 rfl (x_st 46 dX9_all_45 rfl (x_br dX9_all_46 (x_if (x_go 49 (x_st 50 dX9_all_49 rfl (x_so 52 [vr 32 0, vi x1, vi r2, vi 0, vi 0, UU, UU] dX9_all_50 rfl (rfl)))) (x_go 98 (x_st 99 dX9_all_98 rfl (x_so 101 [vr 32 0, vi x1, vi r2, vi 0, vi 0, UU, UU] dX9_all_99 rfl (rfl))))))))))))))))))))))))))))))
theorem qX9_all_29 (d : Nat) (x1 : Int) (x2 : Int) (z3 : PV) (z4 : PV) (z5 : PV) (z6 : PV) (s : Sg) : EV (d + 1) mX9_all (29, [vr 32 0, vi x1, vi x2, z3, z4, z5, z6], [], s) = if x1 = 0 then (some (some (vi x2), s)) else (bI (RUN d mX9_lastOff [vr 32 0] s) (fun r1 s1 => some (some (vi r1), s1))) := x_st 30 dX9_all_29 rfl (x_br dX9_all_30 (x_if (x_go 33 (x_st 34 dX9_all_33 rfl (x_st 41 dX9_all_34 rfl (x_ret dX9_all_41 rfl)))) (x_go 37 (x_st 38 dX9_all_37 rfl (x_ci 41 [vr 32 0, vi x1, vi x2, z3, z4, z5, z6] [] dX9_all_38 rfl (fun r1 s1 => x_ret dX9_all_41 rfl))))))
theorem qX9_all_52 (d : Nat) (z1 : PV) (z2 : PV) (x3 : Int) (x4 : Int) (z5 : PV) (z6 : PV) (s : Sg) : EV d mX9_all (52, [vr 32 0, z1, z2, vi x3, vi x4, z5, z6], [], s) = if x4 < 800 then (if inb x4 800 then (if (s 43 0 (Int.toNat x4)) = (-1) then (if inb x4 800 then (if (s 42 0 (Int.toNat x4)) = (-1) then (EV d mX9_all (87, [vr 32 0, z1, z2, vi x3, vi x4, z5, z6], [vi x3], s)) else (EV d mX9_all (88, [vr 32 0, z1, z2, vi x3, vi x4, z5, z6], [vi 1, vi x3], s))) else none) else (EV d mX9_all (87, [vr 32 0, z1, z2, vi x3, vi x4, z5, z6], [vi x3], s))) else none) else (some (some (vi x3), s)) := x_st 54 dX9_all_52 rfl (x_st 57 dX9_all_54 rfl (x_br dX9_all_57 (x_if (x_go 60 (x_st 61 dX9_all_60 rfl (x_st 62 dX9_all_61 rfl (x_st 65 dX9_all_62 rfl (x_st 67 dX9_all_65 rfl (x_br dX9_all_67 (x_if (x_go 68 (x_st 69 dX9_all_68 rfl (x_br dX9_all_69 (x_if (x_go 72 (x_st 73 dX9_all_72 rfl (x_st 76 dX9_all_73 rfl (x_st 78 dX9_all_76 rfl (x_br dX9_all_78 (x_if (x_go 79 (x_st 80 dX9_all_79 rfl (x_br dX9_all_80 (x_if (x_go 87 (rfl)) (x_go 83 (x_st 84 dX9_all_83 rfl (x_st 88 dX9_all_84 rfl (rfl)))))))) x_no)))))) (x_go 87 (rfl)))))) x_no))))))) (x_go 96 (x_st 97 dX9_all_96 rfl (x_ret dX9_all_97 rfl))))))
theorem qX9_all_101 (d : Nat) (z1 : PV) (z2 : PV) (x3 : Int) (x4 : Int) (z5 : PV) (z6 : PV) (s : Sg) : EV d mX9_all (101, [vr 32 0, z1, z2, vi x3, vi x4, z5, z6], [], s) = if x4 < (s 32 0 9) then (EV d mX9_all (113, [vr 32 0, z1, z2, vi x3, vi x4, vi 0, z6], [], s)) else (some (some (vi x3), s)) := x_st 103 dX9_all_101 rfl (x_st 104 dX9_all_103 rfl (x_st 107 dX9_all_104 rfl (x_br dX9_all_107 (x_if (x_go 110 (x_st 111 dX9_all_110 rfl (x_so 113 [vr 32 0, z1, z2, vi x3, vi x4, vi 0, z6] dX9_all_111 rfl (rfl)))) (x_go 229 (x_st 230 dX9_all_229 rfl (x_ret dX9_all_230 rfl)))))))
theorem qX9_all_87 (d : Nat) (z1 : PV) (z2 : PV) (z3 : PV) (x4 : Int) (z5 : PV) (z6 : PV) (y0 : Int) (s : Sg) : EV d mX9_all (87, [vr 32 0, z1, z2, z3, vi x4, z5, z6], [vi y0], s) = EV d mX9_all (88, [vr 32 0, z1, z2, z3, vi x4, z5, z6], [vi 0, vi y0], s) := x_st 88 dX9_all_87 rfl (rfl)
theorem qX9_all_88 (d : Nat) (z1 : PV) (z2 : PV) (z3 : PV) (x4 : Int) (z5 : PV) (z6 : PV) (y0 : Int) (y1 : Int) (s : Sg) : EV d mX9_all (88, [vr 32 0, z1, z2, z3, vi x4, z5, z6], [vi y0, vi y1], s) = EV d mX9_all (52, [vr 32 0, z1, z2, vi (w32 (y1 + y0)), vi (w32 (x4 + 1)), z5, z6], [], s) := x_st 89 dX9_all_88 rfl (x_so 90 [vr 32 0, z1, z2, vi (w32 (y1 + y0)), vi x4, z5, z6] dX9_all_89 rfl (x_so 93 [vr 32 0, z1, z2, vi (w32 (y1 + y0)), vi (w32 (x4 + 1)), z5, z6] dX9_all_90 rfl (x_st 52 dX9_all_93 rfl (rfl))))
theorem qX9_all_113 (d : Nat) (z1 : PV) (z2 : PV) (x3 : Int) (x4 : Int) (x5 : Int) (z6 : PV) (s : Sg) : EV d mX9_all (113, [vr 32 0, z1, z2, vi x3, vi x4, vi x5, z6], [], s) = if x5 < (s 32 0 9) then (if inb (w32 ((w32 (5 * x4)) + 2)) 30 then (if inb (w32 ((w32 (5 * x5)) + 2)) 30 then (if (s 37 0 (Int.toNat (w32 ((w32 (5 * x4)) + 2)))) = (s 37 0 (Int.toNat (w32 ((w32 (5 * x5)) + 2)))) then (if inb x4 6 then (if (s 39 0 (Int.toNat x4)) = (-1) then (EV d mX9_all (173, [vr 32 0, z1, z2, vi x3, vi x4, vi x5, z6], [], s)) else (if inb x5 6 then (if (s 39 0 (Int.toNat x5)) = (-1) then (EV d mX9_all (173, [vr 32 0, z1, z2, vi x3, vi x4, vi x5, z6], [], s)) else (EV d mX9_all (174, [vr 32 0, z1, z2, vi x3, vi x4, vi x5, z6], [vi 1], s))) else none)) else none) else (EV d mX9_all (173, [vr 32 0, z1, z2, vi x3, vi x4, vi x5, z6], [], s))) else none) else none) else (EV d mX9_all (101, [vr 32 0, z1, z2, vi x3, vi (w32 (x4 + 1)), vi x5, z6], [], s)) := x_st 115 dX9_all_113 rfl (x_st 116 dX9_all_115 rfl (x_st 119 dX9_all_116 rfl (x_br dX9_all_119 (x_if (x_go 122 (x_st 123 dX9_all_122 rfl (x_st 126 dX9_all_123 rfl (x_st 127 dX9_all_126 rfl (x_st 129 dX9_all_127 rfl (x_st 130 dX9_all_129 rfl (x_st 131 dX9_all_130 rfl (x_st 132 dX9_all_131 rfl (x_br dX9_all_132 (x_if (x_go 133 (x_st 134 dX9_all_133 rfl (x_st 137 dX9_all_134 rfl (x_st 138 dX9_all_137 rfl (x_st 140 dX9_all_138 rfl (x_st 141 dX9_all_140 rfl (x_st 142 dX9_all_141 rfl (x_st 143 dX9_all_142 rfl (x_br dX9_all_143 (x_if (x_go 144 (x_br dX9_all_144 (x_if (x_go 147 (x_st 148 dX9_all_147 rfl (x_st 151 dX9_all_148 rfl (x_st 153 dX9_all_151 rfl (x_br dX9_all_153 (x_if (x_go 154 (x_st 155 dX9_all_154 rfl (x_br dX9_all_155 (x_if (x_go 173 (rfl)) (x_go 158 (x_st 159 dX9_all_158 rfl (x_st 162 dX9_all_159 rfl (x_st 164 dX9_all_162 rfl (x_br dX9_all_164 (x_if (x_go 165 (x_st 166 dX9_all_165 rfl (x_br dX9_all_166 (x_if (x_go 173 (rfl)) (x_go 169 (x_st 170 dX9_all_169 rfl (x_st 174 dX9_all_170 rfl (rfl)))))))) x_no)))))))))) x_no)))))) (x_go 173 (rfl))))) x_no)))))))))) x_no)))))))))) (x_go 223 (x_so 226 [vr 32 0, z1, z2, vi x3, vi (w32 (x4 + 1)), vi x5, z6] dX9_all_223 rfl (x_st 101 dX9_all_226 rfl (rfl))))))))
theorem qX9_all_173 (d : Nat) (z1 : PV) (z2 : PV) (x3 : Int) (x4 : Int) (x5 : Int) (z6 : PV) (s : Sg) : EV d mX9_all (173, [vr 32 0, z1, z2, vi x3, vi x4, vi x5, z6], [], s) = EV d mX9_all (174, [vr 32 0, z1, z2, vi x3, vi x4, vi x5, z6], [vi 0], s) := x_st 174 dX9_all_173 rfl (rfl)
theorem qX9_all_174 (d : Nat) (z1 : PV) (z2 : PV) (x3 : Int) (x4 : Int) (x5 : Int) (z6 : PV) (y0 : Int) (s : Sg) : EV (d + 1) mX9_all (174, [vr 32 0, z1, z2, vi x3, vi x4, vi x5, z6], [vi y0], s) = if y0 = 0 then (EV (d + 1) mX9_all (214, [vr 32 0, z1, z2, vi x3, vi x4, vi x5, vi y0], [vi x3], s)) else (bI (RUN d mX9_isAhead [vr 32 0, vi x4, vi x5] s) (fun r1 s1 => if r1 = 0 then (EV (d + 1) mX9_all (214, [vr 32 0, z1, z2, vi x3, vi x4, vi x5, vi y0], [vi x3], s1)) else (if inb x4 6 then (if inb x5 6 then (if (s1 39 0 (Int.toNat x5)) < (s1 39 0 (Int.toNat x4)) then (EV (d + 1) mX9_all (215, [vr 32 0, z1, z2, vi x3, vi x4, vi x5, vi y0], [vi 1, vi x3], s1)) else (EV (d + 1) mX9_all (214, [vr 32 0, z1, z2, vi x3, vi x4, vi x5, vi y0], [vi x3], s1))) else none) else none))) := x_so 176 [vr 32 0, z1, z2, vi x3, vi x4, vi x5, vi y0] dX9_all_174 rfl (x_st 177 dX9_all_176 rfl (x_st 179 dX9_all_177 rfl (x_br dX9_all_179 (x_if (x_go 214 (rfl)) (x_go 182 (x_st 183 dX9_all_182 rfl (x_st 185 dX9_all_183 rfl (x_st 187 dX9_all_185 rfl (x_ci 190 [vr 32 0, z1, z2, vi x3, vi x4, vi x5, vi y0] [vi x3] dX9_all_187 rfl (fun r1 s1 => x_br dX9_all_190 (x_if (x_go 214 (rfl)) (x_go 193 (x_st 194 dX9_all_193 rfl (x_st 197 dX9_all_194 rfl (x_st 199 dX9_all_197 rfl (x_br dX9_all_199 (x_if (x_go 200 (x_st 201 dX9_all_200 rfl (x_st 204 dX9_all_201 rfl (x_st 206 dX9_all_204 rfl (x_br dX9_all_206 (x_if (x_go 207 (x_br dX9_all_207 (x_if (x_go 210 (x_st 211 dX9_all_210 rfl (x_st 215 dX9_all_211 rfl (rfl)))) (x_go 214 (rfl))))) x_no)))))) x_no)))))))))))))))))
theorem qX9_all_214 (d : Nat) (z1 : PV) (z2 : PV) (z3 : PV) (x4 : Int) (x5 : Int) (z6 : PV) (y0 : Int) (s : Sg) : EV d mX9_all (214, [vr 32 0, z1, z2, z3, vi x4, vi x5, z6], [vi y0], s) = EV d mX9_all (215, [vr 32 0, z1, z2, z3, vi x4, vi x5, z6], [vi 0, vi y0], s) := x_st 215 dX9_all_214 rfl (rfl)
theorem qX9_all_215 (d : Nat) (z1 : PV) (z2 : PV) (z3 : PV) (x4 : Int) (x5 : Int) (z6 : PV) (y0 : Int) (y1 : Int) (s : Sg) : EV d mX9_all (215, [vr 32 0, z1, z2, z3, vi x4, vi x5, z6], [vi y0, vi y1], s) = EV d mX9_all (113, [vr 32 0, z1, z2, vi (w32 (y1 + y0)), vi x4, vi (w32 (x5 + 1)), z6], [], s) := x_st 216 dX9_all_215 rfl (x_so 217 [vr 32 0, z1, z2, vi (w32 (y1 + y0)), vi x4, vi x5, z6] dX9_all_216 rfl (x_so 220 [vr 32 0, z1, z2, vi (w32 (y1 + y0)), vi x4, vi (w32 (x5 + 1)), z6] dX9_all_217 rfl (x_st 113 dX9_all_220 rfl (rfl))))
theorem dX9_lane_0 : decode cX9_lane 0 = .ok (.aload_n 0, 1) := by decide +kernel
theorem dX9_lane_1 : decode cX9_lane 1 = .ok (.iload_n 1, 1) := by decide +kernel
theorem dX9_lane_2 : decode cX9_lane 2 = .ok (.invokevirtual 91, 3) := by decide +kernel
theorem dX9_lane_5 : decode cX9_lane 5 = .ok (.ifCond .eq 13, 3) := by decide +kernel
theorem dX9_lane_8 : decode cX9_lane 8 = .ok (.iload_n 2, 1) := by decide +kernel
theorem dX9_lane_9 : decode cX9_lane 9 = .ok (.i2l, 1) := by decide +kernel
theorem dX9_lane_10 : decode cX9_lane 10 = .ok (.lconst 0, 1) := by decide +kernel
theorem dX9_lane_11 : decode cX9_lane 11 = .ok (.lconst 1, 1) := by decide +kernel
theorem dX9_lane_12 : decode cX9_lane 12 = .ok (.invokestatic 85, 3) := by decide +kernel
theorem dX9_lane_15 : decode cX9_lane 15 = .ok (.ifCond .ne 6, 3) := by decide +kernel
theorem dX9_lane_18 : decode cX9_lane 18 = .ok (.bipush (-2), 2) := by decide +kernel
theorem dX9_lane_20 : decode cX9_lane 20 = .ok (.ireturn, 1) := by decide +kernel
theorem dX9_lane_21 : decode cX9_lane 21 = .ok (.aload_n 0, 1) := by decide +kernel
theorem dX9_lane_22 : decode cX9_lane 22 = .ok (.getfield 26, 3) := by decide +kernel
theorem dX9_lane_25 : decode cX9_lane 25 = .ok (.iconst 5, 1) := by decide +kernel
theorem dX9_lane_26 : decode cX9_lane 26 = .ok (.iload_n 1, 1) := by decide +kernel
theorem dX9_lane_27 : decode cX9_lane 27 = .ok (.imul, 1) := by decide +kernel
theorem dX9_lane_28 : decode cX9_lane 28 = .ok (.iconst 2, 1) := by decide +kernel
theorem dX9_lane_29 : decode cX9_lane 29 = .ok (.iadd, 1) := by decide +kernel
theorem dX9_lane_30 : decode cX9_lane 30 = .ok (.iaload, 1) := by decide +kernel
theorem dX9_lane_31 : decode cX9_lane 31 = .ok (.istore_n 3, 1) := by decide +kernel
theorem dX9_lane_32 : decode cX9_lane 32 = .ok (.iconst (-1), 1) := by decide +kernel
theorem dX9_lane_33 : decode cX9_lane 33 = .ok (.istore 4, 2) := by decide +kernel
theorem dX9_lane_35 : decode cX9_lane 35 = .ok (.iconst (-1), 1) := by decide +kernel
theorem dX9_lane_36 : decode cX9_lane 36 = .ok (.istore 5, 2) := by decide +kernel
theorem dX9_lane_38 : decode cX9_lane 38 = .ok (.iconst 0, 1) := by decide +kernel
theorem dX9_lane_39 : decode cX9_lane 39 = .ok (.istore 6, 2) := by decide +kernel
theorem dX9_lane_41 : decode cX9_lane 41 = .ok (.iload 6, 2) := by decide +kernel
theorem dX9_lane_43 : decode cX9_lane 43 = .ok (.iconst 4, 1) := by decide +kernel
theorem dX9_lane_44 : decode cX9_lane 44 = .ok (.if_icmp .ge 72, 3) := by decide +kernel
theorem dX9_lane_47 : decode cX9_lane 47 = .ok (.aload_n 0, 1) := by decide +kernel
theorem dX9_lane_48 : decode cX9_lane 48 = .ok (.getfield 26, 3) := by decide +kernel
theorem dX9_lane_51 : decode cX9_lane 51 = .ok (.iconst 5, 1) := by decide +kernel
theorem dX9_lane_52 : decode cX9_lane 52 = .ok (.iload_n 1, 1) := by decide +kernel
theorem dX9_lane_53 : decode cX9_lane 53 = .ok (.imul, 1) := by decide +kernel
theorem dX9_lane_54 : decode cX9_lane 54 = .ok (.iconst 2, 1) := by decide +kernel
theorem dX9_lane_55 : decode cX9_lane 55 = .ok (.iadd, 1) := by decide +kernel
theorem dX9_lane_56 : decode cX9_lane 56 = .ok (.iload 6, 2) := by decide +kernel
theorem dX9_lane_58 : decode cX9_lane 58 = .ok (.iastore, 1) := by decide +kernel
theorem dX9_lane_59 : decode cX9_lane 59 = .ok (.aload_n 0, 1) := by decide +kernel
theorem dX9_lane_60 : decode cX9_lane 60 = .ok (.iload 6, 2) := by decide +kernel
theorem dX9_lane_62 : decode cX9_lane 62 = .ok (.aload_n 0, 1) := by decide +kernel
theorem dX9_lane_63 : decode cX9_lane 63 = .ok (.iload 6, 2) := by decide +kernel
theorem dX9_lane_65 : decode cX9_lane 65 = .ok (.invokevirtual 260, 3) := by decide +kernel
theorem dX9_lane_68 : decode cX9_lane 68 = .ok (.invokevirtual 263, 3) := by decide +kernel
theorem dX9_lane_71 : decode cX9_lane 71 = .ok (.aload_n 0, 1) := by decide +kernel
theorem dX9_lane_72 : decode cX9_lane 72 = .ok (.getfield 32, 3) := by decide +kernel
theorem dX9_lane_75 : decode cX9_lane 75 = .ok (.iload_n 1, 1) := by decide +kernel
theorem dX9_lane_76 : decode cX9_lane 76 = .ok (.iaload, 1) := by decide +kernel
theorem dX9_lane_77 : decode cX9_lane 77 = .ok (.iconst (-1), 1) := by decide +kernel
theorem dX9_lane_78 : decode cX9_lane 78 = .ok (.if_icmp .eq 32, 3) := by decide +kernel
theorem dX9_lane_81 : decode cX9_lane 81 = .ok (.iload 4, 2) := by decide +kernel
theorem dX9_lane_83 : decode cX9_lane 83 = .ok (.iconst (-1), 1) := by decide +kernel
theorem dX9_lane_84 : decode cX9_lane 84 = .ok (.if_icmp .eq 14, 3) := by decide +kernel
theorem dX9_lane_87 : decode cX9_lane 87 = .ok (.aload_n 0, 1) := by decide +kernel
theorem dX9_lane_88 : decode cX9_lane 88 = .ok (.getfield 32, 3) := by decide +kernel
theorem dX9_lane_91 : decode cX9_lane 91 = .ok (.iload_n 1, 1) := by decide +kernel
theorem dX9_lane_92 : decode cX9_lane 92 = .ok (.iaload, 1) := by decide +kernel
theorem dX9_lane_93 : decode cX9_lane 93 = .ok (.iload 5, 2) := by decide +kernel
theorem dX9_lane_95 : decode cX9_lane 95 = .ok (.if_icmp .ge 15, 3) := by decide +kernel
theorem dX9_lane_98 : decode cX9_lane 98 = .ok (.iload 6, 2) := by decide +kernel
theorem dX9_lane_100 : decode cX9_lane 100 = .ok (.istore 4, 2) := by decide +kernel
theorem dX9_lane_102 : decode cX9_lane 102 = .ok (.aload_n 0, 1) := by decide +kernel
theorem dX9_lane_103 : decode cX9_lane 103 = .ok (.getfield 32, 3) := by decide +kernel
theorem dX9_lane_106 : decode cX9_lane 106 = .ok (.iload_n 1, 1) := by decide +kernel
theorem dX9_lane_107 : decode cX9_lane 107 = .ok (.iaload, 1) := by decide +kernel
theorem dX9_lane_108 : decode cX9_lane 108 = .ok (.istore 5, 2) := by decide +kernel
theorem dX9_lane_110 : decode cX9_lane 110 = .ok (.iinc 6 1, 3) := by decide +kernel
theorem dX9_lane_113 : decode cX9_lane 113 = .ok (.goto (-72), 3) := by decide +kernel
theorem dX9_lane_116 : decode cX9_lane 116 = .ok (.aload_n 0, 1) := by decide +kernel
theorem dX9_lane_117 : decode cX9_lane 117 = .ok (.getfield 26, 3) := by decide +kernel
theorem dX9_lane_120 : decode cX9_lane 120 = .ok (.iconst 5, 1) := by decide +kernel
theorem dX9_lane_121 : decode cX9_lane 121 = .ok (.iload_n 1, 1) := by decide +kernel
theorem dX9_lane_122 : decode cX9_lane 122 = .ok (.imul, 1) := by decide +kernel
theorem dX9_lane_123 : decode cX9_lane 123 = .ok (.iconst 2, 1) := by decide +kernel
theorem dX9_lane_124 : decode cX9_lane 124 = .ok (.iadd, 1) := by decide +kernel
theorem dX9_lane_125 : decode cX9_lane 125 = .ok (.iload_n 3, 1) := by decide +kernel
theorem dX9_lane_126 : decode cX9_lane 126 = .ok (.iastore, 1) := by decide +kernel
theorem dX9_lane_127 : decode cX9_lane 127 = .ok (.iload_n 2, 1) := by decide +kernel
theorem dX9_lane_128 : decode cX9_lane 128 = .ok (.ifCond .ne 8, 3) := by decide +kernel
theorem dX9_lane_131 : decode cX9_lane 131 = .ok (.iload 4, 2) := by decide +kernel
theorem dX9_lane_133 : decode cX9_lane 133 = .ok (.goto 5, 3) := by decide +kernel
theorem dX9_lane_136 : decode cX9_lane 136 = .ok (.iload 5, 2) := by decide +kernel
theorem dX9_lane_138 : decode cX9_lane 138 = .ok (.ireturn, 1) := by decide +kernel
theorem qX9_lane (d : Nat) (x1 : Int) (x2 : Int) (s : Sg) : RUN (d + 1) mX9_lane [vr 32 0, vi x1, vi x2] s = bI (RUN d mX9_isCar [vr 32 0, vi x1] s) (fun r1 s1 => if r1 = 0 then (some (some (vi (-2)), s1)) else (bI (RUN d mX9_in [vl x2, vl 0, vl 1] s1) (fun r2 s2 => if r2 = 0 then (some (some (vi (-2)), s2)) else (if inb (w32 ((w32 (5 * x1)) + 2)) 30 then (EV (d + 1) mX9_lane (41, [vr 32 0, vi x1, vi x2, vi (s2 37 0 (Int.toNat (w32 ((w32 (5 * x1)) + 2)))), vi (-1), vi (-1), vi 0], [], s2)) else none)))) := x_run rfl (x_st 1 dX9_lane_0 rfl (x_st 2 dX9_lane_1 rfl (x_ci 5 [vr 32 0, vi x1, vi x2, UU, UU, UU, UU] [] dX9_lane_2 rfl (fun r1 s1 => x_br dX9_lane_5 (x_if (x_go 18 (x_st 20 dX9_lane_18 rfl (x_ret dX9_lane_20 rfl))) (x_go 8 (x_st 9 dX9_lane_8 rfl (x_st 10 dX9_lane_9 rfl (x_st 11 dX9_lane_10 rfl (x_st 12 dX9_lane_11 rfl (x_ci 15 [vr 32 0, vi x1, vi x2, UU, UU, UU, UU] [] dX9_lane_12 rfl (fun r2 s2 => x_br dX9_lane_15 (x_if (x_go 18 (x_st 20 dX9_lane_18 rfl (x_ret dX9_lane_20 rfl))) (x_go 21 (x_st 22 dX9_lane_21 rfl (x_st 25 dX9_lane_22 rfl (x_st 26 dX9_lane_25 rfl (x_st 27 dX9_lane_26 rfl (x_st 28 dX9_lane_27 rfl (x_st 29 dX9_lane_28 rfl (x_st 30 dX9_lane_29 rfl (x_br dX9_lane_30 (x_if (x_go 31 (x_so 32 [vr 32 0, vi x1, vi x2, vi (s2 37 0 (Int.toNat (w32 ((w32 (5 * x1)) + 2)))), UU, UU, UU] dX9_lane_31 rfl (x_st 33 dX9_lane_32 rfl (x_so 35 [vr 32 0, vi x1, vi x2, vi (s2 37 0 (Int.toNat (w32 ((w32 (5 * x1)) + 2)))), vi (-1), UU, UU] dX9_lane_33 rfl (x_st 36 dX9_lane_35 rfl (x_so 38 [vr 32 0, vi x1, vi x2, vi (s2 37 0 (Int.toNat (w32 ((w32 (5 * x1)) + 2)))), vi (-1), vi (-1), UU] dX9_lane_36 rfl (x_st 39 dX9_lane_38 rfl (x_so 41 [vr 32 0, vi x1, vi x2, vi (s2 37 0 (Int.toNat (w32 ((w32 (5 * x1)) + 2)))), vi (-1), vi (-1), vi 0] dX9_lane_39 rfl (rfl))))))))) x_no)))))))))))))))))))))))
theorem qX9_lane_41 (d : Nat) (x1 : Int) (x2 : Int) (x3 : Int) (x4 : Int) (x5 : Int) (x6 : Int) (s : Sg) : EV (d + 1) mX9_lane (41, [vr 32 0, vi x1, vi x2, vi x3, vi x4, vi x5, vi x6], [], s) = if x6 < 4 then (if inb (w32 ((w32 (5 * x1)) + 2)) 30 then (bI (RUN d mX9_setOf [vr 32 0, vi x6] (up s 37 0 (Int.toNat (w32 ((w32 (5 * x1)) + 2))) x6)) (fun r1 s1 => bV (RUN d mX9_goes [vr 32 0, vi x6, vi r1] s1) (fun s2 => if inb x1 6 then (if (s2 39 0 (Int.toNat x1)) = (-1) then (EV (d + 1) mX9_lane (110, [vr 32 0, vi x1, vi x2, vi x3, vi x4, vi x5, vi x6], [], s2)) else (if x4 = (-1) then (EV (d + 1) mX9_lane (98, [vr 32 0, vi x1, vi x2, vi x3, vi x4, vi x5, vi x6], [], s2)) else (if inb x1 6 then (if (s2 39 0 (Int.toNat x1)) < x5 then (EV (d + 1) mX9_lane (98, [vr 32 0, vi x1, vi x2, vi x3, vi x4, vi x5, vi x6], [], s2)) else (EV (d + 1) mX9_lane (110, [vr 32 0, vi x1, vi x2, vi x3, vi x4, vi x5, vi x6], [], s2))) else none))) else none))) else none) else (if inb (w32 ((w32 (5 * x1)) + 2)) 30 then (if x2 = 0 then (some (some (vi x4), (up s 37 0 (Int.toNat (w32 ((w32 (5 * x1)) + 2))) x3))) else (some (some (vi x5), (up s 37 0 (Int.toNat (w32 ((w32 (5 * x1)) + 2))) x3)))) else none) := x_st 43 dX9_lane_41 rfl (x_st 44 dX9_lane_43 rfl (x_br dX9_lane_44 (x_if (x_go 47 (x_st 48 dX9_lane_47 rfl (x_st 51 dX9_lane_48 rfl (x_st 52 dX9_lane_51 rfl (x_st 53 dX9_lane_52 rfl (x_st 54 dX9_lane_53 rfl (x_st 55 dX9_lane_54 rfl (x_st 56 dX9_lane_55 rfl (x_st 58 dX9_lane_56 rfl (x_br dX9_lane_58 (x_if (x_go 59 (x_st 60 dX9_lane_59 rfl (x_st 62 dX9_lane_60 rfl (x_st 63 dX9_lane_62 rfl (x_st 65 dX9_lane_63 rfl (x_ci 68 [vr 32 0, vi x1, vi x2, vi x3, vi x4, vi x5, vi x6] [vi x6, vr 32 0] dX9_lane_65 rfl (fun r1 s1 => x_cv 71 [vr 32 0, vi x1, vi x2, vi x3, vi x4, vi x5, vi x6] [] dX9_lane_68 rfl (fun s2 => x_st 72 dX9_lane_71 rfl (x_st 75 dX9_lane_72 rfl (x_st 76 dX9_lane_75 rfl (x_br dX9_lane_76 (x_if (x_go 77 (x_st 78 dX9_lane_77 rfl (x_br dX9_lane_78 (x_if (x_go 110 (rfl)) (x_go 81 (x_st 83 dX9_lane_81 rfl (x_st 84 dX9_lane_83 rfl (x_br dX9_lane_84 (x_if (x_go 98 (rfl)) (x_go 87 (x_st 88 dX9_lane_87 rfl (x_st 91 dX9_lane_88 rfl (x_st 92 dX9_lane_91 rfl (x_br dX9_lane_92 (x_if (x_go 93 (x_st 95 dX9_lane_93 rfl (x_br dX9_lane_95 (x_if (x_go 98 (rfl)) (x_go 110 (rfl)))))) x_no))))))))))))))) x_no)))))))))))) x_no))))))))))) (x_go 116 (x_st 117 dX9_lane_116 rfl (x_st 120 dX9_lane_117 rfl (x_st 121 dX9_lane_120 rfl (x_st 122 dX9_lane_121 rfl (x_st 123 dX9_lane_122 rfl (x_st 124 dX9_lane_123 rfl (x_st 125 dX9_lane_124 rfl (x_st 126 dX9_lane_125 rfl (x_br dX9_lane_126 (x_if (x_go 127 (x_st 128 dX9_lane_127 rfl (x_br dX9_lane_128 (x_if (x_go 131 (x_st 133 dX9_lane_131 rfl (x_st 138 dX9_lane_133 rfl (x_ret dX9_lane_138 rfl)))) (x_go 136 (x_st 138 dX9_lane_136 rfl (x_ret dX9_lane_138 rfl))))))) x_no))))))))))))))
theorem qX9_lane_110 (d : Nat) (x1 : Int) (x2 : Int) (x3 : Int) (x4 : Int) (x5 : Int) (x6 : Int) (s : Sg) : EV d mX9_lane (110, [vr 32 0, vi x1, vi x2, vi x3, vi x4, vi x5, vi x6], [], s) = EV d mX9_lane (41, [vr 32 0, vi x1, vi x2, vi x3, vi x4, vi x5, vi (w32 (x6 + 1))], [], s) := x_so 113 [vr 32 0, vi x1, vi x2, vi x3, vi x4, vi x5, vi (w32 (x6 + 1))] dX9_lane_110 rfl (x_st 41 dX9_lane_113 rfl (rfl))
theorem qX9_lane_98 (d : Nat) (x1 : Int) (x2 : Int) (x3 : Int) (z4 : PV) (z5 : PV) (x6 : Int) (s : Sg) : EV d mX9_lane (98, [vr 32 0, vi x1, vi x2, vi x3, z4, z5, vi x6], [], s) = if inb x1 6 then (EV d mX9_lane (110, [vr 32 0, vi x1, vi x2, vi x3, vi x6, vi (s 39 0 (Int.toNat x1)), vi x6], [], s)) else none := x_st 100 dX9_lane_98 rfl (x_so 102 [vr 32 0, vi x1, vi x2, vi x3, vi x6, z5, vi x6] dX9_lane_100 rfl (x_st 103 dX9_lane_102 rfl (x_st 106 dX9_lane_103 rfl (x_st 107 dX9_lane_106 rfl (x_br dX9_lane_107 (x_if (x_go 108 (x_so 110 [vr 32 0, vi x1, vi x2, vi x3, vi x6, vi (s 39 0 (Int.toNat x1)), vi x6] dX9_lane_108 rfl (rfl))) x_no))))))
theorem dX9_lanes_0 : decode cX9_lanes 0 = .ok (.iload_n 1, 1) := by decide +kernel
theorem dX9_lanes_1 : decode cX9_lanes 1 = .ok (.i2l, 1) := by decide +kernel
theorem dX9_lanes_2 : decode cX9_lanes 2 = .ok (.lconst 0, 1) := by decide +kernel
theorem dX9_lanes_3 : decode cX9_lanes 3 = .ok (.lconst 1, 1) := by decide +kernel
theorem dX9_lanes_4 : decode cX9_lanes 4 = .ok (.invokestatic 85, 3) := by decide +kernel
theorem dX9_lanes_7 : decode cX9_lanes 7 = .ok (.ifCond .ne 6, 3) := by decide +kernel
theorem dX9_lanes_10 : decode cX9_lanes 10 = .ok (.bipush (-2), 2) := by decide +kernel
theorem dX9_lanes_12 : decode cX9_lanes 12 = .ok (.ireturn, 1) := by decide +kernel
theorem dX9_lanes_13 : decode cX9_lanes 13 = .ok (.aload_n 0, 1) := by decide +kernel
theorem dX9_lanes_14 : decode cX9_lanes 14 = .ok (.getfield 82, 3) := by decide +kernel
theorem dX9_lanes_17 : decode cX9_lanes 17 = .ok (.ifCond .ne 5, 3) := by decide +kernel
theorem dX9_lanes_20 : decode cX9_lanes 20 = .ok (.iconst 0, 1) := by decide +kernel
theorem dX9_lanes_21 : decode cX9_lanes 21 = .ok (.ireturn, 1) := by decide +kernel
theorem dX9_lanes_22 : decode cX9_lanes 22 = .ok (.iconst 0, 1) := by decide +kernel
theorem dX9_lanes_23 : decode cX9_lanes 23 = .ok (.istore_n 2, 1) := by decide +kernel
theorem dX9_lanes_24 : decode cX9_lanes 24 = .ok (.iload_n 2, 1) := by decide +kernel
theorem dX9_lanes_25 : decode cX9_lanes 25 = .ok (.iconst 4, 1) := by decide +kernel
theorem dX9_lanes_26 : decode cX9_lanes 26 = .ok (.if_icmp .ge 100, 3) := by decide +kernel
theorem dX9_lanes_29 : decode cX9_lanes 29 = .ok (.aload_n 0, 1) := by decide +kernel
theorem dX9_lanes_30 : decode cX9_lanes 30 = .ok (.getfield 50, 3) := by decide +kernel
theorem dX9_lanes_33 : decode cX9_lanes 33 = .ok (.iload_n 2, 1) := by decide +kernel
theorem dX9_lanes_34 : decode cX9_lanes 34 = .ok (.iconst 0, 1) := by decide +kernel
theorem dX9_lanes_35 : decode cX9_lanes 35 = .ok (.iastore, 1) := by decide +kernel
theorem dX9_lanes_36 : decode cX9_lanes 36 = .ok (.iconst 0, 1) := by decide +kernel
theorem dX9_lanes_37 : decode cX9_lanes 37 = .ok (.istore_n 3, 1) := by decide +kernel
theorem dX9_lanes_38 : decode cX9_lanes 38 = .ok (.iload_n 3, 1) := by decide +kernel
theorem dX9_lanes_39 : decode cX9_lanes 39 = .ok (.iconst 1, 1) := by decide +kernel
theorem dX9_lanes_40 : decode cX9_lanes 40 = .ok (.aload_n 0, 1) := by decide +kernel
theorem dX9_lanes_41 : decode cX9_lanes 41 = .ok (.getfield 82, 3) := by decide +kernel
theorem dX9_lanes_44 : decode cX9_lanes 44 = .ok (.ishl, 1) := by decide +kernel
theorem dX9_lanes_45 : decode cX9_lanes 45 = .ok (.if_icmp .ge 75, 3) := by decide +kernel
theorem dX9_lanes_48 : decode cX9_lanes 48 = .ok (.aload_n 0, 1) := by decide +kernel
theorem dX9_lanes_49 : decode cX9_lanes 49 = .ok (.iload_n 2, 1) := by decide +kernel
theorem dX9_lanes_50 : decode cX9_lanes 50 = .ok (.iload_n 3, 1) := by decide +kernel
theorem dX9_lanes_51 : decode cX9_lanes 51 = .ok (.invokevirtual 263, 3) := by decide +kernel
theorem dX9_lanes_54 : decode cX9_lanes 54 = .ok (.iconst 0, 1) := by decide +kernel
theorem dX9_lanes_55 : decode cX9_lanes 55 = .ok (.istore 4, 2) := by decide +kernel
theorem dX9_lanes_57 : decode cX9_lanes 57 = .ok (.iconst 0, 1) := by decide +kernel
theorem dX9_lanes_58 : decode cX9_lanes 58 = .ok (.istore 5, 2) := by decide +kernel
theorem dX9_lanes_60 : decode cX9_lanes 60 = .ok (.iload 5, 2) := by decide +kernel
theorem dX9_lanes_62 : decode cX9_lanes 62 = .ok (.aload_n 0, 1) := by decide +kernel
theorem dX9_lanes_63 : decode cX9_lanes 63 = .ok (.getfield 82, 3) := by decide +kernel
theorem dX9_lanes_66 : decode cX9_lanes 66 = .ok (.if_icmp .ge 35, 3) := by decide +kernel
theorem dX9_lanes_69 : decode cX9_lanes 69 = .ok (.iload 4, 2) := by decide +kernel
theorem dX9_lanes_71 : decode cX9_lanes 71 = .ok (.iload_n 3, 1) := by decide +kernel
theorem dX9_lanes_72 : decode cX9_lanes 72 = .ok (.iload 5, 2) := by decide +kernel
theorem dX9_lanes_74 : decode cX9_lanes 74 = .ok (.ishr, 1) := by decide +kernel
theorem dX9_lanes_75 : decode cX9_lanes 75 = .ok (.iconst 1, 1) := by decide +kernel
theorem dX9_lanes_76 : decode cX9_lanes 76 = .ok (.iand, 1) := by decide +kernel
theorem dX9_lanes_77 : decode cX9_lanes 77 = .ok (.iconst 1, 1) := by decide +kernel
theorem dX9_lanes_78 : decode cX9_lanes 78 = .ok (.if_icmp .ne 13, 3) := by decide +kernel
theorem dX9_lanes_81 : decode cX9_lanes 81 = .ok (.aload_n 0, 1) := by decide +kernel
theorem dX9_lanes_82 : decode cX9_lanes 82 = .ok (.iload 5, 2) := by decide +kernel
theorem dX9_lanes_84 : decode cX9_lanes 84 = .ok (.iload_n 2, 1) := by decide +kernel
theorem dX9_lanes_85 : decode cX9_lanes 85 = .ok (.invokevirtual 273, 3) := by decide +kernel
theorem dX9_lanes_88 : decode cX9_lanes 88 = .ok (.goto 4, 3) := by decide +kernel
theorem dX9_lanes_91 : decode cX9_lanes 91 = .ok (.iconst 0, 1) := by decide +kernel
theorem dX9_lanes_92 : decode cX9_lanes 92 = .ok (.iadd, 1) := by decide +kernel
theorem dX9_lanes_93 : decode cX9_lanes 93 = .ok (.istore 4, 2) := by decide +kernel
theorem dX9_lanes_95 : decode cX9_lanes 95 = .ok (.iinc 5 1, 3) := by decide +kernel
theorem dX9_lanes_98 : decode cX9_lanes 98 = .ok (.goto (-38), 3) := by decide +kernel
theorem dX9_lanes_101 : decode cX9_lanes 101 = .ok (.aload_n 0, 1) := by decide +kernel
theorem dX9_lanes_102 : decode cX9_lanes 102 = .ok (.getfield 47, 3) := by decide +kernel
theorem dX9_lanes_105 : decode cX9_lanes 105 = .ok (.bipush 64, 2) := by decide +kernel
theorem dX9_lanes_107 : decode cX9_lanes 107 = .ok (.iload_n 2, 1) := by decide +kernel
theorem dX9_lanes_108 : decode cX9_lanes 108 = .ok (.imul, 1) := by decide +kernel
theorem dX9_lanes_109 : decode cX9_lanes 109 = .ok (.iload_n 3, 1) := by decide +kernel
theorem dX9_lanes_110 : decode cX9_lanes 110 = .ok (.iadd, 1) := by decide +kernel
theorem dX9_lanes_111 : decode cX9_lanes 111 = .ok (.iload 4, 2) := by decide +kernel
theorem dX9_lanes_113 : decode cX9_lanes 113 = .ok (.iastore, 1) := by decide +kernel
theorem dX9_lanes_114 : decode cX9_lanes 114 = .ok (.iinc 3 1, 3) := by decide +kernel
theorem dX9_lanes_117 : decode cX9_lanes 117 = .ok (.goto (-79), 3) := by decide +kernel
theorem dX9_lanes_120 : decode cX9_lanes 120 = .ok (.iinc 2 1, 3) := by decide +kernel
theorem dX9_lanes_123 : decode cX9_lanes 123 = .ok (.goto (-99), 3) := by decide +kernel
theorem dX9_lanes_126 : decode cX9_lanes 126 = .ok (.aload_n 0, 1) := by decide +kernel
theorem dX9_lanes_127 : decode cX9_lanes 127 = .ok (.iconst 0, 1) := by decide +kernel
theorem dX9_lanes_128 : decode cX9_lanes 128 = .ok (.putfield 287, 3) := by decide +kernel
theorem dX9_lanes_131 : decode cX9_lanes 131 = .ok (.aload_n 0, 1) := by decide +kernel
theorem dX9_lanes_132 : decode cX9_lanes 132 = .ok (.iconst 0, 1) := by decide +kernel
theorem dX9_lanes_133 : decode cX9_lanes 133 = .ok (.putfield 290, 3) := by decide +kernel
theorem dX9_lanes_136 : decode cX9_lanes 136 = .ok (.aload_n 0, 1) := by decide +kernel
theorem dX9_lanes_137 : decode cX9_lanes 137 = .ok (.iconst 0, 1) := by decide +kernel
theorem dX9_lanes_138 : decode cX9_lanes 138 = .ok (.iconst 0, 1) := by decide +kernel
theorem dX9_lanes_139 : decode cX9_lanes 139 = .ok (.invokevirtual 293, 3) := by decide +kernel
theorem dX9_lanes_142 : decode cX9_lanes 142 = .ok (.iload_n 1, 1) := by decide +kernel
theorem dX9_lanes_143 : decode cX9_lanes 143 = .ok (.ifCond .ne 10, 3) := by decide +kernel
theorem dX9_lanes_146 : decode cX9_lanes 146 = .ok (.aload_n 0, 1) := by decide +kernel
theorem dX9_lanes_147 : decode cX9_lanes 147 = .ok (.getfield 287, 3) := by decide +kernel
theorem dX9_lanes_150 : decode cX9_lanes 150 = .ok (.goto 7, 3) := by decide +kernel
theorem dX9_lanes_153 : decode cX9_lanes 153 = .ok (.aload_n 0, 1) := by decide +kernel
theorem dX9_lanes_154 : decode cX9_lanes 154 = .ok (.getfield 290, 3) := by decide +kernel
theorem dX9_lanes_157 : decode cX9_lanes 157 = .ok (.ireturn, 1) := by decide +kernel
theorem qX9_lanes (d : Nat) (x1 : Int) (s : Sg) : RUN (d + 1) mX9_lanes [vr 32 0, vi x1] s = bI (RUN d mX9_in [vl x1, vl 0, vl 1] s) (fun r1 s1 => if r1 = 0 then (some (some (vi (-2)), s1)) else (if (s1 32 0 9) = 0 then (some (some (vi 0), s1)) else (EV (d + 1) mX9_lanes (24, [vr 32 0, vi x1, vi 0, UU, UU, UU], [], s1)))) := x_run rfl (x_st 1 dX9_lanes_0 rfl (x_st 2 dX9_lanes_1 rfl (x_st 3 dX9_lanes_2 rfl (x_st 4 dX9_lanes_3 rfl (x_ci 7 [vr 32 0, vi x1, UU, UU, UU, UU] [] dX9_lanes_4 rfl (fun r1 s1 => x_br dX9_lanes_7 (x_if (x_go 10 (x_st 12 dX9_lanes_10 rfl (x_ret dX9_lanes_12 rfl))) (x_go 13 (x_st 14 dX9_lanes_13 rfl (x_st 17 dX9_lanes_14 rfl (x_br dX9_lanes_17 (x_if (x_go 20 (x_st 21 dX9_lanes_20 rfl (x_ret dX9_lanes_21 rfl))) (x_go 22 (x_st 23 dX9_lanes_22 rfl (x_so 24 [vr 32 0, vi x1, vi 0, UU, UU, UU] dX9_lanes_23 rfl (rfl))))))))))))))))
theorem qX9_lanes_24 (d : Nat) (x1 : Int) (x2 : Int) (z3 : PV) (z4 : PV) (z5 : PV) (s : Sg) : EV (d + 1) mX9_lanes (24, [vr 32 0, vi x1, vi x2, z3, z4, z5], [], s) = if x2 < 4 then (if inb x2 4 then (EV (d + 1) mX9_lanes (38, [vr 32 0, vi x1, vi x2, vi 0, z4, z5], [], (up s 45 0 (Int.toNat x2) 0))) else none) else (bV (RUN d mX9_seeks [vr 32 0, vi 0, vi 0] (up (up s 32 0 34 0) 32 0 35 0)) (fun s1 => if x1 = 0 then (some (some (vi (s1 32 0 34)), s1)) else (some (some (vi (s1 32 0 35)), s1)))) := x_st 25 dX9_lanes_24 rfl (x_st 26 dX9_lanes_25 rfl (x_br dX9_lanes_26 (x_if (x_go 29 (x_st 30 dX9_lanes_29 rfl (x_st 33 dX9_lanes_30 rfl (x_st 34 dX9_lanes_33 rfl (x_st 35 dX9_lanes_34 rfl (x_br dX9_lanes_35 (x_if (x_go 36 (x_st 37 dX9_lanes_36 rfl (x_so 38 [vr 32 0, vi x1, vi x2, vi 0, z4, z5] dX9_lanes_37 rfl (rfl)))) x_no))))))) (x_go 126 (x_st 127 dX9_lanes_126 rfl (x_st 128 dX9_lanes_127 rfl (x_st 131 dX9_lanes_128 rfl (x_st 132 dX9_lanes_131 rfl (x_st 133 dX9_lanes_132 rfl (x_st 136 dX9_lanes_133 rfl (x_st 137 dX9_lanes_136 rfl (x_st 138 dX9_lanes_137 rfl (x_st 139 dX9_lanes_138 rfl (x_cv 142 [vr 32 0, vi x1, vi x2, z3, z4, z5] [] dX9_lanes_139 rfl (fun s1 => x_st 143 dX9_lanes_142 rfl (x_br dX9_lanes_143 (x_if (x_go 146 (x_st 147 dX9_lanes_146 rfl (x_st 150 dX9_lanes_147 rfl (x_st 157 dX9_lanes_150 rfl (x_ret dX9_lanes_157 rfl))))) (x_go 153 (x_st 154 dX9_lanes_153 rfl (x_st 157 dX9_lanes_154 rfl (x_ret dX9_lanes_157 rfl)))))))))))))))))))))
theorem qX9_lanes_38 (d : Nat) (x1 : Int) (x2 : Int) (x3 : Int) (z4 : PV) (z5 : PV) (s : Sg) : EV (d + 1) mX9_lanes (38, [vr 32 0, vi x1, vi x2, vi x3, z4, z5], [], s) = if x3 < (wshl 1 (s 32 0 9)) then (bV (RUN d mX9_goes [vr 32 0, vi x2, vi x3] s) (fun s1 => EV (d + 1) mX9_lanes (60, [vr 32 0, vi x1, vi x2, vi x3, vi 0, vi 0], [], s1))) else (EV (d + 1) mX9_lanes (24, [vr 32 0, vi x1, vi (w32 (x2 + 1)), vi x3, z4, z5], [], s)) := x_st 39 dX9_lanes_38 rfl (x_st 40 dX9_lanes_39 rfl (x_st 41 dX9_lanes_40 rfl (x_st 44 dX9_lanes_41 rfl (x_st 45 dX9_lanes_44 rfl (x_br dX9_lanes_45 (x_if (x_go 48 (x_st 49 dX9_lanes_48 rfl (x_st 50 dX9_lanes_49 rfl (x_st 51 dX9_lanes_50 rfl (x_cv 54 [vr 32 0, vi x1, vi x2, vi x3, z4, z5] [] dX9_lanes_51 rfl (fun s1 => x_st 55 dX9_lanes_54 rfl (x_so 57 [vr 32 0, vi x1, vi x2, vi x3, vi 0, z5] dX9_lanes_55 rfl (x_st 58 dX9_lanes_57 rfl (x_so 60 [vr 32 0, vi x1, vi x2, vi x3, vi 0, vi 0] dX9_lanes_58 rfl (rfl)))))))))) (x_go 120 (x_so 123 [vr 32 0, vi x1, vi (w32 (x2 + 1)), vi x3, z4, z5] dX9_lanes_120 rfl (x_st 24 dX9_lanes_123 rfl (rfl))))))))))
theorem qX9_lanes_60 (d : Nat) (x1 : Int) (x2 : Int) (x3 : Int) (x4 : Int) (x5 : Int) (s : Sg) : EV (d + 1) mX9_lanes (60, [vr 32 0, vi x1, vi x2, vi x3, vi x4, vi x5], [], s) = if x5 < (s 32 0 9) then (if (wand (wshr x3 x5) 1) = 1 then (bI (RUN d mX9_badOf [vr 32 0, vi x5, vi x2] s) (fun r1 s1 => EV (d + 1) mX9_lanes (92, [vr 32 0, vi x1, vi x2, vi x3, vi x4, vi x5], [vi r1, vi x4], s1))) else (EV (d + 1) mX9_lanes (92, [vr 32 0, vi x1, vi x2, vi x3, vi x4, vi x5], [vi 0, vi x4], s))) else (if inb (w32 ((w32 (64 * x2)) + x3)) 256 then (EV (d + 1) mX9_lanes (38, [vr 32 0, vi x1, vi x2, vi (w32 (x3 + 1)), vi x4, vi x5], [], (up s 44 0 (Int.toNat (w32 ((w32 (64 * x2)) + x3))) x4))) else none) := x_st 62 dX9_lanes_60 rfl (x_st 63 dX9_lanes_62 rfl (x_st 66 dX9_lanes_63 rfl (x_br dX9_lanes_66 (x_if (x_go 69 (x_st 71 dX9_lanes_69 rfl (x_st 72 dX9_lanes_71 rfl (x_st 74 dX9_lanes_72 rfl (x_st 75 dX9_lanes_74 rfl (x_st 76 dX9_lanes_75 rfl (x_st 77 dX9_lanes_76 rfl (x_st 78 dX9_lanes_77 rfl (x_br dX9_lanes_78 (x_if (x_go 81 (x_st 82 dX9_lanes_81 rfl (x_st 84 dX9_lanes_82 rfl (x_st 85 dX9_lanes_84 rfl (x_ci 88 [vr 32 0, vi x1, vi x2, vi x3, vi x4, vi x5] [vi x4] dX9_lanes_85 rfl (fun r1 s1 => x_st 92 dX9_lanes_88 rfl (rfl))))))) (x_go 91 (x_st 92 dX9_lanes_91 rfl (rfl))))))))))))) (x_go 101 (x_st 102 dX9_lanes_101 rfl (x_st 105 dX9_lanes_102 rfl (x_st 107 dX9_lanes_105 rfl (x_st 108 dX9_lanes_107 rfl (x_st 109 dX9_lanes_108 rfl (x_st 110 dX9_lanes_109 rfl (x_st 111 dX9_lanes_110 rfl (x_st 113 dX9_lanes_111 rfl (x_br dX9_lanes_113 (x_if (x_go 114 (x_so 117 [vr 32 0, vi x1, vi x2, vi (w32 (x3 + 1)), vi x4, vi x5] dX9_lanes_114 rfl (x_st 38 dX9_lanes_117 rfl (rfl)))) x_no)))))))))))))))
theorem qX9_lanes_92 (d : Nat) (x1 : Int) (x2 : Int) (x3 : Int) (z4 : PV) (x5 : Int) (y0 : Int) (y1 : Int) (s : Sg) : EV d mX9_lanes (92, [vr 32 0, vi x1, vi x2, vi x3, z4, vi x5], [vi y0, vi y1], s) = EV d mX9_lanes (60, [vr 32 0, vi x1, vi x2, vi x3, vi (w32 (y1 + y0)), vi (w32 (x5 + 1))], [], s) := x_st 93 dX9_lanes_92 rfl (x_so 95 [vr 32 0, vi x1, vi x2, vi x3, vi (w32 (y1 + y0)), vi x5] dX9_lanes_93 rfl (x_so 98 [vr 32 0, vi x1, vi x2, vi x3, vi (w32 (y1 + y0)), vi (w32 (x5 + 1))] dX9_lanes_95 rfl (x_st 60 dX9_lanes_98 rfl (rfl))))
