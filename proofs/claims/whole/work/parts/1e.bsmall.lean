theorem dX7_badness_0 : decode cX7_badness 0 = .ok (.iconst 0, 1) := by decide +kernel
theorem dX7_badness_1 : decode cX7_badness 1 = .ok (.istore_n 3, 1) := by decide +kernel
theorem dX7_badness_2 : decode cX7_badness 2 = .ok (.iconst 0, 1) := by decide +kernel
theorem dX7_badness_3 : decode cX7_badness 3 = .ok (.istore 4, 2) := by decide +kernel
theorem dX7_badness_5 : decode cX7_badness 5 = .ok (.iload 4, 2) := by decide +kernel
theorem dX7_badness_7 : decode cX7_badness 7 = .ok (.aload_n 0, 1) := by decide +kernel
theorem dX7_badness_8 : decode cX7_badness 8 = .ok (.getfield 33, 3) := by decide +kernel
theorem dX7_badness_11 : decode cX7_badness 11 = .ok (.invokevirtual 44, 3) := by decide +kernel
theorem dX7_badness_14 : decode cX7_badness 14 = .ok (.if_icmp .ge 49, 3) := by decide +kernel
theorem dX7_badness_17 : decode cX7_badness 17 = .ok (.iload_n 2, 1) := by decide +kernel
theorem dX7_badness_18 : decode cX7_badness 18 = .ok (.iload 4, 2) := by decide +kernel
theorem dX7_badness_20 : decode cX7_badness 20 = .ok (.ishr, 1) := by decide +kernel
theorem dX7_badness_21 : decode cX7_badness 21 = .ok (.iconst 1, 1) := by decide +kernel
theorem dX7_badness_22 : decode cX7_badness 22 = .ok (.iand, 1) := by decide +kernel
theorem dX7_badness_23 : decode cX7_badness 23 = .ok (.ifCond .eq 34, 3) := by decide +kernel
theorem dX7_badness_26 : decode cX7_badness 26 = .ok (.aload_n 0, 1) := by decide +kernel
theorem dX7_badness_27 : decode cX7_badness 27 = .ok (.getfield 27, 3) := by decide +kernel
theorem dX7_badness_30 : decode cX7_badness 30 = .ok (.iload 4, 2) := by decide +kernel
theorem dX7_badness_32 : decode cX7_badness 32 = .ok (.aload_n 0, 1) := by decide +kernel
theorem dX7_badness_33 : decode cX7_badness 33 = .ok (.iload 4, 2) := by decide +kernel
theorem dX7_badness_35 : decode cX7_badness 35 = .ok (.iload_n 1, 1) := by decide +kernel
theorem dX7_badness_36 : decode cX7_badness 36 = .ok (.invokevirtual 150, 3) := by decide +kernel
theorem dX7_badness_39 : decode cX7_badness 39 = .ok (.aload_n 0, 1) := by decide +kernel
theorem dX7_badness_40 : decode cX7_badness 40 = .ok (.iload 4, 2) := by decide +kernel
theorem dX7_badness_42 : decode cX7_badness 42 = .ok (.invokevirtual 153, 3) := by decide +kernel
theorem dX7_badness_45 : decode cX7_badness 45 = .ok (.imul, 1) := by decide +kernel
theorem dX7_badness_46 : decode cX7_badness 46 = .ok (.iastore, 1) := by decide +kernel
theorem dX7_badness_47 : decode cX7_badness 47 = .ok (.iload_n 3, 1) := by decide +kernel
theorem dX7_badness_48 : decode cX7_badness 48 = .ok (.aload_n 0, 1) := by decide +kernel
theorem dX7_badness_49 : decode cX7_badness 49 = .ok (.getfield 27, 3) := by decide +kernel
theorem dX7_badness_52 : decode cX7_badness 52 = .ok (.iload 4, 2) := by decide +kernel
theorem dX7_badness_54 : decode cX7_badness 54 = .ok (.iaload, 1) := by decide +kernel
theorem dX7_badness_55 : decode cX7_badness 55 = .ok (.iadd, 1) := by decide +kernel
theorem dX7_badness_56 : decode cX7_badness 56 = .ok (.istore_n 3, 1) := by decide +kernel
theorem dX7_badness_57 : decode cX7_badness 57 = .ok (.iinc 4 1, 3) := by decide +kernel
theorem dX7_badness_60 : decode cX7_badness 60 = .ok (.goto (-55), 3) := by decide +kernel
theorem dX7_badness_63 : decode cX7_badness 63 = .ok (.iload_n 3, 1) := by decide +kernel
theorem dX7_badness_64 : decode cX7_badness 64 = .ok (.ireturn, 1) := by decide +kernel
theorem qX7_badness (d : Nat) (x1 : Int) (x2 : Int) (s : Sg) : RUN d mX7_badness [vr 13 0, vi x1, vi x2] s = EV d mX7_badness (5, [vr 13 0, vi x1, vi x2, vi 0, vi 0], [], s) := x_run rfl (x_st 1 dX7_badness_0 rfl (x_so 2 [vr 13 0, vi x1, vi x2, vi 0, UU] dX7_badness_1 rfl (x_st 3 dX7_badness_2 rfl (x_so 5 [vr 13 0, vi x1, vi x2, vi 0, vi 0] dX7_badness_3 rfl (rfl)))))
theorem qX7_badness_5 (d : Nat) (x1 : Int) (x2 : Int) (x3 : Int) (x4 : Int) (s : Sg) : EV (d + 1) mX7_badness (5, [vr 13 0, vi x1, vi x2, vi x3, vi x4], [], s) = bI (RUN d mX1_size [vr 1 0] s) (fun r1 s1 => if x4 < r1 then (if (wand (wshr x2 x4) 1) = 0 then (EV (d + 1) mX7_badness (57, [vr 13 0, vi x1, vi x2, vi x3, vi x4], [], s1)) else (bI (RUN d mX7_minds [vr 13 0, vi x4, vi x1] s1) (fun r2 s2 => bI (RUN d mX7_waited [vr 13 0, vi x4] s2) (fun r3 s3 => if inb x4 6 then (if inb x4 6 then (EV (d + 1) mX7_badness (57, [vr 13 0, vi x1, vi x2, vi (w32 (x3 + ((up s3 19 0 (Int.toNat x4) (w32 (r2 * r3))) 19 0 (Int.toNat x4)))), vi x4], [], (up s3 19 0 (Int.toNat x4) (w32 (r2 * r3))))) else none) else none)))) else (some (some (vi x3), s1))) := x_st 7 dX7_badness_5 rfl (x_st 8 dX7_badness_7 rfl (x_st 11 dX7_badness_8 rfl (x_ci 14 [vr 13 0, vi x1, vi x2, vi x3, vi x4] [vi x4] dX7_badness_11 rfl (fun r1 s1 => x_br dX7_badness_14 (x_if (x_go 17 (x_st 18 dX7_badness_17 rfl (x_st 20 dX7_badness_18 rfl (x_st 21 dX7_badness_20 rfl (x_st 22 dX7_badness_21 rfl (x_st 23 dX7_badness_22 rfl (x_br dX7_badness_23 (x_if (x_go 57 (rfl)) (x_go 26 (x_st 27 dX7_badness_26 rfl (x_st 30 dX7_badness_27 rfl (x_st 32 dX7_badness_30 rfl (x_st 33 dX7_badness_32 rfl (x_st 35 dX7_badness_33 rfl (x_st 36 dX7_badness_35 rfl (x_ci 39 [vr 13 0, vi x1, vi x2, vi x3, vi x4] [vi x4, vr 19 0] dX7_badness_36 rfl (fun r2 s2 => x_st 40 dX7_badness_39 rfl (x_st 42 dX7_badness_40 rfl (x_ci 45 [vr 13 0, vi x1, vi x2, vi x3, vi x4] [vi r2, vi x4, vr 19 0] dX7_badness_42 rfl (fun r3 s3 => x_st 46 dX7_badness_45 rfl (x_br dX7_badness_46 (x_if (x_go 47 (x_st 48 dX7_badness_47 rfl (x_st 49 dX7_badness_48 rfl (x_st 52 dX7_badness_49 rfl (x_st 54 dX7_badness_52 rfl (x_br dX7_badness_54 (x_if (x_go 55 (x_st 56 dX7_badness_55 rfl (x_so 57 [vr 13 0, vi x1, vi x2, vi (w32 (x3 + ((up s3 19 0 (Int.toNat x4) (w32 (r2 * r3))) 19 0 (Int.toNat x4)))), vi x4] dX7_badness_56 rfl (rfl)))) x_no))))))) x_no)))))))))))))))))))))) (x_go 63 (x_st 64 dX7_badness_63 rfl (x_ret dX7_badness_64 rfl))))))))
theorem qX7_badness_57 (d : Nat) (x1 : Int) (x2 : Int) (x3 : Int) (x4 : Int) (s : Sg) : EV d mX7_badness (57, [vr 13 0, vi x1, vi x2, vi x3, vi x4], [], s) = EV d mX7_badness (5, [vr 13 0, vi x1, vi x2, vi x3, vi (w32 (x4 + 1))], [], s) := x_so 60 [vr 13 0, vi x1, vi x2, vi x3, vi (w32 (x4 + 1))] dX7_badness_57 rfl (x_st 5 dX7_badness_60 rfl (rfl))
theorem dX7_comesBefore_0 : decode cX7_comesBefore 0 = .ok (.aload_n 0, 1) := by decide +kernel
theorem dX7_comesBefore_1 : decode cX7_comesBefore 1 = .ok (.getfield 33, 3) := by decide +kernel
theorem dX7_comesBefore_4 : decode cX7_comesBefore 4 = .ok (.iconst 3, 1) := by decide +kernel
theorem dX7_comesBefore_5 : decode cX7_comesBefore 5 = .ok (.iload_n 1, 1) := by decide +kernel
theorem dX7_comesBefore_6 : decode cX7_comesBefore 6 = .ok (.invokevirtual 50, 3) := by decide +kernel
theorem dX7_comesBefore_9 : decode cX7_comesBefore 9 = .ok (.istore_n 3, 1) := by decide +kernel
theorem dX7_comesBefore_10 : decode cX7_comesBefore 10 = .ok (.aload_n 0, 1) := by decide +kernel
theorem dX7_comesBefore_11 : decode cX7_comesBefore 11 = .ok (.getfield 33, 3) := by decide +kernel
theorem dX7_comesBefore_14 : decode cX7_comesBefore 14 = .ok (.iconst 3, 1) := by decide +kernel
theorem dX7_comesBefore_15 : decode cX7_comesBefore 15 = .ok (.iload_n 2, 1) := by decide +kernel
theorem dX7_comesBefore_16 : decode cX7_comesBefore 16 = .ok (.invokevirtual 50, 3) := by decide +kernel
theorem dX7_comesBefore_19 : decode cX7_comesBefore 19 = .ok (.istore 4, 2) := by decide +kernel
theorem dX7_comesBefore_21 : decode cX7_comesBefore 21 = .ok (.iload_n 3, 1) := by decide +kernel
theorem dX7_comesBefore_22 : decode cX7_comesBefore 22 = .ok (.iload 4, 2) := by decide +kernel
theorem dX7_comesBefore_24 : decode cX7_comesBefore 24 = .ok (.if_icmp .lt 14, 3) := by decide +kernel
theorem dX7_comesBefore_27 : decode cX7_comesBefore 27 = .ok (.iload_n 3, 1) := by decide +kernel
theorem dX7_comesBefore_28 : decode cX7_comesBefore 28 = .ok (.iload 4, 2) := by decide +kernel
theorem dX7_comesBefore_30 : decode cX7_comesBefore 30 = .ok (.if_icmp .ne 12, 3) := by decide +kernel
theorem dX7_comesBefore_33 : decode cX7_comesBefore 33 = .ok (.iload_n 1, 1) := by decide +kernel
theorem dX7_comesBefore_34 : decode cX7_comesBefore 34 = .ok (.iload_n 2, 1) := by decide +kernel
theorem dX7_comesBefore_35 : decode cX7_comesBefore 35 = .ok (.if_icmp .ge 7, 3) := by decide +kernel
theorem dX7_comesBefore_38 : decode cX7_comesBefore 38 = .ok (.iconst 1, 1) := by decide +kernel
theorem dX7_comesBefore_39 : decode cX7_comesBefore 39 = .ok (.goto 4, 3) := by decide +kernel
theorem dX7_comesBefore_42 : decode cX7_comesBefore 42 = .ok (.iconst 0, 1) := by decide +kernel
theorem dX7_comesBefore_43 : decode cX7_comesBefore 43 = .ok (.ireturn, 1) := by decide +kernel
theorem qX7_comesBefore (d : Nat) (x1 : Int) (x2 : Int) (s : Sg) : RUN (d + 1) mX7_comesBefore [vr 13 0, vi x1, vi x2] s = bI (RUN d mX1_tell [vr 1 0, vi 3, vi x1] s) (fun r1 s1 => bI (RUN d mX1_tell [vr 1 0, vi 3, vi x2] s1) (fun r2 s2 => if r1 < r2 then (some (some (vi 1), s2)) else (if r1 = r2 then (if x1 < x2 then (some (some (vi 1), s2)) else (some (some (vi 0), s2))) else (some (some (vi 0), s2))))) := x_run rfl (x_st 1 dX7_comesBefore_0 rfl (x_st 4 dX7_comesBefore_1 rfl (x_st 5 dX7_comesBefore_4 rfl (x_st 6 dX7_comesBefore_5 rfl (x_ci 9 [vr 13 0, vi x1, vi x2, UU, UU] [] dX7_comesBefore_6 rfl (fun r1 s1 => x_so 10 [vr 13 0, vi x1, vi x2, vi r1, UU] dX7_comesBefore_9 rfl (x_st 11 dX7_comesBefore_10 rfl (x_st 14 dX7_comesBefore_11 rfl (x_st 15 dX7_comesBefore_14 rfl (x_st 16 dX7_comesBefore_15 rfl (x_ci 19 [vr 13 0, vi x1, vi x2, vi r1, UU] [] dX7_comesBefore_16 rfl (fun r2 s2 => x_so 21 [vr 13 0, vi x1, vi x2, vi r1, vi r2] dX7_comesBefore_19 rfl (x_st 22 dX7_comesBefore_21 rfl (x_st 24 dX7_comesBefore_22 rfl (x_br dX7_comesBefore_24 (x_if (x_go 38 (x_st 39 dX7_comesBefore_38 rfl (x_st 43 dX7_comesBefore_39 rfl (x_ret dX7_comesBefore_43 rfl)))) (x_go 27 (x_st 28 dX7_comesBefore_27 rfl (x_st 30 dX7_comesBefore_28 rfl (x_br dX7_comesBefore_30 (x_if (x_go 33 (x_st 34 dX7_comesBefore_33 rfl (x_st 35 dX7_comesBefore_34 rfl (x_br dX7_comesBefore_35 (x_if (x_go 38 (x_st 39 dX7_comesBefore_38 rfl (x_st 43 dX7_comesBefore_39 rfl (x_ret dX7_comesBefore_43 rfl)))) (x_go 42 (x_st 43 dX7_comesBefore_42 rfl (x_ret dX7_comesBefore_43 rfl)))))))) (x_go 42 (x_st 43 dX7_comesBefore_42 rfl (x_ret dX7_comesBefore_43 rfl))))))))))))))))))))))))
theorem dX0_seekLane_0 : decode cX0_seekLane 0 = .ok (.aload_n 0, 1) := by decide +kernel
theorem dX0_seekLane_1 : decode cX0_seekLane 1 = .ok (.iconst (-1), 1) := by decide +kernel
theorem dX0_seekLane_2 : decode cX0_seekLane 2 = .ok (.putfield 31, 3) := by decide +kernel
theorem dX0_seekLane_5 : decode cX0_seekLane 5 = .ok (.aload_n 0, 1) := by decide +kernel
theorem dX0_seekLane_6 : decode cX0_seekLane 6 = .ok (.iconst (-1), 1) := by decide +kernel
theorem dX0_seekLane_7 : decode cX0_seekLane 7 = .ok (.putfield 35, 3) := by decide +kernel
theorem dX0_seekLane_10 : decode cX0_seekLane 10 = .ok (.aload_n 0, 1) := by decide +kernel
theorem dX0_seekLane_11 : decode cX0_seekLane 11 = .ok (.getfield 23, 3) := by decide +kernel
theorem dX0_seekLane_14 : decode cX0_seekLane 14 = .ok (.iconst 2, 1) := by decide +kernel
theorem dX0_seekLane_15 : decode cX0_seekLane 15 = .ok (.iload_n 1, 1) := by decide +kernel
theorem dX0_seekLane_16 : decode cX0_seekLane 16 = .ok (.invokevirtual 38, 3) := by decide +kernel
theorem dX0_seekLane_19 : decode cX0_seekLane 19 = .ok (.istore_n 2, 1) := by decide +kernel
theorem dX0_seekLane_20 : decode cX0_seekLane 20 = .ok (.iconst 0, 1) := by decide +kernel
theorem dX0_seekLane_21 : decode cX0_seekLane 21 = .ok (.istore_n 3, 1) := by decide +kernel
theorem dX0_seekLane_22 : decode cX0_seekLane 22 = .ok (.iload_n 3, 1) := by decide +kernel
theorem dX0_seekLane_23 : decode cX0_seekLane 23 = .ok (.iconst 4, 1) := by decide +kernel
theorem dX0_seekLane_24 : decode cX0_seekLane 24 = .ok (.if_icmp .ge 79, 3) := by decide +kernel
theorem dX0_seekLane_27 : decode cX0_seekLane 27 = .ok (.aload_n 0, 1) := by decide +kernel
theorem dX0_seekLane_28 : decode cX0_seekLane 28 = .ok (.getfield 23, 3) := by decide +kernel
theorem dX0_seekLane_31 : decode cX0_seekLane 31 = .ok (.iconst 2, 1) := by decide +kernel
theorem dX0_seekLane_32 : decode cX0_seekLane 32 = .ok (.iload_n 1, 1) := by decide +kernel
theorem dX0_seekLane_33 : decode cX0_seekLane 33 = .ok (.iload_n 3, 1) := by decide +kernel
theorem dX0_seekLane_34 : decode cX0_seekLane 34 = .ok (.invokevirtual 44, 3) := by decide +kernel
theorem dX0_seekLane_37 : decode cX0_seekLane 37 = .ok (.pop, 1) := by decide +kernel
theorem dX0_seekLane_38 : decode cX0_seekLane 38 = .ok (.aload_n 0, 1) := by decide +kernel
theorem dX0_seekLane_39 : decode cX0_seekLane 39 = .ok (.getfield 27, 3) := by decide +kernel
theorem dX0_seekLane_42 : decode cX0_seekLane 42 = .ok (.invokevirtual 48, 3) := by decide +kernel
theorem dX0_seekLane_45 : decode cX0_seekLane 45 = .ok (.aload_n 0, 1) := by decide +kernel
theorem dX0_seekLane_46 : decode cX0_seekLane 46 = .ok (.getfield 27, 3) := by decide +kernel
theorem dX0_seekLane_49 : decode cX0_seekLane 49 = .ok (.invokevirtual 53, 3) := by decide +kernel
theorem dX0_seekLane_52 : decode cX0_seekLane 52 = .ok (.pop, 1) := by decide +kernel
theorem dX0_seekLane_53 : decode cX0_seekLane 53 = .ok (.aload_n 0, 1) := by decide +kernel
theorem dX0_seekLane_54 : decode cX0_seekLane 54 = .ok (.getfield 27, 3) := by decide +kernel
theorem dX0_seekLane_57 : decode cX0_seekLane 57 = .ok (.iload_n 1, 1) := by decide +kernel
theorem dX0_seekLane_58 : decode cX0_seekLane 58 = .ok (.invokevirtual 57, 3) := by decide +kernel
theorem dX0_seekLane_61 : decode cX0_seekLane 61 = .ok (.istore 4, 2) := by decide +kernel
theorem dX0_seekLane_63 : decode cX0_seekLane 63 = .ok (.iload 4, 2) := by decide +kernel
theorem dX0_seekLane_65 : decode cX0_seekLane 65 = .ok (.iconst (-1), 1) := by decide +kernel
theorem dX0_seekLane_66 : decode cX0_seekLane 66 = .ok (.if_icmp .eq 31, 3) := by decide +kernel
theorem dX0_seekLane_69 : decode cX0_seekLane 69 = .ok (.aload_n 0, 1) := by decide +kernel
theorem dX0_seekLane_70 : decode cX0_seekLane 70 = .ok (.getfield 31, 3) := by decide +kernel
theorem dX0_seekLane_73 : decode cX0_seekLane 73 = .ok (.iconst (-1), 1) := by decide +kernel
theorem dX0_seekLane_74 : decode cX0_seekLane 74 = .ok (.if_icmp .eq 12, 3) := by decide +kernel
theorem dX0_seekLane_77 : decode cX0_seekLane 77 = .ok (.iload 4, 2) := by decide +kernel
theorem dX0_seekLane_79 : decode cX0_seekLane 79 = .ok (.aload_n 0, 1) := by decide +kernel
theorem dX0_seekLane_80 : decode cX0_seekLane 80 = .ok (.getfield 35, 3) := by decide +kernel
theorem dX0_seekLane_83 : decode cX0_seekLane 83 = .ok (.if_icmp .ge 14, 3) := by decide +kernel
theorem dX0_seekLane_86 : decode cX0_seekLane 86 = .ok (.aload_n 0, 1) := by decide +kernel
theorem dX0_seekLane_87 : decode cX0_seekLane 87 = .ok (.iload_n 3, 1) := by decide +kernel
theorem dX0_seekLane_88 : decode cX0_seekLane 88 = .ok (.putfield 31, 3) := by decide +kernel
theorem dX0_seekLane_91 : decode cX0_seekLane 91 = .ok (.aload_n 0, 1) := by decide +kernel
theorem dX0_seekLane_92 : decode cX0_seekLane 92 = .ok (.iload 4, 2) := by decide +kernel
theorem dX0_seekLane_94 : decode cX0_seekLane 94 = .ok (.putfield 35, 3) := by decide +kernel
theorem dX0_seekLane_97 : decode cX0_seekLane 97 = .ok (.iinc 3 1, 3) := by decide +kernel
theorem dX0_seekLane_100 : decode cX0_seekLane 100 = .ok (.goto (-78), 3) := by decide +kernel
theorem dX0_seekLane_103 : decode cX0_seekLane 103 = .ok (.aload_n 0, 1) := by decide +kernel
theorem dX0_seekLane_104 : decode cX0_seekLane 104 = .ok (.getfield 23, 3) := by decide +kernel
theorem dX0_seekLane_107 : decode cX0_seekLane 107 = .ok (.iconst 2, 1) := by decide +kernel
theorem dX0_seekLane_108 : decode cX0_seekLane 108 = .ok (.iload_n 1, 1) := by decide +kernel
theorem dX0_seekLane_109 : decode cX0_seekLane 109 = .ok (.iload_n 2, 1) := by decide +kernel
theorem dX0_seekLane_110 : decode cX0_seekLane 110 = .ok (.invokevirtual 44, 3) := by decide +kernel
theorem dX0_seekLane_113 : decode cX0_seekLane 113 = .ok (.pop, 1) := by decide +kernel
theorem dX0_seekLane_114 : decode cX0_seekLane 114 = .ok (.return_, 1) := by decide +kernel
theorem qX0_seekLane (d : Nat) (x1 : Int) (s : Sg) : RUN (d + 1) mX0_seekLane [vr 21 0, vi x1] s = bI (RUN d mX1_tell [vr 1 0, vi 2, vi x1] (up (up s 21 0 5 (-1)) 21 0 6 (-1))) (fun r1 s1 => EV (d + 1) mX0_seekLane (22, [vr 21 0, vi x1, vi r1, vi 0, UU], [], s1)) := x_run rfl (x_st 1 dX0_seekLane_0 rfl (x_st 2 dX0_seekLane_1 rfl (x_st 5 dX0_seekLane_2 rfl (x_st 6 dX0_seekLane_5 rfl (x_st 7 dX0_seekLane_6 rfl (x_st 10 dX0_seekLane_7 rfl (x_st 11 dX0_seekLane_10 rfl (x_st 14 dX0_seekLane_11 rfl (x_st 15 dX0_seekLane_14 rfl (x_st 16 dX0_seekLane_15 rfl (x_ci 19 [vr 21 0, vi x1, UU, UU, UU] [] dX0_seekLane_16 rfl (fun r1 s1 => x_so 20 [vr 21 0, vi x1, vi r1, UU, UU] dX0_seekLane_19 rfl (x_st 21 dX0_seekLane_20 rfl (x_so 22 [vr 21 0, vi x1, vi r1, vi 0, UU] dX0_seekLane_21 rfl (rfl)))))))))))))))
theorem qX0_seekLane_22 (d : Nat) (x1 : Int) (x2 : Int) (x3 : Int) (z4 : PV) (s : Sg) : EV (d + 1) mX0_seekLane (22, [vr 21 0, vi x1, vi x2, vi x3, z4], [], s) = if x3 < 4 then (bI (RUN d mX1_put [vr 1 0, vi 2, vi x1, vi x3] s) (fun r1 s1 => bV (RUN d mX7_spread [vr 13 0] s1) (fun s2 => bI (RUN d mX7_playAll [vr 13 0] s2) (fun r3 s3 => bI (RUN d mX7_off [vr 13 0, vi x1] s3) (fun r4 s4 => if r4 = (-1) then (EV (d + 1) mX0_seekLane (97, [vr 21 0, vi x1, vi x2, vi x3, vi r4], [], s4)) else (if (s4 21 0 5) = (-1) then (EV (d + 1) mX0_seekLane (86, [vr 21 0, vi x1, vi x2, vi x3, vi r4], [], s4)) else (if r4 < (s4 21 0 6) then (EV (d + 1) mX0_seekLane (86, [vr 21 0, vi x1, vi x2, vi x3, vi r4], [], s4)) else (EV (d + 1) mX0_seekLane (97, [vr 21 0, vi x1, vi x2, vi x3, vi r4], [], s4))))))))) else (bI (RUN d mX1_put [vr 1 0, vi 2, vi x1, vi x2] s) (fun r5 s5 => some (none, s5))) := x_st 23 dX0_seekLane_22 rfl (x_st 24 dX0_seekLane_23 rfl (x_br dX0_seekLane_24 (x_if (x_go 27 (x_st 28 dX0_seekLane_27 rfl (x_st 31 dX0_seekLane_28 rfl (x_st 32 dX0_seekLane_31 rfl (x_st 33 dX0_seekLane_32 rfl (x_st 34 dX0_seekLane_33 rfl (x_ci 37 [vr 21 0, vi x1, vi x2, vi x3, z4] [] dX0_seekLane_34 rfl (fun r1 s1 => x_st 38 dX0_seekLane_37 rfl (x_st 39 dX0_seekLane_38 rfl (x_st 42 dX0_seekLane_39 rfl (x_cv 45 [vr 21 0, vi x1, vi x2, vi x3, z4] [] dX0_seekLane_42 rfl (fun s2 => x_st 46 dX0_seekLane_45 rfl (x_st 49 dX0_seekLane_46 rfl (x_ci 52 [vr 21 0, vi x1, vi x2, vi x3, z4] [] dX0_seekLane_49 rfl (fun r3 s3 => x_st 53 dX0_seekLane_52 rfl (x_st 54 dX0_seekLane_53 rfl (x_st 57 dX0_seekLane_54 rfl (x_st 58 dX0_seekLane_57 rfl (x_ci 61 [vr 21 0, vi x1, vi x2, vi x3, z4] [] dX0_seekLane_58 rfl (fun r4 s4 => x_so 63 [vr 21 0, vi x1, vi x2, vi x3, vi r4] dX0_seekLane_61 rfl (x_st 65 dX0_seekLane_63 rfl (x_st 66 dX0_seekLane_65 rfl (x_br dX0_seekLane_66 (x_if (x_go 97 (rfl)) (x_go 69 (x_st 70 dX0_seekLane_69 rfl (x_st 73 dX0_seekLane_70 rfl (x_st 74 dX0_seekLane_73 rfl (x_br dX0_seekLane_74 (x_if (x_go 86 (rfl)) (x_go 77 (x_st 79 dX0_seekLane_77 rfl (x_st 80 dX0_seekLane_79 rfl (x_st 83 dX0_seekLane_80 rfl (x_br dX0_seekLane_83 (x_if (x_go 86 (rfl)) (x_go 97 (rfl)))))))))))))))))))))))))))))))))))))) (x_go 103 (x_st 104 dX0_seekLane_103 rfl (x_st 107 dX0_seekLane_104 rfl (x_st 108 dX0_seekLane_107 rfl (x_st 109 dX0_seekLane_108 rfl (x_st 110 dX0_seekLane_109 rfl (x_ci 113 [vr 21 0, vi x1, vi x2, vi x3, z4] [] dX0_seekLane_110 rfl (fun r5 s5 => x_st 114 dX0_seekLane_113 rfl (x_ret dX0_seekLane_114 rfl))))))))))))
theorem qX0_seekLane_97 (d : Nat) (x1 : Int) (x2 : Int) (x3 : Int) (z4 : PV) (s : Sg) : EV d mX0_seekLane (97, [vr 21 0, vi x1, vi x2, vi x3, z4], [], s) = EV d mX0_seekLane (22, [vr 21 0, vi x1, vi x2, vi (w32 (x3 + 1)), z4], [], s) := x_so 100 [vr 21 0, vi x1, vi x2, vi (w32 (x3 + 1)), z4] dX0_seekLane_97 rfl (x_st 22 dX0_seekLane_100 rfl (rfl))
theorem qX0_seekLane_86 (d : Nat) (x1 : Int) (x2 : Int) (x3 : Int) (x4 : Int) (s : Sg) : EV d mX0_seekLane (86, [vr 21 0, vi x1, vi x2, vi x3, vi x4], [], s) = EV d mX0_seekLane (97, [vr 21 0, vi x1, vi x2, vi x3, vi x4], [], (up (up s 21 0 5 x3) 21 0 6 x4)) := x_st 87 dX0_seekLane_86 rfl (x_st 88 dX0_seekLane_87 rfl (x_st 91 dX0_seekLane_88 rfl (x_st 92 dX0_seekLane_91 rfl (x_st 94 dX0_seekLane_92 rfl (x_st 97 dX0_seekLane_94 rfl (rfl))))))
theorem dX0_answer_0 : decode cX0_answer 0 = .ok (.iload_n 1, 1) := by decide +kernel
theorem dX0_answer_1 : decode cX0_answer 1 = .ok (.ifCond .ne 10, 3) := by decide +kernel
theorem dX0_answer_4 : decode cX0_answer 4 = .ok (.aload_n 0, 1) := by decide +kernel
theorem dX0_answer_5 : decode cX0_answer 5 = .ok (.getfield 31, 3) := by decide +kernel
theorem dX0_answer_8 : decode cX0_answer 8 = .ok (.goto 7, 3) := by decide +kernel
theorem dX0_answer_11 : decode cX0_answer 11 = .ok (.aload_n 0, 1) := by decide +kernel
theorem dX0_answer_12 : decode cX0_answer 12 = .ok (.getfield 35, 3) := by decide +kernel
theorem dX0_answer_15 : decode cX0_answer 15 = .ok (.ireturn, 1) := by decide +kernel
theorem qX0_answer (d : Nat) (x1 : Int) (s : Sg) : RUN d mX0_answer [vr 21 0, vi x1] s = if x1 = 0 then (some (some (vi (s 21 0 5)), s)) else (some (some (vi (s 21 0 6)), s)) := x_run rfl (x_st 1 dX0_answer_0 rfl (x_br dX0_answer_1 (x_if (x_go 4 (x_st 5 dX0_answer_4 rfl (x_st 8 dX0_answer_5 rfl (x_st 15 dX0_answer_8 rfl (x_ret dX0_answer_15 rfl))))) (x_go 11 (x_st 12 dX0_answer_11 rfl (x_st 15 dX0_answer_12 rfl (x_ret dX0_answer_15 rfl)))))))
theorem dX0_seekLanes_0 : decode cX0_seekLanes 0 = .ok (.aload_n 0, 1) := by decide +kernel
theorem dX0_seekLanes_1 : decode cX0_seekLanes 1 = .ok (.invokevirtual 61, 3) := by decide +kernel
theorem dX0_seekLanes_4 : decode cX0_seekLanes 4 = .ok (.aload_n 0, 1) := by decide +kernel
theorem dX0_seekLanes_5 : decode cX0_seekLanes 5 = .ok (.iconst 0, 1) := by decide +kernel
theorem dX0_seekLanes_6 : decode cX0_seekLanes 6 = .ok (.putfield 31, 3) := by decide +kernel
theorem dX0_seekLanes_9 : decode cX0_seekLanes 9 = .ok (.aload_n 0, 1) := by decide +kernel
theorem dX0_seekLanes_10 : decode cX0_seekLanes 10 = .ok (.iconst (-1), 1) := by decide +kernel
theorem dX0_seekLanes_11 : decode cX0_seekLanes 11 = .ok (.putfield 35, 3) := by decide +kernel
theorem dX0_seekLanes_14 : decode cX0_seekLanes 14 = .ok (.iconst 1, 1) := by decide +kernel
theorem dX0_seekLanes_15 : decode cX0_seekLanes 15 = .ok (.iconst 2, 1) := by decide +kernel
theorem dX0_seekLanes_16 : decode cX0_seekLanes 16 = .ok (.aload_n 0, 1) := by decide +kernel
theorem dX0_seekLanes_17 : decode cX0_seekLanes 17 = .ok (.getfield 23, 3) := by decide +kernel
theorem dX0_seekLanes_20 : decode cX0_seekLanes 20 = .ok (.invokevirtual 64, 3) := by decide +kernel
theorem dX0_seekLanes_23 : decode cX0_seekLanes 23 = .ok (.imul, 1) := by decide +kernel
theorem dX0_seekLanes_24 : decode cX0_seekLanes 24 = .ok (.ishl, 1) := by decide +kernel
theorem dX0_seekLanes_25 : decode cX0_seekLanes 25 = .ok (.istore_n 1, 1) := by decide +kernel
theorem dX0_seekLanes_26 : decode cX0_seekLanes 26 = .ok (.iconst 0, 1) := by decide +kernel
theorem dX0_seekLanes_27 : decode cX0_seekLanes 27 = .ok (.istore_n 2, 1) := by decide +kernel
theorem dX0_seekLanes_28 : decode cX0_seekLanes 28 = .ok (.iload_n 2, 1) := by decide +kernel
theorem dX0_seekLanes_29 : decode cX0_seekLanes 29 = .ok (.iload_n 1, 1) := by decide +kernel
theorem dX0_seekLanes_30 : decode cX0_seekLanes 30 = .ok (.if_icmp .ge 41, 3) := by decide +kernel
theorem dX0_seekLanes_33 : decode cX0_seekLanes 33 = .ok (.aload_n 0, 1) := by decide +kernel
theorem dX0_seekLanes_34 : decode cX0_seekLanes 34 = .ok (.iload_n 2, 1) := by decide +kernel
theorem dX0_seekLanes_35 : decode cX0_seekLanes 35 = .ok (.invokevirtual 67, 3) := by decide +kernel
theorem dX0_seekLanes_38 : decode cX0_seekLanes 38 = .ok (.istore_n 3, 1) := by decide +kernel
theorem dX0_seekLanes_39 : decode cX0_seekLanes 39 = .ok (.aload_n 0, 1) := by decide +kernel
theorem dX0_seekLanes_40 : decode cX0_seekLanes 40 = .ok (.getfield 35, 3) := by decide +kernel
theorem dX0_seekLanes_43 : decode cX0_seekLanes 43 = .ok (.iconst (-1), 1) := by decide +kernel
theorem dX0_seekLanes_44 : decode cX0_seekLanes 44 = .ok (.if_icmp .eq 11, 3) := by decide +kernel
theorem dX0_seekLanes_47 : decode cX0_seekLanes 47 = .ok (.iload_n 3, 1) := by decide +kernel
theorem dX0_seekLanes_48 : decode cX0_seekLanes 48 = .ok (.aload_n 0, 1) := by decide +kernel
theorem dX0_seekLanes_49 : decode cX0_seekLanes 49 = .ok (.getfield 35, 3) := by decide +kernel
theorem dX0_seekLanes_52 : decode cX0_seekLanes 52 = .ok (.if_icmp .ge 13, 3) := by decide +kernel
theorem dX0_seekLanes_55 : decode cX0_seekLanes 55 = .ok (.aload_n 0, 1) := by decide +kernel
theorem dX0_seekLanes_56 : decode cX0_seekLanes 56 = .ok (.iload_n 2, 1) := by decide +kernel
theorem dX0_seekLanes_57 : decode cX0_seekLanes 57 = .ok (.putfield 31, 3) := by decide +kernel
theorem dX0_seekLanes_60 : decode cX0_seekLanes 60 = .ok (.aload_n 0, 1) := by decide +kernel
theorem dX0_seekLanes_61 : decode cX0_seekLanes 61 = .ok (.iload_n 3, 1) := by decide +kernel
theorem dX0_seekLanes_62 : decode cX0_seekLanes 62 = .ok (.putfield 35, 3) := by decide +kernel
theorem dX0_seekLanes_65 : decode cX0_seekLanes 65 = .ok (.iinc 2 1, 3) := by decide +kernel
theorem dX0_seekLanes_68 : decode cX0_seekLanes 68 = .ok (.goto (-40), 3) := by decide +kernel
theorem dX0_seekLanes_71 : decode cX0_seekLanes 71 = .ok (.aload_n 0, 1) := by decide +kernel
theorem dX0_seekLanes_72 : decode cX0_seekLanes 72 = .ok (.aload_n 0, 1) := by decide +kernel
theorem dX0_seekLanes_73 : decode cX0_seekLanes 73 = .ok (.aload_n 0, 1) := by decide +kernel
theorem dX0_seekLanes_74 : decode cX0_seekLanes 74 = .ok (.getfield 31, 3) := by decide +kernel
theorem dX0_seekLanes_77 : decode cX0_seekLanes 77 = .ok (.invokevirtual 70, 3) := by decide +kernel
theorem dX0_seekLanes_80 : decode cX0_seekLanes 80 = .ok (.putfield 31, 3) := by decide +kernel
theorem dX0_seekLanes_83 : decode cX0_seekLanes 83 = .ok (.return_, 1) := by decide +kernel
theorem qX0_seekLanes (d : Nat) (s : Sg) : RUN (d + 1) mX0_seekLanes [vr 21 0] s = bV (RUN d mX0_fillLaneBadness [vr 21 0] s) (fun s1 => bI (RUN d mX1_size [vr 1 0] (up (up s1 21 0 5 0) 21 0 6 (-1))) (fun r2 s2 => EV (d + 1) mX0_seekLanes (28, [vr 21 0, vi (wshl 1 (w32 (2 * r2))), vi 0, UU], [], s2))) := x_run rfl (x_st 1 dX0_seekLanes_0 rfl (x_cv 4 [vr 21 0, UU, UU, UU] [] dX0_seekLanes_1 rfl (fun s1 => x_st 5 dX0_seekLanes_4 rfl (x_st 6 dX0_seekLanes_5 rfl (x_st 9 dX0_seekLanes_6 rfl (x_st 10 dX0_seekLanes_9 rfl (x_st 11 dX0_seekLanes_10 rfl (x_st 14 dX0_seekLanes_11 rfl (x_st 15 dX0_seekLanes_14 rfl (x_st 16 dX0_seekLanes_15 rfl (x_st 17 dX0_seekLanes_16 rfl (x_st 20 dX0_seekLanes_17 rfl (x_ci 23 [vr 21 0, UU, UU, UU] [vi 2, vi 1] dX0_seekLanes_20 rfl (fun r2 s2 => x_st 24 dX0_seekLanes_23 rfl (x_st 25 dX0_seekLanes_24 rfl (x_so 26 [vr 21 0, vi (wshl 1 (w32 (2 * r2))), UU, UU] dX0_seekLanes_25 rfl (x_st 27 dX0_seekLanes_26 rfl (x_so 28 [vr 21 0, vi (wshl 1 (w32 (2 * r2))), vi 0, UU] dX0_seekLanes_27 rfl (rfl)))))))))))))))))))
theorem qX0_seekLanes_28 (d : Nat) (x1 : Int) (x2 : Int) (z3 : PV) (s : Sg) : EV (d + 1) mX0_seekLanes (28, [vr 21 0, vi x1, vi x2, z3], [], s) = if x2 < x1 then (bI (RUN d mX0_badnessOfWay [vr 21 0, vi x2] s) (fun r1 s1 => if (s1 21 0 6) = (-1) then (EV (d + 1) mX0_seekLanes (55, [vr 21 0, vi x1, vi x2, vi r1], [], s1)) else (if r1 < (s1 21 0 6) then (EV (d + 1) mX0_seekLanes (55, [vr 21 0, vi x1, vi x2, vi r1], [], s1)) else (EV (d + 1) mX0_seekLanes (65, [vr 21 0, vi x1, vi x2, vi r1], [], s1))))) else (bI (RUN d mX0_digits [vr 21 0, vi (s 21 0 5)] s) (fun r2 s2 => some (none, (up s2 21 0 5 r2)))) := x_st 29 dX0_seekLanes_28 rfl (x_st 30 dX0_seekLanes_29 rfl (x_br dX0_seekLanes_30 (x_if (x_go 33 (x_st 34 dX0_seekLanes_33 rfl (x_st 35 dX0_seekLanes_34 rfl (x_ci 38 [vr 21 0, vi x1, vi x2, z3] [] dX0_seekLanes_35 rfl (fun r1 s1 => x_so 39 [vr 21 0, vi x1, vi x2, vi r1] dX0_seekLanes_38 rfl (x_st 40 dX0_seekLanes_39 rfl (x_st 43 dX0_seekLanes_40 rfl (x_st 44 dX0_seekLanes_43 rfl (x_br dX0_seekLanes_44 (x_if (x_go 55 (rfl)) (x_go 47 (x_st 48 dX0_seekLanes_47 rfl (x_st 49 dX0_seekLanes_48 rfl (x_st 52 dX0_seekLanes_49 rfl (x_br dX0_seekLanes_52 (x_if (x_go 55 (rfl)) (x_go 65 (rfl)))))))))))))))))) (x_go 71 (x_st 72 dX0_seekLanes_71 rfl (x_st 73 dX0_seekLanes_72 rfl (x_st 74 dX0_seekLanes_73 rfl (x_st 77 dX0_seekLanes_74 rfl (x_ci 80 [vr 21 0, vi x1, vi x2, z3] [vr 21 0] dX0_seekLanes_77 rfl (fun r2 s2 => x_st 83 dX0_seekLanes_80 rfl (x_ret dX0_seekLanes_83 rfl)))))))))))
theorem qX0_seekLanes_55 (d : Nat) (x1 : Int) (x2 : Int) (x3 : Int) (s : Sg) : EV d mX0_seekLanes (55, [vr 21 0, vi x1, vi x2, vi x3], [], s) = EV d mX0_seekLanes (65, [vr 21 0, vi x1, vi x2, vi x3], [], (up (up s 21 0 5 x2) 21 0 6 x3)) := x_st 56 dX0_seekLanes_55 rfl (x_st 57 dX0_seekLanes_56 rfl (x_st 60 dX0_seekLanes_57 rfl (x_st 61 dX0_seekLanes_60 rfl (x_st 62 dX0_seekLanes_61 rfl (x_st 65 dX0_seekLanes_62 rfl (rfl))))))
theorem qX0_seekLanes_65 (d : Nat) (x1 : Int) (x2 : Int) (z3 : PV) (s : Sg) : EV d mX0_seekLanes (65, [vr 21 0, vi x1, vi x2, z3], [], s) = EV d mX0_seekLanes (28, [vr 21 0, vi x1, vi (w32 (x2 + 1)), z3], [], s) := x_so 68 [vr 21 0, vi x1, vi (w32 (x2 + 1)), z3] dX0_seekLanes_65 rfl (x_st 28 dX0_seekLanes_68 rfl (rfl))
theorem dX0_seekMinute_0 : decode cX0_seekMinute 0 = .ok (.aload_n 0, 1) := by decide +kernel
theorem dX0_seekMinute_1 : decode cX0_seekMinute 1 = .ok (.iconst (-1), 1) := by decide +kernel
theorem dX0_seekMinute_2 : decode cX0_seekMinute 2 = .ok (.putfield 31, 3) := by decide +kernel
theorem dX0_seekMinute_5 : decode cX0_seekMinute 5 = .ok (.aload_n 0, 1) := by decide +kernel
theorem dX0_seekMinute_6 : decode cX0_seekMinute 6 = .ok (.iconst (-1), 1) := by decide +kernel
theorem dX0_seekMinute_7 : decode cX0_seekMinute 7 = .ok (.putfield 35, 3) := by decide +kernel
theorem dX0_seekMinute_10 : decode cX0_seekMinute 10 = .ok (.aload_n 0, 1) := by decide +kernel
theorem dX0_seekMinute_11 : decode cX0_seekMinute 11 = .ok (.getfield 23, 3) := by decide +kernel
theorem dX0_seekMinute_14 : decode cX0_seekMinute 14 = .ok (.iconst 3, 1) := by decide +kernel
theorem dX0_seekMinute_15 : decode cX0_seekMinute 15 = .ok (.iload_n 1, 1) := by decide +kernel
theorem dX0_seekMinute_16 : decode cX0_seekMinute 16 = .ok (.invokevirtual 38, 3) := by decide +kernel
theorem dX0_seekMinute_19 : decode cX0_seekMinute 19 = .ok (.istore_n 2, 1) := by decide +kernel
theorem dX0_seekMinute_20 : decode cX0_seekMinute 20 = .ok (.iconst 0, 1) := by decide +kernel
theorem dX0_seekMinute_21 : decode cX0_seekMinute 21 = .ok (.istore_n 3, 1) := by decide +kernel
theorem dX0_seekMinute_22 : decode cX0_seekMinute 22 = .ok (.iload_n 3, 1) := by decide +kernel
theorem dX0_seekMinute_23 : decode cX0_seekMinute 23 = .ok (.getstatic 73, 3) := by decide +kernel
theorem dX0_seekMinute_26 : decode cX0_seekMinute 26 = .ok (.iconst 3, 1) := by decide +kernel
theorem dX0_seekMinute_27 : decode cX0_seekMinute 27 = .ok (.iaload, 1) := by decide +kernel
theorem dX0_seekMinute_28 : decode cX0_seekMinute 28 = .ok (.if_icmp .gt 73, 3) := by decide +kernel
theorem dX0_seekMinute_31 : decode cX0_seekMinute 31 = .ok (.aload_n 0, 1) := by decide +kernel
theorem dX0_seekMinute_32 : decode cX0_seekMinute 32 = .ok (.getfield 23, 3) := by decide +kernel
theorem dX0_seekMinute_35 : decode cX0_seekMinute 35 = .ok (.iconst 3, 1) := by decide +kernel
theorem dX0_seekMinute_36 : decode cX0_seekMinute 36 = .ok (.iload_n 1, 1) := by decide +kernel
theorem dX0_seekMinute_37 : decode cX0_seekMinute 37 = .ok (.iload_n 3, 1) := by decide +kernel
theorem dX0_seekMinute_38 : decode cX0_seekMinute 38 = .ok (.invokevirtual 44, 3) := by decide +kernel
theorem dX0_seekMinute_41 : decode cX0_seekMinute 41 = .ok (.pop, 1) := by decide +kernel
theorem dX0_seekMinute_42 : decode cX0_seekMinute 42 = .ok (.aload_n 0, 1) := by decide +kernel
theorem dX0_seekMinute_43 : decode cX0_seekMinute 43 = .ok (.getfield 27, 3) := by decide +kernel
theorem dX0_seekMinute_46 : decode cX0_seekMinute 46 = .ok (.invokevirtual 48, 3) := by decide +kernel
theorem dX0_seekMinute_49 : decode cX0_seekMinute 49 = .ok (.aload_n 0, 1) := by decide +kernel
theorem dX0_seekMinute_50 : decode cX0_seekMinute 50 = .ok (.getfield 27, 3) := by decide +kernel
theorem dX0_seekMinute_53 : decode cX0_seekMinute 53 = .ok (.invokevirtual 53, 3) := by decide +kernel
theorem dX0_seekMinute_56 : decode cX0_seekMinute 56 = .ok (.pop, 1) := by decide +kernel
theorem dX0_seekMinute_57 : decode cX0_seekMinute 57 = .ok (.aload_n 0, 1) := by decide +kernel
theorem dX0_seekMinute_58 : decode cX0_seekMinute 58 = .ok (.getfield 27, 3) := by decide +kernel
theorem dX0_seekMinute_61 : decode cX0_seekMinute 61 = .ok (.iload_n 1, 1) := by decide +kernel
theorem dX0_seekMinute_62 : decode cX0_seekMinute 62 = .ok (.invokevirtual 76, 3) := by decide +kernel
theorem dX0_seekMinute_65 : decode cX0_seekMinute 65 = .ok (.istore 4, 2) := by decide +kernel
theorem dX0_seekMinute_67 : decode cX0_seekMinute 67 = .ok (.aload_n 0, 1) := by decide +kernel
theorem dX0_seekMinute_68 : decode cX0_seekMinute 68 = .ok (.getfield 31, 3) := by decide +kernel
theorem dX0_seekMinute_71 : decode cX0_seekMinute 71 = .ok (.iconst (-1), 1) := by decide +kernel
theorem dX0_seekMinute_72 : decode cX0_seekMinute 72 = .ok (.if_icmp .eq 12, 3) := by decide +kernel
theorem dX0_seekMinute_75 : decode cX0_seekMinute 75 = .ok (.iload 4, 2) := by decide +kernel
theorem dX0_seekMinute_77 : decode cX0_seekMinute 77 = .ok (.aload_n 0, 1) := by decide +kernel
theorem dX0_seekMinute_78 : decode cX0_seekMinute 78 = .ok (.getfield 35, 3) := by decide +kernel
theorem dX0_seekMinute_81 : decode cX0_seekMinute 81 = .ok (.if_icmp .ge 14, 3) := by decide +kernel
theorem dX0_seekMinute_84 : decode cX0_seekMinute 84 = .ok (.aload_n 0, 1) := by decide +kernel
theorem dX0_seekMinute_85 : decode cX0_seekMinute 85 = .ok (.iload_n 3, 1) := by decide +kernel
theorem dX0_seekMinute_86 : decode cX0_seekMinute 86 = .ok (.putfield 31, 3) := by decide +kernel
theorem dX0_seekMinute_89 : decode cX0_seekMinute 89 = .ok (.aload_n 0, 1) := by decide +kernel
theorem dX0_seekMinute_90 : decode cX0_seekMinute 90 = .ok (.iload 4, 2) := by decide +kernel
theorem dX0_seekMinute_92 : decode cX0_seekMinute 92 = .ok (.putfield 35, 3) := by decide +kernel
theorem dX0_seekMinute_95 : decode cX0_seekMinute 95 = .ok (.iinc 3 1, 3) := by decide +kernel
theorem dX0_seekMinute_98 : decode cX0_seekMinute 98 = .ok (.goto (-76), 3) := by decide +kernel
theorem dX0_seekMinute_101 : decode cX0_seekMinute 101 = .ok (.aload_n 0, 1) := by decide +kernel
theorem dX0_seekMinute_102 : decode cX0_seekMinute 102 = .ok (.getfield 23, 3) := by decide +kernel
theorem dX0_seekMinute_105 : decode cX0_seekMinute 105 = .ok (.iconst 3, 1) := by decide +kernel
theorem dX0_seekMinute_106 : decode cX0_seekMinute 106 = .ok (.iload_n 1, 1) := by decide +kernel
theorem dX0_seekMinute_107 : decode cX0_seekMinute 107 = .ok (.iload_n 2, 1) := by decide +kernel
theorem dX0_seekMinute_108 : decode cX0_seekMinute 108 = .ok (.invokevirtual 44, 3) := by decide +kernel
theorem dX0_seekMinute_111 : decode cX0_seekMinute 111 = .ok (.pop, 1) := by decide +kernel
theorem dX0_seekMinute_112 : decode cX0_seekMinute 112 = .ok (.return_, 1) := by decide +kernel
theorem qX0_seekMinute (d : Nat) (x1 : Int) (s : Sg) : RUN (d + 1) mX0_seekMinute [vr 21 0, vi x1] s = bI (RUN d mX1_tell [vr 1 0, vi 3, vi x1] (up (up s 21 0 5 (-1)) 21 0 6 (-1))) (fun r1 s1 => EV (d + 1) mX0_seekMinute (22, [vr 21 0, vi x1, vi r1, vi 0, UU], [], s1)) := x_run rfl (x_st 1 dX0_seekMinute_0 rfl (x_st 2 dX0_seekMinute_1 rfl (x_st 5 dX0_seekMinute_2 rfl (x_st 6 dX0_seekMinute_5 rfl (x_st 7 dX0_seekMinute_6 rfl (x_st 10 dX0_seekMinute_7 rfl (x_st 11 dX0_seekMinute_10 rfl (x_st 14 dX0_seekMinute_11 rfl (x_st 15 dX0_seekMinute_14 rfl (x_st 16 dX0_seekMinute_15 rfl (x_ci 19 [vr 21 0, vi x1, UU, UU, UU] [] dX0_seekMinute_16 rfl (fun r1 s1 => x_so 20 [vr 21 0, vi x1, vi r1, UU, UU] dX0_seekMinute_19 rfl (x_st 21 dX0_seekMinute_20 rfl (x_so 22 [vr 21 0, vi x1, vi r1, vi 0, UU] dX0_seekMinute_21 rfl (rfl)))))))))))))))
theorem qX0_seekMinute_22 (d : Nat) (x1 : Int) (x2 : Int) (x3 : Int) (z4 : PV) (s : Sg) : EV (d + 1) mX0_seekMinute (22, [vr 21 0, vi x1, vi x2, vi x3, z4], [], s) = if 99 < x3 then (bI (RUN d mX1_put [vr 1 0, vi 3, vi x1, vi x2] s) (fun r1 s1 => some (none, s1))) else (bI (RUN d mX1_put [vr 1 0, vi 3, vi x1, vi x3] s) (fun r2 s2 => bV (RUN d mX7_spread [vr 13 0] s2) (fun s3 => bI (RUN d mX7_playAll [vr 13 0] s3) (fun r4 s4 => bI (RUN d mX7_waited [vr 13 0, vi x1] s4) (fun r5 s5 => if (s5 21 0 5) = (-1) then (EV (d + 1) mX0_seekMinute (84, [vr 21 0, vi x1, vi x2, vi x3, vi r5], [], s5)) else (if r5 < (s5 21 0 6) then (EV (d + 1) mX0_seekMinute (84, [vr 21 0, vi x1, vi x2, vi x3, vi r5], [], s5)) else (EV (d + 1) mX0_seekMinute (95, [vr 21 0, vi x1, vi x2, vi x3, vi r5], [], s5)))))))) := x_st 23 dX0_seekMinute_22 rfl (x_st 26 dX0_seekMinute_23 rfl (x_st 27 dX0_seekMinute_26 rfl (x_st 28 dX0_seekMinute_27 rfl (x_br dX0_seekMinute_28 (x_if (x_go 101 (x_st 102 dX0_seekMinute_101 rfl (x_st 105 dX0_seekMinute_102 rfl (x_st 106 dX0_seekMinute_105 rfl (x_st 107 dX0_seekMinute_106 rfl (x_st 108 dX0_seekMinute_107 rfl (x_ci 111 [vr 21 0, vi x1, vi x2, vi x3, z4] [] dX0_seekMinute_108 rfl (fun r1 s1 => x_st 112 dX0_seekMinute_111 rfl (x_ret dX0_seekMinute_112 rfl))))))))) (x_go 31 (x_st 32 dX0_seekMinute_31 rfl (x_st 35 dX0_seekMinute_32 rfl (x_st 36 dX0_seekMinute_35 rfl (x_st 37 dX0_seekMinute_36 rfl (x_st 38 dX0_seekMinute_37 rfl (x_ci 41 [vr 21 0, vi x1, vi x2, vi x3, z4] [] dX0_seekMinute_38 rfl (fun r2 s2 => x_st 42 dX0_seekMinute_41 rfl (x_st 43 dX0_seekMinute_42 rfl (x_st 46 dX0_seekMinute_43 rfl (x_cv 49 [vr 21 0, vi x1, vi x2, vi x3, z4] [] dX0_seekMinute_46 rfl (fun s3 => x_st 50 dX0_seekMinute_49 rfl (x_st 53 dX0_seekMinute_50 rfl (x_ci 56 [vr 21 0, vi x1, vi x2, vi x3, z4] [] dX0_seekMinute_53 rfl (fun r4 s4 => x_st 57 dX0_seekMinute_56 rfl (x_st 58 dX0_seekMinute_57 rfl (x_st 61 dX0_seekMinute_58 rfl (x_st 62 dX0_seekMinute_61 rfl (x_ci 65 [vr 21 0, vi x1, vi x2, vi x3, z4] [] dX0_seekMinute_62 rfl (fun r5 s5 => x_so 67 [vr 21 0, vi x1, vi x2, vi x3, vi r5] dX0_seekMinute_65 rfl (x_st 68 dX0_seekMinute_67 rfl (x_st 71 dX0_seekMinute_68 rfl (x_st 72 dX0_seekMinute_71 rfl (x_br dX0_seekMinute_72 (x_if (x_go 84 (rfl)) (x_go 75 (x_st 77 dX0_seekMinute_75 rfl (x_st 78 dX0_seekMinute_77 rfl (x_st 81 dX0_seekMinute_78 rfl (x_br dX0_seekMinute_81 (x_if (x_go 84 (rfl)) (x_go 95 (rfl))))))))))))))))))))))))))))))))))))))
theorem qX0_seekMinute_84 (d : Nat) (x1 : Int) (x2 : Int) (x3 : Int) (x4 : Int) (s : Sg) : EV d mX0_seekMinute (84, [vr 21 0, vi x1, vi x2, vi x3, vi x4], [], s) = EV d mX0_seekMinute (95, [vr 21 0, vi x1, vi x2, vi x3, vi x4], [], (up (up s 21 0 5 x3) 21 0 6 x4)) := x_st 85 dX0_seekMinute_84 rfl (x_st 86 dX0_seekMinute_85 rfl (x_st 89 dX0_seekMinute_86 rfl (x_st 90 dX0_seekMinute_89 rfl (x_st 92 dX0_seekMinute_90 rfl (x_st 95 dX0_seekMinute_92 rfl (rfl))))))
theorem qX0_seekMinute_95 (d : Nat) (x1 : Int) (x2 : Int) (x3 : Int) (z4 : PV) (s : Sg) : EV d mX0_seekMinute (95, [vr 21 0, vi x1, vi x2, vi x3, z4], [], s) = EV d mX0_seekMinute (22, [vr 21 0, vi x1, vi x2, vi (w32 (x3 + 1)), z4], [], s) := x_so 98 [vr 21 0, vi x1, vi x2, vi (w32 (x3 + 1)), z4] dX0_seekMinute_95 rfl (x_st 22 dX0_seekMinute_98 rfl (rfl))
theorem dX0_seekBlame_0 : decode cX0_seekBlame 0 = .ok (.aload_n 0, 1) := by decide +kernel
theorem dX0_seekBlame_1 : decode cX0_seekBlame 1 = .ok (.getfield 27, 3) := by decide +kernel
theorem dX0_seekBlame_4 : decode cX0_seekBlame 4 = .ok (.invokevirtual 48, 3) := by decide +kernel
theorem dX0_seekBlame_7 : decode cX0_seekBlame 7 = .ok (.aload_n 0, 1) := by decide +kernel
theorem dX0_seekBlame_8 : decode cX0_seekBlame 8 = .ok (.iconst (-1), 1) := by decide +kernel
theorem dX0_seekBlame_9 : decode cX0_seekBlame 9 = .ok (.putfield 31, 3) := by decide +kernel
theorem dX0_seekBlame_12 : decode cX0_seekBlame 12 = .ok (.aload_n 0, 1) := by decide +kernel
theorem dX0_seekBlame_13 : decode cX0_seekBlame 13 = .ok (.aload_n 0, 1) := by decide +kernel
theorem dX0_seekBlame_14 : decode cX0_seekBlame 14 = .ok (.getfield 27, 3) := by decide +kernel
theorem dX0_seekBlame_17 : decode cX0_seekBlame 17 = .ok (.invokevirtual 53, 3) := by decide +kernel
theorem dX0_seekBlame_20 : decode cX0_seekBlame 20 = .ok (.putfield 35, 3) := by decide +kernel
theorem dX0_seekBlame_23 : decode cX0_seekBlame 23 = .ok (.iconst 0, 1) := by decide +kernel
theorem dX0_seekBlame_24 : decode cX0_seekBlame 24 = .ok (.istore_n 1, 1) := by decide +kernel
theorem dX0_seekBlame_25 : decode cX0_seekBlame 25 = .ok (.iload_n 1, 1) := by decide +kernel
theorem dX0_seekBlame_26 : decode cX0_seekBlame 26 = .ok (.aload_n 0, 1) := by decide +kernel
theorem dX0_seekBlame_27 : decode cX0_seekBlame 27 = .ok (.getfield 23, 3) := by decide +kernel
theorem dX0_seekBlame_30 : decode cX0_seekBlame 30 = .ok (.invokevirtual 64, 3) := by decide +kernel
theorem dX0_seekBlame_33 : decode cX0_seekBlame 33 = .ok (.if_icmp .ge 28, 3) := by decide +kernel
theorem dX0_seekBlame_36 : decode cX0_seekBlame 36 = .ok (.aload_n 0, 1) := by decide +kernel
theorem dX0_seekBlame_37 : decode cX0_seekBlame 37 = .ok (.getfield 20, 3) := by decide +kernel
theorem dX0_seekBlame_40 : decode cX0_seekBlame 40 = .ok (.iload_n 1, 1) := by decide +kernel
theorem dX0_seekBlame_41 : decode cX0_seekBlame 41 = .ok (.aload_n 0, 1) := by decide +kernel
theorem dX0_seekBlame_42 : decode cX0_seekBlame 42 = .ok (.getfield 35, 3) := by decide +kernel
theorem dX0_seekBlame_45 : decode cX0_seekBlame 45 = .ok (.aload_n 0, 1) := by decide +kernel
theorem dX0_seekBlame_46 : decode cX0_seekBlame 46 = .ok (.getfield 27, 3) := by decide +kernel
theorem dX0_seekBlame_49 : decode cX0_seekBlame 49 = .ok (.iload_n 1, 1) := by decide +kernel
theorem dX0_seekBlame_50 : decode cX0_seekBlame 50 = .ok (.invokevirtual 79, 3) := by decide +kernel
theorem dX0_seekBlame_53 : decode cX0_seekBlame 53 = .ok (.isub, 1) := by decide +kernel
theorem dX0_seekBlame_54 : decode cX0_seekBlame 54 = .ok (.iastore, 1) := by decide +kernel
theorem dX0_seekBlame_55 : decode cX0_seekBlame 55 = .ok (.iinc 1 1, 3) := by decide +kernel
theorem dX0_seekBlame_58 : decode cX0_seekBlame 58 = .ok (.goto (-33), 3) := by decide +kernel
theorem dX0_seekBlame_61 : decode cX0_seekBlame 61 = .ok (.iconst 0, 1) := by decide +kernel
theorem dX0_seekBlame_62 : decode cX0_seekBlame 62 = .ok (.istore_n 1, 1) := by decide +kernel
theorem dX0_seekBlame_63 : decode cX0_seekBlame 63 = .ok (.iconst 0, 1) := by decide +kernel
theorem dX0_seekBlame_64 : decode cX0_seekBlame 64 = .ok (.istore_n 2, 1) := by decide +kernel
theorem dX0_seekBlame_65 : decode cX0_seekBlame 65 = .ok (.iload_n 2, 1) := by decide +kernel
theorem dX0_seekBlame_66 : decode cX0_seekBlame 66 = .ok (.aload_n 0, 1) := by decide +kernel
theorem dX0_seekBlame_67 : decode cX0_seekBlame 67 = .ok (.getfield 23, 3) := by decide +kernel
theorem dX0_seekBlame_70 : decode cX0_seekBlame 70 = .ok (.invokevirtual 64, 3) := by decide +kernel
theorem dX0_seekBlame_73 : decode cX0_seekBlame 73 = .ok (.if_icmp .ge 63, 3) := by decide +kernel
theorem dX0_seekBlame_76 : decode cX0_seekBlame 76 = .ok (.aload_n 0, 1) := by decide +kernel
theorem dX0_seekBlame_77 : decode cX0_seekBlame 77 = .ok (.getfield 27, 3) := by decide +kernel
theorem dX0_seekBlame_80 : decode cX0_seekBlame 80 = .ok (.invokevirtual 48, 3) := by decide +kernel
theorem dX0_seekBlame_83 : decode cX0_seekBlame 83 = .ok (.aload_n 0, 1) := by decide +kernel
theorem dX0_seekBlame_84 : decode cX0_seekBlame 84 = .ok (.getfield 27, 3) := by decide +kernel
theorem dX0_seekBlame_87 : decode cX0_seekBlame 87 = .ok (.iload_n 2, 1) := by decide +kernel
theorem dX0_seekBlame_88 : decode cX0_seekBlame 88 = .ok (.invokevirtual 82, 3) := by decide +kernel
theorem dX0_seekBlame_91 : decode cX0_seekBlame 91 = .ok (.aload_n 0, 1) := by decide +kernel
theorem dX0_seekBlame_92 : decode cX0_seekBlame 92 = .ok (.getfield 27, 3) := by decide +kernel
theorem dX0_seekBlame_95 : decode cX0_seekBlame 95 = .ok (.invokevirtual 53, 3) := by decide +kernel
theorem dX0_seekBlame_98 : decode cX0_seekBlame 98 = .ok (.istore_n 3, 1) := by decide +kernel
theorem dX0_seekBlame_99 : decode cX0_seekBlame 99 = .ok (.aload_n 0, 1) := by decide +kernel
theorem dX0_seekBlame_100 : decode cX0_seekBlame 100 = .ok (.getfield 20, 3) := by decide +kernel
theorem dX0_seekBlame_103 : decode cX0_seekBlame 103 = .ok (.iload_n 2, 1) := by decide +kernel
theorem dX0_seekBlame_104 : decode cX0_seekBlame 104 = .ok (.iaload, 1) := by decide +kernel
theorem dX0_seekBlame_105 : decode cX0_seekBlame 105 = .ok (.iload_n 3, 1) := by decide +kernel
theorem dX0_seekBlame_106 : decode cX0_seekBlame 106 = .ok (.isub, 1) := by decide +kernel
theorem dX0_seekBlame_107 : decode cX0_seekBlame 107 = .ok (.iload_n 1, 1) := by decide +kernel
theorem dX0_seekBlame_108 : decode cX0_seekBlame 108 = .ok (.if_icmp .le 22, 3) := by decide +kernel
theorem dX0_seekBlame_111 : decode cX0_seekBlame 111 = .ok (.aload_n 0, 1) := by decide +kernel
theorem dX0_seekBlame_112 : decode cX0_seekBlame 112 = .ok (.getfield 20, 3) := by decide +kernel
theorem dX0_seekBlame_115 : decode cX0_seekBlame 115 = .ok (.iload_n 2, 1) := by decide +kernel
theorem dX0_seekBlame_116 : decode cX0_seekBlame 116 = .ok (.iaload, 1) := by decide +kernel
theorem dX0_seekBlame_117 : decode cX0_seekBlame 117 = .ok (.iload_n 3, 1) := by decide +kernel
theorem dX0_seekBlame_118 : decode cX0_seekBlame 118 = .ok (.isub, 1) := by decide +kernel
theorem dX0_seekBlame_119 : decode cX0_seekBlame 119 = .ok (.istore_n 1, 1) := by decide +kernel
theorem dX0_seekBlame_120 : decode cX0_seekBlame 120 = .ok (.aload_n 0, 1) := by decide +kernel
theorem dX0_seekBlame_121 : decode cX0_seekBlame 121 = .ok (.iload_n 2, 1) := by decide +kernel
theorem dX0_seekBlame_122 : decode cX0_seekBlame 122 = .ok (.putfield 31, 3) := by decide +kernel
theorem dX0_seekBlame_125 : decode cX0_seekBlame 125 = .ok (.aload_n 0, 1) := by decide +kernel
theorem dX0_seekBlame_126 : decode cX0_seekBlame 126 = .ok (.iload_n 3, 1) := by decide +kernel
theorem dX0_seekBlame_127 : decode cX0_seekBlame 127 = .ok (.putfield 35, 3) := by decide +kernel
theorem dX0_seekBlame_130 : decode cX0_seekBlame 130 = .ok (.iinc 2 1, 3) := by decide +kernel
theorem dX0_seekBlame_133 : decode cX0_seekBlame 133 = .ok (.goto (-68), 3) := by decide +kernel
theorem dX0_seekBlame_136 : decode cX0_seekBlame 136 = .ok (.return_, 1) := by decide +kernel
theorem qX0_seekBlame (d : Nat) (s : Sg) : RUN (d + 1) mX0_seekBlame [vr 21 0] s = bV (RUN d mX7_spread [vr 13 0] s) (fun s1 => bI (RUN d mX7_playAll [vr 13 0] (up s1 21 0 5 (-1))) (fun r2 s2 => EV (d + 1) mX0_seekBlame (25, [vr 21 0, vi 0, UU, UU], [], (up s2 21 0 6 r2)))) := x_run rfl (x_st 1 dX0_seekBlame_0 rfl (x_st 4 dX0_seekBlame_1 rfl (x_cv 7 [vr 21 0, UU, UU, UU] [] dX0_seekBlame_4 rfl (fun s1 => x_st 8 dX0_seekBlame_7 rfl (x_st 9 dX0_seekBlame_8 rfl (x_st 12 dX0_seekBlame_9 rfl (x_st 13 dX0_seekBlame_12 rfl (x_st 14 dX0_seekBlame_13 rfl (x_st 17 dX0_seekBlame_14 rfl (x_ci 20 [vr 21 0, UU, UU, UU] [vr 21 0] dX0_seekBlame_17 rfl (fun r2 s2 => x_st 23 dX0_seekBlame_20 rfl (x_st 24 dX0_seekBlame_23 rfl (x_so 25 [vr 21 0, vi 0, UU, UU] dX0_seekBlame_24 rfl (rfl))))))))))))))
theorem qX0_seekBlame_25 (d : Nat) (x1 : Int) (z2 : PV) (z3 : PV) (s : Sg) : EV (d + 1) mX0_seekBlame (25, [vr 21 0, vi x1, z2, z3], [], s) = bI (RUN d mX1_size [vr 1 0] s) (fun r1 s1 => if x1 < r1 then (bI (RUN d mX7_share [vr 13 0, vi x1] s1) (fun r2 s2 => if inb x1 6 then (EV (d + 1) mX0_seekBlame (25, [vr 21 0, vi (w32 (x1 + 1)), z2, z3], [], (up s2 25 0 (Int.toNat x1) (w32 ((s1 21 0 6) - r2))))) else none)) else (EV (d + 1) mX0_seekBlame (65, [vr 21 0, vi 0, vi 0, z3], [], s1))) := x_st 26 dX0_seekBlame_25 rfl (x_st 27 dX0_seekBlame_26 rfl (x_st 30 dX0_seekBlame_27 rfl (x_ci 33 [vr 21 0, vi x1, z2, z3] [vi x1] dX0_seekBlame_30 rfl (fun r1 s1 => x_br dX0_seekBlame_33 (x_if (x_go 36 (x_st 37 dX0_seekBlame_36 rfl (x_st 40 dX0_seekBlame_37 rfl (x_st 41 dX0_seekBlame_40 rfl (x_st 42 dX0_seekBlame_41 rfl (x_st 45 dX0_seekBlame_42 rfl (x_st 46 dX0_seekBlame_45 rfl (x_st 49 dX0_seekBlame_46 rfl (x_st 50 dX0_seekBlame_49 rfl (x_ci 53 [vr 21 0, vi x1, z2, z3] [vi (s1 21 0 6), vi x1, vr 25 0] dX0_seekBlame_50 rfl (fun r2 s2 => x_st 54 dX0_seekBlame_53 rfl (x_br dX0_seekBlame_54 (x_if (x_go 55 (x_so 58 [vr 21 0, vi (w32 (x1 + 1)), z2, z3] dX0_seekBlame_55 rfl (x_st 25 dX0_seekBlame_58 rfl (rfl)))) x_no))))))))))))) (x_go 61 (x_st 62 dX0_seekBlame_61 rfl (x_so 63 [vr 21 0, vi 0, z2, z3] dX0_seekBlame_62 rfl (x_st 64 dX0_seekBlame_63 rfl (x_so 65 [vr 21 0, vi 0, vi 0, z3] dX0_seekBlame_64 rfl (rfl)))))))))))
theorem qX0_seekBlame_65 (d : Nat) (x1 : Int) (x2 : Int) (z3 : PV) (s : Sg) : EV (d + 1) mX0_seekBlame (65, [vr 21 0, vi x1, vi x2, z3], [], s) = bI (RUN d mX1_size [vr 1 0] s) (fun r1 s1 => if x2 < r1 then (bV (RUN d mX7_spread [vr 13 0] s1) (fun s2 => bV (RUN d mX7_leaveOut [vr 13 0, vi x2] s2) (fun s3 => bI (RUN d mX7_playAll [vr 13 0] s3) (fun r4 s4 => if inb x2 6 then (if x1 < (w32 ((s4 25 0 (Int.toNat x2)) - r4)) then (if inb x2 6 then (EV (d + 1) mX0_seekBlame (130, [vr 21 0, vi (w32 ((s4 25 0 (Int.toNat x2)) - r4)), vi x2, vi r4], [], (up (up s4 21 0 5 x2) 21 0 6 r4))) else none) else (EV (d + 1) mX0_seekBlame (130, [vr 21 0, vi x1, vi x2, vi r4], [], s4))) else none)))) else (some (none, s1))) := x_st 66 dX0_seekBlame_65 rfl (x_st 67 dX0_seekBlame_66 rfl (x_st 70 dX0_seekBlame_67 rfl (x_ci 73 [vr 21 0, vi x1, vi x2, z3] [vi x2] dX0_seekBlame_70 rfl (fun r1 s1 => x_br dX0_seekBlame_73 (x_if (x_go 76 (x_st 77 dX0_seekBlame_76 rfl (x_st 80 dX0_seekBlame_77 rfl (x_cv 83 [vr 21 0, vi x1, vi x2, z3] [] dX0_seekBlame_80 rfl (fun s2 => x_st 84 dX0_seekBlame_83 rfl (x_st 87 dX0_seekBlame_84 rfl (x_st 88 dX0_seekBlame_87 rfl (x_cv 91 [vr 21 0, vi x1, vi x2, z3] [] dX0_seekBlame_88 rfl (fun s3 => x_st 92 dX0_seekBlame_91 rfl (x_st 95 dX0_seekBlame_92 rfl (x_ci 98 [vr 21 0, vi x1, vi x2, z3] [] dX0_seekBlame_95 rfl (fun r4 s4 => x_so 99 [vr 21 0, vi x1, vi x2, vi r4] dX0_seekBlame_98 rfl (x_st 100 dX0_seekBlame_99 rfl (x_st 103 dX0_seekBlame_100 rfl (x_st 104 dX0_seekBlame_103 rfl (x_br dX0_seekBlame_104 (x_if (x_go 105 (x_st 106 dX0_seekBlame_105 rfl (x_st 107 dX0_seekBlame_106 rfl (x_st 108 dX0_seekBlame_107 rfl (x_br dX0_seekBlame_108 (x_if (x_go 111 (x_st 112 dX0_seekBlame_111 rfl (x_st 115 dX0_seekBlame_112 rfl (x_st 116 dX0_seekBlame_115 rfl (x_br dX0_seekBlame_116 (x_if (x_go 117 (x_st 118 dX0_seekBlame_117 rfl (x_st 119 dX0_seekBlame_118 rfl (x_so 120 [vr 21 0, vi (w32 ((s4 25 0 (Int.toNat x2)) - r4)), vi x2, vi r4] dX0_seekBlame_119 rfl (x_st 121 dX0_seekBlame_120 rfl (x_st 122 dX0_seekBlame_121 rfl (x_st 125 dX0_seekBlame_122 rfl (x_st 126 dX0_seekBlame_125 rfl (x_st 127 dX0_seekBlame_126 rfl (x_st 130 dX0_seekBlame_127 rfl (rfl))))))))))) x_no)))))) (x_go 130 (rfl)))))))) x_no))))))))))))))))) (x_go 136 (x_ret dX0_seekBlame_136 rfl)))))))
theorem qX0_seekBlame_130 (d : Nat) (x1 : Int) (x2 : Int) (z3 : PV) (s : Sg) : EV d mX0_seekBlame (130, [vr 21 0, vi x1, vi x2, z3], [], s) = EV d mX0_seekBlame (65, [vr 21 0, vi x1, vi (w32 (x2 + 1)), z3], [], s) := x_so 133 [vr 21 0, vi x1, vi (w32 (x2 + 1)), z3] dX0_seekBlame_130 rfl (x_st 65 dX0_seekBlame_133 rfl (rfl))
theorem dX0_fillLaneBadness_0 : decode cX0_fillLaneBadness 0 = .ok (.iconst 0, 1) := by decide +kernel
theorem dX0_fillLaneBadness_1 : decode cX0_fillLaneBadness 1 = .ok (.istore_n 1, 1) := by decide +kernel
theorem dX0_fillLaneBadness_2 : decode cX0_fillLaneBadness 2 = .ok (.iload_n 1, 1) := by decide +kernel
theorem dX0_fillLaneBadness_3 : decode cX0_fillLaneBadness 3 = .ok (.iconst 4, 1) := by decide +kernel
theorem dX0_fillLaneBadness_4 : decode cX0_fillLaneBadness 4 = .ok (.if_icmp .ge 47, 3) := by decide +kernel
theorem dX0_fillLaneBadness_7 : decode cX0_fillLaneBadness 7 = .ok (.iconst 0, 1) := by decide +kernel
theorem dX0_fillLaneBadness_8 : decode cX0_fillLaneBadness 8 = .ok (.istore_n 2, 1) := by decide +kernel
theorem dX0_fillLaneBadness_9 : decode cX0_fillLaneBadness 9 = .ok (.iload_n 2, 1) := by decide +kernel
theorem dX0_fillLaneBadness_10 : decode cX0_fillLaneBadness 10 = .ok (.iconst 1, 1) := by decide +kernel
theorem dX0_fillLaneBadness_11 : decode cX0_fillLaneBadness 11 = .ok (.aload_n 0, 1) := by decide +kernel
theorem dX0_fillLaneBadness_12 : decode cX0_fillLaneBadness 12 = .ok (.getfield 23, 3) := by decide +kernel
theorem dX0_fillLaneBadness_15 : decode cX0_fillLaneBadness 15 = .ok (.invokevirtual 64, 3) := by decide +kernel
theorem dX0_fillLaneBadness_18 : decode cX0_fillLaneBadness 18 = .ok (.ishl, 1) := by decide +kernel
theorem dX0_fillLaneBadness_19 : decode cX0_fillLaneBadness 19 = .ok (.if_icmp .ge 26, 3) := by decide +kernel
theorem dX0_fillLaneBadness_22 : decode cX0_fillLaneBadness 22 = .ok (.aload_n 0, 1) := by decide +kernel
theorem dX0_fillLaneBadness_23 : decode cX0_fillLaneBadness 23 = .ok (.getfield 11, 3) := by decide +kernel
theorem dX0_fillLaneBadness_26 : decode cX0_fillLaneBadness 26 = .ok (.iload_n 1, 1) := by decide +kernel
theorem dX0_fillLaneBadness_27 : decode cX0_fillLaneBadness 27 = .ok (.aaload, 1) := by decide +kernel
theorem dX0_fillLaneBadness_28 : decode cX0_fillLaneBadness 28 = .ok (.iload_n 2, 1) := by decide +kernel
theorem dX0_fillLaneBadness_29 : decode cX0_fillLaneBadness 29 = .ok (.aload_n 0, 1) := by decide +kernel
theorem dX0_fillLaneBadness_30 : decode cX0_fillLaneBadness 30 = .ok (.getfield 27, 3) := by decide +kernel
theorem dX0_fillLaneBadness_33 : decode cX0_fillLaneBadness 33 = .ok (.iload_n 1, 1) := by decide +kernel
theorem dX0_fillLaneBadness_34 : decode cX0_fillLaneBadness 34 = .ok (.iload_n 2, 1) := by decide +kernel
theorem dX0_fillLaneBadness_35 : decode cX0_fillLaneBadness 35 = .ok (.invokevirtual 86, 3) := by decide +kernel
theorem dX0_fillLaneBadness_38 : decode cX0_fillLaneBadness 38 = .ok (.iastore, 1) := by decide +kernel
theorem dX0_fillLaneBadness_39 : decode cX0_fillLaneBadness 39 = .ok (.iinc 2 1, 3) := by decide +kernel
theorem dX0_fillLaneBadness_42 : decode cX0_fillLaneBadness 42 = .ok (.goto (-33), 3) := by decide +kernel
theorem dX0_fillLaneBadness_45 : decode cX0_fillLaneBadness 45 = .ok (.iinc 1 1, 3) := by decide +kernel
theorem dX0_fillLaneBadness_48 : decode cX0_fillLaneBadness 48 = .ok (.goto (-46), 3) := by decide +kernel
theorem dX0_fillLaneBadness_51 : decode cX0_fillLaneBadness 51 = .ok (.return_, 1) := by decide +kernel
theorem qX0_fillLaneBadness (d : Nat) (s : Sg) : RUN d mX0_fillLaneBadness [vr 21 0] s = EV d mX0_fillLaneBadness (2, [vr 21 0, vi 0, UU], [], s) := x_run rfl (x_st 1 dX0_fillLaneBadness_0 rfl (x_so 2 [vr 21 0, vi 0, UU] dX0_fillLaneBadness_1 rfl (rfl)))
theorem qX0_fillLaneBadness_2 (d : Nat) (x1 : Int) (z2 : PV) (s : Sg) : EV d mX0_fillLaneBadness (2, [vr 21 0, vi x1, z2], [], s) = if x1 < 4 then (EV d mX0_fillLaneBadness (9, [vr 21 0, vi x1, vi 0], [], s)) else (some (none, s)) := x_st 3 dX0_fillLaneBadness_2 rfl (x_st 4 dX0_fillLaneBadness_3 rfl (x_br dX0_fillLaneBadness_4 (x_if (x_go 7 (x_st 8 dX0_fillLaneBadness_7 rfl (x_so 9 [vr 21 0, vi x1, vi 0] dX0_fillLaneBadness_8 rfl (rfl)))) (x_go 51 (x_ret dX0_fillLaneBadness_51 rfl)))))
theorem qX0_fillLaneBadness_9 (d : Nat) (x1 : Int) (x2 : Int) (s : Sg) : EV (d + 1) mX0_fillLaneBadness (9, [vr 21 0, vi x1, vi x2], [], s) = bI (RUN d mX1_size [vr 1 0] s) (fun r1 s1 => if x2 < (wshl 1 r1) then (if inb x1 4 then (bI (RUN d mX7_playLane [vr 13 0, vi x1, vi x2] s1) (fun r2 s2 => if inb x2 64 then (EV (d + 1) mX0_fillLaneBadness (9, [vr 21 0, vi x1, vi (w32 (x2 + 1))], [], (up s2 23 (Int.toNat x1) (Int.toNat x2) r2))) else none)) else none) else (EV (d + 1) mX0_fillLaneBadness (2, [vr 21 0, vi (w32 (x1 + 1)), vi x2], [], s1))) := x_st 10 dX0_fillLaneBadness_9 rfl (x_st 11 dX0_fillLaneBadness_10 rfl (x_st 12 dX0_fillLaneBadness_11 rfl (x_st 15 dX0_fillLaneBadness_12 rfl (x_ci 18 [vr 21 0, vi x1, vi x2] [vi 1, vi x2] dX0_fillLaneBadness_15 rfl (fun r1 s1 => x_st 19 dX0_fillLaneBadness_18 rfl (x_br dX0_fillLaneBadness_19 (x_if (x_go 22 (x_st 23 dX0_fillLaneBadness_22 rfl (x_st 26 dX0_fillLaneBadness_23 rfl (x_st 27 dX0_fillLaneBadness_26 rfl (x_br dX0_fillLaneBadness_27 (x_if (x_go 28 (x_st 29 dX0_fillLaneBadness_28 rfl (x_st 30 dX0_fillLaneBadness_29 rfl (x_st 33 dX0_fillLaneBadness_30 rfl (x_st 34 dX0_fillLaneBadness_33 rfl (x_st 35 dX0_fillLaneBadness_34 rfl (x_ci 38 [vr 21 0, vi x1, vi x2] [vi x2, vr 23 (Int.toNat x1)] dX0_fillLaneBadness_35 rfl (fun r2 s2 => x_br dX0_fillLaneBadness_38 (x_if (x_go 39 (x_so 42 [vr 21 0, vi x1, vi (w32 (x2 + 1))] dX0_fillLaneBadness_39 rfl (x_st 9 dX0_fillLaneBadness_42 rfl (rfl)))) x_no))))))))) x_no)))))) (x_go 45 (x_so 48 [vr 21 0, vi (w32 (x1 + 1)), vi x2] dX0_fillLaneBadness_45 rfl (x_st 2 dX0_fillLaneBadness_48 rfl (rfl)))))))))))
theorem dX0_commonDivisor_0 : decode cX0_commonDivisor 0 = .ok (.iload_n 0, 1) := by decide +kernel
theorem dX0_commonDivisor_1 : decode cX0_commonDivisor 1 = .ok (.istore_n 2, 1) := by decide +kernel
theorem dX0_commonDivisor_2 : decode cX0_commonDivisor 2 = .ok (.iload_n 1, 1) := by decide +kernel
theorem dX0_commonDivisor_3 : decode cX0_commonDivisor 3 = .ok (.istore_n 3, 1) := by decide +kernel
theorem dX0_commonDivisor_4 : decode cX0_commonDivisor 4 = .ok (.iconst 0, 1) := by decide +kernel
theorem dX0_commonDivisor_5 : decode cX0_commonDivisor 5 = .ok (.istore 4, 2) := by decide +kernel
theorem dX0_commonDivisor_7 : decode cX0_commonDivisor 7 = .ok (.iload 4, 2) := by decide +kernel
theorem dX0_commonDivisor_9 : decode cX0_commonDivisor 9 = .ok (.bipush 64, 2) := by decide +kernel
theorem dX0_commonDivisor_11 : decode cX0_commonDivisor 11 = .ok (.if_icmp .ge 23, 3) := by decide +kernel
theorem dX0_commonDivisor_14 : decode cX0_commonDivisor 14 = .ok (.iload_n 3, 1) := by decide +kernel
theorem dX0_commonDivisor_15 : decode cX0_commonDivisor 15 = .ok (.ifCond .eq 19, 3) := by decide +kernel
theorem dX0_commonDivisor_18 : decode cX0_commonDivisor 18 = .ok (.iload_n 2, 1) := by decide +kernel
theorem dX0_commonDivisor_19 : decode cX0_commonDivisor 19 = .ok (.iload_n 3, 1) := by decide +kernel
theorem dX0_commonDivisor_20 : decode cX0_commonDivisor 20 = .ok (.irem, 1) := by decide +kernel
theorem dX0_commonDivisor_21 : decode cX0_commonDivisor 21 = .ok (.istore 5, 2) := by decide +kernel
theorem dX0_commonDivisor_23 : decode cX0_commonDivisor 23 = .ok (.iload_n 3, 1) := by decide +kernel
theorem dX0_commonDivisor_24 : decode cX0_commonDivisor 24 = .ok (.istore_n 2, 1) := by decide +kernel
theorem dX0_commonDivisor_25 : decode cX0_commonDivisor 25 = .ok (.iload 5, 2) := by decide +kernel
theorem dX0_commonDivisor_27 : decode cX0_commonDivisor 27 = .ok (.istore_n 3, 1) := by decide +kernel
theorem dX0_commonDivisor_28 : decode cX0_commonDivisor 28 = .ok (.iinc 4 1, 3) := by decide +kernel
theorem dX0_commonDivisor_31 : decode cX0_commonDivisor 31 = .ok (.goto (-24), 3) := by decide +kernel
theorem dX0_commonDivisor_34 : decode cX0_commonDivisor 34 = .ok (.iload_n 2, 1) := by decide +kernel
theorem dX0_commonDivisor_35 : decode cX0_commonDivisor 35 = .ok (.ifCond .ne 7, 3) := by decide +kernel
theorem dX0_commonDivisor_38 : decode cX0_commonDivisor 38 = .ok (.iconst 1, 1) := by decide +kernel
theorem dX0_commonDivisor_39 : decode cX0_commonDivisor 39 = .ok (.goto 4, 3) := by decide +kernel
theorem dX0_commonDivisor_42 : decode cX0_commonDivisor 42 = .ok (.iload_n 2, 1) := by decide +kernel
theorem dX0_commonDivisor_43 : decode cX0_commonDivisor 43 = .ok (.ireturn, 1) := by decide +kernel
theorem qX0_commonDivisor (d : Nat) (x0 : Int) (x1 : Int) (s : Sg) : RUN d mX0_commonDivisor [vi x0, vi x1] s = EV d mX0_commonDivisor (7, [vi x0, vi x1, vi x0, vi x1, vi 0, UU], [], s) := x_run rfl (x_st 1 dX0_commonDivisor_0 rfl (x_so 2 [vi x0, vi x1, vi x0, UU, UU, UU] dX0_commonDivisor_1 rfl (x_st 3 dX0_commonDivisor_2 rfl (x_so 4 [vi x0, vi x1, vi x0, vi x1, UU, UU] dX0_commonDivisor_3 rfl (x_st 5 dX0_commonDivisor_4 rfl (x_so 7 [vi x0, vi x1, vi x0, vi x1, vi 0, UU] dX0_commonDivisor_5 rfl (rfl)))))))
theorem qX0_commonDivisor_7 (d : Nat) (z0 : PV) (z1 : PV) (x2 : Int) (x3 : Int) (x4 : Int) (z5 : PV) (s : Sg) : EV d mX0_commonDivisor (7, [z0, z1, vi x2, vi x3, vi x4, z5], [], s) = if x4 < 64 then (if x3 = 0 then (EV d mX0_commonDivisor (34, [z0, z1, vi x2, vi x3, vi x4, z5], [], s)) else (if x3 = 0 then none else (EV d mX0_commonDivisor (7, [z0, z1, vi x3, vi (wrem x2 x3), vi (w32 (x4 + 1)), vi (wrem x2 x3)], [], s)))) else (EV d mX0_commonDivisor (34, [z0, z1, vi x2, vi x3, vi x4, z5], [], s)) := x_st 9 dX0_commonDivisor_7 rfl (x_st 11 dX0_commonDivisor_9 rfl (x_br dX0_commonDivisor_11 (x_if (x_go 14 (x_st 15 dX0_commonDivisor_14 rfl (x_br dX0_commonDivisor_15 (x_if (x_go 34 (rfl)) (x_go 18 (x_st 19 dX0_commonDivisor_18 rfl (x_st 20 dX0_commonDivisor_19 rfl (x_br dX0_commonDivisor_20 (x_if x_no (x_go 21 (x_so 23 [z0, z1, vi x2, vi x3, vi x4, vi (wrem x2 x3)] dX0_commonDivisor_21 rfl (x_st 24 dX0_commonDivisor_23 rfl (x_so 25 [z0, z1, vi x3, vi x3, vi x4, vi (wrem x2 x3)] dX0_commonDivisor_24 rfl (x_st 27 dX0_commonDivisor_25 rfl (x_so 28 [z0, z1, vi x3, vi (wrem x2 x3), vi x4, vi (wrem x2 x3)] dX0_commonDivisor_27 rfl (x_so 31 [z0, z1, vi x3, vi (wrem x2 x3), vi (w32 (x4 + 1)), vi (wrem x2 x3)] dX0_commonDivisor_28 rfl (x_st 7 dX0_commonDivisor_31 rfl (rfl)))))))))))))))))) (x_go 34 (rfl)))))
theorem qX0_commonDivisor_34 (d : Nat) (z0 : PV) (z1 : PV) (x2 : Int) (z3 : PV) (z4 : PV) (z5 : PV) (s : Sg) : EV d mX0_commonDivisor (34, [z0, z1, vi x2, z3, z4, z5], [], s) = if x2 = 0 then (some (some (vi 1), s)) else (some (some (vi x2), s)) := x_st 35 dX0_commonDivisor_34 rfl (x_br dX0_commonDivisor_35 (x_if (x_go 38 (x_st 39 dX0_commonDivisor_38 rfl (x_st 43 dX0_commonDivisor_39 rfl (x_ret dX0_commonDivisor_43 rfl)))) (x_go 42 (x_st 43 dX0_commonDivisor_42 rfl (x_ret dX0_commonDivisor_43 rfl)))))
theorem dX0_badnessOfWay_0 : decode cX0_badnessOfWay 0 = .ok (.iconst 0, 1) := by decide +kernel
theorem dX0_badnessOfWay_1 : decode cX0_badnessOfWay 1 = .ok (.istore_n 2, 1) := by decide +kernel
theorem dX0_badnessOfWay_2 : decode cX0_badnessOfWay 2 = .ok (.iload_n 2, 1) := by decide +kernel
theorem dX0_badnessOfWay_3 : decode cX0_badnessOfWay 3 = .ok (.iconst 4, 1) := by decide +kernel
theorem dX0_badnessOfWay_4 : decode cX0_badnessOfWay 4 = .ok (.if_icmp .ge 16, 3) := by decide +kernel
theorem dX0_badnessOfWay_7 : decode cX0_badnessOfWay 7 = .ok (.aload_n 0, 1) := by decide +kernel
theorem dX0_badnessOfWay_8 : decode cX0_badnessOfWay 8 = .ok (.getfield 16, 3) := by decide +kernel
theorem dX0_badnessOfWay_11 : decode cX0_badnessOfWay 11 = .ok (.iload_n 2, 1) := by decide +kernel
theorem dX0_badnessOfWay_12 : decode cX0_badnessOfWay 12 = .ok (.iconst 0, 1) := by decide +kernel
theorem dX0_badnessOfWay_13 : decode cX0_badnessOfWay 13 = .ok (.iastore, 1) := by decide +kernel
theorem dX0_badnessOfWay_14 : decode cX0_badnessOfWay 14 = .ok (.iinc 2 1, 3) := by decide +kernel
theorem dX0_badnessOfWay_17 : decode cX0_badnessOfWay 17 = .ok (.goto (-15), 3) := by decide +kernel
theorem dX0_badnessOfWay_20 : decode cX0_badnessOfWay 20 = .ok (.iconst 0, 1) := by decide +kernel
theorem dX0_badnessOfWay_21 : decode cX0_badnessOfWay 21 = .ok (.istore_n 2, 1) := by decide +kernel
theorem dX0_badnessOfWay_22 : decode cX0_badnessOfWay 22 = .ok (.iload_n 2, 1) := by decide +kernel
theorem dX0_badnessOfWay_23 : decode cX0_badnessOfWay 23 = .ok (.aload_n 0, 1) := by decide +kernel
theorem dX0_badnessOfWay_24 : decode cX0_badnessOfWay 24 = .ok (.getfield 23, 3) := by decide +kernel
theorem dX0_badnessOfWay_27 : decode cX0_badnessOfWay 27 = .ok (.invokevirtual 64, 3) := by decide +kernel
theorem dX0_badnessOfWay_30 : decode cX0_badnessOfWay 30 = .ok (.if_icmp .ge 26, 3) := by decide +kernel
theorem dX0_badnessOfWay_33 : decode cX0_badnessOfWay 33 = .ok (.aload_n 0, 1) := by decide +kernel
theorem dX0_badnessOfWay_34 : decode cX0_badnessOfWay 34 = .ok (.getfield 16, 3) := by decide +kernel
theorem dX0_badnessOfWay_37 : decode cX0_badnessOfWay 37 = .ok (.aload_n 0, 1) := by decide +kernel
theorem dX0_badnessOfWay_38 : decode cX0_badnessOfWay 38 = .ok (.iload_n 1, 1) := by decide +kernel
theorem dX0_badnessOfWay_39 : decode cX0_badnessOfWay 39 = .ok (.iload_n 2, 1) := by decide +kernel
theorem dX0_badnessOfWay_40 : decode cX0_badnessOfWay 40 = .ok (.invokevirtual 89, 3) := by decide +kernel
theorem dX0_badnessOfWay_43 : decode cX0_badnessOfWay 43 = .ok (.dup2, 1) := by decide +kernel
theorem dX0_badnessOfWay_44 : decode cX0_badnessOfWay 44 = .ok (.iaload, 1) := by decide +kernel
theorem dX0_badnessOfWay_45 : decode cX0_badnessOfWay 45 = .ok (.iconst 1, 1) := by decide +kernel
theorem dX0_badnessOfWay_46 : decode cX0_badnessOfWay 46 = .ok (.iload_n 2, 1) := by decide +kernel
theorem dX0_badnessOfWay_47 : decode cX0_badnessOfWay 47 = .ok (.ishl, 1) := by decide +kernel
theorem dX0_badnessOfWay_48 : decode cX0_badnessOfWay 48 = .ok (.ior, 1) := by decide +kernel
theorem dX0_badnessOfWay_49 : decode cX0_badnessOfWay 49 = .ok (.iastore, 1) := by decide +kernel
theorem dX0_badnessOfWay_50 : decode cX0_badnessOfWay 50 = .ok (.iinc 2 1, 3) := by decide +kernel
theorem dX0_badnessOfWay_53 : decode cX0_badnessOfWay 53 = .ok (.goto (-31), 3) := by decide +kernel
theorem dX0_badnessOfWay_56 : decode cX0_badnessOfWay 56 = .ok (.iconst 0, 1) := by decide +kernel
theorem dX0_badnessOfWay_57 : decode cX0_badnessOfWay 57 = .ok (.istore_n 2, 1) := by decide +kernel
theorem dX0_badnessOfWay_58 : decode cX0_badnessOfWay 58 = .ok (.iconst 0, 1) := by decide +kernel
theorem dX0_badnessOfWay_59 : decode cX0_badnessOfWay 59 = .ok (.istore_n 3, 1) := by decide +kernel
theorem dX0_badnessOfWay_60 : decode cX0_badnessOfWay 60 = .ok (.iload_n 3, 1) := by decide +kernel
theorem dX0_badnessOfWay_61 : decode cX0_badnessOfWay 61 = .ok (.iconst 4, 1) := by decide +kernel
theorem dX0_badnessOfWay_62 : decode cX0_badnessOfWay 62 = .ok (.if_icmp .ge 25, 3) := by decide +kernel
theorem dX0_badnessOfWay_65 : decode cX0_badnessOfWay 65 = .ok (.iload_n 2, 1) := by decide +kernel
theorem dX0_badnessOfWay_66 : decode cX0_badnessOfWay 66 = .ok (.aload_n 0, 1) := by decide +kernel
theorem dX0_badnessOfWay_67 : decode cX0_badnessOfWay 67 = .ok (.getfield 11, 3) := by decide +kernel
theorem dX0_badnessOfWay_70 : decode cX0_badnessOfWay 70 = .ok (.iload_n 3, 1) := by decide +kernel
theorem dX0_badnessOfWay_71 : decode cX0_badnessOfWay 71 = .ok (.aaload, 1) := by decide +kernel
theorem dX0_badnessOfWay_72 : decode cX0_badnessOfWay 72 = .ok (.aload_n 0, 1) := by decide +kernel
theorem dX0_badnessOfWay_73 : decode cX0_badnessOfWay 73 = .ok (.getfield 16, 3) := by decide +kernel
theorem dX0_badnessOfWay_76 : decode cX0_badnessOfWay 76 = .ok (.iload_n 3, 1) := by decide +kernel
theorem dX0_badnessOfWay_77 : decode cX0_badnessOfWay 77 = .ok (.iaload, 1) := by decide +kernel
theorem dX0_badnessOfWay_78 : decode cX0_badnessOfWay 78 = .ok (.iaload, 1) := by decide +kernel
theorem dX0_badnessOfWay_79 : decode cX0_badnessOfWay 79 = .ok (.iadd, 1) := by decide +kernel
theorem dX0_badnessOfWay_80 : decode cX0_badnessOfWay 80 = .ok (.istore_n 2, 1) := by decide +kernel
theorem dX0_badnessOfWay_81 : decode cX0_badnessOfWay 81 = .ok (.iinc 3 1, 3) := by decide +kernel
theorem dX0_badnessOfWay_84 : decode cX0_badnessOfWay 84 = .ok (.goto (-24), 3) := by decide +kernel
theorem dX0_badnessOfWay_87 : decode cX0_badnessOfWay 87 = .ok (.iload_n 2, 1) := by decide +kernel
theorem dX0_badnessOfWay_88 : decode cX0_badnessOfWay 88 = .ok (.ireturn, 1) := by decide +kernel
theorem qX0_badnessOfWay (d : Nat) (x1 : Int) (s : Sg) : RUN d mX0_badnessOfWay [vr 21 0, vi x1] s = EV d mX0_badnessOfWay (2, [vr 21 0, vi x1, vi 0, UU], [], s) := x_run rfl (x_st 1 dX0_badnessOfWay_0 rfl (x_so 2 [vr 21 0, vi x1, vi 0, UU] dX0_badnessOfWay_1 rfl (rfl)))
theorem qX0_badnessOfWay_2 (d : Nat) (x1 : Int) (x2 : Int) (z3 : PV) (s : Sg) : EV d mX0_badnessOfWay (2, [vr 21 0, vi x1, vi x2, z3], [], s) = if x2 < 4 then (if inb x2 4 then (EV d mX0_badnessOfWay (2, [vr 21 0, vi x1, vi (w32 (x2 + 1)), z3], [], (up s 24 0 (Int.toNat x2) 0))) else none) else (EV d mX0_badnessOfWay (22, [vr 21 0, vi x1, vi 0, z3], [], s)) := x_st 3 dX0_badnessOfWay_2 rfl (x_st 4 dX0_badnessOfWay_3 rfl (x_br dX0_badnessOfWay_4 (x_if (x_go 7 (x_st 8 dX0_badnessOfWay_7 rfl (x_st 11 dX0_badnessOfWay_8 rfl (x_st 12 dX0_badnessOfWay_11 rfl (x_st 13 dX0_badnessOfWay_12 rfl (x_br dX0_badnessOfWay_13 (x_if (x_go 14 (x_so 17 [vr 21 0, vi x1, vi (w32 (x2 + 1)), z3] dX0_badnessOfWay_14 rfl (x_st 2 dX0_badnessOfWay_17 rfl (rfl)))) x_no))))))) (x_go 20 (x_st 21 dX0_badnessOfWay_20 rfl (x_so 22 [vr 21 0, vi x1, vi 0, z3] dX0_badnessOfWay_21 rfl (rfl)))))))
theorem qX0_badnessOfWay_22 (d : Nat) (x1 : Int) (x2 : Int) (z3 : PV) (s : Sg) : EV (d + 1) mX0_badnessOfWay (22, [vr 21 0, vi x1, vi x2, z3], [], s) = bI (RUN d mX1_size [vr 1 0] s) (fun r1 s1 => if x2 < r1 then (bI (RUN d mX0_laneInWay [vr 21 0, vi x1, vi x2] s1) (fun r2 s2 => if inb r2 4 then (if inb r2 4 then (EV (d + 1) mX0_badnessOfWay (22, [vr 21 0, vi x1, vi (w32 (x2 + 1)), z3], [], (up s2 24 0 (Int.toNat r2) (wor (s2 24 0 (Int.toNat r2)) (wshl 1 x2))))) else none) else none)) else (EV (d + 1) mX0_badnessOfWay (60, [vr 21 0, vi x1, vi 0, vi 0], [], s1))) := x_st 23 dX0_badnessOfWay_22 rfl (x_st 24 dX0_badnessOfWay_23 rfl (x_st 27 dX0_badnessOfWay_24 rfl (x_ci 30 [vr 21 0, vi x1, vi x2, z3] [vi x2] dX0_badnessOfWay_27 rfl (fun r1 s1 => x_br dX0_badnessOfWay_30 (x_if (x_go 33 (x_st 34 dX0_badnessOfWay_33 rfl (x_st 37 dX0_badnessOfWay_34 rfl (x_st 38 dX0_badnessOfWay_37 rfl (x_st 39 dX0_badnessOfWay_38 rfl (x_st 40 dX0_badnessOfWay_39 rfl (x_ci 43 [vr 21 0, vi x1, vi x2, z3] [vr 24 0] dX0_badnessOfWay_40 rfl (fun r2 s2 => x_st 44 dX0_badnessOfWay_43 rfl (x_br dX0_badnessOfWay_44 (x_if (x_go 45 (x_st 46 dX0_badnessOfWay_45 rfl (x_st 47 dX0_badnessOfWay_46 rfl (x_st 48 dX0_badnessOfWay_47 rfl (x_st 49 dX0_badnessOfWay_48 rfl (x_br dX0_badnessOfWay_49 (x_if (x_go 50 (x_so 53 [vr 21 0, vi x1, vi (w32 (x2 + 1)), z3] dX0_badnessOfWay_50 rfl (x_st 22 dX0_badnessOfWay_53 rfl (rfl)))) x_no))))))) x_no)))))))))) (x_go 56 (x_st 57 dX0_badnessOfWay_56 rfl (x_so 58 [vr 21 0, vi x1, vi 0, z3] dX0_badnessOfWay_57 rfl (x_st 59 dX0_badnessOfWay_58 rfl (x_so 60 [vr 21 0, vi x1, vi 0, vi 0] dX0_badnessOfWay_59 rfl (rfl)))))))))))
theorem qX0_badnessOfWay_60 (d : Nat) (z1 : PV) (x2 : Int) (x3 : Int) (s : Sg) : EV d mX0_badnessOfWay (60, [vr 21 0, z1, vi x2, vi x3], [], s) = if x3 < 4 then (if inb x3 4 then (if inb x3 4 then (if inb (s 24 0 (Int.toNat x3)) 64 then (EV d mX0_badnessOfWay (60, [vr 21 0, z1, vi (w32 (x2 + (s 23 (Int.toNat x3) (Int.toNat (s 24 0 (Int.toNat x3)))))), vi (w32 (x3 + 1))], [], s)) else none) else none) else none) else (some (some (vi x2), s)) := x_st 61 dX0_badnessOfWay_60 rfl (x_st 62 dX0_badnessOfWay_61 rfl (x_br dX0_badnessOfWay_62 (x_if (x_go 65 (x_st 66 dX0_badnessOfWay_65 rfl (x_st 67 dX0_badnessOfWay_66 rfl (x_st 70 dX0_badnessOfWay_67 rfl (x_st 71 dX0_badnessOfWay_70 rfl (x_br dX0_badnessOfWay_71 (x_if (x_go 72 (x_st 73 dX0_badnessOfWay_72 rfl (x_st 76 dX0_badnessOfWay_73 rfl (x_st 77 dX0_badnessOfWay_76 rfl (x_br dX0_badnessOfWay_77 (x_if (x_go 78 (x_br dX0_badnessOfWay_78 (x_if (x_go 79 (x_st 80 dX0_badnessOfWay_79 rfl (x_so 81 [vr 21 0, z1, vi (w32 (x2 + (s 23 (Int.toNat x3) (Int.toNat (s 24 0 (Int.toNat x3)))))), vi x3] dX0_badnessOfWay_80 rfl (x_so 84 [vr 21 0, z1, vi (w32 (x2 + (s 23 (Int.toNat x3) (Int.toNat (s 24 0 (Int.toNat x3)))))), vi (w32 (x3 + 1))] dX0_badnessOfWay_81 rfl (x_st 60 dX0_badnessOfWay_84 rfl (rfl)))))) x_no))) x_no)))))) x_no))))))) (x_go 87 (x_st 88 dX0_badnessOfWay_87 rfl (x_ret dX0_badnessOfWay_88 rfl))))))
theorem dX0_digits_0 : decode cX0_digits 0 = .ok (.iconst 0, 1) := by decide +kernel
theorem dX0_digits_1 : decode cX0_digits 1 = .ok (.istore_n 2, 1) := by decide +kernel
theorem dX0_digits_2 : decode cX0_digits 2 = .ok (.iconst 0, 1) := by decide +kernel
theorem dX0_digits_3 : decode cX0_digits 3 = .ok (.istore_n 3, 1) := by decide +kernel
theorem dX0_digits_4 : decode cX0_digits 4 = .ok (.iload_n 3, 1) := by decide +kernel
theorem dX0_digits_5 : decode cX0_digits 5 = .ok (.aload_n 0, 1) := by decide +kernel
theorem dX0_digits_6 : decode cX0_digits 6 = .ok (.getfield 23, 3) := by decide +kernel
theorem dX0_digits_9 : decode cX0_digits 9 = .ok (.invokevirtual 64, 3) := by decide +kernel
theorem dX0_digits_12 : decode cX0_digits 12 = .ok (.if_icmp .ge 23, 3) := by decide +kernel
theorem dX0_digits_15 : decode cX0_digits 15 = .ok (.iload_n 2, 1) := by decide +kernel
theorem dX0_digits_16 : decode cX0_digits 16 = .ok (.bipush 10, 2) := by decide +kernel
theorem dX0_digits_18 : decode cX0_digits 18 = .ok (.imul, 1) := by decide +kernel
theorem dX0_digits_19 : decode cX0_digits 19 = .ok (.aload_n 0, 1) := by decide +kernel
theorem dX0_digits_20 : decode cX0_digits 20 = .ok (.iload_n 1, 1) := by decide +kernel
theorem dX0_digits_21 : decode cX0_digits 21 = .ok (.iload_n 3, 1) := by decide +kernel
theorem dX0_digits_22 : decode cX0_digits 22 = .ok (.invokevirtual 89, 3) := by decide +kernel
theorem dX0_digits_25 : decode cX0_digits 25 = .ok (.iadd, 1) := by decide +kernel
theorem dX0_digits_26 : decode cX0_digits 26 = .ok (.iconst 1, 1) := by decide +kernel
theorem dX0_digits_27 : decode cX0_digits 27 = .ok (.iadd, 1) := by decide +kernel
theorem dX0_digits_28 : decode cX0_digits 28 = .ok (.istore_n 2, 1) := by decide +kernel
theorem dX0_digits_29 : decode cX0_digits 29 = .ok (.iinc 3 1, 3) := by decide +kernel
theorem dX0_digits_32 : decode cX0_digits 32 = .ok (.goto (-28), 3) := by decide +kernel
theorem dX0_digits_35 : decode cX0_digits 35 = .ok (.iload_n 2, 1) := by decide +kernel
theorem dX0_digits_36 : decode cX0_digits 36 = .ok (.ireturn, 1) := by decide +kernel
theorem qX0_digits (d : Nat) (x1 : Int) (s : Sg) : RUN d mX0_digits [vr 21 0, vi x1] s = EV d mX0_digits (4, [vr 21 0, vi x1, vi 0, vi 0], [], s) := x_run rfl (x_st 1 dX0_digits_0 rfl (x_so 2 [vr 21 0, vi x1, vi 0, UU] dX0_digits_1 rfl (x_st 3 dX0_digits_2 rfl (x_so 4 [vr 21 0, vi x1, vi 0, vi 0] dX0_digits_3 rfl (rfl)))))
theorem qX0_digits_4 (d : Nat) (x1 : Int) (x2 : Int) (x3 : Int) (s : Sg) : EV (d + 1) mX0_digits (4, [vr 21 0, vi x1, vi x2, vi x3], [], s) = bI (RUN d mX1_size [vr 1 0] s) (fun r1 s1 => if x3 < r1 then (bI (RUN d mX0_laneInWay [vr 21 0, vi x1, vi x3] s1) (fun r2 s2 => EV (d + 1) mX0_digits (4, [vr 21 0, vi x1, vi (w32 ((w32 ((w32 (x2 * 10)) + r2)) + 1)), vi (w32 (x3 + 1))], [], s2))) else (some (some (vi x2), s1))) := x_st 5 dX0_digits_4 rfl (x_st 6 dX0_digits_5 rfl (x_st 9 dX0_digits_6 rfl (x_ci 12 [vr 21 0, vi x1, vi x2, vi x3] [vi x3] dX0_digits_9 rfl (fun r1 s1 => x_br dX0_digits_12 (x_if (x_go 15 (x_st 16 dX0_digits_15 rfl (x_st 18 dX0_digits_16 rfl (x_st 19 dX0_digits_18 rfl (x_st 20 dX0_digits_19 rfl (x_st 21 dX0_digits_20 rfl (x_st 22 dX0_digits_21 rfl (x_ci 25 [vr 21 0, vi x1, vi x2, vi x3] [vi (w32 (x2 * 10))] dX0_digits_22 rfl (fun r2 s2 => x_st 26 dX0_digits_25 rfl (x_st 27 dX0_digits_26 rfl (x_st 28 dX0_digits_27 rfl (x_so 29 [vr 21 0, vi x1, vi (w32 ((w32 ((w32 (x2 * 10)) + r2)) + 1)), vi x3] dX0_digits_28 rfl (x_so 32 [vr 21 0, vi x1, vi (w32 ((w32 ((w32 (x2 * 10)) + r2)) + 1)), vi (w32 (x3 + 1))] dX0_digits_29 rfl (x_st 4 dX0_digits_32 rfl (rfl))))))))))))))) (x_go 35 (x_st 36 dX0_digits_35 rfl (x_ret dX0_digits_36 rfl))))))))
theorem dX0_laneInWay_0 : decode cX0_laneInWay 0 = .ok (.iload_n 1, 1) := by decide +kernel
theorem dX0_laneInWay_1 : decode cX0_laneInWay 1 = .ok (.iconst 2, 1) := by decide +kernel
theorem dX0_laneInWay_2 : decode cX0_laneInWay 2 = .ok (.aload_n 0, 1) := by decide +kernel
theorem dX0_laneInWay_3 : decode cX0_laneInWay 3 = .ok (.getfield 23, 3) := by decide +kernel
theorem dX0_laneInWay_6 : decode cX0_laneInWay 6 = .ok (.invokevirtual 64, 3) := by decide +kernel
theorem dX0_laneInWay_9 : decode cX0_laneInWay 9 = .ok (.iconst 1, 1) := by decide +kernel
theorem dX0_laneInWay_10 : decode cX0_laneInWay 10 = .ok (.isub, 1) := by decide +kernel
theorem dX0_laneInWay_11 : decode cX0_laneInWay 11 = .ok (.iload_n 2, 1) := by decide +kernel
theorem dX0_laneInWay_12 : decode cX0_laneInWay 12 = .ok (.isub, 1) := by decide +kernel
theorem dX0_laneInWay_13 : decode cX0_laneInWay 13 = .ok (.imul, 1) := by decide +kernel
theorem dX0_laneInWay_14 : decode cX0_laneInWay 14 = .ok (.ishr, 1) := by decide +kernel
theorem dX0_laneInWay_15 : decode cX0_laneInWay 15 = .ok (.iconst 3, 1) := by decide +kernel
theorem dX0_laneInWay_16 : decode cX0_laneInWay 16 = .ok (.iand, 1) := by decide +kernel
theorem dX0_laneInWay_17 : decode cX0_laneInWay 17 = .ok (.ireturn, 1) := by decide +kernel
theorem qX0_laneInWay (d : Nat) (x1 : Int) (x2 : Int) (s : Sg) : RUN (d + 1) mX0_laneInWay [vr 21 0, vi x1, vi x2] s = bI (RUN d mX1_size [vr 1 0] s) (fun r1 s1 => some (some (vi (wand (wshr x1 (w32 (2 * (w32 ((w32 (r1 - 1)) - x2))))) 3)), s1)) := x_run rfl (x_st 1 dX0_laneInWay_0 rfl (x_st 2 dX0_laneInWay_1 rfl (x_st 3 dX0_laneInWay_2 rfl (x_st 6 dX0_laneInWay_3 rfl (x_ci 9 [vr 21 0, vi x1, vi x2] [vi 2, vi x1] dX0_laneInWay_6 rfl (fun r1 s1 => x_st 10 dX0_laneInWay_9 rfl (x_st 11 dX0_laneInWay_10 rfl (x_st 12 dX0_laneInWay_11 rfl (x_st 13 dX0_laneInWay_12 rfl (x_st 14 dX0_laneInWay_13 rfl (x_st 15 dX0_laneInWay_14 rfl (x_st 16 dX0_laneInWay_15 rfl (x_st 17 dX0_laneInWay_16 rfl (x_ret dX0_laneInWay_17 rfl))))))))))))))
