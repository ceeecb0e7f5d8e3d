theorem dX9_not_0 : decode cX9_not 0 = .ok (.aload_n 0, 1) := by decide +kernel
theorem dX9_not_1 : decode cX9_not 1 = .ok (.bipush 110, 2) := by decide +kernel
theorem dX9_not_3 : decode cX9_not 3 = .ok (.bipush 111, 2) := by decide +kernel
theorem dX9_not_5 : decode cX9_not 5 = .ok (.bipush 116, 2) := by decide +kernel
theorem dX9_not_7 : decode cX9_not 7 = .ok (.iconst 0, 1) := by decide +kernel
theorem dX9_not_8 : decode cX9_not 8 = .ok (.iconst 0, 1) := by decide +kernel
theorem dX9_not_9 : decode cX9_not 9 = .ok (.iconst 0, 1) := by decide +kernel
theorem dX9_not_10 : decode cX9_not 10 = .ok (.iconst 0, 1) := by decide +kernel
theorem dX9_not_11 : decode cX9_not 11 = .ok (.iconst 0, 1) := by decide +kernel
theorem dX9_not_12 : decode cX9_not 12 = .ok (.invokevirtual 183, 3) := by decide +kernel
theorem dX9_not_15 : decode cX9_not 15 = .ok (.ifCond .eq 37, 3) := by decide +kernel
theorem dX9_not_18 : decode cX9_not 18 = .ok (.aload_n 0, 1) := by decide +kernel
theorem dX9_not_19 : decode cX9_not 19 = .ok (.invokevirtual 208, 3) := by decide +kernel
theorem dX9_not_22 : decode cX9_not 22 = .ok (.ifCond .ne 5, 3) := by decide +kernel
theorem dX9_not_25 : decode cX9_not 25 = .ok (.iconst 0, 1) := by decide +kernel
theorem dX9_not_26 : decode cX9_not 26 = .ok (.ireturn, 1) := by decide +kernel
theorem dX9_not_27 : decode cX9_not 27 = .ok (.aload_n 0, 1) := by decide +kernel
theorem dX9_not_28 : decode cX9_not 28 = .ok (.invokevirtual 227, 3) := by decide +kernel
theorem dX9_not_31 : decode cX9_not 31 = .ok (.istore_n 1, 1) := by decide +kernel
theorem dX9_not_32 : decode cX9_not 32 = .ok (.aload_n 0, 1) := by decide +kernel
theorem dX9_not_33 : decode cX9_not 33 = .ok (.dup, 1) := by decide +kernel
theorem dX9_not_34 : decode cX9_not 34 = .ok (.getfield 174, 3) := by decide +kernel
theorem dX9_not_37 : decode cX9_not 37 = .ok (.iconst 1, 1) := by decide +kernel
theorem dX9_not_38 : decode cX9_not 38 = .ok (.isub, 1) := by decide +kernel
theorem dX9_not_39 : decode cX9_not 39 = .ok (.putfield 174, 3) := by decide +kernel
theorem dX9_not_42 : decode cX9_not 42 = .ok (.iload_n 1, 1) := by decide +kernel
theorem dX9_not_43 : decode cX9_not 43 = .ok (.ifCond .ne 7, 3) := by decide +kernel
theorem dX9_not_46 : decode cX9_not 46 = .ok (.iconst 1, 1) := by decide +kernel
theorem dX9_not_47 : decode cX9_not 47 = .ok (.goto 4, 3) := by decide +kernel
theorem dX9_not_50 : decode cX9_not 50 = .ok (.iconst 0, 1) := by decide +kernel
theorem dX9_not_51 : decode cX9_not 51 = .ok (.ireturn, 1) := by decide +kernel
theorem dX9_not_52 : decode cX9_not 52 = .ok (.aload_n 0, 1) := by decide +kernel
theorem dX9_not_53 : decode cX9_not 53 = .ok (.invokevirtual 230, 3) := by decide +kernel
theorem dX9_not_56 : decode cX9_not 56 = .ok (.istore_n 1, 1) := by decide +kernel
theorem dX9_not_57 : decode cX9_not 57 = .ok (.aload_n 0, 1) := by decide +kernel
theorem dX9_not_58 : decode cX9_not 58 = .ok (.bipush 60, 2) := by decide +kernel
theorem dX9_not_60 : decode cX9_not 60 = .ok (.invokevirtual 205, 3) := by decide +kernel
theorem dX9_not_63 : decode cX9_not 63 = .ok (.ifCond .ne 14, 3) := by decide +kernel
theorem dX9_not_66 : decode cX9_not 66 = .ok (.aload_n 0, 1) := by decide +kernel
theorem dX9_not_67 : decode cX9_not 67 = .ok (.bipush 61, 2) := by decide +kernel
theorem dX9_not_69 : decode cX9_not 69 = .ok (.invokevirtual 205, 3) := by decide +kernel
theorem dX9_not_72 : decode cX9_not 72 = .ok (.ifCond .ne 5, 3) := by decide +kernel
theorem dX9_not_75 : decode cX9_not 75 = .ok (.iload_n 1, 1) := by decide +kernel
theorem dX9_not_76 : decode cX9_not 76 = .ok (.ireturn, 1) := by decide +kernel
theorem dX9_not_77 : decode cX9_not 77 = .ok (.aload_n 0, 1) := by decide +kernel
theorem dX9_not_78 : decode cX9_not 78 = .ok (.getfield 160, 3) := by decide +kernel
theorem dX9_not_81 : decode cX9_not 81 = .ok (.ldc2_w 233, 3) := by decide +kernel
theorem dX9_not_84 : decode cX9_not 84 = .ok (.lcmp, 1) := by decide +kernel
theorem dX9_not_85 : decode cX9_not 85 = .ok (.ifCond .ne 7, 3) := by decide +kernel
theorem dX9_not_88 : decode cX9_not 88 = .ok (.iconst 1, 1) := by decide +kernel
theorem dX9_not_89 : decode cX9_not 89 = .ok (.goto 4, 3) := by decide +kernel
theorem dX9_not_92 : decode cX9_not 92 = .ok (.iconst 0, 1) := by decide +kernel
theorem dX9_not_93 : decode cX9_not 93 = .ok (.istore_n 2, 1) := by decide +kernel
theorem dX9_not_94 : decode cX9_not 94 = .ok (.aload_n 0, 1) := by decide +kernel
theorem dX9_not_95 : decode cX9_not 95 = .ok (.invokevirtual 180, 3) := by decide +kernel
theorem dX9_not_98 : decode cX9_not 98 = .ok (.aload_n 0, 1) := by decide +kernel
theorem dX9_not_99 : decode cX9_not 99 = .ok (.invokevirtual 230, 3) := by decide +kernel
theorem dX9_not_102 : decode cX9_not 102 = .ok (.istore_n 3, 1) := by decide +kernel
theorem dX9_not_103 : decode cX9_not 103 = .ok (.iload_n 2, 1) := by decide +kernel
theorem dX9_not_104 : decode cX9_not 104 = .ok (.ifCond .eq 11, 3) := by decide +kernel
theorem dX9_not_107 : decode cX9_not 107 = .ok (.iload_n 1, 1) := by decide +kernel
theorem dX9_not_108 : decode cX9_not 108 = .ok (.iload_n 3, 1) := by decide +kernel
theorem dX9_not_109 : decode cX9_not 109 = .ok (.if_icmp .ge 15, 3) := by decide +kernel
theorem dX9_not_112 : decode cX9_not 112 = .ok (.goto 8, 3) := by decide +kernel
theorem dX9_not_115 : decode cX9_not 115 = .ok (.iload_n 1, 1) := by decide +kernel
theorem dX9_not_116 : decode cX9_not 116 = .ok (.iload_n 3, 1) := by decide +kernel
theorem dX9_not_117 : decode cX9_not 117 = .ok (.if_icmp .ne 7, 3) := by decide +kernel
theorem dX9_not_120 : decode cX9_not 120 = .ok (.iconst 1, 1) := by decide +kernel
theorem dX9_not_121 : decode cX9_not 121 = .ok (.goto 4, 3) := by decide +kernel
theorem dX9_not_124 : decode cX9_not 124 = .ok (.iconst 0, 1) := by decide +kernel
theorem dX9_not_125 : decode cX9_not 125 = .ok (.ireturn, 1) := by decide +kernel
theorem qX9_not (d : Nat) (s : Sg) : RUN (d + 1) mX9_not [vr 32 0] s = bI (RUN d mX9_isWord [vr 32 0, vi 110, vi 111, vi 116, vi 0, vi 0, vi 0, vi 0, vi 0] s) (fun r1 s1 => if r1 = 0 then (bI (RUN d mX9_added [vr 32 0] s1) (fun r2 s2 => bI (RUN d mX9_isSign [vr 32 0, vi 60] s2) (fun r3 s3 => if r3 = 0 then (bI (RUN d mX9_isSign [vr 32 0, vi 61] s3) (fun r4 s4 => if r4 = 0 then (some (some (vi r2), s4)) else (EV (d + 1) mX9_not (77, [vr 32 0, vi r2, UU, UU], [], s4)))) else (EV (d + 1) mX9_not (77, [vr 32 0, vi r2, UU, UU], [], s3))))) else (bI (RUN d mX9_opens [vr 32 0] s1) (fun r5 s5 => if r5 = 0 then (some (some (vi 0), s5)) else (bI (RUN d mX9_not [vr 32 0] s5) (fun r6 s6 => if r6 = 0 then (some (some (vi 1), (up s6 32 0 22 (w32 ((s6 32 0 22) - 1))))) else (some (some (vi 0), (up s6 32 0 22 (w32 ((s6 32 0 22) - 1)))))))))) := x_run rfl (x_st 1 dX9_not_0 rfl (x_st 3 dX9_not_1 rfl (x_st 5 dX9_not_3 rfl (x_st 7 dX9_not_5 rfl (x_st 8 dX9_not_7 rfl (x_st 9 dX9_not_8 rfl (x_st 10 dX9_not_9 rfl (x_st 11 dX9_not_10 rfl (x_st 12 dX9_not_11 rfl (x_ci 15 [vr 32 0, UU, UU, UU] [] dX9_not_12 rfl (fun r1 s1 => x_br dX9_not_15 (x_if (x_go 52 (x_st 53 dX9_not_52 rfl (x_ci 56 [vr 32 0, UU, UU, UU] [] dX9_not_53 rfl (fun r2 s2 => x_so 57 [vr 32 0, vi r2, UU, UU] dX9_not_56 rfl (x_st 58 dX9_not_57 rfl (x_st 60 dX9_not_58 rfl (x_ci 63 [vr 32 0, vi r2, UU, UU] [] dX9_not_60 rfl (fun r3 s3 => x_br dX9_not_63 (x_if (x_go 66 (x_st 67 dX9_not_66 rfl (x_st 69 dX9_not_67 rfl (x_ci 72 [vr 32 0, vi r2, UU, UU] [] dX9_not_69 rfl (fun r4 s4 => x_br dX9_not_72 (x_if (x_go 75 (x_st 76 dX9_not_75 rfl (x_ret dX9_not_76 rfl))) (x_go 77 (rfl)))))))) (x_go 77 (rfl))))))))))) (x_go 18 (x_st 19 dX9_not_18 rfl (x_ci 22 [vr 32 0, UU, UU, UU] [] dX9_not_19 rfl (fun r5 s5 => x_br dX9_not_22 (x_if (x_go 25 (x_st 26 dX9_not_25 rfl (x_ret dX9_not_26 rfl))) (x_go 27 (x_st 28 dX9_not_27 rfl (x_ci 31 [vr 32 0, UU, UU, UU] [] dX9_not_28 rfl (fun r6 s6 => x_so 32 [vr 32 0, vi r6, UU, UU] dX9_not_31 rfl (x_st 33 dX9_not_32 rfl (x_st 34 dX9_not_33 rfl (x_st 37 dX9_not_34 rfl (x_st 38 dX9_not_37 rfl (x_st 39 dX9_not_38 rfl (x_st 42 dX9_not_39 rfl (x_st 43 dX9_not_42 rfl (x_br dX9_not_43 (x_if (x_go 46 (x_st 47 dX9_not_46 rfl (x_st 51 dX9_not_47 rfl (x_ret dX9_not_51 rfl)))) (x_go 50 (x_st 51 dX9_not_50 rfl (x_ret dX9_not_51 rfl)))))))))))))))))))))))))))))))))
theorem qX9_not_77 (d : Nat) (x1 : Int) (z2 : PV) (z3 : PV) (s : Sg) : EV d mX9_not (77, [vr 32 0, vi x1, z2, z3], [], s) = if (wlcmp (s 32 0 21) 60) = 0 then (EV d mX9_not (93, [vr 32 0, vi x1, z2, z3], [vi 1], s)) else (EV d mX9_not (93, [vr 32 0, vi x1, z2, z3], [vi 0], s)) := x_st 78 dX9_not_77 rfl (x_st 81 dX9_not_78 rfl (x_st 84 dX9_not_81 rfl (x_st 85 dX9_not_84 rfl (x_br dX9_not_85 (x_if (x_go 88 (x_st 89 dX9_not_88 rfl (x_st 93 dX9_not_89 rfl (rfl)))) (x_go 92 (x_st 93 dX9_not_92 rfl (rfl))))))))
theorem qX9_not_93 (d : Nat) (x1 : Int) (z2 : PV) (z3 : PV) (y0 : Int) (s : Sg) : EV (d + 1) mX9_not (93, [vr 32 0, vi x1, z2, z3], [vi y0], s) = bV (RUN d mX9_next [vr 32 0] s) (fun s1 => bI (RUN d mX9_added [vr 32 0] s1) (fun r2 s2 => if y0 = 0 then (if x1 = r2 then (some (some (vi 1), s2)) else (some (some (vi 0), s2))) else (if x1 < r2 then (some (some (vi 1), s2)) else (some (some (vi 0), s2))))) := x_so 94 [vr 32 0, vi x1, vi y0, z3] dX9_not_93 rfl (x_st 95 dX9_not_94 rfl (x_cv 98 [vr 32 0, vi x1, vi y0, z3] [] dX9_not_95 rfl (fun s1 => x_st 99 dX9_not_98 rfl (x_ci 102 [vr 32 0, vi x1, vi y0, z3] [] dX9_not_99 rfl (fun r2 s2 => x_so 103 [vr 32 0, vi x1, vi y0, vi r2] dX9_not_102 rfl (x_st 104 dX9_not_103 rfl (x_br dX9_not_104 (x_if (x_go 115 (x_st 116 dX9_not_115 rfl (x_st 117 dX9_not_116 rfl (x_br dX9_not_117 (x_if (x_go 120 (x_st 121 dX9_not_120 rfl (x_st 125 dX9_not_121 rfl (x_ret dX9_not_125 rfl)))) (x_go 124 (x_st 125 dX9_not_124 rfl (x_ret dX9_not_125 rfl)))))))) (x_go 107 (x_st 108 dX9_not_107 rfl (x_st 109 dX9_not_108 rfl (x_br dX9_not_109 (x_if (x_go 112 (x_st 120 dX9_not_112 rfl (x_st 121 dX9_not_120 rfl (x_st 125 dX9_not_121 rfl (x_ret dX9_not_125 rfl))))) (x_go 124 (x_st 125 dX9_not_124 rfl (x_ret dX9_not_125 rfl))))))))))))))))
theorem dX9_added_0 : decode cX9_added 0 = .ok (.aload_n 0, 1) := by decide +kernel
theorem dX9_added_1 : decode cX9_added 1 = .ok (.invokevirtual 222, 3) := by decide +kernel
theorem dX9_added_4 : decode cX9_added 4 = .ok (.istore_n 1, 1) := by decide +kernel
theorem dX9_added_5 : decode cX9_added 5 = .ok (.aload_n 0, 1) := by decide +kernel
theorem dX9_added_6 : decode cX9_added 6 = .ok (.bipush 43, 2) := by decide +kernel
theorem dX9_added_8 : decode cX9_added 8 = .ok (.invokevirtual 205, 3) := by decide +kernel
theorem dX9_added_11 : decode cX9_added 11 = .ok (.ifCond .ne 12, 3) := by decide +kernel
theorem dX9_added_14 : decode cX9_added 14 = .ok (.aload_n 0, 1) := by decide +kernel
theorem dX9_added_15 : decode cX9_added 15 = .ok (.bipush 45, 2) := by decide +kernel
theorem dX9_added_17 : decode cX9_added 17 = .ok (.invokevirtual 205, 3) := by decide +kernel
theorem dX9_added_20 : decode cX9_added 20 = .ok (.ifCond .eq 46, 3) := by decide +kernel
theorem dX9_added_23 : decode cX9_added 23 = .ok (.aload_n 0, 1) := by decide +kernel
theorem dX9_added_24 : decode cX9_added 24 = .ok (.getfield 160, 3) := by decide +kernel
theorem dX9_added_27 : decode cX9_added 27 = .ok (.ldc2_w 225, 3) := by decide +kernel
theorem dX9_added_30 : decode cX9_added 30 = .ok (.lcmp, 1) := by decide +kernel
theorem dX9_added_31 : decode cX9_added 31 = .ok (.ifCond .ne 7, 3) := by decide +kernel
theorem dX9_added_34 : decode cX9_added 34 = .ok (.iconst 1, 1) := by decide +kernel
theorem dX9_added_35 : decode cX9_added 35 = .ok (.goto 4, 3) := by decide +kernel
theorem dX9_added_38 : decode cX9_added 38 = .ok (.iconst 0, 1) := by decide +kernel
theorem dX9_added_39 : decode cX9_added 39 = .ok (.istore_n 2, 1) := by decide +kernel
theorem dX9_added_40 : decode cX9_added 40 = .ok (.aload_n 0, 1) := by decide +kernel
theorem dX9_added_41 : decode cX9_added 41 = .ok (.invokevirtual 180, 3) := by decide +kernel
theorem dX9_added_44 : decode cX9_added 44 = .ok (.aload_n 0, 1) := by decide +kernel
theorem dX9_added_45 : decode cX9_added 45 = .ok (.invokevirtual 222, 3) := by decide +kernel
theorem dX9_added_48 : decode cX9_added 48 = .ok (.istore_n 3, 1) := by decide +kernel
theorem dX9_added_49 : decode cX9_added 49 = .ok (.iload_n 2, 1) := by decide +kernel
theorem dX9_added_50 : decode cX9_added 50 = .ok (.ifCond .eq 9, 3) := by decide +kernel
theorem dX9_added_53 : decode cX9_added 53 = .ok (.iload_n 1, 1) := by decide +kernel
theorem dX9_added_54 : decode cX9_added 54 = .ok (.iload_n 3, 1) := by decide +kernel
theorem dX9_added_55 : decode cX9_added 55 = .ok (.iadd, 1) := by decide +kernel
theorem dX9_added_56 : decode cX9_added 56 = .ok (.goto 6, 3) := by decide +kernel
theorem dX9_added_59 : decode cX9_added 59 = .ok (.iload_n 1, 1) := by decide +kernel
theorem dX9_added_60 : decode cX9_added 60 = .ok (.iload_n 3, 1) := by decide +kernel
theorem dX9_added_61 : decode cX9_added 61 = .ok (.isub, 1) := by decide +kernel
theorem dX9_added_62 : decode cX9_added 62 = .ok (.istore_n 1, 1) := by decide +kernel
theorem dX9_added_63 : decode cX9_added 63 = .ok (.goto (-58), 3) := by decide +kernel
theorem dX9_added_66 : decode cX9_added 66 = .ok (.iload_n 1, 1) := by decide +kernel
theorem dX9_added_67 : decode cX9_added 67 = .ok (.ireturn, 1) := by decide +kernel
theorem qX9_added (d : Nat) (s : Sg) : RUN (d + 1) mX9_added [vr 32 0] s = bI (RUN d mX9_term [vr 32 0] s) (fun r1 s1 => EV (d + 1) mX9_added (5, [vr 32 0, vi r1, UU, UU], [], s1)) := x_run rfl (x_st 1 dX9_added_0 rfl (x_ci 4 [vr 32 0, UU, UU, UU] [] dX9_added_1 rfl (fun r1 s1 => x_so 5 [vr 32 0, vi r1, UU, UU] dX9_added_4 rfl (rfl))))
theorem qX9_added_5 (d : Nat) (x1 : Int) (z2 : PV) (z3 : PV) (s : Sg) : EV (d + 1) mX9_added (5, [vr 32 0, vi x1, z2, z3], [], s) = bI (RUN d mX9_isSign [vr 32 0, vi 43] s) (fun r1 s1 => if r1 = 0 then (bI (RUN d mX9_isSign [vr 32 0, vi 45] s1) (fun r2 s2 => if r2 = 0 then (some (some (vi x1), s2)) else (EV (d + 1) mX9_added (23, [vr 32 0, vi x1, z2, z3], [], s2)))) else (EV (d + 1) mX9_added (23, [vr 32 0, vi x1, z2, z3], [], s1))) := x_st 6 dX9_added_5 rfl (x_st 8 dX9_added_6 rfl (x_ci 11 [vr 32 0, vi x1, z2, z3] [] dX9_added_8 rfl (fun r1 s1 => x_br dX9_added_11 (x_if (x_go 14 (x_st 15 dX9_added_14 rfl (x_st 17 dX9_added_15 rfl (x_ci 20 [vr 32 0, vi x1, z2, z3] [] dX9_added_17 rfl (fun r2 s2 => x_br dX9_added_20 (x_if (x_go 66 (x_st 67 dX9_added_66 rfl (x_ret dX9_added_67 rfl))) (x_go 23 (rfl)))))))) (x_go 23 (rfl))))))
theorem qX9_added_23 (d : Nat) (x1 : Int) (z2 : PV) (z3 : PV) (s : Sg) : EV d mX9_added (23, [vr 32 0, vi x1, z2, z3], [], s) = if (wlcmp (s 32 0 21) 43) = 0 then (EV d mX9_added (39, [vr 32 0, vi x1, z2, z3], [vi 1], s)) else (EV d mX9_added (39, [vr 32 0, vi x1, z2, z3], [vi 0], s)) := x_st 24 dX9_added_23 rfl (x_st 27 dX9_added_24 rfl (x_st 30 dX9_added_27 rfl (x_st 31 dX9_added_30 rfl (x_br dX9_added_31 (x_if (x_go 34 (x_st 35 dX9_added_34 rfl (x_st 39 dX9_added_35 rfl (rfl)))) (x_go 38 (x_st 39 dX9_added_38 rfl (rfl))))))))
theorem qX9_added_39 (d : Nat) (x1 : Int) (z2 : PV) (z3 : PV) (y0 : Int) (s : Sg) : EV (d + 1) mX9_added (39, [vr 32 0, vi x1, z2, z3], [vi y0], s) = bV (RUN d mX9_next [vr 32 0] s) (fun s1 => bI (RUN d mX9_term [vr 32 0] s1) (fun r2 s2 => if y0 = 0 then (EV (d + 1) mX9_added (62, [vr 32 0, vi x1, vi y0, vi r2], [vi (w32 (x1 - r2))], s2)) else (EV (d + 1) mX9_added (62, [vr 32 0, vi x1, vi y0, vi r2], [vi (w32 (x1 + r2))], s2)))) := x_so 40 [vr 32 0, vi x1, vi y0, z3] dX9_added_39 rfl (x_st 41 dX9_added_40 rfl (x_cv 44 [vr 32 0, vi x1, vi y0, z3] [] dX9_added_41 rfl (fun s1 => x_st 45 dX9_added_44 rfl (x_ci 48 [vr 32 0, vi x1, vi y0, z3] [] dX9_added_45 rfl (fun r2 s2 => x_so 49 [vr 32 0, vi x1, vi y0, vi r2] dX9_added_48 rfl (x_st 50 dX9_added_49 rfl (x_br dX9_added_50 (x_if (x_go 59 (x_st 60 dX9_added_59 rfl (x_st 61 dX9_added_60 rfl (x_st 62 dX9_added_61 rfl (rfl))))) (x_go 53 (x_st 54 dX9_added_53 rfl (x_st 55 dX9_added_54 rfl (x_st 56 dX9_added_55 rfl (x_st 62 dX9_added_56 rfl (rfl))))))))))))))
theorem qX9_added_62 (d : Nat) (z1 : PV) (z2 : PV) (z3 : PV) (y0 : Int) (s : Sg) : EV d mX9_added (62, [vr 32 0, z1, z2, z3], [vi y0], s) = EV d mX9_added (5, [vr 32 0, vi y0, z2, z3], [], s) := x_so 63 [vr 32 0, vi y0, z2, z3] dX9_added_62 rfl (x_st 5 dX9_added_63 rfl (rfl))
theorem dX9_opens_0 : decode cX9_opens 0 = .ok (.aload_n 0, 1) := by decide +kernel
theorem dX9_opens_1 : decode cX9_opens 1 = .ok (.getfield 174, 3) := by decide +kernel
theorem dX9_opens_4 : decode cX9_opens 4 = .ok (.iconst 5, 1) := by decide +kernel
theorem dX9_opens_5 : decode cX9_opens 5 = .ok (.if_icmp .ne 9, 3) := by decide +kernel
theorem dX9_opens_8 : decode cX9_opens 8 = .ok (.aload_n 0, 1) := by decide +kernel
theorem dX9_opens_9 : decode cX9_opens 9 = .ok (.invokevirtual 177, 3) := by decide +kernel
theorem dX9_opens_12 : decode cX9_opens 12 = .ok (.iconst 0, 1) := by decide +kernel
theorem dX9_opens_13 : decode cX9_opens 13 = .ok (.ireturn, 1) := by decide +kernel
theorem dX9_opens_14 : decode cX9_opens 14 = .ok (.aload_n 0, 1) := by decide +kernel
theorem dX9_opens_15 : decode cX9_opens 15 = .ok (.dup, 1) := by decide +kernel
theorem dX9_opens_16 : decode cX9_opens 16 = .ok (.getfield 174, 3) := by decide +kernel
theorem dX9_opens_19 : decode cX9_opens 19 = .ok (.iconst 1, 1) := by decide +kernel
theorem dX9_opens_20 : decode cX9_opens 20 = .ok (.iadd, 1) := by decide +kernel
theorem dX9_opens_21 : decode cX9_opens 21 = .ok (.putfield 174, 3) := by decide +kernel
theorem dX9_opens_24 : decode cX9_opens 24 = .ok (.aload_n 0, 1) := by decide +kernel
theorem dX9_opens_25 : decode cX9_opens 25 = .ok (.invokevirtual 180, 3) := by decide +kernel
theorem dX9_opens_28 : decode cX9_opens 28 = .ok (.iconst 1, 1) := by decide +kernel
theorem dX9_opens_29 : decode cX9_opens 29 = .ok (.ireturn, 1) := by decide +kernel
theorem qX9_opens (d : Nat) (s : Sg) : RUN (d + 1) mX9_opens [vr 32 0] s = if (s 32 0 22) = 5 then (bV (RUN d mX9_fail [vr 32 0] s) (fun s1 => some (some (vi 0), s1))) else (bV (RUN d mX9_next [vr 32 0] (up s 32 0 22 (w32 ((s 32 0 22) + 1)))) (fun s2 => some (some (vi 1), s2))) := x_run rfl (x_st 1 dX9_opens_0 rfl (x_st 4 dX9_opens_1 rfl (x_st 5 dX9_opens_4 rfl (x_br dX9_opens_5 (x_if (x_go 8 (x_st 9 dX9_opens_8 rfl (x_cv 12 [vr 32 0] [] dX9_opens_9 rfl (fun s1 => x_st 13 dX9_opens_12 rfl (x_ret dX9_opens_13 rfl))))) (x_go 14 (x_st 15 dX9_opens_14 rfl (x_st 16 dX9_opens_15 rfl (x_st 19 dX9_opens_16 rfl (x_st 20 dX9_opens_19 rfl (x_st 21 dX9_opens_20 rfl (x_st 24 dX9_opens_21 rfl (x_st 25 dX9_opens_24 rfl (x_cv 28 [vr 32 0] [] dX9_opens_25 rfl (fun s2 => x_st 29 dX9_opens_28 rfl (x_ret dX9_opens_29 rfl))))))))))))))))
theorem dX9_term_0 : decode cX9_term 0 = .ok (.aload_n 0, 1) := by decide +kernel
theorem dX9_term_1 : decode cX9_term 1 = .ok (.invokevirtual 212, 3) := by decide +kernel
theorem dX9_term_4 : decode cX9_term 4 = .ok (.istore_n 1, 1) := by decide +kernel
theorem dX9_term_5 : decode cX9_term 5 = .ok (.aload_n 0, 1) := by decide +kernel
theorem dX9_term_6 : decode cX9_term 6 = .ok (.bipush 42, 2) := by decide +kernel
theorem dX9_term_8 : decode cX9_term 8 = .ok (.invokevirtual 205, 3) := by decide +kernel
theorem dX9_term_11 : decode cX9_term 11 = .ok (.ifCond .eq 17, 3) := by decide +kernel
theorem dX9_term_14 : decode cX9_term 14 = .ok (.aload_n 0, 1) := by decide +kernel
theorem dX9_term_15 : decode cX9_term 15 = .ok (.invokevirtual 180, 3) := by decide +kernel
theorem dX9_term_18 : decode cX9_term 18 = .ok (.iload_n 1, 1) := by decide +kernel
theorem dX9_term_19 : decode cX9_term 19 = .ok (.aload_n 0, 1) := by decide +kernel
theorem dX9_term_20 : decode cX9_term 20 = .ok (.invokevirtual 212, 3) := by decide +kernel
theorem dX9_term_23 : decode cX9_term 23 = .ok (.imul, 1) := by decide +kernel
theorem dX9_term_24 : decode cX9_term 24 = .ok (.istore_n 1, 1) := by decide +kernel
theorem dX9_term_25 : decode cX9_term 25 = .ok (.goto (-20), 3) := by decide +kernel
theorem dX9_term_28 : decode cX9_term 28 = .ok (.iload_n 1, 1) := by decide +kernel
theorem dX9_term_29 : decode cX9_term 29 = .ok (.ireturn, 1) := by decide +kernel
theorem qX9_term (d : Nat) (s : Sg) : RUN (d + 1) mX9_term [vr 32 0] s = bI (RUN d mX9_atom [vr 32 0] s) (fun r1 s1 => EV (d + 1) mX9_term (5, [vr 32 0, vi r1], [], s1)) := x_run rfl (x_st 1 dX9_term_0 rfl (x_ci 4 [vr 32 0, UU] [] dX9_term_1 rfl (fun r1 s1 => x_so 5 [vr 32 0, vi r1] dX9_term_4 rfl (rfl))))
theorem qX9_term_5 (d : Nat) (x1 : Int) (s : Sg) : EV (d + 1) mX9_term (5, [vr 32 0, vi x1], [], s) = bI (RUN d mX9_isSign [vr 32 0, vi 42] s) (fun r1 s1 => if r1 = 0 then (some (some (vi x1), s1)) else (bV (RUN d mX9_next [vr 32 0] s1) (fun s2 => bI (RUN d mX9_atom [vr 32 0] s2) (fun r3 s3 => EV (d + 1) mX9_term (5, [vr 32 0, vi (w32 (x1 * r3))], [], s3))))) := x_st 6 dX9_term_5 rfl (x_st 8 dX9_term_6 rfl (x_ci 11 [vr 32 0, vi x1] [] dX9_term_8 rfl (fun r1 s1 => x_br dX9_term_11 (x_if (x_go 28 (x_st 29 dX9_term_28 rfl (x_ret dX9_term_29 rfl))) (x_go 14 (x_st 15 dX9_term_14 rfl (x_cv 18 [vr 32 0, vi x1] [] dX9_term_15 rfl (fun s2 => x_st 19 dX9_term_18 rfl (x_st 20 dX9_term_19 rfl (x_ci 23 [vr 32 0, vi x1] [vi x1] dX9_term_20 rfl (fun r3 s3 => x_st 24 dX9_term_23 rfl (x_so 25 [vr 32 0, vi (w32 (x1 * r3))] dX9_term_24 rfl (x_st 5 dX9_term_25 rfl (rfl))))))))))))))
theorem dX9_begins_0 : decode cX9_begins 0 = .ok (.aload_n 0, 1) := by decide +kernel
theorem dX9_begins_1 : decode cX9_begins 1 = .ok (.getfield 38, 3) := by decide +kernel
theorem dX9_begins_4 : decode cX9_begins 4 = .ok (.iload_n 1, 1) := by decide +kernel
theorem dX9_begins_5 : decode cX9_begins 5 = .ok (.iload_n 3, 1) := by decide +kernel
theorem dX9_begins_6 : decode cX9_begins 6 = .ok (.aload_n 0, 1) := by decide +kernel
theorem dX9_begins_7 : decode cX9_begins 7 = .ok (.iload_n 1, 1) := by decide +kernel
theorem dX9_begins_8 : decode cX9_begins 8 = .ok (.iload_n 2, 1) := by decide +kernel
theorem dX9_begins_9 : decode cX9_begins 9 = .ok (.iload_n 3, 1) := by decide +kernel
theorem dX9_begins_10 : decode cX9_begins 10 = .ok (.iload 4, 2) := by decide +kernel
theorem dX9_begins_12 : decode cX9_begins 12 = .ok (.invokevirtual 121, 3) := by decide +kernel
theorem dX9_begins_15 : decode cX9_begins 15 = .ok (.iadd, 1) := by decide +kernel
theorem dX9_begins_16 : decode cX9_begins 16 = .ok (.iastore, 1) := by decide +kernel
theorem dX9_begins_17 : decode cX9_begins 17 = .ok (.aload_n 0, 1) := by decide +kernel
theorem dX9_begins_18 : decode cX9_begins 18 = .ok (.getfield 29, 3) := by decide +kernel
theorem dX9_begins_21 : decode cX9_begins 21 = .ok (.iload_n 1, 1) := by decide +kernel
theorem dX9_begins_22 : decode cX9_begins 22 = .ok (.iload_n 3, 1) := by decide +kernel
theorem dX9_begins_23 : decode cX9_begins 23 = .ok (.iastore, 1) := by decide +kernel
theorem dX9_begins_24 : decode cX9_begins 24 = .ok (.aload_n 0, 1) := by decide +kernel
theorem dX9_begins_25 : decode cX9_begins 25 = .ok (.getfield 35, 3) := by decide +kernel
theorem dX9_begins_28 : decode cX9_begins 28 = .ok (.iload_n 1, 1) := by decide +kernel
theorem dX9_begins_29 : decode cX9_begins 29 = .ok (.iload 5, 2) := by decide +kernel
theorem dX9_begins_31 : decode cX9_begins 31 = .ok (.iastore, 1) := by decide +kernel
theorem dX9_begins_32 : decode cX9_begins 32 = .ok (.return_, 1) := by decide +kernel
theorem qX9_begins (d : Nat) (x1 : Int) (x2 : Int) (x3 : Int) (x4 : Int) (x5 : Int) (s : Sg) : RUN (d + 1) mX9_begins [vr 32 0, vi x1, vi x2, vi x3, vi x4, vi x5] s = bI (RUN d mX9_takesOf [vr 32 0, vi x1, vi x2, vi x3, vi x4] s) (fun r1 s1 => if inb x1 6 then (if inb x1 6 then (if inb x1 6 then (some (none, (up (up (up s1 41 0 (Int.toNat x1) (w32 (x3 + r1))) 38 0 (Int.toNat x1) x3) 40 0 (Int.toNat x1) x5))) else none) else none) else none) := x_run rfl (x_st 1 dX9_begins_0 rfl (x_st 4 dX9_begins_1 rfl (x_st 5 dX9_begins_4 rfl (x_st 6 dX9_begins_5 rfl (x_st 7 dX9_begins_6 rfl (x_st 8 dX9_begins_7 rfl (x_st 9 dX9_begins_8 rfl (x_st 10 dX9_begins_9 rfl (x_st 12 dX9_begins_10 rfl (x_ci 15 [vr 32 0, vi x1, vi x2, vi x3, vi x4, vi x5] [vi x3, vi x1, vr 41 0] dX9_begins_12 rfl (fun r1 s1 => x_st 16 dX9_begins_15 rfl (x_br dX9_begins_16 (x_if (x_go 17 (x_st 18 dX9_begins_17 rfl (x_st 21 dX9_begins_18 rfl (x_st 22 dX9_begins_21 rfl (x_st 23 dX9_begins_22 rfl (x_br dX9_begins_23 (x_if (x_go 24 (x_st 25 dX9_begins_24 rfl (x_st 28 dX9_begins_25 rfl (x_st 29 dX9_begins_28 rfl (x_st 31 dX9_begins_29 rfl (x_br dX9_begins_31 (x_if (x_go 32 (x_ret dX9_begins_32 rfl)) x_no))))))) x_no))))))) x_no)))))))))))))
theorem dX9_atom_0 : decode cX9_atom 0 = .ok (.iconst 0, 1) := by decide +kernel
theorem dX9_atom_1 : decode cX9_atom 1 = .ok (.istore_n 1, 1) := by decide +kernel
theorem dX9_atom_2 : decode cX9_atom 2 = .ok (.aload_n 0, 1) := by decide +kernel
theorem dX9_atom_3 : decode cX9_atom 3 = .ok (.bipush 45, 2) := by decide +kernel
theorem dX9_atom_5 : decode cX9_atom 5 = .ok (.invokevirtual 205, 3) := by decide +kernel
theorem dX9_atom_8 : decode cX9_atom 8 = .ok (.ifCond .eq 29, 3) := by decide +kernel
theorem dX9_atom_11 : decode cX9_atom 11 = .ok (.aload_n 0, 1) := by decide +kernel
theorem dX9_atom_12 : decode cX9_atom 12 = .ok (.invokevirtual 208, 3) := by decide +kernel
theorem dX9_atom_15 : decode cX9_atom 15 = .ok (.ifCond .eq 146, 3) := by decide +kernel
theorem dX9_atom_18 : decode cX9_atom 18 = .ok (.aload_n 0, 1) := by decide +kernel
theorem dX9_atom_19 : decode cX9_atom 19 = .ok (.invokevirtual 212, 3) := by decide +kernel
theorem dX9_atom_22 : decode cX9_atom 22 = .ok (.ineg, 1) := by decide +kernel
theorem dX9_atom_23 : decode cX9_atom 23 = .ok (.istore_n 1, 1) := by decide +kernel
theorem dX9_atom_24 : decode cX9_atom 24 = .ok (.aload_n 0, 1) := by decide +kernel
theorem dX9_atom_25 : decode cX9_atom 25 = .ok (.dup, 1) := by decide +kernel
theorem dX9_atom_26 : decode cX9_atom 26 = .ok (.getfield 174, 3) := by decide +kernel
theorem dX9_atom_29 : decode cX9_atom 29 = .ok (.iconst 1, 1) := by decide +kernel
theorem dX9_atom_30 : decode cX9_atom 30 = .ok (.isub, 1) := by decide +kernel
theorem dX9_atom_31 : decode cX9_atom 31 = .ok (.putfield 174, 3) := by decide +kernel
theorem dX9_atom_34 : decode cX9_atom 34 = .ok (.goto 127, 3) := by decide +kernel
theorem dX9_atom_37 : decode cX9_atom 37 = .ok (.aload_n 0, 1) := by decide +kernel
theorem dX9_atom_38 : decode cX9_atom 38 = .ok (.bipush 40, 2) := by decide +kernel
theorem dX9_atom_40 : decode cX9_atom 40 = .ok (.invokevirtual 205, 3) := by decide +kernel
theorem dX9_atom_43 : decode cX9_atom 43 = .ok (.ifCond .eq 52, 3) := by decide +kernel
theorem dX9_atom_46 : decode cX9_atom 46 = .ok (.aload_n 0, 1) := by decide +kernel
theorem dX9_atom_47 : decode cX9_atom 47 = .ok (.invokevirtual 208, 3) := by decide +kernel
theorem dX9_atom_50 : decode cX9_atom 50 = .ok (.ifCond .eq 111, 3) := by decide +kernel
theorem dX9_atom_53 : decode cX9_atom 53 = .ok (.aload_n 0, 1) := by decide +kernel
theorem dX9_atom_54 : decode cX9_atom 54 = .ok (.invokevirtual 216, 3) := by decide +kernel
theorem dX9_atom_57 : decode cX9_atom 57 = .ok (.istore_n 1, 1) := by decide +kernel
theorem dX9_atom_58 : decode cX9_atom 58 = .ok (.aload_n 0, 1) := by decide +kernel
theorem dX9_atom_59 : decode cX9_atom 59 = .ok (.bipush 41, 2) := by decide +kernel
theorem dX9_atom_61 : decode cX9_atom 61 = .ok (.invokevirtual 205, 3) := by decide +kernel
theorem dX9_atom_64 : decode cX9_atom 64 = .ok (.ifCond .ne 7, 3) := by decide +kernel
theorem dX9_atom_67 : decode cX9_atom 67 = .ok (.aload_n 0, 1) := by decide +kernel
theorem dX9_atom_68 : decode cX9_atom 68 = .ok (.invokevirtual 177, 3) := by decide +kernel
theorem dX9_atom_71 : decode cX9_atom 71 = .ok (.aload_n 0, 1) := by decide +kernel
theorem dX9_atom_72 : decode cX9_atom 72 = .ok (.dup, 1) := by decide +kernel
theorem dX9_atom_73 : decode cX9_atom 73 = .ok (.getfield 174, 3) := by decide +kernel
theorem dX9_atom_76 : decode cX9_atom 76 = .ok (.iconst 1, 1) := by decide +kernel
theorem dX9_atom_77 : decode cX9_atom 77 = .ok (.isub, 1) := by decide +kernel
theorem dX9_atom_78 : decode cX9_atom 78 = .ok (.putfield 174, 3) := by decide +kernel
theorem dX9_atom_81 : decode cX9_atom 81 = .ok (.aload_n 0, 1) := by decide +kernel
theorem dX9_atom_82 : decode cX9_atom 82 = .ok (.getfield 164, 3) := by decide +kernel
theorem dX9_atom_85 : decode cX9_atom 85 = .ok (.ifCond .ne 76, 3) := by decide +kernel
theorem dX9_atom_88 : decode cX9_atom 88 = .ok (.aload_n 0, 1) := by decide +kernel
theorem dX9_atom_89 : decode cX9_atom 89 = .ok (.invokevirtual 180, 3) := by decide +kernel
theorem dX9_atom_92 : decode cX9_atom 92 = .ok (.goto 69, 3) := by decide +kernel
theorem dX9_atom_95 : decode cX9_atom 95 = .ok (.aload_n 0, 1) := by decide +kernel
theorem dX9_atom_96 : decode cX9_atom 96 = .ok (.getfield 164, 3) := by decide +kernel
theorem dX9_atom_99 : decode cX9_atom 99 = .ok (.ifCond .ne 24, 3) := by decide +kernel
theorem dX9_atom_102 : decode cX9_atom 102 = .ok (.aload_n 0, 1) := by decide +kernel
theorem dX9_atom_103 : decode cX9_atom 103 = .ok (.getfield 149, 3) := by decide +kernel
theorem dX9_atom_106 : decode cX9_atom 106 = .ok (.iconst 2, 1) := by decide +kernel
theorem dX9_atom_107 : decode cX9_atom 107 = .ok (.if_icmp .ne 16, 3) := by decide +kernel
theorem dX9_atom_110 : decode cX9_atom 110 = .ok (.aload_n 0, 1) := by decide +kernel
theorem dX9_atom_111 : decode cX9_atom 111 = .ok (.getfield 160, 3) := by decide +kernel
theorem dX9_atom_114 : decode cX9_atom 114 = .ok (.l2i, 1) := by decide +kernel
theorem dX9_atom_115 : decode cX9_atom 115 = .ok (.istore_n 1, 1) := by decide +kernel
theorem dX9_atom_116 : decode cX9_atom 116 = .ok (.aload_n 0, 1) := by decide +kernel
theorem dX9_atom_117 : decode cX9_atom 117 = .ok (.invokevirtual 180, 3) := by decide +kernel
theorem dX9_atom_120 : decode cX9_atom 120 = .ok (.goto 41, 3) := by decide +kernel
theorem dX9_atom_123 : decode cX9_atom 123 = .ok (.aload_n 0, 1) := by decide +kernel
theorem dX9_atom_124 : decode cX9_atom 124 = .ok (.getfield 164, 3) := by decide +kernel
theorem dX9_atom_127 : decode cX9_atom 127 = .ok (.ifCond .ne 30, 3) := by decide +kernel
theorem dX9_atom_130 : decode cX9_atom 130 = .ok (.aload_n 0, 1) := by decide +kernel
theorem dX9_atom_131 : decode cX9_atom 131 = .ok (.getfield 149, 3) := by decide +kernel
theorem dX9_atom_134 : decode cX9_atom 134 = .ok (.iconst 1, 1) := by decide +kernel
theorem dX9_atom_135 : decode cX9_atom 135 = .ok (.if_icmp .ne 22, 3) := by decide +kernel
theorem dX9_atom_138 : decode cX9_atom 138 = .ok (.aload_n 0, 1) := by decide +kernel
theorem dX9_atom_139 : decode cX9_atom 139 = .ok (.invokevirtual 219, 3) := by decide +kernel
theorem dX9_atom_142 : decode cX9_atom 142 = .ok (.istore_n 1, 1) := by decide +kernel
theorem dX9_atom_143 : decode cX9_atom 143 = .ok (.aload_n 0, 1) := by decide +kernel
theorem dX9_atom_144 : decode cX9_atom 144 = .ok (.getfield 164, 3) := by decide +kernel
theorem dX9_atom_147 : decode cX9_atom 147 = .ok (.ifCond .ne 14, 3) := by decide +kernel
theorem dX9_atom_150 : decode cX9_atom 150 = .ok (.aload_n 0, 1) := by decide +kernel
theorem dX9_atom_151 : decode cX9_atom 151 = .ok (.invokevirtual 180, 3) := by decide +kernel
theorem dX9_atom_154 : decode cX9_atom 154 = .ok (.goto 7, 3) := by decide +kernel
theorem dX9_atom_157 : decode cX9_atom 157 = .ok (.aload_n 0, 1) := by decide +kernel
theorem dX9_atom_158 : decode cX9_atom 158 = .ok (.invokevirtual 177, 3) := by decide +kernel
theorem dX9_atom_161 : decode cX9_atom 161 = .ok (.iload_n 1, 1) := by decide +kernel
theorem dX9_atom_162 : decode cX9_atom 162 = .ok (.ireturn, 1) := by decide +kernel
theorem qX9_atom (d : Nat) (s : Sg) : RUN (d + 1) mX9_atom [vr 32 0] s = bI (RUN d mX9_isSign [vr 32 0, vi 45] s) (fun r1 s1 => if r1 = 0 then (bI (RUN d mX9_isSign [vr 32 0, vi 40] s1) (fun r2 s2 => if r2 = 0 then (if (s2 32 0 23) = 0 then (if (s2 32 0 19) = 2 then (bV (RUN d mX9_next [vr 32 0] s2) (fun s3 => some (some (vi (wl2i (s2 32 0 21))), s3))) else (EV (d + 1) mX9_atom (123, [vr 32 0, vi 0], [], s2))) else (EV (d + 1) mX9_atom (123, [vr 32 0, vi 0], [], s2))) else (bI (RUN d mX9_opens [vr 32 0] s2) (fun r4 s4 => if r4 = 0 then (some (some (vi 0), s4)) else (bI (RUN d mX9_either [vr 32 0] s4) (fun r5 s5 => bI (RUN d mX9_isSign [vr 32 0, vi 41] s5) (fun r6 s6 => if r6 = 0 then (bV (RUN d mX9_fail [vr 32 0] s6) (fun s7 => EV (d + 1) mX9_atom (71, [vr 32 0, vi r5], [], s7))) else (EV (d + 1) mX9_atom (71, [vr 32 0, vi r5], [], s6))))))))) else (bI (RUN d mX9_opens [vr 32 0] s1) (fun r8 s8 => if r8 = 0 then (some (some (vi 0), s8)) else (bI (RUN d mX9_atom [vr 32 0] s8) (fun r9 s9 => some (some (vi (w32 (-r9))), (up s9 32 0 22 (w32 ((s9 32 0 22) - 1))))))))) := x_run rfl (x_st 1 dX9_atom_0 rfl (x_so 2 [vr 32 0, vi 0] dX9_atom_1 rfl (x_st 3 dX9_atom_2 rfl (x_st 5 dX9_atom_3 rfl (x_ci 8 [vr 32 0, vi 0] [] dX9_atom_5 rfl (fun r1 s1 => x_br dX9_atom_8 (x_if (x_go 37 (x_st 38 dX9_atom_37 rfl (x_st 40 dX9_atom_38 rfl (x_ci 43 [vr 32 0, vi 0] [] dX9_atom_40 rfl (fun r2 s2 => x_br dX9_atom_43 (x_if (x_go 95 (x_st 96 dX9_atom_95 rfl (x_st 99 dX9_atom_96 rfl (x_br dX9_atom_99 (x_if (x_go 102 (x_st 103 dX9_atom_102 rfl (x_st 106 dX9_atom_103 rfl (x_st 107 dX9_atom_106 rfl (x_br dX9_atom_107 (x_if (x_go 110 (x_st 111 dX9_atom_110 rfl (x_st 114 dX9_atom_111 rfl (x_st 115 dX9_atom_114 rfl (x_so 116 [vr 32 0, vi (wl2i (s2 32 0 21))] dX9_atom_115 rfl (x_st 117 dX9_atom_116 rfl (x_cv 120 [vr 32 0, vi (wl2i (s2 32 0 21))] [] dX9_atom_117 rfl (fun s3 => x_st 161 dX9_atom_120 rfl (x_st 162 dX9_atom_161 rfl (x_ret dX9_atom_162 rfl)))))))))) (x_go 123 (rfl)))))))) (x_go 123 (rfl))))))) (x_go 46 (x_st 47 dX9_atom_46 rfl (x_ci 50 [vr 32 0, vi 0] [] dX9_atom_47 rfl (fun r4 s4 => x_br dX9_atom_50 (x_if (x_go 161 (x_st 162 dX9_atom_161 rfl (x_ret dX9_atom_162 rfl))) (x_go 53 (x_st 54 dX9_atom_53 rfl (x_ci 57 [vr 32 0, vi 0] [] dX9_atom_54 rfl (fun r5 s5 => x_so 58 [vr 32 0, vi r5] dX9_atom_57 rfl (x_st 59 dX9_atom_58 rfl (x_st 61 dX9_atom_59 rfl (x_ci 64 [vr 32 0, vi r5] [] dX9_atom_61 rfl (fun r6 s6 => x_br dX9_atom_64 (x_if (x_go 67 (x_st 68 dX9_atom_67 rfl (x_cv 71 [vr 32 0, vi r5] [] dX9_atom_68 rfl (fun s7 => rfl)))) (x_go 71 (rfl)))))))))))))))))))))) (x_go 11 (x_st 12 dX9_atom_11 rfl (x_ci 15 [vr 32 0, vi 0] [] dX9_atom_12 rfl (fun r8 s8 => x_br dX9_atom_15 (x_if (x_go 161 (x_st 162 dX9_atom_161 rfl (x_ret dX9_atom_162 rfl))) (x_go 18 (x_st 19 dX9_atom_18 rfl (x_ci 22 [vr 32 0, vi 0] [] dX9_atom_19 rfl (fun r9 s9 => x_st 23 dX9_atom_22 rfl (x_so 24 [vr 32 0, vi (w32 (-r9))] dX9_atom_23 rfl (x_st 25 dX9_atom_24 rfl (x_st 26 dX9_atom_25 rfl (x_st 29 dX9_atom_26 rfl (x_st 30 dX9_atom_29 rfl (x_st 31 dX9_atom_30 rfl (x_st 34 dX9_atom_31 rfl (x_st 161 dX9_atom_34 rfl (x_st 162 dX9_atom_161 rfl (x_ret dX9_atom_162 rfl))))))))))))))))))))))))))
theorem qX9_atom_123 (d : Nat) (x1 : Int) (s : Sg) : EV (d + 1) mX9_atom (123, [vr 32 0, vi x1], [], s) = if (s 32 0 23) = 0 then (if (s 32 0 19) = 1 then (bI (RUN d mX9_name [vr 32 0] s) (fun r1 s1 => if (s1 32 0 23) = 0 then (bV (RUN d mX9_next [vr 32 0] s1) (fun s2 => some (some (vi r1), s2))) else (some (some (vi r1), s1)))) else (EV (d + 1) mX9_atom (157, [vr 32 0, vi x1], [], s))) else (EV (d + 1) mX9_atom (157, [vr 32 0, vi x1], [], s)) := x_st 124 dX9_atom_123 rfl (x_st 127 dX9_atom_124 rfl (x_br dX9_atom_127 (x_if (x_go 130 (x_st 131 dX9_atom_130 rfl (x_st 134 dX9_atom_131 rfl (x_st 135 dX9_atom_134 rfl (x_br dX9_atom_135 (x_if (x_go 138 (x_st 139 dX9_atom_138 rfl (x_ci 142 [vr 32 0, vi x1] [] dX9_atom_139 rfl (fun r1 s1 => x_so 143 [vr 32 0, vi r1] dX9_atom_142 rfl (x_st 144 dX9_atom_143 rfl (x_st 147 dX9_atom_144 rfl (x_br dX9_atom_147 (x_if (x_go 150 (x_st 151 dX9_atom_150 rfl (x_cv 154 [vr 32 0, vi r1] [] dX9_atom_151 rfl (fun s2 => x_st 161 dX9_atom_154 rfl (x_st 162 dX9_atom_161 rfl (x_ret dX9_atom_162 rfl)))))) (x_go 161 (x_st 162 dX9_atom_161 rfl (x_ret dX9_atom_162 rfl))))))))))) (x_go 157 (rfl)))))))) (x_go 157 (rfl)))))
theorem qX9_atom_71 (d : Nat) (x1 : Int) (s : Sg) : EV (d + 1) mX9_atom (71, [vr 32 0, vi x1], [], s) = if (s 32 0 23) = 0 then (bV (RUN d mX9_next [vr 32 0] (up s 32 0 22 (w32 ((s 32 0 22) - 1)))) (fun s1 => some (some (vi x1), s1))) else (some (some (vi x1), (up s 32 0 22 (w32 ((s 32 0 22) - 1))))) := x_st 72 dX9_atom_71 rfl (x_st 73 dX9_atom_72 rfl (x_st 76 dX9_atom_73 rfl (x_st 77 dX9_atom_76 rfl (x_st 78 dX9_atom_77 rfl (x_st 81 dX9_atom_78 rfl (x_st 82 dX9_atom_81 rfl (x_st 85 dX9_atom_82 rfl (x_br dX9_atom_85 (x_if (x_go 88 (x_st 89 dX9_atom_88 rfl (x_cv 92 [vr 32 0, vi x1] [] dX9_atom_89 rfl (fun s1 => x_st 161 dX9_atom_92 rfl (x_st 162 dX9_atom_161 rfl (x_ret dX9_atom_162 rfl)))))) (x_go 161 (x_st 162 dX9_atom_161 rfl (x_ret dX9_atom_162 rfl))))))))))))
theorem qX9_atom_157 (d : Nat) (x1 : Int) (s : Sg) : EV (d + 1) mX9_atom (157, [vr 32 0, vi x1], [], s) = bV (RUN d mX9_fail [vr 32 0] s) (fun s1 => some (some (vi x1), s1)) := x_st 158 dX9_atom_157 rfl (x_cv 161 [vr 32 0, vi x1] [] dX9_atom_158 rfl (fun s1 => x_st 162 dX9_atom_161 rfl (x_ret dX9_atom_162 rfl)))
theorem dX9_name_0 : decode cX9_name 0 = .ok (.aload_n 0, 1) := by decide +kernel
theorem dX9_name_1 : decode cX9_name 1 = .ok (.bipush 99, 2) := by decide +kernel
theorem dX9_name_3 : decode cX9_name 3 = .ok (.bipush 97, 2) := by decide +kernel
theorem dX9_name_5 : decode cX9_name 5 = .ok (.bipush 112, 2) := by decide +kernel
theorem dX9_name_7 : decode cX9_name 7 = .ok (.iconst 0, 1) := by decide +kernel
theorem dX9_name_8 : decode cX9_name 8 = .ok (.iconst 0, 1) := by decide +kernel
theorem dX9_name_9 : decode cX9_name 9 = .ok (.iconst 0, 1) := by decide +kernel
theorem dX9_name_10 : decode cX9_name 10 = .ok (.iconst 0, 1) := by decide +kernel
theorem dX9_name_11 : decode cX9_name 11 = .ok (.iconst 0, 1) := by decide +kernel
theorem dX9_name_12 : decode cX9_name 12 = .ok (.invokevirtual 183, 3) := by decide +kernel
theorem dX9_name_15 : decode cX9_name 15 = .ok (.ifCond .eq 8, 3) := by decide +kernel
theorem dX9_name_18 : decode cX9_name 18 = .ok (.aload_n 0, 1) := by decide +kernel
theorem dX9_name_19 : decode cX9_name 19 = .ok (.getfield 187, 3) := by decide +kernel
theorem dX9_name_22 : decode cX9_name 22 = .ok (.ireturn, 1) := by decide +kernel
theorem dX9_name_23 : decode cX9_name 23 = .ok (.aload_n 0, 1) := by decide +kernel
theorem dX9_name_24 : decode cX9_name 24 = .ok (.bipush 108, 2) := by decide +kernel
theorem dX9_name_26 : decode cX9_name 26 = .ok (.bipush 97, 2) := by decide +kernel
theorem dX9_name_28 : decode cX9_name 28 = .ok (.bipush 110, 2) := by decide +kernel
theorem dX9_name_30 : decode cX9_name 30 = .ok (.bipush 101, 2) := by decide +kernel
theorem dX9_name_32 : decode cX9_name 32 = .ok (.iconst 0, 1) := by decide +kernel
theorem dX9_name_33 : decode cX9_name 33 = .ok (.iconst 0, 1) := by decide +kernel
theorem dX9_name_34 : decode cX9_name 34 = .ok (.iconst 0, 1) := by decide +kernel
theorem dX9_name_35 : decode cX9_name 35 = .ok (.iconst 0, 1) := by decide +kernel
theorem dX9_name_36 : decode cX9_name 36 = .ok (.invokevirtual 183, 3) := by decide +kernel
theorem dX9_name_39 : decode cX9_name 39 = .ok (.ifCond .eq 8, 3) := by decide +kernel
theorem dX9_name_42 : decode cX9_name 42 = .ok (.aload_n 0, 1) := by decide +kernel
theorem dX9_name_43 : decode cX9_name 43 = .ok (.getfield 190, 3) := by decide +kernel
theorem dX9_name_46 : decode cX9_name 46 = .ok (.ireturn, 1) := by decide +kernel
theorem dX9_name_47 : decode cX9_name 47 = .ok (.aload_n 0, 1) := by decide +kernel
theorem dX9_name_48 : decode cX9_name 48 = .ok (.bipush 109, 2) := by decide +kernel
theorem dX9_name_50 : decode cX9_name 50 = .ok (.bipush 105, 2) := by decide +kernel
theorem dX9_name_52 : decode cX9_name 52 = .ok (.bipush 110, 2) := by decide +kernel
theorem dX9_name_54 : decode cX9_name 54 = .ok (.bipush 117, 2) := by decide +kernel
theorem dX9_name_56 : decode cX9_name 56 = .ok (.bipush 116, 2) := by decide +kernel
theorem dX9_name_58 : decode cX9_name 58 = .ok (.bipush 101, 2) := by decide +kernel
theorem dX9_name_60 : decode cX9_name 60 = .ok (.iconst 0, 1) := by decide +kernel
theorem dX9_name_61 : decode cX9_name 61 = .ok (.iconst 0, 1) := by decide +kernel
theorem dX9_name_62 : decode cX9_name 62 = .ok (.invokevirtual 183, 3) := by decide +kernel
theorem dX9_name_65 : decode cX9_name 65 = .ok (.ifCond .eq 8, 3) := by decide +kernel
theorem dX9_name_68 : decode cX9_name 68 = .ok (.aload_n 0, 1) := by decide +kernel
theorem dX9_name_69 : decode cX9_name 69 = .ok (.getfield 193, 3) := by decide +kernel
theorem dX9_name_72 : decode cX9_name 72 = .ok (.ireturn, 1) := by decide +kernel
theorem dX9_name_73 : decode cX9_name 73 = .ok (.aload_n 0, 1) := by decide +kernel
theorem dX9_name_74 : decode cX9_name 74 = .ok (.bipush 110, 2) := by decide +kernel
theorem dX9_name_76 : decode cX9_name 76 = .ok (.bipush 117, 2) := by decide +kernel
theorem dX9_name_78 : decode cX9_name 78 = .ok (.bipush 109, 2) := by decide +kernel
theorem dX9_name_80 : decode cX9_name 80 = .ok (.bipush 98, 2) := by decide +kernel
theorem dX9_name_82 : decode cX9_name 82 = .ok (.bipush 101, 2) := by decide +kernel
theorem dX9_name_84 : decode cX9_name 84 = .ok (.bipush 114, 2) := by decide +kernel
theorem dX9_name_86 : decode cX9_name 86 = .ok (.iconst 0, 1) := by decide +kernel
theorem dX9_name_87 : decode cX9_name 87 = .ok (.iconst 0, 1) := by decide +kernel
theorem dX9_name_88 : decode cX9_name 88 = .ok (.invokevirtual 183, 3) := by decide +kernel
theorem dX9_name_91 : decode cX9_name 91 = .ok (.ifCond .eq 8, 3) := by decide +kernel
theorem dX9_name_94 : decode cX9_name 94 = .ok (.aload_n 0, 1) := by decide +kernel
theorem dX9_name_95 : decode cX9_name 95 = .ok (.getfield 196, 3) := by decide +kernel
theorem dX9_name_98 : decode cX9_name 98 = .ok (.ireturn, 1) := by decide +kernel
theorem dX9_name_99 : decode cX9_name 99 = .ok (.aload_n 0, 1) := by decide +kernel
theorem dX9_name_100 : decode cX9_name 100 = .ok (.bipush 97, 2) := by decide +kernel
theorem dX9_name_102 : decode cX9_name 102 = .ok (.bipush 104, 2) := by decide +kernel
theorem dX9_name_104 : decode cX9_name 104 = .ok (.bipush 101, 2) := by decide +kernel
theorem dX9_name_106 : decode cX9_name 106 = .ok (.bipush 97, 2) := by decide +kernel
theorem dX9_name_108 : decode cX9_name 108 = .ok (.bipush 100, 2) := by decide +kernel
theorem dX9_name_110 : decode cX9_name 110 = .ok (.iconst 0, 1) := by decide +kernel
theorem dX9_name_111 : decode cX9_name 111 = .ok (.iconst 0, 1) := by decide +kernel
theorem dX9_name_112 : decode cX9_name 112 = .ok (.iconst 0, 1) := by decide +kernel
theorem dX9_name_113 : decode cX9_name 113 = .ok (.invokevirtual 183, 3) := by decide +kernel
theorem dX9_name_116 : decode cX9_name 116 = .ok (.ifCond .eq 8, 3) := by decide +kernel
theorem dX9_name_119 : decode cX9_name 119 = .ok (.aload_n 0, 1) := by decide +kernel
theorem dX9_name_120 : decode cX9_name 120 = .ok (.getfield 199, 3) := by decide +kernel
theorem dX9_name_123 : decode cX9_name 123 = .ok (.ireturn, 1) := by decide +kernel
theorem dX9_name_124 : decode cX9_name 124 = .ok (.aload_n 0, 1) := by decide +kernel
theorem dX9_name_125 : decode cX9_name 125 = .ok (.bipush 112, 2) := by decide +kernel
theorem dX9_name_127 : decode cX9_name 127 = .ok (.bipush 105, 2) := by decide +kernel
theorem dX9_name_129 : decode cX9_name 129 = .ok (.bipush 101, 2) := by decide +kernel
theorem dX9_name_131 : decode cX9_name 131 = .ok (.iconst 0, 1) := by decide +kernel
theorem dX9_name_132 : decode cX9_name 132 = .ok (.iconst 0, 1) := by decide +kernel
theorem dX9_name_133 : decode cX9_name 133 = .ok (.iconst 0, 1) := by decide +kernel
theorem dX9_name_134 : decode cX9_name 134 = .ok (.iconst 0, 1) := by decide +kernel
theorem dX9_name_135 : decode cX9_name 135 = .ok (.iconst 0, 1) := by decide +kernel
theorem dX9_name_136 : decode cX9_name 136 = .ok (.invokevirtual 183, 3) := by decide +kernel
theorem dX9_name_139 : decode cX9_name 139 = .ok (.ifCond .eq 8, 3) := by decide +kernel
theorem dX9_name_142 : decode cX9_name 142 = .ok (.aload_n 0, 1) := by decide +kernel
theorem dX9_name_143 : decode cX9_name 143 = .ok (.getfield 202, 3) := by decide +kernel
theorem dX9_name_146 : decode cX9_name 146 = .ok (.ireturn, 1) := by decide +kernel
theorem dX9_name_147 : decode cX9_name 147 = .ok (.aload_n 0, 1) := by decide +kernel
theorem dX9_name_148 : decode cX9_name 148 = .ok (.invokevirtual 177, 3) := by decide +kernel
theorem dX9_name_151 : decode cX9_name 151 = .ok (.iconst 0, 1) := by decide +kernel
theorem dX9_name_152 : decode cX9_name 152 = .ok (.ireturn, 1) := by decide +kernel
theorem qX9_name (d : Nat) (s : Sg) : RUN (d + 1) mX9_name [vr 32 0] s = bI (RUN d mX9_isWord [vr 32 0, vi 99, vi 97, vi 112, vi 0, vi 0, vi 0, vi 0, vi 0] s) (fun r1 s1 => if r1 = 0 then (bI (RUN d mX9_isWord [vr 32 0, vi 108, vi 97, vi 110, vi 101, vi 0, vi 0, vi 0, vi 0] s1) (fun r2 s2 => if r2 = 0 then (bI (RUN d mX9_isWord [vr 32 0, vi 109, vi 105, vi 110, vi 117, vi 116, vi 101, vi 0, vi 0] s2) (fun r3 s3 => if r3 = 0 then (bI (RUN d mX9_isWord [vr 32 0, vi 110, vi 117, vi 109, vi 98, vi 101, vi 114, vi 0, vi 0] s3) (fun r4 s4 => if r4 = 0 then (bI (RUN d mX9_isWord [vr 32 0, vi 97, vi 104, vi 101, vi 97, vi 100, vi 0, vi 0, vi 0] s4) (fun r5 s5 => if r5 = 0 then (bI (RUN d mX9_isWord [vr 32 0, vi 112, vi 105, vi 101, vi 0, vi 0, vi 0, vi 0, vi 0] s5) (fun r6 s6 => if r6 = 0 then (bV (RUN d mX9_fail [vr 32 0] s6) (fun s7 => some (some (vi 0), s7))) else (some (some (vi (s6 32 0 15)), s6)))) else (some (some (vi (s5 32 0 14)), s5)))) else (some (some (vi (s4 32 0 13)), s4)))) else (some (some (vi (s3 32 0 12)), s3)))) else (some (some (vi (s2 32 0 11)), s2)))) else (some (some (vi (s1 32 0 10)), s1))) := x_run rfl (x_st 1 dX9_name_0 rfl (x_st 3 dX9_name_1 rfl (x_st 5 dX9_name_3 rfl (x_st 7 dX9_name_5 rfl (x_st 8 dX9_name_7 rfl (x_st 9 dX9_name_8 rfl (x_st 10 dX9_name_9 rfl (x_st 11 dX9_name_10 rfl (x_st 12 dX9_name_11 rfl (x_ci 15 [vr 32 0] [] dX9_name_12 rfl (fun r1 s1 => x_br dX9_name_15 (x_if (x_go 23 (x_st 24 dX9_name_23 rfl (x_st 26 dX9_name_24 rfl (x_st 28 dX9_name_26 rfl (x_st 30 dX9_name_28 rfl (x_st 32 dX9_name_30 rfl (x_st 33 dX9_name_32 rfl (x_st 34 dX9_name_33 rfl (x_st 35 dX9_name_34 rfl (x_st 36 dX9_name_35 rfl (x_ci 39 [vr 32 0] [] dX9_name_36 rfl (fun r2 s2 => x_br dX9_name_39 (x_if (x_go 47 (x_st 48 dX9_name_47 rfl (x_st 50 dX9_name_48 rfl (x_st 52 dX9_name_50 rfl (x_st 54 dX9_name_52 rfl (x_st 56 dX9_name_54 rfl (x_st 58 dX9_name_56 rfl (x_st 60 dX9_name_58 rfl (x_st 61 dX9_name_60 rfl (x_st 62 dX9_name_61 rfl (x_ci 65 [vr 32 0] [] dX9_name_62 rfl (fun r3 s3 => x_br dX9_name_65 (x_if (x_go 73 (x_st 74 dX9_name_73 rfl (x_st 76 dX9_name_74 rfl (x_st 78 dX9_name_76 rfl (x_st 80 dX9_name_78 rfl (x_st 82 dX9_name_80 rfl (x_st 84 dX9_name_82 rfl (x_st 86 dX9_name_84 rfl (x_st 87 dX9_name_86 rfl (x_st 88 dX9_name_87 rfl (x_ci 91 [vr 32 0] [] dX9_name_88 rfl (fun r4 s4 => x_br dX9_name_91 (x_if (x_go 99 (x_st 100 dX9_name_99 rfl (x_st 102 dX9_name_100 rfl (x_st 104 dX9_name_102 rfl (x_st 106 dX9_name_104 rfl (x_st 108 dX9_name_106 rfl (x_st 110 dX9_name_108 rfl (x_st 111 dX9_name_110 rfl (x_st 112 dX9_name_111 rfl (x_st 113 dX9_name_112 rfl (x_ci 116 [vr 32 0] [] dX9_name_113 rfl (fun r5 s5 => x_br dX9_name_116 (x_if (x_go 124 (x_st 125 dX9_name_124 rfl (x_st 127 dX9_name_125 rfl (x_st 129 dX9_name_127 rfl (x_st 131 dX9_name_129 rfl (x_st 132 dX9_name_131 rfl (x_st 133 dX9_name_132 rfl (x_st 134 dX9_name_133 rfl (x_st 135 dX9_name_134 rfl (x_st 136 dX9_name_135 rfl (x_ci 139 [vr 32 0] [] dX9_name_136 rfl (fun r6 s6 => x_br dX9_name_139 (x_if (x_go 147 (x_st 148 dX9_name_147 rfl (x_cv 151 [vr 32 0] [] dX9_name_148 rfl (fun s7 => x_st 152 dX9_name_151 rfl (x_ret dX9_name_152 rfl))))) (x_go 142 (x_st 143 dX9_name_142 rfl (x_st 146 dX9_name_143 rfl (x_ret dX9_name_146 rfl))))))))))))))))) (x_go 119 (x_st 120 dX9_name_119 rfl (x_st 123 dX9_name_120 rfl (x_ret dX9_name_123 rfl))))))))))))))))) (x_go 94 (x_st 95 dX9_name_94 rfl (x_st 98 dX9_name_95 rfl (x_ret dX9_name_98 rfl))))))))))))))))) (x_go 68 (x_st 69 dX9_name_68 rfl (x_st 72 dX9_name_69 rfl (x_ret dX9_name_72 rfl))))))))))))))))) (x_go 42 (x_st 43 dX9_name_42 rfl (x_st 46 dX9_name_43 rfl (x_ret dX9_name_46 rfl))))))))))))))))) (x_go 18 (x_st 19 dX9_name_18 rfl (x_st 22 dX9_name_19 rfl (x_ret dX9_name_22 rfl))))))))))))))))
