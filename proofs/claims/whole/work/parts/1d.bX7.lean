theorem dX7_fits_0 : decode cX7_fits 0 = .ok (.aload_n 0, 1) := by decide +kernel
theorem dX7_fits_1 : decode cX7_fits 1 = .ok (.getfield 33, 3) := by decide +kernel
theorem dX7_fits_4 : decode cX7_fits 4 = .ok (.iconst 5, 1) := by decide +kernel
theorem dX7_fits_5 : decode cX7_fits 5 = .ok (.iload_n 1, 1) := by decide +kernel
theorem dX7_fits_6 : decode cX7_fits 6 = .ok (.invokevirtual 50, 3) := by decide +kernel
theorem dX7_fits_9 : decode cX7_fits 9 = .ok (.aload_n 0, 1) := by decide +kernel
theorem dX7_fits_10 : decode cX7_fits 10 = .ok (.getfield 33, 3) := by decide +kernel
theorem dX7_fits_13 : decode cX7_fits 13 = .ok (.iconst 1, 1) := by decide +kernel
theorem dX7_fits_14 : decode cX7_fits 14 = .ok (.iload_n 1, 1) := by decide +kernel
theorem dX7_fits_15 : decode cX7_fits 15 = .ok (.invokevirtual 50, 3) := by decide +kernel
theorem dX7_fits_18 : decode cX7_fits 18 = .ok (.iload_n 2, 1) := by decide +kernel
theorem dX7_fits_19 : decode cX7_fits 19 = .ok (.invokestatic 116, 3) := by decide +kernel
theorem dX7_fits_22 : decode cX7_fits 22 = .ok (.ireturn, 1) := by decide +kernel
theorem qX7_fits (d : Nat) (x1 : Int) (x2 : Int) (s : Sg) : RUN (d + 1) mX7_fits [vr 13 0, vi x1, vi x2] s = bI (RUN d mX1_tell [vr 1 0, vi 5, vi x1] s) (fun r1 s1 => bI (RUN d mX1_tell [vr 1 0, vi 1, vi x1] s1) (fun r2 s2 => bI (RUN d mX3_fits [vi r1, vi r2, vi x2] s2) (fun r3 s3 => if 0 ≤ r3 ∧ r3 ≤ 1 then some (some (vi r3), s3) else none))) := x_run rfl (x_st 1 dX7_fits_0 rfl (x_st 4 dX7_fits_1 rfl (x_st 5 dX7_fits_4 rfl (x_st 6 dX7_fits_5 rfl (x_ci 9 [vr 13 0, vi x1, vi x2] [] dX7_fits_6 rfl (fun r1 s1 => x_st 10 dX7_fits_9 rfl (x_st 13 dX7_fits_10 rfl (x_st 14 dX7_fits_13 rfl (x_st 15 dX7_fits_14 rfl (x_ci 18 [vr 13 0, vi x1, vi x2] [vi r1] dX7_fits_15 rfl (fun r2 s2 => x_st 19 dX7_fits_18 rfl (x_ci 22 [vr 13 0, vi x1, vi x2] [] dX7_fits_19 rfl (fun r3 s3 => x_br dX7_fits_22 x_rg)))))))))))))
theorem dX7_drawsForward_0 : decode cX7_drawsForward 0 = .ok (.aload_n 0, 1) := by decide +kernel
theorem dX7_drawsForward_1 : decode cX7_drawsForward 1 = .ok (.getfield 59, 3) := by decide +kernel
theorem dX7_drawsForward_4 : decode cX7_drawsForward 4 = .ok (.ifCond .ne 22, 3) := by decide +kernel
theorem dX7_drawsForward_7 : decode cX7_drawsForward 7 = .ok (.aload_n 0, 1) := by decide +kernel
theorem dX7_drawsForward_8 : decode cX7_drawsForward 8 = .ok (.getfield 37, 3) := by decide +kernel
theorem dX7_drawsForward_11 : decode cX7_drawsForward 11 = .ok (.iconst 1, 1) := by decide +kernel
theorem dX7_drawsForward_12 : decode cX7_drawsForward 12 = .ok (.aload_n 0, 1) := by decide +kernel
theorem dX7_drawsForward_13 : decode cX7_drawsForward 13 = .ok (.getfield 33, 3) := by decide +kernel
theorem dX7_drawsForward_16 : decode cX7_drawsForward 16 = .ok (.iload_n 1, 1) := by decide +kernel
theorem dX7_drawsForward_17 : decode cX7_drawsForward 17 = .ok (.iload_n 2, 1) := by decide +kernel
theorem dX7_drawsForward_18 : decode cX7_drawsForward 18 = .ok (.iload_n 3, 1) := by decide +kernel
theorem dX7_drawsForward_19 : decode cX7_drawsForward 19 = .ok (.iconst 0, 1) := by decide +kernel
theorem dX7_drawsForward_20 : decode cX7_drawsForward 20 = .ok (.invokevirtual 122, 3) := by decide +kernel
theorem dX7_drawsForward_23 : decode cX7_drawsForward 23 = .ok (.ifCond .eq 7, 3) := by decide +kernel
theorem dX7_drawsForward_26 : decode cX7_drawsForward 26 = .ok (.iconst 1, 1) := by decide +kernel
theorem dX7_drawsForward_27 : decode cX7_drawsForward 27 = .ok (.goto 4, 3) := by decide +kernel
theorem dX7_drawsForward_30 : decode cX7_drawsForward 30 = .ok (.iconst 0, 1) := by decide +kernel
theorem dX7_drawsForward_31 : decode cX7_drawsForward 31 = .ok (.istore 4, 2) := by decide +kernel
theorem dX7_drawsForward_33 : decode cX7_drawsForward 33 = .ok (.aload_n 0, 1) := by decide +kernel
theorem dX7_drawsForward_34 : decode cX7_drawsForward 34 = .ok (.getfield 33, 3) := by decide +kernel
theorem dX7_drawsForward_37 : decode cX7_drawsForward 37 = .ok (.iconst 5, 1) := by decide +kernel
theorem dX7_drawsForward_38 : decode cX7_drawsForward 38 = .ok (.iload_n 1, 1) := by decide +kernel
theorem dX7_drawsForward_39 : decode cX7_drawsForward 39 = .ok (.invokevirtual 50, 3) := by decide +kernel
theorem dX7_drawsForward_42 : decode cX7_drawsForward 42 = .ok (.iload 4, 2) := by decide +kernel
theorem dX7_drawsForward_44 : decode cX7_drawsForward 44 = .ok (.aload_n 0, 1) := by decide +kernel
theorem dX7_drawsForward_45 : decode cX7_drawsForward 45 = .ok (.getfield 33, 3) := by decide +kernel
theorem dX7_drawsForward_48 : decode cX7_drawsForward 48 = .ok (.iconst 0, 1) := by decide +kernel
theorem dX7_drawsForward_49 : decode cX7_drawsForward 49 = .ok (.iload_n 1, 1) := by decide +kernel
theorem dX7_drawsForward_50 : decode cX7_drawsForward 50 = .ok (.invokevirtual 50, 3) := by decide +kernel
theorem dX7_drawsForward_53 : decode cX7_drawsForward 53 = .ok (.invokestatic 128, 3) := by decide +kernel
theorem dX7_drawsForward_56 : decode cX7_drawsForward 56 = .ok (.ireturn, 1) := by decide +kernel
theorem qX7_drawsForward (d : Nat) (x1 : Int) (x2 : Int) (x3 : Int) (s : Sg) : RUN (d + 1) mX7_drawsForward [vr 13 0, vi x1, vi x2, vi x3] s = if (s 13 0 14) = 0 then (bI (RUN d mX5_ask [vr 4 0, vi 1, vr 1 0, vi x1, vi x2, vi x3, vi 0] s) (fun r1 s1 => if r1 = 0 then (EV (d + 1) mX7_drawsForward (31, [vr 13 0, vi x1, vi x2, vi x3, UU], [vi 0], s1)) else (EV (d + 1) mX7_drawsForward (26, [vr 13 0, vi x1, vi x2, vi x3, UU], [], s1)))) else (EV (d + 1) mX7_drawsForward (26, [vr 13 0, vi x1, vi x2, vi x3, UU], [], s)) := x_run rfl (x_st 1 dX7_drawsForward_0 rfl (x_st 4 dX7_drawsForward_1 rfl (x_br dX7_drawsForward_4 (x_if (x_go 7 (x_st 8 dX7_drawsForward_7 rfl (x_st 11 dX7_drawsForward_8 rfl (x_st 12 dX7_drawsForward_11 rfl (x_st 13 dX7_drawsForward_12 rfl (x_st 16 dX7_drawsForward_13 rfl (x_st 17 dX7_drawsForward_16 rfl (x_st 18 dX7_drawsForward_17 rfl (x_st 19 dX7_drawsForward_18 rfl (x_st 20 dX7_drawsForward_19 rfl (x_ci 23 [vr 13 0, vi x1, vi x2, vi x3, UU] [] dX7_drawsForward_20 rfl (fun r1 s1 => x_br dX7_drawsForward_23 (x_if (x_go 30 (x_st 31 dX7_drawsForward_30 rfl (rfl))) (x_go 26 (rfl))))))))))))))) (x_go 26 (rfl))))))
theorem qX7_drawsForward_31 (d : Nat) (x1 : Int) (z2 : PV) (z3 : PV) (z4 : PV) (y0 : Int) (s : Sg) : EV (d + 1) mX7_drawsForward (31, [vr 13 0, vi x1, z2, z3, z4], [vi y0], s) = bI (RUN d mX1_tell [vr 1 0, vi 5, vi x1] s) (fun r1 s1 => bI (RUN d mX1_tell [vr 1 0, vi 0, vi x1] s1) (fun r2 s2 => bI (RUN d mX3_drawsForward [vi r1, vi y0, vi r2] s2) (fun r3 s3 => if 0 ≤ r3 ∧ r3 ≤ 1 then some (some (vi r3), s3) else none))) := x_so 33 [vr 13 0, vi x1, z2, z3, vi y0] dX7_drawsForward_31 rfl (x_st 34 dX7_drawsForward_33 rfl (x_st 37 dX7_drawsForward_34 rfl (x_st 38 dX7_drawsForward_37 rfl (x_st 39 dX7_drawsForward_38 rfl (x_ci 42 [vr 13 0, vi x1, z2, z3, vi y0] [] dX7_drawsForward_39 rfl (fun r1 s1 => x_st 44 dX7_drawsForward_42 rfl (x_st 45 dX7_drawsForward_44 rfl (x_st 48 dX7_drawsForward_45 rfl (x_st 49 dX7_drawsForward_48 rfl (x_st 50 dX7_drawsForward_49 rfl (x_ci 53 [vr 13 0, vi x1, z2, z3, vi y0] [vi y0, vi r1] dX7_drawsForward_50 rfl (fun r2 s2 => x_ci 56 [vr 13 0, vi x1, z2, z3, vi y0] [] dX7_drawsForward_53 rfl (fun r3 s3 => x_br dX7_drawsForward_56 x_rg)))))))))))))
theorem qX7_drawsForward_26 (d : Nat) (x1 : Int) (z2 : PV) (z3 : PV) (z4 : PV) (s : Sg) : EV d mX7_drawsForward (26, [vr 13 0, vi x1, z2, z3, z4], [], s) = EV d mX7_drawsForward (31, [vr 13 0, vi x1, z2, z3, z4], [vi 1], s) := x_st 27 dX7_drawsForward_26 rfl (x_st 31 dX7_drawsForward_27 rfl (rfl))
theorem dX7_takes_0 : decode cX7_takes 0 = .ok (.bipush 40, 2) := by decide +kernel
theorem dX7_takes_2 : decode cX7_takes 2 = .ok (.aload_n 0, 1) := by decide +kernel
theorem dX7_takes_3 : decode cX7_takes 3 = .ok (.getfield 37, 3) := by decide +kernel
theorem dX7_takes_6 : decode cX7_takes 6 = .ok (.iconst 0, 1) := by decide +kernel
theorem dX7_takes_7 : decode cX7_takes 7 = .ok (.aload_n 0, 1) := by decide +kernel
theorem dX7_takes_8 : decode cX7_takes 8 = .ok (.getfield 33, 3) := by decide +kernel
theorem dX7_takes_11 : decode cX7_takes 11 = .ok (.iload_n 1, 1) := by decide +kernel
theorem dX7_takes_12 : decode cX7_takes 12 = .ok (.iload_n 2, 1) := by decide +kernel
theorem dX7_takes_13 : decode cX7_takes 13 = .ok (.iload_n 3, 1) := by decide +kernel
theorem dX7_takes_14 : decode cX7_takes 14 = .ok (.iload 4, 2) := by decide +kernel
theorem dX7_takes_16 : decode cX7_takes 16 = .ok (.invokevirtual 122, 3) := by decide +kernel
theorem dX7_takes_19 : decode cX7_takes 19 = .ok (.invokestatic 132, 3) := by decide +kernel
theorem dX7_takes_22 : decode cX7_takes 22 = .ok (.istore 5, 2) := by decide +kernel
theorem dX7_takes_24 : decode cX7_takes 24 = .ok (.iload 5, 2) := by decide +kernel
theorem dX7_takes_26 : decode cX7_takes 26 = .ok (.aload_n 0, 1) := by decide +kernel
theorem dX7_takes_27 : decode cX7_takes 27 = .ok (.getfield 33, 3) := by decide +kernel
theorem dX7_takes_30 : decode cX7_takes 30 = .ok (.iconst 4, 1) := by decide +kernel
theorem dX7_takes_31 : decode cX7_takes 31 = .ok (.iload_n 1, 1) := by decide +kernel
theorem dX7_takes_32 : decode cX7_takes 32 = .ok (.invokevirtual 50, 3) := by decide +kernel
theorem dX7_takes_35 : decode cX7_takes 35 = .ok (.iadd, 1) := by decide +kernel
theorem dX7_takes_36 : decode cX7_takes 36 = .ok (.istore 6, 2) := by decide +kernel
theorem dX7_takes_38 : decode cX7_takes 38 = .ok (.iconst 1, 1) := by decide +kernel
theorem dX7_takes_39 : decode cX7_takes 39 = .ok (.aload_n 0, 1) := by decide +kernel
theorem dX7_takes_40 : decode cX7_takes 40 = .ok (.getfield 33, 3) := by decide +kernel
theorem dX7_takes_43 : decode cX7_takes 43 = .ok (.iconst 5, 1) := by decide +kernel
theorem dX7_takes_44 : decode cX7_takes 44 = .ok (.iload_n 1, 1) := by decide +kernel
theorem dX7_takes_45 : decode cX7_takes 45 = .ok (.invokevirtual 50, 3) := by decide +kernel
theorem dX7_takes_48 : decode cX7_takes 48 = .ok (.iload 6, 2) := by decide +kernel
theorem dX7_takes_50 : decode cX7_takes 50 = .ok (.aload_n 0, 1) := by decide +kernel
theorem dX7_takes_51 : decode cX7_takes 51 = .ok (.getfield 33, 3) := by decide +kernel
theorem dX7_takes_54 : decode cX7_takes 54 = .ok (.iconst 0, 1) := by decide +kernel
theorem dX7_takes_55 : decode cX7_takes 55 = .ok (.iload_n 1, 1) := by decide +kernel
theorem dX7_takes_56 : decode cX7_takes 56 = .ok (.invokevirtual 50, 3) := by decide +kernel
theorem dX7_takes_59 : decode cX7_takes 59 = .ok (.invokestatic 135, 3) := by decide +kernel
theorem dX7_takes_62 : decode cX7_takes 62 = .ok (.invokestatic 102, 3) := by decide +kernel
theorem dX7_takes_65 : decode cX7_takes 65 = .ok (.ireturn, 1) := by decide +kernel
theorem qX7_takes (d : Nat) (x1 : Int) (x2 : Int) (x3 : Int) (x4 : Int) (s : Sg) : RUN (d + 1) mX7_takes [vr 13 0, vi x1, vi x2, vi x3, vi x4] s = bI (RUN d mX5_ask [vr 4 0, vi 0, vr 1 0, vi x1, vi x2, vi x3, vi x4] s) (fun r1 s1 => bI (RUN d mX7_within [vi 40, vi r1] s1) (fun r2 s2 => bI (RUN d mX1_tell [vr 1 0, vi 4, vi x1] s2) (fun r3 s3 => bI (RUN d mX1_tell [vr 1 0, vi 5, vi x1] s3) (fun r4 s4 => bI (RUN d mX1_tell [vr 1 0, vi 0, vi x1] s4) (fun r5 s5 => bI (RUN d mX3_minutes [vi r4, vi (w32 (r2 + r3)), vi r5] s5) (fun r6 s6 => some (some (vi (wmax 1 r6)), s6))))))) := x_run rfl (x_st 2 dX7_takes_0 rfl (x_st 3 dX7_takes_2 rfl (x_st 6 dX7_takes_3 rfl (x_st 7 dX7_takes_6 rfl (x_st 8 dX7_takes_7 rfl (x_st 11 dX7_takes_8 rfl (x_st 12 dX7_takes_11 rfl (x_st 13 dX7_takes_12 rfl (x_st 14 dX7_takes_13 rfl (x_st 16 dX7_takes_14 rfl (x_ci 19 [vr 13 0, vi x1, vi x2, vi x3, vi x4, UU, UU] [vi 40] dX7_takes_16 rfl (fun r1 s1 => x_ci 22 [vr 13 0, vi x1, vi x2, vi x3, vi x4, UU, UU] [] dX7_takes_19 rfl (fun r2 s2 => x_so 24 [vr 13 0, vi x1, vi x2, vi x3, vi x4, vi r2, UU] dX7_takes_22 rfl (x_st 26 dX7_takes_24 rfl (x_st 27 dX7_takes_26 rfl (x_st 30 dX7_takes_27 rfl (x_st 31 dX7_takes_30 rfl (x_st 32 dX7_takes_31 rfl (x_ci 35 [vr 13 0, vi x1, vi x2, vi x3, vi x4, vi r2, UU] [vi r2] dX7_takes_32 rfl (fun r3 s3 => x_st 36 dX7_takes_35 rfl (x_so 38 [vr 13 0, vi x1, vi x2, vi x3, vi x4, vi r2, vi (w32 (r2 + r3))] dX7_takes_36 rfl (x_st 39 dX7_takes_38 rfl (x_st 40 dX7_takes_39 rfl (x_st 43 dX7_takes_40 rfl (x_st 44 dX7_takes_43 rfl (x_st 45 dX7_takes_44 rfl (x_ci 48 [vr 13 0, vi x1, vi x2, vi x3, vi x4, vi r2, vi (w32 (r2 + r3))] [vi 1] dX7_takes_45 rfl (fun r4 s4 => x_st 50 dX7_takes_48 rfl (x_st 51 dX7_takes_50 rfl (x_st 54 dX7_takes_51 rfl (x_st 55 dX7_takes_54 rfl (x_st 56 dX7_takes_55 rfl (x_ci 59 [vr 13 0, vi x1, vi x2, vi x3, vi x4, vi r2, vi (w32 (r2 + r3))] [vi (w32 (r2 + r3)), vi r4, vi 1] dX7_takes_56 rfl (fun r5 s5 => x_ci 62 [vr 13 0, vi x1, vi x2, vi x3, vi x4, vi r2, vi (w32 (r2 + r3))] [vi 1] dX7_takes_59 rfl (fun r6 s6 => x_st 65 dX7_takes_62 rfl (x_ret dX7_takes_65 rfl))))))))))))))))))))))))))))))))))))
theorem dX7_minds_0 : decode cX7_minds 0 = .ok (.bipush 9, 2) := by decide +kernel
theorem dX7_minds_2 : decode cX7_minds 2 = .ok (.aload_n 0, 1) := by decide +kernel
theorem dX7_minds_3 : decode cX7_minds 3 = .ok (.getfield 37, 3) := by decide +kernel
theorem dX7_minds_6 : decode cX7_minds 6 = .ok (.iconst 2, 1) := by decide +kernel
theorem dX7_minds_7 : decode cX7_minds 7 = .ok (.aload_n 0, 1) := by decide +kernel
theorem dX7_minds_8 : decode cX7_minds 8 = .ok (.getfield 33, 3) := by decide +kernel
theorem dX7_minds_11 : decode cX7_minds 11 = .ok (.iload_n 1, 1) := by decide +kernel
theorem dX7_minds_12 : decode cX7_minds 12 = .ok (.iload_n 2, 1) := by decide +kernel
theorem dX7_minds_13 : decode cX7_minds 13 = .ok (.aload_n 0, 1) := by decide +kernel
theorem dX7_minds_14 : decode cX7_minds 14 = .ok (.getfield 33, 3) := by decide +kernel
theorem dX7_minds_17 : decode cX7_minds 17 = .ok (.iconst 3, 1) := by decide +kernel
theorem dX7_minds_18 : decode cX7_minds 18 = .ok (.iload_n 1, 1) := by decide +kernel
theorem dX7_minds_19 : decode cX7_minds 19 = .ok (.invokevirtual 50, 3) := by decide +kernel
theorem dX7_minds_22 : decode cX7_minds 22 = .ok (.iconst 0, 1) := by decide +kernel
theorem dX7_minds_23 : decode cX7_minds 23 = .ok (.invokevirtual 122, 3) := by decide +kernel
theorem dX7_minds_26 : decode cX7_minds 26 = .ok (.invokestatic 132, 3) := by decide +kernel
theorem dX7_minds_29 : decode cX7_minds 29 = .ok (.ireturn, 1) := by decide +kernel
theorem qX7_minds (d : Nat) (x1 : Int) (x2 : Int) (s : Sg) : RUN (d + 1) mX7_minds [vr 13 0, vi x1, vi x2] s = bI (RUN d mX1_tell [vr 1 0, vi 3, vi x1] s) (fun r1 s1 => bI (RUN d mX5_ask [vr 4 0, vi 2, vr 1 0, vi x1, vi x2, vi r1, vi 0] s1) (fun r2 s2 => bI (RUN d mX7_within [vi 9, vi r2] s2) (fun r3 s3 => some (some (vi r3), s3)))) := x_run rfl (x_st 2 dX7_minds_0 rfl (x_st 3 dX7_minds_2 rfl (x_st 6 dX7_minds_3 rfl (x_st 7 dX7_minds_6 rfl (x_st 8 dX7_minds_7 rfl (x_st 11 dX7_minds_8 rfl (x_st 12 dX7_minds_11 rfl (x_st 13 dX7_minds_12 rfl (x_st 14 dX7_minds_13 rfl (x_st 17 dX7_minds_14 rfl (x_st 18 dX7_minds_17 rfl (x_st 19 dX7_minds_18 rfl (x_ci 22 [vr 13 0, vi x1, vi x2] [vi x2, vi x1, vr 1 0, vi 2, vr 4 0, vi 9] dX7_minds_19 rfl (fun r1 s1 => x_st 23 dX7_minds_22 rfl (x_ci 26 [vr 13 0, vi x1, vi x2] [vi 9] dX7_minds_23 rfl (fun r2 s2 => x_ci 29 [vr 13 0, vi x1, vi x2] [] dX7_minds_26 rfl (fun r3 s3 => x_ret dX7_minds_29 rfl)))))))))))))))))
theorem dX7_spread_0 : decode cX7_spread 0 = .ok (.aload_n 0, 1) := by decide +kernel
theorem dX7_spread_1 : decode cX7_spread 1 = .ok (.invokevirtual 41, 3) := by decide +kernel
theorem dX7_spread_4 : decode cX7_spread 4 = .ok (.iconst 0, 1) := by decide +kernel
theorem dX7_spread_5 : decode cX7_spread 5 = .ok (.istore_n 1, 1) := by decide +kernel
theorem dX7_spread_6 : decode cX7_spread 6 = .ok (.iload_n 1, 1) := by decide +kernel
theorem dX7_spread_7 : decode cX7_spread 7 = .ok (.aload_n 0, 1) := by decide +kernel
theorem dX7_spread_8 : decode cX7_spread 8 = .ok (.getfield 33, 3) := by decide +kernel
theorem dX7_spread_11 : decode cX7_spread 11 = .ok (.invokevirtual 44, 3) := by decide +kernel
theorem dX7_spread_14 : decode cX7_spread 14 = .ok (.if_icmp .ge 23, 3) := by decide +kernel
theorem dX7_spread_17 : decode cX7_spread 17 = .ok (.aload_n 0, 1) := by decide +kernel
theorem dX7_spread_18 : decode cX7_spread 18 = .ok (.iload_n 1, 1) := by decide +kernel
theorem dX7_spread_19 : decode cX7_spread 19 = .ok (.aload_n 0, 1) := by decide +kernel
theorem dX7_spread_20 : decode cX7_spread 20 = .ok (.getfield 33, 3) := by decide +kernel
theorem dX7_spread_23 : decode cX7_spread 23 = .ok (.iconst 2, 1) := by decide +kernel
theorem dX7_spread_24 : decode cX7_spread 24 = .ok (.iload_n 1, 1) := by decide +kernel
theorem dX7_spread_25 : decode cX7_spread 25 = .ok (.invokevirtual 50, 3) := by decide +kernel
theorem dX7_spread_28 : decode cX7_spread 28 = .ok (.invokevirtual 54, 3) := by decide +kernel
theorem dX7_spread_31 : decode cX7_spread 31 = .ok (.iinc 1 1, 3) := by decide +kernel
theorem dX7_spread_34 : decode cX7_spread 34 = .ok (.goto (-28), 3) := by decide +kernel
theorem dX7_spread_37 : decode cX7_spread 37 = .ok (.return_, 1) := by decide +kernel
theorem qX7_spread (d : Nat) (s : Sg) : RUN (d + 1) mX7_spread [vr 13 0] s = bV (RUN d mX7_clearLanes [vr 13 0] s) (fun s1 => EV (d + 1) mX7_spread (6, [vr 13 0, vi 0], [], s1)) := x_run rfl (x_st 1 dX7_spread_0 rfl (x_cv 4 [vr 13 0, UU] [] dX7_spread_1 rfl (fun s1 => x_st 5 dX7_spread_4 rfl (x_so 6 [vr 13 0, vi 0] dX7_spread_5 rfl (rfl)))))
theorem qX7_spread_6 (d : Nat) (x1 : Int) (s : Sg) : EV (d + 1) mX7_spread (6, [vr 13 0, vi x1], [], s) = bI (RUN d mX1_size [vr 1 0] s) (fun r1 s1 => if x1 < r1 then (bI (RUN d mX1_tell [vr 1 0, vi 2, vi x1] s1) (fun r2 s2 => bV (RUN d mX7_join [vr 13 0, vi x1, vi r2] s2) (fun s3 => EV (d + 1) mX7_spread (6, [vr 13 0, vi (w32 (x1 + 1))], [], s3)))) else (some (none, s1))) := x_st 7 dX7_spread_6 rfl (x_st 8 dX7_spread_7 rfl (x_st 11 dX7_spread_8 rfl (x_ci 14 [vr 13 0, vi x1] [vi x1] dX7_spread_11 rfl (fun r1 s1 => x_br dX7_spread_14 (x_if (x_go 17 (x_st 18 dX7_spread_17 rfl (x_st 19 dX7_spread_18 rfl (x_st 20 dX7_spread_19 rfl (x_st 23 dX7_spread_20 rfl (x_st 24 dX7_spread_23 rfl (x_st 25 dX7_spread_24 rfl (x_ci 28 [vr 13 0, vi x1] [vi x1, vr 13 0] dX7_spread_25 rfl (fun r2 s2 => x_cv 31 [vr 13 0, vi x1] [] dX7_spread_28 rfl (fun s3 => x_so 34 [vr 13 0, vi (w32 (x1 + 1))] dX7_spread_31 rfl (x_st 6 dX7_spread_34 rfl (rfl)))))))))))) (x_go 37 (x_ret dX7_spread_37 rfl)))))))
theorem dX7_playAll_0 : decode cX7_playAll 0 = .ok (.aload_n 0, 1) := by decide +kernel
theorem dX7_playAll_1 : decode cX7_playAll 1 = .ok (.iconst 0, 1) := by decide +kernel
theorem dX7_playAll_2 : decode cX7_playAll 2 = .ok (.putfield 63, 3) := by decide +kernel
theorem dX7_playAll_5 : decode cX7_playAll 5 = .ok (.iconst 0, 1) := by decide +kernel
theorem dX7_playAll_6 : decode cX7_playAll 6 = .ok (.istore_n 1, 1) := by decide +kernel
theorem dX7_playAll_7 : decode cX7_playAll 7 = .ok (.iconst 0, 1) := by decide +kernel
theorem dX7_playAll_8 : decode cX7_playAll 8 = .ok (.istore_n 2, 1) := by decide +kernel
theorem dX7_playAll_9 : decode cX7_playAll 9 = .ok (.iload_n 2, 1) := by decide +kernel
theorem dX7_playAll_10 : decode cX7_playAll 10 = .ok (.iconst 4, 1) := by decide +kernel
theorem dX7_playAll_11 : decode cX7_playAll 11 = .ok (.if_icmp .ge 23, 3) := by decide +kernel
theorem dX7_playAll_14 : decode cX7_playAll 14 = .ok (.iload_n 1, 1) := by decide +kernel
theorem dX7_playAll_15 : decode cX7_playAll 15 = .ok (.aload_n 0, 1) := by decide +kernel
theorem dX7_playAll_16 : decode cX7_playAll 16 = .ok (.iload_n 2, 1) := by decide +kernel
theorem dX7_playAll_17 : decode cX7_playAll 17 = .ok (.aload_n 0, 1) := by decide +kernel
theorem dX7_playAll_18 : decode cX7_playAll 18 = .ok (.getfield 9, 3) := by decide +kernel
theorem dX7_playAll_21 : decode cX7_playAll 21 = .ok (.iload_n 2, 1) := by decide +kernel
theorem dX7_playAll_22 : decode cX7_playAll 22 = .ok (.iaload, 1) := by decide +kernel
theorem dX7_playAll_23 : decode cX7_playAll 23 = .ok (.invokevirtual 67, 3) := by decide +kernel
theorem dX7_playAll_26 : decode cX7_playAll 26 = .ok (.iadd, 1) := by decide +kernel
theorem dX7_playAll_27 : decode cX7_playAll 27 = .ok (.istore_n 1, 1) := by decide +kernel
theorem dX7_playAll_28 : decode cX7_playAll 28 = .ok (.iinc 2 1, 3) := by decide +kernel
theorem dX7_playAll_31 : decode cX7_playAll 31 = .ok (.goto (-22), 3) := by decide +kernel
theorem dX7_playAll_34 : decode cX7_playAll 34 = .ok (.iload_n 1, 1) := by decide +kernel
theorem dX7_playAll_35 : decode cX7_playAll 35 = .ok (.ireturn, 1) := by decide +kernel
theorem qX7_playAll (d : Nat) (s : Sg) : RUN d mX7_playAll [vr 13 0] s = EV d mX7_playAll (9, [vr 13 0, vi 0, vi 0], [], (up s 13 0 13 0)) := x_run rfl (x_st 1 dX7_playAll_0 rfl (x_st 2 dX7_playAll_1 rfl (x_st 5 dX7_playAll_2 rfl (x_st 6 dX7_playAll_5 rfl (x_so 7 [vr 13 0, vi 0, UU] dX7_playAll_6 rfl (x_st 8 dX7_playAll_7 rfl (x_so 9 [vr 13 0, vi 0, vi 0] dX7_playAll_8 rfl (rfl))))))))
theorem qX7_playAll_9 (d : Nat) (x1 : Int) (x2 : Int) (s : Sg) : EV (d + 1) mX7_playAll (9, [vr 13 0, vi x1, vi x2], [], s) = if x2 < 4 then (if inb x2 4 then (bI (RUN d mX7_playLane [vr 13 0, vi x2, vi (s 14 0 (Int.toNat x2))] s) (fun r1 s1 => EV (d + 1) mX7_playAll (9, [vr 13 0, vi (w32 (x1 + r1)), vi (w32 (x2 + 1))], [], s1))) else none) else (some (some (vi x1), s)) := x_st 10 dX7_playAll_9 rfl (x_st 11 dX7_playAll_10 rfl (x_br dX7_playAll_11 (x_if (x_go 14 (x_st 15 dX7_playAll_14 rfl (x_st 16 dX7_playAll_15 rfl (x_st 17 dX7_playAll_16 rfl (x_st 18 dX7_playAll_17 rfl (x_st 21 dX7_playAll_18 rfl (x_st 22 dX7_playAll_21 rfl (x_br dX7_playAll_22 (x_if (x_go 23 (x_ci 26 [vr 13 0, vi x1, vi x2] [vi x1] dX7_playAll_23 rfl (fun r1 s1 => x_st 27 dX7_playAll_26 rfl (x_so 28 [vr 13 0, vi (w32 (x1 + r1)), vi x2] dX7_playAll_27 rfl (x_so 31 [vr 13 0, vi (w32 (x1 + r1)), vi (w32 (x2 + 1))] dX7_playAll_28 rfl (x_st 9 dX7_playAll_31 rfl (rfl))))))) x_no))))))))) (x_go 34 (x_st 35 dX7_playAll_34 rfl (x_ret dX7_playAll_35 rfl))))))
theorem dX7_starts_0 : decode cX7_starts 0 = .ok (.aload_n 0, 1) := by decide +kernel
theorem dX7_starts_1 : decode cX7_starts 1 = .ok (.getfield 33, 3) := by decide +kernel
theorem dX7_starts_4 : decode cX7_starts 4 = .ok (.iload_n 1, 1) := by decide +kernel
theorem dX7_starts_5 : decode cX7_starts 5 = .ok (.invokevirtual 95, 3) := by decide +kernel
theorem dX7_starts_8 : decode cX7_starts 8 = .ok (.ifCond .eq 12, 3) := by decide +kernel
theorem dX7_starts_11 : decode cX7_starts 11 = .ok (.aload_n 0, 1) := by decide +kernel
theorem dX7_starts_12 : decode cX7_starts 12 = .ok (.getfield 15, 3) := by decide +kernel
theorem dX7_starts_15 : decode cX7_starts 15 = .ok (.iload_n 1, 1) := by decide +kernel
theorem dX7_starts_16 : decode cX7_starts 16 = .ok (.iaload, 1) := by decide +kernel
theorem dX7_starts_17 : decode cX7_starts 17 = .ok (.goto 4, 3) := by decide +kernel
theorem dX7_starts_20 : decode cX7_starts 20 = .ok (.iconst (-1), 1) := by decide +kernel
theorem dX7_starts_21 : decode cX7_starts 21 = .ok (.ireturn, 1) := by decide +kernel
theorem qX7_starts (d : Nat) (x1 : Int) (s : Sg) : RUN (d + 1) mX7_starts [vr 13 0, vi x1] s = bI (RUN d mX1_has [vr 1 0, vi x1] s) (fun r1 s1 => if r1 = 0 then (some (some (vi (-1)), s1)) else (if inb x1 6 then (some (some (vi (s1 15 0 (Int.toNat x1))), s1)) else none)) := x_run rfl (x_st 1 dX7_starts_0 rfl (x_st 4 dX7_starts_1 rfl (x_st 5 dX7_starts_4 rfl (x_ci 8 [vr 13 0, vi x1] [] dX7_starts_5 rfl (fun r1 s1 => x_br dX7_starts_8 (x_if (x_go 20 (x_st 21 dX7_starts_20 rfl (x_ret dX7_starts_21 rfl))) (x_go 11 (x_st 12 dX7_starts_11 rfl (x_st 15 dX7_starts_12 rfl (x_st 16 dX7_starts_15 rfl (x_br dX7_starts_16 (x_if (x_go 17 (x_st 21 dX7_starts_17 rfl (x_ret dX7_starts_21 rfl))) x_no))))))))))))
theorem dX7_off_0 : decode cX7_off 0 = .ok (.aload_n 0, 1) := by decide +kernel
theorem dX7_off_1 : decode cX7_off 1 = .ok (.getfield 33, 3) := by decide +kernel
theorem dX7_off_4 : decode cX7_off 4 = .ok (.iload_n 1, 1) := by decide +kernel
theorem dX7_off_5 : decode cX7_off 5 = .ok (.invokevirtual 95, 3) := by decide +kernel
theorem dX7_off_8 : decode cX7_off 8 = .ok (.ifCond .eq 12, 3) := by decide +kernel
theorem dX7_off_11 : decode cX7_off 11 = .ok (.aload_n 0, 1) := by decide +kernel
theorem dX7_off_12 : decode cX7_off 12 = .ok (.getfield 21, 3) := by decide +kernel
theorem dX7_off_15 : decode cX7_off 15 = .ok (.iload_n 1, 1) := by decide +kernel
theorem dX7_off_16 : decode cX7_off 16 = .ok (.iaload, 1) := by decide +kernel
theorem dX7_off_17 : decode cX7_off 17 = .ok (.goto 4, 3) := by decide +kernel
theorem dX7_off_20 : decode cX7_off 20 = .ok (.iconst (-1), 1) := by decide +kernel
theorem dX7_off_21 : decode cX7_off 21 = .ok (.ireturn, 1) := by decide +kernel
theorem qX7_off (d : Nat) (x1 : Int) (s : Sg) : RUN (d + 1) mX7_off [vr 13 0, vi x1] s = bI (RUN d mX1_has [vr 1 0, vi x1] s) (fun r1 s1 => if r1 = 0 then (some (some (vi (-1)), s1)) else (if inb x1 6 then (some (some (vi (s1 17 0 (Int.toNat x1))), s1)) else none)) := x_run rfl (x_st 1 dX7_off_0 rfl (x_st 4 dX7_off_1 rfl (x_st 5 dX7_off_4 rfl (x_ci 8 [vr 13 0, vi x1] [] dX7_off_5 rfl (fun r1 s1 => x_br dX7_off_8 (x_if (x_go 20 (x_st 21 dX7_off_20 rfl (x_ret dX7_off_21 rfl))) (x_go 11 (x_st 12 dX7_off_11 rfl (x_st 15 dX7_off_12 rfl (x_st 16 dX7_off_15 rfl (x_br dX7_off_16 (x_if (x_go 17 (x_st 21 dX7_off_17 rfl (x_ret dX7_off_21 rfl))) x_no))))))))))))
theorem dX7_waited_0 : decode cX7_waited 0 = .ok (.aload_n 0, 1) := by decide +kernel
theorem dX7_waited_1 : decode cX7_waited 1 = .ok (.iload_n 1, 1) := by decide +kernel
theorem dX7_waited_2 : decode cX7_waited 2 = .ok (.invokevirtual 99, 3) := by decide +kernel
theorem dX7_waited_5 : decode cX7_waited 5 = .ok (.iconst (-1), 1) := by decide +kernel
theorem dX7_waited_6 : decode cX7_waited 6 = .ok (.if_icmp .ne 9, 3) := by decide +kernel
theorem dX7_waited_9 : decode cX7_waited 9 = .ok (.sipush 200, 3) := by decide +kernel
theorem dX7_waited_12 : decode cX7_waited 12 = .ok (.goto 8, 3) := by decide +kernel
theorem dX7_waited_15 : decode cX7_waited 15 = .ok (.aload_n 0, 1) := by decide +kernel
theorem dX7_waited_16 : decode cX7_waited 16 = .ok (.iload_n 1, 1) := by decide +kernel
theorem dX7_waited_17 : decode cX7_waited 17 = .ok (.invokevirtual 99, 3) := by decide +kernel
theorem dX7_waited_20 : decode cX7_waited 20 = .ok (.istore_n 2, 1) := by decide +kernel
theorem dX7_waited_21 : decode cX7_waited 21 = .ok (.iload_n 2, 1) := by decide +kernel
theorem dX7_waited_22 : decode cX7_waited 22 = .ok (.aload_n 0, 1) := by decide +kernel
theorem dX7_waited_23 : decode cX7_waited 23 = .ok (.getfield 33, 3) := by decide +kernel
theorem dX7_waited_26 : decode cX7_waited 26 = .ok (.iconst 3, 1) := by decide +kernel
theorem dX7_waited_27 : decode cX7_waited 27 = .ok (.iload_n 1, 1) := by decide +kernel
theorem dX7_waited_28 : decode cX7_waited 28 = .ok (.invokevirtual 50, 3) := by decide +kernel
theorem dX7_waited_31 : decode cX7_waited 31 = .ok (.isub, 1) := by decide +kernel
theorem dX7_waited_32 : decode cX7_waited 32 = .ok (.ireturn, 1) := by decide +kernel
theorem qX7_waited (d : Nat) (x1 : Int) (s : Sg) : RUN (d + 1) mX7_waited [vr 13 0, vi x1] s = bI (RUN d mX7_starts [vr 13 0, vi x1] s) (fun r1 s1 => if r1 = (-1) then (EV (d + 1) mX7_waited (20, [vr 13 0, vi x1, UU], [vi 200], s1)) else (bI (RUN d mX7_starts [vr 13 0, vi x1] s1) (fun r2 s2 => EV (d + 1) mX7_waited (20, [vr 13 0, vi x1, UU], [vi r2], s2)))) := x_run rfl (x_st 1 dX7_waited_0 rfl (x_st 2 dX7_waited_1 rfl (x_ci 5 [vr 13 0, vi x1, UU] [] dX7_waited_2 rfl (fun r1 s1 => x_st 6 dX7_waited_5 rfl (x_br dX7_waited_6 (x_if (x_go 9 (x_st 12 dX7_waited_9 rfl (x_st 20 dX7_waited_12 rfl (rfl)))) (x_go 15 (x_st 16 dX7_waited_15 rfl (x_st 17 dX7_waited_16 rfl (x_ci 20 [vr 13 0, vi x1, UU] [] dX7_waited_17 rfl (fun r2 s2 => rfl)))))))))))
theorem qX7_waited_20 (d : Nat) (x1 : Int) (z2 : PV) (y0 : Int) (s : Sg) : EV (d + 1) mX7_waited (20, [vr 13 0, vi x1, z2], [vi y0], s) = bI (RUN d mX1_tell [vr 1 0, vi 3, vi x1] s) (fun r1 s1 => some (some (vi (w32 (y0 - r1))), s1)) := x_so 21 [vr 13 0, vi x1, vi y0] dX7_waited_20 rfl (x_st 22 dX7_waited_21 rfl (x_st 23 dX7_waited_22 rfl (x_st 26 dX7_waited_23 rfl (x_st 27 dX7_waited_26 rfl (x_st 28 dX7_waited_27 rfl (x_ci 31 [vr 13 0, vi x1, vi y0] [vi y0] dX7_waited_28 rfl (fun r1 s1 => x_st 32 dX7_waited_31 rfl (x_ret dX7_waited_32 rfl))))))))
theorem dX7_place_0 : decode cX7_place 0 = .ok (.aload_n 0, 1) := by decide +kernel
theorem dX7_place_1 : decode cX7_place 1 = .ok (.getfield 33, 3) := by decide +kernel
theorem dX7_place_4 : decode cX7_place 4 = .ok (.iload_n 1, 1) := by decide +kernel
theorem dX7_place_5 : decode cX7_place 5 = .ok (.invokevirtual 95, 3) := by decide +kernel
theorem dX7_place_8 : decode cX7_place 8 = .ok (.ifCond .eq 12, 3) := by decide +kernel
theorem dX7_place_11 : decode cX7_place 11 = .ok (.aload_n 0, 1) := by decide +kernel
theorem dX7_place_12 : decode cX7_place 12 = .ok (.getfield 24, 3) := by decide +kernel
theorem dX7_place_15 : decode cX7_place 15 = .ok (.iload_n 1, 1) := by decide +kernel
theorem dX7_place_16 : decode cX7_place 16 = .ok (.iaload, 1) := by decide +kernel
theorem dX7_place_17 : decode cX7_place 17 = .ok (.goto 4, 3) := by decide +kernel
theorem dX7_place_20 : decode cX7_place 20 = .ok (.iconst (-1), 1) := by decide +kernel
theorem dX7_place_21 : decode cX7_place 21 = .ok (.ireturn, 1) := by decide +kernel
theorem qX7_place (d : Nat) (x1 : Int) (s : Sg) : RUN (d + 1) mX7_place [vr 13 0, vi x1] s = bI (RUN d mX1_has [vr 1 0, vi x1] s) (fun r1 s1 => if r1 = 0 then (some (some (vi (-1)), s1)) else (if inb x1 6 then (some (some (vi (s1 18 0 (Int.toNat x1))), s1)) else none)) := x_run rfl (x_st 1 dX7_place_0 rfl (x_st 4 dX7_place_1 rfl (x_st 5 dX7_place_4 rfl (x_ci 8 [vr 13 0, vi x1] [] dX7_place_5 rfl (fun r1 s1 => x_br dX7_place_8 (x_if (x_go 20 (x_st 21 dX7_place_20 rfl (x_ret dX7_place_21 rfl))) (x_go 11 (x_st 12 dX7_place_11 rfl (x_st 15 dX7_place_12 rfl (x_st 16 dX7_place_15 rfl (x_br dX7_place_16 (x_if (x_go 17 (x_st 21 dX7_place_17 rfl (x_ret dX7_place_21 rfl))) x_no))))))))))))
theorem dX7_whoIsAt_0 : decode cX7_whoIsAt 0 = .ok (.iconst 0, 1) := by decide +kernel
theorem dX7_whoIsAt_1 : decode cX7_whoIsAt 1 = .ok (.istore 4, 2) := by decide +kernel
theorem dX7_whoIsAt_3 : decode cX7_whoIsAt 3 = .ok (.iload 4, 2) := by decide +kernel
theorem dX7_whoIsAt_5 : decode cX7_whoIsAt 5 = .ok (.aload_n 0, 1) := by decide +kernel
theorem dX7_whoIsAt_6 : decode cX7_whoIsAt 6 = .ok (.getfield 33, 3) := by decide +kernel
theorem dX7_whoIsAt_9 : decode cX7_whoIsAt 9 = .ok (.invokevirtual 44, 3) := by decide +kernel
theorem dX7_whoIsAt_12 : decode cX7_whoIsAt 12 = .ok (.if_icmp .ge 105, 3) := by decide +kernel
theorem dX7_whoIsAt_15 : decode cX7_whoIsAt 15 = .ok (.aload_n 0, 1) := by decide +kernel
theorem dX7_whoIsAt_16 : decode cX7_whoIsAt 16 = .ok (.getfield 24, 3) := by decide +kernel
theorem dX7_whoIsAt_19 : decode cX7_whoIsAt 19 = .ok (.iload 4, 2) := by decide +kernel
theorem dX7_whoIsAt_21 : decode cX7_whoIsAt 21 = .ok (.iaload, 1) := by decide +kernel
theorem dX7_whoIsAt_22 : decode cX7_whoIsAt 22 = .ok (.iload_n 3, 1) := by decide +kernel
theorem dX7_whoIsAt_23 : decode cX7_whoIsAt 23 = .ok (.if_icmp .eq 14, 3) := by decide +kernel
theorem dX7_whoIsAt_26 : decode cX7_whoIsAt 26 = .ok (.aload_n 0, 1) := by decide +kernel
theorem dX7_whoIsAt_27 : decode cX7_whoIsAt 27 = .ok (.getfield 24, 3) := by decide +kernel
theorem dX7_whoIsAt_30 : decode cX7_whoIsAt 30 = .ok (.iload 4, 2) := by decide +kernel
theorem dX7_whoIsAt_32 : decode cX7_whoIsAt 32 = .ok (.iaload, 1) := by decide +kernel
theorem dX7_whoIsAt_33 : decode cX7_whoIsAt 33 = .ok (.iconst 2, 1) := by decide +kernel
theorem dX7_whoIsAt_34 : decode cX7_whoIsAt 34 = .ok (.if_icmp .ne 7, 3) := by decide +kernel
theorem dX7_whoIsAt_37 : decode cX7_whoIsAt 37 = .ok (.iconst 1, 1) := by decide +kernel
theorem dX7_whoIsAt_38 : decode cX7_whoIsAt 38 = .ok (.goto 4, 3) := by decide +kernel
theorem dX7_whoIsAt_41 : decode cX7_whoIsAt 41 = .ok (.iconst 0, 1) := by decide +kernel
theorem dX7_whoIsAt_42 : decode cX7_whoIsAt 42 = .ok (.istore 5, 2) := by decide +kernel
theorem dX7_whoIsAt_44 : decode cX7_whoIsAt 44 = .ok (.aload_n 0, 1) := by decide +kernel
theorem dX7_whoIsAt_45 : decode cX7_whoIsAt 45 = .ok (.getfield 15, 3) := by decide +kernel
theorem dX7_whoIsAt_48 : decode cX7_whoIsAt 48 = .ok (.iload 4, 2) := by decide +kernel
theorem dX7_whoIsAt_50 : decode cX7_whoIsAt 50 = .ok (.iaload, 1) := by decide +kernel
theorem dX7_whoIsAt_51 : decode cX7_whoIsAt 51 = .ok (.iload_n 2, 1) := by decide +kernel
theorem dX7_whoIsAt_52 : decode cX7_whoIsAt 52 = .ok (.if_icmp .gt 29, 3) := by decide +kernel
theorem dX7_whoIsAt_55 : decode cX7_whoIsAt 55 = .ok (.aload_n 0, 1) := by decide +kernel
theorem dX7_whoIsAt_56 : decode cX7_whoIsAt 56 = .ok (.getfield 21, 3) := by decide +kernel
theorem dX7_whoIsAt_59 : decode cX7_whoIsAt 59 = .ok (.iload 4, 2) := by decide +kernel
theorem dX7_whoIsAt_61 : decode cX7_whoIsAt 61 = .ok (.iaload, 1) := by decide +kernel
theorem dX7_whoIsAt_62 : decode cX7_whoIsAt 62 = .ok (.iconst (-1), 1) := by decide +kernel
theorem dX7_whoIsAt_63 : decode cX7_whoIsAt 63 = .ok (.if_icmp .eq 14, 3) := by decide +kernel
theorem dX7_whoIsAt_66 : decode cX7_whoIsAt 66 = .ok (.iload_n 2, 1) := by decide +kernel
theorem dX7_whoIsAt_67 : decode cX7_whoIsAt 67 = .ok (.aload_n 0, 1) := by decide +kernel
theorem dX7_whoIsAt_68 : decode cX7_whoIsAt 68 = .ok (.getfield 21, 3) := by decide +kernel
theorem dX7_whoIsAt_71 : decode cX7_whoIsAt 71 = .ok (.iload 4, 2) := by decide +kernel
theorem dX7_whoIsAt_73 : decode cX7_whoIsAt 73 = .ok (.iaload, 1) := by decide +kernel
theorem dX7_whoIsAt_74 : decode cX7_whoIsAt 74 = .ok (.if_icmp .ge 7, 3) := by decide +kernel
theorem dX7_whoIsAt_77 : decode cX7_whoIsAt 77 = .ok (.iconst 1, 1) := by decide +kernel
theorem dX7_whoIsAt_78 : decode cX7_whoIsAt 78 = .ok (.goto 4, 3) := by decide +kernel
theorem dX7_whoIsAt_81 : decode cX7_whoIsAt 81 = .ok (.iconst 0, 1) := by decide +kernel
theorem dX7_whoIsAt_82 : decode cX7_whoIsAt 82 = .ok (.istore 6, 2) := by decide +kernel
theorem dX7_whoIsAt_84 : decode cX7_whoIsAt 84 = .ok (.iload 5, 2) := by decide +kernel
theorem dX7_whoIsAt_86 : decode cX7_whoIsAt 86 = .ok (.ifCond .eq 25, 3) := by decide +kernel
theorem dX7_whoIsAt_89 : decode cX7_whoIsAt 89 = .ok (.iload 6, 2) := by decide +kernel
theorem dX7_whoIsAt_91 : decode cX7_whoIsAt 91 = .ok (.ifCond .eq 20, 3) := by decide +kernel
theorem dX7_whoIsAt_94 : decode cX7_whoIsAt 94 = .ok (.aload_n 0, 1) := by decide +kernel
theorem dX7_whoIsAt_95 : decode cX7_whoIsAt 95 = .ok (.getfield 33, 3) := by decide +kernel
theorem dX7_whoIsAt_98 : decode cX7_whoIsAt 98 = .ok (.iconst 2, 1) := by decide +kernel
theorem dX7_whoIsAt_99 : decode cX7_whoIsAt 99 = .ok (.iload 4, 2) := by decide +kernel
theorem dX7_whoIsAt_101 : decode cX7_whoIsAt 101 = .ok (.invokevirtual 50, 3) := by decide +kernel
theorem dX7_whoIsAt_104 : decode cX7_whoIsAt 104 = .ok (.iload_n 1, 1) := by decide +kernel
theorem dX7_whoIsAt_105 : decode cX7_whoIsAt 105 = .ok (.if_icmp .ne 6, 3) := by decide +kernel
theorem dX7_whoIsAt_108 : decode cX7_whoIsAt 108 = .ok (.iload 4, 2) := by decide +kernel
theorem dX7_whoIsAt_110 : decode cX7_whoIsAt 110 = .ok (.ireturn, 1) := by decide +kernel
theorem dX7_whoIsAt_111 : decode cX7_whoIsAt 111 = .ok (.iinc 4 1, 3) := by decide +kernel
theorem dX7_whoIsAt_114 : decode cX7_whoIsAt 114 = .ok (.goto (-111), 3) := by decide +kernel
theorem dX7_whoIsAt_117 : decode cX7_whoIsAt 117 = .ok (.iconst (-1), 1) := by decide +kernel
theorem dX7_whoIsAt_118 : decode cX7_whoIsAt 118 = .ok (.ireturn, 1) := by decide +kernel
theorem qX7_whoIsAt (d : Nat) (x1 : Int) (x2 : Int) (x3 : Int) (s : Sg) : RUN d mX7_whoIsAt [vr 13 0, vi x1, vi x2, vi x3] s = EV d mX7_whoIsAt (3, [vr 13 0, vi x1, vi x2, vi x3, vi 0, UU, UU], [], s) := x_run rfl (x_st 1 dX7_whoIsAt_0 rfl (x_so 3 [vr 13 0, vi x1, vi x2, vi x3, vi 0, UU, UU] dX7_whoIsAt_1 rfl (rfl)))
theorem qX7_whoIsAt_3 (d : Nat) (x1 : Int) (x2 : Int) (x3 : Int) (x4 : Int) (z5 : PV) (z6 : PV) (s : Sg) : EV (d + 1) mX7_whoIsAt (3, [vr 13 0, vi x1, vi x2, vi x3, vi x4, z5, z6], [], s) = bI (RUN d mX1_size [vr 1 0] s) (fun r1 s1 => if x4 < r1 then (if inb x4 6 then (if (s1 18 0 (Int.toNat x4)) = x3 then (EV (d + 1) mX7_whoIsAt (37, [vr 13 0, vi x1, vi x2, vi x3, vi x4, z5, z6], [], s1)) else (if inb x4 6 then (if (s1 18 0 (Int.toNat x4)) = 2 then (EV (d + 1) mX7_whoIsAt (37, [vr 13 0, vi x1, vi x2, vi x3, vi x4, z5, z6], [], s1)) else (EV (d + 1) mX7_whoIsAt (42, [vr 13 0, vi x1, vi x2, vi x3, vi x4, z5, z6], [vi 0], s1))) else none)) else none) else (some (some (vi (-1)), s1))) := x_st 5 dX7_whoIsAt_3 rfl (x_st 6 dX7_whoIsAt_5 rfl (x_st 9 dX7_whoIsAt_6 rfl (x_ci 12 [vr 13 0, vi x1, vi x2, vi x3, vi x4, z5, z6] [vi x4] dX7_whoIsAt_9 rfl (fun r1 s1 => x_br dX7_whoIsAt_12 (x_if (x_go 15 (x_st 16 dX7_whoIsAt_15 rfl (x_st 19 dX7_whoIsAt_16 rfl (x_st 21 dX7_whoIsAt_19 rfl (x_br dX7_whoIsAt_21 (x_if (x_go 22 (x_st 23 dX7_whoIsAt_22 rfl (x_br dX7_whoIsAt_23 (x_if (x_go 37 (rfl)) (x_go 26 (x_st 27 dX7_whoIsAt_26 rfl (x_st 30 dX7_whoIsAt_27 rfl (x_st 32 dX7_whoIsAt_30 rfl (x_br dX7_whoIsAt_32 (x_if (x_go 33 (x_st 34 dX7_whoIsAt_33 rfl (x_br dX7_whoIsAt_34 (x_if (x_go 37 (rfl)) (x_go 41 (x_st 42 dX7_whoIsAt_41 rfl (rfl))))))) x_no)))))))))) x_no)))))) (x_go 117 (x_st 118 dX7_whoIsAt_117 rfl (x_ret dX7_whoIsAt_118 rfl))))))))
theorem qX7_whoIsAt_37 (d : Nat) (x1 : Int) (x2 : Int) (x3 : Int) (x4 : Int) (z5 : PV) (z6 : PV) (s : Sg) : EV d mX7_whoIsAt (37, [vr 13 0, vi x1, vi x2, vi x3, vi x4, z5, z6], [], s) = EV d mX7_whoIsAt (42, [vr 13 0, vi x1, vi x2, vi x3, vi x4, z5, z6], [vi 1], s) := x_st 38 dX7_whoIsAt_37 rfl (x_st 42 dX7_whoIsAt_38 rfl (rfl))
theorem qX7_whoIsAt_42 (d : Nat) (x1 : Int) (x2 : Int) (x3 : Int) (x4 : Int) (z5 : PV) (z6 : PV) (y0 : Int) (s : Sg) : EV d mX7_whoIsAt (42, [vr 13 0, vi x1, vi x2, vi x3, vi x4, z5, z6], [vi y0], s) = if inb x4 6 then (if x2 < (s 15 0 (Int.toNat x4)) then (EV d mX7_whoIsAt (81, [vr 13 0, vi x1, vi x2, vi x3, vi x4, vi y0, z6], [], s)) else (if inb x4 6 then (if (s 17 0 (Int.toNat x4)) = (-1) then (EV d mX7_whoIsAt (77, [vr 13 0, vi x1, vi x2, vi x3, vi x4, vi y0, z6], [], s)) else (if inb x4 6 then (if x2 < (s 17 0 (Int.toNat x4)) then (EV d mX7_whoIsAt (77, [vr 13 0, vi x1, vi x2, vi x3, vi x4, vi y0, z6], [], s)) else (EV d mX7_whoIsAt (81, [vr 13 0, vi x1, vi x2, vi x3, vi x4, vi y0, z6], [], s))) else none)) else none)) else none := x_so 44 [vr 13 0, vi x1, vi x2, vi x3, vi x4, vi y0, z6] dX7_whoIsAt_42 rfl (x_st 45 dX7_whoIsAt_44 rfl (x_st 48 dX7_whoIsAt_45 rfl (x_st 50 dX7_whoIsAt_48 rfl (x_br dX7_whoIsAt_50 (x_if (x_go 51 (x_st 52 dX7_whoIsAt_51 rfl (x_br dX7_whoIsAt_52 (x_if (x_go 81 (rfl)) (x_go 55 (x_st 56 dX7_whoIsAt_55 rfl (x_st 59 dX7_whoIsAt_56 rfl (x_st 61 dX7_whoIsAt_59 rfl (x_br dX7_whoIsAt_61 (x_if (x_go 62 (x_st 63 dX7_whoIsAt_62 rfl (x_br dX7_whoIsAt_63 (x_if (x_go 77 (rfl)) (x_go 66 (x_st 67 dX7_whoIsAt_66 rfl (x_st 68 dX7_whoIsAt_67 rfl (x_st 71 dX7_whoIsAt_68 rfl (x_st 73 dX7_whoIsAt_71 rfl (x_br dX7_whoIsAt_73 (x_if (x_go 74 (x_br dX7_whoIsAt_74 (x_if (x_go 77 (rfl)) (x_go 81 (rfl))))) x_no))))))))))) x_no)))))))))) x_no)))))
theorem qX7_whoIsAt_81 (d : Nat) (x1 : Int) (x2 : Int) (x3 : Int) (x4 : Int) (x5 : Int) (z6 : PV) (s : Sg) : EV d mX7_whoIsAt (81, [vr 13 0, vi x1, vi x2, vi x3, vi x4, vi x5, z6], [], s) = EV d mX7_whoIsAt (82, [vr 13 0, vi x1, vi x2, vi x3, vi x4, vi x5, z6], [vi 0], s) := x_st 82 dX7_whoIsAt_81 rfl (rfl)
theorem qX7_whoIsAt_77 (d : Nat) (x1 : Int) (x2 : Int) (x3 : Int) (x4 : Int) (x5 : Int) (z6 : PV) (s : Sg) : EV d mX7_whoIsAt (77, [vr 13 0, vi x1, vi x2, vi x3, vi x4, vi x5, z6], [], s) = EV d mX7_whoIsAt (82, [vr 13 0, vi x1, vi x2, vi x3, vi x4, vi x5, z6], [vi 1], s) := x_st 78 dX7_whoIsAt_77 rfl (x_st 82 dX7_whoIsAt_78 rfl (rfl))
theorem qX7_whoIsAt_82 (d : Nat) (x1 : Int) (x2 : Int) (x3 : Int) (x4 : Int) (x5 : Int) (z6 : PV) (y0 : Int) (s : Sg) : EV (d + 1) mX7_whoIsAt (82, [vr 13 0, vi x1, vi x2, vi x3, vi x4, vi x5, z6], [vi y0], s) = if x5 = 0 then (EV (d + 1) mX7_whoIsAt (111, [vr 13 0, vi x1, vi x2, vi x3, vi x4, vi x5, vi y0], [], s)) else (if y0 = 0 then (EV (d + 1) mX7_whoIsAt (111, [vr 13 0, vi x1, vi x2, vi x3, vi x4, vi x5, vi y0], [], s)) else (bI (RUN d mX1_tell [vr 1 0, vi 2, vi x4] s) (fun r1 s1 => if r1 = x1 then (some (some (vi x4), s1)) else (EV (d + 1) mX7_whoIsAt (111, [vr 13 0, vi x1, vi x2, vi x3, vi x4, vi x5, vi y0], [], s1))))) := x_so 84 [vr 13 0, vi x1, vi x2, vi x3, vi x4, vi x5, vi y0] dX7_whoIsAt_82 rfl (x_st 86 dX7_whoIsAt_84 rfl (x_br dX7_whoIsAt_86 (x_if (x_go 111 (rfl)) (x_go 89 (x_st 91 dX7_whoIsAt_89 rfl (x_br dX7_whoIsAt_91 (x_if (x_go 111 (rfl)) (x_go 94 (x_st 95 dX7_whoIsAt_94 rfl (x_st 98 dX7_whoIsAt_95 rfl (x_st 99 dX7_whoIsAt_98 rfl (x_st 101 dX7_whoIsAt_99 rfl (x_ci 104 [vr 13 0, vi x1, vi x2, vi x3, vi x4, vi x5, vi y0] [] dX7_whoIsAt_101 rfl (fun r1 s1 => x_st 105 dX7_whoIsAt_104 rfl (x_br dX7_whoIsAt_105 (x_if (x_go 108 (x_st 110 dX7_whoIsAt_108 rfl (x_ret dX7_whoIsAt_110 rfl))) (x_go 111 (rfl))))))))))))))))))
theorem qX7_whoIsAt_111 (d : Nat) (x1 : Int) (x2 : Int) (x3 : Int) (x4 : Int) (z5 : PV) (z6 : PV) (s : Sg) : EV d mX7_whoIsAt (111, [vr 13 0, vi x1, vi x2, vi x3, vi x4, z5, z6], [], s) = EV d mX7_whoIsAt (3, [vr 13 0, vi x1, vi x2, vi x3, vi (w32 (x4 + 1)), z5, z6], [], s) := x_so 114 [vr 13 0, vi x1, vi x2, vi x3, vi (w32 (x4 + 1)), z5, z6] dX7_whoIsAt_111 rfl (x_st 3 dX7_whoIsAt_114 rfl (rfl))
theorem dX7_inVain_0 : decode cX7_inVain 0 = .ok (.aload_n 0, 1) := by decide +kernel
theorem dX7_inVain_1 : decode cX7_inVain 1 = .ok (.getfield 63, 3) := by decide +kernel
theorem dX7_inVain_4 : decode cX7_inVain 4 = .ok (.ireturn, 1) := by decide +kernel
theorem qX7_inVain (d : Nat) (s : Sg) : RUN d mX7_inVain [vr 13 0] s = some (some (vi (s 13 0 13)), s) := x_run rfl (x_st 1 dX7_inVain_0 rfl (x_st 4 dX7_inVain_1 rfl (x_ret dX7_inVain_4 rfl)))
theorem dX7_lastOff_0 : decode cX7_lastOff 0 = .ok (.iconst (-1), 1) := by decide +kernel
theorem dX7_lastOff_1 : decode cX7_lastOff 1 = .ok (.istore_n 1, 1) := by decide +kernel
theorem dX7_lastOff_2 : decode cX7_lastOff 2 = .ok (.iconst 0, 1) := by decide +kernel
theorem dX7_lastOff_3 : decode cX7_lastOff 3 = .ok (.istore_n 2, 1) := by decide +kernel
theorem dX7_lastOff_4 : decode cX7_lastOff 4 = .ok (.iload_n 2, 1) := by decide +kernel
theorem dX7_lastOff_5 : decode cX7_lastOff 5 = .ok (.aload_n 0, 1) := by decide +kernel
theorem dX7_lastOff_6 : decode cX7_lastOff 6 = .ok (.getfield 33, 3) := by decide +kernel
theorem dX7_lastOff_9 : decode cX7_lastOff 9 = .ok (.invokevirtual 44, 3) := by decide +kernel
theorem dX7_lastOff_12 : decode cX7_lastOff 12 = .ok (.if_icmp .ge 32, 3) := by decide +kernel
theorem dX7_lastOff_15 : decode cX7_lastOff 15 = .ok (.aload_n 0, 1) := by decide +kernel
theorem dX7_lastOff_16 : decode cX7_lastOff 16 = .ok (.getfield 21, 3) := by decide +kernel
theorem dX7_lastOff_19 : decode cX7_lastOff 19 = .ok (.iload_n 2, 1) := by decide +kernel
theorem dX7_lastOff_20 : decode cX7_lastOff 20 = .ok (.iaload, 1) := by decide +kernel
theorem dX7_lastOff_21 : decode cX7_lastOff 21 = .ok (.iconst (-1), 1) := by decide +kernel
theorem dX7_lastOff_22 : decode cX7_lastOff 22 = .ok (.if_icmp .ne 5, 3) := by decide +kernel
theorem dX7_lastOff_25 : decode cX7_lastOff 25 = .ok (.iconst (-1), 1) := by decide +kernel
theorem dX7_lastOff_26 : decode cX7_lastOff 26 = .ok (.ireturn, 1) := by decide +kernel
theorem dX7_lastOff_27 : decode cX7_lastOff 27 = .ok (.iload_n 1, 1) := by decide +kernel
theorem dX7_lastOff_28 : decode cX7_lastOff 28 = .ok (.aload_n 0, 1) := by decide +kernel
theorem dX7_lastOff_29 : decode cX7_lastOff 29 = .ok (.getfield 21, 3) := by decide +kernel
theorem dX7_lastOff_32 : decode cX7_lastOff 32 = .ok (.iload_n 2, 1) := by decide +kernel
theorem dX7_lastOff_33 : decode cX7_lastOff 33 = .ok (.iaload, 1) := by decide +kernel
theorem dX7_lastOff_34 : decode cX7_lastOff 34 = .ok (.invokestatic 102, 3) := by decide +kernel
theorem dX7_lastOff_37 : decode cX7_lastOff 37 = .ok (.istore_n 1, 1) := by decide +kernel
theorem dX7_lastOff_38 : decode cX7_lastOff 38 = .ok (.iinc 2 1, 3) := by decide +kernel
theorem dX7_lastOff_41 : decode cX7_lastOff 41 = .ok (.goto (-37), 3) := by decide +kernel
theorem dX7_lastOff_44 : decode cX7_lastOff 44 = .ok (.iload_n 1, 1) := by decide +kernel
theorem dX7_lastOff_45 : decode cX7_lastOff 45 = .ok (.ireturn, 1) := by decide +kernel
theorem qX7_lastOff (d : Nat) (s : Sg) : RUN d mX7_lastOff [vr 13 0] s = EV d mX7_lastOff (4, [vr 13 0, vi (-1), vi 0], [], s) := x_run rfl (x_st 1 dX7_lastOff_0 rfl (x_so 2 [vr 13 0, vi (-1), UU] dX7_lastOff_1 rfl (x_st 3 dX7_lastOff_2 rfl (x_so 4 [vr 13 0, vi (-1), vi 0] dX7_lastOff_3 rfl (rfl)))))
theorem qX7_lastOff_4 (d : Nat) (x1 : Int) (x2 : Int) (s : Sg) : EV (d + 1) mX7_lastOff (4, [vr 13 0, vi x1, vi x2], [], s) = bI (RUN d mX1_size [vr 1 0] s) (fun r1 s1 => if x2 < r1 then (if inb x2 6 then (if (s1 17 0 (Int.toNat x2)) = (-1) then (some (some (vi (-1)), s1)) else (if inb x2 6 then (EV (d + 1) mX7_lastOff (4, [vr 13 0, vi (wmax x1 (s1 17 0 (Int.toNat x2))), vi (w32 (x2 + 1))], [], s1)) else none)) else none) else (some (some (vi x1), s1))) := x_st 5 dX7_lastOff_4 rfl (x_st 6 dX7_lastOff_5 rfl (x_st 9 dX7_lastOff_6 rfl (x_ci 12 [vr 13 0, vi x1, vi x2] [vi x2] dX7_lastOff_9 rfl (fun r1 s1 => x_br dX7_lastOff_12 (x_if (x_go 15 (x_st 16 dX7_lastOff_15 rfl (x_st 19 dX7_lastOff_16 rfl (x_st 20 dX7_lastOff_19 rfl (x_br dX7_lastOff_20 (x_if (x_go 21 (x_st 22 dX7_lastOff_21 rfl (x_br dX7_lastOff_22 (x_if (x_go 25 (x_st 26 dX7_lastOff_25 rfl (x_ret dX7_lastOff_26 rfl))) (x_go 27 (x_st 28 dX7_lastOff_27 rfl (x_st 29 dX7_lastOff_28 rfl (x_st 32 dX7_lastOff_29 rfl (x_st 33 dX7_lastOff_32 rfl (x_br dX7_lastOff_33 (x_if (x_go 34 (x_st 37 dX7_lastOff_34 rfl (x_so 38 [vr 13 0, vi (wmax x1 (s1 17 0 (Int.toNat x2))), vi x2] dX7_lastOff_37 rfl (x_so 41 [vr 13 0, vi (wmax x1 (s1 17 0 (Int.toNat x2))), vi (w32 (x2 + 1))] dX7_lastOff_38 rfl (x_st 4 dX7_lastOff_41 rfl (rfl)))))) x_no))))))))))) x_no)))))) (x_go 44 (x_st 45 dX7_lastOff_44 rfl (x_ret dX7_lastOff_45 rfl))))))))
theorem dX7_outOfOrder_0 : decode cX7_outOfOrder 0 = .ok (.iconst 0, 1) := by decide +kernel
theorem dX7_outOfOrder_1 : decode cX7_outOfOrder 1 = .ok (.istore_n 1, 1) := by decide +kernel
theorem dX7_outOfOrder_2 : decode cX7_outOfOrder 2 = .ok (.iconst 0, 1) := by decide +kernel
theorem dX7_outOfOrder_3 : decode cX7_outOfOrder 3 = .ok (.istore_n 2, 1) := by decide +kernel
theorem dX7_outOfOrder_4 : decode cX7_outOfOrder 4 = .ok (.iload_n 2, 1) := by decide +kernel
theorem dX7_outOfOrder_5 : decode cX7_outOfOrder 5 = .ok (.aload_n 0, 1) := by decide +kernel
theorem dX7_outOfOrder_6 : decode cX7_outOfOrder 6 = .ok (.getfield 33, 3) := by decide +kernel
theorem dX7_outOfOrder_9 : decode cX7_outOfOrder 9 = .ok (.invokevirtual 44, 3) := by decide +kernel
theorem dX7_outOfOrder_12 : decode cX7_outOfOrder 12 = .ok (.if_icmp .ge 120, 3) := by decide +kernel
theorem dX7_outOfOrder_15 : decode cX7_outOfOrder 15 = .ok (.iconst 0, 1) := by decide +kernel
theorem dX7_outOfOrder_16 : decode cX7_outOfOrder 16 = .ok (.istore_n 3, 1) := by decide +kernel
theorem dX7_outOfOrder_17 : decode cX7_outOfOrder 17 = .ok (.iload_n 3, 1) := by decide +kernel
theorem dX7_outOfOrder_18 : decode cX7_outOfOrder 18 = .ok (.aload_n 0, 1) := by decide +kernel
theorem dX7_outOfOrder_19 : decode cX7_outOfOrder 19 = .ok (.getfield 33, 3) := by decide +kernel
theorem dX7_outOfOrder_22 : decode cX7_outOfOrder 22 = .ok (.invokevirtual 44, 3) := by decide +kernel
theorem dX7_outOfOrder_25 : decode cX7_outOfOrder 25 = .ok (.if_icmp .ge 101, 3) := by decide +kernel
theorem dX7_outOfOrder_28 : decode cX7_outOfOrder 28 = .ok (.aload_n 0, 1) := by decide +kernel
theorem dX7_outOfOrder_29 : decode cX7_outOfOrder 29 = .ok (.getfield 33, 3) := by decide +kernel
theorem dX7_outOfOrder_32 : decode cX7_outOfOrder 32 = .ok (.iconst 2, 1) := by decide +kernel
theorem dX7_outOfOrder_33 : decode cX7_outOfOrder 33 = .ok (.iload_n 2, 1) := by decide +kernel
theorem dX7_outOfOrder_34 : decode cX7_outOfOrder 34 = .ok (.invokevirtual 50, 3) := by decide +kernel
theorem dX7_outOfOrder_37 : decode cX7_outOfOrder 37 = .ok (.aload_n 0, 1) := by decide +kernel
theorem dX7_outOfOrder_38 : decode cX7_outOfOrder 38 = .ok (.getfield 33, 3) := by decide +kernel
theorem dX7_outOfOrder_41 : decode cX7_outOfOrder 41 = .ok (.iconst 2, 1) := by decide +kernel
theorem dX7_outOfOrder_42 : decode cX7_outOfOrder 42 = .ok (.iload_n 3, 1) := by decide +kernel
theorem dX7_outOfOrder_43 : decode cX7_outOfOrder 43 = .ok (.invokevirtual 50, 3) := by decide +kernel
theorem dX7_outOfOrder_46 : decode cX7_outOfOrder 46 = .ok (.if_icmp .ne 7, 3) := by decide +kernel
theorem dX7_outOfOrder_49 : decode cX7_outOfOrder 49 = .ok (.iconst 1, 1) := by decide +kernel
theorem dX7_outOfOrder_50 : decode cX7_outOfOrder 50 = .ok (.goto 4, 3) := by decide +kernel
theorem dX7_outOfOrder_53 : decode cX7_outOfOrder 53 = .ok (.iconst 0, 1) := by decide +kernel
theorem dX7_outOfOrder_54 : decode cX7_outOfOrder 54 = .ok (.istore 4, 2) := by decide +kernel
theorem dX7_outOfOrder_56 : decode cX7_outOfOrder 56 = .ok (.aload_n 0, 1) := by decide +kernel
theorem dX7_outOfOrder_57 : decode cX7_outOfOrder 57 = .ok (.getfield 21, 3) := by decide +kernel
theorem dX7_outOfOrder_60 : decode cX7_outOfOrder 60 = .ok (.iload_n 2, 1) := by decide +kernel
theorem dX7_outOfOrder_61 : decode cX7_outOfOrder 61 = .ok (.iaload, 1) := by decide +kernel
theorem dX7_outOfOrder_62 : decode cX7_outOfOrder 62 = .ok (.iconst (-1), 1) := by decide +kernel
theorem dX7_outOfOrder_63 : decode cX7_outOfOrder 63 = .ok (.if_icmp .eq 17, 3) := by decide +kernel
theorem dX7_outOfOrder_66 : decode cX7_outOfOrder 66 = .ok (.aload_n 0, 1) := by decide +kernel
theorem dX7_outOfOrder_67 : decode cX7_outOfOrder 67 = .ok (.getfield 21, 3) := by decide +kernel
theorem dX7_outOfOrder_70 : decode cX7_outOfOrder 70 = .ok (.iload_n 3, 1) := by decide +kernel
theorem dX7_outOfOrder_71 : decode cX7_outOfOrder 71 = .ok (.iaload, 1) := by decide +kernel
theorem dX7_outOfOrder_72 : decode cX7_outOfOrder 72 = .ok (.iconst (-1), 1) := by decide +kernel
theorem dX7_outOfOrder_73 : decode cX7_outOfOrder 73 = .ok (.if_icmp .eq 7, 3) := by decide +kernel
theorem dX7_outOfOrder_76 : decode cX7_outOfOrder 76 = .ok (.iconst 1, 1) := by decide +kernel
theorem dX7_outOfOrder_77 : decode cX7_outOfOrder 77 = .ok (.goto 4, 3) := by decide +kernel
theorem dX7_outOfOrder_80 : decode cX7_outOfOrder 80 = .ok (.iconst 0, 1) := by decide +kernel
theorem dX7_outOfOrder_81 : decode cX7_outOfOrder 81 = .ok (.istore 5, 2) := by decide +kernel
theorem dX7_outOfOrder_83 : decode cX7_outOfOrder 83 = .ok (.iload 4, 2) := by decide +kernel
theorem dX7_outOfOrder_85 : decode cX7_outOfOrder 85 = .ok (.ifCond .eq 35, 3) := by decide +kernel
theorem dX7_outOfOrder_88 : decode cX7_outOfOrder 88 = .ok (.iload 5, 2) := by decide +kernel
theorem dX7_outOfOrder_90 : decode cX7_outOfOrder 90 = .ok (.ifCond .eq 30, 3) := by decide +kernel
theorem dX7_outOfOrder_93 : decode cX7_outOfOrder 93 = .ok (.aload_n 0, 1) := by decide +kernel
theorem dX7_outOfOrder_94 : decode cX7_outOfOrder 94 = .ok (.iload_n 2, 1) := by decide +kernel
theorem dX7_outOfOrder_95 : decode cX7_outOfOrder 95 = .ok (.iload_n 3, 1) := by decide +kernel
theorem dX7_outOfOrder_96 : decode cX7_outOfOrder 96 = .ok (.invokevirtual 107, 3) := by decide +kernel
theorem dX7_outOfOrder_99 : decode cX7_outOfOrder 99 = .ok (.ifCond .eq 21, 3) := by decide +kernel
theorem dX7_outOfOrder_102 : decode cX7_outOfOrder 102 = .ok (.aload_n 0, 1) := by decide +kernel
theorem dX7_outOfOrder_103 : decode cX7_outOfOrder 103 = .ok (.getfield 21, 3) := by decide +kernel
theorem dX7_outOfOrder_106 : decode cX7_outOfOrder 106 = .ok (.iload_n 2, 1) := by decide +kernel
theorem dX7_outOfOrder_107 : decode cX7_outOfOrder 107 = .ok (.iaload, 1) := by decide +kernel
theorem dX7_outOfOrder_108 : decode cX7_outOfOrder 108 = .ok (.aload_n 0, 1) := by decide +kernel
theorem dX7_outOfOrder_109 : decode cX7_outOfOrder 109 = .ok (.getfield 21, 3) := by decide +kernel
theorem dX7_outOfOrder_112 : decode cX7_outOfOrder 112 = .ok (.iload_n 3, 1) := by decide +kernel
theorem dX7_outOfOrder_113 : decode cX7_outOfOrder 113 = .ok (.iaload, 1) := by decide +kernel
theorem dX7_outOfOrder_114 : decode cX7_outOfOrder 114 = .ok (.if_icmp .le 6, 3) := by decide +kernel
theorem dX7_outOfOrder_117 : decode cX7_outOfOrder 117 = .ok (.iinc 1 1, 3) := by decide +kernel
theorem dX7_outOfOrder_120 : decode cX7_outOfOrder 120 = .ok (.iinc 3 1, 3) := by decide +kernel
theorem dX7_outOfOrder_123 : decode cX7_outOfOrder 123 = .ok (.goto (-106), 3) := by decide +kernel
theorem dX7_outOfOrder_126 : decode cX7_outOfOrder 126 = .ok (.iinc 2 1, 3) := by decide +kernel
theorem dX7_outOfOrder_129 : decode cX7_outOfOrder 129 = .ok (.goto (-125), 3) := by decide +kernel
theorem dX7_outOfOrder_132 : decode cX7_outOfOrder 132 = .ok (.iload_n 1, 1) := by decide +kernel
theorem dX7_outOfOrder_133 : decode cX7_outOfOrder 133 = .ok (.ireturn, 1) := by decide +kernel
theorem qX7_outOfOrder (d : Nat) (s : Sg) : RUN d mX7_outOfOrder [vr 13 0] s = EV d mX7_outOfOrder (4, [vr 13 0, vi 0, vi 0, UU, UU, UU], [], s) := x_run rfl (x_st 1 dX7_outOfOrder_0 rfl (x_so 2 [vr 13 0, vi 0, UU, UU, UU, UU] dX7_outOfOrder_1 rfl (x_st 3 dX7_outOfOrder_2 rfl (x_so 4 [vr 13 0, vi 0, vi 0, UU, UU, UU] dX7_outOfOrder_3 rfl (rfl)))))
theorem qX7_outOfOrder_4 (d : Nat) (x1 : Int) (x2 : Int) (z3 : PV) (z4 : PV) (z5 : PV) (s : Sg) : EV (d + 1) mX7_outOfOrder (4, [vr 13 0, vi x1, vi x2, z3, z4, z5], [], s) = bI (RUN d mX1_size [vr 1 0] s) (fun r1 s1 => if x2 < r1 then (EV (d + 1) mX7_outOfOrder (17, [vr 13 0, vi x1, vi x2, vi 0, z4, z5], [], s1)) else (some (some (vi x1), s1))) := x_st 5 dX7_outOfOrder_4 rfl (x_st 6 dX7_outOfOrder_5 rfl (x_st 9 dX7_outOfOrder_6 rfl (x_ci 12 [vr 13 0, vi x1, vi x2, z3, z4, z5] [vi x2] dX7_outOfOrder_9 rfl (fun r1 s1 => x_br dX7_outOfOrder_12 (x_if (x_go 15 (x_st 16 dX7_outOfOrder_15 rfl (x_so 17 [vr 13 0, vi x1, vi x2, vi 0, z4, z5] dX7_outOfOrder_16 rfl (rfl)))) (x_go 132 (x_st 133 dX7_outOfOrder_132 rfl (x_ret dX7_outOfOrder_133 rfl))))))))
theorem qX7_outOfOrder_17 (d : Nat) (x1 : Int) (x2 : Int) (x3 : Int) (z4 : PV) (z5 : PV) (s : Sg) : EV (d + 1) mX7_outOfOrder (17, [vr 13 0, vi x1, vi x2, vi x3, z4, z5], [], s) = bI (RUN d mX1_size [vr 1 0] s) (fun r1 s1 => if x3 < r1 then (bI (RUN d mX1_tell [vr 1 0, vi 2, vi x2] s1) (fun r2 s2 => bI (RUN d mX1_tell [vr 1 0, vi 2, vi x3] s2) (fun r3 s3 => if r2 = r3 then (EV (d + 1) mX7_outOfOrder (54, [vr 13 0, vi x1, vi x2, vi x3, z4, z5], [vi 1], s3)) else (EV (d + 1) mX7_outOfOrder (54, [vr 13 0, vi x1, vi x2, vi x3, z4, z5], [vi 0], s3))))) else (EV (d + 1) mX7_outOfOrder (4, [vr 13 0, vi x1, vi (w32 (x2 + 1)), vi x3, z4, z5], [], s1))) := x_st 18 dX7_outOfOrder_17 rfl (x_st 19 dX7_outOfOrder_18 rfl (x_st 22 dX7_outOfOrder_19 rfl (x_ci 25 [vr 13 0, vi x1, vi x2, vi x3, z4, z5] [vi x3] dX7_outOfOrder_22 rfl (fun r1 s1 => x_br dX7_outOfOrder_25 (x_if (x_go 28 (x_st 29 dX7_outOfOrder_28 rfl (x_st 32 dX7_outOfOrder_29 rfl (x_st 33 dX7_outOfOrder_32 rfl (x_st 34 dX7_outOfOrder_33 rfl (x_ci 37 [vr 13 0, vi x1, vi x2, vi x3, z4, z5] [] dX7_outOfOrder_34 rfl (fun r2 s2 => x_st 38 dX7_outOfOrder_37 rfl (x_st 41 dX7_outOfOrder_38 rfl (x_st 42 dX7_outOfOrder_41 rfl (x_st 43 dX7_outOfOrder_42 rfl (x_ci 46 [vr 13 0, vi x1, vi x2, vi x3, z4, z5] [vi r2] dX7_outOfOrder_43 rfl (fun r3 s3 => x_br dX7_outOfOrder_46 (x_if (x_go 49 (x_st 50 dX7_outOfOrder_49 rfl (x_st 54 dX7_outOfOrder_50 rfl (rfl)))) (x_go 53 (x_st 54 dX7_outOfOrder_53 rfl (rfl)))))))))))))))) (x_go 126 (x_so 129 [vr 13 0, vi x1, vi (w32 (x2 + 1)), vi x3, z4, z5] dX7_outOfOrder_126 rfl (x_st 4 dX7_outOfOrder_129 rfl (rfl)))))))))
theorem qX7_outOfOrder_54 (d : Nat) (x1 : Int) (x2 : Int) (x3 : Int) (z4 : PV) (z5 : PV) (y0 : Int) (s : Sg) : EV d mX7_outOfOrder (54, [vr 13 0, vi x1, vi x2, vi x3, z4, z5], [vi y0], s) = if inb x2 6 then (if (s 17 0 (Int.toNat x2)) = (-1) then (EV d mX7_outOfOrder (80, [vr 13 0, vi x1, vi x2, vi x3, vi y0, z5], [], s)) else (if inb x3 6 then (if (s 17 0 (Int.toNat x3)) = (-1) then (EV d mX7_outOfOrder (80, [vr 13 0, vi x1, vi x2, vi x3, vi y0, z5], [], s)) else (EV d mX7_outOfOrder (81, [vr 13 0, vi x1, vi x2, vi x3, vi y0, z5], [vi 1], s))) else none)) else none := x_so 56 [vr 13 0, vi x1, vi x2, vi x3, vi y0, z5] dX7_outOfOrder_54 rfl (x_st 57 dX7_outOfOrder_56 rfl (x_st 60 dX7_outOfOrder_57 rfl (x_st 61 dX7_outOfOrder_60 rfl (x_br dX7_outOfOrder_61 (x_if (x_go 62 (x_st 63 dX7_outOfOrder_62 rfl (x_br dX7_outOfOrder_63 (x_if (x_go 80 (rfl)) (x_go 66 (x_st 67 dX7_outOfOrder_66 rfl (x_st 70 dX7_outOfOrder_67 rfl (x_st 71 dX7_outOfOrder_70 rfl (x_br dX7_outOfOrder_71 (x_if (x_go 72 (x_st 73 dX7_outOfOrder_72 rfl (x_br dX7_outOfOrder_73 (x_if (x_go 80 (rfl)) (x_go 76 (x_st 77 dX7_outOfOrder_76 rfl (x_st 81 dX7_outOfOrder_77 rfl (rfl)))))))) x_no)))))))))) x_no)))))
theorem qX7_outOfOrder_80 (d : Nat) (x1 : Int) (x2 : Int) (x3 : Int) (x4 : Int) (z5 : PV) (s : Sg) : EV d mX7_outOfOrder (80, [vr 13 0, vi x1, vi x2, vi x3, vi x4, z5], [], s) = EV d mX7_outOfOrder (81, [vr 13 0, vi x1, vi x2, vi x3, vi x4, z5], [vi 0], s) := x_st 81 dX7_outOfOrder_80 rfl (rfl)
theorem qX7_outOfOrder_81 (d : Nat) (x1 : Int) (x2 : Int) (x3 : Int) (x4 : Int) (z5 : PV) (y0 : Int) (s : Sg) : EV (d + 1) mX7_outOfOrder (81, [vr 13 0, vi x1, vi x2, vi x3, vi x4, z5], [vi y0], s) = if x4 = 0 then (EV (d + 1) mX7_outOfOrder (120, [vr 13 0, vi x1, vi x2, vi x3, vi x4, vi y0], [], s)) else (if y0 = 0 then (EV (d + 1) mX7_outOfOrder (120, [vr 13 0, vi x1, vi x2, vi x3, vi x4, vi y0], [], s)) else (bI (RUN d mX7_comesBefore [vr 13 0, vi x2, vi x3] s) (fun r1 s1 => if r1 = 0 then (EV (d + 1) mX7_outOfOrder (120, [vr 13 0, vi x1, vi x2, vi x3, vi x4, vi y0], [], s1)) else (if inb x2 6 then (if inb x3 6 then (if (s1 17 0 (Int.toNat x3)) < (s1 17 0 (Int.toNat x2)) then (EV (d + 1) mX7_outOfOrder (120, [vr 13 0, vi (w32 (x1 + 1)), vi x2, vi x3, vi x4, vi y0], [], s1)) else (EV (d + 1) mX7_outOfOrder (120, [vr 13 0, vi x1, vi x2, vi x3, vi x4, vi y0], [], s1))) else none) else none)))) := x_so 83 [vr 13 0, vi x1, vi x2, vi x3, vi x4, vi y0] dX7_outOfOrder_81 rfl (x_st 85 dX7_outOfOrder_83 rfl (x_br dX7_outOfOrder_85 (x_if (x_go 120 (rfl)) (x_go 88 (x_st 90 dX7_outOfOrder_88 rfl (x_br dX7_outOfOrder_90 (x_if (x_go 120 (rfl)) (x_go 93 (x_st 94 dX7_outOfOrder_93 rfl (x_st 95 dX7_outOfOrder_94 rfl (x_st 96 dX7_outOfOrder_95 rfl (x_ci 99 [vr 13 0, vi x1, vi x2, vi x3, vi x4, vi y0] [] dX7_outOfOrder_96 rfl (fun r1 s1 => x_br dX7_outOfOrder_99 (x_if (x_go 120 (rfl)) (x_go 102 (x_st 103 dX7_outOfOrder_102 rfl (x_st 106 dX7_outOfOrder_103 rfl (x_st 107 dX7_outOfOrder_106 rfl (x_br dX7_outOfOrder_107 (x_if (x_go 108 (x_st 109 dX7_outOfOrder_108 rfl (x_st 112 dX7_outOfOrder_109 rfl (x_st 113 dX7_outOfOrder_112 rfl (x_br dX7_outOfOrder_113 (x_if (x_go 114 (x_br dX7_outOfOrder_114 (x_if (x_go 117 (x_so 120 [vr 13 0, vi (w32 (x1 + 1)), vi x2, vi x3, vi x4, vi y0] dX7_outOfOrder_117 rfl (rfl))) (x_go 120 (rfl))))) x_no)))))) x_no))))))))))))))))))))
theorem qX7_outOfOrder_120 (d : Nat) (x1 : Int) (x2 : Int) (x3 : Int) (z4 : PV) (z5 : PV) (s : Sg) : EV d mX7_outOfOrder (120, [vr 13 0, vi x1, vi x2, vi x3, z4, z5], [], s) = EV d mX7_outOfOrder (17, [vr 13 0, vi x1, vi x2, vi (w32 (x3 + 1)), z4, z5], [], s) := x_so 123 [vr 13 0, vi x1, vi x2, vi (w32 (x3 + 1)), z4, z5] dX7_outOfOrder_120 rfl (x_st 17 dX7_outOfOrder_123 rfl (rfl))
theorem dX7_sendAllForward_0 : decode cX7_sendAllForward 0 = .ok (.aload_n 0, 1) := by decide +kernel
theorem dX7_sendAllForward_1 : decode cX7_sendAllForward 1 = .ok (.iload_n 1, 1) := by decide +kernel
theorem dX7_sendAllForward_2 : decode cX7_sendAllForward 2 = .ok (.putfield 59, 3) := by decide +kernel
theorem dX7_sendAllForward_5 : decode cX7_sendAllForward 5 = .ok (.return_, 1) := by decide +kernel
theorem qX7_sendAllForward (d : Nat) (x1 : Int) (s : Sg) : RUN d mX7_sendAllForward [vr 13 0, vi x1] s = if 0 ≤ x1 ∧ x1 ≤ 1 then (some (none, (up s 13 0 14 x1))) else none := x_run rfl (x_st 1 dX7_sendAllForward_0 rfl (x_st 2 dX7_sendAllForward_1 rfl (x_br dX7_sendAllForward_2 (x_if (x_go 5 (x_ret dX7_sendAllForward_5 rfl)) x_no))))
theorem dX7_spreadBySeed_0 : decode cX7_spreadBySeed 0 = .ok (.aload_n 0, 1) := by decide +kernel
theorem dX7_spreadBySeed_1 : decode cX7_spreadBySeed 1 = .ok (.invokevirtual 41, 3) := by decide +kernel
theorem dX7_spreadBySeed_4 : decode cX7_spreadBySeed 4 = .ok (.iload_n 1, 1) := by decide +kernel
theorem dX7_spreadBySeed_5 : decode cX7_spreadBySeed 5 = .ok (.istore_n 2, 1) := by decide +kernel
theorem dX7_spreadBySeed_6 : decode cX7_spreadBySeed 6 = .ok (.iconst 0, 1) := by decide +kernel
theorem dX7_spreadBySeed_7 : decode cX7_spreadBySeed 7 = .ok (.istore_n 3, 1) := by decide +kernel
theorem dX7_spreadBySeed_8 : decode cX7_spreadBySeed 8 = .ok (.iload_n 3, 1) := by decide +kernel
theorem dX7_spreadBySeed_9 : decode cX7_spreadBySeed 9 = .ok (.aload_n 0, 1) := by decide +kernel
theorem dX7_spreadBySeed_10 : decode cX7_spreadBySeed 10 = .ok (.getfield 33, 3) := by decide +kernel
theorem dX7_spreadBySeed_13 : decode cX7_spreadBySeed 13 = .ok (.invokevirtual 44, 3) := by decide +kernel
theorem dX7_spreadBySeed_16 : decode cX7_spreadBySeed 16 = .ok (.if_icmp .ge 29, 3) := by decide +kernel
theorem dX7_spreadBySeed_19 : decode cX7_spreadBySeed 19 = .ok (.iload_n 2, 1) := by decide +kernel
theorem dX7_spreadBySeed_20 : decode cX7_spreadBySeed 20 = .ok (.ldc 58, 2) := by decide +kernel
theorem dX7_spreadBySeed_22 : decode cX7_spreadBySeed 22 = .ok (.imul, 1) := by decide +kernel
theorem dX7_spreadBySeed_23 : decode cX7_spreadBySeed 23 = .ok (.sipush 12345, 3) := by decide +kernel
theorem dX7_spreadBySeed_26 : decode cX7_spreadBySeed 26 = .ok (.iadd, 1) := by decide +kernel
theorem dX7_spreadBySeed_27 : decode cX7_spreadBySeed 27 = .ok (.istore_n 2, 1) := by decide +kernel
theorem dX7_spreadBySeed_28 : decode cX7_spreadBySeed 28 = .ok (.aload_n 0, 1) := by decide +kernel
theorem dX7_spreadBySeed_29 : decode cX7_spreadBySeed 29 = .ok (.iload_n 3, 1) := by decide +kernel
theorem dX7_spreadBySeed_30 : decode cX7_spreadBySeed 30 = .ok (.iload_n 2, 1) := by decide +kernel
theorem dX7_spreadBySeed_31 : decode cX7_spreadBySeed 31 = .ok (.bipush 9, 2) := by decide +kernel
theorem dX7_spreadBySeed_33 : decode cX7_spreadBySeed 33 = .ok (.iushr, 1) := by decide +kernel
theorem dX7_spreadBySeed_34 : decode cX7_spreadBySeed 34 = .ok (.iconst 4, 1) := by decide +kernel
theorem dX7_spreadBySeed_35 : decode cX7_spreadBySeed 35 = .ok (.irem, 1) := by decide +kernel
theorem dX7_spreadBySeed_36 : decode cX7_spreadBySeed 36 = .ok (.invokevirtual 54, 3) := by decide +kernel
theorem dX7_spreadBySeed_39 : decode cX7_spreadBySeed 39 = .ok (.iinc 3 1, 3) := by decide +kernel
theorem dX7_spreadBySeed_42 : decode cX7_spreadBySeed 42 = .ok (.goto (-34), 3) := by decide +kernel
theorem dX7_spreadBySeed_45 : decode cX7_spreadBySeed 45 = .ok (.return_, 1) := by decide +kernel
theorem qX7_spreadBySeed (d : Nat) (x1 : Int) (s : Sg) : RUN (d + 1) mX7_spreadBySeed [vr 13 0, vi x1] s = bV (RUN d mX7_clearLanes [vr 13 0] s) (fun s1 => EV (d + 1) mX7_spreadBySeed (8, [vr 13 0, vi x1, vi x1, vi 0], [], s1)) := x_run rfl (x_st 1 dX7_spreadBySeed_0 rfl (x_cv 4 [vr 13 0, vi x1, UU, UU] [] dX7_spreadBySeed_1 rfl (fun s1 => x_st 5 dX7_spreadBySeed_4 rfl (x_so 6 [vr 13 0, vi x1, vi x1, UU] dX7_spreadBySeed_5 rfl (x_st 7 dX7_spreadBySeed_6 rfl (x_so 8 [vr 13 0, vi x1, vi x1, vi 0] dX7_spreadBySeed_7 rfl (rfl)))))))
theorem qX7_spreadBySeed_8 (d : Nat) (z1 : PV) (x2 : Int) (x3 : Int) (s : Sg) : EV (d + 1) mX7_spreadBySeed (8, [vr 13 0, z1, vi x2, vi x3], [], s) = bI (RUN d mX1_size [vr 1 0] s) (fun r1 s1 => if x3 < r1 then (bV (RUN d mX7_join [vr 13 0, vi x3, vi (wrem (wush (w32 ((w32 (x2 * 1103515245)) + 12345)) 9) 4)] s1) (fun s2 => EV (d + 1) mX7_spreadBySeed (8, [vr 13 0, z1, vi (w32 ((w32 (x2 * 1103515245)) + 12345)), vi (w32 (x3 + 1))], [], s2))) else (some (none, s1))) := x_st 9 dX7_spreadBySeed_8 rfl (x_st 10 dX7_spreadBySeed_9 rfl (x_st 13 dX7_spreadBySeed_10 rfl (x_ci 16 [vr 13 0, z1, vi x2, vi x3] [vi x3] dX7_spreadBySeed_13 rfl (fun r1 s1 => x_br dX7_spreadBySeed_16 (x_if (x_go 19 (x_st 20 dX7_spreadBySeed_19 rfl (x_st 22 dX7_spreadBySeed_20 rfl (x_st 23 dX7_spreadBySeed_22 rfl (x_st 26 dX7_spreadBySeed_23 rfl (x_st 27 dX7_spreadBySeed_26 rfl (x_so 28 [vr 13 0, z1, vi (w32 ((w32 (x2 * 1103515245)) + 12345)), vi x3] dX7_spreadBySeed_27 rfl (x_st 29 dX7_spreadBySeed_28 rfl (x_st 30 dX7_spreadBySeed_29 rfl (x_st 31 dX7_spreadBySeed_30 rfl (x_st 33 dX7_spreadBySeed_31 rfl (x_st 34 dX7_spreadBySeed_33 rfl (x_st 35 dX7_spreadBySeed_34 rfl (x_st 36 dX7_spreadBySeed_35 rfl (x_cv 39 [vr 13 0, z1, vi (w32 ((w32 (x2 * 1103515245)) + 12345)), vi x3] [] dX7_spreadBySeed_36 rfl (fun s2 => x_so 42 [vr 13 0, z1, vi (w32 ((w32 (x2 * 1103515245)) + 12345)), vi (w32 (x3 + 1))] dX7_spreadBySeed_39 rfl (x_st 8 dX7_spreadBySeed_42 rfl (rfl)))))))))))))))))) (x_go 45 (x_ret dX7_spreadBySeed_45 rfl)))))))
theorem dX7_within_0 : decode cX7_within 0 = .ok (.iconst 0, 1) := by decide +kernel
theorem dX7_within_1 : decode cX7_within 1 = .ok (.iload_n 0, 1) := by decide +kernel
theorem dX7_within_2 : decode cX7_within 2 = .ok (.iload_n 1, 1) := by decide +kernel
theorem dX7_within_3 : decode cX7_within 3 = .ok (.invokestatic 156, 3) := by decide +kernel
theorem dX7_within_6 : decode cX7_within 6 = .ok (.invokestatic 102, 3) := by decide +kernel
theorem dX7_within_9 : decode cX7_within 9 = .ok (.ireturn, 1) := by decide +kernel
theorem qX7_within (d : Nat) (x0 : Int) (x1 : Int) (s : Sg) : RUN d mX7_within [vi x0, vi x1] s = some (some (vi (wmax 0 (wmin x0 x1))), s) := x_run rfl (x_st 1 dX7_within_0 rfl (x_st 2 dX7_within_1 rfl (x_st 3 dX7_within_2 rfl (x_st 6 dX7_within_3 rfl (x_st 9 dX7_within_6 rfl (x_ret dX7_within_9 rfl))))))
theorem dX7_clearLanes_0 : decode cX7_clearLanes 0 = .ok (.iconst 0, 1) := by decide +kernel
theorem dX7_clearLanes_1 : decode cX7_clearLanes 1 = .ok (.istore_n 1, 1) := by decide +kernel
theorem dX7_clearLanes_2 : decode cX7_clearLanes 2 = .ok (.iload_n 1, 1) := by decide +kernel
theorem dX7_clearLanes_3 : decode cX7_clearLanes 3 = .ok (.iconst 4, 1) := by decide +kernel
theorem dX7_clearLanes_4 : decode cX7_clearLanes 4 = .ok (.if_icmp .ge 16, 3) := by decide +kernel
theorem dX7_clearLanes_7 : decode cX7_clearLanes 7 = .ok (.aload_n 0, 1) := by decide +kernel
theorem dX7_clearLanes_8 : decode cX7_clearLanes 8 = .ok (.getfield 9, 3) := by decide +kernel
theorem dX7_clearLanes_11 : decode cX7_clearLanes 11 = .ok (.iload_n 1, 1) := by decide +kernel
theorem dX7_clearLanes_12 : decode cX7_clearLanes 12 = .ok (.iconst 0, 1) := by decide +kernel
theorem dX7_clearLanes_13 : decode cX7_clearLanes 13 = .ok (.iastore, 1) := by decide +kernel
theorem dX7_clearLanes_14 : decode cX7_clearLanes 14 = .ok (.iinc 1 1, 3) := by decide +kernel
theorem dX7_clearLanes_17 : decode cX7_clearLanes 17 = .ok (.goto (-15), 3) := by decide +kernel
theorem dX7_clearLanes_20 : decode cX7_clearLanes 20 = .ok (.return_, 1) := by decide +kernel
theorem qX7_clearLanes (d : Nat) (s : Sg) : RUN d mX7_clearLanes [vr 13 0] s = EV d mX7_clearLanes (2, [vr 13 0, vi 0], [], s) := x_run rfl (x_st 1 dX7_clearLanes_0 rfl (x_so 2 [vr 13 0, vi 0] dX7_clearLanes_1 rfl (rfl)))
theorem qX7_clearLanes_2 (d : Nat) (x1 : Int) (s : Sg) : EV d mX7_clearLanes (2, [vr 13 0, vi x1], [], s) = if x1 < 4 then (if inb x1 4 then (EV d mX7_clearLanes (2, [vr 13 0, vi (w32 (x1 + 1))], [], (up s 14 0 (Int.toNat x1) 0))) else none) else (some (none, s)) := x_st 3 dX7_clearLanes_2 rfl (x_st 4 dX7_clearLanes_3 rfl (x_br dX7_clearLanes_4 (x_if (x_go 7 (x_st 8 dX7_clearLanes_7 rfl (x_st 11 dX7_clearLanes_8 rfl (x_st 12 dX7_clearLanes_11 rfl (x_st 13 dX7_clearLanes_12 rfl (x_br dX7_clearLanes_13 (x_if (x_go 14 (x_so 17 [vr 13 0, vi (w32 (x1 + 1))] dX7_clearLanes_14 rfl (x_st 2 dX7_clearLanes_17 rfl (rfl)))) x_no))))))) (x_go 20 (x_ret dX7_clearLanes_20 rfl)))))
theorem dX7_join_0 : decode cX7_join 0 = .ok (.iload_n 2, 1) := by decide +kernel
theorem dX7_join_1 : decode cX7_join 1 = .ok (.ifCond .lt 20, 3) := by decide +kernel
theorem dX7_join_4 : decode cX7_join 4 = .ok (.iload_n 2, 1) := by decide +kernel
theorem dX7_join_5 : decode cX7_join 5 = .ok (.iconst 4, 1) := by decide +kernel
theorem dX7_join_6 : decode cX7_join 6 = .ok (.if_icmp .ge 15, 3) := by decide +kernel
theorem dX7_join_9 : decode cX7_join 9 = .ok (.aload_n 0, 1) := by decide +kernel
theorem dX7_join_10 : decode cX7_join 10 = .ok (.getfield 9, 3) := by decide +kernel
theorem dX7_join_13 : decode cX7_join 13 = .ok (.iload_n 2, 1) := by decide +kernel
theorem dX7_join_14 : decode cX7_join 14 = .ok (.dup2, 1) := by decide +kernel
theorem dX7_join_15 : decode cX7_join 15 = .ok (.iaload, 1) := by decide +kernel
theorem dX7_join_16 : decode cX7_join 16 = .ok (.iconst 1, 1) := by decide +kernel
theorem dX7_join_17 : decode cX7_join 17 = .ok (.iload_n 1, 1) := by decide +kernel
theorem dX7_join_18 : decode cX7_join 18 = .ok (.ishl, 1) := by decide +kernel
theorem dX7_join_19 : decode cX7_join 19 = .ok (.ior, 1) := by decide +kernel
theorem dX7_join_20 : decode cX7_join 20 = .ok (.iastore, 1) := by decide +kernel
theorem dX7_join_21 : decode cX7_join 21 = .ok (.return_, 1) := by decide +kernel
theorem qX7_join (d : Nat) (x1 : Int) (x2 : Int) (s : Sg) : RUN d mX7_join [vr 13 0, vi x1, vi x2] s = if x2 < 0 then (some (none, s)) else (if x2 < 4 then (if inb x2 4 then (if inb x2 4 then (some (none, (up s 14 0 (Int.toNat x2) (wor (s 14 0 (Int.toNat x2)) (wshl 1 x1))))) else none) else none) else (some (none, s))) := x_run rfl (x_st 1 dX7_join_0 rfl (x_br dX7_join_1 (x_if (x_go 21 (x_ret dX7_join_21 rfl)) (x_go 4 (x_st 5 dX7_join_4 rfl (x_st 6 dX7_join_5 rfl (x_br dX7_join_6 (x_if (x_go 9 (x_st 10 dX7_join_9 rfl (x_st 13 dX7_join_10 rfl (x_st 14 dX7_join_13 rfl (x_st 15 dX7_join_14 rfl (x_br dX7_join_15 (x_if (x_go 16 (x_st 17 dX7_join_16 rfl (x_st 18 dX7_join_17 rfl (x_st 19 dX7_join_18 rfl (x_st 20 dX7_join_19 rfl (x_br dX7_join_20 (x_if (x_go 21 (x_ret dX7_join_21 rfl)) x_no))))))) x_no))))))) (x_go 21 (x_ret dX7_join_21 rfl))))))))))
theorem dX7_playLane_0 : decode cX7_playLane 0 = .ok (.aload_n 0, 1) := by decide +kernel
theorem dX7_playLane_1 : decode cX7_playLane 1 = .ok (.iconst (-1), 1) := by decide +kernel
theorem dX7_playLane_2 : decode cX7_playLane 2 = .ok (.putfield 70, 3) := by decide +kernel
theorem dX7_playLane_5 : decode cX7_playLane 5 = .ok (.aload_n 0, 1) := by decide +kernel
theorem dX7_playLane_6 : decode cX7_playLane 6 = .ok (.iconst (-1), 1) := by decide +kernel
theorem dX7_playLane_7 : decode cX7_playLane 7 = .ok (.putfield 73, 3) := by decide +kernel
theorem dX7_playLane_10 : decode cX7_playLane 10 = .ok (.aload_n 0, 1) := by decide +kernel
theorem dX7_playLane_11 : decode cX7_playLane 11 = .ok (.iload_n 1, 1) := by decide +kernel
theorem dX7_playLane_12 : decode cX7_playLane 12 = .ok (.iload_n 2, 1) := by decide +kernel
theorem dX7_playLane_13 : decode cX7_playLane 13 = .ok (.invokevirtual 76, 3) := by decide +kernel
theorem dX7_playLane_16 : decode cX7_playLane 16 = .ok (.iconst 0, 1) := by decide +kernel
theorem dX7_playLane_17 : decode cX7_playLane 17 = .ok (.istore_n 3, 1) := by decide +kernel
theorem dX7_playLane_18 : decode cX7_playLane 18 = .ok (.iload_n 3, 1) := by decide +kernel
theorem dX7_playLane_19 : decode cX7_playLane 19 = .ok (.sipush 200, 3) := by decide +kernel
theorem dX7_playLane_22 : decode cX7_playLane 22 = .ok (.if_icmp .ge 76, 3) := by decide +kernel
theorem dX7_playLane_25 : decode cX7_playLane 25 = .ok (.aload_n 0, 1) := by decide +kernel
theorem dX7_playLane_26 : decode cX7_playLane 26 = .ok (.iload_n 3, 1) := by decide +kernel
theorem dX7_playLane_27 : decode cX7_playLane 27 = .ok (.invokevirtual 79, 3) := by decide +kernel
theorem dX7_playLane_30 : decode cX7_playLane 30 = .ok (.aload_n 0, 1) := by decide +kernel
theorem dX7_playLane_31 : decode cX7_playLane 31 = .ok (.iload_n 1, 1) := by decide +kernel
theorem dX7_playLane_32 : decode cX7_playLane 32 = .ok (.iload_n 3, 1) := by decide +kernel
theorem dX7_playLane_33 : decode cX7_playLane 33 = .ok (.invokevirtual 83, 3) := by decide +kernel
theorem dX7_playLane_36 : decode cX7_playLane 36 = .ok (.aload_n 0, 1) := by decide +kernel
theorem dX7_playLane_37 : decode cX7_playLane 37 = .ok (.getfield 73, 3) := by decide +kernel
theorem dX7_playLane_40 : decode cX7_playLane 40 = .ok (.iconst (-1), 1) := by decide +kernel
theorem dX7_playLane_41 : decode cX7_playLane 41 = .ok (.if_icmp .eq 21, 3) := by decide +kernel
theorem dX7_playLane_44 : decode cX7_playLane 44 = .ok (.aload_n 0, 1) := by decide +kernel
theorem dX7_playLane_45 : decode cX7_playLane 45 = .ok (.getfield 70, 3) := by decide +kernel
theorem dX7_playLane_48 : decode cX7_playLane 48 = .ok (.iconst (-1), 1) := by decide +kernel
theorem dX7_playLane_49 : decode cX7_playLane 49 = .ok (.if_icmp .ne 13, 3) := by decide +kernel
theorem dX7_playLane_52 : decode cX7_playLane 52 = .ok (.aload_n 0, 1) := by decide +kernel
theorem dX7_playLane_53 : decode cX7_playLane 53 = .ok (.dup, 1) := by decide +kernel
theorem dX7_playLane_54 : decode cX7_playLane 54 = .ok (.getfield 63, 3) := by decide +kernel
theorem dX7_playLane_57 : decode cX7_playLane 57 = .ok (.iconst 1, 1) := by decide +kernel
theorem dX7_playLane_58 : decode cX7_playLane 58 = .ok (.iadd, 1) := by decide +kernel
theorem dX7_playLane_59 : decode cX7_playLane 59 = .ok (.putfield 63, 3) := by decide +kernel
theorem dX7_playLane_62 : decode cX7_playLane 62 = .ok (.aload_n 0, 1) := by decide +kernel
theorem dX7_playLane_63 : decode cX7_playLane 63 = .ok (.getfield 73, 3) := by decide +kernel
theorem dX7_playLane_66 : decode cX7_playLane 66 = .ok (.iconst (-1), 1) := by decide +kernel
theorem dX7_playLane_67 : decode cX7_playLane 67 = .ok (.if_icmp .ne 25, 3) := by decide +kernel
theorem dX7_playLane_70 : decode cX7_playLane 70 = .ok (.aload_n 0, 1) := by decide +kernel
theorem dX7_playLane_71 : decode cX7_playLane 71 = .ok (.getfield 70, 3) := by decide +kernel
theorem dX7_playLane_74 : decode cX7_playLane 74 = .ok (.iconst (-1), 1) := by decide +kernel
theorem dX7_playLane_75 : decode cX7_playLane 75 = .ok (.if_icmp .ne 17, 3) := by decide +kernel
theorem dX7_playLane_78 : decode cX7_playLane 78 = .ok (.aload_n 0, 1) := by decide +kernel
theorem dX7_playLane_79 : decode cX7_playLane 79 = .ok (.getfield 86, 3) := by decide +kernel
theorem dX7_playLane_82 : decode cX7_playLane 82 = .ok (.aload_n 0, 1) := by decide +kernel
theorem dX7_playLane_83 : decode cX7_playLane 83 = .ok (.getfield 89, 3) := by decide +kernel
theorem dX7_playLane_86 : decode cX7_playLane 86 = .ok (.if_icmp .ne 6, 3) := by decide +kernel
theorem dX7_playLane_89 : decode cX7_playLane 89 = .ok (.goto 9, 3) := by decide +kernel
theorem dX7_playLane_92 : decode cX7_playLane 92 = .ok (.iinc 3 1, 3) := by decide +kernel
theorem dX7_playLane_95 : decode cX7_playLane 95 = .ok (.goto (-77), 3) := by decide +kernel
theorem dX7_playLane_98 : decode cX7_playLane 98 = .ok (.aload_n 0, 1) := by decide +kernel
theorem dX7_playLane_99 : decode cX7_playLane 99 = .ok (.iload_n 1, 1) := by decide +kernel
theorem dX7_playLane_100 : decode cX7_playLane 100 = .ok (.iload_n 2, 1) := by decide +kernel
theorem dX7_playLane_101 : decode cX7_playLane 101 = .ok (.invokevirtual 92, 3) := by decide +kernel
theorem dX7_playLane_104 : decode cX7_playLane 104 = .ok (.ireturn, 1) := by decide +kernel
theorem qX7_playLane (d : Nat) (x1 : Int) (x2 : Int) (s : Sg) : RUN (d + 1) mX7_playLane [vr 13 0, vi x1, vi x2] s = bV (RUN d mX7_lineUp [vr 13 0, vi x1, vi x2] (up (up s 13 0 11 (-1)) 13 0 12 (-1))) (fun s1 => EV (d + 1) mX7_playLane (18, [vr 13 0, vi x1, vi x2, vi 0], [], s1)) := x_run rfl (x_st 1 dX7_playLane_0 rfl (x_st 2 dX7_playLane_1 rfl (x_st 5 dX7_playLane_2 rfl (x_st 6 dX7_playLane_5 rfl (x_st 7 dX7_playLane_6 rfl (x_st 10 dX7_playLane_7 rfl (x_st 11 dX7_playLane_10 rfl (x_st 12 dX7_playLane_11 rfl (x_st 13 dX7_playLane_12 rfl (x_cv 16 [vr 13 0, vi x1, vi x2, UU] [] dX7_playLane_13 rfl (fun s1 => x_st 17 dX7_playLane_16 rfl (x_so 18 [vr 13 0, vi x1, vi x2, vi 0] dX7_playLane_17 rfl (rfl)))))))))))))
theorem qX7_playLane_18 (d : Nat) (x1 : Int) (x2 : Int) (x3 : Int) (s : Sg) : EV (d + 1) mX7_playLane (18, [vr 13 0, vi x1, vi x2, vi x3], [], s) = if x3 < 200 then (bV (RUN d mX7_leave [vr 13 0, vi x3] s) (fun s1 => bV (RUN d mX7_driveUp [vr 13 0, vi x1, vi x3] s1) (fun s2 => if (s2 13 0 12) = (-1) then (EV (d + 1) mX7_playLane (62, [vr 13 0, vi x1, vi x2, vi x3], [], s2)) else (if (s2 13 0 11) = (-1) then (EV (d + 1) mX7_playLane (62, [vr 13 0, vi x1, vi x2, vi x3], [], (up s2 13 0 13 (w32 ((s2 13 0 13) + 1))))) else (EV (d + 1) mX7_playLane (62, [vr 13 0, vi x1, vi x2, vi x3], [], s2)))))) else (EV (d + 1) mX7_playLane (98, [vr 13 0, vi x1, vi x2, vi x3], [], s)) := x_st 19 dX7_playLane_18 rfl (x_st 22 dX7_playLane_19 rfl (x_br dX7_playLane_22 (x_if (x_go 25 (x_st 26 dX7_playLane_25 rfl (x_st 27 dX7_playLane_26 rfl (x_cv 30 [vr 13 0, vi x1, vi x2, vi x3] [] dX7_playLane_27 rfl (fun s1 => x_st 31 dX7_playLane_30 rfl (x_st 32 dX7_playLane_31 rfl (x_st 33 dX7_playLane_32 rfl (x_cv 36 [vr 13 0, vi x1, vi x2, vi x3] [] dX7_playLane_33 rfl (fun s2 => x_st 37 dX7_playLane_36 rfl (x_st 40 dX7_playLane_37 rfl (x_st 41 dX7_playLane_40 rfl (x_br dX7_playLane_41 (x_if (x_go 62 (rfl)) (x_go 44 (x_st 45 dX7_playLane_44 rfl (x_st 48 dX7_playLane_45 rfl (x_st 49 dX7_playLane_48 rfl (x_br dX7_playLane_49 (x_if (x_go 52 (x_st 53 dX7_playLane_52 rfl (x_st 54 dX7_playLane_53 rfl (x_st 57 dX7_playLane_54 rfl (x_st 58 dX7_playLane_57 rfl (x_st 59 dX7_playLane_58 rfl (x_st 62 dX7_playLane_59 rfl (rfl)))))))) (x_go 62 (rfl))))))))))))))))))))) (x_go 98 (rfl)))))
theorem qX7_playLane_62 (d : Nat) (x1 : Int) (x2 : Int) (x3 : Int) (s : Sg) : EV d mX7_playLane (62, [vr 13 0, vi x1, vi x2, vi x3], [], s) = if (s 13 0 12) = (-1) then (if (s 13 0 11) = (-1) then (if (s 13 0 10) = (s 13 0 9) then (EV d mX7_playLane (98, [vr 13 0, vi x1, vi x2, vi x3], [], s)) else (EV d mX7_playLane (92, [vr 13 0, vi x1, vi x2, vi x3], [], s))) else (EV d mX7_playLane (92, [vr 13 0, vi x1, vi x2, vi x3], [], s))) else (EV d mX7_playLane (92, [vr 13 0, vi x1, vi x2, vi x3], [], s)) := x_st 63 dX7_playLane_62 rfl (x_st 66 dX7_playLane_63 rfl (x_st 67 dX7_playLane_66 rfl (x_br dX7_playLane_67 (x_if (x_go 70 (x_st 71 dX7_playLane_70 rfl (x_st 74 dX7_playLane_71 rfl (x_st 75 dX7_playLane_74 rfl (x_br dX7_playLane_75 (x_if (x_go 78 (x_st 79 dX7_playLane_78 rfl (x_st 82 dX7_playLane_79 rfl (x_st 83 dX7_playLane_82 rfl (x_st 86 dX7_playLane_83 rfl (x_br dX7_playLane_86 (x_if (x_go 89 (x_st 98 dX7_playLane_89 rfl (rfl))) (x_go 92 (rfl))))))))) (x_go 92 (rfl)))))))) (x_go 92 (rfl))))))
theorem qX7_playLane_98 (d : Nat) (x1 : Int) (x2 : Int) (z3 : PV) (s : Sg) : EV (d + 1) mX7_playLane (98, [vr 13 0, vi x1, vi x2, z3], [], s) = bI (RUN d mX7_badness [vr 13 0, vi x1, vi x2] s) (fun r1 s1 => some (some (vi r1), s1)) := x_st 99 dX7_playLane_98 rfl (x_st 100 dX7_playLane_99 rfl (x_st 101 dX7_playLane_100 rfl (x_ci 104 [vr 13 0, vi x1, vi x2, z3] [] dX7_playLane_101 rfl (fun r1 s1 => x_ret dX7_playLane_104 rfl))))
theorem qX7_playLane_92 (d : Nat) (x1 : Int) (x2 : Int) (x3 : Int) (s : Sg) : EV d mX7_playLane (92, [vr 13 0, vi x1, vi x2, vi x3], [], s) = EV d mX7_playLane (18, [vr 13 0, vi x1, vi x2, vi (w32 (x3 + 1))], [], s) := x_so 95 [vr 13 0, vi x1, vi x2, vi (w32 (x3 + 1))] dX7_playLane_92 rfl (x_st 18 dX7_playLane_95 rfl (rfl))
theorem dX7_share_0 : decode cX7_share 0 = .ok (.aload_n 0, 1) := by decide +kernel
theorem dX7_share_1 : decode cX7_share 1 = .ok (.getfield 33, 3) := by decide +kernel
theorem dX7_share_4 : decode cX7_share 4 = .ok (.iload_n 1, 1) := by decide +kernel
theorem dX7_share_5 : decode cX7_share 5 = .ok (.invokevirtual 95, 3) := by decide +kernel
theorem dX7_share_8 : decode cX7_share 8 = .ok (.ifCond .eq 12, 3) := by decide +kernel
theorem dX7_share_11 : decode cX7_share 11 = .ok (.aload_n 0, 1) := by decide +kernel
theorem dX7_share_12 : decode cX7_share 12 = .ok (.getfield 27, 3) := by decide +kernel
theorem dX7_share_15 : decode cX7_share 15 = .ok (.iload_n 1, 1) := by decide +kernel
theorem dX7_share_16 : decode cX7_share 16 = .ok (.iaload, 1) := by decide +kernel
theorem dX7_share_17 : decode cX7_share 17 = .ok (.goto 4, 3) := by decide +kernel
theorem dX7_share_20 : decode cX7_share 20 = .ok (.iconst 0, 1) := by decide +kernel
theorem dX7_share_21 : decode cX7_share 21 = .ok (.ireturn, 1) := by decide +kernel
theorem qX7_share (d : Nat) (x1 : Int) (s : Sg) : RUN (d + 1) mX7_share [vr 13 0, vi x1] s = bI (RUN d mX1_has [vr 1 0, vi x1] s) (fun r1 s1 => if r1 = 0 then (some (some (vi 0), s1)) else (if inb x1 6 then (some (some (vi (s1 19 0 (Int.toNat x1))), s1)) else none)) := x_run rfl (x_st 1 dX7_share_0 rfl (x_st 4 dX7_share_1 rfl (x_st 5 dX7_share_4 rfl (x_ci 8 [vr 13 0, vi x1] [] dX7_share_5 rfl (fun r1 s1 => x_br dX7_share_8 (x_if (x_go 20 (x_st 21 dX7_share_20 rfl (x_ret dX7_share_21 rfl))) (x_go 11 (x_st 12 dX7_share_11 rfl (x_st 15 dX7_share_12 rfl (x_st 16 dX7_share_15 rfl (x_br dX7_share_16 (x_if (x_go 17 (x_st 21 dX7_share_17 rfl (x_ret dX7_share_21 rfl))) x_no))))))))))))
theorem dX7_lineUp_0 : decode cX7_lineUp 0 = .ok (.aload_n 0, 1) := by decide +kernel
theorem dX7_lineUp_1 : decode cX7_lineUp 1 = .ok (.iconst 0, 1) := by decide +kernel
theorem dX7_lineUp_2 : decode cX7_lineUp 2 = .ok (.putfield 89, 3) := by decide +kernel
theorem dX7_lineUp_5 : decode cX7_lineUp 5 = .ok (.aload_n 0, 1) := by decide +kernel
theorem dX7_lineUp_6 : decode cX7_lineUp 6 = .ok (.iconst 0, 1) := by decide +kernel
theorem dX7_lineUp_7 : decode cX7_lineUp 7 = .ok (.putfield 86, 3) := by decide +kernel
theorem dX7_lineUp_10 : decode cX7_lineUp 10 = .ok (.iconst 0, 1) := by decide +kernel
theorem dX7_lineUp_11 : decode cX7_lineUp 11 = .ok (.istore_n 3, 1) := by decide +kernel
theorem dX7_lineUp_12 : decode cX7_lineUp 12 = .ok (.iload_n 3, 1) := by decide +kernel
theorem dX7_lineUp_13 : decode cX7_lineUp 13 = .ok (.aload_n 0, 1) := by decide +kernel
theorem dX7_lineUp_14 : decode cX7_lineUp 14 = .ok (.getfield 33, 3) := by decide +kernel
theorem dX7_lineUp_17 : decode cX7_lineUp 17 = .ok (.invokevirtual 44, 3) := by decide +kernel
theorem dX7_lineUp_20 : decode cX7_lineUp 20 = .ok (.if_icmp .ge 115, 3) := by decide +kernel
theorem dX7_lineUp_23 : decode cX7_lineUp 23 = .ok (.iload_n 2, 1) := by decide +kernel
theorem dX7_lineUp_24 : decode cX7_lineUp 24 = .ok (.iload_n 3, 1) := by decide +kernel
theorem dX7_lineUp_25 : decode cX7_lineUp 25 = .ok (.ishr, 1) := by decide +kernel
theorem dX7_lineUp_26 : decode cX7_lineUp 26 = .ok (.iconst 1, 1) := by decide +kernel
theorem dX7_lineUp_27 : decode cX7_lineUp 27 = .ok (.iand, 1) := by decide +kernel
theorem dX7_lineUp_28 : decode cX7_lineUp 28 = .ok (.ifCond .ne 6, 3) := by decide +kernel
theorem dX7_lineUp_31 : decode cX7_lineUp 31 = .ok (.goto 98, 3) := by decide +kernel
theorem dX7_lineUp_34 : decode cX7_lineUp 34 = .ok (.aload_n 0, 1) := by decide +kernel
theorem dX7_lineUp_35 : decode cX7_lineUp 35 = .ok (.getfield 15, 3) := by decide +kernel
theorem dX7_lineUp_38 : decode cX7_lineUp 38 = .ok (.iload_n 3, 1) := by decide +kernel
theorem dX7_lineUp_39 : decode cX7_lineUp 39 = .ok (.iconst (-1), 1) := by decide +kernel
theorem dX7_lineUp_40 : decode cX7_lineUp 40 = .ok (.iastore, 1) := by decide +kernel
theorem dX7_lineUp_41 : decode cX7_lineUp 41 = .ok (.aload_n 0, 1) := by decide +kernel
theorem dX7_lineUp_42 : decode cX7_lineUp 42 = .ok (.getfield 21, 3) := by decide +kernel
theorem dX7_lineUp_45 : decode cX7_lineUp 45 = .ok (.iload_n 3, 1) := by decide +kernel
theorem dX7_lineUp_46 : decode cX7_lineUp 46 = .ok (.iconst (-1), 1) := by decide +kernel
theorem dX7_lineUp_47 : decode cX7_lineUp 47 = .ok (.iastore, 1) := by decide +kernel
theorem dX7_lineUp_48 : decode cX7_lineUp 48 = .ok (.aload_n 0, 1) := by decide +kernel
theorem dX7_lineUp_49 : decode cX7_lineUp 49 = .ok (.getfield 24, 3) := by decide +kernel
theorem dX7_lineUp_52 : decode cX7_lineUp 52 = .ok (.iload_n 3, 1) := by decide +kernel
theorem dX7_lineUp_53 : decode cX7_lineUp 53 = .ok (.iconst (-1), 1) := by decide +kernel
theorem dX7_lineUp_54 : decode cX7_lineUp 54 = .ok (.iastore, 1) := by decide +kernel
theorem dX7_lineUp_55 : decode cX7_lineUp 55 = .ok (.aload_n 0, 1) := by decide +kernel
theorem dX7_lineUp_56 : decode cX7_lineUp 56 = .ok (.iload_n 3, 1) := by decide +kernel
theorem dX7_lineUp_57 : decode cX7_lineUp 57 = .ok (.iload_n 1, 1) := by decide +kernel
theorem dX7_lineUp_58 : decode cX7_lineUp 58 = .ok (.invokevirtual 139, 3) := by decide +kernel
theorem dX7_lineUp_61 : decode cX7_lineUp 61 = .ok (.ifCond .eq 68, 3) := by decide +kernel
theorem dX7_lineUp_64 : decode cX7_lineUp 64 = .ok (.aload_n 0, 1) := by decide +kernel
theorem dX7_lineUp_65 : decode cX7_lineUp 65 = .ok (.dup, 1) := by decide +kernel
theorem dX7_lineUp_66 : decode cX7_lineUp 66 = .ok (.getfield 89, 3) := by decide +kernel
theorem dX7_lineUp_69 : decode cX7_lineUp 69 = .ok (.dup_x1, 1) := by decide +kernel
theorem dX7_lineUp_70 : decode cX7_lineUp 70 = .ok (.iconst 1, 1) := by decide +kernel
theorem dX7_lineUp_71 : decode cX7_lineUp 71 = .ok (.iadd, 1) := by decide +kernel
theorem dX7_lineUp_72 : decode cX7_lineUp 72 = .ok (.putfield 89, 3) := by decide +kernel
theorem dX7_lineUp_75 : decode cX7_lineUp 75 = .ok (.istore 4, 2) := by decide +kernel
theorem dX7_lineUp_77 : decode cX7_lineUp 77 = .ok (.iload 4, 2) := by decide +kernel
theorem dX7_lineUp_79 : decode cX7_lineUp 79 = .ok (.ifCond .le 42, 3) := by decide +kernel
theorem dX7_lineUp_82 : decode cX7_lineUp 82 = .ok (.aload_n 0, 1) := by decide +kernel
theorem dX7_lineUp_83 : decode cX7_lineUp 83 = .ok (.iload_n 3, 1) := by decide +kernel
theorem dX7_lineUp_84 : decode cX7_lineUp 84 = .ok (.aload_n 0, 1) := by decide +kernel
theorem dX7_lineUp_85 : decode cX7_lineUp 85 = .ok (.getfield 30, 3) := by decide +kernel
theorem dX7_lineUp_88 : decode cX7_lineUp 88 = .ok (.iload 4, 2) := by decide +kernel
theorem dX7_lineUp_90 : decode cX7_lineUp 90 = .ok (.iconst 1, 1) := by decide +kernel
theorem dX7_lineUp_91 : decode cX7_lineUp 91 = .ok (.isub, 1) := by decide +kernel
theorem dX7_lineUp_92 : decode cX7_lineUp 92 = .ok (.iaload, 1) := by decide +kernel
theorem dX7_lineUp_93 : decode cX7_lineUp 93 = .ok (.invokevirtual 107, 3) := by decide +kernel
theorem dX7_lineUp_96 : decode cX7_lineUp 96 = .ok (.ifCond .eq 25, 3) := by decide +kernel
theorem dX7_lineUp_99 : decode cX7_lineUp 99 = .ok (.aload_n 0, 1) := by decide +kernel
theorem dX7_lineUp_100 : decode cX7_lineUp 100 = .ok (.getfield 30, 3) := by decide +kernel
theorem dX7_lineUp_103 : decode cX7_lineUp 103 = .ok (.iload 4, 2) := by decide +kernel
theorem dX7_lineUp_105 : decode cX7_lineUp 105 = .ok (.aload_n 0, 1) := by decide +kernel
theorem dX7_lineUp_106 : decode cX7_lineUp 106 = .ok (.getfield 30, 3) := by decide +kernel
theorem dX7_lineUp_109 : decode cX7_lineUp 109 = .ok (.iload 4, 2) := by decide +kernel
theorem dX7_lineUp_111 : decode cX7_lineUp 111 = .ok (.iconst 1, 1) := by decide +kernel
theorem dX7_lineUp_112 : decode cX7_lineUp 112 = .ok (.isub, 1) := by decide +kernel
theorem dX7_lineUp_113 : decode cX7_lineUp 113 = .ok (.iaload, 1) := by decide +kernel
theorem dX7_lineUp_114 : decode cX7_lineUp 114 = .ok (.iastore, 1) := by decide +kernel
theorem dX7_lineUp_115 : decode cX7_lineUp 115 = .ok (.iinc 4 (-1), 3) := by decide +kernel
theorem dX7_lineUp_118 : decode cX7_lineUp 118 = .ok (.goto (-41), 3) := by decide +kernel
theorem dX7_lineUp_121 : decode cX7_lineUp 121 = .ok (.aload_n 0, 1) := by decide +kernel
theorem dX7_lineUp_122 : decode cX7_lineUp 122 = .ok (.getfield 30, 3) := by decide +kernel
theorem dX7_lineUp_125 : decode cX7_lineUp 125 = .ok (.iload 4, 2) := by decide +kernel
theorem dX7_lineUp_127 : decode cX7_lineUp 127 = .ok (.iload_n 3, 1) := by decide +kernel
theorem dX7_lineUp_128 : decode cX7_lineUp 128 = .ok (.iastore, 1) := by decide +kernel
theorem dX7_lineUp_129 : decode cX7_lineUp 129 = .ok (.iinc 3 1, 3) := by decide +kernel
theorem dX7_lineUp_132 : decode cX7_lineUp 132 = .ok (.goto (-120), 3) := by decide +kernel
theorem dX7_lineUp_135 : decode cX7_lineUp 135 = .ok (.return_, 1) := by decide +kernel
theorem qX7_lineUp (d : Nat) (x1 : Int) (x2 : Int) (s : Sg) : RUN d mX7_lineUp [vr 13 0, vi x1, vi x2] s = EV d mX7_lineUp (12, [vr 13 0, vi x1, vi x2, vi 0, UU], [], (up (up s 13 0 9 0) 13 0 10 0)) := x_run rfl (x_st 1 dX7_lineUp_0 rfl (x_st 2 dX7_lineUp_1 rfl (x_st 5 dX7_lineUp_2 rfl (x_st 6 dX7_lineUp_5 rfl (x_st 7 dX7_lineUp_6 rfl (x_st 10 dX7_lineUp_7 rfl (x_st 11 dX7_lineUp_10 rfl (x_so 12 [vr 13 0, vi x1, vi x2, vi 0, UU] dX7_lineUp_11 rfl (rfl)))))))))
theorem qX7_lineUp_12 (d : Nat) (x1 : Int) (x2 : Int) (x3 : Int) (z4 : PV) (s : Sg) : EV (d + 1) mX7_lineUp (12, [vr 13 0, vi x1, vi x2, vi x3, z4], [], s) = bI (RUN d mX1_size [vr 1 0] s) (fun r1 s1 => if x3 < r1 then (if (wand (wshr x2 x3) 1) = 0 then (EV (d + 1) mX7_lineUp (129, [vr 13 0, vi x1, vi x2, vi x3, z4], [], s1)) else (if inb x3 6 then (if inb x3 6 then (if inb x3 6 then (bI (RUN d mX7_fits [vr 13 0, vi x3, vi x1] (up (up (up s1 15 0 (Int.toNat x3) (-1)) 17 0 (Int.toNat x3) (-1)) 18 0 (Int.toNat x3) (-1))) (fun r2 s2 => if r2 = 0 then (EV (d + 1) mX7_lineUp (129, [vr 13 0, vi x1, vi x2, vi x3, z4], [], s2)) else (EV (d + 1) mX7_lineUp (77, [vr 13 0, vi x1, vi x2, vi x3, vi (s2 13 0 9)], [], (up s2 13 0 9 (w32 ((s2 13 0 9) + 1))))))) else none) else none) else none)) else (some (none, s1))) := x_st 13 dX7_lineUp_12 rfl (x_st 14 dX7_lineUp_13 rfl (x_st 17 dX7_lineUp_14 rfl (x_ci 20 [vr 13 0, vi x1, vi x2, vi x3, z4] [vi x3] dX7_lineUp_17 rfl (fun r1 s1 => x_br dX7_lineUp_20 (x_if (x_go 23 (x_st 24 dX7_lineUp_23 rfl (x_st 25 dX7_lineUp_24 rfl (x_st 26 dX7_lineUp_25 rfl (x_st 27 dX7_lineUp_26 rfl (x_st 28 dX7_lineUp_27 rfl (x_br dX7_lineUp_28 (x_if (x_go 31 (x_st 129 dX7_lineUp_31 rfl (rfl))) (x_go 34 (x_st 35 dX7_lineUp_34 rfl (x_st 38 dX7_lineUp_35 rfl (x_st 39 dX7_lineUp_38 rfl (x_st 40 dX7_lineUp_39 rfl (x_br dX7_lineUp_40 (x_if (x_go 41 (x_st 42 dX7_lineUp_41 rfl (x_st 45 dX7_lineUp_42 rfl (x_st 46 dX7_lineUp_45 rfl (x_st 47 dX7_lineUp_46 rfl (x_br dX7_lineUp_47 (x_if (x_go 48 (x_st 49 dX7_lineUp_48 rfl (x_st 52 dX7_lineUp_49 rfl (x_st 53 dX7_lineUp_52 rfl (x_st 54 dX7_lineUp_53 rfl (x_br dX7_lineUp_54 (x_if (x_go 55 (x_st 56 dX7_lineUp_55 rfl (x_st 57 dX7_lineUp_56 rfl (x_st 58 dX7_lineUp_57 rfl (x_ci 61 [vr 13 0, vi x1, vi x2, vi x3, z4] [] dX7_lineUp_58 rfl (fun r2 s2 => x_br dX7_lineUp_61 (x_if (x_go 129 (rfl)) (x_go 64 (x_st 65 dX7_lineUp_64 rfl (x_st 66 dX7_lineUp_65 rfl (x_st 69 dX7_lineUp_66 rfl (x_st 70 dX7_lineUp_69 rfl (x_st 71 dX7_lineUp_70 rfl (x_st 72 dX7_lineUp_71 rfl (x_st 75 dX7_lineUp_72 rfl (x_so 77 [vr 13 0, vi x1, vi x2, vi x3, vi (s2 13 0 9)] dX7_lineUp_75 rfl (rfl))))))))))))))))) x_no))))))) x_no))))))) x_no))))))))))))))) (x_go 135 (x_ret dX7_lineUp_135 rfl)))))))
theorem qX7_lineUp_129 (d : Nat) (x1 : Int) (x2 : Int) (x3 : Int) (z4 : PV) (s : Sg) : EV d mX7_lineUp (129, [vr 13 0, vi x1, vi x2, vi x3, z4], [], s) = EV d mX7_lineUp (12, [vr 13 0, vi x1, vi x2, vi (w32 (x3 + 1)), z4], [], s) := x_so 132 [vr 13 0, vi x1, vi x2, vi (w32 (x3 + 1)), z4] dX7_lineUp_129 rfl (x_st 12 dX7_lineUp_132 rfl (rfl))
theorem qX7_lineUp_77 (d : Nat) (x1 : Int) (x2 : Int) (x3 : Int) (x4 : Int) (s : Sg) : EV (d + 1) mX7_lineUp (77, [vr 13 0, vi x1, vi x2, vi x3, vi x4], [], s) = if 0 < x4 then (if inb (w32 (x4 - 1)) 6 then (bI (RUN d mX7_comesBefore [vr 13 0, vi x3, vi (s 20 0 (Int.toNat (w32 (x4 - 1))))] s) (fun r1 s1 => if r1 = 0 then (EV (d + 1) mX7_lineUp (121, [vr 13 0, vi x1, vi x2, vi x3, vi x4], [], s1)) else (if inb (w32 (x4 - 1)) 6 then (if inb x4 6 then (EV (d + 1) mX7_lineUp (77, [vr 13 0, vi x1, vi x2, vi x3, vi (w32 (x4 + (-1)))], [], (up s1 20 0 (Int.toNat x4) (s1 20 0 (Int.toNat (w32 (x4 - 1))))))) else none) else none))) else none) else (EV (d + 1) mX7_lineUp (121, [vr 13 0, vi x1, vi x2, vi x3, vi x4], [], s)) := x_st 79 dX7_lineUp_77 rfl (x_br dX7_lineUp_79 (x_if (x_go 82 (x_st 83 dX7_lineUp_82 rfl (x_st 84 dX7_lineUp_83 rfl (x_st 85 dX7_lineUp_84 rfl (x_st 88 dX7_lineUp_85 rfl (x_st 90 dX7_lineUp_88 rfl (x_st 91 dX7_lineUp_90 rfl (x_st 92 dX7_lineUp_91 rfl (x_br dX7_lineUp_92 (x_if (x_go 93 (x_ci 96 [vr 13 0, vi x1, vi x2, vi x3, vi x4] [] dX7_lineUp_93 rfl (fun r1 s1 => x_br dX7_lineUp_96 (x_if (x_go 121 (rfl)) (x_go 99 (x_st 100 dX7_lineUp_99 rfl (x_st 103 dX7_lineUp_100 rfl (x_st 105 dX7_lineUp_103 rfl (x_st 106 dX7_lineUp_105 rfl (x_st 109 dX7_lineUp_106 rfl (x_st 111 dX7_lineUp_109 rfl (x_st 112 dX7_lineUp_111 rfl (x_st 113 dX7_lineUp_112 rfl (x_br dX7_lineUp_113 (x_if (x_go 114 (x_br dX7_lineUp_114 (x_if (x_go 115 (x_so 118 [vr 13 0, vi x1, vi x2, vi x3, vi (w32 (x4 + (-1)))] dX7_lineUp_115 rfl (x_st 77 dX7_lineUp_118 rfl (rfl)))) x_no))) x_no))))))))))))))) x_no)))))))))) (x_go 121 (rfl))))
theorem qX7_lineUp_121 (d : Nat) (x1 : Int) (x2 : Int) (x3 : Int) (x4 : Int) (s : Sg) : EV d mX7_lineUp (121, [vr 13 0, vi x1, vi x2, vi x3, vi x4], [], s) = if inb x4 6 then (EV d mX7_lineUp (129, [vr 13 0, vi x1, vi x2, vi x3, vi x4], [], (up s 20 0 (Int.toNat x4) x3))) else none := x_st 122 dX7_lineUp_121 rfl (x_st 125 dX7_lineUp_122 rfl (x_st 127 dX7_lineUp_125 rfl (x_st 128 dX7_lineUp_127 rfl (x_br dX7_lineUp_128 (x_if (x_go 129 (rfl)) x_no)))))
theorem dX7_leaveOut_0 : decode cX7_leaveOut 0 = .ok (.iconst 0, 1) := by decide +kernel
theorem dX7_leaveOut_1 : decode cX7_leaveOut 1 = .ok (.istore_n 2, 1) := by decide +kernel
theorem dX7_leaveOut_2 : decode cX7_leaveOut 2 = .ok (.iload_n 2, 1) := by decide +kernel
theorem dX7_leaveOut_3 : decode cX7_leaveOut 3 = .ok (.iconst 4, 1) := by decide +kernel
theorem dX7_leaveOut_4 : decode cX7_leaveOut 4 = .ok (.if_icmp .ge 23, 3) := by decide +kernel
theorem dX7_leaveOut_7 : decode cX7_leaveOut 7 = .ok (.aload_n 0, 1) := by decide +kernel
theorem dX7_leaveOut_8 : decode cX7_leaveOut 8 = .ok (.getfield 9, 3) := by decide +kernel
theorem dX7_leaveOut_11 : decode cX7_leaveOut 11 = .ok (.iload_n 2, 1) := by decide +kernel
theorem dX7_leaveOut_12 : decode cX7_leaveOut 12 = .ok (.dup2, 1) := by decide +kernel
theorem dX7_leaveOut_13 : decode cX7_leaveOut 13 = .ok (.iaload, 1) := by decide +kernel
theorem dX7_leaveOut_14 : decode cX7_leaveOut 14 = .ok (.iconst 1, 1) := by decide +kernel
theorem dX7_leaveOut_15 : decode cX7_leaveOut 15 = .ok (.iload_n 1, 1) := by decide +kernel
theorem dX7_leaveOut_16 : decode cX7_leaveOut 16 = .ok (.ishl, 1) := by decide +kernel
theorem dX7_leaveOut_17 : decode cX7_leaveOut 17 = .ok (.iconst (-1), 1) := by decide +kernel
theorem dX7_leaveOut_18 : decode cX7_leaveOut 18 = .ok (.ixor, 1) := by decide +kernel
theorem dX7_leaveOut_19 : decode cX7_leaveOut 19 = .ok (.iand, 1) := by decide +kernel
theorem dX7_leaveOut_20 : decode cX7_leaveOut 20 = .ok (.iastore, 1) := by decide +kernel
theorem dX7_leaveOut_21 : decode cX7_leaveOut 21 = .ok (.iinc 2 1, 3) := by decide +kernel
theorem dX7_leaveOut_24 : decode cX7_leaveOut 24 = .ok (.goto (-22), 3) := by decide +kernel
theorem dX7_leaveOut_27 : decode cX7_leaveOut 27 = .ok (.return_, 1) := by decide +kernel
theorem qX7_leaveOut (d : Nat) (x1 : Int) (s : Sg) : RUN d mX7_leaveOut [vr 13 0, vi x1] s = EV d mX7_leaveOut (2, [vr 13 0, vi x1, vi 0], [], s) := x_run rfl (x_st 1 dX7_leaveOut_0 rfl (x_so 2 [vr 13 0, vi x1, vi 0] dX7_leaveOut_1 rfl (rfl)))
theorem qX7_leaveOut_2 (d : Nat) (x1 : Int) (x2 : Int) (s : Sg) : EV d mX7_leaveOut (2, [vr 13 0, vi x1, vi x2], [], s) = if x2 < 4 then (if inb x2 4 then (if inb x2 4 then (EV d mX7_leaveOut (2, [vr 13 0, vi x1, vi (w32 (x2 + 1))], [], (up s 14 0 (Int.toNat x2) (wand (s 14 0 (Int.toNat x2)) (wxor (wshl 1 x1) (-1)))))) else none) else none) else (some (none, s)) := x_st 3 dX7_leaveOut_2 rfl (x_st 4 dX7_leaveOut_3 rfl (x_br dX7_leaveOut_4 (x_if (x_go 7 (x_st 8 dX7_leaveOut_7 rfl (x_st 11 dX7_leaveOut_8 rfl (x_st 12 dX7_leaveOut_11 rfl (x_st 13 dX7_leaveOut_12 rfl (x_br dX7_leaveOut_13 (x_if (x_go 14 (x_st 15 dX7_leaveOut_14 rfl (x_st 16 dX7_leaveOut_15 rfl (x_st 17 dX7_leaveOut_16 rfl (x_st 18 dX7_leaveOut_17 rfl (x_st 19 dX7_leaveOut_18 rfl (x_st 20 dX7_leaveOut_19 rfl (x_br dX7_leaveOut_20 (x_if (x_go 21 (x_so 24 [vr 13 0, vi x1, vi (w32 (x2 + 1))] dX7_leaveOut_21 rfl (x_st 2 dX7_leaveOut_24 rfl (rfl)))) x_no))))))))) x_no))))))) (x_go 27 (x_ret dX7_leaveOut_27 rfl)))))
theorem dX7_leave_0 : decode cX7_leave 0 = .ok (.aload_n 0, 1) := by decide +kernel
theorem dX7_leave_1 : decode cX7_leave 1 = .ok (.getfield 70, 3) := by decide +kernel
theorem dX7_leave_4 : decode cX7_leave 4 = .ok (.iconst (-1), 1) := by decide +kernel
theorem dX7_leave_5 : decode cX7_leave 5 = .ok (.if_icmp .eq 54, 3) := by decide +kernel
theorem dX7_leave_8 : decode cX7_leave 8 = .ok (.aload_n 0, 1) := by decide +kernel
theorem dX7_leave_9 : decode cX7_leave 9 = .ok (.getfield 18, 3) := by decide +kernel
theorem dX7_leave_12 : decode cX7_leave 12 = .ok (.aload_n 0, 1) := by decide +kernel
theorem dX7_leave_13 : decode cX7_leave 13 = .ok (.getfield 70, 3) := by decide +kernel
theorem dX7_leave_16 : decode cX7_leave 16 = .ok (.iaload, 1) := by decide +kernel
theorem dX7_leave_17 : decode cX7_leave 17 = .ok (.iload_n 1, 1) := by decide +kernel
theorem dX7_leave_18 : decode cX7_leave 18 = .ok (.if_icmp .gt 41, 3) := by decide +kernel
theorem dX7_leave_21 : decode cX7_leave 21 = .ok (.aload_n 0, 1) := by decide +kernel
theorem dX7_leave_22 : decode cX7_leave 22 = .ok (.getfield 21, 3) := by decide +kernel
theorem dX7_leave_25 : decode cX7_leave 25 = .ok (.aload_n 0, 1) := by decide +kernel
theorem dX7_leave_26 : decode cX7_leave 26 = .ok (.getfield 70, 3) := by decide +kernel
theorem dX7_leave_29 : decode cX7_leave 29 = .ok (.iload_n 1, 1) := by decide +kernel
theorem dX7_leave_30 : decode cX7_leave 30 = .ok (.iastore, 1) := by decide +kernel
theorem dX7_leave_31 : decode cX7_leave 31 = .ok (.aload_n 0, 1) := by decide +kernel
theorem dX7_leave_32 : decode cX7_leave 32 = .ok (.aload_n 0, 1) := by decide +kernel
theorem dX7_leave_33 : decode cX7_leave 33 = .ok (.getfield 73, 3) := by decide +kernel
theorem dX7_leave_36 : decode cX7_leave 36 = .ok (.aload_n 0, 1) := by decide +kernel
theorem dX7_leave_37 : decode cX7_leave 37 = .ok (.getfield 70, 3) := by decide +kernel
theorem dX7_leave_40 : decode cX7_leave 40 = .ok (.if_icmp .ne 7, 3) := by decide +kernel
theorem dX7_leave_43 : decode cX7_leave 43 = .ok (.iconst (-1), 1) := by decide +kernel
theorem dX7_leave_44 : decode cX7_leave 44 = .ok (.goto 7, 3) := by decide +kernel
theorem dX7_leave_47 : decode cX7_leave 47 = .ok (.aload_n 0, 1) := by decide +kernel
theorem dX7_leave_48 : decode cX7_leave 48 = .ok (.getfield 73, 3) := by decide +kernel
theorem dX7_leave_51 : decode cX7_leave 51 = .ok (.putfield 73, 3) := by decide +kernel
theorem dX7_leave_54 : decode cX7_leave 54 = .ok (.aload_n 0, 1) := by decide +kernel
theorem dX7_leave_55 : decode cX7_leave 55 = .ok (.iconst (-1), 1) := by decide +kernel
theorem dX7_leave_56 : decode cX7_leave 56 = .ok (.putfield 70, 3) := by decide +kernel
theorem dX7_leave_59 : decode cX7_leave 59 = .ok (.aload_n 0, 1) := by decide +kernel
theorem dX7_leave_60 : decode cX7_leave 60 = .ok (.getfield 73, 3) := by decide +kernel
theorem dX7_leave_63 : decode cX7_leave 63 = .ok (.iconst (-1), 1) := by decide +kernel
theorem dX7_leave_64 : decode cX7_leave 64 = .ok (.if_icmp .eq 39, 3) := by decide +kernel
theorem dX7_leave_67 : decode cX7_leave 67 = .ok (.aload_n 0, 1) := by decide +kernel
theorem dX7_leave_68 : decode cX7_leave 68 = .ok (.getfield 70, 3) := by decide +kernel
theorem dX7_leave_71 : decode cX7_leave 71 = .ok (.iconst (-1), 1) := by decide +kernel
theorem dX7_leave_72 : decode cX7_leave 72 = .ok (.if_icmp .ne 31, 3) := by decide +kernel
theorem dX7_leave_75 : decode cX7_leave 75 = .ok (.aload_n 0, 1) := by decide +kernel
theorem dX7_leave_76 : decode cX7_leave 76 = .ok (.getfield 18, 3) := by decide +kernel
theorem dX7_leave_79 : decode cX7_leave 79 = .ok (.aload_n 0, 1) := by decide +kernel
theorem dX7_leave_80 : decode cX7_leave 80 = .ok (.getfield 73, 3) := by decide +kernel
theorem dX7_leave_83 : decode cX7_leave 83 = .ok (.iaload, 1) := by decide +kernel
theorem dX7_leave_84 : decode cX7_leave 84 = .ok (.iload_n 1, 1) := by decide +kernel
theorem dX7_leave_85 : decode cX7_leave 85 = .ok (.if_icmp .gt 18, 3) := by decide +kernel
theorem dX7_leave_88 : decode cX7_leave 88 = .ok (.aload_n 0, 1) := by decide +kernel
theorem dX7_leave_89 : decode cX7_leave 89 = .ok (.getfield 21, 3) := by decide +kernel
theorem dX7_leave_92 : decode cX7_leave 92 = .ok (.aload_n 0, 1) := by decide +kernel
theorem dX7_leave_93 : decode cX7_leave 93 = .ok (.getfield 73, 3) := by decide +kernel
theorem dX7_leave_96 : decode cX7_leave 96 = .ok (.iload_n 1, 1) := by decide +kernel
theorem dX7_leave_97 : decode cX7_leave 97 = .ok (.iastore, 1) := by decide +kernel
theorem dX7_leave_98 : decode cX7_leave 98 = .ok (.aload_n 0, 1) := by decide +kernel
theorem dX7_leave_99 : decode cX7_leave 99 = .ok (.iconst (-1), 1) := by decide +kernel
theorem dX7_leave_100 : decode cX7_leave 100 = .ok (.putfield 73, 3) := by decide +kernel
theorem dX7_leave_103 : decode cX7_leave 103 = .ok (.return_, 1) := by decide +kernel
theorem qX7_leave (d : Nat) (x1 : Int) (s : Sg) : RUN d mX7_leave [vr 13 0, vi x1] s = if (s 13 0 11) = (-1) then (EV d mX7_leave (59, [vr 13 0, vi x1], [], s)) else (if inb (s 13 0 11) 6 then (if x1 < (s 16 0 (Int.toNat (s 13 0 11))) then (EV d mX7_leave (59, [vr 13 0, vi x1], [], s)) else (if inb (s 13 0 11) 6 then (if (s 13 0 12) = (s 13 0 11) then (EV d mX7_leave (51, [vr 13 0, vi x1], [vi (-1), vr 13 0], (up s 17 0 (Int.toNat (s 13 0 11)) x1))) else (EV d mX7_leave (51, [vr 13 0, vi x1], [vi (s 13 0 12), vr 13 0], (up s 17 0 (Int.toNat (s 13 0 11)) x1)))) else none)) else none) := x_run rfl (x_st 1 dX7_leave_0 rfl (x_st 4 dX7_leave_1 rfl (x_st 5 dX7_leave_4 rfl (x_br dX7_leave_5 (x_if (x_go 59 (rfl)) (x_go 8 (x_st 9 dX7_leave_8 rfl (x_st 12 dX7_leave_9 rfl (x_st 13 dX7_leave_12 rfl (x_st 16 dX7_leave_13 rfl (x_br dX7_leave_16 (x_if (x_go 17 (x_st 18 dX7_leave_17 rfl (x_br dX7_leave_18 (x_if (x_go 59 (rfl)) (x_go 21 (x_st 22 dX7_leave_21 rfl (x_st 25 dX7_leave_22 rfl (x_st 26 dX7_leave_25 rfl (x_st 29 dX7_leave_26 rfl (x_st 30 dX7_leave_29 rfl (x_br dX7_leave_30 (x_if (x_go 31 (x_st 32 dX7_leave_31 rfl (x_st 33 dX7_leave_32 rfl (x_st 36 dX7_leave_33 rfl (x_st 37 dX7_leave_36 rfl (x_st 40 dX7_leave_37 rfl (x_br dX7_leave_40 (x_if (x_go 43 (x_st 44 dX7_leave_43 rfl (x_st 51 dX7_leave_44 rfl (rfl)))) (x_go 47 (x_st 48 dX7_leave_47 rfl (x_st 51 dX7_leave_48 rfl (rfl)))))))))))) x_no)))))))))))) x_no))))))))))))
theorem qX7_leave_59 (d : Nat) (x1 : Int) (s : Sg) : EV d mX7_leave (59, [vr 13 0, vi x1], [], s) = if (s 13 0 12) = (-1) then (some (none, s)) else (if (s 13 0 11) = (-1) then (if inb (s 13 0 12) 6 then (if x1 < (s 16 0 (Int.toNat (s 13 0 12))) then (some (none, s)) else (if inb (s 13 0 12) 6 then (some (none, (up (up s 17 0 (Int.toNat (s 13 0 12)) x1) 13 0 12 (-1)))) else none)) else none) else (some (none, s))) := x_st 60 dX7_leave_59 rfl (x_st 63 dX7_leave_60 rfl (x_st 64 dX7_leave_63 rfl (x_br dX7_leave_64 (x_if (x_go 103 (x_ret dX7_leave_103 rfl)) (x_go 67 (x_st 68 dX7_leave_67 rfl (x_st 71 dX7_leave_68 rfl (x_st 72 dX7_leave_71 rfl (x_br dX7_leave_72 (x_if (x_go 75 (x_st 76 dX7_leave_75 rfl (x_st 79 dX7_leave_76 rfl (x_st 80 dX7_leave_79 rfl (x_st 83 dX7_leave_80 rfl (x_br dX7_leave_83 (x_if (x_go 84 (x_st 85 dX7_leave_84 rfl (x_br dX7_leave_85 (x_if (x_go 103 (x_ret dX7_leave_103 rfl)) (x_go 88 (x_st 89 dX7_leave_88 rfl (x_st 92 dX7_leave_89 rfl (x_st 93 dX7_leave_92 rfl (x_st 96 dX7_leave_93 rfl (x_st 97 dX7_leave_96 rfl (x_br dX7_leave_97 (x_if (x_go 98 (x_st 99 dX7_leave_98 rfl (x_st 100 dX7_leave_99 rfl (x_st 103 dX7_leave_100 rfl (x_ret dX7_leave_103 rfl))))) x_no)))))))))))) x_no))))))) (x_go 103 (x_ret dX7_leave_103 rfl))))))))))))
theorem qX7_leave_51 (d : Nat) (x1 : Int) (y0 : Int) (s : Sg) : EV d mX7_leave (51, [vr 13 0, vi x1], [vi y0, vr 13 0], s) = EV d mX7_leave (59, [vr 13 0, vi x1], [], (up (up s 13 0 12 y0) 13 0 11 (-1))) := x_st 54 dX7_leave_51 rfl (x_st 55 dX7_leave_54 rfl (x_st 56 dX7_leave_55 rfl (x_st 59 dX7_leave_56 rfl (rfl))))
theorem dX7_driveUp_0 : decode cX7_driveUp 0 = .ok (.aload_n 0, 1) := by decide +kernel
theorem dX7_driveUp_1 : decode cX7_driveUp 1 = .ok (.getfield 86, 3) := by decide +kernel
theorem dX7_driveUp_4 : decode cX7_driveUp 4 = .ok (.aload_n 0, 1) := by decide +kernel
theorem dX7_driveUp_5 : decode cX7_driveUp 5 = .ok (.getfield 89, 3) := by decide +kernel
theorem dX7_driveUp_8 : decode cX7_driveUp 8 = .ok (.if_icmp .ge 186, 3) := by decide +kernel
theorem dX7_driveUp_11 : decode cX7_driveUp 11 = .ok (.aload_n 0, 1) := by decide +kernel
theorem dX7_driveUp_12 : decode cX7_driveUp 12 = .ok (.getfield 73, 3) := by decide +kernel
theorem dX7_driveUp_15 : decode cX7_driveUp 15 = .ok (.iconst (-1), 1) := by decide +kernel
theorem dX7_driveUp_16 : decode cX7_driveUp 16 = .ok (.if_icmp .ne 178, 3) := by decide +kernel
theorem dX7_driveUp_19 : decode cX7_driveUp 19 = .ok (.aload_n 0, 1) := by decide +kernel
theorem dX7_driveUp_20 : decode cX7_driveUp 20 = .ok (.getfield 33, 3) := by decide +kernel
theorem dX7_driveUp_23 : decode cX7_driveUp 23 = .ok (.iconst 3, 1) := by decide +kernel
theorem dX7_driveUp_24 : decode cX7_driveUp 24 = .ok (.aload_n 0, 1) := by decide +kernel
theorem dX7_driveUp_25 : decode cX7_driveUp 25 = .ok (.getfield 30, 3) := by decide +kernel
theorem dX7_driveUp_28 : decode cX7_driveUp 28 = .ok (.aload_n 0, 1) := by decide +kernel
theorem dX7_driveUp_29 : decode cX7_driveUp 29 = .ok (.getfield 86, 3) := by decide +kernel
theorem dX7_driveUp_32 : decode cX7_driveUp 32 = .ok (.iaload, 1) := by decide +kernel
theorem dX7_driveUp_33 : decode cX7_driveUp 33 = .ok (.invokevirtual 50, 3) := by decide +kernel
theorem dX7_driveUp_36 : decode cX7_driveUp 36 = .ok (.iload_n 2, 1) := by decide +kernel
theorem dX7_driveUp_37 : decode cX7_driveUp 37 = .ok (.if_icmp .gt 157, 3) := by decide +kernel
theorem dX7_driveUp_40 : decode cX7_driveUp 40 = .ok (.aload_n 0, 1) := by decide +kernel
theorem dX7_driveUp_41 : decode cX7_driveUp 41 = .ok (.getfield 30, 3) := by decide +kernel
theorem dX7_driveUp_44 : decode cX7_driveUp 44 = .ok (.aload_n 0, 1) := by decide +kernel
theorem dX7_driveUp_45 : decode cX7_driveUp 45 = .ok (.getfield 86, 3) := by decide +kernel
theorem dX7_driveUp_48 : decode cX7_driveUp 48 = .ok (.iaload, 1) := by decide +kernel
theorem dX7_driveUp_49 : decode cX7_driveUp 49 = .ok (.istore_n 3, 1) := by decide +kernel
theorem dX7_driveUp_50 : decode cX7_driveUp 50 = .ok (.aload_n 0, 1) := by decide +kernel
theorem dX7_driveUp_51 : decode cX7_driveUp 51 = .ok (.getfield 70, 3) := by decide +kernel
theorem dX7_driveUp_54 : decode cX7_driveUp 54 = .ok (.iconst (-1), 1) := by decide +kernel
theorem dX7_driveUp_55 : decode cX7_driveUp 55 = .ok (.if_icmp .ne 7, 3) := by decide +kernel
theorem dX7_driveUp_58 : decode cX7_driveUp 58 = .ok (.iconst 0, 1) := by decide +kernel
theorem dX7_driveUp_59 : decode cX7_driveUp 59 = .ok (.goto 4, 3) := by decide +kernel
theorem dX7_driveUp_62 : decode cX7_driveUp 62 = .ok (.iconst 1, 1) := by decide +kernel
theorem dX7_driveUp_63 : decode cX7_driveUp 63 = .ok (.istore 4, 2) := by decide +kernel
theorem dX7_driveUp_65 : decode cX7_driveUp 65 = .ok (.aload_n 0, 1) := by decide +kernel
theorem dX7_driveUp_66 : decode cX7_driveUp 66 = .ok (.getfield 33, 3) := by decide +kernel
theorem dX7_driveUp_69 : decode cX7_driveUp 69 = .ok (.iconst 5, 1) := by decide +kernel
theorem dX7_driveUp_70 : decode cX7_driveUp 70 = .ok (.iload_n 3, 1) := by decide +kernel
theorem dX7_driveUp_71 : decode cX7_driveUp 71 = .ok (.invokevirtual 50, 3) := by decide +kernel
theorem dX7_driveUp_74 : decode cX7_driveUp 74 = .ok (.invokestatic 141, 3) := by decide +kernel
theorem dX7_driveUp_77 : decode cX7_driveUp 77 = .ok (.istore 5, 2) := by decide +kernel
theorem dX7_driveUp_79 : decode cX7_driveUp 79 = .ok (.iload 5, 2) := by decide +kernel
theorem dX7_driveUp_81 : decode cX7_driveUp 81 = .ok (.ifCond .eq 9, 3) := by decide +kernel
theorem dX7_driveUp_84 : decode cX7_driveUp 84 = .ok (.iload 4, 2) := by decide +kernel
theorem dX7_driveUp_86 : decode cX7_driveUp 86 = .ok (.ifCond .le 4, 3) := by decide +kernel
theorem dX7_driveUp_89 : decode cX7_driveUp 89 = .ok (.return_, 1) := by decide +kernel
theorem dX7_driveUp_90 : decode cX7_driveUp 90 = .ok (.aload_n 0, 1) := by decide +kernel
theorem dX7_driveUp_91 : decode cX7_driveUp 91 = .ok (.dup, 1) := by decide +kernel
theorem dX7_driveUp_92 : decode cX7_driveUp 92 = .ok (.getfield 86, 3) := by decide +kernel
theorem dX7_driveUp_95 : decode cX7_driveUp 95 = .ok (.iconst 1, 1) := by decide +kernel
theorem dX7_driveUp_96 : decode cX7_driveUp 96 = .ok (.iadd, 1) := by decide +kernel
theorem dX7_driveUp_97 : decode cX7_driveUp 97 = .ok (.putfield 86, 3) := by decide +kernel
theorem dX7_driveUp_100 : decode cX7_driveUp 100 = .ok (.aload_n 0, 1) := by decide +kernel
theorem dX7_driveUp_101 : decode cX7_driveUp 101 = .ok (.getfield 15, 3) := by decide +kernel
theorem dX7_driveUp_104 : decode cX7_driveUp 104 = .ok (.iload_n 3, 1) := by decide +kernel
theorem dX7_driveUp_105 : decode cX7_driveUp 105 = .ok (.iload_n 2, 1) := by decide +kernel
theorem dX7_driveUp_106 : decode cX7_driveUp 106 = .ok (.iastore, 1) := by decide +kernel
theorem dX7_driveUp_107 : decode cX7_driveUp 107 = .ok (.aload_n 0, 1) := by decide +kernel
theorem dX7_driveUp_108 : decode cX7_driveUp 108 = .ok (.getfield 18, 3) := by decide +kernel
theorem dX7_driveUp_111 : decode cX7_driveUp 111 = .ok (.iload_n 3, 1) := by decide +kernel
theorem dX7_driveUp_112 : decode cX7_driveUp 112 = .ok (.iload_n 2, 1) := by decide +kernel
theorem dX7_driveUp_113 : decode cX7_driveUp 113 = .ok (.aload_n 0, 1) := by decide +kernel
theorem dX7_driveUp_114 : decode cX7_driveUp 114 = .ok (.iload_n 3, 1) := by decide +kernel
theorem dX7_driveUp_115 : decode cX7_driveUp 115 = .ok (.iload_n 1, 1) := by decide +kernel
theorem dX7_driveUp_116 : decode cX7_driveUp 116 = .ok (.iload_n 2, 1) := by decide +kernel
theorem dX7_driveUp_117 : decode cX7_driveUp 117 = .ok (.iload 4, 2) := by decide +kernel
theorem dX7_driveUp_119 : decode cX7_driveUp 119 = .ok (.invokevirtual 144, 3) := by decide +kernel
theorem dX7_driveUp_122 : decode cX7_driveUp 122 = .ok (.iadd, 1) := by decide +kernel
theorem dX7_driveUp_123 : decode cX7_driveUp 123 = .ok (.iastore, 1) := by decide +kernel
theorem dX7_driveUp_124 : decode cX7_driveUp 124 = .ok (.iload 5, 2) := by decide +kernel
theorem dX7_driveUp_126 : decode cX7_driveUp 126 = .ok (.ifCond .eq 23, 3) := by decide +kernel
theorem dX7_driveUp_129 : decode cX7_driveUp 129 = .ok (.aload_n 0, 1) := by decide +kernel
theorem dX7_driveUp_130 : decode cX7_driveUp 130 = .ok (.getfield 24, 3) := by decide +kernel
theorem dX7_driveUp_133 : decode cX7_driveUp 133 = .ok (.iload_n 3, 1) := by decide +kernel
theorem dX7_driveUp_134 : decode cX7_driveUp 134 = .ok (.iconst 2, 1) := by decide +kernel
theorem dX7_driveUp_135 : decode cX7_driveUp 135 = .ok (.iastore, 1) := by decide +kernel
theorem dX7_driveUp_136 : decode cX7_driveUp 136 = .ok (.aload_n 0, 1) := by decide +kernel
theorem dX7_driveUp_137 : decode cX7_driveUp 137 = .ok (.iload_n 3, 1) := by decide +kernel
theorem dX7_driveUp_138 : decode cX7_driveUp 138 = .ok (.putfield 70, 3) := by decide +kernel
theorem dX7_driveUp_141 : decode cX7_driveUp 141 = .ok (.aload_n 0, 1) := by decide +kernel
theorem dX7_driveUp_142 : decode cX7_driveUp 142 = .ok (.iload_n 3, 1) := by decide +kernel
theorem dX7_driveUp_143 : decode cX7_driveUp 143 = .ok (.putfield 73, 3) := by decide +kernel
theorem dX7_driveUp_146 : decode cX7_driveUp 146 = .ok (.goto 45, 3) := by decide +kernel
theorem dX7_driveUp_149 : decode cX7_driveUp 149 = .ok (.iload 4, 2) := by decide +kernel
theorem dX7_driveUp_151 : decode cX7_driveUp 151 = .ok (.ifCond .ne 28, 3) := by decide +kernel
theorem dX7_driveUp_154 : decode cX7_driveUp 154 = .ok (.aload_n 0, 1) := by decide +kernel
theorem dX7_driveUp_155 : decode cX7_driveUp 155 = .ok (.iload_n 3, 1) := by decide +kernel
theorem dX7_driveUp_156 : decode cX7_driveUp 156 = .ok (.iload_n 1, 1) := by decide +kernel
theorem dX7_driveUp_157 : decode cX7_driveUp 157 = .ok (.iload_n 2, 1) := by decide +kernel
theorem dX7_driveUp_158 : decode cX7_driveUp 158 = .ok (.invokevirtual 148, 3) := by decide +kernel
theorem dX7_driveUp_161 : decode cX7_driveUp 161 = .ok (.ifCond .eq 18, 3) := by decide +kernel
theorem dX7_driveUp_164 : decode cX7_driveUp 164 = .ok (.aload_n 0, 1) := by decide +kernel
theorem dX7_driveUp_165 : decode cX7_driveUp 165 = .ok (.getfield 24, 3) := by decide +kernel
theorem dX7_driveUp_168 : decode cX7_driveUp 168 = .ok (.iload_n 3, 1) := by decide +kernel
theorem dX7_driveUp_169 : decode cX7_driveUp 169 = .ok (.iconst 1, 1) := by decide +kernel
theorem dX7_driveUp_170 : decode cX7_driveUp 170 = .ok (.iastore, 1) := by decide +kernel
theorem dX7_driveUp_171 : decode cX7_driveUp 171 = .ok (.aload_n 0, 1) := by decide +kernel
theorem dX7_driveUp_172 : decode cX7_driveUp 172 = .ok (.iload_n 3, 1) := by decide +kernel
theorem dX7_driveUp_173 : decode cX7_driveUp 173 = .ok (.putfield 70, 3) := by decide +kernel
theorem dX7_driveUp_176 : decode cX7_driveUp 176 = .ok (.goto 15, 3) := by decide +kernel
theorem dX7_driveUp_179 : decode cX7_driveUp 179 = .ok (.aload_n 0, 1) := by decide +kernel
theorem dX7_driveUp_180 : decode cX7_driveUp 180 = .ok (.getfield 24, 3) := by decide +kernel
theorem dX7_driveUp_183 : decode cX7_driveUp 183 = .ok (.iload_n 3, 1) := by decide +kernel
theorem dX7_driveUp_184 : decode cX7_driveUp 184 = .ok (.iconst 0, 1) := by decide +kernel
theorem dX7_driveUp_185 : decode cX7_driveUp 185 = .ok (.iastore, 1) := by decide +kernel
theorem dX7_driveUp_186 : decode cX7_driveUp 186 = .ok (.aload_n 0, 1) := by decide +kernel
theorem dX7_driveUp_187 : decode cX7_driveUp 187 = .ok (.iload_n 3, 1) := by decide +kernel
theorem dX7_driveUp_188 : decode cX7_driveUp 188 = .ok (.putfield 73, 3) := by decide +kernel
theorem dX7_driveUp_191 : decode cX7_driveUp 191 = .ok (.goto (-191), 3) := by decide +kernel
theorem dX7_driveUp_194 : decode cX7_driveUp 194 = .ok (.return_, 1) := by decide +kernel
theorem qX7_driveUp (d : Nat) (x1 : Int) (x2 : Int) (s : Sg) : RUN d mX7_driveUp [vr 13 0, vi x1, vi x2] s = EV d mX7_driveUp (0, [vr 13 0, vi x1, vi x2, UU, UU, UU], [], s) := x_run rfl (rfl)
theorem qX7_driveUp_0 (d : Nat) (x1 : Int) (x2 : Int) (z3 : PV) (z4 : PV) (z5 : PV) (s : Sg) : EV (d + 1) mX7_driveUp (0, [vr 13 0, vi x1, vi x2, z3, z4, z5], [], s) = if (s 13 0 10) < (s 13 0 9) then (if (s 13 0 12) = (-1) then (if inb (s 13 0 10) 6 then (bI (RUN d mX1_tell [vr 1 0, vi 3, vi (s 20 0 (Int.toNat (s 13 0 10)))] s) (fun r1 s1 => if x2 < r1 then (some (none, s1)) else (if inb (s1 13 0 10) 6 then (if (s1 13 0 11) = (-1) then (EV (d + 1) mX7_driveUp (63, [vr 13 0, vi x1, vi x2, vi (s1 20 0 (Int.toNat (s1 13 0 10))), z4, z5], [vi 0], s1)) else (EV (d + 1) mX7_driveUp (63, [vr 13 0, vi x1, vi x2, vi (s1 20 0 (Int.toNat (s1 13 0 10))), z4, z5], [vi 1], s1))) else none))) else none) else (some (none, s))) else (some (none, s)) := x_st 1 dX7_driveUp_0 rfl (x_st 4 dX7_driveUp_1 rfl (x_st 5 dX7_driveUp_4 rfl (x_st 8 dX7_driveUp_5 rfl (x_br dX7_driveUp_8 (x_if (x_go 11 (x_st 12 dX7_driveUp_11 rfl (x_st 15 dX7_driveUp_12 rfl (x_st 16 dX7_driveUp_15 rfl (x_br dX7_driveUp_16 (x_if (x_go 19 (x_st 20 dX7_driveUp_19 rfl (x_st 23 dX7_driveUp_20 rfl (x_st 24 dX7_driveUp_23 rfl (x_st 25 dX7_driveUp_24 rfl (x_st 28 dX7_driveUp_25 rfl (x_st 29 dX7_driveUp_28 rfl (x_st 32 dX7_driveUp_29 rfl (x_br dX7_driveUp_32 (x_if (x_go 33 (x_ci 36 [vr 13 0, vi x1, vi x2, z3, z4, z5] [] dX7_driveUp_33 rfl (fun r1 s1 => x_st 37 dX7_driveUp_36 rfl (x_br dX7_driveUp_37 (x_if (x_go 194 (x_ret dX7_driveUp_194 rfl)) (x_go 40 (x_st 41 dX7_driveUp_40 rfl (x_st 44 dX7_driveUp_41 rfl (x_st 45 dX7_driveUp_44 rfl (x_st 48 dX7_driveUp_45 rfl (x_br dX7_driveUp_48 (x_if (x_go 49 (x_so 50 [vr 13 0, vi x1, vi x2, vi (s1 20 0 (Int.toNat (s1 13 0 10))), z4, z5] dX7_driveUp_49 rfl (x_st 51 dX7_driveUp_50 rfl (x_st 54 dX7_driveUp_51 rfl (x_st 55 dX7_driveUp_54 rfl (x_br dX7_driveUp_55 (x_if (x_go 58 (x_st 59 dX7_driveUp_58 rfl (x_st 63 dX7_driveUp_59 rfl (rfl)))) (x_go 62 (x_st 63 dX7_driveUp_62 rfl (rfl)))))))))) x_no)))))))))))) x_no)))))))))) (x_go 194 (x_ret dX7_driveUp_194 rfl)))))))) (x_go 194 (x_ret dX7_driveUp_194 rfl)))))))
theorem qX7_driveUp_63 (d : Nat) (x1 : Int) (x2 : Int) (x3 : Int) (z4 : PV) (z5 : PV) (y0 : Int) (s : Sg) : EV (d + 1) mX7_driveUp (63, [vr 13 0, vi x1, vi x2, vi x3, z4, z5], [vi y0], s) = bI (RUN d mX1_tell [vr 1 0, vi 5, vi x3] s) (fun r1 s1 => bI (RUN d mX3_isLong [vi r1] s1) (fun r2 s2 => if r2 = 0 then (EV (d + 1) mX7_driveUp (90, [vr 13 0, vi x1, vi x2, vi x3, vi y0, vi r2], [], s2)) else (if 0 < y0 then (some (none, s2)) else (EV (d + 1) mX7_driveUp (90, [vr 13 0, vi x1, vi x2, vi x3, vi y0, vi r2], [], s2))))) := x_so 65 [vr 13 0, vi x1, vi x2, vi x3, vi y0, z5] dX7_driveUp_63 rfl (x_st 66 dX7_driveUp_65 rfl (x_st 69 dX7_driveUp_66 rfl (x_st 70 dX7_driveUp_69 rfl (x_st 71 dX7_driveUp_70 rfl (x_ci 74 [vr 13 0, vi x1, vi x2, vi x3, vi y0, z5] [] dX7_driveUp_71 rfl (fun r1 s1 => x_ci 77 [vr 13 0, vi x1, vi x2, vi x3, vi y0, z5] [] dX7_driveUp_74 rfl (fun r2 s2 => x_so 79 [vr 13 0, vi x1, vi x2, vi x3, vi y0, vi r2] dX7_driveUp_77 rfl (x_st 81 dX7_driveUp_79 rfl (x_br dX7_driveUp_81 (x_if (x_go 90 (rfl)) (x_go 84 (x_st 86 dX7_driveUp_84 rfl (x_br dX7_driveUp_86 (x_if (x_go 89 (x_ret dX7_driveUp_89 rfl)) (x_go 90 (rfl))))))))))))))))
theorem qX7_driveUp_90 (d : Nat) (x1 : Int) (x2 : Int) (x3 : Int) (x4 : Int) (x5 : Int) (s : Sg) : EV (d + 1) mX7_driveUp (90, [vr 13 0, vi x1, vi x2, vi x3, vi x4, vi x5], [], s) = if inb x3 6 then (bI (RUN d mX7_takes [vr 13 0, vi x3, vi x1, vi x2, vi x4] (up (up s 13 0 10 (w32 ((s 13 0 10) + 1))) 15 0 (Int.toNat x3) x2)) (fun r1 s1 => if inb x3 6 then (if x5 = 0 then (if x4 = 0 then (bI (RUN d mX7_drawsForward [vr 13 0, vi x3, vi x1, vi x2] (up s1 16 0 (Int.toNat x3) (w32 (x2 + r1)))) (fun r2 s2 => if r2 = 0 then (EV (d + 1) mX7_driveUp (179, [vr 13 0, vi x1, vi x2, vi x3, vi x4, vi x5], [], s2)) else (if inb x3 6 then (EV (d + 1) mX7_driveUp (191, [vr 13 0, vi x1, vi x2, vi x3, vi x4, vi x5], [], (up (up s2 18 0 (Int.toNat x3) 1) 13 0 11 x3))) else none))) else (EV (d + 1) mX7_driveUp (179, [vr 13 0, vi x1, vi x2, vi x3, vi x4, vi x5], [], (up s1 16 0 (Int.toNat x3) (w32 (x2 + r1)))))) else (if inb x3 6 then (EV (d + 1) mX7_driveUp (191, [vr 13 0, vi x1, vi x2, vi x3, vi x4, vi x5], [], (up (up (up (up s1 16 0 (Int.toNat x3) (w32 (x2 + r1))) 18 0 (Int.toNat x3) 2) 13 0 11 x3) 13 0 12 x3))) else none)) else none)) else none := x_st 91 dX7_driveUp_90 rfl (x_st 92 dX7_driveUp_91 rfl (x_st 95 dX7_driveUp_92 rfl (x_st 96 dX7_driveUp_95 rfl (x_st 97 dX7_driveUp_96 rfl (x_st 100 dX7_driveUp_97 rfl (x_st 101 dX7_driveUp_100 rfl (x_st 104 dX7_driveUp_101 rfl (x_st 105 dX7_driveUp_104 rfl (x_st 106 dX7_driveUp_105 rfl (x_br dX7_driveUp_106 (x_if (x_go 107 (x_st 108 dX7_driveUp_107 rfl (x_st 111 dX7_driveUp_108 rfl (x_st 112 dX7_driveUp_111 rfl (x_st 113 dX7_driveUp_112 rfl (x_st 114 dX7_driveUp_113 rfl (x_st 115 dX7_driveUp_114 rfl (x_st 116 dX7_driveUp_115 rfl (x_st 117 dX7_driveUp_116 rfl (x_st 119 dX7_driveUp_117 rfl (x_ci 122 [vr 13 0, vi x1, vi x2, vi x3, vi x4, vi x5] [vi x2, vi x3, vr 16 0] dX7_driveUp_119 rfl (fun r1 s1 => x_st 123 dX7_driveUp_122 rfl (x_br dX7_driveUp_123 (x_if (x_go 124 (x_st 126 dX7_driveUp_124 rfl (x_br dX7_driveUp_126 (x_if (x_go 149 (x_st 151 dX7_driveUp_149 rfl (x_br dX7_driveUp_151 (x_if (x_go 154 (x_st 155 dX7_driveUp_154 rfl (x_st 156 dX7_driveUp_155 rfl (x_st 157 dX7_driveUp_156 rfl (x_st 158 dX7_driveUp_157 rfl (x_ci 161 [vr 13 0, vi x1, vi x2, vi x3, vi x4, vi x5] [] dX7_driveUp_158 rfl (fun r2 s2 => x_br dX7_driveUp_161 (x_if (x_go 179 (rfl)) (x_go 164 (x_st 165 dX7_driveUp_164 rfl (x_st 168 dX7_driveUp_165 rfl (x_st 169 dX7_driveUp_168 rfl (x_st 170 dX7_driveUp_169 rfl (x_br dX7_driveUp_170 (x_if (x_go 171 (x_st 172 dX7_driveUp_171 rfl (x_st 173 dX7_driveUp_172 rfl (x_st 176 dX7_driveUp_173 rfl (x_st 191 dX7_driveUp_176 rfl (rfl)))))) x_no))))))))))))))) (x_go 179 (rfl)))))) (x_go 129 (x_st 130 dX7_driveUp_129 rfl (x_st 133 dX7_driveUp_130 rfl (x_st 134 dX7_driveUp_133 rfl (x_st 135 dX7_driveUp_134 rfl (x_br dX7_driveUp_135 (x_if (x_go 136 (x_st 137 dX7_driveUp_136 rfl (x_st 138 dX7_driveUp_137 rfl (x_st 141 dX7_driveUp_138 rfl (x_st 142 dX7_driveUp_141 rfl (x_st 143 dX7_driveUp_142 rfl (x_st 146 dX7_driveUp_143 rfl (x_st 191 dX7_driveUp_146 rfl (rfl))))))))) x_no))))))))))) x_no)))))))))))))) x_no)))))))))))
theorem qX7_driveUp_179 (d : Nat) (x1 : Int) (x2 : Int) (x3 : Int) (z4 : PV) (z5 : PV) (s : Sg) : EV d mX7_driveUp (179, [vr 13 0, vi x1, vi x2, vi x3, z4, z5], [], s) = if inb x3 6 then (EV d mX7_driveUp (191, [vr 13 0, vi x1, vi x2, vi x3, z4, z5], [], (up (up s 18 0 (Int.toNat x3) 0) 13 0 12 x3))) else none := x_st 180 dX7_driveUp_179 rfl (x_st 183 dX7_driveUp_180 rfl (x_st 184 dX7_driveUp_183 rfl (x_st 185 dX7_driveUp_184 rfl (x_br dX7_driveUp_185 (x_if (x_go 186 (x_st 187 dX7_driveUp_186 rfl (x_st 188 dX7_driveUp_187 rfl (x_st 191 dX7_driveUp_188 rfl (rfl))))) x_no)))))
theorem qX7_driveUp_191 (d : Nat) (x1 : Int) (x2 : Int) (z3 : PV) (z4 : PV) (z5 : PV) (s : Sg) : EV d mX7_driveUp (191, [vr 13 0, vi x1, vi x2, z3, z4, z5], [], s) = EV d mX7_driveUp (0, [vr 13 0, vi x1, vi x2, z3, z4, z5], [], s) := x_st 0 dX7_driveUp_191 rfl (rfl)
theorem dX7_otherwise_0 : decode cX7_otherwise 0 = .ok (.iconst 0, 1) := by decide +kernel
theorem dX7_otherwise_1 : decode cX7_otherwise 1 = .ok (.istore_n 2, 1) := by decide +kernel
theorem dX7_otherwise_2 : decode cX7_otherwise 2 = .ok (.iconst 0, 1) := by decide +kernel
theorem dX7_otherwise_3 : decode cX7_otherwise 3 = .ok (.istore_n 3, 1) := by decide +kernel
theorem dX7_otherwise_4 : decode cX7_otherwise 4 = .ok (.iload_n 3, 1) := by decide +kernel
theorem dX7_otherwise_5 : decode cX7_otherwise 5 = .ok (.aload_n 0, 1) := by decide +kernel
theorem dX7_otherwise_6 : decode cX7_otherwise 6 = .ok (.getfield 33, 3) := by decide +kernel
theorem dX7_otherwise_9 : decode cX7_otherwise 9 = .ok (.invokevirtual 44, 3) := by decide +kernel
theorem dX7_otherwise_12 : decode cX7_otherwise 12 = .ok (.if_icmp .ge 29, 3) := by decide +kernel
theorem dX7_otherwise_15 : decode cX7_otherwise 15 = .ok (.aload_n 0, 1) := by decide +kernel
theorem dX7_otherwise_16 : decode cX7_otherwise 16 = .ok (.getfield 21, 3) := by decide +kernel
theorem dX7_otherwise_19 : decode cX7_otherwise 19 = .ok (.iload_n 3, 1) := by decide +kernel
theorem dX7_otherwise_20 : decode cX7_otherwise 20 = .ok (.iaload, 1) := by decide +kernel
theorem dX7_otherwise_21 : decode cX7_otherwise 21 = .ok (.aload_n 1, 1) := by decide +kernel
theorem dX7_otherwise_22 : decode cX7_otherwise 22 = .ok (.iload_n 3, 1) := by decide +kernel
theorem dX7_otherwise_23 : decode cX7_otherwise 23 = .ok (.invokevirtual 111, 3) := by decide +kernel
theorem dX7_otherwise_26 : decode cX7_otherwise 26 = .ok (.if_icmp .eq 9, 3) := by decide +kernel
theorem dX7_otherwise_29 : decode cX7_otherwise 29 = .ok (.iload_n 2, 1) := by decide +kernel
theorem dX7_otherwise_30 : decode cX7_otherwise 30 = .ok (.iconst 1, 1) := by decide +kernel
theorem dX7_otherwise_31 : decode cX7_otherwise 31 = .ok (.iload_n 3, 1) := by decide +kernel
theorem dX7_otherwise_32 : decode cX7_otherwise 32 = .ok (.ishl, 1) := by decide +kernel
theorem dX7_otherwise_33 : decode cX7_otherwise 33 = .ok (.ior, 1) := by decide +kernel
theorem dX7_otherwise_34 : decode cX7_otherwise 34 = .ok (.istore_n 2, 1) := by decide +kernel
theorem dX7_otherwise_35 : decode cX7_otherwise 35 = .ok (.iinc 3 1, 3) := by decide +kernel
theorem dX7_otherwise_38 : decode cX7_otherwise 38 = .ok (.goto (-34), 3) := by decide +kernel
theorem dX7_otherwise_41 : decode cX7_otherwise 41 = .ok (.iload_n 2, 1) := by decide +kernel
theorem dX7_otherwise_42 : decode cX7_otherwise 42 = .ok (.ireturn, 1) := by decide +kernel
theorem qX7_otherwise (d : Nat) (j1 : Nat) (s : Sg) : RUN d mX7_otherwise [vr 13 0, vr 30 j1] s = EV d mX7_otherwise (4, [vr 13 0, vr 30 j1, vi 0, vi 0], [], s) := x_run rfl (x_st 1 dX7_otherwise_0 rfl (x_so 2 [vr 13 0, vr 30 j1, vi 0, UU] dX7_otherwise_1 rfl (x_st 3 dX7_otherwise_2 rfl (x_so 4 [vr 13 0, vr 30 j1, vi 0, vi 0] dX7_otherwise_3 rfl (rfl)))))
theorem qX7_otherwise_4 (d : Nat) (j1 : Nat) (x2 : Int) (x3 : Int) (s : Sg) : EV (d + 1) mX7_otherwise (4, [vr 13 0, vr 30 j1, vi x2, vi x3], [], s) = bI (RUN d mX1_size [vr 1 0] s) (fun r1 s1 => if x3 < r1 then (if inb x3 6 then (bI (RUN d mX6_item [vr 30 j1, vi x3] s1) (fun r2 s2 => if (s1 17 0 (Int.toNat x3)) = r2 then (EV (d + 1) mX7_otherwise (35, [vr 13 0, vr 30 j1, vi x2, vi x3], [], s2)) else (EV (d + 1) mX7_otherwise (35, [vr 13 0, vr 30 j1, vi (wor x2 (wshl 1 x3)), vi x3], [], s2)))) else none) else (some (some (vi x2), s1))) := x_st 5 dX7_otherwise_4 rfl (x_st 6 dX7_otherwise_5 rfl (x_st 9 dX7_otherwise_6 rfl (x_ci 12 [vr 13 0, vr 30 j1, vi x2, vi x3] [vi x3] dX7_otherwise_9 rfl (fun r1 s1 => x_br dX7_otherwise_12 (x_if (x_go 15 (x_st 16 dX7_otherwise_15 rfl (x_st 19 dX7_otherwise_16 rfl (x_st 20 dX7_otherwise_19 rfl (x_br dX7_otherwise_20 (x_if (x_go 21 (x_st 22 dX7_otherwise_21 rfl (x_st 23 dX7_otherwise_22 rfl (x_ci 26 [vr 13 0, vr 30 j1, vi x2, vi x3] [vi (s1 17 0 (Int.toNat x3))] dX7_otherwise_23 rfl (fun r2 s2 => x_br dX7_otherwise_26 (x_if (x_go 35 (rfl)) (x_go 29 (x_st 30 dX7_otherwise_29 rfl (x_st 31 dX7_otherwise_30 rfl (x_st 32 dX7_otherwise_31 rfl (x_st 33 dX7_otherwise_32 rfl (x_st 34 dX7_otherwise_33 rfl (x_so 35 [vr 13 0, vr 30 j1, vi (wor x2 (wshl 1 x3)), vi x3] dX7_otherwise_34 rfl (rfl)))))))))))))) x_no)))))) (x_go 41 (x_st 42 dX7_otherwise_41 rfl (x_ret dX7_otherwise_42 rfl))))))))
theorem qX7_otherwise_35 (d : Nat) (j1 : Nat) (x2 : Int) (x3 : Int) (s : Sg) : EV d mX7_otherwise (35, [vr 13 0, vr 30 j1, vi x2, vi x3], [], s) = EV d mX7_otherwise (4, [vr 13 0, vr 30 j1, vi x2, vi (w32 (x3 + 1))], [], s) := x_so 38 [vr 13 0, vr 30 j1, vi x2, vi (w32 (x3 + 1))] dX7_otherwise_35 rfl (x_st 4 dX7_otherwise_38 rfl (rfl))
