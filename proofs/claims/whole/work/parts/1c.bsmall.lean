theorem dX2_take_0 : decode cX2_take 0 = .ok (.aload_n 0, 1) := by decide +kernel
theorem dX2_take_1 : decode cX2_take 1 = .ok (.aload_n 1, 1) := by decide +kernel
theorem dX2_take_2 : decode cX2_take 2 = .ok (.invokevirtual 20, 3) := by decide +kernel
theorem dX2_take_5 : decode cX2_take 5 = .ok (.putfield 16, 3) := by decide +kernel
theorem dX2_take_8 : decode cX2_take 8 = .ok (.aload_n 0, 1) := by decide +kernel
theorem dX2_take_9 : decode cX2_take 9 = .ok (.aload_n 2, 1) := by decide +kernel
theorem dX2_take_10 : decode cX2_take 10 = .ok (.invokevirtual 25, 3) := by decide +kernel
theorem dX2_take_13 : decode cX2_take 13 = .ok (.putfield 30, 3) := by decide +kernel
theorem dX2_take_16 : decode cX2_take 16 = .ok (.iconst 0, 1) := by decide +kernel
theorem dX2_take_17 : decode cX2_take 17 = .ok (.istore_n 3, 1) := by decide +kernel
theorem dX2_take_18 : decode cX2_take 18 = .ok (.iload_n 3, 1) := by decide +kernel
theorem dX2_take_19 : decode cX2_take 19 = .ok (.iconst 5, 1) := by decide +kernel
theorem dX2_take_20 : decode cX2_take 20 = .ok (.if_icmp .ge 43, 3) := by decide +kernel
theorem dX2_take_23 : decode cX2_take 23 = .ok (.iconst 0, 1) := by decide +kernel
theorem dX2_take_24 : decode cX2_take 24 = .ok (.istore 4, 2) := by decide +kernel
theorem dX2_take_26 : decode cX2_take 26 = .ok (.iload 4, 2) := by decide +kernel
theorem dX2_take_28 : decode cX2_take 28 = .ok (.aload_n 0, 1) := by decide +kernel
theorem dX2_take_29 : decode cX2_take 29 = .ok (.getfield 16, 3) := by decide +kernel
theorem dX2_take_32 : decode cX2_take 32 = .ok (.if_icmp .ge 25, 3) := by decide +kernel
theorem dX2_take_35 : decode cX2_take 35 = .ok (.aload_n 0, 1) := by decide +kernel
theorem dX2_take_36 : decode cX2_take 36 = .ok (.getfield 11, 3) := by decide +kernel
theorem dX2_take_39 : decode cX2_take 39 = .ok (.iload_n 3, 1) := by decide +kernel
theorem dX2_take_40 : decode cX2_take 40 = .ok (.aaload, 1) := by decide +kernel
theorem dX2_take_41 : decode cX2_take 41 = .ok (.iload 4, 2) := by decide +kernel
theorem dX2_take_43 : decode cX2_take 43 = .ok (.aload_n 1, 1) := by decide +kernel
theorem dX2_take_44 : decode cX2_take 44 = .ok (.iload_n 3, 1) := by decide +kernel
theorem dX2_take_45 : decode cX2_take 45 = .ok (.iload 4, 2) := by decide +kernel
theorem dX2_take_47 : decode cX2_take 47 = .ok (.invokevirtual 33, 3) := by decide +kernel
theorem dX2_take_50 : decode cX2_take 50 = .ok (.iastore, 1) := by decide +kernel
theorem dX2_take_51 : decode cX2_take 51 = .ok (.iinc 4 1, 3) := by decide +kernel
theorem dX2_take_54 : decode cX2_take 54 = .ok (.goto (-28), 3) := by decide +kernel
theorem dX2_take_57 : decode cX2_take 57 = .ok (.iinc 3 1, 3) := by decide +kernel
theorem dX2_take_60 : decode cX2_take 60 = .ok (.goto (-42), 3) := by decide +kernel
theorem dX2_take_63 : decode cX2_take 63 = .ok (.return_, 1) := by decide +kernel
theorem qX2_take (d : Nat) (s : Sg) : RUN (d + 1) mX2_take [vr 26 0, vr 1 0, vr 4 0] s = bI (RUN d mX1_size [vr 1 0] s) (fun r1 s1 => bI (RUN d mX5_chosen [vr 4 0] (up s1 26 0 1 r1)) (fun r2 s2 => EV (d + 1) mX2_take (18, [vr 26 0, vr 1 0, vr 4 0, vi 0, UU], [], (up s2 26 0 2 r2)))) := x_run rfl (x_st 1 dX2_take_0 rfl (x_st 2 dX2_take_1 rfl (x_ci 5 [vr 26 0, vr 1 0, vr 4 0, UU, UU] [vr 26 0] dX2_take_2 rfl (fun r1 s1 => x_st 8 dX2_take_5 rfl (x_st 9 dX2_take_8 rfl (x_st 10 dX2_take_9 rfl (x_ci 13 [vr 26 0, vr 1 0, vr 4 0, UU, UU] [vr 26 0] dX2_take_10 rfl (fun r2 s2 => x_st 16 dX2_take_13 rfl (x_st 17 dX2_take_16 rfl (x_so 18 [vr 26 0, vr 1 0, vr 4 0, vi 0, UU] dX2_take_17 rfl (rfl)))))))))))
theorem qX2_take_18 (d : Nat) (z2 : PV) (x3 : Int) (z4 : PV) (s : Sg) : EV d mX2_take (18, [vr 26 0, vr 1 0, z2, vi x3, z4], [], s) = if x3 < 5 then (EV d mX2_take (26, [vr 26 0, vr 1 0, z2, vi x3, vi 0], [], s)) else (some (none, s)) := x_st 19 dX2_take_18 rfl (x_st 20 dX2_take_19 rfl (x_br dX2_take_20 (x_if (x_go 23 (x_st 24 dX2_take_23 rfl (x_so 26 [vr 26 0, vr 1 0, z2, vi x3, vi 0] dX2_take_24 rfl (rfl)))) (x_go 63 (x_ret dX2_take_63 rfl)))))
theorem qX2_take_26 (d : Nat) (z2 : PV) (x3 : Int) (x4 : Int) (s : Sg) : EV (d + 1) mX2_take (26, [vr 26 0, vr 1 0, z2, vi x3, vi x4], [], s) = if x4 < (s 26 0 1) then (if inb x3 5 then (bI (RUN d mX1_tell [vr 1 0, vi x3, vi x4] s) (fun r1 s1 => if inb x4 6 then (EV (d + 1) mX2_take (26, [vr 26 0, vr 1 0, z2, vi x3, vi (w32 (x4 + 1))], [], (up s1 28 (Int.toNat x3) (Int.toNat x4) r1))) else none)) else none) else (EV (d + 1) mX2_take (18, [vr 26 0, vr 1 0, z2, vi (w32 (x3 + 1)), vi x4], [], s)) := x_st 28 dX2_take_26 rfl (x_st 29 dX2_take_28 rfl (x_st 32 dX2_take_29 rfl (x_br dX2_take_32 (x_if (x_go 35 (x_st 36 dX2_take_35 rfl (x_st 39 dX2_take_36 rfl (x_st 40 dX2_take_39 rfl (x_br dX2_take_40 (x_if (x_go 41 (x_st 43 dX2_take_41 rfl (x_st 44 dX2_take_43 rfl (x_st 45 dX2_take_44 rfl (x_st 47 dX2_take_45 rfl (x_ci 50 [vr 26 0, vr 1 0, z2, vi x3, vi x4] [vi x4, vr 28 (Int.toNat x3)] dX2_take_47 rfl (fun r1 s1 => x_br dX2_take_50 (x_if (x_go 51 (x_so 54 [vr 26 0, vr 1 0, z2, vi x3, vi (w32 (x4 + 1))] dX2_take_51 rfl (x_st 26 dX2_take_54 rfl (rfl)))) x_no)))))))) x_no)))))) (x_go 57 (x_so 60 [vr 26 0, vr 1 0, z2, vi (w32 (x3 + 1)), vi x4] dX2_take_57 rfl (x_st 18 dX2_take_60 rfl (rfl))))))))
theorem dX2_isTaken_0 : decode cX2_isTaken 0 = .ok (.aload_n 0, 1) := by decide +kernel
theorem dX2_isTaken_1 : decode cX2_isTaken 1 = .ok (.getfield 16, 3) := by decide +kernel
theorem dX2_isTaken_4 : decode cX2_isTaken 4 = .ok (.iconst (-1), 1) := by decide +kernel
theorem dX2_isTaken_5 : decode cX2_isTaken 5 = .ok (.if_icmp .eq 7, 3) := by decide +kernel
theorem dX2_isTaken_8 : decode cX2_isTaken 8 = .ok (.iconst 1, 1) := by decide +kernel
theorem dX2_isTaken_9 : decode cX2_isTaken 9 = .ok (.goto 4, 3) := by decide +kernel
theorem dX2_isTaken_12 : decode cX2_isTaken 12 = .ok (.iconst 0, 1) := by decide +kernel
theorem dX2_isTaken_13 : decode cX2_isTaken 13 = .ok (.ireturn, 1) := by decide +kernel
theorem qX2_isTaken (d : Nat) (s : Sg) : RUN d mX2_isTaken [vr 26 0] s = if (s 26 0 1) = (-1) then (some (some (vi 0), s)) else (some (some (vi 1), s)) := x_run rfl (x_st 1 dX2_isTaken_0 rfl (x_st 4 dX2_isTaken_1 rfl (x_st 5 dX2_isTaken_4 rfl (x_br dX2_isTaken_5 (x_if (x_go 12 (x_st 13 dX2_isTaken_12 rfl (x_ret dX2_isTaken_13 rfl))) (x_go 8 (x_st 9 dX2_isTaken_8 rfl (x_st 13 dX2_isTaken_9 rfl (x_ret dX2_isTaken_13 rfl)))))))))
theorem dX2_layBack_0 : decode cX2_layBack 0 = .ok (.aload_n 1, 1) := by decide +kernel
theorem dX2_layBack_1 : decode cX2_layBack 1 = .ok (.aload_n 0, 1) := by decide +kernel
theorem dX2_layBack_2 : decode cX2_layBack 2 = .ok (.getfield 16, 3) := by decide +kernel
theorem dX2_layBack_5 : decode cX2_layBack 5 = .ok (.invokevirtual 37, 3) := by decide +kernel
theorem dX2_layBack_8 : decode cX2_layBack 8 = .ok (.aload_n 2, 1) := by decide +kernel
theorem dX2_layBack_9 : decode cX2_layBack 9 = .ok (.aload_n 0, 1) := by decide +kernel
theorem dX2_layBack_10 : decode cX2_layBack 10 = .ok (.getfield 30, 3) := by decide +kernel
theorem dX2_layBack_13 : decode cX2_layBack 13 = .ok (.invokevirtual 41, 3) := by decide +kernel
theorem dX2_layBack_16 : decode cX2_layBack 16 = .ok (.pop, 1) := by decide +kernel
theorem dX2_layBack_17 : decode cX2_layBack 17 = .ok (.iconst 0, 1) := by decide +kernel
theorem dX2_layBack_18 : decode cX2_layBack 18 = .ok (.istore_n 3, 1) := by decide +kernel
theorem dX2_layBack_19 : decode cX2_layBack 19 = .ok (.iload_n 3, 1) := by decide +kernel
theorem dX2_layBack_20 : decode cX2_layBack 20 = .ok (.iconst 5, 1) := by decide +kernel
theorem dX2_layBack_21 : decode cX2_layBack 21 = .ok (.if_icmp .ge 44, 3) := by decide +kernel
theorem dX2_layBack_24 : decode cX2_layBack 24 = .ok (.iconst 0, 1) := by decide +kernel
theorem dX2_layBack_25 : decode cX2_layBack 25 = .ok (.istore 4, 2) := by decide +kernel
theorem dX2_layBack_27 : decode cX2_layBack 27 = .ok (.iload 4, 2) := by decide +kernel
theorem dX2_layBack_29 : decode cX2_layBack 29 = .ok (.aload_n 0, 1) := by decide +kernel
theorem dX2_layBack_30 : decode cX2_layBack 30 = .ok (.getfield 16, 3) := by decide +kernel
theorem dX2_layBack_33 : decode cX2_layBack 33 = .ok (.if_icmp .ge 26, 3) := by decide +kernel
theorem dX2_layBack_36 : decode cX2_layBack 36 = .ok (.aload_n 1, 1) := by decide +kernel
theorem dX2_layBack_37 : decode cX2_layBack 37 = .ok (.iload_n 3, 1) := by decide +kernel
theorem dX2_layBack_38 : decode cX2_layBack 38 = .ok (.iload 4, 2) := by decide +kernel
theorem dX2_layBack_40 : decode cX2_layBack 40 = .ok (.aload_n 0, 1) := by decide +kernel
theorem dX2_layBack_41 : decode cX2_layBack 41 = .ok (.getfield 11, 3) := by decide +kernel
theorem dX2_layBack_44 : decode cX2_layBack 44 = .ok (.iload_n 3, 1) := by decide +kernel
theorem dX2_layBack_45 : decode cX2_layBack 45 = .ok (.aaload, 1) := by decide +kernel
theorem dX2_layBack_46 : decode cX2_layBack 46 = .ok (.iload 4, 2) := by decide +kernel
theorem dX2_layBack_48 : decode cX2_layBack 48 = .ok (.iaload, 1) := by decide +kernel
theorem dX2_layBack_49 : decode cX2_layBack 49 = .ok (.invokevirtual 45, 3) := by decide +kernel
theorem dX2_layBack_52 : decode cX2_layBack 52 = .ok (.pop, 1) := by decide +kernel
theorem dX2_layBack_53 : decode cX2_layBack 53 = .ok (.iinc 4 1, 3) := by decide +kernel
theorem dX2_layBack_56 : decode cX2_layBack 56 = .ok (.goto (-29), 3) := by decide +kernel
theorem dX2_layBack_59 : decode cX2_layBack 59 = .ok (.iinc 3 1, 3) := by decide +kernel
theorem dX2_layBack_62 : decode cX2_layBack 62 = .ok (.goto (-43), 3) := by decide +kernel
theorem dX2_layBack_65 : decode cX2_layBack 65 = .ok (.return_, 1) := by decide +kernel
theorem qX2_layBack (d : Nat) (s : Sg) : RUN (d + 1) mX2_layBack [vr 26 0, vr 1 0, vr 4 0] s = bV (RUN d mX1_sendAwayFrom [vr 1 0, vi (s 26 0 1)] s) (fun s1 => bI (RUN d mX5_choose [vr 4 0, vi (s1 26 0 2)] s1) (fun r2 s2 => EV (d + 1) mX2_layBack (19, [vr 26 0, vr 1 0, vr 4 0, vi 0, UU], [], s2))) := x_run rfl (x_st 1 dX2_layBack_0 rfl (x_st 2 dX2_layBack_1 rfl (x_st 5 dX2_layBack_2 rfl (x_cv 8 [vr 26 0, vr 1 0, vr 4 0, UU, UU] [] dX2_layBack_5 rfl (fun s1 => x_st 9 dX2_layBack_8 rfl (x_st 10 dX2_layBack_9 rfl (x_st 13 dX2_layBack_10 rfl (x_ci 16 [vr 26 0, vr 1 0, vr 4 0, UU, UU] [] dX2_layBack_13 rfl (fun r2 s2 => x_st 17 dX2_layBack_16 rfl (x_st 18 dX2_layBack_17 rfl (x_so 19 [vr 26 0, vr 1 0, vr 4 0, vi 0, UU] dX2_layBack_18 rfl (rfl))))))))))))
theorem qX2_layBack_19 (d : Nat) (z2 : PV) (x3 : Int) (z4 : PV) (s : Sg) : EV d mX2_layBack (19, [vr 26 0, vr 1 0, z2, vi x3, z4], [], s) = if x3 < 5 then (EV d mX2_layBack (27, [vr 26 0, vr 1 0, z2, vi x3, vi 0], [], s)) else (some (none, s)) := x_st 20 dX2_layBack_19 rfl (x_st 21 dX2_layBack_20 rfl (x_br dX2_layBack_21 (x_if (x_go 24 (x_st 25 dX2_layBack_24 rfl (x_so 27 [vr 26 0, vr 1 0, z2, vi x3, vi 0] dX2_layBack_25 rfl (rfl)))) (x_go 65 (x_ret dX2_layBack_65 rfl)))))
theorem qX2_layBack_27 (d : Nat) (z2 : PV) (x3 : Int) (x4 : Int) (s : Sg) : EV (d + 1) mX2_layBack (27, [vr 26 0, vr 1 0, z2, vi x3, vi x4], [], s) = if x4 < (s 26 0 1) then (if inb x3 5 then (if inb x4 6 then (bI (RUN d mX1_put [vr 1 0, vi x3, vi x4, vi (s 28 (Int.toNat x3) (Int.toNat x4))] s) (fun r1 s1 => EV (d + 1) mX2_layBack (27, [vr 26 0, vr 1 0, z2, vi x3, vi (w32 (x4 + 1))], [], s1))) else none) else none) else (EV (d + 1) mX2_layBack (19, [vr 26 0, vr 1 0, z2, vi (w32 (x3 + 1)), vi x4], [], s)) := x_st 29 dX2_layBack_27 rfl (x_st 30 dX2_layBack_29 rfl (x_st 33 dX2_layBack_30 rfl (x_br dX2_layBack_33 (x_if (x_go 36 (x_st 37 dX2_layBack_36 rfl (x_st 38 dX2_layBack_37 rfl (x_st 40 dX2_layBack_38 rfl (x_st 41 dX2_layBack_40 rfl (x_st 44 dX2_layBack_41 rfl (x_st 45 dX2_layBack_44 rfl (x_br dX2_layBack_45 (x_if (x_go 46 (x_st 48 dX2_layBack_46 rfl (x_br dX2_layBack_48 (x_if (x_go 49 (x_ci 52 [vr 26 0, vr 1 0, z2, vi x3, vi x4] [] dX2_layBack_49 rfl (fun r1 s1 => x_st 53 dX2_layBack_52 rfl (x_so 56 [vr 26 0, vr 1 0, z2, vi x3, vi (w32 (x4 + 1))] dX2_layBack_53 rfl (x_st 27 dX2_layBack_56 rfl (rfl)))))) x_no)))) x_no))))))))) (x_go 59 (x_so 62 [vr 26 0, vr 1 0, z2, vi (w32 (x3 + 1)), vi x4] dX2_layBack_59 rfl (x_st 19 dX2_layBack_62 rfl (rfl))))))))
theorem dX4_empty_0 : decode cX4_empty 0 = .ok (.aload_n 0, 1) := by decide +kernel
theorem dX4_empty_1 : decode cX4_empty 1 = .ok (.iconst 0, 1) := by decide +kernel
theorem dX4_empty_2 : decode cX4_empty 2 = .ok (.putfield 19, 3) := by decide +kernel
theorem dX4_empty_5 : decode cX4_empty 5 = .ok (.return_, 1) := by decide +kernel
theorem qX4_empty (d : Nat) (s : Sg) : RUN d mX4_empty [vr 11 0] s = some (none, (up s 11 0 2 0)) := x_run rfl (x_st 1 dX4_empty_0 rfl (x_st 2 dX4_empty_1 rfl (x_st 5 dX4_empty_2 rfl (x_ret dX4_empty_5 rfl))))
theorem dX4_lay_0 : decode cX4_lay 0 = .ok (.iconst 0, 1) := by decide +kernel
theorem dX4_lay_1 : decode cX4_lay 1 = .ok (.istore_n 2, 1) := by decide +kernel
theorem dX4_lay_2 : decode cX4_lay 2 = .ok (.iload_n 2, 1) := by decide +kernel
theorem dX4_lay_3 : decode cX4_lay 3 = .ok (.aload_n 1, 1) := by decide +kernel
theorem dX4_lay_4 : decode cX4_lay 4 = .ok (.invokevirtual 23, 3) := by decide +kernel
theorem dX4_lay_7 : decode cX4_lay 7 = .ok (.if_icmp .ge 19, 3) := by decide +kernel
theorem dX4_lay_10 : decode cX4_lay 10 = .ok (.aload_n 0, 1) := by decide +kernel
theorem dX4_lay_11 : decode cX4_lay 11 = .ok (.aload_n 1, 1) := by decide +kernel
theorem dX4_lay_12 : decode cX4_lay 12 = .ok (.iload_n 2, 1) := by decide +kernel
theorem dX4_lay_13 : decode cX4_lay 13 = .ok (.invokevirtual 29, 3) := by decide +kernel
theorem dX4_lay_16 : decode cX4_lay 16 = .ok (.invokevirtual 33, 3) := by decide +kernel
theorem dX4_lay_19 : decode cX4_lay 19 = .ok (.pop, 1) := by decide +kernel
theorem dX4_lay_20 : decode cX4_lay 20 = .ok (.iinc 2 1, 3) := by decide +kernel
theorem dX4_lay_23 : decode cX4_lay 23 = .ok (.goto (-21), 3) := by decide +kernel
theorem dX4_lay_26 : decode cX4_lay 26 = .ok (.return_, 1) := by decide +kernel
theorem qX4_lay (d : Nat) (s : Sg) : RUN d mX4_lay [vr 11 0, vr 55 0] s = EV d mX4_lay (2, [vr 11 0, vr 55 0, vi 0], [], s) := x_run rfl (x_st 1 dX4_lay_0 rfl (x_so 2 [vr 11 0, vr 55 0, vi 0] dX4_lay_1 rfl (rfl)))
theorem qX4_lay_2 (d : Nat) (x2 : Int) (s : Sg) : EV (d + 1) mX4_lay (2, [vr 11 0, vr 55 0, vi x2], [], s) = bI (RUN d mJ0_length_8abf5 [vr 55 0] s) (fun r1 s1 => if x2 < r1 then (bI (RUN d mJ0_charAt_5068e [vr 55 0, vi x2] s1) (fun r2 s2 => bI (RUN d mX4_add [vr 11 0, vi r2] s2) (fun r3 s3 => EV (d + 1) mX4_lay (2, [vr 11 0, vr 55 0, vi (w32 (x2 + 1))], [], s3)))) else (some (none, s1))) := x_st 3 dX4_lay_2 rfl (x_st 4 dX4_lay_3 rfl (x_ci 7 [vr 11 0, vr 55 0, vi x2] [vi x2] dX4_lay_4 rfl (fun r1 s1 => x_br dX4_lay_7 (x_if (x_go 10 (x_st 11 dX4_lay_10 rfl (x_st 12 dX4_lay_11 rfl (x_st 13 dX4_lay_12 rfl (x_ci 16 [vr 11 0, vr 55 0, vi x2] [vr 11 0] dX4_lay_13 rfl (fun r2 s2 => x_ci 19 [vr 11 0, vr 55 0, vi x2] [] dX4_lay_16 rfl (fun r3 s3 => x_st 20 dX4_lay_19 rfl (x_so 23 [vr 11 0, vr 55 0, vi (w32 (x2 + 1))] dX4_lay_20 rfl (x_st 2 dX4_lay_23 rfl (rfl)))))))))) (x_go 26 (x_ret dX4_lay_26 rfl))))))
theorem dX4_readText_0 : decode cX4_readText 0 = .ok (.aload_n 0, 1) := by decide +kernel
theorem dX4_readText_1 : decode cX4_readText 1 = .ok (.iconst 0, 1) := by decide +kernel
theorem dX4_readText_2 : decode cX4_readText 2 = .ok (.putfield 37, 3) := by decide +kernel
theorem dX4_readText_5 : decode cX4_readText 5 = .ok (.aload_n 0, 1) := by decide +kernel
theorem dX4_readText_6 : decode cX4_readText 6 = .ok (.getfield 15, 3) := by decide +kernel
theorem dX4_readText_9 : decode cX4_readText 9 = .ok (.invokevirtual 40, 3) := by decide +kernel
theorem dX4_readText_12 : decode cX4_readText 12 = .ok (.aload_n 0, 1) := by decide +kernel
theorem dX4_readText_13 : decode cX4_readText 13 = .ok (.invokevirtual 45, 3) := by decide +kernel
theorem dX4_readText_16 : decode cX4_readText 16 = .ok (.iconst 0, 1) := by decide +kernel
theorem dX4_readText_17 : decode cX4_readText 17 = .ok (.istore_n 1, 1) := by decide +kernel
theorem dX4_readText_18 : decode cX4_readText 18 = .ok (.iload_n 1, 1) := by decide +kernel
theorem dX4_readText_19 : decode cX4_readText 19 = .ok (.iconst 3, 1) := by decide +kernel
theorem dX4_readText_20 : decode cX4_readText 20 = .ok (.if_icmp .ge 22, 3) := by decide +kernel
theorem dX4_readText_23 : decode cX4_readText 23 = .ok (.aload_n 0, 1) := by decide +kernel
theorem dX4_readText_24 : decode cX4_readText 24 = .ok (.iload_n 1, 1) := by decide +kernel
theorem dX4_readText_25 : decode cX4_readText 25 = .ok (.invokevirtual 48, 3) := by decide +kernel
theorem dX4_readText_28 : decode cX4_readText 28 = .ok (.ifCond .ne 8, 3) := by decide +kernel
theorem dX4_readText_31 : decode cX4_readText 31 = .ok (.aload_n 0, 1) := by decide +kernel
theorem dX4_readText_32 : decode cX4_readText 32 = .ok (.getfield 51, 3) := by decide +kernel
theorem dX4_readText_35 : decode cX4_readText 35 = .ok (.ireturn, 1) := by decide +kernel
theorem dX4_readText_36 : decode cX4_readText 36 = .ok (.iinc 1 1, 3) := by decide +kernel
theorem dX4_readText_39 : decode cX4_readText 39 = .ok (.goto (-21), 3) := by decide +kernel
theorem dX4_readText_42 : decode cX4_readText 42 = .ok (.aload_n 0, 1) := by decide +kernel
theorem dX4_readText_43 : decode cX4_readText 43 = .ok (.getfield 54, 3) := by decide +kernel
theorem dX4_readText_46 : decode cX4_readText 46 = .ok (.bipush 13, 2) := by decide +kernel
theorem dX4_readText_48 : decode cX4_readText 48 = .ok (.if_icmp .eq 8, 3) := by decide +kernel
theorem dX4_readText_51 : decode cX4_readText 51 = .ok (.aload_n 0, 1) := by decide +kernel
theorem dX4_readText_52 : decode cX4_readText 52 = .ok (.getfield 51, 3) := by decide +kernel
theorem dX4_readText_55 : decode cX4_readText 55 = .ok (.ireturn, 1) := by decide +kernel
theorem dX4_readText_56 : decode cX4_readText 56 = .ok (.aload_n 0, 1) := by decide +kernel
theorem dX4_readText_57 : decode cX4_readText 57 = .ok (.getfield 15, 3) := by decide +kernel
theorem dX4_readText_60 : decode cX4_readText 60 = .ok (.invokevirtual 57, 3) := by decide +kernel
theorem dX4_readText_63 : decode cX4_readText 63 = .ok (.iconst (-1), 1) := by decide +kernel
theorem dX4_readText_64 : decode cX4_readText 64 = .ok (.ireturn, 1) := by decide +kernel
theorem qX4_readText (d : Nat) (s : Sg) : RUN (d + 1) mX4_readText [vr 11 0] s = bV (RUN d mX5_beginText [vr 4 0] (up s 11 0 3 0)) (fun s1 => bV (RUN d mX4_step [vr 11 0] s1) (fun s2 => EV (d + 1) mX4_readText (18, [vr 11 0, vi 0], [], s2))) := x_run rfl (x_st 1 dX4_readText_0 rfl (x_st 2 dX4_readText_1 rfl (x_st 5 dX4_readText_2 rfl (x_st 6 dX4_readText_5 rfl (x_st 9 dX4_readText_6 rfl (x_cv 12 [vr 11 0, UU] [] dX4_readText_9 rfl (fun s1 => x_st 13 dX4_readText_12 rfl (x_cv 16 [vr 11 0, UU] [] dX4_readText_13 rfl (fun s2 => x_st 17 dX4_readText_16 rfl (x_so 18 [vr 11 0, vi 0] dX4_readText_17 rfl (rfl)))))))))))
theorem qX4_readText_18 (d : Nat) (x1 : Int) (s : Sg) : EV (d + 1) mX4_readText (18, [vr 11 0, vi x1], [], s) = if x1 < 3 then (bI (RUN d mX4_readPart [vr 11 0, vi x1] s) (fun r1 s1 => if r1 = 0 then (some (some (vi (s1 11 0 5)), s1)) else (EV (d + 1) mX4_readText (18, [vr 11 0, vi (w32 (x1 + 1))], [], s1)))) else (if (s 11 0 4) = 13 then (bV (RUN d mX5_endText [vr 4 0] s) (fun s2 => some (some (vi (-1)), s2))) else (some (some (vi (s 11 0 5)), s))) := x_st 19 dX4_readText_18 rfl (x_st 20 dX4_readText_19 rfl (x_br dX4_readText_20 (x_if (x_go 23 (x_st 24 dX4_readText_23 rfl (x_st 25 dX4_readText_24 rfl (x_ci 28 [vr 11 0, vi x1] [] dX4_readText_25 rfl (fun r1 s1 => x_br dX4_readText_28 (x_if (x_go 31 (x_st 32 dX4_readText_31 rfl (x_st 35 dX4_readText_32 rfl (x_ret dX4_readText_35 rfl)))) (x_go 36 (x_so 39 [vr 11 0, vi (w32 (x1 + 1))] dX4_readText_36 rfl (x_st 18 dX4_readText_39 rfl (rfl)))))))))) (x_go 42 (x_st 43 dX4_readText_42 rfl (x_st 46 dX4_readText_43 rfl (x_st 48 dX4_readText_46 rfl (x_br dX4_readText_48 (x_if (x_go 56 (x_st 57 dX4_readText_56 rfl (x_st 60 dX4_readText_57 rfl (x_cv 63 [vr 11 0, vi x1] [] dX4_readText_60 rfl (fun s2 => x_st 64 dX4_readText_63 rfl (x_ret dX4_readText_64 rfl)))))) (x_go 51 (x_st 52 dX4_readText_51 rfl (x_st 55 dX4_readText_52 rfl (x_ret dX4_readText_55 rfl)))))))))))))
theorem dX4_step_0 : decode cX4_step 0 = .ok (.aload_n 0, 1) := by decide +kernel
theorem dX4_step_1 : decode cX4_step 1 = .ok (.getfield 37, 3) := by decide +kernel
theorem dX4_step_4 : decode cX4_step 4 = .ok (.aload_n 0, 1) := by decide +kernel
theorem dX4_step_5 : decode cX4_step 5 = .ok (.getfield 19, 3) := by decide +kernel
theorem dX4_step_8 : decode cX4_step 8 = .ok (.if_icmp .ge 44, 3) := by decide +kernel
theorem dX4_step_11 : decode cX4_step 11 = .ok (.aload_n 0, 1) := by decide +kernel
theorem dX4_step_12 : decode cX4_step 12 = .ok (.getfield 9, 3) := by decide +kernel
theorem dX4_step_15 : decode cX4_step 15 = .ok (.aload_n 0, 1) := by decide +kernel
theorem dX4_step_16 : decode cX4_step 16 = .ok (.getfield 37, 3) := by decide +kernel
theorem dX4_step_19 : decode cX4_step 19 = .ok (.iaload, 1) := by decide +kernel
theorem dX4_step_20 : decode cX4_step 20 = .ok (.bipush 32, 2) := by decide +kernel
theorem dX4_step_22 : decode cX4_step 22 = .ok (.if_icmp .eq 17, 3) := by decide +kernel
theorem dX4_step_25 : decode cX4_step 25 = .ok (.aload_n 0, 1) := by decide +kernel
theorem dX4_step_26 : decode cX4_step 26 = .ok (.getfield 9, 3) := by decide +kernel
theorem dX4_step_29 : decode cX4_step 29 = .ok (.aload_n 0, 1) := by decide +kernel
theorem dX4_step_30 : decode cX4_step 30 = .ok (.getfield 37, 3) := by decide +kernel
theorem dX4_step_33 : decode cX4_step 33 = .ok (.iaload, 1) := by decide +kernel
theorem dX4_step_34 : decode cX4_step 34 = .ok (.bipush 10, 2) := by decide +kernel
theorem dX4_step_36 : decode cX4_step 36 = .ok (.if_icmp .ne 16, 3) := by decide +kernel
theorem dX4_step_39 : decode cX4_step 39 = .ok (.aload_n 0, 1) := by decide +kernel
theorem dX4_step_40 : decode cX4_step 40 = .ok (.dup, 1) := by decide +kernel
theorem dX4_step_41 : decode cX4_step 41 = .ok (.getfield 37, 3) := by decide +kernel
theorem dX4_step_44 : decode cX4_step 44 = .ok (.iconst 1, 1) := by decide +kernel
theorem dX4_step_45 : decode cX4_step 45 = .ok (.iadd, 1) := by decide +kernel
theorem dX4_step_46 : decode cX4_step 46 = .ok (.putfield 37, 3) := by decide +kernel
theorem dX4_step_49 : decode cX4_step 49 = .ok (.goto (-49), 3) := by decide +kernel
theorem dX4_step_52 : decode cX4_step 52 = .ok (.aload_n 0, 1) := by decide +kernel
theorem dX4_step_53 : decode cX4_step 53 = .ok (.aload_n 0, 1) := by decide +kernel
theorem dX4_step_54 : decode cX4_step 54 = .ok (.getfield 37, 3) := by decide +kernel
theorem dX4_step_57 : decode cX4_step 57 = .ok (.putfield 51, 3) := by decide +kernel
theorem dX4_step_60 : decode cX4_step 60 = .ok (.aload_n 0, 1) := by decide +kernel
theorem dX4_step_61 : decode cX4_step 61 = .ok (.getfield 37, 3) := by decide +kernel
theorem dX4_step_64 : decode cX4_step 64 = .ok (.aload_n 0, 1) := by decide +kernel
theorem dX4_step_65 : decode cX4_step 65 = .ok (.getfield 19, 3) := by decide +kernel
theorem dX4_step_68 : decode cX4_step 68 = .ok (.if_icmp .lt 12, 3) := by decide +kernel
theorem dX4_step_71 : decode cX4_step 71 = .ok (.aload_n 0, 1) := by decide +kernel
theorem dX4_step_72 : decode cX4_step 72 = .ok (.bipush 13, 2) := by decide +kernel
theorem dX4_step_74 : decode cX4_step 74 = .ok (.putfield 54, 3) := by decide +kernel
theorem dX4_step_77 : decode cX4_step 77 = .ok (.goto 85, 3) := by decide +kernel
theorem dX4_step_80 : decode cX4_step 80 = .ok (.aload_n 0, 1) := by decide +kernel
theorem dX4_step_81 : decode cX4_step 81 = .ok (.aload_n 0, 1) := by decide +kernel
theorem dX4_step_82 : decode cX4_step 82 = .ok (.getfield 37, 3) := by decide +kernel
theorem dX4_step_85 : decode cX4_step 85 = .ok (.invokevirtual 97, 3) := by decide +kernel
theorem dX4_step_88 : decode cX4_step 88 = .ok (.ifCond .eq 10, 3) := by decide +kernel
theorem dX4_step_91 : decode cX4_step 91 = .ok (.aload_n 0, 1) := by decide +kernel
theorem dX4_step_92 : decode cX4_step 92 = .ok (.invokevirtual 100, 3) := by decide +kernel
theorem dX4_step_95 : decode cX4_step 95 = .ok (.goto 67, 3) := by decide +kernel
theorem dX4_step_98 : decode cX4_step 98 = .ok (.aload_n 0, 1) := by decide +kernel
theorem dX4_step_99 : decode cX4_step 99 = .ok (.aload_n 0, 1) := by decide +kernel
theorem dX4_step_100 : decode cX4_step 100 = .ok (.getfield 37, 3) := by decide +kernel
theorem dX4_step_103 : decode cX4_step 103 = .ok (.invokevirtual 103, 3) := by decide +kernel
theorem dX4_step_106 : decode cX4_step 106 = .ok (.ifCond .eq 10, 3) := by decide +kernel
theorem dX4_step_109 : decode cX4_step 109 = .ok (.aload_n 0, 1) := by decide +kernel
theorem dX4_step_110 : decode cX4_step 110 = .ok (.invokevirtual 106, 3) := by decide +kernel
theorem dX4_step_113 : decode cX4_step 113 = .ok (.goto 49, 3) := by decide +kernel
theorem dX4_step_116 : decode cX4_step 116 = .ok (.aload_n 0, 1) := by decide +kernel
theorem dX4_step_117 : decode cX4_step 117 = .ok (.ldc 109, 2) := by decide +kernel
theorem dX4_step_119 : decode cX4_step 119 = .ok (.aload_n 0, 1) := by decide +kernel
theorem dX4_step_120 : decode cX4_step 120 = .ok (.getfield 9, 3) := by decide +kernel
theorem dX4_step_123 : decode cX4_step 123 = .ok (.aload_n 0, 1) := by decide +kernel
theorem dX4_step_124 : decode cX4_step 124 = .ok (.getfield 37, 3) := by decide +kernel
theorem dX4_step_127 : decode cX4_step 127 = .ok (.iaload, 1) := by decide +kernel
theorem dX4_step_128 : decode cX4_step 128 = .ok (.i2c, 1) := by decide +kernel
theorem dX4_step_129 : decode cX4_step 129 = .ok (.invokevirtual 111, 3) := by decide +kernel
theorem dX4_step_132 : decode cX4_step 132 = .ok (.ifCond .lt 15, 3) := by decide +kernel
theorem dX4_step_135 : decode cX4_step 135 = .ok (.aload_n 0, 1) := by decide +kernel
theorem dX4_step_136 : decode cX4_step 136 = .ok (.getfield 9, 3) := by decide +kernel
theorem dX4_step_139 : decode cX4_step 139 = .ok (.aload_n 0, 1) := by decide +kernel
theorem dX4_step_140 : decode cX4_step 140 = .ok (.getfield 37, 3) := by decide +kernel
theorem dX4_step_143 : decode cX4_step 143 = .ok (.iaload, 1) := by decide +kernel
theorem dX4_step_144 : decode cX4_step 144 = .ok (.goto 5, 3) := by decide +kernel
theorem dX4_step_147 : decode cX4_step 147 = .ok (.bipush 14, 2) := by decide +kernel
theorem dX4_step_149 : decode cX4_step 149 = .ok (.putfield 54, 3) := by decide +kernel
theorem dX4_step_152 : decode cX4_step 152 = .ok (.aload_n 0, 1) := by decide +kernel
theorem dX4_step_153 : decode cX4_step 153 = .ok (.dup, 1) := by decide +kernel
theorem dX4_step_154 : decode cX4_step 154 = .ok (.getfield 37, 3) := by decide +kernel
theorem dX4_step_157 : decode cX4_step 157 = .ok (.iconst 1, 1) := by decide +kernel
theorem dX4_step_158 : decode cX4_step 158 = .ok (.iadd, 1) := by decide +kernel
theorem dX4_step_159 : decode cX4_step 159 = .ok (.putfield 37, 3) := by decide +kernel
theorem dX4_step_162 : decode cX4_step 162 = .ok (.return_, 1) := by decide +kernel
theorem qX4_step (d : Nat) (s : Sg) : RUN d mX4_step [vr 11 0] s = EV d mX4_step (0, [vr 11 0], [], s) := x_run rfl (rfl)
theorem qX4_step_0 (d : Nat) (s : Sg) : EV d mX4_step (0, [vr 11 0], [], s) = if (s 11 0 3) < (s 11 0 2) then (if inb (s 11 0 3) 160 then (if (s 12 0 (Int.toNat (s 11 0 3))) = 32 then (EV d mX4_step (39, [vr 11 0], [], s)) else (if inb (s 11 0 3) 160 then (if (s 12 0 (Int.toNat (s 11 0 3))) = 10 then (EV d mX4_step (39, [vr 11 0], [], s)) else (EV d mX4_step (52, [vr 11 0], [], s))) else none)) else none) else (EV d mX4_step (52, [vr 11 0], [], s)) := x_st 1 dX4_step_0 rfl (x_st 4 dX4_step_1 rfl (x_st 5 dX4_step_4 rfl (x_st 8 dX4_step_5 rfl (x_br dX4_step_8 (x_if (x_go 11 (x_st 12 dX4_step_11 rfl (x_st 15 dX4_step_12 rfl (x_st 16 dX4_step_15 rfl (x_st 19 dX4_step_16 rfl (x_br dX4_step_19 (x_if (x_go 20 (x_st 22 dX4_step_20 rfl (x_br dX4_step_22 (x_if (x_go 39 (rfl)) (x_go 25 (x_st 26 dX4_step_25 rfl (x_st 29 dX4_step_26 rfl (x_st 30 dX4_step_29 rfl (x_st 33 dX4_step_30 rfl (x_br dX4_step_33 (x_if (x_go 34 (x_st 36 dX4_step_34 rfl (x_br dX4_step_36 (x_if (x_go 39 (rfl)) (x_go 52 (rfl)))))) x_no))))))))))) x_no))))))) (x_go 52 (rfl)))))))
theorem qX4_step_39 (d : Nat) (s : Sg) : EV d mX4_step (39, [vr 11 0], [], s) = EV d mX4_step (0, [vr 11 0], [], (up s 11 0 3 (w32 ((s 11 0 3) + 1)))) := x_st 40 dX4_step_39 rfl (x_st 41 dX4_step_40 rfl (x_st 44 dX4_step_41 rfl (x_st 45 dX4_step_44 rfl (x_st 46 dX4_step_45 rfl (x_st 49 dX4_step_46 rfl (x_st 0 dX4_step_49 rfl (rfl)))))))
theorem qX4_step_52 (d : Nat) (s : Sg) : EV (d + 1) mX4_step (52, [vr 11 0], [], s) = if (s 11 0 3) < (s 11 0 2) then (bI (RUN d mX4_isLetter [vr 11 0, vi (s 11 0 3)] (up s 11 0 5 (s 11 0 3))) (fun r1 s1 => if r1 = 0 then (bI (RUN d mX4_isDigit [vr 11 0, vi (s1 11 0 3)] s1) (fun r2 s2 => if r2 = 0 then (if inb (s2 11 0 3) 160 then (bI (RUN d mJ0_indexOf_0f7a4 [vr 57 0, vi (wi2c (s2 12 0 (Int.toNat (s2 11 0 3))))] s2) (fun r3 s3 => if r3 < 0 then (EV (d + 1) mX4_step (149, [vr 11 0], [vi 14, vr 11 0], s3)) else (if inb (s3 11 0 3) 160 then (EV (d + 1) mX4_step (149, [vr 11 0], [vi (s3 12 0 (Int.toNat (s3 11 0 3))), vr 11 0], s3)) else none))) else none) else (bV (RUN d mX4_stepNumeral [vr 11 0] s2) (fun s4 => some (none, s4))))) else (bV (RUN d mX4_stepWord [vr 11 0] s1) (fun s5 => some (none, s5))))) else (some (none, (up (up s 11 0 5 (s 11 0 3)) 11 0 4 13))) := x_st 53 dX4_step_52 rfl (x_st 54 dX4_step_53 rfl (x_st 57 dX4_step_54 rfl (x_st 60 dX4_step_57 rfl (x_st 61 dX4_step_60 rfl (x_st 64 dX4_step_61 rfl (x_st 65 dX4_step_64 rfl (x_st 68 dX4_step_65 rfl (x_br dX4_step_68 (x_if (x_go 80 (x_st 81 dX4_step_80 rfl (x_st 82 dX4_step_81 rfl (x_st 85 dX4_step_82 rfl (x_ci 88 [vr 11 0] [] dX4_step_85 rfl (fun r1 s1 => x_br dX4_step_88 (x_if (x_go 98 (x_st 99 dX4_step_98 rfl (x_st 100 dX4_step_99 rfl (x_st 103 dX4_step_100 rfl (x_ci 106 [vr 11 0] [] dX4_step_103 rfl (fun r2 s2 => x_br dX4_step_106 (x_if (x_go 116 (x_st 117 dX4_step_116 rfl (x_st 119 dX4_step_117 rfl (x_st 120 dX4_step_119 rfl (x_st 123 dX4_step_120 rfl (x_st 124 dX4_step_123 rfl (x_st 127 dX4_step_124 rfl (x_br dX4_step_127 (x_if (x_go 128 (x_st 129 dX4_step_128 rfl (x_ci 132 [vr 11 0] [vr 11 0] dX4_step_129 rfl (fun r3 s3 => x_br dX4_step_132 (x_if (x_go 147 (x_st 149 dX4_step_147 rfl (rfl))) (x_go 135 (x_st 136 dX4_step_135 rfl (x_st 139 dX4_step_136 rfl (x_st 140 dX4_step_139 rfl (x_st 143 dX4_step_140 rfl (x_br dX4_step_143 (x_if (x_go 144 (x_st 149 dX4_step_144 rfl (rfl))) x_no)))))))))))) x_no))))))))) (x_go 109 (x_st 110 dX4_step_109 rfl (x_cv 113 [vr 11 0] [] dX4_step_110 rfl (fun s4 => x_st 162 dX4_step_113 rfl (x_ret dX4_step_162 rfl)))))))))))) (x_go 91 (x_st 92 dX4_step_91 rfl (x_cv 95 [vr 11 0] [] dX4_step_92 rfl (fun s5 => x_st 162 dX4_step_95 rfl (x_ret dX4_step_162 rfl)))))))))))) (x_go 71 (x_st 72 dX4_step_71 rfl (x_st 74 dX4_step_72 rfl (x_st 77 dX4_step_74 rfl (x_st 162 dX4_step_77 rfl (x_ret dX4_step_162 rfl)))))))))))))))
theorem qX4_step_149 (d : Nat) (y0 : Int) (s : Sg) : EV d mX4_step (149, [vr 11 0], [vi y0, vr 11 0], s) = some (none, (up (up s 11 0 4 y0) 11 0 3 (w32 ((s 11 0 3) + 1)))) := x_st 152 dX4_step_149 rfl (x_st 153 dX4_step_152 rfl (x_st 154 dX4_step_153 rfl (x_st 157 dX4_step_154 rfl (x_st 158 dX4_step_157 rfl (x_st 159 dX4_step_158 rfl (x_st 162 dX4_step_159 rfl (x_ret dX4_step_162 rfl)))))))
theorem dX4_add_0 : decode cX4_add 0 = .ok (.aload_n 0, 1) := by decide +kernel
theorem dX4_add_1 : decode cX4_add 1 = .ok (.getfield 19, 3) := by decide +kernel
theorem dX4_add_4 : decode cX4_add 4 = .ok (.sipush 160, 3) := by decide +kernel
theorem dX4_add_7 : decode cX4_add 7 = .ok (.if_icmp .lt 5, 3) := by decide +kernel
theorem dX4_add_10 : decode cX4_add 10 = .ok (.iconst 0, 1) := by decide +kernel
theorem dX4_add_11 : decode cX4_add 11 = .ok (.ireturn, 1) := by decide +kernel
theorem dX4_add_12 : decode cX4_add 12 = .ok (.aload_n 0, 1) := by decide +kernel
theorem dX4_add_13 : decode cX4_add 13 = .ok (.getfield 9, 3) := by decide +kernel
theorem dX4_add_16 : decode cX4_add 16 = .ok (.aload_n 0, 1) := by decide +kernel
theorem dX4_add_17 : decode cX4_add 17 = .ok (.dup, 1) := by decide +kernel
theorem dX4_add_18 : decode cX4_add 18 = .ok (.getfield 19, 3) := by decide +kernel
theorem dX4_add_21 : decode cX4_add 21 = .ok (.dup_x1, 1) := by decide +kernel
theorem dX4_add_22 : decode cX4_add 22 = .ok (.iconst 1, 1) := by decide +kernel
theorem dX4_add_23 : decode cX4_add 23 = .ok (.iadd, 1) := by decide +kernel
theorem dX4_add_24 : decode cX4_add 24 = .ok (.putfield 19, 3) := by decide +kernel
theorem dX4_add_27 : decode cX4_add 27 = .ok (.iload_n 1, 1) := by decide +kernel
theorem dX4_add_28 : decode cX4_add 28 = .ok (.iastore, 1) := by decide +kernel
theorem dX4_add_29 : decode cX4_add 29 = .ok (.iconst 1, 1) := by decide +kernel
theorem dX4_add_30 : decode cX4_add 30 = .ok (.ireturn, 1) := by decide +kernel
theorem qX4_add (d : Nat) (x1 : Int) (s : Sg) : RUN d mX4_add [vr 11 0, vi x1] s = if (s 11 0 2) < 160 then (if inb (s 11 0 2) 160 then (some (some (vi 1), (up (up s 11 0 2 (w32 ((s 11 0 2) + 1))) 12 0 (Int.toNat (s 11 0 2)) x1))) else none) else (some (some (vi 0), s)) := x_run rfl (x_st 1 dX4_add_0 rfl (x_st 4 dX4_add_1 rfl (x_st 7 dX4_add_4 rfl (x_br dX4_add_7 (x_if (x_go 12 (x_st 13 dX4_add_12 rfl (x_st 16 dX4_add_13 rfl (x_st 17 dX4_add_16 rfl (x_st 18 dX4_add_17 rfl (x_st 21 dX4_add_18 rfl (x_st 22 dX4_add_21 rfl (x_st 23 dX4_add_22 rfl (x_st 24 dX4_add_23 rfl (x_st 27 dX4_add_24 rfl (x_st 28 dX4_add_27 rfl (x_br dX4_add_28 (x_if (x_go 29 (x_st 30 dX4_add_29 rfl (x_ret dX4_add_30 rfl))) x_no))))))))))))) (x_go 10 (x_st 11 dX4_add_10 rfl (x_ret dX4_add_11 rfl))))))))
theorem dX4_size_0 : decode cX4_size 0 = .ok (.aload_n 0, 1) := by decide +kernel
theorem dX4_size_1 : decode cX4_size 1 = .ok (.getfield 19, 3) := by decide +kernel
theorem dX4_size_4 : decode cX4_size 4 = .ok (.ireturn, 1) := by decide +kernel
theorem qX4_size (d : Nat) (s : Sg) : RUN d mX4_size [vr 11 0] s = some (some (vi (s 11 0 2)), s) := x_run rfl (x_st 1 dX4_size_0 rfl (x_st 4 dX4_size_1 rfl (x_ret dX4_size_4 rfl)))
theorem dX4_readPart_0 : decode cX4_readPart 0 = .ok (.aload_n 0, 1) := by decide +kernel
theorem dX4_readPart_1 : decode cX4_readPart 1 = .ok (.getfield 54, 3) := by decide +kernel
theorem dX4_readPart_4 : decode cX4_readPart 4 = .ok (.bipush 6, 2) := by decide +kernel
theorem dX4_readPart_6 : decode cX4_readPart 6 = .ok (.iload_n 1, 1) := by decide +kernel
theorem dX4_readPart_7 : decode cX4_readPart 7 = .ok (.iadd, 1) := by decide +kernel
theorem dX4_readPart_8 : decode cX4_readPart 8 = .ok (.if_icmp .eq 5, 3) := by decide +kernel
theorem dX4_readPart_11 : decode cX4_readPart 11 = .ok (.iconst 0, 1) := by decide +kernel
theorem dX4_readPart_12 : decode cX4_readPart 12 = .ok (.ireturn, 1) := by decide +kernel
theorem dX4_readPart_13 : decode cX4_readPart 13 = .ok (.aload_n 0, 1) := by decide +kernel
theorem dX4_readPart_14 : decode cX4_readPart 14 = .ok (.invokevirtual 45, 3) := by decide +kernel
theorem dX4_readPart_17 : decode cX4_readPart 17 = .ok (.aload_n 0, 1) := by decide +kernel
theorem dX4_readPart_18 : decode cX4_readPart 18 = .ok (.getfield 15, 3) := by decide +kernel
theorem dX4_readPart_21 : decode cX4_readPart 21 = .ok (.iload_n 1, 1) := by decide +kernel
theorem dX4_readPart_22 : decode cX4_readPart 22 = .ok (.invokevirtual 60, 3) := by decide +kernel
theorem dX4_readPart_25 : decode cX4_readPart 25 = .ok (.aload_n 0, 1) := by decide +kernel
theorem dX4_readPart_26 : decode cX4_readPart 26 = .ok (.iconst 0, 1) := by decide +kernel
theorem dX4_readPart_27 : decode cX4_readPart 27 = .ok (.invokevirtual 64, 3) := by decide +kernel
theorem dX4_readPart_30 : decode cX4_readPart 30 = .ok (.ifCond .eq 12, 3) := by decide +kernel
theorem dX4_readPart_33 : decode cX4_readPart 33 = .ok (.aload_n 0, 1) := by decide +kernel
theorem dX4_readPart_34 : decode cX4_readPart 34 = .ok (.getfield 54, 3) := by decide +kernel
theorem dX4_readPart_37 : decode cX4_readPart 37 = .ok (.bipush 59, 2) := by decide +kernel
theorem dX4_readPart_39 : decode cX4_readPart 39 = .ok (.if_icmp .eq 5, 3) := by decide +kernel
theorem dX4_readPart_42 : decode cX4_readPart 42 = .ok (.iconst 0, 1) := by decide +kernel
theorem dX4_readPart_43 : decode cX4_readPart 43 = .ok (.ireturn, 1) := by decide +kernel
theorem dX4_readPart_44 : decode cX4_readPart 44 = .ok (.aload_n 0, 1) := by decide +kernel
theorem dX4_readPart_45 : decode cX4_readPart 45 = .ok (.invokevirtual 45, 3) := by decide +kernel
theorem dX4_readPart_48 : decode cX4_readPart 48 = .ok (.aload_n 0, 1) := by decide +kernel
theorem dX4_readPart_49 : decode cX4_readPart 49 = .ok (.getfield 15, 3) := by decide +kernel
theorem dX4_readPart_52 : decode cX4_readPart 52 = .ok (.bipush (-16), 2) := by decide +kernel
theorem dX4_readPart_54 : decode cX4_readPart 54 = .ok (.invokevirtual 67, 3) := by decide +kernel
theorem dX4_readPart_57 : decode cX4_readPart 57 = .ok (.iconst 1, 1) := by decide +kernel
theorem dX4_readPart_58 : decode cX4_readPart 58 = .ok (.ireturn, 1) := by decide +kernel
theorem qX4_readPart (d : Nat) (x1 : Int) (s : Sg) : RUN (d + 1) mX4_readPart [vr 11 0, vi x1] s = if (s 11 0 4) = (w32 (6 + x1)) then (bV (RUN d mX4_step [vr 11 0] s) (fun s1 => bV (RUN d mX5_beginPart [vr 4 0, vi x1] s1) (fun s2 => bI (RUN d mX4_readOr [vr 11 0, vi 0] s2) (fun r3 s3 => if r3 = 0 then (some (some (vi 0), s3)) else (if (s3 11 0 4) = 59 then (bV (RUN d mX4_step [vr 11 0] s3) (fun s4 => bV (RUN d mX5_write [vr 4 0, vi (-16)] s4) (fun s5 => some (some (vi 1), s5)))) else (some (some (vi 0), s3))))))) else (some (some (vi 0), s)) := x_run rfl (x_st 1 dX4_readPart_0 rfl (x_st 4 dX4_readPart_1 rfl (x_st 6 dX4_readPart_4 rfl (x_st 7 dX4_readPart_6 rfl (x_st 8 dX4_readPart_7 rfl (x_br dX4_readPart_8 (x_if (x_go 13 (x_st 14 dX4_readPart_13 rfl (x_cv 17 [vr 11 0, vi x1] [] dX4_readPart_14 rfl (fun s1 => x_st 18 dX4_readPart_17 rfl (x_st 21 dX4_readPart_18 rfl (x_st 22 dX4_readPart_21 rfl (x_cv 25 [vr 11 0, vi x1] [] dX4_readPart_22 rfl (fun s2 => x_st 26 dX4_readPart_25 rfl (x_st 27 dX4_readPart_26 rfl (x_ci 30 [vr 11 0, vi x1] [] dX4_readPart_27 rfl (fun r3 s3 => x_br dX4_readPart_30 (x_if (x_go 42 (x_st 43 dX4_readPart_42 rfl (x_ret dX4_readPart_43 rfl))) (x_go 33 (x_st 34 dX4_readPart_33 rfl (x_st 37 dX4_readPart_34 rfl (x_st 39 dX4_readPart_37 rfl (x_br dX4_readPart_39 (x_if (x_go 44 (x_st 45 dX4_readPart_44 rfl (x_cv 48 [vr 11 0, vi x1] [] dX4_readPart_45 rfl (fun s4 => x_st 49 dX4_readPart_48 rfl (x_st 52 dX4_readPart_49 rfl (x_st 54 dX4_readPart_52 rfl (x_cv 57 [vr 11 0, vi x1] [] dX4_readPart_54 rfl (fun s5 => x_st 58 dX4_readPart_57 rfl (x_ret dX4_readPart_58 rfl))))))))) (x_go 42 (x_st 43 dX4_readPart_42 rfl (x_ret dX4_readPart_43 rfl))))))))))))))))))))) (x_go 11 (x_st 12 dX4_readPart_11 rfl (x_ret dX4_readPart_12 rfl))))))))))
theorem dX4_readOr_0 : decode cX4_readOr 0 = .ok (.aload_n 0, 1) := by decide +kernel
theorem dX4_readOr_1 : decode cX4_readOr 1 = .ok (.iload_n 1, 1) := by decide +kernel
theorem dX4_readOr_2 : decode cX4_readOr 2 = .ok (.invokevirtual 70, 3) := by decide +kernel
theorem dX4_readOr_5 : decode cX4_readOr 5 = .ok (.ifCond .ne 5, 3) := by decide +kernel
theorem dX4_readOr_8 : decode cX4_readOr 8 = .ok (.iconst 0, 1) := by decide +kernel
theorem dX4_readOr_9 : decode cX4_readOr 9 = .ok (.ireturn, 1) := by decide +kernel
theorem dX4_readOr_10 : decode cX4_readOr 10 = .ok (.iconst 0, 1) := by decide +kernel
theorem dX4_readOr_11 : decode cX4_readOr 11 = .ok (.istore_n 2, 1) := by decide +kernel
theorem dX4_readOr_12 : decode cX4_readOr 12 = .ok (.iload_n 2, 1) := by decide +kernel
theorem dX4_readOr_13 : decode cX4_readOr 13 = .ok (.sipush 160, 3) := by decide +kernel
theorem dX4_readOr_16 : decode cX4_readOr 16 = .ok (.if_icmp .ge 41, 3) := by decide +kernel
theorem dX4_readOr_19 : decode cX4_readOr 19 = .ok (.aload_n 0, 1) := by decide +kernel
theorem dX4_readOr_20 : decode cX4_readOr 20 = .ok (.getfield 54, 3) := by decide +kernel
theorem dX4_readOr_23 : decode cX4_readOr 23 = .ok (.bipush 9, 2) := by decide +kernel
theorem dX4_readOr_25 : decode cX4_readOr 25 = .ok (.if_icmp .ne 32, 3) := by decide +kernel
theorem dX4_readOr_28 : decode cX4_readOr 28 = .ok (.aload_n 0, 1) := by decide +kernel
theorem dX4_readOr_29 : decode cX4_readOr 29 = .ok (.invokevirtual 45, 3) := by decide +kernel
theorem dX4_readOr_32 : decode cX4_readOr 32 = .ok (.aload_n 0, 1) := by decide +kernel
theorem dX4_readOr_33 : decode cX4_readOr 33 = .ok (.iload_n 1, 1) := by decide +kernel
theorem dX4_readOr_34 : decode cX4_readOr 34 = .ok (.invokevirtual 70, 3) := by decide +kernel
theorem dX4_readOr_37 : decode cX4_readOr 37 = .ok (.ifCond .ne 5, 3) := by decide +kernel
theorem dX4_readOr_40 : decode cX4_readOr 40 = .ok (.iconst 0, 1) := by decide +kernel
theorem dX4_readOr_41 : decode cX4_readOr 41 = .ok (.ireturn, 1) := by decide +kernel
theorem dX4_readOr_42 : decode cX4_readOr 42 = .ok (.aload_n 0, 1) := by decide +kernel
theorem dX4_readOr_43 : decode cX4_readOr 43 = .ok (.getfield 15, 3) := by decide +kernel
theorem dX4_readOr_46 : decode cX4_readOr 46 = .ok (.bipush (-7), 2) := by decide +kernel
theorem dX4_readOr_48 : decode cX4_readOr 48 = .ok (.invokevirtual 67, 3) := by decide +kernel
theorem dX4_readOr_51 : decode cX4_readOr 51 = .ok (.iinc 2 1, 3) := by decide +kernel
theorem dX4_readOr_54 : decode cX4_readOr 54 = .ok (.goto (-42), 3) := by decide +kernel
theorem dX4_readOr_57 : decode cX4_readOr 57 = .ok (.iconst 1, 1) := by decide +kernel
theorem dX4_readOr_58 : decode cX4_readOr 58 = .ok (.ireturn, 1) := by decide +kernel
theorem qX4_readOr (d : Nat) (x1 : Int) (s : Sg) : RUN (d + 1) mX4_readOr [vr 11 0, vi x1] s = bI (RUN d mX4_readAnd [vr 11 0, vi x1] s) (fun r1 s1 => if r1 = 0 then (some (some (vi 0), s1)) else (EV (d + 1) mX4_readOr (12, [vr 11 0, vi x1, vi 0], [], s1))) := x_run rfl (x_st 1 dX4_readOr_0 rfl (x_st 2 dX4_readOr_1 rfl (x_ci 5 [vr 11 0, vi x1, UU] [] dX4_readOr_2 rfl (fun r1 s1 => x_br dX4_readOr_5 (x_if (x_go 8 (x_st 9 dX4_readOr_8 rfl (x_ret dX4_readOr_9 rfl))) (x_go 10 (x_st 11 dX4_readOr_10 rfl (x_so 12 [vr 11 0, vi x1, vi 0] dX4_readOr_11 rfl (rfl)))))))))
theorem qX4_readOr_12 (d : Nat) (x1 : Int) (x2 : Int) (s : Sg) : EV (d + 1) mX4_readOr (12, [vr 11 0, vi x1, vi x2], [], s) = if x2 < 160 then (if (s 11 0 4) = 9 then (bV (RUN d mX4_step [vr 11 0] s) (fun s1 => bI (RUN d mX4_readAnd [vr 11 0, vi x1] s1) (fun r2 s2 => if r2 = 0 then (some (some (vi 0), s2)) else (bV (RUN d mX5_write [vr 4 0, vi (-7)] s2) (fun s3 => EV (d + 1) mX4_readOr (12, [vr 11 0, vi x1, vi (w32 (x2 + 1))], [], s3)))))) else (some (some (vi 1), s))) else (some (some (vi 1), s)) := x_st 13 dX4_readOr_12 rfl (x_st 16 dX4_readOr_13 rfl (x_br dX4_readOr_16 (x_if (x_go 19 (x_st 20 dX4_readOr_19 rfl (x_st 23 dX4_readOr_20 rfl (x_st 25 dX4_readOr_23 rfl (x_br dX4_readOr_25 (x_if (x_go 28 (x_st 29 dX4_readOr_28 rfl (x_cv 32 [vr 11 0, vi x1, vi x2] [] dX4_readOr_29 rfl (fun s1 => x_st 33 dX4_readOr_32 rfl (x_st 34 dX4_readOr_33 rfl (x_ci 37 [vr 11 0, vi x1, vi x2] [] dX4_readOr_34 rfl (fun r2 s2 => x_br dX4_readOr_37 (x_if (x_go 40 (x_st 41 dX4_readOr_40 rfl (x_ret dX4_readOr_41 rfl))) (x_go 42 (x_st 43 dX4_readOr_42 rfl (x_st 46 dX4_readOr_43 rfl (x_st 48 dX4_readOr_46 rfl (x_cv 51 [vr 11 0, vi x1, vi x2] [] dX4_readOr_48 rfl (fun s3 => x_so 54 [vr 11 0, vi x1, vi (w32 (x2 + 1))] dX4_readOr_51 rfl (x_st 12 dX4_readOr_54 rfl (rfl)))))))))))))))) (x_go 57 (x_st 58 dX4_readOr_57 rfl (x_ret dX4_readOr_58 rfl))))))))) (x_go 57 (x_st 58 dX4_readOr_57 rfl (x_ret dX4_readOr_58 rfl))))))
theorem dX4_isLetter_0 : decode cX4_isLetter 0 = .ok (.aload_n 0, 1) := by decide +kernel
theorem dX4_isLetter_1 : decode cX4_isLetter 1 = .ok (.getfield 9, 3) := by decide +kernel
theorem dX4_isLetter_4 : decode cX4_isLetter 4 = .ok (.iload_n 1, 1) := by decide +kernel
theorem dX4_isLetter_5 : decode cX4_isLetter 5 = .ok (.iaload, 1) := by decide +kernel
theorem dX4_isLetter_6 : decode cX4_isLetter 6 = .ok (.bipush 97, 2) := by decide +kernel
theorem dX4_isLetter_8 : decode cX4_isLetter 8 = .ok (.if_icmp .lt 18, 3) := by decide +kernel
theorem dX4_isLetter_11 : decode cX4_isLetter 11 = .ok (.aload_n 0, 1) := by decide +kernel
theorem dX4_isLetter_12 : decode cX4_isLetter 12 = .ok (.getfield 9, 3) := by decide +kernel
theorem dX4_isLetter_15 : decode cX4_isLetter 15 = .ok (.iload_n 1, 1) := by decide +kernel
theorem dX4_isLetter_16 : decode cX4_isLetter 16 = .ok (.iaload, 1) := by decide +kernel
theorem dX4_isLetter_17 : decode cX4_isLetter 17 = .ok (.bipush 122, 2) := by decide +kernel
theorem dX4_isLetter_19 : decode cX4_isLetter 19 = .ok (.if_icmp .gt 7, 3) := by decide +kernel
theorem dX4_isLetter_22 : decode cX4_isLetter 22 = .ok (.iconst 1, 1) := by decide +kernel
theorem dX4_isLetter_23 : decode cX4_isLetter 23 = .ok (.goto 4, 3) := by decide +kernel
theorem dX4_isLetter_26 : decode cX4_isLetter 26 = .ok (.iconst 0, 1) := by decide +kernel
theorem dX4_isLetter_27 : decode cX4_isLetter 27 = .ok (.ireturn, 1) := by decide +kernel
theorem qX4_isLetter (d : Nat) (x1 : Int) (s : Sg) : RUN d mX4_isLetter [vr 11 0, vi x1] s = if inb x1 160 then (if (s 12 0 (Int.toNat x1)) < 97 then (some (some (vi 0), s)) else (if inb x1 160 then (if 122 < (s 12 0 (Int.toNat x1)) then (some (some (vi 0), s)) else (some (some (vi 1), s))) else none)) else none := x_run rfl (x_st 1 dX4_isLetter_0 rfl (x_st 4 dX4_isLetter_1 rfl (x_st 5 dX4_isLetter_4 rfl (x_br dX4_isLetter_5 (x_if (x_go 6 (x_st 8 dX4_isLetter_6 rfl (x_br dX4_isLetter_8 (x_if (x_go 26 (x_st 27 dX4_isLetter_26 rfl (x_ret dX4_isLetter_27 rfl))) (x_go 11 (x_st 12 dX4_isLetter_11 rfl (x_st 15 dX4_isLetter_12 rfl (x_st 16 dX4_isLetter_15 rfl (x_br dX4_isLetter_16 (x_if (x_go 17 (x_st 19 dX4_isLetter_17 rfl (x_br dX4_isLetter_19 (x_if (x_go 26 (x_st 27 dX4_isLetter_26 rfl (x_ret dX4_isLetter_27 rfl))) (x_go 22 (x_st 23 dX4_isLetter_22 rfl (x_st 27 dX4_isLetter_23 rfl (x_ret dX4_isLetter_27 rfl)))))))) x_no)))))))))) x_no)))))
theorem dX4_isDigit_0 : decode cX4_isDigit 0 = .ok (.aload_n 0, 1) := by decide +kernel
theorem dX4_isDigit_1 : decode cX4_isDigit 1 = .ok (.getfield 9, 3) := by decide +kernel
theorem dX4_isDigit_4 : decode cX4_isDigit 4 = .ok (.iload_n 1, 1) := by decide +kernel
theorem dX4_isDigit_5 : decode cX4_isDigit 5 = .ok (.iaload, 1) := by decide +kernel
theorem dX4_isDigit_6 : decode cX4_isDigit 6 = .ok (.bipush 48, 2) := by decide +kernel
theorem dX4_isDigit_8 : decode cX4_isDigit 8 = .ok (.if_icmp .lt 18, 3) := by decide +kernel
theorem dX4_isDigit_11 : decode cX4_isDigit 11 = .ok (.aload_n 0, 1) := by decide +kernel
theorem dX4_isDigit_12 : decode cX4_isDigit 12 = .ok (.getfield 9, 3) := by decide +kernel
theorem dX4_isDigit_15 : decode cX4_isDigit 15 = .ok (.iload_n 1, 1) := by decide +kernel
theorem dX4_isDigit_16 : decode cX4_isDigit 16 = .ok (.iaload, 1) := by decide +kernel
theorem dX4_isDigit_17 : decode cX4_isDigit 17 = .ok (.bipush 57, 2) := by decide +kernel
theorem dX4_isDigit_19 : decode cX4_isDigit 19 = .ok (.if_icmp .gt 7, 3) := by decide +kernel
theorem dX4_isDigit_22 : decode cX4_isDigit 22 = .ok (.iconst 1, 1) := by decide +kernel
theorem dX4_isDigit_23 : decode cX4_isDigit 23 = .ok (.goto 4, 3) := by decide +kernel
theorem dX4_isDigit_26 : decode cX4_isDigit 26 = .ok (.iconst 0, 1) := by decide +kernel
theorem dX4_isDigit_27 : decode cX4_isDigit 27 = .ok (.ireturn, 1) := by decide +kernel
theorem qX4_isDigit (d : Nat) (x1 : Int) (s : Sg) : RUN d mX4_isDigit [vr 11 0, vi x1] s = if inb x1 160 then (if (s 12 0 (Int.toNat x1)) < 48 then (some (some (vi 0), s)) else (if inb x1 160 then (if 57 < (s 12 0 (Int.toNat x1)) then (some (some (vi 0), s)) else (some (some (vi 1), s))) else none)) else none := x_run rfl (x_st 1 dX4_isDigit_0 rfl (x_st 4 dX4_isDigit_1 rfl (x_st 5 dX4_isDigit_4 rfl (x_br dX4_isDigit_5 (x_if (x_go 6 (x_st 8 dX4_isDigit_6 rfl (x_br dX4_isDigit_8 (x_if (x_go 26 (x_st 27 dX4_isDigit_26 rfl (x_ret dX4_isDigit_27 rfl))) (x_go 11 (x_st 12 dX4_isDigit_11 rfl (x_st 15 dX4_isDigit_12 rfl (x_st 16 dX4_isDigit_15 rfl (x_br dX4_isDigit_16 (x_if (x_go 17 (x_st 19 dX4_isDigit_17 rfl (x_br dX4_isDigit_19 (x_if (x_go 26 (x_st 27 dX4_isDigit_26 rfl (x_ret dX4_isDigit_27 rfl))) (x_go 22 (x_st 23 dX4_isDigit_22 rfl (x_st 27 dX4_isDigit_23 rfl (x_ret dX4_isDigit_27 rfl)))))))) x_no)))))))))) x_no)))))
theorem dX4_stepNumeral_0 : decode cX4_stepNumeral 0 = .ok (.aload_n 0, 1) := by decide +kernel
theorem dX4_stepNumeral_1 : decode cX4_stepNumeral 1 = .ok (.iconst 0, 1) := by decide +kernel
theorem dX4_stepNumeral_2 : decode cX4_stepNumeral 2 = .ok (.putfield 88, 3) := by decide +kernel
theorem dX4_stepNumeral_5 : decode cX4_stepNumeral 5 = .ok (.aload_n 0, 1) := by decide +kernel
theorem dX4_stepNumeral_6 : decode cX4_stepNumeral 6 = .ok (.getfield 37, 3) := by decide +kernel
theorem dX4_stepNumeral_9 : decode cX4_stepNumeral 9 = .ok (.aload_n 0, 1) := by decide +kernel
theorem dX4_stepNumeral_10 : decode cX4_stepNumeral 10 = .ok (.getfield 19, 3) := by decide +kernel
theorem dX4_stepNumeral_13 : decode cX4_stepNumeral 13 = .ok (.if_icmp .ge 51, 3) := by decide +kernel
theorem dX4_stepNumeral_16 : decode cX4_stepNumeral 16 = .ok (.aload_n 0, 1) := by decide +kernel
theorem dX4_stepNumeral_17 : decode cX4_stepNumeral 17 = .ok (.aload_n 0, 1) := by decide +kernel
theorem dX4_stepNumeral_18 : decode cX4_stepNumeral 18 = .ok (.getfield 37, 3) := by decide +kernel
theorem dX4_stepNumeral_21 : decode cX4_stepNumeral 21 = .ok (.invokevirtual 103, 3) := by decide +kernel
theorem dX4_stepNumeral_24 : decode cX4_stepNumeral 24 = .ok (.ifCond .eq 40, 3) := by decide +kernel
theorem dX4_stepNumeral_27 : decode cX4_stepNumeral 27 = .ok (.aload_n 0, 1) := by decide +kernel
theorem dX4_stepNumeral_28 : decode cX4_stepNumeral 28 = .ok (.aload_n 0, 1) := by decide +kernel
theorem dX4_stepNumeral_29 : decode cX4_stepNumeral 29 = .ok (.getfield 88, 3) := by decide +kernel
theorem dX4_stepNumeral_32 : decode cX4_stepNumeral 32 = .ok (.bipush 10, 2) := by decide +kernel
theorem dX4_stepNumeral_34 : decode cX4_stepNumeral 34 = .ok (.imul, 1) := by decide +kernel
theorem dX4_stepNumeral_35 : decode cX4_stepNumeral 35 = .ok (.aload_n 0, 1) := by decide +kernel
theorem dX4_stepNumeral_36 : decode cX4_stepNumeral 36 = .ok (.getfield 9, 3) := by decide +kernel
theorem dX4_stepNumeral_39 : decode cX4_stepNumeral 39 = .ok (.aload_n 0, 1) := by decide +kernel
theorem dX4_stepNumeral_40 : decode cX4_stepNumeral 40 = .ok (.getfield 37, 3) := by decide +kernel
theorem dX4_stepNumeral_43 : decode cX4_stepNumeral 43 = .ok (.iaload, 1) := by decide +kernel
theorem dX4_stepNumeral_44 : decode cX4_stepNumeral 44 = .ok (.iadd, 1) := by decide +kernel
theorem dX4_stepNumeral_45 : decode cX4_stepNumeral 45 = .ok (.bipush 48, 2) := by decide +kernel
theorem dX4_stepNumeral_47 : decode cX4_stepNumeral 47 = .ok (.isub, 1) := by decide +kernel
theorem dX4_stepNumeral_48 : decode cX4_stepNumeral 48 = .ok (.putfield 88, 3) := by decide +kernel
theorem dX4_stepNumeral_51 : decode cX4_stepNumeral 51 = .ok (.aload_n 0, 1) := by decide +kernel
theorem dX4_stepNumeral_52 : decode cX4_stepNumeral 52 = .ok (.dup, 1) := by decide +kernel
theorem dX4_stepNumeral_53 : decode cX4_stepNumeral 53 = .ok (.getfield 37, 3) := by decide +kernel
theorem dX4_stepNumeral_56 : decode cX4_stepNumeral 56 = .ok (.iconst 1, 1) := by decide +kernel
theorem dX4_stepNumeral_57 : decode cX4_stepNumeral 57 = .ok (.iadd, 1) := by decide +kernel
theorem dX4_stepNumeral_58 : decode cX4_stepNumeral 58 = .ok (.putfield 37, 3) := by decide +kernel
theorem dX4_stepNumeral_61 : decode cX4_stepNumeral 61 = .ok (.goto (-56), 3) := by decide +kernel
theorem dX4_stepNumeral_64 : decode cX4_stepNumeral 64 = .ok (.aload_n 0, 1) := by decide +kernel
theorem dX4_stepNumeral_65 : decode cX4_stepNumeral 65 = .ok (.aload_n 0, 1) := by decide +kernel
theorem dX4_stepNumeral_66 : decode cX4_stepNumeral 66 = .ok (.getfield 37, 3) := by decide +kernel
theorem dX4_stepNumeral_69 : decode cX4_stepNumeral 69 = .ok (.aload_n 0, 1) := by decide +kernel
theorem dX4_stepNumeral_70 : decode cX4_stepNumeral 70 = .ok (.getfield 51, 3) := by decide +kernel
theorem dX4_stepNumeral_73 : decode cX4_stepNumeral 73 = .ok (.isub, 1) := by decide +kernel
theorem dX4_stepNumeral_74 : decode cX4_stepNumeral 74 = .ok (.iconst 4, 1) := by decide +kernel
theorem dX4_stepNumeral_75 : decode cX4_stepNumeral 75 = .ok (.if_icmp .le 8, 3) := by decide +kernel
theorem dX4_stepNumeral_78 : decode cX4_stepNumeral 78 = .ok (.bipush 14, 2) := by decide +kernel
theorem dX4_stepNumeral_80 : decode cX4_stepNumeral 80 = .ok (.goto 5, 3) := by decide +kernel
theorem dX4_stepNumeral_83 : decode cX4_stepNumeral 83 = .ok (.bipush 12, 2) := by decide +kernel
theorem dX4_stepNumeral_85 : decode cX4_stepNumeral 85 = .ok (.putfield 54, 3) := by decide +kernel
theorem dX4_stepNumeral_88 : decode cX4_stepNumeral 88 = .ok (.return_, 1) := by decide +kernel
theorem qX4_stepNumeral (d : Nat) (s : Sg) : RUN d mX4_stepNumeral [vr 11 0] s = EV d mX4_stepNumeral (5, [vr 11 0], [], (up s 11 0 6 0)) := x_run rfl (x_st 1 dX4_stepNumeral_0 rfl (x_st 2 dX4_stepNumeral_1 rfl (x_st 5 dX4_stepNumeral_2 rfl (rfl))))
theorem qX4_stepNumeral_5 (d : Nat) (s : Sg) : EV (d + 1) mX4_stepNumeral (5, [vr 11 0], [], s) = if (s 11 0 3) < (s 11 0 2) then (bI (RUN d mX4_isDigit [vr 11 0, vi (s 11 0 3)] s) (fun r1 s1 => if r1 = 0 then (EV (d + 1) mX4_stepNumeral (64, [vr 11 0], [], s1)) else (if inb (s1 11 0 3) 160 then (EV (d + 1) mX4_stepNumeral (5, [vr 11 0], [], (up (up s1 11 0 6 (w32 ((w32 ((w32 ((s1 11 0 6) * 10)) + (s1 12 0 (Int.toNat (s1 11 0 3))))) - 48))) 11 0 3 (w32 ((s1 11 0 3) + 1))))) else none))) else (EV (d + 1) mX4_stepNumeral (64, [vr 11 0], [], s)) := x_st 6 dX4_stepNumeral_5 rfl (x_st 9 dX4_stepNumeral_6 rfl (x_st 10 dX4_stepNumeral_9 rfl (x_st 13 dX4_stepNumeral_10 rfl (x_br dX4_stepNumeral_13 (x_if (x_go 16 (x_st 17 dX4_stepNumeral_16 rfl (x_st 18 dX4_stepNumeral_17 rfl (x_st 21 dX4_stepNumeral_18 rfl (x_ci 24 [vr 11 0] [] dX4_stepNumeral_21 rfl (fun r1 s1 => x_br dX4_stepNumeral_24 (x_if (x_go 64 (rfl)) (x_go 27 (x_st 28 dX4_stepNumeral_27 rfl (x_st 29 dX4_stepNumeral_28 rfl (x_st 32 dX4_stepNumeral_29 rfl (x_st 34 dX4_stepNumeral_32 rfl (x_st 35 dX4_stepNumeral_34 rfl (x_st 36 dX4_stepNumeral_35 rfl (x_st 39 dX4_stepNumeral_36 rfl (x_st 40 dX4_stepNumeral_39 rfl (x_st 43 dX4_stepNumeral_40 rfl (x_br dX4_stepNumeral_43 (x_if (x_go 44 (x_st 45 dX4_stepNumeral_44 rfl (x_st 47 dX4_stepNumeral_45 rfl (x_st 48 dX4_stepNumeral_47 rfl (x_st 51 dX4_stepNumeral_48 rfl (x_st 52 dX4_stepNumeral_51 rfl (x_st 53 dX4_stepNumeral_52 rfl (x_st 56 dX4_stepNumeral_53 rfl (x_st 57 dX4_stepNumeral_56 rfl (x_st 58 dX4_stepNumeral_57 rfl (x_st 61 dX4_stepNumeral_58 rfl (x_st 5 dX4_stepNumeral_61 rfl (rfl))))))))))))) x_no))))))))))))))))))) (x_go 64 (rfl)))))))
theorem qX4_stepNumeral_64 (d : Nat) (s : Sg) : EV d mX4_stepNumeral (64, [vr 11 0], [], s) = if 4 < (w32 ((s 11 0 3) - (s 11 0 5))) then (some (none, (up s 11 0 4 14))) else (some (none, (up s 11 0 4 12))) := x_st 65 dX4_stepNumeral_64 rfl (x_st 66 dX4_stepNumeral_65 rfl (x_st 69 dX4_stepNumeral_66 rfl (x_st 70 dX4_stepNumeral_69 rfl (x_st 73 dX4_stepNumeral_70 rfl (x_st 74 dX4_stepNumeral_73 rfl (x_st 75 dX4_stepNumeral_74 rfl (x_br dX4_stepNumeral_75 (x_if (x_go 78 (x_st 80 dX4_stepNumeral_78 rfl (x_st 85 dX4_stepNumeral_80 rfl (x_st 88 dX4_stepNumeral_85 rfl (x_ret dX4_stepNumeral_88 rfl))))) (x_go 83 (x_st 85 dX4_stepNumeral_83 rfl (x_st 88 dX4_stepNumeral_85 rfl (x_ret dX4_stepNumeral_88 rfl))))))))))))
theorem dX4_stepWord_0 : decode cX4_stepWord 0 = .ok (.aload_n 0, 1) := by decide +kernel
theorem dX4_stepWord_1 : decode cX4_stepWord 1 = .ok (.getfield 37, 3) := by decide +kernel
theorem dX4_stepWord_4 : decode cX4_stepWord 4 = .ok (.aload_n 0, 1) := by decide +kernel
theorem dX4_stepWord_5 : decode cX4_stepWord 5 = .ok (.getfield 19, 3) := by decide +kernel
theorem dX4_stepWord_8 : decode cX4_stepWord 8 = .ok (.if_icmp .ge 27, 3) := by decide +kernel
theorem dX4_stepWord_11 : decode cX4_stepWord 11 = .ok (.aload_n 0, 1) := by decide +kernel
theorem dX4_stepWord_12 : decode cX4_stepWord 12 = .ok (.aload_n 0, 1) := by decide +kernel
theorem dX4_stepWord_13 : decode cX4_stepWord 13 = .ok (.getfield 37, 3) := by decide +kernel
theorem dX4_stepWord_16 : decode cX4_stepWord 16 = .ok (.invokevirtual 97, 3) := by decide +kernel
theorem dX4_stepWord_19 : decode cX4_stepWord 19 = .ok (.ifCond .eq 16, 3) := by decide +kernel
theorem dX4_stepWord_22 : decode cX4_stepWord 22 = .ok (.aload_n 0, 1) := by decide +kernel
theorem dX4_stepWord_23 : decode cX4_stepWord 23 = .ok (.dup, 1) := by decide +kernel
theorem dX4_stepWord_24 : decode cX4_stepWord 24 = .ok (.getfield 37, 3) := by decide +kernel
theorem dX4_stepWord_27 : decode cX4_stepWord 27 = .ok (.iconst 1, 1) := by decide +kernel
theorem dX4_stepWord_28 : decode cX4_stepWord 28 = .ok (.iadd, 1) := by decide +kernel
theorem dX4_stepWord_29 : decode cX4_stepWord 29 = .ok (.putfield 37, 3) := by decide +kernel
theorem dX4_stepWord_32 : decode cX4_stepWord 32 = .ok (.goto (-32), 3) := by decide +kernel
theorem dX4_stepWord_35 : decode cX4_stepWord 35 = .ok (.aload_n 0, 1) := by decide +kernel
theorem dX4_stepWord_36 : decode cX4_stepWord 36 = .ok (.bipush 14, 2) := by decide +kernel
theorem dX4_stepWord_38 : decode cX4_stepWord 38 = .ok (.putfield 54, 3) := by decide +kernel
theorem dX4_stepWord_41 : decode cX4_stepWord 41 = .ok (.iconst 0, 1) := by decide +kernel
theorem dX4_stepWord_42 : decode cX4_stepWord 42 = .ok (.istore_n 1, 1) := by decide +kernel
theorem dX4_stepWord_43 : decode cX4_stepWord 43 = .ok (.iconst 0, 1) := by decide +kernel
theorem dX4_stepWord_44 : decode cX4_stepWord 44 = .ok (.istore_n 2, 1) := by decide +kernel
theorem dX4_stepWord_45 : decode cX4_stepWord 45 = .ok (.iconst 0, 1) := by decide +kernel
theorem dX4_stepWord_46 : decode cX4_stepWord 46 = .ok (.istore_n 3, 1) := by decide +kernel
theorem dX4_stepWord_47 : decode cX4_stepWord 47 = .ok (.iload_n 3, 1) := by decide +kernel
theorem dX4_stepWord_48 : decode cX4_stepWord 48 = .ok (.ldc 115, 2) := by decide +kernel
theorem dX4_stepWord_50 : decode cX4_stepWord 50 = .ok (.invokevirtual 23, 3) := by decide +kernel
theorem dX4_stepWord_53 : decode cX4_stepWord 53 = .ok (.if_icmp .ge 41, 3) := by decide +kernel
theorem dX4_stepWord_56 : decode cX4_stepWord 56 = .ok (.ldc 115, 2) := by decide +kernel
theorem dX4_stepWord_58 : decode cX4_stepWord 58 = .ok (.iload_n 3, 1) := by decide +kernel
theorem dX4_stepWord_59 : decode cX4_stepWord 59 = .ok (.invokevirtual 29, 3) := by decide +kernel
theorem dX4_stepWord_62 : decode cX4_stepWord 62 = .ok (.bipush 32, 2) := by decide +kernel
theorem dX4_stepWord_64 : decode cX4_stepWord 64 = .ok (.if_icmp .ne 24, 3) := by decide +kernel
theorem dX4_stepWord_67 : decode cX4_stepWord 67 = .ok (.aload_n 0, 1) := by decide +kernel
theorem dX4_stepWord_68 : decode cX4_stepWord 68 = .ok (.iload_n 2, 1) := by decide +kernel
theorem dX4_stepWord_69 : decode cX4_stepWord 69 = .ok (.iload_n 3, 1) := by decide +kernel
theorem dX4_stepWord_70 : decode cX4_stepWord 70 = .ok (.invokevirtual 117, 3) := by decide +kernel
theorem dX4_stepWord_73 : decode cX4_stepWord 73 = .ok (.ifCond .eq 8, 3) := by decide +kernel
theorem dX4_stepWord_76 : decode cX4_stepWord 76 = .ok (.aload_n 0, 1) := by decide +kernel
theorem dX4_stepWord_77 : decode cX4_stepWord 77 = .ok (.iload_n 1, 1) := by decide +kernel
theorem dX4_stepWord_78 : decode cX4_stepWord 78 = .ok (.putfield 54, 3) := by decide +kernel
theorem dX4_stepWord_81 : decode cX4_stepWord 81 = .ok (.iinc 1 1, 3) := by decide +kernel
theorem dX4_stepWord_84 : decode cX4_stepWord 84 = .ok (.iload_n 3, 1) := by decide +kernel
theorem dX4_stepWord_85 : decode cX4_stepWord 85 = .ok (.iconst 1, 1) := by decide +kernel
theorem dX4_stepWord_86 : decode cX4_stepWord 86 = .ok (.iadd, 1) := by decide +kernel
theorem dX4_stepWord_87 : decode cX4_stepWord 87 = .ok (.istore_n 2, 1) := by decide +kernel
theorem dX4_stepWord_88 : decode cX4_stepWord 88 = .ok (.iinc 3 1, 3) := by decide +kernel
theorem dX4_stepWord_91 : decode cX4_stepWord 91 = .ok (.goto (-44), 3) := by decide +kernel
theorem dX4_stepWord_94 : decode cX4_stepWord 94 = .ok (.return_, 1) := by decide +kernel
theorem qX4_stepWord (d : Nat) (s : Sg) : RUN d mX4_stepWord [vr 11 0] s = EV d mX4_stepWord (0, [vr 11 0, UU, UU, UU], [], s) := x_run rfl (rfl)
theorem qX4_stepWord_0 (d : Nat) (z1 : PV) (z2 : PV) (z3 : PV) (s : Sg) : EV (d + 1) mX4_stepWord (0, [vr 11 0, z1, z2, z3], [], s) = if (s 11 0 3) < (s 11 0 2) then (bI (RUN d mX4_isLetter [vr 11 0, vi (s 11 0 3)] s) (fun r1 s1 => if r1 = 0 then (EV (d + 1) mX4_stepWord (35, [vr 11 0, z1, z2, z3], [], s1)) else (EV (d + 1) mX4_stepWord (0, [vr 11 0, z1, z2, z3], [], (up s1 11 0 3 (w32 ((s1 11 0 3) + 1))))))) else (EV (d + 1) mX4_stepWord (35, [vr 11 0, z1, z2, z3], [], s)) := x_st 1 dX4_stepWord_0 rfl (x_st 4 dX4_stepWord_1 rfl (x_st 5 dX4_stepWord_4 rfl (x_st 8 dX4_stepWord_5 rfl (x_br dX4_stepWord_8 (x_if (x_go 11 (x_st 12 dX4_stepWord_11 rfl (x_st 13 dX4_stepWord_12 rfl (x_st 16 dX4_stepWord_13 rfl (x_ci 19 [vr 11 0, z1, z2, z3] [] dX4_stepWord_16 rfl (fun r1 s1 => x_br dX4_stepWord_19 (x_if (x_go 35 (rfl)) (x_go 22 (x_st 23 dX4_stepWord_22 rfl (x_st 24 dX4_stepWord_23 rfl (x_st 27 dX4_stepWord_24 rfl (x_st 28 dX4_stepWord_27 rfl (x_st 29 dX4_stepWord_28 rfl (x_st 32 dX4_stepWord_29 rfl (x_st 0 dX4_stepWord_32 rfl (rfl)))))))))))))))) (x_go 35 (rfl)))))))
theorem qX4_stepWord_35 (d : Nat) (z1 : PV) (z2 : PV) (z3 : PV) (s : Sg) : EV d mX4_stepWord (35, [vr 11 0, z1, z2, z3], [], s) = EV d mX4_stepWord (47, [vr 11 0, vi 0, vi 0, vi 0], [], (up s 11 0 4 14)) := x_st 36 dX4_stepWord_35 rfl (x_st 38 dX4_stepWord_36 rfl (x_st 41 dX4_stepWord_38 rfl (x_st 42 dX4_stepWord_41 rfl (x_so 43 [vr 11 0, vi 0, z2, z3] dX4_stepWord_42 rfl (x_st 44 dX4_stepWord_43 rfl (x_so 45 [vr 11 0, vi 0, vi 0, z3] dX4_stepWord_44 rfl (x_st 46 dX4_stepWord_45 rfl (x_so 47 [vr 11 0, vi 0, vi 0, vi 0] dX4_stepWord_46 rfl (rfl)))))))))
theorem qX4_stepWord_47 (d : Nat) (x1 : Int) (x2 : Int) (x3 : Int) (s : Sg) : EV (d + 1) mX4_stepWord (47, [vr 11 0, vi x1, vi x2, vi x3], [], s) = bI (RUN d mJ0_length_8abf5 [vr 56 0] s) (fun r1 s1 => if x3 < r1 then (bI (RUN d mJ0_charAt_5068e [vr 56 0, vi x3] s1) (fun r2 s2 => if r2 = 32 then (bI (RUN d mX4_isSpelled [vr 11 0, vi x2, vi x3] s2) (fun r3 s3 => if r3 = 0 then (EV (d + 1) mX4_stepWord (81, [vr 11 0, vi x1, vi x2, vi x3], [], s3)) else (EV (d + 1) mX4_stepWord (81, [vr 11 0, vi x1, vi x2, vi x3], [], (up s3 11 0 4 x1))))) else (EV (d + 1) mX4_stepWord (88, [vr 11 0, vi x1, vi x2, vi x3], [], s2)))) else (some (none, s1))) := x_st 48 dX4_stepWord_47 rfl (x_st 50 dX4_stepWord_48 rfl (x_ci 53 [vr 11 0, vi x1, vi x2, vi x3] [vi x3] dX4_stepWord_50 rfl (fun r1 s1 => x_br dX4_stepWord_53 (x_if (x_go 56 (x_st 58 dX4_stepWord_56 rfl (x_st 59 dX4_stepWord_58 rfl (x_ci 62 [vr 11 0, vi x1, vi x2, vi x3] [] dX4_stepWord_59 rfl (fun r2 s2 => x_st 64 dX4_stepWord_62 rfl (x_br dX4_stepWord_64 (x_if (x_go 67 (x_st 68 dX4_stepWord_67 rfl (x_st 69 dX4_stepWord_68 rfl (x_st 70 dX4_stepWord_69 rfl (x_ci 73 [vr 11 0, vi x1, vi x2, vi x3] [] dX4_stepWord_70 rfl (fun r3 s3 => x_br dX4_stepWord_73 (x_if (x_go 81 (rfl)) (x_go 76 (x_st 77 dX4_stepWord_76 rfl (x_st 78 dX4_stepWord_77 rfl (x_st 81 dX4_stepWord_78 rfl (rfl)))))))))))) (x_go 88 (rfl))))))))) (x_go 94 (x_ret dX4_stepWord_94 rfl))))))
theorem qX4_stepWord_81 (d : Nat) (x1 : Int) (z2 : PV) (x3 : Int) (s : Sg) : EV d mX4_stepWord (81, [vr 11 0, vi x1, z2, vi x3], [], s) = EV d mX4_stepWord (88, [vr 11 0, vi (w32 (x1 + 1)), vi (w32 (x3 + 1)), vi x3], [], s) := x_so 84 [vr 11 0, vi (w32 (x1 + 1)), z2, vi x3] dX4_stepWord_81 rfl (x_st 85 dX4_stepWord_84 rfl (x_st 86 dX4_stepWord_85 rfl (x_st 87 dX4_stepWord_86 rfl (x_so 88 [vr 11 0, vi (w32 (x1 + 1)), vi (w32 (x3 + 1)), vi x3] dX4_stepWord_87 rfl (rfl)))))
theorem qX4_stepWord_88 (d : Nat) (x1 : Int) (x2 : Int) (x3 : Int) (s : Sg) : EV d mX4_stepWord (88, [vr 11 0, vi x1, vi x2, vi x3], [], s) = EV d mX4_stepWord (47, [vr 11 0, vi x1, vi x2, vi (w32 (x3 + 1))], [], s) := x_so 91 [vr 11 0, vi x1, vi x2, vi (w32 (x3 + 1))] dX4_stepWord_88 rfl (x_st 47 dX4_stepWord_91 rfl (rfl))
theorem dX4_readAnd_0 : decode cX4_readAnd 0 = .ok (.aload_n 0, 1) := by decide +kernel
theorem dX4_readAnd_1 : decode cX4_readAnd 1 = .ok (.iload_n 1, 1) := by decide +kernel
theorem dX4_readAnd_2 : decode cX4_readAnd 2 = .ok (.invokevirtual 73, 3) := by decide +kernel
theorem dX4_readAnd_5 : decode cX4_readAnd 5 = .ok (.ifCond .ne 5, 3) := by decide +kernel
theorem dX4_readAnd_8 : decode cX4_readAnd 8 = .ok (.iconst 0, 1) := by decide +kernel
theorem dX4_readAnd_9 : decode cX4_readAnd 9 = .ok (.ireturn, 1) := by decide +kernel
theorem dX4_readAnd_10 : decode cX4_readAnd 10 = .ok (.iconst 0, 1) := by decide +kernel
theorem dX4_readAnd_11 : decode cX4_readAnd 11 = .ok (.istore_n 2, 1) := by decide +kernel
theorem dX4_readAnd_12 : decode cX4_readAnd 12 = .ok (.iload_n 2, 1) := by decide +kernel
theorem dX4_readAnd_13 : decode cX4_readAnd 13 = .ok (.sipush 160, 3) := by decide +kernel
theorem dX4_readAnd_16 : decode cX4_readAnd 16 = .ok (.if_icmp .ge 41, 3) := by decide +kernel
theorem dX4_readAnd_19 : decode cX4_readAnd 19 = .ok (.aload_n 0, 1) := by decide +kernel
theorem dX4_readAnd_20 : decode cX4_readAnd 20 = .ok (.getfield 54, 3) := by decide +kernel
theorem dX4_readAnd_23 : decode cX4_readAnd 23 = .ok (.bipush 10, 2) := by decide +kernel
theorem dX4_readAnd_25 : decode cX4_readAnd 25 = .ok (.if_icmp .ne 32, 3) := by decide +kernel
theorem dX4_readAnd_28 : decode cX4_readAnd 28 = .ok (.aload_n 0, 1) := by decide +kernel
theorem dX4_readAnd_29 : decode cX4_readAnd 29 = .ok (.invokevirtual 45, 3) := by decide +kernel
theorem dX4_readAnd_32 : decode cX4_readAnd 32 = .ok (.aload_n 0, 1) := by decide +kernel
theorem dX4_readAnd_33 : decode cX4_readAnd 33 = .ok (.iload_n 1, 1) := by decide +kernel
theorem dX4_readAnd_34 : decode cX4_readAnd 34 = .ok (.invokevirtual 73, 3) := by decide +kernel
theorem dX4_readAnd_37 : decode cX4_readAnd 37 = .ok (.ifCond .ne 5, 3) := by decide +kernel
theorem dX4_readAnd_40 : decode cX4_readAnd 40 = .ok (.iconst 0, 1) := by decide +kernel
theorem dX4_readAnd_41 : decode cX4_readAnd 41 = .ok (.ireturn, 1) := by decide +kernel
theorem dX4_readAnd_42 : decode cX4_readAnd 42 = .ok (.aload_n 0, 1) := by decide +kernel
theorem dX4_readAnd_43 : decode cX4_readAnd 43 = .ok (.getfield 15, 3) := by decide +kernel
theorem dX4_readAnd_46 : decode cX4_readAnd 46 = .ok (.bipush (-8), 2) := by decide +kernel
theorem dX4_readAnd_48 : decode cX4_readAnd 48 = .ok (.invokevirtual 67, 3) := by decide +kernel
theorem dX4_readAnd_51 : decode cX4_readAnd 51 = .ok (.iinc 2 1, 3) := by decide +kernel
theorem dX4_readAnd_54 : decode cX4_readAnd 54 = .ok (.goto (-42), 3) := by decide +kernel
theorem dX4_readAnd_57 : decode cX4_readAnd 57 = .ok (.iconst 1, 1) := by decide +kernel
theorem dX4_readAnd_58 : decode cX4_readAnd 58 = .ok (.ireturn, 1) := by decide +kernel
theorem qX4_readAnd (d : Nat) (x1 : Int) (s : Sg) : RUN (d + 1) mX4_readAnd [vr 11 0, vi x1] s = bI (RUN d mX4_readNot [vr 11 0, vi x1] s) (fun r1 s1 => if r1 = 0 then (some (some (vi 0), s1)) else (EV (d + 1) mX4_readAnd (12, [vr 11 0, vi x1, vi 0], [], s1))) := x_run rfl (x_st 1 dX4_readAnd_0 rfl (x_st 2 dX4_readAnd_1 rfl (x_ci 5 [vr 11 0, vi x1, UU] [] dX4_readAnd_2 rfl (fun r1 s1 => x_br dX4_readAnd_5 (x_if (x_go 8 (x_st 9 dX4_readAnd_8 rfl (x_ret dX4_readAnd_9 rfl))) (x_go 10 (x_st 11 dX4_readAnd_10 rfl (x_so 12 [vr 11 0, vi x1, vi 0] dX4_readAnd_11 rfl (rfl)))))))))
theorem qX4_readAnd_12 (d : Nat) (x1 : Int) (x2 : Int) (s : Sg) : EV (d + 1) mX4_readAnd (12, [vr 11 0, vi x1, vi x2], [], s) = if x2 < 160 then (if (s 11 0 4) = 10 then (bV (RUN d mX4_step [vr 11 0] s) (fun s1 => bI (RUN d mX4_readNot [vr 11 0, vi x1] s1) (fun r2 s2 => if r2 = 0 then (some (some (vi 0), s2)) else (bV (RUN d mX5_write [vr 4 0, vi (-8)] s2) (fun s3 => EV (d + 1) mX4_readAnd (12, [vr 11 0, vi x1, vi (w32 (x2 + 1))], [], s3)))))) else (some (some (vi 1), s))) else (some (some (vi 1), s)) := x_st 13 dX4_readAnd_12 rfl (x_st 16 dX4_readAnd_13 rfl (x_br dX4_readAnd_16 (x_if (x_go 19 (x_st 20 dX4_readAnd_19 rfl (x_st 23 dX4_readAnd_20 rfl (x_st 25 dX4_readAnd_23 rfl (x_br dX4_readAnd_25 (x_if (x_go 28 (x_st 29 dX4_readAnd_28 rfl (x_cv 32 [vr 11 0, vi x1, vi x2] [] dX4_readAnd_29 rfl (fun s1 => x_st 33 dX4_readAnd_32 rfl (x_st 34 dX4_readAnd_33 rfl (x_ci 37 [vr 11 0, vi x1, vi x2] [] dX4_readAnd_34 rfl (fun r2 s2 => x_br dX4_readAnd_37 (x_if (x_go 40 (x_st 41 dX4_readAnd_40 rfl (x_ret dX4_readAnd_41 rfl))) (x_go 42 (x_st 43 dX4_readAnd_42 rfl (x_st 46 dX4_readAnd_43 rfl (x_st 48 dX4_readAnd_46 rfl (x_cv 51 [vr 11 0, vi x1, vi x2] [] dX4_readAnd_48 rfl (fun s3 => x_so 54 [vr 11 0, vi x1, vi (w32 (x2 + 1))] dX4_readAnd_51 rfl (x_st 12 dX4_readAnd_54 rfl (rfl)))))))))))))))) (x_go 57 (x_st 58 dX4_readAnd_57 rfl (x_ret dX4_readAnd_58 rfl))))))))) (x_go 57 (x_st 58 dX4_readAnd_57 rfl (x_ret dX4_readAnd_58 rfl))))))
theorem dX4_readNot_0 : decode cX4_readNot 0 = .ok (.aload_n 0, 1) := by decide +kernel
theorem dX4_readNot_1 : decode cX4_readNot 1 = .ok (.getfield 54, 3) := by decide +kernel
theorem dX4_readNot_4 : decode cX4_readNot 4 = .ok (.bipush 11, 2) := by decide +kernel
theorem dX4_readNot_6 : decode cX4_readNot 6 = .ok (.if_icmp .eq 9, 3) := by decide +kernel
theorem dX4_readNot_9 : decode cX4_readNot 9 = .ok (.aload_n 0, 1) := by decide +kernel
theorem dX4_readNot_10 : decode cX4_readNot 10 = .ok (.iload_n 1, 1) := by decide +kernel
theorem dX4_readNot_11 : decode cX4_readNot 11 = .ok (.invokevirtual 76, 3) := by decide +kernel
theorem dX4_readNot_14 : decode cX4_readNot 14 = .ok (.ireturn, 1) := by decide +kernel
theorem dX4_readNot_15 : decode cX4_readNot 15 = .ok (.iload_n 1, 1) := by decide +kernel
theorem dX4_readNot_16 : decode cX4_readNot 16 = .ok (.iconst 5, 1) := by decide +kernel
theorem dX4_readNot_17 : decode cX4_readNot 17 = .ok (.if_icmp .lt 5, 3) := by decide +kernel
theorem dX4_readNot_20 : decode cX4_readNot 20 = .ok (.iconst 0, 1) := by decide +kernel
theorem dX4_readNot_21 : decode cX4_readNot 21 = .ok (.ireturn, 1) := by decide +kernel
theorem dX4_readNot_22 : decode cX4_readNot 22 = .ok (.aload_n 0, 1) := by decide +kernel
theorem dX4_readNot_23 : decode cX4_readNot 23 = .ok (.invokevirtual 45, 3) := by decide +kernel
theorem dX4_readNot_26 : decode cX4_readNot 26 = .ok (.aload_n 0, 1) := by decide +kernel
theorem dX4_readNot_27 : decode cX4_readNot 27 = .ok (.iload_n 1, 1) := by decide +kernel
theorem dX4_readNot_28 : decode cX4_readNot 28 = .ok (.iconst 1, 1) := by decide +kernel
theorem dX4_readNot_29 : decode cX4_readNot 29 = .ok (.iadd, 1) := by decide +kernel
theorem dX4_readNot_30 : decode cX4_readNot 30 = .ok (.invokevirtual 73, 3) := by decide +kernel
theorem dX4_readNot_33 : decode cX4_readNot 33 = .ok (.ifCond .ne 5, 3) := by decide +kernel
theorem dX4_readNot_36 : decode cX4_readNot 36 = .ok (.iconst 0, 1) := by decide +kernel
theorem dX4_readNot_37 : decode cX4_readNot 37 = .ok (.ireturn, 1) := by decide +kernel
theorem dX4_readNot_38 : decode cX4_readNot 38 = .ok (.aload_n 0, 1) := by decide +kernel
theorem dX4_readNot_39 : decode cX4_readNot 39 = .ok (.getfield 15, 3) := by decide +kernel
theorem dX4_readNot_42 : decode cX4_readNot 42 = .ok (.bipush (-9), 2) := by decide +kernel
theorem dX4_readNot_44 : decode cX4_readNot 44 = .ok (.invokevirtual 67, 3) := by decide +kernel
theorem dX4_readNot_47 : decode cX4_readNot 47 = .ok (.iconst 1, 1) := by decide +kernel
theorem dX4_readNot_48 : decode cX4_readNot 48 = .ok (.ireturn, 1) := by decide +kernel
theorem qX4_readNot (d : Nat) (x1 : Int) (s : Sg) : RUN (d + 1) mX4_readNot [vr 11 0, vi x1] s = if (s 11 0 4) = 11 then (if x1 < 5 then (bV (RUN d mX4_step [vr 11 0] s) (fun s1 => bI (RUN d mX4_readNot [vr 11 0, vi (w32 (x1 + 1))] s1) (fun r2 s2 => if r2 = 0 then (some (some (vi 0), s2)) else (bV (RUN d mX5_write [vr 4 0, vi (-9)] s2) (fun s3 => some (some (vi 1), s3)))))) else (some (some (vi 0), s))) else (bI (RUN d mX4_readComparison [vr 11 0, vi x1] s) (fun r4 s4 => if 0 ≤ r4 ∧ r4 ≤ 1 then some (some (vi r4), s4) else none)) := x_run rfl (x_st 1 dX4_readNot_0 rfl (x_st 4 dX4_readNot_1 rfl (x_st 6 dX4_readNot_4 rfl (x_br dX4_readNot_6 (x_if (x_go 15 (x_st 16 dX4_readNot_15 rfl (x_st 17 dX4_readNot_16 rfl (x_br dX4_readNot_17 (x_if (x_go 22 (x_st 23 dX4_readNot_22 rfl (x_cv 26 [vr 11 0, vi x1] [] dX4_readNot_23 rfl (fun s1 => x_st 27 dX4_readNot_26 rfl (x_st 28 dX4_readNot_27 rfl (x_st 29 dX4_readNot_28 rfl (x_st 30 dX4_readNot_29 rfl (x_ci 33 [vr 11 0, vi x1] [] dX4_readNot_30 rfl (fun r2 s2 => x_br dX4_readNot_33 (x_if (x_go 36 (x_st 37 dX4_readNot_36 rfl (x_ret dX4_readNot_37 rfl))) (x_go 38 (x_st 39 dX4_readNot_38 rfl (x_st 42 dX4_readNot_39 rfl (x_st 44 dX4_readNot_42 rfl (x_cv 47 [vr 11 0, vi x1] [] dX4_readNot_44 rfl (fun s3 => x_st 48 dX4_readNot_47 rfl (x_ret dX4_readNot_48 rfl))))))))))))))))) (x_go 20 (x_st 21 dX4_readNot_20 rfl (x_ret dX4_readNot_21 rfl)))))))) (x_go 9 (x_st 10 dX4_readNot_9 rfl (x_st 11 dX4_readNot_10 rfl (x_ci 14 [vr 11 0, vi x1] [] dX4_readNot_11 rfl (fun r4 s4 => x_br dX4_readNot_14 x_rg))))))))))
theorem dX4_readComparison_0 : decode cX4_readComparison 0 = .ok (.aload_n 0, 1) := by decide +kernel
theorem dX4_readComparison_1 : decode cX4_readComparison 1 = .ok (.iload_n 1, 1) := by decide +kernel
theorem dX4_readComparison_2 : decode cX4_readComparison 2 = .ok (.invokevirtual 79, 3) := by decide +kernel
theorem dX4_readComparison_5 : decode cX4_readComparison 5 = .ok (.ifCond .ne 5, 3) := by decide +kernel
theorem dX4_readComparison_8 : decode cX4_readComparison 8 = .ok (.iconst 0, 1) := by decide +kernel
theorem dX4_readComparison_9 : decode cX4_readComparison 9 = .ok (.ireturn, 1) := by decide +kernel
theorem dX4_readComparison_10 : decode cX4_readComparison 10 = .ok (.aload_n 0, 1) := by decide +kernel
theorem dX4_readComparison_11 : decode cX4_readComparison 11 = .ok (.getfield 54, 3) := by decide +kernel
theorem dX4_readComparison_14 : decode cX4_readComparison 14 = .ok (.bipush 60, 2) := by decide +kernel
theorem dX4_readComparison_16 : decode cX4_readComparison 16 = .ok (.if_icmp .eq 14, 3) := by decide +kernel
theorem dX4_readComparison_19 : decode cX4_readComparison 19 = .ok (.aload_n 0, 1) := by decide +kernel
theorem dX4_readComparison_20 : decode cX4_readComparison 20 = .ok (.getfield 54, 3) := by decide +kernel
theorem dX4_readComparison_23 : decode cX4_readComparison 23 = .ok (.bipush 61, 2) := by decide +kernel
theorem dX4_readComparison_25 : decode cX4_readComparison 25 = .ok (.if_icmp .eq 5, 3) := by decide +kernel
theorem dX4_readComparison_28 : decode cX4_readComparison 28 = .ok (.iconst 1, 1) := by decide +kernel
theorem dX4_readComparison_29 : decode cX4_readComparison 29 = .ok (.ireturn, 1) := by decide +kernel
theorem dX4_readComparison_30 : decode cX4_readComparison 30 = .ok (.aload_n 0, 1) := by decide +kernel
theorem dX4_readComparison_31 : decode cX4_readComparison 31 = .ok (.getfield 54, 3) := by decide +kernel
theorem dX4_readComparison_34 : decode cX4_readComparison 34 = .ok (.istore_n 2, 1) := by decide +kernel
theorem dX4_readComparison_35 : decode cX4_readComparison 35 = .ok (.aload_n 0, 1) := by decide +kernel
theorem dX4_readComparison_36 : decode cX4_readComparison 36 = .ok (.invokevirtual 45, 3) := by decide +kernel
theorem dX4_readComparison_39 : decode cX4_readComparison 39 = .ok (.aload_n 0, 1) := by decide +kernel
theorem dX4_readComparison_40 : decode cX4_readComparison 40 = .ok (.iload_n 1, 1) := by decide +kernel
theorem dX4_readComparison_41 : decode cX4_readComparison 41 = .ok (.invokevirtual 79, 3) := by decide +kernel
theorem dX4_readComparison_44 : decode cX4_readComparison 44 = .ok (.ifCond .ne 5, 3) := by decide +kernel
theorem dX4_readComparison_47 : decode cX4_readComparison 47 = .ok (.iconst 0, 1) := by decide +kernel
theorem dX4_readComparison_48 : decode cX4_readComparison 48 = .ok (.ireturn, 1) := by decide +kernel
theorem dX4_readComparison_49 : decode cX4_readComparison 49 = .ok (.aload_n 0, 1) := by decide +kernel
theorem dX4_readComparison_50 : decode cX4_readComparison 50 = .ok (.getfield 15, 3) := by decide +kernel
theorem dX4_readComparison_53 : decode cX4_readComparison 53 = .ok (.iload_n 2, 1) := by decide +kernel
theorem dX4_readComparison_54 : decode cX4_readComparison 54 = .ok (.bipush 60, 2) := by decide +kernel
theorem dX4_readComparison_56 : decode cX4_readComparison 56 = .ok (.if_icmp .ne 8, 3) := by decide +kernel
theorem dX4_readComparison_59 : decode cX4_readComparison 59 = .ok (.bipush (-10), 2) := by decide +kernel
theorem dX4_readComparison_61 : decode cX4_readComparison 61 = .ok (.goto 5, 3) := by decide +kernel
theorem dX4_readComparison_64 : decode cX4_readComparison 64 = .ok (.bipush (-11), 2) := by decide +kernel
theorem dX4_readComparison_66 : decode cX4_readComparison 66 = .ok (.invokevirtual 67, 3) := by decide +kernel
theorem dX4_readComparison_69 : decode cX4_readComparison 69 = .ok (.iconst 1, 1) := by decide +kernel
theorem dX4_readComparison_70 : decode cX4_readComparison 70 = .ok (.ireturn, 1) := by decide +kernel
theorem qX4_readComparison (d : Nat) (x1 : Int) (s : Sg) : RUN (d + 1) mX4_readComparison [vr 11 0, vi x1] s = bI (RUN d mX4_readSum [vr 11 0, vi x1] s) (fun r1 s1 => if r1 = 0 then (some (some (vi 0), s1)) else (if (s1 11 0 4) = 60 then (EV (d + 1) mX4_readComparison (30, [vr 11 0, vi x1, UU], [], s1)) else (if (s1 11 0 4) = 61 then (EV (d + 1) mX4_readComparison (30, [vr 11 0, vi x1, UU], [], s1)) else (some (some (vi 1), s1))))) := x_run rfl (x_st 1 dX4_readComparison_0 rfl (x_st 2 dX4_readComparison_1 rfl (x_ci 5 [vr 11 0, vi x1, UU] [] dX4_readComparison_2 rfl (fun r1 s1 => x_br dX4_readComparison_5 (x_if (x_go 8 (x_st 9 dX4_readComparison_8 rfl (x_ret dX4_readComparison_9 rfl))) (x_go 10 (x_st 11 dX4_readComparison_10 rfl (x_st 14 dX4_readComparison_11 rfl (x_st 16 dX4_readComparison_14 rfl (x_br dX4_readComparison_16 (x_if (x_go 30 (rfl)) (x_go 19 (x_st 20 dX4_readComparison_19 rfl (x_st 23 dX4_readComparison_20 rfl (x_st 25 dX4_readComparison_23 rfl (x_br dX4_readComparison_25 (x_if (x_go 30 (rfl)) (x_go 28 (x_st 29 dX4_readComparison_28 rfl (x_ret dX4_readComparison_29 rfl))))))))))))))))))))
theorem qX4_readComparison_30 (d : Nat) (x1 : Int) (z2 : PV) (s : Sg) : EV (d + 1) mX4_readComparison (30, [vr 11 0, vi x1, z2], [], s) = bV (RUN d mX4_step [vr 11 0] s) (fun s1 => bI (RUN d mX4_readSum [vr 11 0, vi x1] s1) (fun r2 s2 => if r2 = 0 then (some (some (vi 0), s2)) else (if (s 11 0 4) = 60 then (EV (d + 1) mX4_readComparison (66, [vr 11 0, vi x1, vi (s 11 0 4)], [vi (-10), vr 4 0], s2)) else (EV (d + 1) mX4_readComparison (66, [vr 11 0, vi x1, vi (s 11 0 4)], [vi (-11), vr 4 0], s2))))) := x_st 31 dX4_readComparison_30 rfl (x_st 34 dX4_readComparison_31 rfl (x_so 35 [vr 11 0, vi x1, vi (s 11 0 4)] dX4_readComparison_34 rfl (x_st 36 dX4_readComparison_35 rfl (x_cv 39 [vr 11 0, vi x1, vi (s 11 0 4)] [] dX4_readComparison_36 rfl (fun s1 => x_st 40 dX4_readComparison_39 rfl (x_st 41 dX4_readComparison_40 rfl (x_ci 44 [vr 11 0, vi x1, vi (s 11 0 4)] [] dX4_readComparison_41 rfl (fun r2 s2 => x_br dX4_readComparison_44 (x_if (x_go 47 (x_st 48 dX4_readComparison_47 rfl (x_ret dX4_readComparison_48 rfl))) (x_go 49 (x_st 50 dX4_readComparison_49 rfl (x_st 53 dX4_readComparison_50 rfl (x_st 54 dX4_readComparison_53 rfl (x_st 56 dX4_readComparison_54 rfl (x_br dX4_readComparison_56 (x_if (x_go 59 (x_st 61 dX4_readComparison_59 rfl (x_st 66 dX4_readComparison_61 rfl (rfl)))) (x_go 64 (x_st 66 dX4_readComparison_64 rfl (rfl)))))))))))))))))))
theorem qX4_readComparison_66 (d : Nat) (z0 : PV) (z1 : PV) (z2 : PV) (y0 : Int) (s : Sg) : EV (d + 1) mX4_readComparison (66, [z0, z1, z2], [vi y0, vr 4 0], s) = bV (RUN d mX5_write [vr 4 0, vi y0] s) (fun s1 => some (some (vi 1), s1)) := x_cv 69 [z0, z1, z2] [] dX4_readComparison_66 rfl (fun s1 => x_st 70 dX4_readComparison_69 rfl (x_ret dX4_readComparison_70 rfl))
theorem dX4_readSum_0 : decode cX4_readSum 0 = .ok (.aload_n 0, 1) := by decide +kernel
theorem dX4_readSum_1 : decode cX4_readSum 1 = .ok (.iload_n 1, 1) := by decide +kernel
theorem dX4_readSum_2 : decode cX4_readSum 2 = .ok (.invokevirtual 82, 3) := by decide +kernel
theorem dX4_readSum_5 : decode cX4_readSum 5 = .ok (.ifCond .ne 5, 3) := by decide +kernel
theorem dX4_readSum_8 : decode cX4_readSum 8 = .ok (.iconst 0, 1) := by decide +kernel
theorem dX4_readSum_9 : decode cX4_readSum 9 = .ok (.ireturn, 1) := by decide +kernel
theorem dX4_readSum_10 : decode cX4_readSum 10 = .ok (.iconst 0, 1) := by decide +kernel
theorem dX4_readSum_11 : decode cX4_readSum 11 = .ok (.istore_n 2, 1) := by decide +kernel
theorem dX4_readSum_12 : decode cX4_readSum 12 = .ok (.iload_n 2, 1) := by decide +kernel
theorem dX4_readSum_13 : decode cX4_readSum 13 = .ok (.sipush 160, 3) := by decide +kernel
theorem dX4_readSum_16 : decode cX4_readSum 16 = .ok (.if_icmp .ge 66, 3) := by decide +kernel
theorem dX4_readSum_19 : decode cX4_readSum 19 = .ok (.aload_n 0, 1) := by decide +kernel
theorem dX4_readSum_20 : decode cX4_readSum 20 = .ok (.getfield 54, 3) := by decide +kernel
theorem dX4_readSum_23 : decode cX4_readSum 23 = .ok (.bipush 43, 2) := by decide +kernel
theorem dX4_readSum_25 : decode cX4_readSum 25 = .ok (.if_icmp .eq 12, 3) := by decide +kernel
theorem dX4_readSum_28 : decode cX4_readSum 28 = .ok (.aload_n 0, 1) := by decide +kernel
theorem dX4_readSum_29 : decode cX4_readSum 29 = .ok (.getfield 54, 3) := by decide +kernel
theorem dX4_readSum_32 : decode cX4_readSum 32 = .ok (.bipush 45, 2) := by decide +kernel
theorem dX4_readSum_34 : decode cX4_readSum 34 = .ok (.if_icmp .ne 48, 3) := by decide +kernel
theorem dX4_readSum_37 : decode cX4_readSum 37 = .ok (.aload_n 0, 1) := by decide +kernel
theorem dX4_readSum_38 : decode cX4_readSum 38 = .ok (.getfield 54, 3) := by decide +kernel
theorem dX4_readSum_41 : decode cX4_readSum 41 = .ok (.istore_n 3, 1) := by decide +kernel
theorem dX4_readSum_42 : decode cX4_readSum 42 = .ok (.aload_n 0, 1) := by decide +kernel
theorem dX4_readSum_43 : decode cX4_readSum 43 = .ok (.invokevirtual 45, 3) := by decide +kernel
theorem dX4_readSum_46 : decode cX4_readSum 46 = .ok (.aload_n 0, 1) := by decide +kernel
theorem dX4_readSum_47 : decode cX4_readSum 47 = .ok (.iload_n 1, 1) := by decide +kernel
theorem dX4_readSum_48 : decode cX4_readSum 48 = .ok (.invokevirtual 82, 3) := by decide +kernel
theorem dX4_readSum_51 : decode cX4_readSum 51 = .ok (.ifCond .ne 5, 3) := by decide +kernel
theorem dX4_readSum_54 : decode cX4_readSum 54 = .ok (.iconst 0, 1) := by decide +kernel
theorem dX4_readSum_55 : decode cX4_readSum 55 = .ok (.ireturn, 1) := by decide +kernel
theorem dX4_readSum_56 : decode cX4_readSum 56 = .ok (.aload_n 0, 1) := by decide +kernel
theorem dX4_readSum_57 : decode cX4_readSum 57 = .ok (.getfield 15, 3) := by decide +kernel
theorem dX4_readSum_60 : decode cX4_readSum 60 = .ok (.iload_n 3, 1) := by decide +kernel
theorem dX4_readSum_61 : decode cX4_readSum 61 = .ok (.bipush 43, 2) := by decide +kernel
theorem dX4_readSum_63 : decode cX4_readSum 63 = .ok (.if_icmp .ne 8, 3) := by decide +kernel
theorem dX4_readSum_66 : decode cX4_readSum 66 = .ok (.bipush (-12), 2) := by decide +kernel
theorem dX4_readSum_68 : decode cX4_readSum 68 = .ok (.goto 5, 3) := by decide +kernel
theorem dX4_readSum_71 : decode cX4_readSum 71 = .ok (.bipush (-13), 2) := by decide +kernel
theorem dX4_readSum_73 : decode cX4_readSum 73 = .ok (.invokevirtual 67, 3) := by decide +kernel
theorem dX4_readSum_76 : decode cX4_readSum 76 = .ok (.iinc 2 1, 3) := by decide +kernel
theorem dX4_readSum_79 : decode cX4_readSum 79 = .ok (.goto (-67), 3) := by decide +kernel
theorem dX4_readSum_82 : decode cX4_readSum 82 = .ok (.iconst 1, 1) := by decide +kernel
theorem dX4_readSum_83 : decode cX4_readSum 83 = .ok (.ireturn, 1) := by decide +kernel
theorem qX4_readSum (d : Nat) (x1 : Int) (s : Sg) : RUN (d + 1) mX4_readSum [vr 11 0, vi x1] s = bI (RUN d mX4_readTerm [vr 11 0, vi x1] s) (fun r1 s1 => if r1 = 0 then (some (some (vi 0), s1)) else (EV (d + 1) mX4_readSum (12, [vr 11 0, vi x1, vi 0, UU], [], s1))) := x_run rfl (x_st 1 dX4_readSum_0 rfl (x_st 2 dX4_readSum_1 rfl (x_ci 5 [vr 11 0, vi x1, UU, UU] [] dX4_readSum_2 rfl (fun r1 s1 => x_br dX4_readSum_5 (x_if (x_go 8 (x_st 9 dX4_readSum_8 rfl (x_ret dX4_readSum_9 rfl))) (x_go 10 (x_st 11 dX4_readSum_10 rfl (x_so 12 [vr 11 0, vi x1, vi 0, UU] dX4_readSum_11 rfl (rfl)))))))))
theorem qX4_readSum_12 (d : Nat) (x1 : Int) (x2 : Int) (z3 : PV) (s : Sg) : EV d mX4_readSum (12, [vr 11 0, vi x1, vi x2, z3], [], s) = if x2 < 160 then (if (s 11 0 4) = 43 then (EV d mX4_readSum (37, [vr 11 0, vi x1, vi x2, z3], [], s)) else (if (s 11 0 4) = 45 then (EV d mX4_readSum (37, [vr 11 0, vi x1, vi x2, z3], [], s)) else (some (some (vi 1), s)))) else (some (some (vi 1), s)) := x_st 13 dX4_readSum_12 rfl (x_st 16 dX4_readSum_13 rfl (x_br dX4_readSum_16 (x_if (x_go 19 (x_st 20 dX4_readSum_19 rfl (x_st 23 dX4_readSum_20 rfl (x_st 25 dX4_readSum_23 rfl (x_br dX4_readSum_25 (x_if (x_go 37 (rfl)) (x_go 28 (x_st 29 dX4_readSum_28 rfl (x_st 32 dX4_readSum_29 rfl (x_st 34 dX4_readSum_32 rfl (x_br dX4_readSum_34 (x_if (x_go 37 (rfl)) (x_go 82 (x_st 83 dX4_readSum_82 rfl (x_ret dX4_readSum_83 rfl))))))))))))))) (x_go 82 (x_st 83 dX4_readSum_82 rfl (x_ret dX4_readSum_83 rfl))))))
theorem qX4_readSum_37 (d : Nat) (x1 : Int) (x2 : Int) (z3 : PV) (s : Sg) : EV (d + 1) mX4_readSum (37, [vr 11 0, vi x1, vi x2, z3], [], s) = bV (RUN d mX4_step [vr 11 0] s) (fun s1 => bI (RUN d mX4_readTerm [vr 11 0, vi x1] s1) (fun r2 s2 => if r2 = 0 then (some (some (vi 0), s2)) else (if (s 11 0 4) = 43 then (EV (d + 1) mX4_readSum (73, [vr 11 0, vi x1, vi x2, vi (s 11 0 4)], [vi (-12), vr 4 0], s2)) else (EV (d + 1) mX4_readSum (73, [vr 11 0, vi x1, vi x2, vi (s 11 0 4)], [vi (-13), vr 4 0], s2))))) := x_st 38 dX4_readSum_37 rfl (x_st 41 dX4_readSum_38 rfl (x_so 42 [vr 11 0, vi x1, vi x2, vi (s 11 0 4)] dX4_readSum_41 rfl (x_st 43 dX4_readSum_42 rfl (x_cv 46 [vr 11 0, vi x1, vi x2, vi (s 11 0 4)] [] dX4_readSum_43 rfl (fun s1 => x_st 47 dX4_readSum_46 rfl (x_st 48 dX4_readSum_47 rfl (x_ci 51 [vr 11 0, vi x1, vi x2, vi (s 11 0 4)] [] dX4_readSum_48 rfl (fun r2 s2 => x_br dX4_readSum_51 (x_if (x_go 54 (x_st 55 dX4_readSum_54 rfl (x_ret dX4_readSum_55 rfl))) (x_go 56 (x_st 57 dX4_readSum_56 rfl (x_st 60 dX4_readSum_57 rfl (x_st 61 dX4_readSum_60 rfl (x_st 63 dX4_readSum_61 rfl (x_br dX4_readSum_63 (x_if (x_go 66 (x_st 68 dX4_readSum_66 rfl (x_st 73 dX4_readSum_68 rfl (rfl)))) (x_go 71 (x_st 73 dX4_readSum_71 rfl (rfl)))))))))))))))))))
theorem qX4_readSum_73 (d : Nat) (x1 : Int) (x2 : Int) (z3 : PV) (y0 : Int) (s : Sg) : EV (d + 1) mX4_readSum (73, [vr 11 0, vi x1, vi x2, z3], [vi y0, vr 4 0], s) = bV (RUN d mX5_write [vr 4 0, vi y0] s) (fun s1 => EV (d + 1) mX4_readSum (12, [vr 11 0, vi x1, vi (w32 (x2 + 1)), z3], [], s1)) := x_cv 76 [vr 11 0, vi x1, vi x2, z3] [] dX4_readSum_73 rfl (fun s1 => x_so 79 [vr 11 0, vi x1, vi (w32 (x2 + 1)), z3] dX4_readSum_76 rfl (x_st 12 dX4_readSum_79 rfl (rfl)))
theorem dX4_isSpelled_0 : decode cX4_isSpelled 0 = .ok (.aload_n 0, 1) := by decide +kernel
theorem dX4_isSpelled_1 : decode cX4_isSpelled 1 = .ok (.getfield 37, 3) := by decide +kernel
theorem dX4_isSpelled_4 : decode cX4_isSpelled 4 = .ok (.aload_n 0, 1) := by decide +kernel
theorem dX4_isSpelled_5 : decode cX4_isSpelled 5 = .ok (.getfield 51, 3) := by decide +kernel
theorem dX4_isSpelled_8 : decode cX4_isSpelled 8 = .ok (.isub, 1) := by decide +kernel
theorem dX4_isSpelled_9 : decode cX4_isSpelled 9 = .ok (.iload_n 2, 1) := by decide +kernel
theorem dX4_isSpelled_10 : decode cX4_isSpelled 10 = .ok (.iload_n 1, 1) := by decide +kernel
theorem dX4_isSpelled_11 : decode cX4_isSpelled 11 = .ok (.isub, 1) := by decide +kernel
theorem dX4_isSpelled_12 : decode cX4_isSpelled 12 = .ok (.if_icmp .eq 5, 3) := by decide +kernel
theorem dX4_isSpelled_15 : decode cX4_isSpelled 15 = .ok (.iconst 0, 1) := by decide +kernel
theorem dX4_isSpelled_16 : decode cX4_isSpelled 16 = .ok (.ireturn, 1) := by decide +kernel
theorem dX4_isSpelled_17 : decode cX4_isSpelled 17 = .ok (.iload_n 1, 1) := by decide +kernel
theorem dX4_isSpelled_18 : decode cX4_isSpelled 18 = .ok (.istore_n 3, 1) := by decide +kernel
theorem dX4_isSpelled_19 : decode cX4_isSpelled 19 = .ok (.iload_n 3, 1) := by decide +kernel
theorem dX4_isSpelled_20 : decode cX4_isSpelled 20 = .ok (.iload_n 2, 1) := by decide +kernel
theorem dX4_isSpelled_21 : decode cX4_isSpelled 21 = .ok (.if_icmp .ge 33, 3) := by decide +kernel
theorem dX4_isSpelled_24 : decode cX4_isSpelled 24 = .ok (.ldc 115, 2) := by decide +kernel
theorem dX4_isSpelled_26 : decode cX4_isSpelled 26 = .ok (.iload_n 3, 1) := by decide +kernel
theorem dX4_isSpelled_27 : decode cX4_isSpelled 27 = .ok (.invokevirtual 29, 3) := by decide +kernel
theorem dX4_isSpelled_30 : decode cX4_isSpelled 30 = .ok (.aload_n 0, 1) := by decide +kernel
theorem dX4_isSpelled_31 : decode cX4_isSpelled 31 = .ok (.getfield 9, 3) := by decide +kernel
theorem dX4_isSpelled_34 : decode cX4_isSpelled 34 = .ok (.aload_n 0, 1) := by decide +kernel
theorem dX4_isSpelled_35 : decode cX4_isSpelled 35 = .ok (.getfield 51, 3) := by decide +kernel
theorem dX4_isSpelled_38 : decode cX4_isSpelled 38 = .ok (.iload_n 3, 1) := by decide +kernel
theorem dX4_isSpelled_39 : decode cX4_isSpelled 39 = .ok (.iadd, 1) := by decide +kernel
theorem dX4_isSpelled_40 : decode cX4_isSpelled 40 = .ok (.iload_n 1, 1) := by decide +kernel
theorem dX4_isSpelled_41 : decode cX4_isSpelled 41 = .ok (.isub, 1) := by decide +kernel
theorem dX4_isSpelled_42 : decode cX4_isSpelled 42 = .ok (.iaload, 1) := by decide +kernel
theorem dX4_isSpelled_43 : decode cX4_isSpelled 43 = .ok (.if_icmp .eq 5, 3) := by decide +kernel
theorem dX4_isSpelled_46 : decode cX4_isSpelled 46 = .ok (.iconst 0, 1) := by decide +kernel
theorem dX4_isSpelled_47 : decode cX4_isSpelled 47 = .ok (.ireturn, 1) := by decide +kernel
theorem dX4_isSpelled_48 : decode cX4_isSpelled 48 = .ok (.iinc 3 1, 3) := by decide +kernel
theorem dX4_isSpelled_51 : decode cX4_isSpelled 51 = .ok (.goto (-32), 3) := by decide +kernel
theorem dX4_isSpelled_54 : decode cX4_isSpelled 54 = .ok (.iconst 1, 1) := by decide +kernel
theorem dX4_isSpelled_55 : decode cX4_isSpelled 55 = .ok (.ireturn, 1) := by decide +kernel
theorem qX4_isSpelled (d : Nat) (x1 : Int) (x2 : Int) (s : Sg) : RUN d mX4_isSpelled [vr 11 0, vi x1, vi x2] s = if (w32 ((s 11 0 3) - (s 11 0 5))) = (w32 (x2 - x1)) then (EV d mX4_isSpelled (19, [vr 11 0, vi x1, vi x2, vi x1], [], s)) else (some (some (vi 0), s)) := x_run rfl (x_st 1 dX4_isSpelled_0 rfl (x_st 4 dX4_isSpelled_1 rfl (x_st 5 dX4_isSpelled_4 rfl (x_st 8 dX4_isSpelled_5 rfl (x_st 9 dX4_isSpelled_8 rfl (x_st 10 dX4_isSpelled_9 rfl (x_st 11 dX4_isSpelled_10 rfl (x_st 12 dX4_isSpelled_11 rfl (x_br dX4_isSpelled_12 (x_if (x_go 17 (x_st 18 dX4_isSpelled_17 rfl (x_so 19 [vr 11 0, vi x1, vi x2, vi x1] dX4_isSpelled_18 rfl (rfl)))) (x_go 15 (x_st 16 dX4_isSpelled_15 rfl (x_ret dX4_isSpelled_16 rfl)))))))))))))
theorem qX4_isSpelled_19 (d : Nat) (x1 : Int) (x2 : Int) (x3 : Int) (s : Sg) : EV (d + 1) mX4_isSpelled (19, [vr 11 0, vi x1, vi x2, vi x3], [], s) = if x3 < x2 then (bI (RUN d mJ0_charAt_5068e [vr 56 0, vi x3] s) (fun r1 s1 => if inb (w32 ((w32 ((s1 11 0 5) + x3)) - x1)) 160 then (if r1 = (s1 12 0 (Int.toNat (w32 ((w32 ((s1 11 0 5) + x3)) - x1)))) then (EV (d + 1) mX4_isSpelled (19, [vr 11 0, vi x1, vi x2, vi (w32 (x3 + 1))], [], s1)) else (some (some (vi 0), s1))) else none)) else (some (some (vi 1), s)) := x_st 20 dX4_isSpelled_19 rfl (x_st 21 dX4_isSpelled_20 rfl (x_br dX4_isSpelled_21 (x_if (x_go 24 (x_st 26 dX4_isSpelled_24 rfl (x_st 27 dX4_isSpelled_26 rfl (x_ci 30 [vr 11 0, vi x1, vi x2, vi x3] [] dX4_isSpelled_27 rfl (fun r1 s1 => x_st 31 dX4_isSpelled_30 rfl (x_st 34 dX4_isSpelled_31 rfl (x_st 35 dX4_isSpelled_34 rfl (x_st 38 dX4_isSpelled_35 rfl (x_st 39 dX4_isSpelled_38 rfl (x_st 40 dX4_isSpelled_39 rfl (x_st 41 dX4_isSpelled_40 rfl (x_st 42 dX4_isSpelled_41 rfl (x_br dX4_isSpelled_42 (x_if (x_go 43 (x_br dX4_isSpelled_43 (x_if (x_go 48 (x_so 51 [vr 11 0, vi x1, vi x2, vi (w32 (x3 + 1))] dX4_isSpelled_48 rfl (x_st 19 dX4_isSpelled_51 rfl (rfl)))) (x_go 46 (x_st 47 dX4_isSpelled_46 rfl (x_ret dX4_isSpelled_47 rfl)))))) x_no)))))))))))))) (x_go 54 (x_st 55 dX4_isSpelled_54 rfl (x_ret dX4_isSpelled_55 rfl))))))
theorem dX4_readTerm_0 : decode cX4_readTerm 0 = .ok (.aload_n 0, 1) := by decide +kernel
theorem dX4_readTerm_1 : decode cX4_readTerm 1 = .ok (.iload_n 1, 1) := by decide +kernel
theorem dX4_readTerm_2 : decode cX4_readTerm 2 = .ok (.invokevirtual 85, 3) := by decide +kernel
theorem dX4_readTerm_5 : decode cX4_readTerm 5 = .ok (.ifCond .ne 5, 3) := by decide +kernel
theorem dX4_readTerm_8 : decode cX4_readTerm 8 = .ok (.iconst 0, 1) := by decide +kernel
theorem dX4_readTerm_9 : decode cX4_readTerm 9 = .ok (.ireturn, 1) := by decide +kernel
theorem dX4_readTerm_10 : decode cX4_readTerm 10 = .ok (.iconst 0, 1) := by decide +kernel
theorem dX4_readTerm_11 : decode cX4_readTerm 11 = .ok (.istore_n 2, 1) := by decide +kernel
theorem dX4_readTerm_12 : decode cX4_readTerm 12 = .ok (.iload_n 2, 1) := by decide +kernel
theorem dX4_readTerm_13 : decode cX4_readTerm 13 = .ok (.sipush 160, 3) := by decide +kernel
theorem dX4_readTerm_16 : decode cX4_readTerm 16 = .ok (.if_icmp .ge 41, 3) := by decide +kernel
theorem dX4_readTerm_19 : decode cX4_readTerm 19 = .ok (.aload_n 0, 1) := by decide +kernel
theorem dX4_readTerm_20 : decode cX4_readTerm 20 = .ok (.getfield 54, 3) := by decide +kernel
theorem dX4_readTerm_23 : decode cX4_readTerm 23 = .ok (.bipush 42, 2) := by decide +kernel
theorem dX4_readTerm_25 : decode cX4_readTerm 25 = .ok (.if_icmp .ne 32, 3) := by decide +kernel
theorem dX4_readTerm_28 : decode cX4_readTerm 28 = .ok (.aload_n 0, 1) := by decide +kernel
theorem dX4_readTerm_29 : decode cX4_readTerm 29 = .ok (.invokevirtual 45, 3) := by decide +kernel
theorem dX4_readTerm_32 : decode cX4_readTerm 32 = .ok (.aload_n 0, 1) := by decide +kernel
theorem dX4_readTerm_33 : decode cX4_readTerm 33 = .ok (.iload_n 1, 1) := by decide +kernel
theorem dX4_readTerm_34 : decode cX4_readTerm 34 = .ok (.invokevirtual 85, 3) := by decide +kernel
theorem dX4_readTerm_37 : decode cX4_readTerm 37 = .ok (.ifCond .ne 5, 3) := by decide +kernel
theorem dX4_readTerm_40 : decode cX4_readTerm 40 = .ok (.iconst 0, 1) := by decide +kernel
theorem dX4_readTerm_41 : decode cX4_readTerm 41 = .ok (.ireturn, 1) := by decide +kernel
theorem dX4_readTerm_42 : decode cX4_readTerm 42 = .ok (.aload_n 0, 1) := by decide +kernel
theorem dX4_readTerm_43 : decode cX4_readTerm 43 = .ok (.getfield 15, 3) := by decide +kernel
theorem dX4_readTerm_46 : decode cX4_readTerm 46 = .ok (.bipush (-14), 2) := by decide +kernel
theorem dX4_readTerm_48 : decode cX4_readTerm 48 = .ok (.invokevirtual 67, 3) := by decide +kernel
theorem dX4_readTerm_51 : decode cX4_readTerm 51 = .ok (.iinc 2 1, 3) := by decide +kernel
theorem dX4_readTerm_54 : decode cX4_readTerm 54 = .ok (.goto (-42), 3) := by decide +kernel
theorem dX4_readTerm_57 : decode cX4_readTerm 57 = .ok (.iconst 1, 1) := by decide +kernel
theorem dX4_readTerm_58 : decode cX4_readTerm 58 = .ok (.ireturn, 1) := by decide +kernel
theorem qX4_readTerm (d : Nat) (x1 : Int) (s : Sg) : RUN (d + 1) mX4_readTerm [vr 11 0, vi x1] s = bI (RUN d mX4_readOne [vr 11 0, vi x1] s) (fun r1 s1 => if r1 = 0 then (some (some (vi 0), s1)) else (EV (d + 1) mX4_readTerm (12, [vr 11 0, vi x1, vi 0], [], s1))) := x_run rfl (x_st 1 dX4_readTerm_0 rfl (x_st 2 dX4_readTerm_1 rfl (x_ci 5 [vr 11 0, vi x1, UU] [] dX4_readTerm_2 rfl (fun r1 s1 => x_br dX4_readTerm_5 (x_if (x_go 8 (x_st 9 dX4_readTerm_8 rfl (x_ret dX4_readTerm_9 rfl))) (x_go 10 (x_st 11 dX4_readTerm_10 rfl (x_so 12 [vr 11 0, vi x1, vi 0] dX4_readTerm_11 rfl (rfl)))))))))
theorem qX4_readTerm_12 (d : Nat) (x1 : Int) (x2 : Int) (s : Sg) : EV (d + 1) mX4_readTerm (12, [vr 11 0, vi x1, vi x2], [], s) = if x2 < 160 then (if (s 11 0 4) = 42 then (bV (RUN d mX4_step [vr 11 0] s) (fun s1 => bI (RUN d mX4_readOne [vr 11 0, vi x1] s1) (fun r2 s2 => if r2 = 0 then (some (some (vi 0), s2)) else (bV (RUN d mX5_write [vr 4 0, vi (-14)] s2) (fun s3 => EV (d + 1) mX4_readTerm (12, [vr 11 0, vi x1, vi (w32 (x2 + 1))], [], s3)))))) else (some (some (vi 1), s))) else (some (some (vi 1), s)) := x_st 13 dX4_readTerm_12 rfl (x_st 16 dX4_readTerm_13 rfl (x_br dX4_readTerm_16 (x_if (x_go 19 (x_st 20 dX4_readTerm_19 rfl (x_st 23 dX4_readTerm_20 rfl (x_st 25 dX4_readTerm_23 rfl (x_br dX4_readTerm_25 (x_if (x_go 28 (x_st 29 dX4_readTerm_28 rfl (x_cv 32 [vr 11 0, vi x1, vi x2] [] dX4_readTerm_29 rfl (fun s1 => x_st 33 dX4_readTerm_32 rfl (x_st 34 dX4_readTerm_33 rfl (x_ci 37 [vr 11 0, vi x1, vi x2] [] dX4_readTerm_34 rfl (fun r2 s2 => x_br dX4_readTerm_37 (x_if (x_go 40 (x_st 41 dX4_readTerm_40 rfl (x_ret dX4_readTerm_41 rfl))) (x_go 42 (x_st 43 dX4_readTerm_42 rfl (x_st 46 dX4_readTerm_43 rfl (x_st 48 dX4_readTerm_46 rfl (x_cv 51 [vr 11 0, vi x1, vi x2] [] dX4_readTerm_48 rfl (fun s3 => x_so 54 [vr 11 0, vi x1, vi (w32 (x2 + 1))] dX4_readTerm_51 rfl (x_st 12 dX4_readTerm_54 rfl (rfl)))))))))))))))) (x_go 57 (x_st 58 dX4_readTerm_57 rfl (x_ret dX4_readTerm_58 rfl))))))))) (x_go 57 (x_st 58 dX4_readTerm_57 rfl (x_ret dX4_readTerm_58 rfl))))))
theorem dX4_readOne_0 : decode cX4_readOne 0 = .ok (.aload_n 0, 1) := by decide +kernel
theorem dX4_readOne_1 : decode cX4_readOne 1 = .ok (.getfield 54, 3) := by decide +kernel
theorem dX4_readOne_4 : decode cX4_readOne 4 = .ok (.bipush 12, 2) := by decide +kernel
theorem dX4_readOne_6 : decode cX4_readOne 6 = .ok (.if_icmp .ne 20, 3) := by decide +kernel
theorem dX4_readOne_9 : decode cX4_readOne 9 = .ok (.aload_n 0, 1) := by decide +kernel
theorem dX4_readOne_10 : decode cX4_readOne 10 = .ok (.getfield 15, 3) := by decide +kernel
theorem dX4_readOne_13 : decode cX4_readOne 13 = .ok (.aload_n 0, 1) := by decide +kernel
theorem dX4_readOne_14 : decode cX4_readOne 14 = .ok (.getfield 88, 3) := by decide +kernel
theorem dX4_readOne_17 : decode cX4_readOne 17 = .ok (.invokevirtual 67, 3) := by decide +kernel
theorem dX4_readOne_20 : decode cX4_readOne 20 = .ok (.aload_n 0, 1) := by decide +kernel
theorem dX4_readOne_21 : decode cX4_readOne 21 = .ok (.invokevirtual 45, 3) := by decide +kernel
theorem dX4_readOne_24 : decode cX4_readOne 24 = .ok (.iconst 1, 1) := by decide +kernel
theorem dX4_readOne_25 : decode cX4_readOne 25 = .ok (.ireturn, 1) := by decide +kernel
theorem dX4_readOne_26 : decode cX4_readOne 26 = .ok (.aload_n 0, 1) := by decide +kernel
theorem dX4_readOne_27 : decode cX4_readOne 27 = .ok (.getfield 54, 3) := by decide +kernel
theorem dX4_readOne_30 : decode cX4_readOne 30 = .ok (.iconst 5, 1) := by decide +kernel
theorem dX4_readOne_31 : decode cX4_readOne 31 = .ok (.if_icmp .gt 22, 3) := by decide +kernel
theorem dX4_readOne_34 : decode cX4_readOne 34 = .ok (.aload_n 0, 1) := by decide +kernel
theorem dX4_readOne_35 : decode cX4_readOne 35 = .ok (.getfield 15, 3) := by decide +kernel
theorem dX4_readOne_38 : decode cX4_readOne 38 = .ok (.iconst (-1), 1) := by decide +kernel
theorem dX4_readOne_39 : decode cX4_readOne 39 = .ok (.aload_n 0, 1) := by decide +kernel
theorem dX4_readOne_40 : decode cX4_readOne 40 = .ok (.getfield 54, 3) := by decide +kernel
theorem dX4_readOne_43 : decode cX4_readOne 43 = .ok (.isub, 1) := by decide +kernel
theorem dX4_readOne_44 : decode cX4_readOne 44 = .ok (.invokevirtual 67, 3) := by decide +kernel
theorem dX4_readOne_47 : decode cX4_readOne 47 = .ok (.aload_n 0, 1) := by decide +kernel
theorem dX4_readOne_48 : decode cX4_readOne 48 = .ok (.invokevirtual 45, 3) := by decide +kernel
theorem dX4_readOne_51 : decode cX4_readOne 51 = .ok (.iconst 1, 1) := by decide +kernel
theorem dX4_readOne_52 : decode cX4_readOne 52 = .ok (.ireturn, 1) := by decide +kernel
theorem dX4_readOne_53 : decode cX4_readOne 53 = .ok (.aload_n 0, 1) := by decide +kernel
theorem dX4_readOne_54 : decode cX4_readOne 54 = .ok (.getfield 54, 3) := by decide +kernel
theorem dX4_readOne_57 : decode cX4_readOne 57 = .ok (.bipush 45, 2) := by decide +kernel
theorem dX4_readOne_59 : decode cX4_readOne 59 = .ok (.if_icmp .eq 12, 3) := by decide +kernel
theorem dX4_readOne_62 : decode cX4_readOne 62 = .ok (.aload_n 0, 1) := by decide +kernel
theorem dX4_readOne_63 : decode cX4_readOne 63 = .ok (.getfield 54, 3) := by decide +kernel
theorem dX4_readOne_66 : decode cX4_readOne 66 = .ok (.bipush 40, 2) := by decide +kernel
theorem dX4_readOne_68 : decode cX4_readOne 68 = .ok (.if_icmp .ne 8, 3) := by decide +kernel
theorem dX4_readOne_71 : decode cX4_readOne 71 = .ok (.iload_n 1, 1) := by decide +kernel
theorem dX4_readOne_72 : decode cX4_readOne 72 = .ok (.iconst 5, 1) := by decide +kernel
theorem dX4_readOne_73 : decode cX4_readOne 73 = .ok (.if_icmp .lt 5, 3) := by decide +kernel
theorem dX4_readOne_76 : decode cX4_readOne 76 = .ok (.iconst 0, 1) := by decide +kernel
theorem dX4_readOne_77 : decode cX4_readOne 77 = .ok (.ireturn, 1) := by decide +kernel
theorem dX4_readOne_78 : decode cX4_readOne 78 = .ok (.aload_n 0, 1) := by decide +kernel
theorem dX4_readOne_79 : decode cX4_readOne 79 = .ok (.getfield 54, 3) := by decide +kernel
theorem dX4_readOne_82 : decode cX4_readOne 82 = .ok (.bipush 45, 2) := by decide +kernel
theorem dX4_readOne_84 : decode cX4_readOne 84 = .ok (.if_icmp .ne 7, 3) := by decide +kernel
theorem dX4_readOne_87 : decode cX4_readOne 87 = .ok (.iconst 1, 1) := by decide +kernel
theorem dX4_readOne_88 : decode cX4_readOne 88 = .ok (.goto 4, 3) := by decide +kernel
theorem dX4_readOne_91 : decode cX4_readOne 91 = .ok (.iconst 0, 1) := by decide +kernel
theorem dX4_readOne_92 : decode cX4_readOne 92 = .ok (.istore_n 2, 1) := by decide +kernel
theorem dX4_readOne_93 : decode cX4_readOne 93 = .ok (.aload_n 0, 1) := by decide +kernel
theorem dX4_readOne_94 : decode cX4_readOne 94 = .ok (.invokevirtual 45, 3) := by decide +kernel
theorem dX4_readOne_97 : decode cX4_readOne 97 = .ok (.iload_n 2, 1) := by decide +kernel
theorem dX4_readOne_98 : decode cX4_readOne 98 = .ok (.ifCond .eq 13, 3) := by decide +kernel
theorem dX4_readOne_101 : decode cX4_readOne 101 = .ok (.aload_n 0, 1) := by decide +kernel
theorem dX4_readOne_102 : decode cX4_readOne 102 = .ok (.iload_n 1, 1) := by decide +kernel
theorem dX4_readOne_103 : decode cX4_readOne 103 = .ok (.iconst 1, 1) := by decide +kernel
theorem dX4_readOne_104 : decode cX4_readOne 104 = .ok (.iadd, 1) := by decide +kernel
theorem dX4_readOne_105 : decode cX4_readOne 105 = .ok (.invokevirtual 91, 3) := by decide +kernel
theorem dX4_readOne_108 : decode cX4_readOne 108 = .ok (.goto 10, 3) := by decide +kernel
theorem dX4_readOne_111 : decode cX4_readOne 111 = .ok (.aload_n 0, 1) := by decide +kernel
theorem dX4_readOne_112 : decode cX4_readOne 112 = .ok (.iload_n 1, 1) := by decide +kernel
theorem dX4_readOne_113 : decode cX4_readOne 113 = .ok (.iconst 1, 1) := by decide +kernel
theorem dX4_readOne_114 : decode cX4_readOne 114 = .ok (.iadd, 1) := by decide +kernel
theorem dX4_readOne_115 : decode cX4_readOne 115 = .ok (.invokevirtual 94, 3) := by decide +kernel
theorem dX4_readOne_118 : decode cX4_readOne 118 = .ok (.ireturn, 1) := by decide +kernel
theorem qX4_readOne (d : Nat) (x1 : Int) (s : Sg) : RUN (d + 1) mX4_readOne [vr 11 0, vi x1] s = if (s 11 0 4) = 12 then (bV (RUN d mX5_write [vr 4 0, vi (s 11 0 6)] s) (fun s1 => bV (RUN d mX4_step [vr 11 0] s1) (fun s2 => some (some (vi 1), s2)))) else (if 5 < (s 11 0 4) then (if (s 11 0 4) = 45 then (EV (d + 1) mX4_readOne (71, [vr 11 0, vi x1, UU], [], s)) else (if (s 11 0 4) = 40 then (EV (d + 1) mX4_readOne (71, [vr 11 0, vi x1, UU], [], s)) else (some (some (vi 0), s)))) else (bV (RUN d mX5_write [vr 4 0, vi (w32 ((-1) - (s 11 0 4)))] s) (fun s3 => bV (RUN d mX4_step [vr 11 0] s3) (fun s4 => some (some (vi 1), s4))))) := x_run rfl (x_st 1 dX4_readOne_0 rfl (x_st 4 dX4_readOne_1 rfl (x_st 6 dX4_readOne_4 rfl (x_br dX4_readOne_6 (x_if (x_go 9 (x_st 10 dX4_readOne_9 rfl (x_st 13 dX4_readOne_10 rfl (x_st 14 dX4_readOne_13 rfl (x_st 17 dX4_readOne_14 rfl (x_cv 20 [vr 11 0, vi x1, UU] [] dX4_readOne_17 rfl (fun s1 => x_st 21 dX4_readOne_20 rfl (x_cv 24 [vr 11 0, vi x1, UU] [] dX4_readOne_21 rfl (fun s2 => x_st 25 dX4_readOne_24 rfl (x_ret dX4_readOne_25 rfl)))))))))) (x_go 26 (x_st 27 dX4_readOne_26 rfl (x_st 30 dX4_readOne_27 rfl (x_st 31 dX4_readOne_30 rfl (x_br dX4_readOne_31 (x_if (x_go 53 (x_st 54 dX4_readOne_53 rfl (x_st 57 dX4_readOne_54 rfl (x_st 59 dX4_readOne_57 rfl (x_br dX4_readOne_59 (x_if (x_go 71 (rfl)) (x_go 62 (x_st 63 dX4_readOne_62 rfl (x_st 66 dX4_readOne_63 rfl (x_st 68 dX4_readOne_66 rfl (x_br dX4_readOne_68 (x_if (x_go 71 (rfl)) (x_go 76 (x_st 77 dX4_readOne_76 rfl (x_ret dX4_readOne_77 rfl))))))))))))))) (x_go 34 (x_st 35 dX4_readOne_34 rfl (x_st 38 dX4_readOne_35 rfl (x_st 39 dX4_readOne_38 rfl (x_st 40 dX4_readOne_39 rfl (x_st 43 dX4_readOne_40 rfl (x_st 44 dX4_readOne_43 rfl (x_cv 47 [vr 11 0, vi x1, UU] [] dX4_readOne_44 rfl (fun s3 => x_st 48 dX4_readOne_47 rfl (x_cv 51 [vr 11 0, vi x1, UU] [] dX4_readOne_48 rfl (fun s4 => x_st 52 dX4_readOne_51 rfl (x_ret dX4_readOne_52 rfl)))))))))))))))))))))))
theorem qX4_readOne_71 (d : Nat) (x1 : Int) (z2 : PV) (s : Sg) : EV d mX4_readOne (71, [vr 11 0, vi x1, z2], [], s) = if x1 < 5 then (if (s 11 0 4) = 45 then (EV d mX4_readOne (92, [vr 11 0, vi x1, z2], [vi 1], s)) else (EV d mX4_readOne (92, [vr 11 0, vi x1, z2], [vi 0], s))) else (some (some (vi 0), s)) := x_st 72 dX4_readOne_71 rfl (x_st 73 dX4_readOne_72 rfl (x_br dX4_readOne_73 (x_if (x_go 78 (x_st 79 dX4_readOne_78 rfl (x_st 82 dX4_readOne_79 rfl (x_st 84 dX4_readOne_82 rfl (x_br dX4_readOne_84 (x_if (x_go 87 (x_st 88 dX4_readOne_87 rfl (x_st 92 dX4_readOne_88 rfl (rfl)))) (x_go 91 (x_st 92 dX4_readOne_91 rfl (rfl))))))))) (x_go 76 (x_st 77 dX4_readOne_76 rfl (x_ret dX4_readOne_77 rfl))))))
theorem qX4_readOne_92 (d : Nat) (x1 : Int) (z2 : PV) (y0 : Int) (s : Sg) : EV (d + 1) mX4_readOne (92, [vr 11 0, vi x1, z2], [vi y0], s) = bV (RUN d mX4_step [vr 11 0] s) (fun s1 => if y0 = 0 then (bI (RUN d mX4_readEnclosed [vr 11 0, vi (w32 (x1 + 1))] s1) (fun r2 s2 => if 0 ≤ r2 ∧ r2 ≤ 1 then some (some (vi r2), s2) else none)) else (bI (RUN d mX4_readNegated [vr 11 0, vi (w32 (x1 + 1))] s1) (fun r3 s3 => if 0 ≤ r3 ∧ r3 ≤ 1 then some (some (vi r3), s3) else none))) := x_so 93 [vr 11 0, vi x1, vi y0] dX4_readOne_92 rfl (x_st 94 dX4_readOne_93 rfl (x_cv 97 [vr 11 0, vi x1, vi y0] [] dX4_readOne_94 rfl (fun s1 => x_st 98 dX4_readOne_97 rfl (x_br dX4_readOne_98 (x_if (x_go 111 (x_st 112 dX4_readOne_111 rfl (x_st 113 dX4_readOne_112 rfl (x_st 114 dX4_readOne_113 rfl (x_st 115 dX4_readOne_114 rfl (x_ci 118 [vr 11 0, vi x1, vi y0] [] dX4_readOne_115 rfl (fun r2 s2 => x_br dX4_readOne_118 x_rg))))))) (x_go 101 (x_st 102 dX4_readOne_101 rfl (x_st 103 dX4_readOne_102 rfl (x_st 104 dX4_readOne_103 rfl (x_st 105 dX4_readOne_104 rfl (x_ci 108 [vr 11 0, vi x1, vi y0] [] dX4_readOne_105 rfl (fun r3 s3 => x_st 118 dX4_readOne_108 rfl (x_br dX4_readOne_118 x_rg)))))))))))))
theorem dX4_readEnclosed_0 : decode cX4_readEnclosed 0 = .ok (.aload_n 0, 1) := by decide +kernel
theorem dX4_readEnclosed_1 : decode cX4_readEnclosed 1 = .ok (.iload_n 1, 1) := by decide +kernel
theorem dX4_readEnclosed_2 : decode cX4_readEnclosed 2 = .ok (.invokevirtual 64, 3) := by decide +kernel
theorem dX4_readEnclosed_5 : decode cX4_readEnclosed 5 = .ok (.ifCond .eq 12, 3) := by decide +kernel
theorem dX4_readEnclosed_8 : decode cX4_readEnclosed 8 = .ok (.aload_n 0, 1) := by decide +kernel
theorem dX4_readEnclosed_9 : decode cX4_readEnclosed 9 = .ok (.getfield 54, 3) := by decide +kernel
theorem dX4_readEnclosed_12 : decode cX4_readEnclosed 12 = .ok (.bipush 41, 2) := by decide +kernel
theorem dX4_readEnclosed_14 : decode cX4_readEnclosed 14 = .ok (.if_icmp .eq 5, 3) := by decide +kernel
theorem dX4_readEnclosed_17 : decode cX4_readEnclosed 17 = .ok (.iconst 0, 1) := by decide +kernel
theorem dX4_readEnclosed_18 : decode cX4_readEnclosed 18 = .ok (.ireturn, 1) := by decide +kernel
theorem dX4_readEnclosed_19 : decode cX4_readEnclosed 19 = .ok (.aload_n 0, 1) := by decide +kernel
theorem dX4_readEnclosed_20 : decode cX4_readEnclosed 20 = .ok (.invokevirtual 45, 3) := by decide +kernel
theorem dX4_readEnclosed_23 : decode cX4_readEnclosed 23 = .ok (.iconst 1, 1) := by decide +kernel
theorem dX4_readEnclosed_24 : decode cX4_readEnclosed 24 = .ok (.ireturn, 1) := by decide +kernel
theorem qX4_readEnclosed (d : Nat) (x1 : Int) (s : Sg) : RUN (d + 1) mX4_readEnclosed [vr 11 0, vi x1] s = bI (RUN d mX4_readOr [vr 11 0, vi x1] s) (fun r1 s1 => if r1 = 0 then (some (some (vi 0), s1)) else (if (s1 11 0 4) = 41 then (bV (RUN d mX4_step [vr 11 0] s1) (fun s2 => some (some (vi 1), s2))) else (some (some (vi 0), s1)))) := x_run rfl (x_st 1 dX4_readEnclosed_0 rfl (x_st 2 dX4_readEnclosed_1 rfl (x_ci 5 [vr 11 0, vi x1] [] dX4_readEnclosed_2 rfl (fun r1 s1 => x_br dX4_readEnclosed_5 (x_if (x_go 17 (x_st 18 dX4_readEnclosed_17 rfl (x_ret dX4_readEnclosed_18 rfl))) (x_go 8 (x_st 9 dX4_readEnclosed_8 rfl (x_st 12 dX4_readEnclosed_9 rfl (x_st 14 dX4_readEnclosed_12 rfl (x_br dX4_readEnclosed_14 (x_if (x_go 19 (x_st 20 dX4_readEnclosed_19 rfl (x_cv 23 [vr 11 0, vi x1] [] dX4_readEnclosed_20 rfl (fun s2 => x_st 24 dX4_readEnclosed_23 rfl (x_ret dX4_readEnclosed_24 rfl))))) (x_go 17 (x_st 18 dX4_readEnclosed_17 rfl (x_ret dX4_readEnclosed_18 rfl))))))))))))))
theorem dX4_readNegated_0 : decode cX4_readNegated 0 = .ok (.aload_n 0, 1) := by decide +kernel
theorem dX4_readNegated_1 : decode cX4_readNegated 1 = .ok (.iload_n 1, 1) := by decide +kernel
theorem dX4_readNegated_2 : decode cX4_readNegated 2 = .ok (.invokevirtual 85, 3) := by decide +kernel
theorem dX4_readNegated_5 : decode cX4_readNegated 5 = .ok (.ifCond .ne 5, 3) := by decide +kernel
theorem dX4_readNegated_8 : decode cX4_readNegated 8 = .ok (.iconst 0, 1) := by decide +kernel
theorem dX4_readNegated_9 : decode cX4_readNegated 9 = .ok (.ireturn, 1) := by decide +kernel
theorem dX4_readNegated_10 : decode cX4_readNegated 10 = .ok (.aload_n 0, 1) := by decide +kernel
theorem dX4_readNegated_11 : decode cX4_readNegated 11 = .ok (.getfield 15, 3) := by decide +kernel
theorem dX4_readNegated_14 : decode cX4_readNegated 14 = .ok (.bipush (-15), 2) := by decide +kernel
theorem dX4_readNegated_16 : decode cX4_readNegated 16 = .ok (.invokevirtual 67, 3) := by decide +kernel
theorem dX4_readNegated_19 : decode cX4_readNegated 19 = .ok (.iconst 1, 1) := by decide +kernel
theorem dX4_readNegated_20 : decode cX4_readNegated 20 = .ok (.ireturn, 1) := by decide +kernel
theorem qX4_readNegated (d : Nat) (x1 : Int) (s : Sg) : RUN (d + 1) mX4_readNegated [vr 11 0, vi x1] s = bI (RUN d mX4_readOne [vr 11 0, vi x1] s) (fun r1 s1 => if r1 = 0 then (some (some (vi 0), s1)) else (bV (RUN d mX5_write [vr 4 0, vi (-15)] s1) (fun s2 => some (some (vi 1), s2)))) := x_run rfl (x_st 1 dX4_readNegated_0 rfl (x_st 2 dX4_readNegated_1 rfl (x_ci 5 [vr 11 0, vi x1] [] dX4_readNegated_2 rfl (fun r1 s1 => x_br dX4_readNegated_5 (x_if (x_go 8 (x_st 9 dX4_readNegated_8 rfl (x_ret dX4_readNegated_9 rfl))) (x_go 10 (x_st 11 dX4_readNegated_10 rfl (x_st 14 dX4_readNegated_11 rfl (x_st 16 dX4_readNegated_14 rfl (x_cv 19 [vr 11 0, vi x1] [] dX4_readNegated_16 rfl (fun s2 => x_st 20 dX4_readNegated_19 rfl (x_ret dX4_readNegated_20 rfl))))))))))))
