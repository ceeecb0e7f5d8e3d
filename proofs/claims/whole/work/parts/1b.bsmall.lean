theorem dX6_become_0 : decode cX6_become 0 = .ok (.aload_n 0, 1) := by decide +kernel
theorem dX6_become_1 : decode cX6_become 1 = .ok (.iload_n 1, 1) := by decide +kernel
theorem dX6_become_2 : decode cX6_become 2 = .ok (.putfield 15, 3) := by decide +kernel
theorem dX6_become_5 : decode cX6_become 5 = .ok (.aload_n 0, 1) := by decide +kernel
theorem dX6_become_6 : decode cX6_become 6 = .ok (.iconst 0, 1) := by decide +kernel
theorem dX6_become_7 : decode cX6_become 7 = .ok (.bipush 40, 2) := by decide +kernel
theorem dX6_become_9 : decode cX6_become 9 = .ok (.iload_n 2, 1) := by decide +kernel
theorem dX6_become_10 : decode cX6_become 10 = .ok (.invokestatic 22, 3) := by decide +kernel
theorem dX6_become_13 : decode cX6_become 13 = .ok (.invokestatic 28, 3) := by decide +kernel
theorem dX6_become_16 : decode cX6_become 16 = .ok (.putfield 19, 3) := by decide +kernel
theorem dX6_become_19 : decode cX6_become 19 = .ok (.iconst 0, 1) := by decide +kernel
theorem dX6_become_20 : decode cX6_become 20 = .ok (.istore_n 3, 1) := by decide +kernel
theorem dX6_become_21 : decode cX6_become 21 = .ok (.iload_n 3, 1) := by decide +kernel
theorem dX6_become_22 : decode cX6_become 22 = .ok (.aload_n 0, 1) := by decide +kernel
theorem dX6_become_23 : decode cX6_become 23 = .ok (.getfield 19, 3) := by decide +kernel
theorem dX6_become_26 : decode cX6_become 26 = .ok (.if_icmp .ge 16, 3) := by decide +kernel
theorem dX6_become_29 : decode cX6_become 29 = .ok (.aload_n 0, 1) := by decide +kernel
theorem dX6_become_30 : decode cX6_become 30 = .ok (.getfield 9, 3) := by decide +kernel
theorem dX6_become_33 : decode cX6_become 33 = .ok (.iload_n 3, 1) := by decide +kernel
theorem dX6_become_34 : decode cX6_become 34 = .ok (.iconst 0, 1) := by decide +kernel
theorem dX6_become_35 : decode cX6_become 35 = .ok (.iastore, 1) := by decide +kernel
theorem dX6_become_36 : decode cX6_become 36 = .ok (.iinc 3 1, 3) := by decide +kernel
theorem dX6_become_39 : decode cX6_become 39 = .ok (.goto (-18), 3) := by decide +kernel
theorem dX6_become_42 : decode cX6_become 42 = .ok (.return_, 1) := by decide +kernel
theorem qX6_become (d : Nat) (j0 : Nat) (x1 : Int) (x2 : Int) (s : Sg) : RUN d mX6_become [vr 30 j0, vi x1, vi x2] s = EV d mX6_become (21, [vr 30 j0, vi x1, vi x2, vi 0], [], (up (up s 30 j0 1 x1) 30 j0 2 (wmax 0 (wmin 40 x2)))) := x_run rfl (x_st 1 dX6_become_0 rfl (x_st 2 dX6_become_1 rfl (x_st 5 dX6_become_2 rfl (x_st 6 dX6_become_5 rfl (x_st 7 dX6_become_6 rfl (x_st 9 dX6_become_7 rfl (x_st 10 dX6_become_9 rfl (x_st 13 dX6_become_10 rfl (x_st 16 dX6_become_13 rfl (x_st 19 dX6_become_16 rfl (x_st 20 dX6_become_19 rfl (x_so 21 [vr 30 j0, vi x1, vi x2, vi 0] dX6_become_20 rfl (rfl)))))))))))))
theorem qX6_become_21 (d : Nat) (j0 : Nat) (z1 : PV) (z2 : PV) (x3 : Int) (s : Sg) : EV d mX6_become (21, [vr 30 j0, z1, z2, vi x3], [], s) = if x3 < (s 30 j0 2) then (if inb x3 40 then (EV d mX6_become (21, [vr 30 j0, z1, z2, vi (w32 (x3 + 1))], [], (up s 31 j0 (Int.toNat x3) 0))) else none) else (some (none, s)) := x_st 22 dX6_become_21 rfl (x_st 23 dX6_become_22 rfl (x_st 26 dX6_become_23 rfl (x_br dX6_become_26 (x_if (x_go 29 (x_st 30 dX6_become_29 rfl (x_st 33 dX6_become_30 rfl (x_st 34 dX6_become_33 rfl (x_st 35 dX6_become_34 rfl (x_br dX6_become_35 (x_if (x_go 36 (x_so 39 [vr 30 j0, z1, z2, vi (w32 (x3 + 1))] dX6_become_36 rfl (x_st 21 dX6_become_39 rfl (rfl)))) x_no))))))) (x_go 42 (x_ret dX6_become_42 rfl))))))
theorem dX6_isMissing_0 : decode cX6_isMissing 0 = .ok (.aload_n 0, 1) := by decide +kernel
theorem dX6_isMissing_1 : decode cX6_isMissing 1 = .ok (.getfield 15, 3) := by decide +kernel
theorem dX6_isMissing_4 : decode cX6_isMissing 4 = .ok (.iconst (-1), 1) := by decide +kernel
theorem dX6_isMissing_5 : decode cX6_isMissing 5 = .ok (.if_icmp .ne 7, 3) := by decide +kernel
theorem dX6_isMissing_8 : decode cX6_isMissing 8 = .ok (.iconst 1, 1) := by decide +kernel
theorem dX6_isMissing_9 : decode cX6_isMissing 9 = .ok (.goto 4, 3) := by decide +kernel
theorem dX6_isMissing_12 : decode cX6_isMissing 12 = .ok (.iconst 0, 1) := by decide +kernel
theorem dX6_isMissing_13 : decode cX6_isMissing 13 = .ok (.ireturn, 1) := by decide +kernel
theorem qX6_isMissing (d : Nat) (j0 : Nat) (s : Sg) : RUN d mX6_isMissing [vr 30 j0] s = if (s 30 j0 1) = (-1) then (some (some (vi 1), s)) else (some (some (vi 0), s)) := x_run rfl (x_st 1 dX6_isMissing_0 rfl (x_st 4 dX6_isMissing_1 rfl (x_st 5 dX6_isMissing_4 rfl (x_br dX6_isMissing_5 (x_if (x_go 8 (x_st 9 dX6_isMissing_8 rfl (x_st 13 dX6_isMissing_9 rfl (x_ret dX6_isMissing_13 rfl)))) (x_go 12 (x_st 13 dX6_isMissing_12 rfl (x_ret dX6_isMissing_13 rfl))))))))
theorem dX6_put_0 : decode cX6_put 0 = .ok (.iload_n 1, 1) := by decide +kernel
theorem dX6_put_1 : decode cX6_put 1 = .ok (.ifCond .lt 11, 3) := by decide +kernel
theorem dX6_put_4 : decode cX6_put 4 = .ok (.iload_n 1, 1) := by decide +kernel
theorem dX6_put_5 : decode cX6_put 5 = .ok (.aload_n 0, 1) := by decide +kernel
theorem dX6_put_6 : decode cX6_put 6 = .ok (.getfield 19, 3) := by decide +kernel
theorem dX6_put_9 : decode cX6_put 9 = .ok (.if_icmp .lt 5, 3) := by decide +kernel
theorem dX6_put_12 : decode cX6_put 12 = .ok (.iconst 0, 1) := by decide +kernel
theorem dX6_put_13 : decode cX6_put 13 = .ok (.ireturn, 1) := by decide +kernel
theorem dX6_put_14 : decode cX6_put 14 = .ok (.aload_n 0, 1) := by decide +kernel
theorem dX6_put_15 : decode cX6_put 15 = .ok (.getfield 9, 3) := by decide +kernel
theorem dX6_put_18 : decode cX6_put 18 = .ok (.iload_n 1, 1) := by decide +kernel
theorem dX6_put_19 : decode cX6_put 19 = .ok (.aload_n 0, 1) := by decide +kernel
theorem dX6_put_20 : decode cX6_put 20 = .ok (.iload_n 2, 1) := by decide +kernel
theorem dX6_put_21 : decode cX6_put 21 = .ok (.invokevirtual 31, 3) := by decide +kernel
theorem dX6_put_24 : decode cX6_put 24 = .ok (.iastore, 1) := by decide +kernel
theorem dX6_put_25 : decode cX6_put 25 = .ok (.iconst 1, 1) := by decide +kernel
theorem dX6_put_26 : decode cX6_put 26 = .ok (.ireturn, 1) := by decide +kernel
theorem qX6_put (d : Nat) (j0 : Nat) (x1 : Int) (x2 : Int) (s : Sg) : RUN (d + 1) mX6_put [vr 30 j0, vi x1, vi x2] s = if x1 < 0 then (some (some (vi 0), s)) else (if x1 < (s 30 j0 2) then (bI (RUN d mX6_narrow [vr 30 j0, vi x2] s) (fun r1 s1 => if inb x1 40 then (some (some (vi 1), (up s1 31 j0 (Int.toNat x1) r1))) else none)) else (some (some (vi 0), s))) := x_run rfl (x_st 1 dX6_put_0 rfl (x_br dX6_put_1 (x_if (x_go 12 (x_st 13 dX6_put_12 rfl (x_ret dX6_put_13 rfl))) (x_go 4 (x_st 5 dX6_put_4 rfl (x_st 6 dX6_put_5 rfl (x_st 9 dX6_put_6 rfl (x_br dX6_put_9 (x_if (x_go 14 (x_st 15 dX6_put_14 rfl (x_st 18 dX6_put_15 rfl (x_st 19 dX6_put_18 rfl (x_st 20 dX6_put_19 rfl (x_st 21 dX6_put_20 rfl (x_ci 24 [vr 30 j0, vi x1, vi x2] [vi x1, vr 31 j0] dX6_put_21 rfl (fun r1 s1 => x_br dX6_put_24 (x_if (x_go 25 (x_st 26 dX6_put_25 rfl (x_ret dX6_put_26 rfl))) x_no))))))))) (x_go 12 (x_st 13 dX6_put_12 rfl (x_ret dX6_put_13 rfl))))))))))))
theorem dX6_sort_0 : decode cX6_sort 0 = .ok (.aload_n 0, 1) := by decide +kernel
theorem dX6_sort_1 : decode cX6_sort 1 = .ok (.getfield 15, 3) := by decide +kernel
theorem dX6_sort_4 : decode cX6_sort 4 = .ok (.ireturn, 1) := by decide +kernel
theorem qX6_sort (d : Nat) (j0 : Nat) (s : Sg) : RUN d mX6_sort [vr 30 j0] s = some (some (vi (s 30 j0 1)), s) := x_run rfl (x_st 1 dX6_sort_0 rfl (x_st 4 dX6_sort_1 rfl (x_ret dX6_sort_4 rfl)))
theorem dX6_hasRun_0 : decode cX6_hasRun 0 = .ok (.iload_n 1, 1) := by decide +kernel
theorem dX6_hasRun_1 : decode cX6_hasRun 1 = .ok (.ifCond .lt 29, 3) := by decide +kernel
theorem dX6_hasRun_4 : decode cX6_hasRun 4 = .ok (.iload_n 2, 1) := by decide +kernel
theorem dX6_hasRun_5 : decode cX6_hasRun 5 = .ok (.ifCond .lt 25, 3) := by decide +kernel
theorem dX6_hasRun_8 : decode cX6_hasRun 8 = .ok (.iload_n 1, 1) := by decide +kernel
theorem dX6_hasRun_9 : decode cX6_hasRun 9 = .ok (.aload_n 0, 1) := by decide +kernel
theorem dX6_hasRun_10 : decode cX6_hasRun 10 = .ok (.getfield 19, 3) := by decide +kernel
theorem dX6_hasRun_13 : decode cX6_hasRun 13 = .ok (.if_icmp .gt 17, 3) := by decide +kernel
theorem dX6_hasRun_16 : decode cX6_hasRun 16 = .ok (.iload_n 2, 1) := by decide +kernel
theorem dX6_hasRun_17 : decode cX6_hasRun 17 = .ok (.aload_n 0, 1) := by decide +kernel
theorem dX6_hasRun_18 : decode cX6_hasRun 18 = .ok (.getfield 19, 3) := by decide +kernel
theorem dX6_hasRun_21 : decode cX6_hasRun 21 = .ok (.iload_n 1, 1) := by decide +kernel
theorem dX6_hasRun_22 : decode cX6_hasRun 22 = .ok (.isub, 1) := by decide +kernel
theorem dX6_hasRun_23 : decode cX6_hasRun 23 = .ok (.if_icmp .gt 7, 3) := by decide +kernel
theorem dX6_hasRun_26 : decode cX6_hasRun 26 = .ok (.iconst 1, 1) := by decide +kernel
theorem dX6_hasRun_27 : decode cX6_hasRun 27 = .ok (.goto 4, 3) := by decide +kernel
theorem dX6_hasRun_30 : decode cX6_hasRun 30 = .ok (.iconst 0, 1) := by decide +kernel
theorem dX6_hasRun_31 : decode cX6_hasRun 31 = .ok (.ireturn, 1) := by decide +kernel
theorem qX6_hasRun (d : Nat) (j0 : Nat) (x1 : Int) (x2 : Int) (s : Sg) : RUN d mX6_hasRun [vr 30 j0, vi x1, vi x2] s = if x1 < 0 then (some (some (vi 0), s)) else (if x2 < 0 then (some (some (vi 0), s)) else (if (s 30 j0 2) < x1 then (some (some (vi 0), s)) else (if (w32 ((s 30 j0 2) - x1)) < x2 then (some (some (vi 0), s)) else (some (some (vi 1), s))))) := x_run rfl (x_st 1 dX6_hasRun_0 rfl (x_br dX6_hasRun_1 (x_if (x_go 30 (x_st 31 dX6_hasRun_30 rfl (x_ret dX6_hasRun_31 rfl))) (x_go 4 (x_st 5 dX6_hasRun_4 rfl (x_br dX6_hasRun_5 (x_if (x_go 30 (x_st 31 dX6_hasRun_30 rfl (x_ret dX6_hasRun_31 rfl))) (x_go 8 (x_st 9 dX6_hasRun_8 rfl (x_st 10 dX6_hasRun_9 rfl (x_st 13 dX6_hasRun_10 rfl (x_br dX6_hasRun_13 (x_if (x_go 30 (x_st 31 dX6_hasRun_30 rfl (x_ret dX6_hasRun_31 rfl))) (x_go 16 (x_st 17 dX6_hasRun_16 rfl (x_st 18 dX6_hasRun_17 rfl (x_st 21 dX6_hasRun_18 rfl (x_st 22 dX6_hasRun_21 rfl (x_st 23 dX6_hasRun_22 rfl (x_br dX6_hasRun_23 (x_if (x_go 30 (x_st 31 dX6_hasRun_30 rfl (x_ret dX6_hasRun_31 rfl))) (x_go 26 (x_st 27 dX6_hasRun_26 rfl (x_st 31 dX6_hasRun_27 rfl (x_ret dX6_hasRun_31 rfl)))))))))))))))))))))))))
theorem dX6_putRun_0 : decode cX6_putRun 0 = .ok (.aload_n 0, 1) := by decide +kernel
theorem dX6_putRun_1 : decode cX6_putRun 1 = .ok (.iload_n 1, 1) := by decide +kernel
theorem dX6_putRun_2 : decode cX6_putRun 2 = .ok (.iload 4, 2) := by decide +kernel
theorem dX6_putRun_4 : decode cX6_putRun 4 = .ok (.invokevirtual 35, 3) := by decide +kernel
theorem dX6_putRun_7 : decode cX6_putRun 7 = .ok (.ifCond .eq 28, 3) := by decide +kernel
theorem dX6_putRun_10 : decode cX6_putRun 10 = .ok (.aload_n 2, 1) := by decide +kernel
theorem dX6_putRun_11 : decode cX6_putRun 11 = .ok (.iload_n 3, 1) := by decide +kernel
theorem dX6_putRun_12 : decode cX6_putRun 12 = .ok (.iload 4, 2) := by decide +kernel
theorem dX6_putRun_14 : decode cX6_putRun 14 = .ok (.invokevirtual 35, 3) := by decide +kernel
theorem dX6_putRun_17 : decode cX6_putRun 17 = .ok (.ifCond .eq 18, 3) := by decide +kernel
theorem dX6_putRun_20 : decode cX6_putRun 20 = .ok (.aload_n 2, 1) := by decide +kernel
theorem dX6_putRun_21 : decode cX6_putRun 21 = .ok (.getfield 9, 3) := by decide +kernel
theorem dX6_putRun_24 : decode cX6_putRun 24 = .ok (.iload_n 3, 1) := by decide +kernel
theorem dX6_putRun_25 : decode cX6_putRun 25 = .ok (.aload_n 0, 1) := by decide +kernel
theorem dX6_putRun_26 : decode cX6_putRun 26 = .ok (.getfield 9, 3) := by decide +kernel
theorem dX6_putRun_29 : decode cX6_putRun 29 = .ok (.iload_n 1, 1) := by decide +kernel
theorem dX6_putRun_30 : decode cX6_putRun 30 = .ok (.iload 4, 2) := by decide +kernel
theorem dX6_putRun_32 : decode cX6_putRun 32 = .ok (.invokestatic 39, 3) := by decide +kernel
theorem dX6_putRun_35 : decode cX6_putRun 35 = .ok (.return_, 1) := by decide +kernel
theorem qX6_putRun (d : Nat) (j0 : Nat) (x1 : Int) (j2 : Nat) (x3 : Int) (x4 : Int) (s : Sg) : RUN (d + 1) mX6_putRun [vr 30 j0, vi x1, vr 30 j2, vi x3, vi x4] s = bI (RUN d mX6_hasRun [vr 30 j0, vi x1, vi x4] s) (fun r1 s1 => if r1 = 0 then (some (none, s1)) else (bI (RUN d mX6_hasRun [vr 30 j2, vi x3, vi x4] s1) (fun r2 s2 => if r2 = 0 then (some (none, s2)) else (if 0 ≤ x3 ∧ 0 ≤ x1 ∧ 0 ≤ x4 ∧ x3 + x4 ≤ ((40 : Nat) : Int) ∧ x1 + x4 ≤ ((40 : Nat) : Int) then (some (none, (cpyS s2 31 j2 31 j0 (Int.toNat x3) (Int.toNat x1) (Int.toNat x4)))) else none)))) := x_run rfl (x_st 1 dX6_putRun_0 rfl (x_st 2 dX6_putRun_1 rfl (x_st 4 dX6_putRun_2 rfl (x_ci 7 [vr 30 j0, vi x1, vr 30 j2, vi x3, vi x4] [] dX6_putRun_4 rfl (fun r1 s1 => x_br dX6_putRun_7 (x_if (x_go 35 (x_ret dX6_putRun_35 rfl)) (x_go 10 (x_st 11 dX6_putRun_10 rfl (x_st 12 dX6_putRun_11 rfl (x_st 14 dX6_putRun_12 rfl (x_ci 17 [vr 30 j0, vi x1, vr 30 j2, vi x3, vi x4] [] dX6_putRun_14 rfl (fun r2 s2 => x_br dX6_putRun_17 (x_if (x_go 35 (x_ret dX6_putRun_35 rfl)) (x_go 20 (x_st 21 dX6_putRun_20 rfl (x_st 24 dX6_putRun_21 rfl (x_st 25 dX6_putRun_24 rfl (x_st 26 dX6_putRun_25 rfl (x_st 29 dX6_putRun_26 rfl (x_st 30 dX6_putRun_29 rfl (x_st 32 dX6_putRun_30 rfl (x_br dX6_putRun_32 (x_if (x_go 35 (x_ret dX6_putRun_35 rfl)) x_no)))))))))))))))))))))))
theorem dX6_narrow_0 : decode cX6_narrow 0 = .ok (.aload_n 0, 1) := by decide +kernel
theorem dX6_narrow_1 : decode cX6_narrow 1 = .ok (.getfield 15, 3) := by decide +kernel
theorem dX6_narrow_4 : decode cX6_narrow 4 = .ok (.ifCond .ne 6, 3) := by decide +kernel
theorem dX6_narrow_7 : decode cX6_narrow 7 = .ok (.iload_n 1, 1) := by decide +kernel
theorem dX6_narrow_8 : decode cX6_narrow 8 = .ok (.i2b, 1) := by decide +kernel
theorem dX6_narrow_9 : decode cX6_narrow 9 = .ok (.ireturn, 1) := by decide +kernel
theorem dX6_narrow_10 : decode cX6_narrow 10 = .ok (.aload_n 0, 1) := by decide +kernel
theorem dX6_narrow_11 : decode cX6_narrow 11 = .ok (.getfield 15, 3) := by decide +kernel
theorem dX6_narrow_14 : decode cX6_narrow 14 = .ok (.iconst 1, 1) := by decide +kernel
theorem dX6_narrow_15 : decode cX6_narrow 15 = .ok (.if_icmp .ne 8, 3) := by decide +kernel
theorem dX6_narrow_18 : decode cX6_narrow 18 = .ok (.iload_n 1, 1) := by decide +kernel
theorem dX6_narrow_19 : decode cX6_narrow 19 = .ok (.i2s, 1) := by decide +kernel
theorem dX6_narrow_20 : decode cX6_narrow 20 = .ok (.goto 4, 3) := by decide +kernel
theorem dX6_narrow_23 : decode cX6_narrow 23 = .ok (.iload_n 1, 1) := by decide +kernel
theorem dX6_narrow_24 : decode cX6_narrow 24 = .ok (.ireturn, 1) := by decide +kernel
theorem qX6_narrow (d : Nat) (j0 : Nat) (x1 : Int) (s : Sg) : RUN d mX6_narrow [vr 30 j0, vi x1] s = if (s 30 j0 1) = 0 then (some (some (vi (wi2b x1)), s)) else (if (s 30 j0 1) = 1 then (some (some (vi (wi2s x1)), s)) else (some (some (vi x1), s))) := x_run rfl (x_st 1 dX6_narrow_0 rfl (x_st 4 dX6_narrow_1 rfl (x_br dX6_narrow_4 (x_if (x_go 7 (x_st 8 dX6_narrow_7 rfl (x_st 9 dX6_narrow_8 rfl (x_ret dX6_narrow_9 rfl)))) (x_go 10 (x_st 11 dX6_narrow_10 rfl (x_st 14 dX6_narrow_11 rfl (x_st 15 dX6_narrow_14 rfl (x_br dX6_narrow_15 (x_if (x_go 18 (x_st 19 dX6_narrow_18 rfl (x_st 20 dX6_narrow_19 rfl (x_st 24 dX6_narrow_20 rfl (x_ret dX6_narrow_24 rfl))))) (x_go 23 (x_st 24 dX6_narrow_23 rfl (x_ret dX6_narrow_24 rfl)))))))))))))
theorem dX6_item_0 : decode cX6_item 0 = .ok (.iload_n 1, 1) := by decide +kernel
theorem dX6_item_1 : decode cX6_item 1 = .ok (.ifCond .lt 20, 3) := by decide +kernel
theorem dX6_item_4 : decode cX6_item 4 = .ok (.iload_n 1, 1) := by decide +kernel
theorem dX6_item_5 : decode cX6_item 5 = .ok (.aload_n 0, 1) := by decide +kernel
theorem dX6_item_6 : decode cX6_item 6 = .ok (.getfield 19, 3) := by decide +kernel
theorem dX6_item_9 : decode cX6_item 9 = .ok (.if_icmp .ge 12, 3) := by decide +kernel
theorem dX6_item_12 : decode cX6_item 12 = .ok (.aload_n 0, 1) := by decide +kernel
theorem dX6_item_13 : decode cX6_item 13 = .ok (.getfield 9, 3) := by decide +kernel
theorem dX6_item_16 : decode cX6_item 16 = .ok (.iload_n 1, 1) := by decide +kernel
theorem dX6_item_17 : decode cX6_item 17 = .ok (.iaload, 1) := by decide +kernel
theorem dX6_item_18 : decode cX6_item 18 = .ok (.goto 4, 3) := by decide +kernel
theorem dX6_item_21 : decode cX6_item 21 = .ok (.iconst 0, 1) := by decide +kernel
theorem dX6_item_22 : decode cX6_item 22 = .ok (.ireturn, 1) := by decide +kernel
theorem qX6_item (d : Nat) (j0 : Nat) (x1 : Int) (s : Sg) : RUN d mX6_item [vr 30 j0, vi x1] s = if x1 < 0 then (some (some (vi 0), s)) else (if x1 < (s 30 j0 2) then (if inb x1 40 then (some (some (vi (s 31 j0 (Int.toNat x1))), s)) else none) else (some (some (vi 0), s))) := x_run rfl (x_st 1 dX6_item_0 rfl (x_br dX6_item_1 (x_if (x_go 21 (x_st 22 dX6_item_21 rfl (x_ret dX6_item_22 rfl))) (x_go 4 (x_st 5 dX6_item_4 rfl (x_st 6 dX6_item_5 rfl (x_st 9 dX6_item_6 rfl (x_br dX6_item_9 (x_if (x_go 12 (x_st 13 dX6_item_12 rfl (x_st 16 dX6_item_13 rfl (x_st 17 dX6_item_16 rfl (x_br dX6_item_17 (x_if (x_go 18 (x_st 22 dX6_item_18 rfl (x_ret dX6_item_22 rfl))) x_no)))))) (x_go 21 (x_st 22 dX6_item_21 rfl (x_ret dX6_item_22 rfl))))))))))))
theorem dX6_size_0 : decode cX6_size 0 = .ok (.aload_n 0, 1) := by decide +kernel
theorem dX6_size_1 : decode cX6_size 1 = .ok (.getfield 19, 3) := by decide +kernel
theorem dX6_size_4 : decode cX6_size 4 = .ok (.ireturn, 1) := by decide +kernel
theorem qX6_size (d : Nat) (j0 : Nat) (s : Sg) : RUN d mX6_size [vr 30 j0] s = some (some (vi (s 30 j0 2)), s) := x_run rfl (x_st 1 dX6_size_0 rfl (x_st 4 dX6_size_1 rfl (x_ret dX6_size_4 rfl)))
theorem dX5_beginText_0 : decode cX5_beginText 0 = .ok (.aload_n 0, 1) := by decide +kernel
theorem dX5_beginText_1 : decode cX5_beginText 1 = .ok (.iconst 0, 1) := by decide +kernel
theorem dX5_beginText_2 : decode cX5_beginText 2 = .ok (.putfield 37, 3) := by decide +kernel
theorem dX5_beginText_5 : decode cX5_beginText 5 = .ok (.return_, 1) := by decide +kernel
theorem qX5_beginText (d : Nat) (s : Sg) : RUN d mX5_beginText [vr 4 0] s = some (none, (up s 4 0 6 0)) := x_run rfl (x_st 1 dX5_beginText_0 rfl (x_st 2 dX5_beginText_1 rfl (x_st 5 dX5_beginText_2 rfl (x_ret dX5_beginText_5 rfl))))
theorem dX5_isFull_0 : decode cX5_isFull 0 = .ok (.aload_n 0, 1) := by decide +kernel
theorem dX5_isFull_1 : decode cX5_isFull 1 = .ok (.getfield 26, 3) := by decide +kernel
theorem dX5_isFull_4 : decode cX5_isFull 4 = .ok (.bipush 6, 2) := by decide +kernel
theorem dX5_isFull_6 : decode cX5_isFull 6 = .ok (.if_icmp .lt 7, 3) := by decide +kernel
theorem dX5_isFull_9 : decode cX5_isFull 9 = .ok (.iconst 1, 1) := by decide +kernel
theorem dX5_isFull_10 : decode cX5_isFull 10 = .ok (.goto 4, 3) := by decide +kernel
theorem dX5_isFull_13 : decode cX5_isFull 13 = .ok (.iconst 0, 1) := by decide +kernel
theorem dX5_isFull_14 : decode cX5_isFull 14 = .ok (.ireturn, 1) := by decide +kernel
theorem qX5_isFull (d : Nat) (s : Sg) : RUN d mX5_isFull [vr 4 0] s = if (s 4 0 4) < 6 then (some (some (vi 0), s)) else (some (some (vi 1), s)) := x_run rfl (x_st 1 dX5_isFull_0 rfl (x_st 4 dX5_isFull_1 rfl (x_st 6 dX5_isFull_4 rfl (x_br dX5_isFull_6 (x_if (x_go 13 (x_st 14 dX5_isFull_13 rfl (x_ret dX5_isFull_14 rfl))) (x_go 9 (x_st 10 dX5_isFull_9 rfl (x_st 14 dX5_isFull_10 rfl (x_ret dX5_isFull_14 rfl)))))))))
theorem dX5_size_0 : decode cX5_size 0 = .ok (.aload_n 0, 1) := by decide +kernel
theorem dX5_size_1 : decode cX5_size 1 = .ok (.getfield 26, 3) := by decide +kernel
theorem dX5_size_4 : decode cX5_size 4 = .ok (.ireturn, 1) := by decide +kernel
theorem qX5_size (d : Nat) (s : Sg) : RUN d mX5_size [vr 4 0] s = some (some (vi (s 4 0 4)), s) := x_run rfl (x_st 1 dX5_size_0 rfl (x_st 4 dX5_size_1 rfl (x_ret dX5_size_4 rfl)))
theorem dX5_has_0 : decode cX5_has 0 = .ok (.iload_n 1, 1) := by decide +kernel
theorem dX5_has_1 : decode cX5_has 1 = .ok (.ifCond .lt 15, 3) := by decide +kernel
theorem dX5_has_4 : decode cX5_has 4 = .ok (.iload_n 1, 1) := by decide +kernel
theorem dX5_has_5 : decode cX5_has 5 = .ok (.aload_n 0, 1) := by decide +kernel
theorem dX5_has_6 : decode cX5_has 6 = .ok (.getfield 26, 3) := by decide +kernel
theorem dX5_has_9 : decode cX5_has 9 = .ok (.if_icmp .ge 7, 3) := by decide +kernel
theorem dX5_has_12 : decode cX5_has 12 = .ok (.iconst 1, 1) := by decide +kernel
theorem dX5_has_13 : decode cX5_has 13 = .ok (.goto 4, 3) := by decide +kernel
theorem dX5_has_16 : decode cX5_has 16 = .ok (.iconst 0, 1) := by decide +kernel
theorem dX5_has_17 : decode cX5_has 17 = .ok (.ireturn, 1) := by decide +kernel
theorem qX5_has (d : Nat) (x1 : Int) (s : Sg) : RUN d mX5_has [vr 4 0, vi x1] s = if x1 < 0 then (some (some (vi 0), s)) else (if x1 < (s 4 0 4) then (some (some (vi 1), s)) else (some (some (vi 0), s))) := x_run rfl (x_st 1 dX5_has_0 rfl (x_br dX5_has_1 (x_if (x_go 16 (x_st 17 dX5_has_16 rfl (x_ret dX5_has_17 rfl))) (x_go 4 (x_st 5 dX5_has_4 rfl (x_st 6 dX5_has_5 rfl (x_st 9 dX5_has_6 rfl (x_br dX5_has_9 (x_if (x_go 12 (x_st 13 dX5_has_12 rfl (x_st 17 dX5_has_13 rfl (x_ret dX5_has_17 rfl)))) (x_go 16 (x_st 17 dX5_has_16 rfl (x_ret dX5_has_17 rfl))))))))))))
theorem dX5_choose_0 : decode cX5_choose 0 = .ok (.aload_n 0, 1) := by decide +kernel
theorem dX5_choose_1 : decode cX5_choose 1 = .ok (.getfield 30, 3) := by decide +kernel
theorem dX5_choose_4 : decode cX5_choose 4 = .ok (.istore_n 2, 1) := by decide +kernel
theorem dX5_choose_5 : decode cX5_choose 5 = .ok (.aload_n 0, 1) := by decide +kernel
theorem dX5_choose_6 : decode cX5_choose 6 = .ok (.iload_n 1, 1) := by decide +kernel
theorem dX5_choose_7 : decode cX5_choose 7 = .ok (.invokevirtual 33, 3) := by decide +kernel
theorem dX5_choose_10 : decode cX5_choose 10 = .ok (.ifCond .eq 8, 3) := by decide +kernel
theorem dX5_choose_13 : decode cX5_choose 13 = .ok (.aload_n 0, 1) := by decide +kernel
theorem dX5_choose_14 : decode cX5_choose 14 = .ok (.iload_n 1, 1) := by decide +kernel
theorem dX5_choose_15 : decode cX5_choose 15 = .ok (.putfield 30, 3) := by decide +kernel
theorem dX5_choose_18 : decode cX5_choose 18 = .ok (.iload_n 2, 1) := by decide +kernel
theorem dX5_choose_19 : decode cX5_choose 19 = .ok (.ireturn, 1) := by decide +kernel
theorem qX5_choose (d : Nat) (x1 : Int) (s : Sg) : RUN (d + 1) mX5_choose [vr 4 0, vi x1] s = bI (RUN d mX5_has [vr 4 0, vi x1] s) (fun r1 s1 => if r1 = 0 then (some (some (vi (s 4 0 5)), s1)) else (some (some (vi (s 4 0 5)), (up s1 4 0 5 x1)))) := x_run rfl (x_st 1 dX5_choose_0 rfl (x_st 4 dX5_choose_1 rfl (x_so 5 [vr 4 0, vi x1, vi (s 4 0 5)] dX5_choose_4 rfl (x_st 6 dX5_choose_5 rfl (x_st 7 dX5_choose_6 rfl (x_ci 10 [vr 4 0, vi x1, vi (s 4 0 5)] [] dX5_choose_7 rfl (fun r1 s1 => x_br dX5_choose_10 (x_if (x_go 18 (x_st 19 dX5_choose_18 rfl (x_ret dX5_choose_19 rfl))) (x_go 13 (x_st 14 dX5_choose_13 rfl (x_st 15 dX5_choose_14 rfl (x_st 18 dX5_choose_15 rfl (x_st 19 dX5_choose_18 rfl (x_ret dX5_choose_19 rfl))))))))))))))
theorem dX5_chosen_0 : decode cX5_chosen 0 = .ok (.aload_n 0, 1) := by decide +kernel
theorem dX5_chosen_1 : decode cX5_chosen 1 = .ok (.getfield 30, 3) := by decide +kernel
theorem dX5_chosen_4 : decode cX5_chosen 4 = .ok (.ireturn, 1) := by decide +kernel
theorem qX5_chosen (d : Nat) (s : Sg) : RUN d mX5_chosen [vr 4 0] s = some (some (vi (s 4 0 5)), s) := x_run rfl (x_st 1 dX5_chosen_0 rfl (x_st 4 dX5_chosen_1 rfl (x_ret dX5_chosen_4 rfl)))
theorem dX5_endText_0 : decode cX5_endText 0 = .ok (.aload_n 0, 1) := by decide +kernel
theorem dX5_endText_1 : decode cX5_endText 1 = .ok (.invokevirtual 40, 3) := by decide +kernel
theorem dX5_endText_4 : decode cX5_endText 4 = .ok (.ifCond .ne 13, 3) := by decide +kernel
theorem dX5_endText_7 : decode cX5_endText 7 = .ok (.aload_n 0, 1) := by decide +kernel
theorem dX5_endText_8 : decode cX5_endText 8 = .ok (.dup, 1) := by decide +kernel
theorem dX5_endText_9 : decode cX5_endText 9 = .ok (.getfield 26, 3) := by decide +kernel
theorem dX5_endText_12 : decode cX5_endText 12 = .ok (.iconst 1, 1) := by decide +kernel
theorem dX5_endText_13 : decode cX5_endText 13 = .ok (.iadd, 1) := by decide +kernel
theorem dX5_endText_14 : decode cX5_endText 14 = .ok (.putfield 26, 3) := by decide +kernel
theorem dX5_endText_17 : decode cX5_endText 17 = .ok (.return_, 1) := by decide +kernel
theorem qX5_endText (d : Nat) (s : Sg) : RUN (d + 1) mX5_endText [vr 4 0] s = bI (RUN d mX5_isFull [vr 4 0] s) (fun r1 s1 => if r1 = 0 then (some (none, (up s1 4 0 4 (w32 ((s1 4 0 4) + 1))))) else (some (none, s1))) := x_run rfl (x_st 1 dX5_endText_0 rfl (x_ci 4 [vr 4 0] [] dX5_endText_1 rfl (fun r1 s1 => x_br dX5_endText_4 (x_if (x_go 7 (x_st 8 dX5_endText_7 rfl (x_st 9 dX5_endText_8 rfl (x_st 12 dX5_endText_9 rfl (x_st 13 dX5_endText_12 rfl (x_st 14 dX5_endText_13 rfl (x_st 17 dX5_endText_14 rfl (x_ret dX5_endText_17 rfl)))))))) (x_go 17 (x_ret dX5_endText_17 rfl))))))
theorem dX5_ask_0 : decode cX5_ask 0 = .ok (.aload_n 0, 1) := by decide +kernel
theorem dX5_ask_1 : decode cX5_ask 1 = .ok (.getfield 23, 3) := by decide +kernel
theorem dX5_ask_4 : decode cX5_ask 4 = .ok (.iconst 0, 1) := by decide +kernel
theorem dX5_ask_5 : decode cX5_ask 5 = .ok (.aload_n 2, 1) := by decide +kernel
theorem dX5_ask_6 : decode cX5_ask 6 = .ok (.iconst 1, 1) := by decide +kernel
theorem dX5_ask_7 : decode cX5_ask 7 = .ok (.iload_n 3, 1) := by decide +kernel
theorem dX5_ask_8 : decode cX5_ask 8 = .ok (.invokevirtual 44, 3) := by decide +kernel
theorem dX5_ask_11 : decode cX5_ask 11 = .ok (.iastore, 1) := by decide +kernel
theorem dX5_ask_12 : decode cX5_ask 12 = .ok (.aload_n 0, 1) := by decide +kernel
theorem dX5_ask_13 : decode cX5_ask 13 = .ok (.getfield 23, 3) := by decide +kernel
theorem dX5_ask_16 : decode cX5_ask 16 = .ok (.iconst 1, 1) := by decide +kernel
theorem dX5_ask_17 : decode cX5_ask 17 = .ok (.iload 4, 2) := by decide +kernel
theorem dX5_ask_19 : decode cX5_ask 19 = .ok (.iastore, 1) := by decide +kernel
theorem dX5_ask_20 : decode cX5_ask 20 = .ok (.aload_n 0, 1) := by decide +kernel
theorem dX5_ask_21 : decode cX5_ask 21 = .ok (.getfield 23, 3) := by decide +kernel
theorem dX5_ask_24 : decode cX5_ask 24 = .ok (.iconst 2, 1) := by decide +kernel
theorem dX5_ask_25 : decode cX5_ask 25 = .ok (.iload 5, 2) := by decide +kernel
theorem dX5_ask_27 : decode cX5_ask 27 = .ok (.iastore, 1) := by decide +kernel
theorem dX5_ask_28 : decode cX5_ask 28 = .ok (.aload_n 0, 1) := by decide +kernel
theorem dX5_ask_29 : decode cX5_ask 29 = .ok (.getfield 23, 3) := by decide +kernel
theorem dX5_ask_32 : decode cX5_ask 32 = .ok (.iconst 3, 1) := by decide +kernel
theorem dX5_ask_33 : decode cX5_ask 33 = .ok (.aload_n 2, 1) := by decide +kernel
theorem dX5_ask_34 : decode cX5_ask 34 = .ok (.iconst 0, 1) := by decide +kernel
theorem dX5_ask_35 : decode cX5_ask 35 = .ok (.iload_n 3, 1) := by decide +kernel
theorem dX5_ask_36 : decode cX5_ask 36 = .ok (.invokevirtual 44, 3) := by decide +kernel
theorem dX5_ask_39 : decode cX5_ask 39 = .ok (.iastore, 1) := by decide +kernel
theorem dX5_ask_40 : decode cX5_ask 40 = .ok (.aload_n 0, 1) := by decide +kernel
theorem dX5_ask_41 : decode cX5_ask 41 = .ok (.getfield 23, 3) := by decide +kernel
theorem dX5_ask_44 : decode cX5_ask 44 = .ok (.iconst 4, 1) := by decide +kernel
theorem dX5_ask_45 : decode cX5_ask 45 = .ok (.iload 6, 2) := by decide +kernel
theorem dX5_ask_47 : decode cX5_ask 47 = .ok (.iastore, 1) := by decide +kernel
theorem dX5_ask_48 : decode cX5_ask 48 = .ok (.aload_n 0, 1) := by decide +kernel
theorem dX5_ask_49 : decode cX5_ask 49 = .ok (.getfield 23, 3) := by decide +kernel
theorem dX5_ask_52 : decode cX5_ask 52 = .ok (.iconst 5, 1) := by decide +kernel
theorem dX5_ask_53 : decode cX5_ask 53 = .ok (.aload_n 2, 1) := by decide +kernel
theorem dX5_ask_54 : decode cX5_ask 54 = .ok (.iconst 4, 1) := by decide +kernel
theorem dX5_ask_55 : decode cX5_ask 55 = .ok (.iload_n 3, 1) := by decide +kernel
theorem dX5_ask_56 : decode cX5_ask 56 = .ok (.invokevirtual 44, 3) := by decide +kernel
theorem dX5_ask_59 : decode cX5_ask 59 = .ok (.iastore, 1) := by decide +kernel
theorem dX5_ask_60 : decode cX5_ask 60 = .ok (.aload_n 0, 1) := by decide +kernel
theorem dX5_ask_61 : decode cX5_ask 61 = .ok (.getfield 30, 3) := by decide +kernel
theorem dX5_ask_64 : decode cX5_ask 64 = .ok (.ifCond .lt 23, 3) := by decide +kernel
theorem dX5_ask_67 : decode cX5_ask 67 = .ok (.aload_n 0, 1) := by decide +kernel
theorem dX5_ask_68 : decode cX5_ask 68 = .ok (.getfield 30, 3) := by decide +kernel
theorem dX5_ask_71 : decode cX5_ask 71 = .ok (.aload_n 0, 1) := by decide +kernel
theorem dX5_ask_72 : decode cX5_ask 72 = .ok (.getfield 26, 3) := by decide +kernel
theorem dX5_ask_75 : decode cX5_ask 75 = .ok (.if_icmp .ge 12, 3) := by decide +kernel
theorem dX5_ask_78 : decode cX5_ask 78 = .ok (.iload_n 1, 1) := by decide +kernel
theorem dX5_ask_79 : decode cX5_ask 79 = .ok (.ifCond .lt 8, 3) := by decide +kernel
theorem dX5_ask_82 : decode cX5_ask 82 = .ok (.iload_n 1, 1) := by decide +kernel
theorem dX5_ask_83 : decode cX5_ask 83 = .ok (.iconst 3, 1) := by decide +kernel
theorem dX5_ask_84 : decode cX5_ask 84 = .ok (.if_icmp .lt 5, 3) := by decide +kernel
theorem dX5_ask_87 : decode cX5_ask 87 = .ok (.iconst 0, 1) := by decide +kernel
theorem dX5_ask_88 : decode cX5_ask 88 = .ok (.ireturn, 1) := by decide +kernel
theorem dX5_ask_89 : decode cX5_ask 89 = .ok (.aload_n 0, 1) := by decide +kernel
theorem dX5_ask_90 : decode cX5_ask 90 = .ok (.getfield 11, 3) := by decide +kernel
theorem dX5_ask_93 : decode cX5_ask 93 = .ok (.aload_n 0, 1) := by decide +kernel
theorem dX5_ask_94 : decode cX5_ask 94 = .ok (.getfield 30, 3) := by decide +kernel
theorem dX5_ask_97 : decode cX5_ask 97 = .ok (.aaload, 1) := by decide +kernel
theorem dX5_ask_98 : decode cX5_ask 98 = .ok (.astore 7, 2) := by decide +kernel
theorem dX5_ask_100 : decode cX5_ask 100 = .ok (.iconst 0, 1) := by decide +kernel
theorem dX5_ask_101 : decode cX5_ask 101 = .ok (.istore 8, 2) := by decide +kernel
theorem dX5_ask_103 : decode cX5_ask 103 = .ok (.aload_n 0, 1) := by decide +kernel
theorem dX5_ask_104 : decode cX5_ask 104 = .ok (.getfield 16, 3) := by decide +kernel
theorem dX5_ask_107 : decode cX5_ask 107 = .ok (.aload_n 0, 1) := by decide +kernel
theorem dX5_ask_108 : decode cX5_ask 108 = .ok (.getfield 30, 3) := by decide +kernel
theorem dX5_ask_111 : decode cX5_ask 111 = .ok (.aaload, 1) := by decide +kernel
theorem dX5_ask_112 : decode cX5_ask 112 = .ok (.iload_n 1, 1) := by decide +kernel
theorem dX5_ask_113 : decode cX5_ask 113 = .ok (.iaload, 1) := by decide +kernel
theorem dX5_ask_114 : decode cX5_ask 114 = .ok (.istore 9, 2) := by decide +kernel
theorem dX5_ask_116 : decode cX5_ask 116 = .ok (.iload 9, 2) := by decide +kernel
theorem dX5_ask_118 : decode cX5_ask 118 = .ok (.ifCond .lt 188, 3) := by decide +kernel
theorem dX5_ask_121 : decode cX5_ask 121 = .ok (.iload 9, 2) := by decide +kernel
theorem dX5_ask_123 : decode cX5_ask 123 = .ok (.aload 7, 2) := by decide +kernel
theorem dX5_ask_125 : decode cX5_ask 125 = .ok (.arraylength, 1) := by decide +kernel
theorem dX5_ask_126 : decode cX5_ask 126 = .ok (.if_icmp .ge 180, 3) := by decide +kernel
theorem dX5_ask_129 : decode cX5_ask 129 = .ok (.aload 7, 2) := by decide +kernel
theorem dX5_ask_131 : decode cX5_ask 131 = .ok (.iload 9, 2) := by decide +kernel
theorem dX5_ask_133 : decode cX5_ask 133 = .ok (.iaload, 1) := by decide +kernel
theorem dX5_ask_134 : decode cX5_ask 134 = .ok (.bipush (-16), 2) := by decide +kernel
theorem dX5_ask_136 : decode cX5_ask 136 = .ok (.if_icmp .eq 170, 3) := by decide +kernel
theorem dX5_ask_139 : decode cX5_ask 139 = .ok (.aload 7, 2) := by decide +kernel
theorem dX5_ask_141 : decode cX5_ask 141 = .ok (.iload 9, 2) := by decide +kernel
theorem dX5_ask_143 : decode cX5_ask 143 = .ok (.iaload, 1) := by decide +kernel
theorem dX5_ask_144 : decode cX5_ask 144 = .ok (.istore 10, 2) := by decide +kernel
theorem dX5_ask_146 : decode cX5_ask 146 = .ok (.iload 10, 2) := by decide +kernel
theorem dX5_ask_148 : decode cX5_ask 148 = .ok (.bipush (-6), 2) := by decide +kernel
theorem dX5_ask_150 : decode cX5_ask 150 = .ok (.if_icmp .lt 45, 3) := by decide +kernel
theorem dX5_ask_153 : decode cX5_ask 153 = .ok (.iload 8, 2) := by decide +kernel
theorem dX5_ask_155 : decode cX5_ask 155 = .ok (.aload_n 0, 1) := by decide +kernel
theorem dX5_ask_156 : decode cX5_ask 156 = .ok (.getfield 19, 3) := by decide +kernel
theorem dX5_ask_159 : decode cX5_ask 159 = .ok (.arraylength, 1) := by decide +kernel
theorem dX5_ask_160 : decode cX5_ask 160 = .ok (.if_icmp .ge 140, 3) := by decide +kernel
theorem dX5_ask_163 : decode cX5_ask 163 = .ok (.aload_n 0, 1) := by decide +kernel
theorem dX5_ask_164 : decode cX5_ask 164 = .ok (.getfield 19, 3) := by decide +kernel
theorem dX5_ask_167 : decode cX5_ask 167 = .ok (.iload 8, 2) := by decide +kernel
theorem dX5_ask_169 : decode cX5_ask 169 = .ok (.iinc 8 1, 3) := by decide +kernel
theorem dX5_ask_172 : decode cX5_ask 172 = .ok (.iload 10, 2) := by decide +kernel
theorem dX5_ask_174 : decode cX5_ask 174 = .ok (.ifCond .lt 8, 3) := by decide +kernel
theorem dX5_ask_177 : decode cX5_ask 177 = .ok (.iload 10, 2) := by decide +kernel
theorem dX5_ask_179 : decode cX5_ask 179 = .ok (.goto 12, 3) := by decide +kernel
theorem dX5_ask_182 : decode cX5_ask 182 = .ok (.aload_n 0, 1) := by decide +kernel
theorem dX5_ask_183 : decode cX5_ask 183 = .ok (.getfield 23, 3) := by decide +kernel
theorem dX5_ask_186 : decode cX5_ask 186 = .ok (.iconst (-1), 1) := by decide +kernel
theorem dX5_ask_187 : decode cX5_ask 187 = .ok (.iload 10, 2) := by decide +kernel
theorem dX5_ask_189 : decode cX5_ask 189 = .ok (.isub, 1) := by decide +kernel
theorem dX5_ask_190 : decode cX5_ask 190 = .ok (.iaload, 1) := by decide +kernel
theorem dX5_ask_191 : decode cX5_ask 191 = .ok (.iastore, 1) := by decide +kernel
theorem dX5_ask_192 : decode cX5_ask 192 = .ok (.goto 108, 3) := by decide +kernel
theorem dX5_ask_195 : decode cX5_ask 195 = .ok (.iload 10, 2) := by decide +kernel
theorem dX5_ask_197 : decode cX5_ask 197 = .ok (.bipush (-9), 2) := by decide +kernel
theorem dX5_ask_199 : decode cX5_ask 199 = .ok (.if_icmp .eq 10, 3) := by decide +kernel
theorem dX5_ask_202 : decode cX5_ask 202 = .ok (.iload 10, 2) := by decide +kernel
theorem dX5_ask_204 : decode cX5_ask 204 = .ok (.bipush (-15), 2) := by decide +kernel
theorem dX5_ask_206 : decode cX5_ask 206 = .ok (.if_icmp .ne 55, 3) := by decide +kernel
theorem dX5_ask_209 : decode cX5_ask 209 = .ok (.iload 8, 2) := by decide +kernel
theorem dX5_ask_211 : decode cX5_ask 211 = .ok (.iconst 1, 1) := by decide +kernel
theorem dX5_ask_212 : decode cX5_ask 212 = .ok (.if_icmp .lt 88, 3) := by decide +kernel
theorem dX5_ask_215 : decode cX5_ask 215 = .ok (.aload_n 0, 1) := by decide +kernel
theorem dX5_ask_216 : decode cX5_ask 216 = .ok (.getfield 19, 3) := by decide +kernel
theorem dX5_ask_219 : decode cX5_ask 219 = .ok (.iload 8, 2) := by decide +kernel
theorem dX5_ask_221 : decode cX5_ask 221 = .ok (.iconst 1, 1) := by decide +kernel
theorem dX5_ask_222 : decode cX5_ask 222 = .ok (.isub, 1) := by decide +kernel
theorem dX5_ask_223 : decode cX5_ask 223 = .ok (.iaload, 1) := by decide +kernel
theorem dX5_ask_224 : decode cX5_ask 224 = .ok (.istore 11, 2) := by decide +kernel
theorem dX5_ask_226 : decode cX5_ask 226 = .ok (.aload_n 0, 1) := by decide +kernel
theorem dX5_ask_227 : decode cX5_ask 227 = .ok (.getfield 19, 3) := by decide +kernel
theorem dX5_ask_230 : decode cX5_ask 230 = .ok (.iload 8, 2) := by decide +kernel
theorem dX5_ask_232 : decode cX5_ask 232 = .ok (.iconst 1, 1) := by decide +kernel
theorem dX5_ask_233 : decode cX5_ask 233 = .ok (.isub, 1) := by decide +kernel
theorem dX5_ask_234 : decode cX5_ask 234 = .ok (.iload 10, 2) := by decide +kernel
theorem dX5_ask_236 : decode cX5_ask 236 = .ok (.bipush (-15), 2) := by decide +kernel
theorem dX5_ask_238 : decode cX5_ask 238 = .ok (.if_icmp .ne 9, 3) := by decide +kernel
theorem dX5_ask_241 : decode cX5_ask 241 = .ok (.iload 11, 2) := by decide +kernel
theorem dX5_ask_243 : decode cX5_ask 243 = .ok (.ineg, 1) := by decide +kernel
theorem dX5_ask_244 : decode cX5_ask 244 = .ok (.goto 13, 3) := by decide +kernel
theorem dX5_ask_247 : decode cX5_ask 247 = .ok (.iload 11, 2) := by decide +kernel
theorem dX5_ask_249 : decode cX5_ask 249 = .ok (.ifCond .ne 7, 3) := by decide +kernel
theorem dX5_ask_252 : decode cX5_ask 252 = .ok (.iconst 1, 1) := by decide +kernel
theorem dX5_ask_253 : decode cX5_ask 253 = .ok (.goto 4, 3) := by decide +kernel
theorem dX5_ask_256 : decode cX5_ask 256 = .ok (.iconst 0, 1) := by decide +kernel
theorem dX5_ask_257 : decode cX5_ask 257 = .ok (.iastore, 1) := by decide +kernel
theorem dX5_ask_258 : decode cX5_ask 258 = .ok (.goto 42, 3) := by decide +kernel
theorem dX5_ask_261 : decode cX5_ask 261 = .ok (.iload 8, 2) := by decide +kernel
theorem dX5_ask_263 : decode cX5_ask 263 = .ok (.iconst 2, 1) := by decide +kernel
theorem dX5_ask_264 : decode cX5_ask 264 = .ok (.if_icmp .lt 36, 3) := by decide +kernel
theorem dX5_ask_267 : decode cX5_ask 267 = .ok (.iinc 8 (-1), 3) := by decide +kernel
theorem dX5_ask_270 : decode cX5_ask 270 = .ok (.aload_n 0, 1) := by decide +kernel
theorem dX5_ask_271 : decode cX5_ask 271 = .ok (.getfield 19, 3) := by decide +kernel
theorem dX5_ask_274 : decode cX5_ask 274 = .ok (.iload 8, 2) := by decide +kernel
theorem dX5_ask_276 : decode cX5_ask 276 = .ok (.iconst 1, 1) := by decide +kernel
theorem dX5_ask_277 : decode cX5_ask 277 = .ok (.isub, 1) := by decide +kernel
theorem dX5_ask_278 : decode cX5_ask 278 = .ok (.iload 10, 2) := by decide +kernel
theorem dX5_ask_280 : decode cX5_ask 280 = .ok (.aload_n 0, 1) := by decide +kernel
theorem dX5_ask_281 : decode cX5_ask 281 = .ok (.getfield 19, 3) := by decide +kernel
theorem dX5_ask_284 : decode cX5_ask 284 = .ok (.iload 8, 2) := by decide +kernel
theorem dX5_ask_286 : decode cX5_ask 286 = .ok (.iconst 1, 1) := by decide +kernel
theorem dX5_ask_287 : decode cX5_ask 287 = .ok (.isub, 1) := by decide +kernel
theorem dX5_ask_288 : decode cX5_ask 288 = .ok (.iaload, 1) := by decide +kernel
theorem dX5_ask_289 : decode cX5_ask 289 = .ok (.aload_n 0, 1) := by decide +kernel
theorem dX5_ask_290 : decode cX5_ask 290 = .ok (.getfield 19, 3) := by decide +kernel
theorem dX5_ask_293 : decode cX5_ask 293 = .ok (.iload 8, 2) := by decide +kernel
theorem dX5_ask_295 : decode cX5_ask 295 = .ok (.iaload, 1) := by decide +kernel
theorem dX5_ask_296 : decode cX5_ask 296 = .ok (.invokestatic 50, 3) := by decide +kernel
theorem dX5_ask_299 : decode cX5_ask 299 = .ok (.iastore, 1) := by decide +kernel
theorem dX5_ask_300 : decode cX5_ask 300 = .ok (.iinc 9 1, 3) := by decide +kernel
theorem dX5_ask_303 : decode cX5_ask 303 = .ok (.goto (-187), 3) := by decide +kernel
theorem dX5_ask_306 : decode cX5_ask 306 = .ok (.iload 8, 2) := by decide +kernel
theorem dX5_ask_308 : decode cX5_ask 308 = .ok (.iconst 1, 1) := by decide +kernel
theorem dX5_ask_309 : decode cX5_ask 309 = .ok (.if_icmp .lt 15, 3) := by decide +kernel
theorem dX5_ask_312 : decode cX5_ask 312 = .ok (.aload_n 0, 1) := by decide +kernel
theorem dX5_ask_313 : decode cX5_ask 313 = .ok (.getfield 19, 3) := by decide +kernel
theorem dX5_ask_316 : decode cX5_ask 316 = .ok (.iload 8, 2) := by decide +kernel
theorem dX5_ask_318 : decode cX5_ask 318 = .ok (.iconst 1, 1) := by decide +kernel
theorem dX5_ask_319 : decode cX5_ask 319 = .ok (.isub, 1) := by decide +kernel
theorem dX5_ask_320 : decode cX5_ask 320 = .ok (.iaload, 1) := by decide +kernel
theorem dX5_ask_321 : decode cX5_ask 321 = .ok (.goto 4, 3) := by decide +kernel
theorem dX5_ask_324 : decode cX5_ask 324 = .ok (.iconst 0, 1) := by decide +kernel
theorem dX5_ask_325 : decode cX5_ask 325 = .ok (.ireturn, 1) := by decide +kernel
theorem qX5_ask (d : Nat) (x1 : Int) (x3 : Int) (x4 : Int) (x5 : Int) (x6 : Int) (s : Sg) : RUN (d + 1) mX5_ask [vr 4 0, vi x1, vr 1 0, vi x3, vi x4, vi x5, vi x6] s = bI (RUN d mX1_tell [vr 1 0, vi 1, vi x3] s) (fun r1 s1 => bI (RUN d mX1_tell [vr 1 0, vi 0, vi x3] (up (up (up s1 10 0 0 r1) 10 0 1 x4) 10 0 2 x5)) (fun r2 s2 => bI (RUN d mX1_tell [vr 1 0, vi 4, vi x3] (up (up s2 10 0 3 r2) 10 0 4 x6)) (fun r3 s3 => if (s3 4 0 5) < 0 then (some (some (vi 0), (up s3 10 0 5 r3))) else (if (s3 4 0 5) < (s3 4 0 4) then (if x1 < 0 then (some (some (vi 0), (up s3 10 0 5 r3))) else (if x1 < 3 then (if inb (s3 4 0 5) 6 then (if inb (s3 4 0 5) 6 then (if inb x1 3 then (EV (d + 1) mX5_ask (116, [vr 4 0, vi x1, vr 1 0, vi x3, vi x4, vi x5, vi x6, vr 6 (Int.toNat (s3 4 0 5)), vi 0, vi (s3 8 (Int.toNat (s3 4 0 5)) (Int.toNat x1)), UU, UU], [], (up s3 10 0 5 r3))) else none) else none) else none) else (some (some (vi 0), (up s3 10 0 5 r3))))) else (some (some (vi 0), (up s3 10 0 5 r3))))))) := x_run rfl (x_st 1 dX5_ask_0 rfl (x_st 4 dX5_ask_1 rfl (x_st 5 dX5_ask_4 rfl (x_st 6 dX5_ask_5 rfl (x_st 7 dX5_ask_6 rfl (x_st 8 dX5_ask_7 rfl (x_ci 11 [vr 4 0, vi x1, vr 1 0, vi x3, vi x4, vi x5, vi x6, UU, UU, UU, UU, UU] [vi 0, vr 10 0] dX5_ask_8 rfl (fun r1 s1 => x_st 12 dX5_ask_11 rfl (x_st 13 dX5_ask_12 rfl (x_st 16 dX5_ask_13 rfl (x_st 17 dX5_ask_16 rfl (x_st 19 dX5_ask_17 rfl (x_st 20 dX5_ask_19 rfl (x_st 21 dX5_ask_20 rfl (x_st 24 dX5_ask_21 rfl (x_st 25 dX5_ask_24 rfl (x_st 27 dX5_ask_25 rfl (x_st 28 dX5_ask_27 rfl (x_st 29 dX5_ask_28 rfl (x_st 32 dX5_ask_29 rfl (x_st 33 dX5_ask_32 rfl (x_st 34 dX5_ask_33 rfl (x_st 35 dX5_ask_34 rfl (x_st 36 dX5_ask_35 rfl (x_ci 39 [vr 4 0, vi x1, vr 1 0, vi x3, vi x4, vi x5, vi x6, UU, UU, UU, UU, UU] [vi 3, vr 10 0] dX5_ask_36 rfl (fun r2 s2 => x_st 40 dX5_ask_39 rfl (x_st 41 dX5_ask_40 rfl (x_st 44 dX5_ask_41 rfl (x_st 45 dX5_ask_44 rfl (x_st 47 dX5_ask_45 rfl (x_st 48 dX5_ask_47 rfl (x_st 49 dX5_ask_48 rfl (x_st 52 dX5_ask_49 rfl (x_st 53 dX5_ask_52 rfl (x_st 54 dX5_ask_53 rfl (x_st 55 dX5_ask_54 rfl (x_st 56 dX5_ask_55 rfl (x_ci 59 [vr 4 0, vi x1, vr 1 0, vi x3, vi x4, vi x5, vi x6, UU, UU, UU, UU, UU] [vi 5, vr 10 0] dX5_ask_56 rfl (fun r3 s3 => x_st 60 dX5_ask_59 rfl (x_st 61 dX5_ask_60 rfl (x_st 64 dX5_ask_61 rfl (x_br dX5_ask_64 (x_if (x_go 87 (x_st 88 dX5_ask_87 rfl (x_ret dX5_ask_88 rfl))) (x_go 67 (x_st 68 dX5_ask_67 rfl (x_st 71 dX5_ask_68 rfl (x_st 72 dX5_ask_71 rfl (x_st 75 dX5_ask_72 rfl (x_br dX5_ask_75 (x_if (x_go 78 (x_st 79 dX5_ask_78 rfl (x_br dX5_ask_79 (x_if (x_go 87 (x_st 88 dX5_ask_87 rfl (x_ret dX5_ask_88 rfl))) (x_go 82 (x_st 83 dX5_ask_82 rfl (x_st 84 dX5_ask_83 rfl (x_br dX5_ask_84 (x_if (x_go 89 (x_st 90 dX5_ask_89 rfl (x_st 93 dX5_ask_90 rfl (x_st 94 dX5_ask_93 rfl (x_st 97 dX5_ask_94 rfl (x_br dX5_ask_97 (x_if (x_go 98 (x_so 100 [vr 4 0, vi x1, vr 1 0, vi x3, vi x4, vi x5, vi x6, vr 6 (Int.toNat (s3 4 0 5)), UU, UU, UU, UU] dX5_ask_98 rfl (x_st 101 dX5_ask_100 rfl (x_so 103 [vr 4 0, vi x1, vr 1 0, vi x3, vi x4, vi x5, vi x6, vr 6 (Int.toNat (s3 4 0 5)), vi 0, UU, UU, UU] dX5_ask_101 rfl (x_st 104 dX5_ask_103 rfl (x_st 107 dX5_ask_104 rfl (x_st 108 dX5_ask_107 rfl (x_st 111 dX5_ask_108 rfl (x_br dX5_ask_111 (x_if (x_go 112 (x_st 113 dX5_ask_112 rfl (x_br dX5_ask_113 (x_if (x_go 114 (x_so 116 [vr 4 0, vi x1, vr 1 0, vi x3, vi x4, vi x5, vi x6, vr 6 (Int.toNat (s3 4 0 5)), vi 0, vi (s3 8 (Int.toNat (s3 4 0 5)) (Int.toNat x1)), UU, UU] dX5_ask_114 rfl (rfl))) x_no)))) x_no)))))))))) x_no))))))) (x_go 87 (x_st 88 dX5_ask_87 rfl (x_ret dX5_ask_88 rfl)))))))))))) (x_go 87 (x_st 88 dX5_ask_87 rfl (x_ret dX5_ask_88 rfl)))))))))))))))))))))))))))))))))))))))))))))))))))))
theorem qX5_ask_116 (d : Nat) (z1 : PV) (z2 : PV) (z3 : PV) (z4 : PV) (z5 : PV) (z6 : PV) (j7 : Nat) (x8 : Int) (x9 : Int) (z10 : PV) (z11 : PV) (s : Sg) : EV (d + 1) mX5_ask (116, [vr 4 0, z1, z2, z3, z4, z5, z6, vr 6 j7, vi x8, vi x9, z10, z11], [], s) = if x9 < 0 then (EV (d + 1) mX5_ask (306, [vr 4 0, z1, z2, z3, z4, z5, z6, vr 6 j7, vi x8, vi x9, z10, z11], [], s)) else (if x9 < 160 then (if inb x9 160 then (if (s 6 j7 (Int.toNat x9)) = (-16) then (EV (d + 1) mX5_ask (306, [vr 4 0, z1, z2, z3, z4, z5, z6, vr 6 j7, vi x8, vi x9, z10, z11], [], s)) else (if inb x9 160 then (if (s 6 j7 (Int.toNat x9)) < (-6) then (if (s 6 j7 (Int.toNat x9)) = (-9) then (EV (d + 1) mX5_ask (209, [vr 4 0, z1, z2, z3, z4, z5, z6, vr 6 j7, vi x8, vi x9, vi (s 6 j7 (Int.toNat x9)), z11], [], s)) else (if (s 6 j7 (Int.toNat x9)) = (-15) then (EV (d + 1) mX5_ask (209, [vr 4 0, z1, z2, z3, z4, z5, z6, vr 6 j7, vi x8, vi x9, vi (s 6 j7 (Int.toNat x9)), z11], [], s)) else (if x8 < 2 then (EV (d + 1) mX5_ask (300, [vr 4 0, z1, z2, z3, z4, z5, z6, vr 6 j7, vi x8, vi x9, vi (s 6 j7 (Int.toNat x9)), z11], [], s)) else (if inb (w32 ((w32 (x8 + (-1))) - 1)) 160 then (if inb (w32 (x8 + (-1))) 160 then (bI (RUN d mX5_joined [vi (s 6 j7 (Int.toNat x9)), vi (s 9 0 (Int.toNat (w32 ((w32 (x8 + (-1))) - 1)))), vi (s 9 0 (Int.toNat (w32 (x8 + (-1)))))] s) (fun r1 s1 => if inb (w32 ((w32 (x8 + (-1))) - 1)) 160 then (EV (d + 1) mX5_ask (300, [vr 4 0, z1, z2, z3, z4, z5, z6, vr 6 j7, vi (w32 (x8 + (-1))), vi x9, vi (s 6 j7 (Int.toNat x9)), z11], [], (up s1 9 0 (Int.toNat (w32 ((w32 (x8 + (-1))) - 1))) r1))) else none)) else none) else none)))) else (if x8 < 160 then (if (s 6 j7 (Int.toNat x9)) < 0 then (if inb (w32 ((-1) - (s 6 j7 (Int.toNat x9)))) 6 then (EV (d + 1) mX5_ask (191, [vr 4 0, z1, z2, z3, z4, z5, z6, vr 6 j7, vi (w32 (x8 + 1)), vi x9, vi (s 6 j7 (Int.toNat x9)), z11], [vi (s 10 0 (Int.toNat (w32 ((-1) - (s 6 j7 (Int.toNat x9)))))), vi x8, vr 9 0], s)) else none) else (EV (d + 1) mX5_ask (191, [vr 4 0, z1, z2, z3, z4, z5, z6, vr 6 j7, vi (w32 (x8 + 1)), vi x9, vi (s 6 j7 (Int.toNat x9)), z11], [vi (s 6 j7 (Int.toNat x9)), vi x8, vr 9 0], s))) else (EV (d + 1) mX5_ask (300, [vr 4 0, z1, z2, z3, z4, z5, z6, vr 6 j7, vi x8, vi x9, vi (s 6 j7 (Int.toNat x9)), z11], [], s)))) else none)) else none) else (EV (d + 1) mX5_ask (306, [vr 4 0, z1, z2, z3, z4, z5, z6, vr 6 j7, vi x8, vi x9, z10, z11], [], s))) := x_st 118 dX5_ask_116 rfl (x_br dX5_ask_118 (x_if (x_go 306 (rfl)) (x_go 121 (x_st 123 dX5_ask_121 rfl (x_st 125 dX5_ask_123 rfl (x_st 126 dX5_ask_125 rfl (x_br dX5_ask_126 (x_if (x_go 129 (x_st 131 dX5_ask_129 rfl (x_st 133 dX5_ask_131 rfl (x_br dX5_ask_133 (x_if (x_go 134 (x_st 136 dX5_ask_134 rfl (x_br dX5_ask_136 (x_if (x_go 306 (rfl)) (x_go 139 (x_st 141 dX5_ask_139 rfl (x_st 143 dX5_ask_141 rfl (x_br dX5_ask_143 (x_if (x_go 144 (x_so 146 [vr 4 0, z1, z2, z3, z4, z5, z6, vr 6 j7, vi x8, vi x9, vi (s 6 j7 (Int.toNat x9)), z11] dX5_ask_144 rfl (x_st 148 dX5_ask_146 rfl (x_st 150 dX5_ask_148 rfl (x_br dX5_ask_150 (x_if (x_go 195 (x_st 197 dX5_ask_195 rfl (x_st 199 dX5_ask_197 rfl (x_br dX5_ask_199 (x_if (x_go 209 (rfl)) (x_go 202 (x_st 204 dX5_ask_202 rfl (x_st 206 dX5_ask_204 rfl (x_br dX5_ask_206 (x_if (x_go 209 (rfl)) (x_go 261 (x_st 263 dX5_ask_261 rfl (x_st 264 dX5_ask_263 rfl (x_br dX5_ask_264 (x_if (x_go 300 (rfl)) (x_go 267 (x_so 270 [vr 4 0, z1, z2, z3, z4, z5, z6, vr 6 j7, vi (w32 (x8 + (-1))), vi x9, vi (s 6 j7 (Int.toNat x9)), z11] dX5_ask_267 rfl (x_st 271 dX5_ask_270 rfl (x_st 274 dX5_ask_271 rfl (x_st 276 dX5_ask_274 rfl (x_st 277 dX5_ask_276 rfl (x_st 278 dX5_ask_277 rfl (x_st 280 dX5_ask_278 rfl (x_st 281 dX5_ask_280 rfl (x_st 284 dX5_ask_281 rfl (x_st 286 dX5_ask_284 rfl (x_st 287 dX5_ask_286 rfl (x_st 288 dX5_ask_287 rfl (x_br dX5_ask_288 (x_if (x_go 289 (x_st 290 dX5_ask_289 rfl (x_st 293 dX5_ask_290 rfl (x_st 295 dX5_ask_293 rfl (x_br dX5_ask_295 (x_if (x_go 296 (x_ci 299 [vr 4 0, z1, z2, z3, z4, z5, z6, vr 6 j7, vi (w32 (x8 + (-1))), vi x9, vi (s 6 j7 (Int.toNat x9)), z11] [vi (w32 ((w32 (x8 + (-1))) - 1)), vr 9 0] dX5_ask_296 rfl (fun r1 s1 => x_br dX5_ask_299 (x_if (x_go 300 (rfl)) x_no)))) x_no)))))) x_no)))))))))))))))))))))))))))))) (x_go 153 (x_st 155 dX5_ask_153 rfl (x_st 156 dX5_ask_155 rfl (x_st 159 dX5_ask_156 rfl (x_st 160 dX5_ask_159 rfl (x_br dX5_ask_160 (x_if (x_go 163 (x_st 164 dX5_ask_163 rfl (x_st 167 dX5_ask_164 rfl (x_st 169 dX5_ask_167 rfl (x_so 172 [vr 4 0, z1, z2, z3, z4, z5, z6, vr 6 j7, vi (w32 (x8 + 1)), vi x9, vi (s 6 j7 (Int.toNat x9)), z11] dX5_ask_169 rfl (x_st 174 dX5_ask_172 rfl (x_br dX5_ask_174 (x_if (x_go 182 (x_st 183 dX5_ask_182 rfl (x_st 186 dX5_ask_183 rfl (x_st 187 dX5_ask_186 rfl (x_st 189 dX5_ask_187 rfl (x_st 190 dX5_ask_189 rfl (x_br dX5_ask_190 (x_if (x_go 191 (rfl)) x_no)))))))) (x_go 177 (x_st 179 dX5_ask_177 rfl (x_st 191 dX5_ask_179 rfl (rfl)))))))))))) (x_go 300 (rfl))))))))))))))) x_no))))))))) x_no))))) (x_go 306 (rfl))))))))))
theorem qX5_ask_306 (d : Nat) (z1 : PV) (z2 : PV) (z3 : PV) (z4 : PV) (z5 : PV) (z6 : PV) (z7 : PV) (x8 : Int) (z9 : PV) (z10 : PV) (z11 : PV) (s : Sg) : EV d mX5_ask (306, [vr 4 0, z1, z2, z3, z4, z5, z6, z7, vi x8, z9, z10, z11], [], s) = if x8 < 1 then (some (some (vi 0), s)) else (if inb (w32 (x8 - 1)) 160 then (some (some (vi (s 9 0 (Int.toNat (w32 (x8 - 1))))), s)) else none) := x_st 308 dX5_ask_306 rfl (x_st 309 dX5_ask_308 rfl (x_br dX5_ask_309 (x_if (x_go 324 (x_st 325 dX5_ask_324 rfl (x_ret dX5_ask_325 rfl))) (x_go 312 (x_st 313 dX5_ask_312 rfl (x_st 316 dX5_ask_313 rfl (x_st 318 dX5_ask_316 rfl (x_st 319 dX5_ask_318 rfl (x_st 320 dX5_ask_319 rfl (x_br dX5_ask_320 (x_if (x_go 321 (x_st 325 dX5_ask_321 rfl (x_ret dX5_ask_325 rfl))) x_no)))))))))))
theorem qX5_ask_209 (d : Nat) (z1 : PV) (z2 : PV) (z3 : PV) (z4 : PV) (z5 : PV) (z6 : PV) (j7 : Nat) (x8 : Int) (x9 : Int) (x10 : Int) (z11 : PV) (s : Sg) : EV d mX5_ask (209, [vr 4 0, z1, z2, z3, z4, z5, z6, vr 6 j7, vi x8, vi x9, vi x10, z11], [], s) = if x8 < 1 then (EV d mX5_ask (300, [vr 4 0, z1, z2, z3, z4, z5, z6, vr 6 j7, vi x8, vi x9, vi x10, z11], [], s)) else (if inb (w32 (x8 - 1)) 160 then (if x10 = (-15) then (EV d mX5_ask (257, [vr 4 0, z1, z2, z3, z4, z5, z6, vr 6 j7, vi x8, vi x9, vi x10, vi (s 9 0 (Int.toNat (w32 (x8 - 1))))], [vi (w32 (-(s 9 0 (Int.toNat (w32 (x8 - 1)))))), vi (w32 (x8 - 1)), vr 9 0], s)) else (if (s 9 0 (Int.toNat (w32 (x8 - 1)))) = 0 then (EV d mX5_ask (257, [vr 4 0, z1, z2, z3, z4, z5, z6, vr 6 j7, vi x8, vi x9, vi x10, vi (s 9 0 (Int.toNat (w32 (x8 - 1))))], [vi 1, vi (w32 (x8 - 1)), vr 9 0], s)) else (EV d mX5_ask (257, [vr 4 0, z1, z2, z3, z4, z5, z6, vr 6 j7, vi x8, vi x9, vi x10, vi (s 9 0 (Int.toNat (w32 (x8 - 1))))], [vi 0, vi (w32 (x8 - 1)), vr 9 0], s)))) else none) := x_st 211 dX5_ask_209 rfl (x_st 212 dX5_ask_211 rfl (x_br dX5_ask_212 (x_if (x_go 300 (rfl)) (x_go 215 (x_st 216 dX5_ask_215 rfl (x_st 219 dX5_ask_216 rfl (x_st 221 dX5_ask_219 rfl (x_st 222 dX5_ask_221 rfl (x_st 223 dX5_ask_222 rfl (x_br dX5_ask_223 (x_if (x_go 224 (x_so 226 [vr 4 0, z1, z2, z3, z4, z5, z6, vr 6 j7, vi x8, vi x9, vi x10, vi (s 9 0 (Int.toNat (w32 (x8 - 1))))] dX5_ask_224 rfl (x_st 227 dX5_ask_226 rfl (x_st 230 dX5_ask_227 rfl (x_st 232 dX5_ask_230 rfl (x_st 233 dX5_ask_232 rfl (x_st 234 dX5_ask_233 rfl (x_st 236 dX5_ask_234 rfl (x_st 238 dX5_ask_236 rfl (x_br dX5_ask_238 (x_if (x_go 241 (x_st 243 dX5_ask_241 rfl (x_st 244 dX5_ask_243 rfl (x_st 257 dX5_ask_244 rfl (rfl))))) (x_go 247 (x_st 249 dX5_ask_247 rfl (x_br dX5_ask_249 (x_if (x_go 252 (x_st 253 dX5_ask_252 rfl (x_st 257 dX5_ask_253 rfl (rfl)))) (x_go 256 (x_st 257 dX5_ask_256 rfl (rfl)))))))))))))))))) x_no)))))))))))
theorem qX5_ask_300 (d : Nat) (z1 : PV) (z2 : PV) (z3 : PV) (z4 : PV) (z5 : PV) (z6 : PV) (j7 : Nat) (x8 : Int) (x9 : Int) (z10 : PV) (z11 : PV) (s : Sg) : EV d mX5_ask (300, [vr 4 0, z1, z2, z3, z4, z5, z6, vr 6 j7, vi x8, vi x9, z10, z11], [], s) = EV d mX5_ask (116, [vr 4 0, z1, z2, z3, z4, z5, z6, vr 6 j7, vi x8, vi (w32 (x9 + 1)), z10, z11], [], s) := x_so 303 [vr 4 0, z1, z2, z3, z4, z5, z6, vr 6 j7, vi x8, vi (w32 (x9 + 1)), z10, z11] dX5_ask_300 rfl (x_st 116 dX5_ask_303 rfl (rfl))
theorem qX5_ask_191 (d : Nat) (z1 : PV) (z2 : PV) (z3 : PV) (z4 : PV) (z5 : PV) (z6 : PV) (j7 : Nat) (x8 : Int) (x9 : Int) (z10 : PV) (z11 : PV) (y0 : Int) (y1 : Int) (s : Sg) : EV d mX5_ask (191, [vr 4 0, z1, z2, z3, z4, z5, z6, vr 6 j7, vi x8, vi x9, z10, z11], [vi y0, vi y1, vr 9 0], s) = if inb y1 160 then (EV d mX5_ask (300, [vr 4 0, z1, z2, z3, z4, z5, z6, vr 6 j7, vi x8, vi x9, z10, z11], [], (up s 9 0 (Int.toNat y1) y0))) else none := x_br dX5_ask_191 (x_if (x_go 192 (x_st 300 dX5_ask_192 rfl (rfl))) x_no)
theorem qX5_ask_257 (d : Nat) (z1 : PV) (z2 : PV) (z3 : PV) (z4 : PV) (z5 : PV) (z6 : PV) (j7 : Nat) (x8 : Int) (x9 : Int) (z10 : PV) (z11 : PV) (y0 : Int) (y1 : Int) (s : Sg) : EV d mX5_ask (257, [vr 4 0, z1, z2, z3, z4, z5, z6, vr 6 j7, vi x8, vi x9, z10, z11], [vi y0, vi y1, vr 9 0], s) = if inb y1 160 then (EV d mX5_ask (300, [vr 4 0, z1, z2, z3, z4, z5, z6, vr 6 j7, vi x8, vi x9, z10, z11], [], (up s 9 0 (Int.toNat y1) y0))) else none := x_br dX5_ask_257 (x_if (x_go 258 (x_st 300 dX5_ask_258 rfl (rfl))) x_no)
theorem dX5_beginPart_0 : decode cX5_beginPart 0 = .ok (.aload_n 0, 1) := by decide +kernel
theorem dX5_beginPart_1 : decode cX5_beginPart 1 = .ok (.invokevirtual 40, 3) := by decide +kernel
theorem dX5_beginPart_4 : decode cX5_beginPart 4 = .ok (.ifCond .ne 27, 3) := by decide +kernel
theorem dX5_beginPart_7 : decode cX5_beginPart 7 = .ok (.iload_n 1, 1) := by decide +kernel
theorem dX5_beginPart_8 : decode cX5_beginPart 8 = .ok (.ifCond .lt 23, 3) := by decide +kernel
theorem dX5_beginPart_11 : decode cX5_beginPart 11 = .ok (.iload_n 1, 1) := by decide +kernel
theorem dX5_beginPart_12 : decode cX5_beginPart 12 = .ok (.iconst 3, 1) := by decide +kernel
theorem dX5_beginPart_13 : decode cX5_beginPart 13 = .ok (.if_icmp .ge 18, 3) := by decide +kernel
theorem dX5_beginPart_16 : decode cX5_beginPart 16 = .ok (.aload_n 0, 1) := by decide +kernel
theorem dX5_beginPart_17 : decode cX5_beginPart 17 = .ok (.getfield 16, 3) := by decide +kernel
theorem dX5_beginPart_20 : decode cX5_beginPart 20 = .ok (.aload_n 0, 1) := by decide +kernel
theorem dX5_beginPart_21 : decode cX5_beginPart 21 = .ok (.getfield 26, 3) := by decide +kernel
theorem dX5_beginPart_24 : decode cX5_beginPart 24 = .ok (.aaload, 1) := by decide +kernel
theorem dX5_beginPart_25 : decode cX5_beginPart 25 = .ok (.iload_n 1, 1) := by decide +kernel
theorem dX5_beginPart_26 : decode cX5_beginPart 26 = .ok (.aload_n 0, 1) := by decide +kernel
theorem dX5_beginPart_27 : decode cX5_beginPart 27 = .ok (.getfield 37, 3) := by decide +kernel
theorem dX5_beginPart_30 : decode cX5_beginPart 30 = .ok (.iastore, 1) := by decide +kernel
theorem dX5_beginPart_31 : decode cX5_beginPart 31 = .ok (.return_, 1) := by decide +kernel
theorem qX5_beginPart (d : Nat) (x1 : Int) (s : Sg) : RUN (d + 1) mX5_beginPart [vr 4 0, vi x1] s = bI (RUN d mX5_isFull [vr 4 0] s) (fun r1 s1 => if r1 = 0 then (if x1 < 0 then (some (none, s1)) else (if x1 < 3 then (if inb (s1 4 0 4) 6 then (if inb x1 3 then (some (none, (up s1 8 (Int.toNat (s1 4 0 4)) (Int.toNat x1) (s1 4 0 6)))) else none) else none) else (some (none, s1)))) else (some (none, s1))) := x_run rfl (x_st 1 dX5_beginPart_0 rfl (x_ci 4 [vr 4 0, vi x1] [] dX5_beginPart_1 rfl (fun r1 s1 => x_br dX5_beginPart_4 (x_if (x_go 7 (x_st 8 dX5_beginPart_7 rfl (x_br dX5_beginPart_8 (x_if (x_go 31 (x_ret dX5_beginPart_31 rfl)) (x_go 11 (x_st 12 dX5_beginPart_11 rfl (x_st 13 dX5_beginPart_12 rfl (x_br dX5_beginPart_13 (x_if (x_go 16 (x_st 17 dX5_beginPart_16 rfl (x_st 20 dX5_beginPart_17 rfl (x_st 21 dX5_beginPart_20 rfl (x_st 24 dX5_beginPart_21 rfl (x_br dX5_beginPart_24 (x_if (x_go 25 (x_st 26 dX5_beginPart_25 rfl (x_st 27 dX5_beginPart_26 rfl (x_st 30 dX5_beginPart_27 rfl (x_br dX5_beginPart_30 (x_if (x_go 31 (x_ret dX5_beginPart_31 rfl)) x_no)))))) x_no))))))) (x_go 31 (x_ret dX5_beginPart_31 rfl))))))))))) (x_go 31 (x_ret dX5_beginPart_31 rfl))))))
theorem dX5_write_0 : decode cX5_write 0 = .ok (.aload_n 0, 1) := by decide +kernel
theorem dX5_write_1 : decode cX5_write 1 = .ok (.invokevirtual 40, 3) := by decide +kernel
theorem dX5_write_4 : decode cX5_write 4 = .ok (.ifCond .ne 35, 3) := by decide +kernel
theorem dX5_write_7 : decode cX5_write 7 = .ok (.aload_n 0, 1) := by decide +kernel
theorem dX5_write_8 : decode cX5_write 8 = .ok (.getfield 37, 3) := by decide +kernel
theorem dX5_write_11 : decode cX5_write 11 = .ok (.sipush 160, 3) := by decide +kernel
theorem dX5_write_14 : decode cX5_write 14 = .ok (.if_icmp .ge 25, 3) := by decide +kernel
theorem dX5_write_17 : decode cX5_write 17 = .ok (.aload_n 0, 1) := by decide +kernel
theorem dX5_write_18 : decode cX5_write 18 = .ok (.getfield 11, 3) := by decide +kernel
theorem dX5_write_21 : decode cX5_write 21 = .ok (.aload_n 0, 1) := by decide +kernel
theorem dX5_write_22 : decode cX5_write 22 = .ok (.getfield 26, 3) := by decide +kernel
theorem dX5_write_25 : decode cX5_write 25 = .ok (.aaload, 1) := by decide +kernel
theorem dX5_write_26 : decode cX5_write 26 = .ok (.aload_n 0, 1) := by decide +kernel
theorem dX5_write_27 : decode cX5_write 27 = .ok (.dup, 1) := by decide +kernel
theorem dX5_write_28 : decode cX5_write 28 = .ok (.getfield 37, 3) := by decide +kernel
theorem dX5_write_31 : decode cX5_write 31 = .ok (.dup_x1, 1) := by decide +kernel
theorem dX5_write_32 : decode cX5_write 32 = .ok (.iconst 1, 1) := by decide +kernel
theorem dX5_write_33 : decode cX5_write 33 = .ok (.iadd, 1) := by decide +kernel
theorem dX5_write_34 : decode cX5_write 34 = .ok (.putfield 37, 3) := by decide +kernel
theorem dX5_write_37 : decode cX5_write 37 = .ok (.iload_n 1, 1) := by decide +kernel
theorem dX5_write_38 : decode cX5_write 38 = .ok (.iastore, 1) := by decide +kernel
theorem dX5_write_39 : decode cX5_write 39 = .ok (.return_, 1) := by decide +kernel
theorem qX5_write (d : Nat) (x1 : Int) (s : Sg) : RUN (d + 1) mX5_write [vr 4 0, vi x1] s = bI (RUN d mX5_isFull [vr 4 0] s) (fun r1 s1 => if r1 = 0 then (if (s1 4 0 6) < 160 then (if inb (s1 4 0 4) 6 then (if inb (s1 4 0 6) 160 then (some (none, (up (up s1 4 0 6 (w32 ((s1 4 0 6) + 1))) 6 (Int.toNat (s1 4 0 4)) (Int.toNat (s1 4 0 6)) x1))) else none) else none) else (some (none, s1))) else (some (none, s1))) := x_run rfl (x_st 1 dX5_write_0 rfl (x_ci 4 [vr 4 0, vi x1] [] dX5_write_1 rfl (fun r1 s1 => x_br dX5_write_4 (x_if (x_go 7 (x_st 8 dX5_write_7 rfl (x_st 11 dX5_write_8 rfl (x_st 14 dX5_write_11 rfl (x_br dX5_write_14 (x_if (x_go 17 (x_st 18 dX5_write_17 rfl (x_st 21 dX5_write_18 rfl (x_st 22 dX5_write_21 rfl (x_st 25 dX5_write_22 rfl (x_br dX5_write_25 (x_if (x_go 26 (x_st 27 dX5_write_26 rfl (x_st 28 dX5_write_27 rfl (x_st 31 dX5_write_28 rfl (x_st 32 dX5_write_31 rfl (x_st 33 dX5_write_32 rfl (x_st 34 dX5_write_33 rfl (x_st 37 dX5_write_34 rfl (x_st 38 dX5_write_37 rfl (x_br dX5_write_38 (x_if (x_go 39 (x_ret dX5_write_39 rfl)) x_no))))))))))) x_no))))))) (x_go 39 (x_ret dX5_write_39 rfl)))))))) (x_go 39 (x_ret dX5_write_39 rfl))))))
theorem dX5_joined_0 : decode cX5_joined 0 = .ok (.iload_n 0, 1) := by decide +kernel
theorem dX5_joined_1 : decode cX5_joined 1 = .ok (.tableswitch 101 (-13) (-7) #[97, 93, 82, 71, 101, 57, 43], 43) := by decide +kernel
theorem dX5_joined_44 : decode cX5_joined 44 = .ok (.iload_n 1, 1) := by decide +kernel
theorem dX5_joined_45 : decode cX5_joined 45 = .ok (.ifCond .ne 7, 3) := by decide +kernel
theorem dX5_joined_48 : decode cX5_joined 48 = .ok (.iload_n 2, 1) := by decide +kernel
theorem dX5_joined_49 : decode cX5_joined 49 = .ok (.ifCond .eq 7, 3) := by decide +kernel
theorem dX5_joined_52 : decode cX5_joined 52 = .ok (.iconst 1, 1) := by decide +kernel
theorem dX5_joined_53 : decode cX5_joined 53 = .ok (.goto 4, 3) := by decide +kernel
theorem dX5_joined_56 : decode cX5_joined 56 = .ok (.iconst 0, 1) := by decide +kernel
theorem dX5_joined_57 : decode cX5_joined 57 = .ok (.ireturn, 1) := by decide +kernel
theorem dX5_joined_58 : decode cX5_joined 58 = .ok (.iload_n 1, 1) := by decide +kernel
theorem dX5_joined_59 : decode cX5_joined 59 = .ok (.ifCond .eq 11, 3) := by decide +kernel
theorem dX5_joined_62 : decode cX5_joined 62 = .ok (.iload_n 2, 1) := by decide +kernel
theorem dX5_joined_63 : decode cX5_joined 63 = .ok (.ifCond .eq 7, 3) := by decide +kernel
theorem dX5_joined_66 : decode cX5_joined 66 = .ok (.iconst 1, 1) := by decide +kernel
theorem dX5_joined_67 : decode cX5_joined 67 = .ok (.goto 4, 3) := by decide +kernel
theorem dX5_joined_70 : decode cX5_joined 70 = .ok (.iconst 0, 1) := by decide +kernel
theorem dX5_joined_71 : decode cX5_joined 71 = .ok (.ireturn, 1) := by decide +kernel
theorem dX5_joined_72 : decode cX5_joined 72 = .ok (.iload_n 1, 1) := by decide +kernel
theorem dX5_joined_73 : decode cX5_joined 73 = .ok (.iload_n 2, 1) := by decide +kernel
theorem dX5_joined_74 : decode cX5_joined 74 = .ok (.if_icmp .ge 7, 3) := by decide +kernel
theorem dX5_joined_77 : decode cX5_joined 77 = .ok (.iconst 1, 1) := by decide +kernel
theorem dX5_joined_78 : decode cX5_joined 78 = .ok (.goto 4, 3) := by decide +kernel
theorem dX5_joined_81 : decode cX5_joined 81 = .ok (.iconst 0, 1) := by decide +kernel
theorem dX5_joined_82 : decode cX5_joined 82 = .ok (.ireturn, 1) := by decide +kernel
theorem dX5_joined_83 : decode cX5_joined 83 = .ok (.iload_n 1, 1) := by decide +kernel
theorem dX5_joined_84 : decode cX5_joined 84 = .ok (.iload_n 2, 1) := by decide +kernel
theorem dX5_joined_85 : decode cX5_joined 85 = .ok (.if_icmp .ne 7, 3) := by decide +kernel
theorem dX5_joined_88 : decode cX5_joined 88 = .ok (.iconst 1, 1) := by decide +kernel
theorem dX5_joined_89 : decode cX5_joined 89 = .ok (.goto 4, 3) := by decide +kernel
theorem dX5_joined_92 : decode cX5_joined 92 = .ok (.iconst 0, 1) := by decide +kernel
theorem dX5_joined_93 : decode cX5_joined 93 = .ok (.ireturn, 1) := by decide +kernel
theorem dX5_joined_94 : decode cX5_joined 94 = .ok (.iload_n 1, 1) := by decide +kernel
theorem dX5_joined_95 : decode cX5_joined 95 = .ok (.iload_n 2, 1) := by decide +kernel
theorem dX5_joined_96 : decode cX5_joined 96 = .ok (.iadd, 1) := by decide +kernel
theorem dX5_joined_97 : decode cX5_joined 97 = .ok (.ireturn, 1) := by decide +kernel
theorem dX5_joined_98 : decode cX5_joined 98 = .ok (.iload_n 1, 1) := by decide +kernel
theorem dX5_joined_99 : decode cX5_joined 99 = .ok (.iload_n 2, 1) := by decide +kernel
theorem dX5_joined_100 : decode cX5_joined 100 = .ok (.isub, 1) := by decide +kernel
theorem dX5_joined_101 : decode cX5_joined 101 = .ok (.ireturn, 1) := by decide +kernel
theorem dX5_joined_102 : decode cX5_joined 102 = .ok (.iload_n 1, 1) := by decide +kernel
theorem dX5_joined_103 : decode cX5_joined 103 = .ok (.iload_n 2, 1) := by decide +kernel
theorem dX5_joined_104 : decode cX5_joined 104 = .ok (.imul, 1) := by decide +kernel
theorem dX5_joined_105 : decode cX5_joined 105 = .ok (.ireturn, 1) := by decide +kernel
theorem qX5_joined (d : Nat) (x0 : Int) (x1 : Int) (x2 : Int) (s : Sg) : RUN d mX5_joined [vi x0, vi x1, vi x2] s = if x0 = (-13) then (some (some (vi (w32 (x1 - x2))), s)) else if x0 = (-12) then (some (some (vi (w32 (x1 + x2))), s)) else if x0 = (-11) then (if x1 = x2 then (some (some (vi 1), s)) else (some (some (vi 0), s))) else if x0 = (-10) then (if x1 < x2 then (some (some (vi 1), s)) else (some (some (vi 0), s))) else if x0 = (-9) then (some (some (vi (w32 (x1 * x2))), s)) else if x0 = (-8) then (if x1 = 0 then (some (some (vi 0), s)) else (if x2 = 0 then (some (some (vi 0), s)) else (some (some (vi 1), s)))) else if x0 = (-7) then (if x1 = 0 then (if x2 = 0 then (some (some (vi 0), s)) else (some (some (vi 1), s))) else (some (some (vi 1), s))) else (some (some (vi (w32 (x1 * x2))), s)) := x_run rfl (x_st 1 dX5_joined_0 rfl (x_br dX5_joined_1 (x_if (x_go 98 (x_st 99 dX5_joined_98 rfl (x_st 100 dX5_joined_99 rfl (x_st 101 dX5_joined_100 rfl (x_ret dX5_joined_101 rfl))))) (x_if (x_go 94 (x_st 95 dX5_joined_94 rfl (x_st 96 dX5_joined_95 rfl (x_st 97 dX5_joined_96 rfl (x_ret dX5_joined_97 rfl))))) (x_if (x_go 83 (x_st 84 dX5_joined_83 rfl (x_st 85 dX5_joined_84 rfl (x_br dX5_joined_85 (x_if (x_go 88 (x_st 89 dX5_joined_88 rfl (x_st 93 dX5_joined_89 rfl (x_ret dX5_joined_93 rfl)))) (x_go 92 (x_st 93 dX5_joined_92 rfl (x_ret dX5_joined_93 rfl)))))))) (x_if (x_go 72 (x_st 73 dX5_joined_72 rfl (x_st 74 dX5_joined_73 rfl (x_br dX5_joined_74 (x_if (x_go 77 (x_st 78 dX5_joined_77 rfl (x_st 82 dX5_joined_78 rfl (x_ret dX5_joined_82 rfl)))) (x_go 81 (x_st 82 dX5_joined_81 rfl (x_ret dX5_joined_82 rfl)))))))) (x_if (x_go 102 (x_st 103 dX5_joined_102 rfl (x_st 104 dX5_joined_103 rfl (x_st 105 dX5_joined_104 rfl (x_ret dX5_joined_105 rfl))))) (x_if (x_go 58 (x_st 59 dX5_joined_58 rfl (x_br dX5_joined_59 (x_if (x_go 70 (x_st 71 dX5_joined_70 rfl (x_ret dX5_joined_71 rfl))) (x_go 62 (x_st 63 dX5_joined_62 rfl (x_br dX5_joined_63 (x_if (x_go 70 (x_st 71 dX5_joined_70 rfl (x_ret dX5_joined_71 rfl))) (x_go 66 (x_st 67 dX5_joined_66 rfl (x_st 71 dX5_joined_67 rfl (x_ret dX5_joined_71 rfl)))))))))))) (x_if (x_go 44 (x_st 45 dX5_joined_44 rfl (x_br dX5_joined_45 (x_if (x_go 48 (x_st 49 dX5_joined_48 rfl (x_br dX5_joined_49 (x_if (x_go 56 (x_st 57 dX5_joined_56 rfl (x_ret dX5_joined_57 rfl))) (x_go 52 (x_st 53 dX5_joined_52 rfl (x_st 57 dX5_joined_53 rfl (x_ret dX5_joined_57 rfl)))))))) (x_go 52 (x_st 53 dX5_joined_52 rfl (x_st 57 dX5_joined_53 rfl (x_ret dX5_joined_57 rfl)))))))) (x_go 102 (x_st 103 dX5_joined_102 rfl (x_st 104 dX5_joined_103 rfl (x_st 105 dX5_joined_104 rfl (x_ret dX5_joined_105 rfl))))))))))))))
