theorem dJ3_checkIndex_8e157_0 : decode cJ3_checkIndex_8e157 0 = .ok (.iload_n 0, 1) := by decide +kernel
theorem dJ3_checkIndex_8e157_1 : decode cJ3_checkIndex_8e157 1 = .ok (.ifCond .lt 8, 3) := by decide +kernel
theorem dJ3_checkIndex_8e157_4 : decode cJ3_checkIndex_8e157 4 = .ok (.iload_n 0, 1) := by decide +kernel
theorem dJ3_checkIndex_8e157_5 : decode cJ3_checkIndex_8e157 5 = .ok (.iload_n 1, 1) := by decide +kernel
theorem dJ3_checkIndex_8e157_6 : decode cJ3_checkIndex_8e157 6 = .ok (.if_icmp .lt 10, 3) := by decide +kernel
theorem dJ3_checkIndex_8e157_9 : decode cJ3_checkIndex_8e157 9 = .ok (.aload_n 2, 1) := by decide +kernel
theorem dJ3_checkIndex_8e157_16 : decode cJ3_checkIndex_8e157 16 = .ok (.iload_n 0, 1) := by decide +kernel
theorem dJ3_checkIndex_8e157_17 : decode cJ3_checkIndex_8e157 17 = .ok (.ireturn, 1) := by decide +kernel
theorem qJ3_checkIndex_8e157 (d : Nat) (x0 : Int) (x1 : Int) (s : Sg) : RUN d mJ3_checkIndex_8e157 [vi x0, vi x1, vr 61 0] s = if x0 < 0 then (EV d mJ3_checkIndex_8e157 (9, [vi x0, vi x1, vr 61 0], [], s)) else (if x0 < x1 then (some (some (vi x0), s)) else (EV d mJ3_checkIndex_8e157 (9, [vi x0, vi x1, vr 61 0], [], s))) := x_run rfl (x_st 1 dJ3_checkIndex_8e157_0 rfl (x_br dJ3_checkIndex_8e157_1 (x_if (x_go 9 (rfl)) (x_go 4 (x_st 5 dJ3_checkIndex_8e157_4 rfl (x_st 6 dJ3_checkIndex_8e157_5 rfl (x_br dJ3_checkIndex_8e157_6 (x_if (x_go 16 (x_st 17 dJ3_checkIndex_8e157_16 rfl (x_ret dJ3_checkIndex_8e157_17 rfl))) (x_go 9 (rfl))))))))))
theorem qJ3_checkIndex_8e157_9 (d : Nat) (x0 : Int) (x1 : Int) (s : Sg) : EV d mJ3_checkIndex_8e157 (9, [vi x0, vi x1, vr 61 0], [], s) = none := x_br dJ3_checkIndex_8e157_9 x_no
theorem dJ1_charAt_3b067_0 : decode cJ1_charAt_3b067 0 = .ok (.iload_n 1, 1) := by decide +kernel
theorem dJ1_charAt_3b067_1 : decode cJ1_charAt_3b067 1 = .ok (.aload_n 0, 1) := by decide +kernel
theorem dJ1_charAt_3b067_2 : decode cJ1_charAt_3b067 2 = .ok (.arraylength, 1) := by decide +kernel
theorem dJ1_charAt_3b067_3 : decode cJ1_charAt_3b067 3 = .ok (.invokestatic 9, 3) := by decide +kernel
theorem dJ1_charAt_3b067_6 : decode cJ1_charAt_3b067 6 = .ok (.aload_n 0, 1) := by decide +kernel
theorem dJ1_charAt_3b067_7 : decode cJ1_charAt_3b067 7 = .ok (.iload_n 1, 1) := by decide +kernel
theorem dJ1_charAt_3b067_8 : decode cJ1_charAt_3b067 8 = .ok (.baload, 1) := by decide +kernel
theorem dJ1_charAt_3b067_9 : decode cJ1_charAt_3b067 9 = .ok (.sipush 255, 3) := by decide +kernel
theorem dJ1_charAt_3b067_12 : decode cJ1_charAt_3b067 12 = .ok (.iand, 1) := by decide +kernel
theorem dJ1_charAt_3b067_13 : decode cJ1_charAt_3b067 13 = .ok (.i2c, 1) := by decide +kernel
theorem dJ1_charAt_3b067_14 : decode cJ1_charAt_3b067 14 = .ok (.ireturn, 1) := by decide +kernel
theorem qJ1_charAt_3b067 (d : Nat) (x1 : Int) (s : Sg) : RUN (d + 1) mJ1_charAt_3b067 [vr 58 0, vi x1] s = bV (RUN d mJ0_checkIndex_df160 [vi x1, vi 32] s) (fun s1 => if inb x1 32 then (if 0 ≤ (wi2c (wand (sv 58 (Int.toNat x1)) 255)) ∧ (wi2c (wand (sv 58 (Int.toNat x1)) 255)) ≤ 65535 then some (some (vi (wi2c (wand (sv 58 (Int.toNat x1)) 255))), s1) else none) else none) := x_run rfl (x_st 1 dJ1_charAt_3b067_0 rfl (x_st 2 dJ1_charAt_3b067_1 rfl (x_st 3 dJ1_charAt_3b067_2 rfl (x_cv 6 [vr 58 0, vi x1] [] dJ1_charAt_3b067_3 rfl (fun s1 => x_st 7 dJ1_charAt_3b067_6 rfl (x_st 8 dJ1_charAt_3b067_7 rfl (x_br dJ1_charAt_3b067_8 (x_if (x_go 9 (x_st 12 dJ1_charAt_3b067_9 rfl (x_st 13 dJ1_charAt_3b067_12 rfl (x_st 14 dJ1_charAt_3b067_13 rfl (x_br dJ1_charAt_3b067_14 x_rg))))) x_no))))))))
theorem qJ1_charAt_3b067v (d : Nat) (x1 : Int) (s : Sg) : RUN (d + 1) mJ1_charAt_3b067 [vr 59 0, vi x1] s = bV (RUN d mJ0_checkIndex_df160 [vi x1, vi 65] s) (fun s1 => if inb x1 65 then (if 0 ≤ (wi2c (wand (sv 59 (Int.toNat x1)) 255)) ∧ (wi2c (wand (sv 59 (Int.toNat x1)) 255)) ≤ 65535 then some (some (vi (wi2c (wand (sv 59 (Int.toNat x1)) 255))), s1) else none) else none) := x_run rfl (x_st 1 dJ1_charAt_3b067_0 rfl (x_st 2 dJ1_charAt_3b067_1 rfl (x_st 3 dJ1_charAt_3b067_2 rfl (x_cv 6 [vr 59 0, vi x1] [] dJ1_charAt_3b067_3 rfl (fun s1 => x_st 7 dJ1_charAt_3b067_6 rfl (x_st 8 dJ1_charAt_3b067_7 rfl (x_br dJ1_charAt_3b067_8 (x_if (x_go 9 (x_st 12 dJ1_charAt_3b067_9 rfl (x_st 13 dJ1_charAt_3b067_12 rfl (x_st 14 dJ1_charAt_3b067_13 rfl (x_br dJ1_charAt_3b067_14 x_rg))))) x_no))))))))
theorem dJ1_indexOf_4cfef_0 : decode cJ1_indexOf_4cfef 0 = .ok (.iload_n 1, 1) := by decide +kernel
theorem dJ1_indexOf_4cfef_1 : decode cJ1_indexOf_4cfef 1 = .ok (.invokestatic 88, 3) := by decide +kernel
theorem dJ1_indexOf_4cfef_4 : decode cJ1_indexOf_4cfef 4 = .ok (.ifCond .ne 5, 3) := by decide +kernel
theorem dJ1_indexOf_4cfef_7 : decode cJ1_indexOf_4cfef 7 = .ok (.iconst (-1), 1) := by decide +kernel
theorem dJ1_indexOf_4cfef_8 : decode cJ1_indexOf_4cfef 8 = .ok (.ireturn, 1) := by decide +kernel
theorem dJ1_indexOf_4cfef_9 : decode cJ1_indexOf_4cfef 9 = .ok (.iload_n 2, 1) := by decide +kernel
theorem dJ1_indexOf_4cfef_10 : decode cJ1_indexOf_4cfef 10 = .ok (.iconst 0, 1) := by decide +kernel
theorem dJ1_indexOf_4cfef_11 : decode cJ1_indexOf_4cfef 11 = .ok (.invokestatic 92, 3) := by decide +kernel
theorem dJ1_indexOf_4cfef_14 : decode cJ1_indexOf_4cfef 14 = .ok (.istore_n 2, 1) := by decide +kernel
theorem dJ1_indexOf_4cfef_15 : decode cJ1_indexOf_4cfef 15 = .ok (.iload_n 3, 1) := by decide +kernel
theorem dJ1_indexOf_4cfef_16 : decode cJ1_indexOf_4cfef 16 = .ok (.aload_n 0, 1) := by decide +kernel
theorem dJ1_indexOf_4cfef_17 : decode cJ1_indexOf_4cfef 17 = .ok (.arraylength, 1) := by decide +kernel
theorem dJ1_indexOf_4cfef_18 : decode cJ1_indexOf_4cfef 18 = .ok (.invokestatic 38, 3) := by decide +kernel
theorem dJ1_indexOf_4cfef_21 : decode cJ1_indexOf_4cfef 21 = .ok (.istore_n 3, 1) := by decide +kernel
theorem dJ1_indexOf_4cfef_22 : decode cJ1_indexOf_4cfef 22 = .ok (.iload_n 2, 1) := by decide +kernel
theorem dJ1_indexOf_4cfef_23 : decode cJ1_indexOf_4cfef 23 = .ok (.iload_n 3, 1) := by decide +kernel
theorem dJ1_indexOf_4cfef_24 : decode cJ1_indexOf_4cfef 24 = .ok (.if_icmp .lt 5, 3) := by decide +kernel
theorem dJ1_indexOf_4cfef_27 : decode cJ1_indexOf_4cfef 27 = .ok (.iconst (-1), 1) := by decide +kernel
theorem dJ1_indexOf_4cfef_28 : decode cJ1_indexOf_4cfef 28 = .ok (.ireturn, 1) := by decide +kernel
theorem dJ1_indexOf_4cfef_29 : decode cJ1_indexOf_4cfef 29 = .ok (.aload_n 0, 1) := by decide +kernel
theorem dJ1_indexOf_4cfef_30 : decode cJ1_indexOf_4cfef 30 = .ok (.iload_n 1, 1) := by decide +kernel
theorem dJ1_indexOf_4cfef_31 : decode cJ1_indexOf_4cfef 31 = .ok (.iload_n 2, 1) := by decide +kernel
theorem dJ1_indexOf_4cfef_32 : decode cJ1_indexOf_4cfef 32 = .ok (.iload_n 3, 1) := by decide +kernel
theorem dJ1_indexOf_4cfef_33 : decode cJ1_indexOf_4cfef 33 = .ok (.invokestatic 95, 3) := by decide +kernel
theorem dJ1_indexOf_4cfef_36 : decode cJ1_indexOf_4cfef 36 = .ok (.ireturn, 1) := by decide +kernel
theorem qJ1_indexOf_4cfef (d : Nat) (x1 : Int) (x2 : Int) (x3 : Int) (s : Sg) : RUN (d + 1) mJ1_indexOf_4cfef [vr 60 0, vi x1, vi x2, vi x3] s = bI (RUN d mJ1_canEncode_9a6ad [vi x1] s) (fun r1 s1 => if r1 = 0 then (some (some (vi (-1)), s1)) else (if (wmax x2 0) < (wmin x3 8) then (bI (RUN d mJ1_indexOfChar_4cfef [vr 60 0, vi x1, vi (wmax x2 0), vi (wmin x3 8)] s1) (fun r2 s2 => some (some (vi r2), s2))) else (some (some (vi (-1)), s1)))) := x_run rfl (x_st 1 dJ1_indexOf_4cfef_0 rfl (x_ci 4 [vr 60 0, vi x1, vi x2, vi x3] [] dJ1_indexOf_4cfef_1 rfl (fun r1 s1 => x_br dJ1_indexOf_4cfef_4 (x_if (x_go 7 (x_st 8 dJ1_indexOf_4cfef_7 rfl (x_ret dJ1_indexOf_4cfef_8 rfl))) (x_go 9 (x_st 10 dJ1_indexOf_4cfef_9 rfl (x_st 11 dJ1_indexOf_4cfef_10 rfl (x_st 14 dJ1_indexOf_4cfef_11 rfl (x_so 15 [vr 60 0, vi x1, vi (wmax x2 0), vi x3] dJ1_indexOf_4cfef_14 rfl (x_st 16 dJ1_indexOf_4cfef_15 rfl (x_st 17 dJ1_indexOf_4cfef_16 rfl (x_st 18 dJ1_indexOf_4cfef_17 rfl (x_st 21 dJ1_indexOf_4cfef_18 rfl (x_so 22 [vr 60 0, vi x1, vi (wmax x2 0), vi (wmin x3 8)] dJ1_indexOf_4cfef_21 rfl (x_st 23 dJ1_indexOf_4cfef_22 rfl (x_st 24 dJ1_indexOf_4cfef_23 rfl (x_br dJ1_indexOf_4cfef_24 (x_if (x_go 29 (x_st 30 dJ1_indexOf_4cfef_29 rfl (x_st 31 dJ1_indexOf_4cfef_30 rfl (x_st 32 dJ1_indexOf_4cfef_31 rfl (x_st 33 dJ1_indexOf_4cfef_32 rfl (x_ci 36 [vr 60 0, vi x1, vi (wmax x2 0), vi (wmin x3 8)] [] dJ1_indexOf_4cfef_33 rfl (fun r2 s2 => x_ret dJ1_indexOf_4cfef_36 rfl))))))) (x_go 27 (x_st 28 dJ1_indexOf_4cfef_27 rfl (x_ret dJ1_indexOf_4cfef_28 rfl)))))))))))))))))))))
theorem dJ1_canEncode_9a6ad_0 : decode cJ1_canEncode_9a6ad 0 = .ok (.iload_n 0, 1) := by decide +kernel
theorem dJ1_canEncode_9a6ad_1 : decode cJ1_canEncode_9a6ad 1 = .ok (.ifCond .lt 14, 3) := by decide +kernel
theorem dJ1_canEncode_9a6ad_4 : decode cJ1_canEncode_9a6ad 4 = .ok (.iload_n 0, 1) := by decide +kernel
theorem dJ1_canEncode_9a6ad_5 : decode cJ1_canEncode_9a6ad 5 = .ok (.sipush 255, 3) := by decide +kernel
theorem dJ1_canEncode_9a6ad_8 : decode cJ1_canEncode_9a6ad 8 = .ok (.if_icmp .gt 7, 3) := by decide +kernel
theorem dJ1_canEncode_9a6ad_11 : decode cJ1_canEncode_9a6ad 11 = .ok (.iconst 1, 1) := by decide +kernel
theorem dJ1_canEncode_9a6ad_12 : decode cJ1_canEncode_9a6ad 12 = .ok (.goto 4, 3) := by decide +kernel
theorem dJ1_canEncode_9a6ad_15 : decode cJ1_canEncode_9a6ad 15 = .ok (.iconst 0, 1) := by decide +kernel
theorem dJ1_canEncode_9a6ad_16 : decode cJ1_canEncode_9a6ad 16 = .ok (.ireturn, 1) := by decide +kernel
theorem qJ1_canEncode_9a6ad (d : Nat) (x0 : Int) (s : Sg) : RUN d mJ1_canEncode_9a6ad [vi x0] s = if x0 < 0 then (some (some (vi 0), s)) else (if 255 < x0 then (some (some (vi 0), s)) else (some (some (vi 1), s))) := x_run rfl (x_st 1 dJ1_canEncode_9a6ad_0 rfl (x_br dJ1_canEncode_9a6ad_1 (x_if (x_go 15 (x_st 16 dJ1_canEncode_9a6ad_15 rfl (x_ret dJ1_canEncode_9a6ad_16 rfl))) (x_go 4 (x_st 5 dJ1_canEncode_9a6ad_4 rfl (x_st 8 dJ1_canEncode_9a6ad_5 rfl (x_br dJ1_canEncode_9a6ad_8 (x_if (x_go 15 (x_st 16 dJ1_canEncode_9a6ad_15 rfl (x_ret dJ1_canEncode_9a6ad_16 rfl))) (x_go 11 (x_st 12 dJ1_canEncode_9a6ad_11 rfl (x_st 16 dJ1_canEncode_9a6ad_12 rfl (x_ret dJ1_canEncode_9a6ad_16 rfl))))))))))))
theorem dJ1_indexOfChar_4cfef_0 : decode cJ1_indexOfChar_4cfef 0 = .ok (.iload_n 1, 1) := by decide +kernel
theorem dJ1_indexOfChar_4cfef_1 : decode cJ1_indexOfChar_4cfef 1 = .ok (.i2b, 1) := by decide +kernel
theorem dJ1_indexOfChar_4cfef_2 : decode cJ1_indexOfChar_4cfef 2 = .ok (.istore 4, 2) := by decide +kernel
theorem dJ1_indexOfChar_4cfef_4 : decode cJ1_indexOfChar_4cfef 4 = .ok (.iload_n 2, 1) := by decide +kernel
theorem dJ1_indexOfChar_4cfef_5 : decode cJ1_indexOfChar_4cfef 5 = .ok (.istore 5, 2) := by decide +kernel
theorem dJ1_indexOfChar_4cfef_7 : decode cJ1_indexOfChar_4cfef 7 = .ok (.iload 5, 2) := by decide +kernel
theorem dJ1_indexOfChar_4cfef_9 : decode cJ1_indexOfChar_4cfef 9 = .ok (.iload_n 3, 1) := by decide +kernel
theorem dJ1_indexOfChar_4cfef_10 : decode cJ1_indexOfChar_4cfef 10 = .ok (.if_icmp .ge 21, 3) := by decide +kernel
theorem dJ1_indexOfChar_4cfef_13 : decode cJ1_indexOfChar_4cfef 13 = .ok (.aload_n 0, 1) := by decide +kernel
theorem dJ1_indexOfChar_4cfef_14 : decode cJ1_indexOfChar_4cfef 14 = .ok (.iload 5, 2) := by decide +kernel
theorem dJ1_indexOfChar_4cfef_16 : decode cJ1_indexOfChar_4cfef 16 = .ok (.baload, 1) := by decide +kernel
theorem dJ1_indexOfChar_4cfef_17 : decode cJ1_indexOfChar_4cfef 17 = .ok (.iload 4, 2) := by decide +kernel
theorem dJ1_indexOfChar_4cfef_19 : decode cJ1_indexOfChar_4cfef 19 = .ok (.if_icmp .ne 6, 3) := by decide +kernel
theorem dJ1_indexOfChar_4cfef_22 : decode cJ1_indexOfChar_4cfef 22 = .ok (.iload 5, 2) := by decide +kernel
theorem dJ1_indexOfChar_4cfef_24 : decode cJ1_indexOfChar_4cfef 24 = .ok (.ireturn, 1) := by decide +kernel
theorem dJ1_indexOfChar_4cfef_25 : decode cJ1_indexOfChar_4cfef 25 = .ok (.iinc 5 1, 3) := by decide +kernel
theorem dJ1_indexOfChar_4cfef_28 : decode cJ1_indexOfChar_4cfef 28 = .ok (.goto (-21), 3) := by decide +kernel
theorem dJ1_indexOfChar_4cfef_31 : decode cJ1_indexOfChar_4cfef 31 = .ok (.iconst (-1), 1) := by decide +kernel
theorem dJ1_indexOfChar_4cfef_32 : decode cJ1_indexOfChar_4cfef 32 = .ok (.ireturn, 1) := by decide +kernel
theorem qJ1_indexOfChar_4cfef (d : Nat) (x1 : Int) (x2 : Int) (x3 : Int) (s : Sg) : RUN d mJ1_indexOfChar_4cfef [vr 60 0, vi x1, vi x2, vi x3] s = EV d mJ1_indexOfChar_4cfef (7, [vr 60 0, vi x1, vi x2, vi x3, vi (wi2b x1), vi x2], [], s) := x_run rfl (x_st 1 dJ1_indexOfChar_4cfef_0 rfl (x_st 2 dJ1_indexOfChar_4cfef_1 rfl (x_so 4 [vr 60 0, vi x1, vi x2, vi x3, vi (wi2b x1), UU] dJ1_indexOfChar_4cfef_2 rfl (x_st 5 dJ1_indexOfChar_4cfef_4 rfl (x_so 7 [vr 60 0, vi x1, vi x2, vi x3, vi (wi2b x1), vi x2] dJ1_indexOfChar_4cfef_5 rfl (rfl))))))
theorem qJ1_indexOfChar_4cfef_7 (d : Nat) (z1 : PV) (z2 : PV) (x3 : Int) (x4 : Int) (x5 : Int) (s : Sg) : EV d mJ1_indexOfChar_4cfef (7, [vr 60 0, z1, z2, vi x3, vi x4, vi x5], [], s) = if x5 < x3 then (if inb x5 8 then (if (sv 60 (Int.toNat x5)) = x4 then (some (some (vi x5), s)) else (EV d mJ1_indexOfChar_4cfef (7, [vr 60 0, z1, z2, vi x3, vi x4, vi (w32 (x5 + 1))], [], s))) else none) else (some (some (vi (-1)), s)) := x_st 9 dJ1_indexOfChar_4cfef_7 rfl (x_st 10 dJ1_indexOfChar_4cfef_9 rfl (x_br dJ1_indexOfChar_4cfef_10 (x_if (x_go 13 (x_st 14 dJ1_indexOfChar_4cfef_13 rfl (x_st 16 dJ1_indexOfChar_4cfef_14 rfl (x_br dJ1_indexOfChar_4cfef_16 (x_if (x_go 17 (x_st 19 dJ1_indexOfChar_4cfef_17 rfl (x_br dJ1_indexOfChar_4cfef_19 (x_if (x_go 22 (x_st 24 dJ1_indexOfChar_4cfef_22 rfl (x_ret dJ1_indexOfChar_4cfef_24 rfl))) (x_go 25 (x_so 28 [vr 60 0, z1, z2, vi x3, vi x4, vi (w32 (x5 + 1))] dJ1_indexOfChar_4cfef_25 rfl (x_st 7 dJ1_indexOfChar_4cfef_28 rfl (rfl)))))))) x_no))))) (x_go 31 (x_st 32 dJ1_indexOfChar_4cfef_31 rfl (x_ret dJ1_indexOfChar_4cfef_32 rfl))))))
theorem dJ0_length_8abf5_0 : decode cJ0_length_8abf5 0 = .ok (.aload_n 0, 1) := by decide +kernel
theorem dJ0_length_8abf5_1 : decode cJ0_length_8abf5 1 = .ok (.getfield 9, 3) := by decide +kernel
theorem dJ0_length_8abf5_4 : decode cJ0_length_8abf5 4 = .ok (.arraylength, 1) := by decide +kernel
theorem dJ0_length_8abf5_5 : decode cJ0_length_8abf5 5 = .ok (.aload_n 0, 1) := by decide +kernel
theorem dJ0_length_8abf5_6 : decode cJ0_length_8abf5 6 = .ok (.invokevirtual 335, 3) := by decide +kernel
theorem dJ0_length_8abf5_9 : decode cJ0_length_8abf5 9 = .ok (.ishr, 1) := by decide +kernel
theorem dJ0_length_8abf5_10 : decode cJ0_length_8abf5 10 = .ok (.ireturn, 1) := by decide +kernel
theorem qJ0_length_8abf5 (d : Nat) (s : Sg) : RUN (d + 1) mJ0_length_8abf5 [vr 55 0] s = bI (RUN d mJ0_coder_7d493 [vr 55 0] s) (fun r1 s1 => some (some (vi (wshr 32 r1)), s1)) := x_run rfl (x_st 1 dJ0_length_8abf5_0 rfl (x_st 4 dJ0_length_8abf5_1 rfl (x_st 5 dJ0_length_8abf5_4 rfl (x_st 6 dJ0_length_8abf5_5 rfl (x_ci 9 [vr 55 0] [vi 32] dJ0_length_8abf5_6 rfl (fun r1 s1 => x_st 10 dJ0_length_8abf5_9 rfl (x_ret dJ0_length_8abf5_10 rfl)))))))
theorem qJ0_length_8abf5v (d : Nat) (s : Sg) : RUN (d + 1) mJ0_length_8abf5 [vr 57 0] s = bI (RUN d mJ0_coder_7d493 [vr 57 0] s) (fun r1 s1 => some (some (vi (wshr 8 r1)), s1)) := x_run rfl (x_st 1 dJ0_length_8abf5_0 rfl (x_st 4 dJ0_length_8abf5_1 rfl (x_st 5 dJ0_length_8abf5_4 rfl (x_st 6 dJ0_length_8abf5_5 rfl (x_ci 9 [vr 57 0] [vi 8] dJ0_length_8abf5_6 rfl (fun r1 s1 => x_st 10 dJ0_length_8abf5_9 rfl (x_ret dJ0_length_8abf5_10 rfl)))))))
theorem qJ0_length_8abf5vv (d : Nat) (s : Sg) : RUN (d + 1) mJ0_length_8abf5 [vr 56 0] s = bI (RUN d mJ0_coder_7d493 [vr 56 0] s) (fun r1 s1 => some (some (vi (wshr 65 r1)), s1)) := x_run rfl (x_st 1 dJ0_length_8abf5_0 rfl (x_st 4 dJ0_length_8abf5_1 rfl (x_st 5 dJ0_length_8abf5_4 rfl (x_st 6 dJ0_length_8abf5_5 rfl (x_ci 9 [vr 56 0] [vi 65] dJ0_length_8abf5_6 rfl (fun r1 s1 => x_st 10 dJ0_length_8abf5_9 rfl (x_ret dJ0_length_8abf5_10 rfl)))))))
theorem dJ0_charAt_5068e_0 : decode cJ0_charAt_5068e 0 = .ok (.aload_n 0, 1) := by decide +kernel
theorem dJ0_charAt_5068e_1 : decode cJ0_charAt_5068e 1 = .ok (.invokevirtual 492, 3) := by decide +kernel
theorem dJ0_charAt_5068e_4 : decode cJ0_charAt_5068e 4 = .ok (.ifCond .eq 12, 3) := by decide +kernel
theorem dJ0_charAt_5068e_7 : decode cJ0_charAt_5068e 7 = .ok (.aload_n 0, 1) := by decide +kernel
theorem dJ0_charAt_5068e_8 : decode cJ0_charAt_5068e 8 = .ok (.getfield 9, 3) := by decide +kernel
theorem dJ0_charAt_5068e_11 : decode cJ0_charAt_5068e 11 = .ok (.iload_n 1, 1) := by decide +kernel
theorem dJ0_charAt_5068e_12 : decode cJ0_charAt_5068e 12 = .ok (.invokestatic 495, 3) := by decide +kernel
theorem dJ0_charAt_5068e_15 : decode cJ0_charAt_5068e 15 = .ok (.ireturn, 1) := by decide +kernel
theorem dJ0_charAt_5068e_16 : decode cJ0_charAt_5068e 16 = .ok (.aload_n 0, 1) := by decide +kernel
theorem dJ0_charAt_5068e_17 : decode cJ0_charAt_5068e 17 = .ok (.getfield 9, 3) := by decide +kernel
theorem dJ0_charAt_5068e_20 : decode cJ0_charAt_5068e 20 = .ok (.iload_n 1, 1) := by decide +kernel
theorem dJ0_charAt_5068e_21 : decode cJ0_charAt_5068e 21 = .ok (.invokestatic 498, 3) := by decide +kernel
theorem qJ0_charAt_5068e (d : Nat) (x1 : Int) (s : Sg) : RUN (d + 1) mJ0_charAt_5068e [vr 55 0, vi x1] s = bI (RUN d mJ0_isLatin1_aae02 [vr 55 0] s) (fun r1 s1 => if r1 = 0 then (none) else (bI (RUN d mJ1_charAt_3b067 [vr 58 0, vi x1] s1) (fun r2 s2 => if 0 ≤ r2 ∧ r2 ≤ 65535 then some (some (vi r2), s2) else none))) := x_run rfl (x_st 1 dJ0_charAt_5068e_0 rfl (x_ci 4 [vr 55 0, vi x1] [] dJ0_charAt_5068e_1 rfl (fun r1 s1 => x_br dJ0_charAt_5068e_4 (x_if (x_go 16 (x_st 17 dJ0_charAt_5068e_16 rfl (x_st 20 dJ0_charAt_5068e_17 rfl (x_st 21 dJ0_charAt_5068e_20 rfl (x_br dJ0_charAt_5068e_21 x_no))))) (x_go 7 (x_st 8 dJ0_charAt_5068e_7 rfl (x_st 11 dJ0_charAt_5068e_8 rfl (x_st 12 dJ0_charAt_5068e_11 rfl (x_ci 15 [vr 55 0, vi x1] [] dJ0_charAt_5068e_12 rfl (fun r2 s2 => x_br dJ0_charAt_5068e_15 x_rg))))))))))
theorem qJ0_charAt_5068ev (d : Nat) (x1 : Int) (s : Sg) : RUN (d + 1) mJ0_charAt_5068e [vr 56 0, vi x1] s = bI (RUN d mJ0_isLatin1_aae02 [vr 56 0] s) (fun r1 s1 => if r1 = 0 then (none) else (bI (RUN d mJ1_charAt_3b067 [vr 59 0, vi x1] s1) (fun r2 s2 => if 0 ≤ r2 ∧ r2 ≤ 65535 then some (some (vi r2), s2) else none))) := x_run rfl (x_st 1 dJ0_charAt_5068e_0 rfl (x_ci 4 [vr 56 0, vi x1] [] dJ0_charAt_5068e_1 rfl (fun r1 s1 => x_br dJ0_charAt_5068e_4 (x_if (x_go 16 (x_st 17 dJ0_charAt_5068e_16 rfl (x_st 20 dJ0_charAt_5068e_17 rfl (x_st 21 dJ0_charAt_5068e_20 rfl (x_br dJ0_charAt_5068e_21 x_no))))) (x_go 7 (x_st 8 dJ0_charAt_5068e_7 rfl (x_st 11 dJ0_charAt_5068e_8 rfl (x_st 12 dJ0_charAt_5068e_11 rfl (x_ci 15 [vr 56 0, vi x1] [] dJ0_charAt_5068e_12 rfl (fun r2 s2 => x_br dJ0_charAt_5068e_15 x_rg))))))))))
theorem dJ0_coder_7d493_0 : decode cJ0_coder_7d493 0 = .ok (.getstatic 38, 3) := by decide +kernel
theorem dJ0_coder_7d493_3 : decode cJ0_coder_7d493 3 = .ok (.ifCond .eq 10, 3) := by decide +kernel
theorem dJ0_coder_7d493_6 : decode cJ0_coder_7d493 6 = .ok (.aload_n 0, 1) := by decide +kernel
theorem dJ0_coder_7d493_7 : decode cJ0_coder_7d493 7 = .ok (.getfield 15, 3) := by decide +kernel
theorem dJ0_coder_7d493_10 : decode cJ0_coder_7d493 10 = .ok (.goto 4, 3) := by decide +kernel
theorem dJ0_coder_7d493_14 : decode cJ0_coder_7d493 14 = .ok (.ireturn, 1) := by decide +kernel
theorem qJ0_coder_7d493 (d : Nat) (s : Sg) : RUN d mJ0_coder_7d493 [vr 55 0] s = some (some (vi 0), s) := x_run rfl (x_st 3 dJ0_coder_7d493_0 rfl (x_st 6 dJ0_coder_7d493_3 rfl (x_st 7 dJ0_coder_7d493_6 rfl (x_st 10 dJ0_coder_7d493_7 rfl (x_st 14 dJ0_coder_7d493_10 rfl (x_ret dJ0_coder_7d493_14 rfl))))))
theorem qJ0_coder_7d493v (d : Nat) (s : Sg) : RUN d mJ0_coder_7d493 [vr 57 0] s = some (some (vi 0), s) := x_run rfl (x_st 3 dJ0_coder_7d493_0 rfl (x_st 6 dJ0_coder_7d493_3 rfl (x_st 7 dJ0_coder_7d493_6 rfl (x_st 10 dJ0_coder_7d493_7 rfl (x_st 14 dJ0_coder_7d493_10 rfl (x_ret dJ0_coder_7d493_14 rfl))))))
theorem qJ0_coder_7d493vv (d : Nat) (s : Sg) : RUN d mJ0_coder_7d493 [vr 56 0] s = some (some (vi 0), s) := x_run rfl (x_st 3 dJ0_coder_7d493_0 rfl (x_st 6 dJ0_coder_7d493_3 rfl (x_st 7 dJ0_coder_7d493_6 rfl (x_st 10 dJ0_coder_7d493_7 rfl (x_st 14 dJ0_coder_7d493_10 rfl (x_ret dJ0_coder_7d493_14 rfl))))))
theorem dJ0_isLatin1_aae02_0 : decode cJ0_isLatin1_aae02 0 = .ok (.getstatic 38, 3) := by decide +kernel
theorem dJ0_isLatin1_aae02_3 : decode cJ0_isLatin1_aae02 3 = .ok (.ifCond .eq 14, 3) := by decide +kernel
theorem dJ0_isLatin1_aae02_6 : decode cJ0_isLatin1_aae02 6 = .ok (.aload_n 0, 1) := by decide +kernel
theorem dJ0_isLatin1_aae02_7 : decode cJ0_isLatin1_aae02 7 = .ok (.getfield 15, 3) := by decide +kernel
theorem dJ0_isLatin1_aae02_10 : decode cJ0_isLatin1_aae02 10 = .ok (.ifCond .ne 7, 3) := by decide +kernel
theorem dJ0_isLatin1_aae02_13 : decode cJ0_isLatin1_aae02 13 = .ok (.iconst 1, 1) := by decide +kernel
theorem dJ0_isLatin1_aae02_14 : decode cJ0_isLatin1_aae02 14 = .ok (.goto 4, 3) := by decide +kernel
theorem dJ0_isLatin1_aae02_18 : decode cJ0_isLatin1_aae02 18 = .ok (.ireturn, 1) := by decide +kernel
theorem qJ0_isLatin1_aae02 (d : Nat) (s : Sg) : RUN d mJ0_isLatin1_aae02 [vr 55 0] s = some (some (vi 1), s) := x_run rfl (x_st 3 dJ0_isLatin1_aae02_0 rfl (x_st 6 dJ0_isLatin1_aae02_3 rfl (x_st 7 dJ0_isLatin1_aae02_6 rfl (x_st 10 dJ0_isLatin1_aae02_7 rfl (x_st 13 dJ0_isLatin1_aae02_10 rfl (x_st 14 dJ0_isLatin1_aae02_13 rfl (x_st 18 dJ0_isLatin1_aae02_14 rfl (x_ret dJ0_isLatin1_aae02_18 rfl))))))))
theorem qJ0_isLatin1_aae02v (d : Nat) (s : Sg) : RUN d mJ0_isLatin1_aae02 [vr 57 0] s = some (some (vi 1), s) := x_run rfl (x_st 3 dJ0_isLatin1_aae02_0 rfl (x_st 6 dJ0_isLatin1_aae02_3 rfl (x_st 7 dJ0_isLatin1_aae02_6 rfl (x_st 10 dJ0_isLatin1_aae02_7 rfl (x_st 13 dJ0_isLatin1_aae02_10 rfl (x_st 14 dJ0_isLatin1_aae02_13 rfl (x_st 18 dJ0_isLatin1_aae02_14 rfl (x_ret dJ0_isLatin1_aae02_18 rfl))))))))
theorem qJ0_isLatin1_aae02vv (d : Nat) (s : Sg) : RUN d mJ0_isLatin1_aae02 [vr 56 0] s = some (some (vi 1), s) := x_run rfl (x_st 3 dJ0_isLatin1_aae02_0 rfl (x_st 6 dJ0_isLatin1_aae02_3 rfl (x_st 7 dJ0_isLatin1_aae02_6 rfl (x_st 10 dJ0_isLatin1_aae02_7 rfl (x_st 13 dJ0_isLatin1_aae02_10 rfl (x_st 14 dJ0_isLatin1_aae02_13 rfl (x_st 18 dJ0_isLatin1_aae02_14 rfl (x_ret dJ0_isLatin1_aae02_18 rfl))))))))
theorem dJ0_checkIndex_df160_0 : decode cJ0_checkIndex_df160 0 = .ok (.iload_n 0, 1) := by decide +kernel
theorem dJ0_checkIndex_df160_1 : decode cJ0_checkIndex_df160 1 = .ok (.iload_n 1, 1) := by decide +kernel
theorem dJ0_checkIndex_df160_2 : decode cJ0_checkIndex_df160 2 = .ok (.getstatic 1053, 3) := by decide +kernel
theorem dJ0_checkIndex_df160_5 : decode cJ0_checkIndex_df160 5 = .ok (.invokestatic 1059, 3) := by decide +kernel
theorem dJ0_checkIndex_df160_8 : decode cJ0_checkIndex_df160 8 = .ok (.pop, 1) := by decide +kernel
theorem dJ0_checkIndex_df160_9 : decode cJ0_checkIndex_df160 9 = .ok (.return_, 1) := by decide +kernel
theorem qJ0_checkIndex_df160 (d : Nat) (x0 : Int) (x1 : Int) (s : Sg) : RUN (d + 1) mJ0_checkIndex_df160 [vi x0, vi x1] s = bI (RUN d mJ3_checkIndex_8e157 [vi x0, vi x1, vr 61 0] s) (fun r1 s1 => some (none, s1)) := x_run rfl (x_st 1 dJ0_checkIndex_df160_0 rfl (x_st 2 dJ0_checkIndex_df160_1 rfl (x_st 5 dJ0_checkIndex_df160_2 rfl (x_ci 8 [vi x0, vi x1] [] dJ0_checkIndex_df160_5 rfl (fun r1 s1 => x_st 9 dJ0_checkIndex_df160_8 rfl (x_ret dJ0_checkIndex_df160_9 rfl))))))
theorem dJ0_indexOf_0f7a4_0 : decode cJ0_indexOf_0f7a4 0 = .ok (.aload_n 0, 1) := by decide +kernel
theorem dJ0_indexOf_0f7a4_1 : decode cJ0_indexOf_0f7a4 1 = .ok (.iload_n 1, 1) := by decide +kernel
theorem dJ0_indexOf_0f7a4_2 : decode cJ0_indexOf_0f7a4 2 = .ok (.iconst 0, 1) := by decide +kernel
theorem dJ0_indexOf_0f7a4_3 : decode cJ0_indexOf_0f7a4 3 = .ok (.invokevirtual 633, 3) := by decide +kernel
theorem dJ0_indexOf_0f7a4_6 : decode cJ0_indexOf_0f7a4 6 = .ok (.ireturn, 1) := by decide +kernel
theorem qJ0_indexOf_0f7a4 (d : Nat) (x1 : Int) (s : Sg) : RUN (d + 1) mJ0_indexOf_0f7a4 [vr 57 0, vi x1] s = bI (RUN d mJ0_indexOf_7cf53 [vr 57 0, vi x1, vi 0] s) (fun r1 s1 => some (some (vi r1), s1)) := x_run rfl (x_st 1 dJ0_indexOf_0f7a4_0 rfl (x_st 2 dJ0_indexOf_0f7a4_1 rfl (x_st 3 dJ0_indexOf_0f7a4_2 rfl (x_ci 6 [vr 57 0, vi x1] [] dJ0_indexOf_0f7a4_3 rfl (fun r1 s1 => x_ret dJ0_indexOf_0f7a4_6 rfl)))))
theorem dJ0_indexOf_7cf53_0 : decode cJ0_indexOf_7cf53 0 = .ok (.aload_n 0, 1) := by decide +kernel
theorem dJ0_indexOf_7cf53_1 : decode cJ0_indexOf_7cf53 1 = .ok (.invokevirtual 492, 3) := by decide +kernel
theorem dJ0_indexOf_7cf53_4 : decode cJ0_indexOf_7cf53 4 = .ok (.ifCond .eq 19, 3) := by decide +kernel
theorem dJ0_indexOf_7cf53_7 : decode cJ0_indexOf_7cf53 7 = .ok (.aload_n 0, 1) := by decide +kernel
theorem dJ0_indexOf_7cf53_8 : decode cJ0_indexOf_7cf53 8 = .ok (.getfield 9, 3) := by decide +kernel
theorem dJ0_indexOf_7cf53_11 : decode cJ0_indexOf_7cf53 11 = .ok (.iload_n 1, 1) := by decide +kernel
theorem dJ0_indexOf_7cf53_12 : decode cJ0_indexOf_7cf53 12 = .ok (.iload_n 2, 1) := by decide +kernel
theorem dJ0_indexOf_7cf53_13 : decode cJ0_indexOf_7cf53 13 = .ok (.aload_n 0, 1) := by decide +kernel
theorem dJ0_indexOf_7cf53_14 : decode cJ0_indexOf_7cf53 14 = .ok (.invokevirtual 505, 3) := by decide +kernel
theorem dJ0_indexOf_7cf53_17 : decode cJ0_indexOf_7cf53 17 = .ok (.invokestatic 637, 3) := by decide +kernel
theorem dJ0_indexOf_7cf53_20 : decode cJ0_indexOf_7cf53 20 = .ok (.goto 16, 3) := by decide +kernel
theorem dJ0_indexOf_7cf53_23 : decode cJ0_indexOf_7cf53 23 = .ok (.aload_n 0, 1) := by decide +kernel
theorem dJ0_indexOf_7cf53_24 : decode cJ0_indexOf_7cf53 24 = .ok (.getfield 9, 3) := by decide +kernel
theorem dJ0_indexOf_7cf53_27 : decode cJ0_indexOf_7cf53 27 = .ok (.iload_n 1, 1) := by decide +kernel
theorem dJ0_indexOf_7cf53_28 : decode cJ0_indexOf_7cf53 28 = .ok (.iload_n 2, 1) := by decide +kernel
theorem dJ0_indexOf_7cf53_29 : decode cJ0_indexOf_7cf53 29 = .ok (.aload_n 0, 1) := by decide +kernel
theorem dJ0_indexOf_7cf53_30 : decode cJ0_indexOf_7cf53 30 = .ok (.invokevirtual 505, 3) := by decide +kernel
theorem dJ0_indexOf_7cf53_33 : decode cJ0_indexOf_7cf53 33 = .ok (.invokestatic 640, 3) := by decide +kernel
theorem dJ0_indexOf_7cf53_36 : decode cJ0_indexOf_7cf53 36 = .ok (.ireturn, 1) := by decide +kernel
theorem qJ0_indexOf_7cf53 (d : Nat) (x1 : Int) (x2 : Int) (s : Sg) : RUN (d + 1) mJ0_indexOf_7cf53 [vr 57 0, vi x1, vi x2] s = bI (RUN d mJ0_isLatin1_aae02 [vr 57 0] s) (fun r1 s1 => if r1 = 0 then (bI (RUN d mJ0_length_8abf5 [vr 57 0] s1) (fun r2 s2 => none)) else (bI (RUN d mJ0_length_8abf5 [vr 57 0] s1) (fun r3 s3 => bI (RUN d mJ1_indexOf_4cfef [vr 60 0, vi x1, vi x2, vi r3] s3) (fun r4 s4 => some (some (vi r4), s4))))) := x_run rfl (x_st 1 dJ0_indexOf_7cf53_0 rfl (x_ci 4 [vr 57 0, vi x1, vi x2] [] dJ0_indexOf_7cf53_1 rfl (fun r1 s1 => x_br dJ0_indexOf_7cf53_4 (x_if (x_go 23 (x_st 24 dJ0_indexOf_7cf53_23 rfl (x_st 27 dJ0_indexOf_7cf53_24 rfl (x_st 28 dJ0_indexOf_7cf53_27 rfl (x_st 29 dJ0_indexOf_7cf53_28 rfl (x_st 30 dJ0_indexOf_7cf53_29 rfl (x_ci 33 [vr 57 0, vi x1, vi x2] [vi x2, vi x1, vr 60 0] dJ0_indexOf_7cf53_30 rfl (fun r2 s2 => x_br dJ0_indexOf_7cf53_33 x_no)))))))) (x_go 7 (x_st 8 dJ0_indexOf_7cf53_7 rfl (x_st 11 dJ0_indexOf_7cf53_8 rfl (x_st 12 dJ0_indexOf_7cf53_11 rfl (x_st 13 dJ0_indexOf_7cf53_12 rfl (x_st 14 dJ0_indexOf_7cf53_13 rfl (x_ci 17 [vr 57 0, vi x1, vi x2] [vi x2, vi x1, vr 60 0] dJ0_indexOf_7cf53_14 rfl (fun r3 s3 => x_ci 20 [vr 57 0, vi x1, vi x2] [] dJ0_indexOf_7cf53_17 rfl (fun r4 s4 => x_st 36 dJ0_indexOf_7cf53_20 rfl (x_ret dJ0_indexOf_7cf53_36 rfl))))))))))))))
theorem dX3_isLong_0 : decode cX3_isLong 0 = .ok (.iload_n 0, 1) := by decide +kernel
theorem dX3_isLong_1 : decode cX3_isLong 1 = .ok (.iconst 3, 1) := by decide +kernel
theorem dX3_isLong_2 : decode cX3_isLong 2 = .ok (.if_icmp .eq 8, 3) := by decide +kernel
theorem dX3_isLong_5 : decode cX3_isLong 5 = .ok (.iload_n 0, 1) := by decide +kernel
theorem dX3_isLong_6 : decode cX3_isLong 6 = .ok (.iconst 5, 1) := by decide +kernel
theorem dX3_isLong_7 : decode cX3_isLong 7 = .ok (.if_icmp .ne 7, 3) := by decide +kernel
theorem dX3_isLong_10 : decode cX3_isLong 10 = .ok (.iconst 1, 1) := by decide +kernel
theorem dX3_isLong_11 : decode cX3_isLong 11 = .ok (.goto 4, 3) := by decide +kernel
theorem dX3_isLong_14 : decode cX3_isLong 14 = .ok (.iconst 0, 1) := by decide +kernel
theorem dX3_isLong_15 : decode cX3_isLong 15 = .ok (.ireturn, 1) := by decide +kernel
theorem qX3_isLong (d : Nat) (x0 : Int) (s : Sg) : RUN d mX3_isLong [vi x0] s = if x0 = 3 then (some (some (vi 1), s)) else (if x0 = 5 then (some (some (vi 1), s)) else (some (some (vi 0), s))) := x_run rfl (x_st 1 dX3_isLong_0 rfl (x_st 2 dX3_isLong_1 rfl (x_br dX3_isLong_2 (x_if (x_go 10 (x_st 11 dX3_isLong_10 rfl (x_st 15 dX3_isLong_11 rfl (x_ret dX3_isLong_15 rfl)))) (x_go 5 (x_st 6 dX3_isLong_5 rfl (x_st 7 dX3_isLong_6 rfl (x_br dX3_isLong_7 (x_if (x_go 10 (x_st 11 dX3_isLong_10 rfl (x_st 15 dX3_isLong_11 rfl (x_ret dX3_isLong_15 rfl)))) (x_go 14 (x_st 15 dX3_isLong_14 rfl (x_ret dX3_isLong_15 rfl))))))))))))
theorem dX3_isUnder_0 : decode cX3_isUnder 0 = .ok (.iload_n 0, 1) := by decide +kernel
theorem dX3_isUnder_1 : decode cX3_isUnder 1 = .ok (.istore_n 2, 1) := by decide +kernel
theorem dX3_isUnder_2 : decode cX3_isUnder 2 = .ok (.iconst 0, 1) := by decide +kernel
theorem dX3_isUnder_3 : decode cX3_isUnder 3 = .ok (.istore_n 3, 1) := by decide +kernel
theorem dX3_isUnder_4 : decode cX3_isUnder 4 = .ok (.iload_n 3, 1) := by decide +kernel
theorem dX3_isUnder_5 : decode cX3_isUnder 5 = .ok (.getstatic 11, 3) := by decide +kernel
theorem dX3_isUnder_8 : decode cX3_isUnder 8 = .ok (.arraylength, 1) := by decide +kernel
theorem dX3_isUnder_9 : decode cX3_isUnder 9 = .ok (.if_icmp .ge 34, 3) := by decide +kernel
theorem dX3_isUnder_12 : decode cX3_isUnder 12 = .ok (.iload_n 2, 1) := by decide +kernel
theorem dX3_isUnder_13 : decode cX3_isUnder 13 = .ok (.ifCond .lt 30, 3) := by decide +kernel
theorem dX3_isUnder_16 : decode cX3_isUnder 16 = .ok (.iload_n 2, 1) := by decide +kernel
theorem dX3_isUnder_17 : decode cX3_isUnder 17 = .ok (.getstatic 11, 3) := by decide +kernel
theorem dX3_isUnder_20 : decode cX3_isUnder 20 = .ok (.arraylength, 1) := by decide +kernel
theorem dX3_isUnder_21 : decode cX3_isUnder 21 = .ok (.if_icmp .ge 22, 3) := by decide +kernel
theorem dX3_isUnder_24 : decode cX3_isUnder 24 = .ok (.iload_n 2, 1) := by decide +kernel
theorem dX3_isUnder_25 : decode cX3_isUnder 25 = .ok (.iload_n 1, 1) := by decide +kernel
theorem dX3_isUnder_26 : decode cX3_isUnder 26 = .ok (.if_icmp .ne 5, 3) := by decide +kernel
theorem dX3_isUnder_29 : decode cX3_isUnder 29 = .ok (.iconst 1, 1) := by decide +kernel
theorem dX3_isUnder_30 : decode cX3_isUnder 30 = .ok (.ireturn, 1) := by decide +kernel
theorem dX3_isUnder_31 : decode cX3_isUnder 31 = .ok (.getstatic 11, 3) := by decide +kernel
theorem dX3_isUnder_34 : decode cX3_isUnder 34 = .ok (.iload_n 2, 1) := by decide +kernel
theorem dX3_isUnder_35 : decode cX3_isUnder 35 = .ok (.iaload, 1) := by decide +kernel
theorem dX3_isUnder_36 : decode cX3_isUnder 36 = .ok (.istore_n 2, 1) := by decide +kernel
theorem dX3_isUnder_37 : decode cX3_isUnder 37 = .ok (.iinc 3 1, 3) := by decide +kernel
theorem dX3_isUnder_40 : decode cX3_isUnder 40 = .ok (.goto (-36), 3) := by decide +kernel
theorem dX3_isUnder_43 : decode cX3_isUnder 43 = .ok (.iconst 0, 1) := by decide +kernel
theorem dX3_isUnder_44 : decode cX3_isUnder 44 = .ok (.ireturn, 1) := by decide +kernel
theorem qX3_isUnder (d : Nat) (x0 : Int) (x1 : Int) (s : Sg) : RUN d mX3_isUnder [vi x0, vi x1] s = EV d mX3_isUnder (4, [vi x0, vi x1, vi x0, vi 0], [], s) := x_run rfl (x_st 1 dX3_isUnder_0 rfl (x_so 2 [vi x0, vi x1, vi x0, UU] dX3_isUnder_1 rfl (x_st 3 dX3_isUnder_2 rfl (x_so 4 [vi x0, vi x1, vi x0, vi 0] dX3_isUnder_3 rfl (rfl)))))
theorem qX3_isUnder_4 (d : Nat) (z0 : PV) (x1 : Int) (x2 : Int) (x3 : Int) (s : Sg) : EV d mX3_isUnder (4, [z0, vi x1, vi x2, vi x3], [], s) = if x3 < 6 then (if x2 < 0 then (some (some (vi 0), s)) else (if x2 < 6 then (if x2 = x1 then (some (some (vi 1), s)) else (if inb x2 6 then (EV d mX3_isUnder (4, [z0, vi x1, vi (sv 54 (Int.toNat x2)), vi (w32 (x3 + 1))], [], s)) else none)) else (some (some (vi 0), s)))) else (some (some (vi 0), s)) := x_st 5 dX3_isUnder_4 rfl (x_st 8 dX3_isUnder_5 rfl (x_st 9 dX3_isUnder_8 rfl (x_br dX3_isUnder_9 (x_if (x_go 12 (x_st 13 dX3_isUnder_12 rfl (x_br dX3_isUnder_13 (x_if (x_go 43 (x_st 44 dX3_isUnder_43 rfl (x_ret dX3_isUnder_44 rfl))) (x_go 16 (x_st 17 dX3_isUnder_16 rfl (x_st 20 dX3_isUnder_17 rfl (x_st 21 dX3_isUnder_20 rfl (x_br dX3_isUnder_21 (x_if (x_go 24 (x_st 25 dX3_isUnder_24 rfl (x_st 26 dX3_isUnder_25 rfl (x_br dX3_isUnder_26 (x_if (x_go 29 (x_st 30 dX3_isUnder_29 rfl (x_ret dX3_isUnder_30 rfl))) (x_go 31 (x_st 34 dX3_isUnder_31 rfl (x_st 35 dX3_isUnder_34 rfl (x_br dX3_isUnder_35 (x_if (x_go 36 (x_so 37 [z0, vi x1, vi (sv 54 (Int.toNat x2)), vi x3] dX3_isUnder_36 rfl (x_so 40 [z0, vi x1, vi (sv 54 (Int.toNat x2)), vi (w32 (x3 + 1))] dX3_isUnder_37 rfl (x_st 4 dX3_isUnder_40 rfl (rfl))))) x_no)))))))))) (x_go 43 (x_st 44 dX3_isUnder_43 rfl (x_ret dX3_isUnder_44 rfl))))))))))))) (x_go 43 (x_st 44 dX3_isUnder_43 rfl (x_ret dX3_isUnder_44 rfl)))))))
theorem dX3_fits_0 : decode cX3_fits 0 = .ok (.iload_n 0, 1) := by decide +kernel
theorem dX3_fits_1 : decode cX3_fits 1 = .ok (.tableswitch 44 2 5 #[31, 44, 31, 33], 31) := by decide +kernel
theorem dX3_fits_32 : decode cX3_fits 32 = .ok (.iconst 1, 1) := by decide +kernel
theorem dX3_fits_33 : decode cX3_fits 33 = .ok (.ireturn, 1) := by decide +kernel
theorem dX3_fits_34 : decode cX3_fits 34 = .ok (.iload_n 2, 1) := by decide +kernel
theorem dX3_fits_35 : decode cX3_fits 35 = .ok (.iconst 3, 1) := by decide +kernel
theorem dX3_fits_36 : decode cX3_fits 36 = .ok (.if_icmp .eq 7, 3) := by decide +kernel
theorem dX3_fits_39 : decode cX3_fits 39 = .ok (.iconst 1, 1) := by decide +kernel
theorem dX3_fits_40 : decode cX3_fits 40 = .ok (.goto 4, 3) := by decide +kernel
theorem dX3_fits_43 : decode cX3_fits 43 = .ok (.iconst 0, 1) := by decide +kernel
theorem dX3_fits_44 : decode cX3_fits 44 = .ok (.ireturn, 1) := by decide +kernel
theorem dX3_fits_45 : decode cX3_fits 45 = .ok (.iload_n 2, 1) := by decide +kernel
theorem dX3_fits_46 : decode cX3_fits 46 = .ok (.iconst 2, 1) := by decide +kernel
theorem dX3_fits_47 : decode cX3_fits 47 = .ok (.irem, 1) := by decide +kernel
theorem dX3_fits_48 : decode cX3_fits 48 = .ok (.iload_n 1, 1) := by decide +kernel
theorem dX3_fits_49 : decode cX3_fits 49 = .ok (.if_icmp .ne 7, 3) := by decide +kernel
theorem dX3_fits_52 : decode cX3_fits 52 = .ok (.iconst 1, 1) := by decide +kernel
theorem dX3_fits_53 : decode cX3_fits 53 = .ok (.goto 4, 3) := by decide +kernel
theorem dX3_fits_56 : decode cX3_fits 56 = .ok (.iconst 0, 1) := by decide +kernel
theorem dX3_fits_57 : decode cX3_fits 57 = .ok (.ireturn, 1) := by decide +kernel
theorem qX3_fits (d : Nat) (x0 : Int) (x1 : Int) (x2 : Int) (s : Sg) : RUN d mX3_fits [vi x0, vi x1, vi x2] s = if x0 = 2 then (some (some (vi 1), s)) else if x0 = 3 then (if (wrem x2 2) = x1 then (some (some (vi 1), s)) else (some (some (vi 0), s))) else if x0 = 4 then (some (some (vi 1), s)) else if x0 = 5 then (if x2 = 3 then (some (some (vi 0), s)) else (some (some (vi 1), s))) else (if (wrem x2 2) = x1 then (some (some (vi 1), s)) else (some (some (vi 0), s))) := x_run rfl (x_st 1 dX3_fits_0 rfl (x_br dX3_fits_1 (x_if (x_go 32 (x_st 33 dX3_fits_32 rfl (x_ret dX3_fits_33 rfl))) (x_if (x_go 45 (x_st 46 dX3_fits_45 rfl (x_st 47 dX3_fits_46 rfl (x_st 48 dX3_fits_47 rfl (x_st 49 dX3_fits_48 rfl (x_br dX3_fits_49 (x_if (x_go 52 (x_st 53 dX3_fits_52 rfl (x_st 57 dX3_fits_53 rfl (x_ret dX3_fits_57 rfl)))) (x_go 56 (x_st 57 dX3_fits_56 rfl (x_ret dX3_fits_57 rfl)))))))))) (x_if (x_go 32 (x_st 33 dX3_fits_32 rfl (x_ret dX3_fits_33 rfl))) (x_if (x_go 34 (x_st 35 dX3_fits_34 rfl (x_st 36 dX3_fits_35 rfl (x_br dX3_fits_36 (x_if (x_go 43 (x_st 44 dX3_fits_43 rfl (x_ret dX3_fits_44 rfl))) (x_go 39 (x_st 40 dX3_fits_39 rfl (x_st 44 dX3_fits_40 rfl (x_ret dX3_fits_44 rfl))))))))) (x_go 45 (x_st 46 dX3_fits_45 rfl (x_st 47 dX3_fits_46 rfl (x_st 48 dX3_fits_47 rfl (x_st 49 dX3_fits_48 rfl (x_br dX3_fits_49 (x_if (x_go 52 (x_st 53 dX3_fits_52 rfl (x_st 57 dX3_fits_53 rfl (x_ret dX3_fits_57 rfl)))) (x_go 56 (x_st 57 dX3_fits_56 rfl (x_ret dX3_fits_57 rfl))))))))))))))))
theorem dX3_minutes_0 : decode cX3_minutes 0 = .ok (.iload_n 0, 1) := by decide +kernel
theorem dX3_minutes_1 : decode cX3_minutes 1 = .ok (.tableswitch 54 1 5 #[35, 45, 39, 45, 49], 35) := by decide +kernel
theorem dX3_minutes_36 : decode cX3_minutes 36 = .ok (.iconst 2, 1) := by decide +kernel
theorem dX3_minutes_37 : decode cX3_minutes 37 = .ok (.iload_n 1, 1) := by decide +kernel
theorem dX3_minutes_38 : decode cX3_minutes 38 = .ok (.imul, 1) := by decide +kernel
theorem dX3_minutes_39 : decode cX3_minutes 39 = .ok (.ireturn, 1) := by decide +kernel
theorem dX3_minutes_40 : decode cX3_minutes 40 = .ok (.iconst 2, 1) := by decide +kernel
theorem dX3_minutes_41 : decode cX3_minutes 41 = .ok (.iload_n 1, 1) := by decide +kernel
theorem dX3_minutes_42 : decode cX3_minutes 42 = .ok (.imul, 1) := by decide +kernel
theorem dX3_minutes_43 : decode cX3_minutes 43 = .ok (.iload_n 2, 1) := by decide +kernel
theorem dX3_minutes_44 : decode cX3_minutes 44 = .ok (.iadd, 1) := by decide +kernel
theorem dX3_minutes_45 : decode cX3_minutes 45 = .ok (.ireturn, 1) := by decide +kernel
theorem dX3_minutes_46 : decode cX3_minutes 46 = .ok (.iload_n 1, 1) := by decide +kernel
theorem dX3_minutes_47 : decode cX3_minutes 47 = .ok (.iconst 2, 1) := by decide +kernel
theorem dX3_minutes_48 : decode cX3_minutes 48 = .ok (.idiv, 1) := by decide +kernel
theorem dX3_minutes_49 : decode cX3_minutes 49 = .ok (.ireturn, 1) := by decide +kernel
theorem dX3_minutes_50 : decode cX3_minutes 50 = .ok (.iload_n 1, 1) := by decide +kernel
theorem dX3_minutes_51 : decode cX3_minutes 51 = .ok (.bipush 10, 2) := by decide +kernel
theorem dX3_minutes_53 : decode cX3_minutes 53 = .ok (.iadd, 1) := by decide +kernel
theorem dX3_minutes_54 : decode cX3_minutes 54 = .ok (.ireturn, 1) := by decide +kernel
theorem dX3_minutes_55 : decode cX3_minutes 55 = .ok (.iload_n 1, 1) := by decide +kernel
theorem dX3_minutes_56 : decode cX3_minutes 56 = .ok (.ireturn, 1) := by decide +kernel
theorem qX3_minutes (d : Nat) (x0 : Int) (x1 : Int) (x2 : Int) (s : Sg) : RUN d mX3_minutes [vi x0, vi x1, vi x2] s = if x0 = 1 then (some (some (vi (w32 (2 * x1))), s)) else if x0 = 2 then (some (some (vi (wdiv x1 2)), s)) else if x0 = 3 then (some (some (vi (w32 ((w32 (2 * x1)) + x2))), s)) else if x0 = 4 then (some (some (vi (wdiv x1 2)), s)) else if x0 = 5 then (some (some (vi (w32 (x1 + 10))), s)) else (some (some (vi x1), s)) := x_run rfl (x_st 1 dX3_minutes_0 rfl (x_br dX3_minutes_1 (x_if (x_go 36 (x_st 37 dX3_minutes_36 rfl (x_st 38 dX3_minutes_37 rfl (x_st 39 dX3_minutes_38 rfl (x_ret dX3_minutes_39 rfl))))) (x_if (x_go 46 (x_st 47 dX3_minutes_46 rfl (x_st 48 dX3_minutes_47 rfl (x_st 49 dX3_minutes_48 rfl (x_ret dX3_minutes_49 rfl))))) (x_if (x_go 40 (x_st 41 dX3_minutes_40 rfl (x_st 42 dX3_minutes_41 rfl (x_st 43 dX3_minutes_42 rfl (x_st 44 dX3_minutes_43 rfl (x_st 45 dX3_minutes_44 rfl (x_ret dX3_minutes_45 rfl))))))) (x_if (x_go 46 (x_st 47 dX3_minutes_46 rfl (x_st 48 dX3_minutes_47 rfl (x_st 49 dX3_minutes_48 rfl (x_ret dX3_minutes_49 rfl))))) (x_if (x_go 50 (x_st 51 dX3_minutes_50 rfl (x_st 53 dX3_minutes_51 rfl (x_st 54 dX3_minutes_53 rfl (x_ret dX3_minutes_54 rfl))))) (x_go 55 (x_st 56 dX3_minutes_55 rfl (x_ret dX3_minutes_56 rfl))))))))))
theorem dX3_drawsForward_0 : decode cX3_drawsForward 0 = .ok (.iload_n 0, 1) := by decide +kernel
theorem dX3_drawsForward_1 : decode cX3_drawsForward 1 = .ok (.tableswitch 50 2 5 #[31, 50, 33, 35], 31) := by decide +kernel
theorem dX3_drawsForward_32 : decode cX3_drawsForward 32 = .ok (.iconst 0, 1) := by decide +kernel
theorem dX3_drawsForward_33 : decode cX3_drawsForward 33 = .ok (.ireturn, 1) := by decide +kernel
theorem dX3_drawsForward_34 : decode cX3_drawsForward 34 = .ok (.iconst 1, 1) := by decide +kernel
theorem dX3_drawsForward_35 : decode cX3_drawsForward 35 = .ok (.ireturn, 1) := by decide +kernel
theorem dX3_drawsForward_36 : decode cX3_drawsForward 36 = .ok (.iload_n 1, 1) := by decide +kernel
theorem dX3_drawsForward_37 : decode cX3_drawsForward 37 = .ok (.ifCond .eq 12, 3) := by decide +kernel
theorem dX3_drawsForward_40 : decode cX3_drawsForward 40 = .ok (.iload_n 2, 1) := by decide +kernel
theorem dX3_drawsForward_41 : decode cX3_drawsForward 41 = .ok (.iconst 4, 1) := by decide +kernel
theorem dX3_drawsForward_42 : decode cX3_drawsForward 42 = .ok (.if_icmp .le 7, 3) := by decide +kernel
theorem dX3_drawsForward_45 : decode cX3_drawsForward 45 = .ok (.iconst 1, 1) := by decide +kernel
theorem dX3_drawsForward_46 : decode cX3_drawsForward 46 = .ok (.goto 4, 3) := by decide +kernel
theorem dX3_drawsForward_49 : decode cX3_drawsForward 49 = .ok (.iconst 0, 1) := by decide +kernel
theorem dX3_drawsForward_50 : decode cX3_drawsForward 50 = .ok (.ireturn, 1) := by decide +kernel
theorem dX3_drawsForward_51 : decode cX3_drawsForward 51 = .ok (.iload_n 1, 1) := by decide +kernel
theorem dX3_drawsForward_52 : decode cX3_drawsForward 52 = .ok (.ireturn, 1) := by decide +kernel
theorem qX3_drawsForward (d : Nat) (x0 : Int) (x1 : Int) (x2 : Int) (s : Sg) : RUN d mX3_drawsForward [vi x0, vi x1, vi x2] s = if x0 = 2 then (some (some (vi 0), s)) else if x0 = 3 then (if 0 ≤ x1 ∧ x1 ≤ 1 then some (some (vi x1), s) else none) else if x0 = 4 then (some (some (vi 1), s)) else if x0 = 5 then (if x1 = 0 then (some (some (vi 0), s)) else (if 4 < x2 then (some (some (vi 1), s)) else (some (some (vi 0), s)))) else (if 0 ≤ x1 ∧ x1 ≤ 1 then some (some (vi x1), s) else none) := x_run rfl (x_st 1 dX3_drawsForward_0 rfl (x_br dX3_drawsForward_1 (x_if (x_go 32 (x_st 33 dX3_drawsForward_32 rfl (x_ret dX3_drawsForward_33 rfl))) (x_if (x_go 51 (x_st 52 dX3_drawsForward_51 rfl (x_br dX3_drawsForward_52 x_rg))) (x_if (x_go 34 (x_st 35 dX3_drawsForward_34 rfl (x_ret dX3_drawsForward_35 rfl))) (x_if (x_go 36 (x_st 37 dX3_drawsForward_36 rfl (x_br dX3_drawsForward_37 (x_if (x_go 49 (x_st 50 dX3_drawsForward_49 rfl (x_ret dX3_drawsForward_50 rfl))) (x_go 40 (x_st 41 dX3_drawsForward_40 rfl (x_st 42 dX3_drawsForward_41 rfl (x_br dX3_drawsForward_42 (x_if (x_go 45 (x_st 46 dX3_drawsForward_45 rfl (x_st 50 dX3_drawsForward_46 rfl (x_ret dX3_drawsForward_50 rfl)))) (x_go 49 (x_st 50 dX3_drawsForward_49 rfl (x_ret dX3_drawsForward_50 rfl)))))))))))) (x_go 51 (x_st 52 dX3_drawsForward_51 rfl (x_br dX3_drawsForward_52 x_rg)))))))))
theorem dX1_has_0 : decode cX1_has 0 = .ok (.iload_n 1, 1) := by decide +kernel
theorem dX1_has_1 : decode cX1_has 1 = .ok (.ifCond .lt 15, 3) := by decide +kernel
theorem dX1_has_4 : decode cX1_has 4 = .ok (.iload_n 1, 1) := by decide +kernel
theorem dX1_has_5 : decode cX1_has 5 = .ok (.aload_n 0, 1) := by decide +kernel
theorem dX1_has_6 : decode cX1_has 6 = .ok (.getfield 16, 3) := by decide +kernel
theorem dX1_has_9 : decode cX1_has 9 = .ok (.if_icmp .ge 7, 3) := by decide +kernel
theorem dX1_has_12 : decode cX1_has 12 = .ok (.iconst 1, 1) := by decide +kernel
theorem dX1_has_13 : decode cX1_has 13 = .ok (.goto 4, 3) := by decide +kernel
theorem dX1_has_16 : decode cX1_has 16 = .ok (.iconst 0, 1) := by decide +kernel
theorem dX1_has_17 : decode cX1_has 17 = .ok (.ireturn, 1) := by decide +kernel
theorem qX1_has (d : Nat) (x1 : Int) (s : Sg) : RUN d mX1_has [vr 1 0, vi x1] s = if x1 < 0 then (some (some (vi 0), s)) else (if x1 < (s 1 0 1) then (some (some (vi 1), s)) else (some (some (vi 0), s))) := x_run rfl (x_st 1 dX1_has_0 rfl (x_br dX1_has_1 (x_if (x_go 16 (x_st 17 dX1_has_16 rfl (x_ret dX1_has_17 rfl))) (x_go 4 (x_st 5 dX1_has_4 rfl (x_st 6 dX1_has_5 rfl (x_st 9 dX1_has_6 rfl (x_br dX1_has_9 (x_if (x_go 12 (x_st 13 dX1_has_12 rfl (x_st 17 dX1_has_13 rfl (x_ret dX1_has_17 rfl)))) (x_go 16 (x_st 17 dX1_has_16 rfl (x_ret dX1_has_17 rfl))))))))))))
theorem dX1_put_0 : decode cX1_put 0 = .ok (.aload_n 0, 1) := by decide +kernel
theorem dX1_put_1 : decode cX1_put 1 = .ok (.iload_n 1, 1) := by decide +kernel
theorem dX1_put_2 : decode cX1_put 2 = .ok (.iload_n 2, 1) := by decide +kernel
theorem dX1_put_3 : decode cX1_put 3 = .ok (.invokevirtual 20, 3) := by decide +kernel
theorem dX1_put_6 : decode cX1_put 6 = .ok (.istore 4, 2) := by decide +kernel
theorem dX1_put_8 : decode cX1_put 8 = .ok (.iload_n 1, 1) := by decide +kernel
theorem dX1_put_9 : decode cX1_put 9 = .ok (.ifCond .lt 26, 3) := by decide +kernel
theorem dX1_put_12 : decode cX1_put 12 = .ok (.iload_n 1, 1) := by decide +kernel
theorem dX1_put_13 : decode cX1_put 13 = .ok (.bipush 6, 2) := by decide +kernel
theorem dX1_put_15 : decode cX1_put 15 = .ok (.if_icmp .ge 20, 3) := by decide +kernel
theorem dX1_put_18 : decode cX1_put 18 = .ok (.aload_n 0, 1) := by decide +kernel
theorem dX1_put_19 : decode cX1_put 19 = .ok (.iload_n 2, 1) := by decide +kernel
theorem dX1_put_20 : decode cX1_put 20 = .ok (.invokevirtual 24, 3) := by decide +kernel
theorem dX1_put_23 : decode cX1_put 23 = .ok (.ifCond .eq 12, 3) := by decide +kernel
theorem dX1_put_26 : decode cX1_put 26 = .ok (.aload_n 0, 1) := by decide +kernel
theorem dX1_put_27 : decode cX1_put 27 = .ok (.getfield 11, 3) := by decide +kernel
theorem dX1_put_30 : decode cX1_put 30 = .ok (.iload_n 1, 1) := by decide +kernel
theorem dX1_put_31 : decode cX1_put 31 = .ok (.aaload, 1) := by decide +kernel
theorem dX1_put_32 : decode cX1_put 32 = .ok (.iload_n 2, 1) := by decide +kernel
theorem dX1_put_33 : decode cX1_put 33 = .ok (.iload_n 3, 1) := by decide +kernel
theorem dX1_put_34 : decode cX1_put 34 = .ok (.iastore, 1) := by decide +kernel
theorem dX1_put_35 : decode cX1_put 35 = .ok (.iload 4, 2) := by decide +kernel
theorem dX1_put_37 : decode cX1_put 37 = .ok (.ireturn, 1) := by decide +kernel
theorem qX1_put (d : Nat) (x1 : Int) (x2 : Int) (x3 : Int) (s : Sg) : RUN (d + 1) mX1_put [vr 1 0, vi x1, vi x2, vi x3] s = bI (RUN d mX1_tell [vr 1 0, vi x1, vi x2] s) (fun r1 s1 => if x1 < 0 then (some (some (vi r1), s1)) else (if x1 < 6 then (bI (RUN d mX1_has [vr 1 0, vi x2] s1) (fun r2 s2 => if r2 = 0 then (some (some (vi r1), s2)) else (if inb x1 6 then (if inb x2 6 then (some (some (vi r1), (up s2 3 (Int.toNat x1) (Int.toNat x2) x3))) else none) else none))) else (some (some (vi r1), s1)))) := x_run rfl (x_st 1 dX1_put_0 rfl (x_st 2 dX1_put_1 rfl (x_st 3 dX1_put_2 rfl (x_ci 6 [vr 1 0, vi x1, vi x2, vi x3, UU] [] dX1_put_3 rfl (fun r1 s1 => x_so 8 [vr 1 0, vi x1, vi x2, vi x3, vi r1] dX1_put_6 rfl (x_st 9 dX1_put_8 rfl (x_br dX1_put_9 (x_if (x_go 35 (x_st 37 dX1_put_35 rfl (x_ret dX1_put_37 rfl))) (x_go 12 (x_st 13 dX1_put_12 rfl (x_st 15 dX1_put_13 rfl (x_br dX1_put_15 (x_if (x_go 18 (x_st 19 dX1_put_18 rfl (x_st 20 dX1_put_19 rfl (x_ci 23 [vr 1 0, vi x1, vi x2, vi x3, vi r1] [] dX1_put_20 rfl (fun r2 s2 => x_br dX1_put_23 (x_if (x_go 35 (x_st 37 dX1_put_35 rfl (x_ret dX1_put_37 rfl))) (x_go 26 (x_st 27 dX1_put_26 rfl (x_st 30 dX1_put_27 rfl (x_st 31 dX1_put_30 rfl (x_br dX1_put_31 (x_if (x_go 32 (x_st 33 dX1_put_32 rfl (x_st 34 dX1_put_33 rfl (x_br dX1_put_34 (x_if (x_go 35 (x_st 37 dX1_put_35 rfl (x_ret dX1_put_37 rfl))) x_no))))) x_no)))))))))))) (x_go 35 (x_st 37 dX1_put_35 rfl (x_ret dX1_put_37 rfl))))))))))))))))
theorem dX1_welcome_0 : decode cX1_welcome 0 = .ok (.iconst 5, 1) := by decide +kernel
theorem dX1_welcome_1 : decode cX1_welcome 1 = .ok (.iload_n 1, 1) := by decide +kernel
theorem dX1_welcome_2 : decode cX1_welcome 2 = .ok (.invokestatic 28, 3) := by decide +kernel
theorem dX1_welcome_5 : decode cX1_welcome 5 = .ok (.ifCond .eq 19, 3) := by decide +kernel
theorem dX1_welcome_8 : decode cX1_welcome 8 = .ok (.iconst 0, 1) := by decide +kernel
theorem dX1_welcome_9 : decode cX1_welcome 9 = .ok (.iload_n 2, 1) := by decide +kernel
theorem dX1_welcome_10 : decode cX1_welcome 10 = .ok (.invokestatic 28, 3) := by decide +kernel
theorem dX1_welcome_13 : decode cX1_welcome 13 = .ok (.ifCond .eq 11, 3) := by decide +kernel
theorem dX1_welcome_16 : decode cX1_welcome 16 = .ok (.iconst 2, 1) := by decide +kernel
theorem dX1_welcome_17 : decode cX1_welcome 17 = .ok (.iload_n 3, 1) := by decide +kernel
theorem dX1_welcome_18 : decode cX1_welcome 18 = .ok (.invokestatic 28, 3) := by decide +kernel
theorem dX1_welcome_21 : decode cX1_welcome 21 = .ok (.ifCond .ne 6, 3) := by decide +kernel
theorem dX1_welcome_24 : decode cX1_welcome 24 = .ok (.bipush (-2), 2) := by decide +kernel
theorem dX1_welcome_26 : decode cX1_welcome 26 = .ok (.ireturn, 1) := by decide +kernel
theorem dX1_welcome_27 : decode cX1_welcome 27 = .ok (.aload_n 0, 1) := by decide +kernel
theorem dX1_welcome_28 : decode cX1_welcome 28 = .ok (.getfield 16, 3) := by decide +kernel
theorem dX1_welcome_31 : decode cX1_welcome 31 = .ok (.bipush 6, 2) := by decide +kernel
theorem dX1_welcome_33 : decode cX1_welcome 33 = .ok (.if_icmp .lt 6, 3) := by decide +kernel
theorem dX1_welcome_36 : decode cX1_welcome 36 = .ok (.bipush (-4), 2) := by decide +kernel
theorem dX1_welcome_38 : decode cX1_welcome 38 = .ok (.ireturn, 1) := by decide +kernel
theorem dX1_welcome_39 : decode cX1_welcome 39 = .ok (.aload_n 0, 1) := by decide +kernel
theorem dX1_welcome_40 : decode cX1_welcome 40 = .ok (.dup, 1) := by decide +kernel
theorem dX1_welcome_41 : decode cX1_welcome 41 = .ok (.getfield 16, 3) := by decide +kernel
theorem dX1_welcome_44 : decode cX1_welcome 44 = .ok (.dup_x1, 1) := by decide +kernel
theorem dX1_welcome_45 : decode cX1_welcome 45 = .ok (.iconst 1, 1) := by decide +kernel
theorem dX1_welcome_46 : decode cX1_welcome 46 = .ok (.iadd, 1) := by decide +kernel
theorem dX1_welcome_47 : decode cX1_welcome 47 = .ok (.putfield 16, 3) := by decide +kernel
theorem dX1_welcome_50 : decode cX1_welcome 50 = .ok (.istore 4, 2) := by decide +kernel
theorem dX1_welcome_52 : decode cX1_welcome 52 = .ok (.aload_n 0, 1) := by decide +kernel
theorem dX1_welcome_53 : decode cX1_welcome 53 = .ok (.iconst 5, 1) := by decide +kernel
theorem dX1_welcome_54 : decode cX1_welcome 54 = .ok (.iload 4, 2) := by decide +kernel
theorem dX1_welcome_56 : decode cX1_welcome 56 = .ok (.iload_n 1, 1) := by decide +kernel
theorem dX1_welcome_57 : decode cX1_welcome 57 = .ok (.invokevirtual 32, 3) := by decide +kernel
theorem dX1_welcome_60 : decode cX1_welcome 60 = .ok (.pop, 1) := by decide +kernel
theorem dX1_welcome_61 : decode cX1_welcome 61 = .ok (.aload_n 0, 1) := by decide +kernel
theorem dX1_welcome_62 : decode cX1_welcome 62 = .ok (.iconst 0, 1) := by decide +kernel
theorem dX1_welcome_63 : decode cX1_welcome 63 = .ok (.iload 4, 2) := by decide +kernel
theorem dX1_welcome_65 : decode cX1_welcome 65 = .ok (.iload_n 2, 1) := by decide +kernel
theorem dX1_welcome_66 : decode cX1_welcome 66 = .ok (.invokevirtual 32, 3) := by decide +kernel
theorem dX1_welcome_69 : decode cX1_welcome 69 = .ok (.pop, 1) := by decide +kernel
theorem dX1_welcome_70 : decode cX1_welcome 70 = .ok (.aload_n 0, 1) := by decide +kernel
theorem dX1_welcome_71 : decode cX1_welcome 71 = .ok (.iconst 2, 1) := by decide +kernel
theorem dX1_welcome_72 : decode cX1_welcome 72 = .ok (.iload 4, 2) := by decide +kernel
theorem dX1_welcome_74 : decode cX1_welcome 74 = .ok (.iload_n 3, 1) := by decide +kernel
theorem dX1_welcome_75 : decode cX1_welcome 75 = .ok (.invokevirtual 32, 3) := by decide +kernel
theorem dX1_welcome_78 : decode cX1_welcome 78 = .ok (.pop, 1) := by decide +kernel
theorem dX1_welcome_79 : decode cX1_welcome 79 = .ok (.aload_n 0, 1) := by decide +kernel
theorem dX1_welcome_80 : decode cX1_welcome 80 = .ok (.iconst 1, 1) := by decide +kernel
theorem dX1_welcome_81 : decode cX1_welcome 81 = .ok (.iload 4, 2) := by decide +kernel
theorem dX1_welcome_83 : decode cX1_welcome 83 = .ok (.iconst 0, 1) := by decide +kernel
theorem dX1_welcome_84 : decode cX1_welcome 84 = .ok (.invokevirtual 32, 3) := by decide +kernel
theorem dX1_welcome_87 : decode cX1_welcome 87 = .ok (.pop, 1) := by decide +kernel
theorem dX1_welcome_88 : decode cX1_welcome 88 = .ok (.aload_n 0, 1) := by decide +kernel
theorem dX1_welcome_89 : decode cX1_welcome 89 = .ok (.iconst 3, 1) := by decide +kernel
theorem dX1_welcome_90 : decode cX1_welcome 90 = .ok (.iload 4, 2) := by decide +kernel
theorem dX1_welcome_92 : decode cX1_welcome 92 = .ok (.iconst 0, 1) := by decide +kernel
theorem dX1_welcome_93 : decode cX1_welcome 93 = .ok (.invokevirtual 32, 3) := by decide +kernel
theorem dX1_welcome_96 : decode cX1_welcome 96 = .ok (.pop, 1) := by decide +kernel
theorem dX1_welcome_97 : decode cX1_welcome 97 = .ok (.aload_n 0, 1) := by decide +kernel
theorem dX1_welcome_98 : decode cX1_welcome 98 = .ok (.iconst 4, 1) := by decide +kernel
theorem dX1_welcome_99 : decode cX1_welcome 99 = .ok (.iload 4, 2) := by decide +kernel
theorem dX1_welcome_101 : decode cX1_welcome 101 = .ok (.iconst 0, 1) := by decide +kernel
theorem dX1_welcome_102 : decode cX1_welcome 102 = .ok (.invokevirtual 32, 3) := by decide +kernel
theorem dX1_welcome_105 : decode cX1_welcome 105 = .ok (.pop, 1) := by decide +kernel
theorem dX1_welcome_106 : decode cX1_welcome 106 = .ok (.iload 4, 2) := by decide +kernel
theorem dX1_welcome_108 : decode cX1_welcome 108 = .ok (.ireturn, 1) := by decide +kernel
theorem qX1_welcome (d : Nat) (x1 : Int) (x2 : Int) (x3 : Int) (s : Sg) : RUN (d + 1) mX1_welcome [vr 1 0, vi x1, vi x2, vi x3] s = bI (RUN d mX1_isOne [vi 5, vi x1] s) (fun r1 s1 => if r1 = 0 then (some (some (vi (-2)), s1)) else (bI (RUN d mX1_isOne [vi 0, vi x2] s1) (fun r2 s2 => if r2 = 0 then (some (some (vi (-2)), s2)) else (bI (RUN d mX1_isOne [vi 2, vi x3] s2) (fun r3 s3 => if r3 = 0 then (some (some (vi (-2)), s3)) else (if (s3 1 0 1) < 6 then (bI (RUN d mX1_put [vr 1 0, vi 5, vi (s3 1 0 1), vi x1] (up s3 1 0 1 (w32 ((s3 1 0 1) + 1)))) (fun r4 s4 => bI (RUN d mX1_put [vr 1 0, vi 0, vi (s3 1 0 1), vi x2] s4) (fun r5 s5 => bI (RUN d mX1_put [vr 1 0, vi 2, vi (s3 1 0 1), vi x3] s5) (fun r6 s6 => bI (RUN d mX1_put [vr 1 0, vi 1, vi (s3 1 0 1), vi 0] s6) (fun r7 s7 => bI (RUN d mX1_put [vr 1 0, vi 3, vi (s3 1 0 1), vi 0] s7) (fun r8 s8 => bI (RUN d mX1_put [vr 1 0, vi 4, vi (s3 1 0 1), vi 0] s8) (fun r9 s9 => some (some (vi (s3 1 0 1)), s9)))))))) else (some (some (vi (-4)), s3)))))))) := x_run rfl (x_st 1 dX1_welcome_0 rfl (x_st 2 dX1_welcome_1 rfl (x_ci 5 [vr 1 0, vi x1, vi x2, vi x3, UU] [] dX1_welcome_2 rfl (fun r1 s1 => x_br dX1_welcome_5 (x_if (x_go 24 (x_st 26 dX1_welcome_24 rfl (x_ret dX1_welcome_26 rfl))) (x_go 8 (x_st 9 dX1_welcome_8 rfl (x_st 10 dX1_welcome_9 rfl (x_ci 13 [vr 1 0, vi x1, vi x2, vi x3, UU] [] dX1_welcome_10 rfl (fun r2 s2 => x_br dX1_welcome_13 (x_if (x_go 24 (x_st 26 dX1_welcome_24 rfl (x_ret dX1_welcome_26 rfl))) (x_go 16 (x_st 17 dX1_welcome_16 rfl (x_st 18 dX1_welcome_17 rfl (x_ci 21 [vr 1 0, vi x1, vi x2, vi x3, UU] [] dX1_welcome_18 rfl (fun r3 s3 => x_br dX1_welcome_21 (x_if (x_go 24 (x_st 26 dX1_welcome_24 rfl (x_ret dX1_welcome_26 rfl))) (x_go 27 (x_st 28 dX1_welcome_27 rfl (x_st 31 dX1_welcome_28 rfl (x_st 33 dX1_welcome_31 rfl (x_br dX1_welcome_33 (x_if (x_go 39 (x_st 40 dX1_welcome_39 rfl (x_st 41 dX1_welcome_40 rfl (x_st 44 dX1_welcome_41 rfl (x_st 45 dX1_welcome_44 rfl (x_st 46 dX1_welcome_45 rfl (x_st 47 dX1_welcome_46 rfl (x_st 50 dX1_welcome_47 rfl (x_so 52 [vr 1 0, vi x1, vi x2, vi x3, vi (s3 1 0 1)] dX1_welcome_50 rfl (x_st 53 dX1_welcome_52 rfl (x_st 54 dX1_welcome_53 rfl (x_st 56 dX1_welcome_54 rfl (x_st 57 dX1_welcome_56 rfl (x_ci 60 [vr 1 0, vi x1, vi x2, vi x3, vi (s3 1 0 1)] [] dX1_welcome_57 rfl (fun r4 s4 => x_st 61 dX1_welcome_60 rfl (x_st 62 dX1_welcome_61 rfl (x_st 63 dX1_welcome_62 rfl (x_st 65 dX1_welcome_63 rfl (x_st 66 dX1_welcome_65 rfl (x_ci 69 [vr 1 0, vi x1, vi x2, vi x3, vi (s3 1 0 1)] [] dX1_welcome_66 rfl (fun r5 s5 => x_st 70 dX1_welcome_69 rfl (x_st 71 dX1_welcome_70 rfl (x_st 72 dX1_welcome_71 rfl (x_st 74 dX1_welcome_72 rfl (x_st 75 dX1_welcome_74 rfl (x_ci 78 [vr 1 0, vi x1, vi x2, vi x3, vi (s3 1 0 1)] [] dX1_welcome_75 rfl (fun r6 s6 => x_st 79 dX1_welcome_78 rfl (x_st 80 dX1_welcome_79 rfl (x_st 81 dX1_welcome_80 rfl (x_st 83 dX1_welcome_81 rfl (x_st 84 dX1_welcome_83 rfl (x_ci 87 [vr 1 0, vi x1, vi x2, vi x3, vi (s3 1 0 1)] [] dX1_welcome_84 rfl (fun r7 s7 => x_st 88 dX1_welcome_87 rfl (x_st 89 dX1_welcome_88 rfl (x_st 90 dX1_welcome_89 rfl (x_st 92 dX1_welcome_90 rfl (x_st 93 dX1_welcome_92 rfl (x_ci 96 [vr 1 0, vi x1, vi x2, vi x3, vi (s3 1 0 1)] [] dX1_welcome_93 rfl (fun r8 s8 => x_st 97 dX1_welcome_96 rfl (x_st 98 dX1_welcome_97 rfl (x_st 99 dX1_welcome_98 rfl (x_st 101 dX1_welcome_99 rfl (x_st 102 dX1_welcome_101 rfl (x_ci 105 [vr 1 0, vi x1, vi x2, vi x3, vi (s3 1 0 1)] [] dX1_welcome_102 rfl (fun r9 s9 => x_st 106 dX1_welcome_105 rfl (x_st 108 dX1_welcome_106 rfl (x_ret dX1_welcome_108 rfl))))))))))))))))))))))))))))))))))))))))))))))) (x_go 36 (x_st 38 dX1_welcome_36 rfl (x_ret dX1_welcome_38 rfl))))))))))))))))))))))))))
theorem dX1_tell_0 : decode cX1_tell 0 = .ok (.iload_n 1, 1) := by decide +kernel
theorem dX1_tell_1 : decode cX1_tell 1 = .ok (.ifCond .lt 32, 3) := by decide +kernel
theorem dX1_tell_4 : decode cX1_tell 4 = .ok (.iload_n 1, 1) := by decide +kernel
theorem dX1_tell_5 : decode cX1_tell 5 = .ok (.bipush 6, 2) := by decide +kernel
theorem dX1_tell_7 : decode cX1_tell 7 = .ok (.if_icmp .ge 26, 3) := by decide +kernel
theorem dX1_tell_10 : decode cX1_tell 10 = .ok (.iload_n 2, 1) := by decide +kernel
theorem dX1_tell_11 : decode cX1_tell 11 = .ok (.ifCond .lt 22, 3) := by decide +kernel
theorem dX1_tell_14 : decode cX1_tell 14 = .ok (.iload_n 2, 1) := by decide +kernel
theorem dX1_tell_15 : decode cX1_tell 15 = .ok (.aload_n 0, 1) := by decide +kernel
theorem dX1_tell_16 : decode cX1_tell 16 = .ok (.getfield 16, 3) := by decide +kernel
theorem dX1_tell_19 : decode cX1_tell 19 = .ok (.if_icmp .ge 14, 3) := by decide +kernel
theorem dX1_tell_22 : decode cX1_tell 22 = .ok (.aload_n 0, 1) := by decide +kernel
theorem dX1_tell_23 : decode cX1_tell 23 = .ok (.getfield 11, 3) := by decide +kernel
theorem dX1_tell_26 : decode cX1_tell 26 = .ok (.iload_n 1, 1) := by decide +kernel
theorem dX1_tell_27 : decode cX1_tell 27 = .ok (.aaload, 1) := by decide +kernel
theorem dX1_tell_28 : decode cX1_tell 28 = .ok (.iload_n 2, 1) := by decide +kernel
theorem dX1_tell_29 : decode cX1_tell 29 = .ok (.iaload, 1) := by decide +kernel
theorem dX1_tell_30 : decode cX1_tell 30 = .ok (.goto 4, 3) := by decide +kernel
theorem dX1_tell_33 : decode cX1_tell 33 = .ok (.iconst 0, 1) := by decide +kernel
theorem dX1_tell_34 : decode cX1_tell 34 = .ok (.ireturn, 1) := by decide +kernel
theorem qX1_tell (d : Nat) (x1 : Int) (x2 : Int) (s : Sg) : RUN d mX1_tell [vr 1 0, vi x1, vi x2] s = if x1 < 0 then (some (some (vi 0), s)) else (if x1 < 6 then (if x2 < 0 then (some (some (vi 0), s)) else (if x2 < (s 1 0 1) then (if inb x1 6 then (if inb x2 6 then (some (some (vi (s 3 (Int.toNat x1) (Int.toNat x2))), s)) else none) else none) else (some (some (vi 0), s)))) else (some (some (vi 0), s))) := x_run rfl (x_st 1 dX1_tell_0 rfl (x_br dX1_tell_1 (x_if (x_go 33 (x_st 34 dX1_tell_33 rfl (x_ret dX1_tell_34 rfl))) (x_go 4 (x_st 5 dX1_tell_4 rfl (x_st 7 dX1_tell_5 rfl (x_br dX1_tell_7 (x_if (x_go 10 (x_st 11 dX1_tell_10 rfl (x_br dX1_tell_11 (x_if (x_go 33 (x_st 34 dX1_tell_33 rfl (x_ret dX1_tell_34 rfl))) (x_go 14 (x_st 15 dX1_tell_14 rfl (x_st 16 dX1_tell_15 rfl (x_st 19 dX1_tell_16 rfl (x_br dX1_tell_19 (x_if (x_go 22 (x_st 23 dX1_tell_22 rfl (x_st 26 dX1_tell_23 rfl (x_st 27 dX1_tell_26 rfl (x_br dX1_tell_27 (x_if (x_go 28 (x_st 29 dX1_tell_28 rfl (x_br dX1_tell_29 (x_if (x_go 30 (x_st 34 dX1_tell_30 rfl (x_ret dX1_tell_34 rfl))) x_no)))) x_no)))))) (x_go 33 (x_st 34 dX1_tell_33 rfl (x_ret dX1_tell_34 rfl))))))))))))) (x_go 33 (x_st 34 dX1_tell_33 rfl (x_ret dX1_tell_34 rfl)))))))))))
theorem dX1_size_0 : decode cX1_size 0 = .ok (.aload_n 0, 1) := by decide +kernel
theorem dX1_size_1 : decode cX1_size 1 = .ok (.getfield 16, 3) := by decide +kernel
theorem dX1_size_4 : decode cX1_size 4 = .ok (.ireturn, 1) := by decide +kernel
theorem qX1_size (d : Nat) (s : Sg) : RUN d mX1_size [vr 1 0] s = some (some (vi (s 1 0 1)), s) := x_run rfl (x_st 1 dX1_size_0 rfl (x_st 4 dX1_size_1 rfl (x_ret dX1_size_4 rfl)))
theorem dX1_isOne_0 : decode cX1_isOne 0 = .ok (.iload_n 1, 1) := by decide +kernel
theorem dX1_isOne_1 : decode cX1_isOne 1 = .ok (.ifCond .lt 16, 3) := by decide +kernel
theorem dX1_isOne_4 : decode cX1_isOne 4 = .ok (.iload_n 1, 1) := by decide +kernel
theorem dX1_isOne_5 : decode cX1_isOne 5 = .ok (.getstatic 36, 3) := by decide +kernel
theorem dX1_isOne_8 : decode cX1_isOne 8 = .ok (.iload_n 0, 1) := by decide +kernel
theorem dX1_isOne_9 : decode cX1_isOne 9 = .ok (.iaload, 1) := by decide +kernel
theorem dX1_isOne_10 : decode cX1_isOne 10 = .ok (.if_icmp .gt 7, 3) := by decide +kernel
theorem dX1_isOne_13 : decode cX1_isOne 13 = .ok (.iconst 1, 1) := by decide +kernel
theorem dX1_isOne_14 : decode cX1_isOne 14 = .ok (.goto 4, 3) := by decide +kernel
theorem dX1_isOne_17 : decode cX1_isOne 17 = .ok (.iconst 0, 1) := by decide +kernel
theorem dX1_isOne_18 : decode cX1_isOne 18 = .ok (.ireturn, 1) := by decide +kernel
theorem qX1_isOne (d : Nat) (x0 : Int) (x1 : Int) (s : Sg) : RUN d mX1_isOne [vi x0, vi x1] s = if x1 < 0 then (some (some (vi 0), s)) else (if inb x0 6 then (if (sv 52 (Int.toNat x0)) < x1 then (some (some (vi 0), s)) else (some (some (vi 1), s))) else none) := x_run rfl (x_st 1 dX1_isOne_0 rfl (x_br dX1_isOne_1 (x_if (x_go 17 (x_st 18 dX1_isOne_17 rfl (x_ret dX1_isOne_18 rfl))) (x_go 4 (x_st 5 dX1_isOne_4 rfl (x_st 8 dX1_isOne_5 rfl (x_st 9 dX1_isOne_8 rfl (x_br dX1_isOne_9 (x_if (x_go 10 (x_br dX1_isOne_10 (x_if (x_go 17 (x_st 18 dX1_isOne_17 rfl (x_ret dX1_isOne_18 rfl))) (x_go 13 (x_st 14 dX1_isOne_13 rfl (x_st 18 dX1_isOne_14 rfl (x_ret dX1_isOne_18 rfl))))))) x_no)))))))))
theorem dX1_sendAwayFrom_0 : decode cX1_sendAwayFrom 0 = .ok (.aload_n 0, 1) := by decide +kernel
theorem dX1_sendAwayFrom_1 : decode cX1_sendAwayFrom 1 = .ok (.iload_n 1, 1) := by decide +kernel
theorem dX1_sendAwayFrom_2 : decode cX1_sendAwayFrom 2 = .ok (.invokevirtual 24, 3) := by decide +kernel
theorem dX1_sendAwayFrom_5 : decode cX1_sendAwayFrom 5 = .ok (.ifCond .eq 8, 3) := by decide +kernel
theorem dX1_sendAwayFrom_8 : decode cX1_sendAwayFrom 8 = .ok (.aload_n 0, 1) := by decide +kernel
theorem dX1_sendAwayFrom_9 : decode cX1_sendAwayFrom 9 = .ok (.iload_n 1, 1) := by decide +kernel
theorem dX1_sendAwayFrom_10 : decode cX1_sendAwayFrom 10 = .ok (.putfield 16, 3) := by decide +kernel
theorem dX1_sendAwayFrom_13 : decode cX1_sendAwayFrom 13 = .ok (.return_, 1) := by decide +kernel
theorem qX1_sendAwayFrom (d : Nat) (x1 : Int) (s : Sg) : RUN (d + 1) mX1_sendAwayFrom [vr 1 0, vi x1] s = bI (RUN d mX1_has [vr 1 0, vi x1] s) (fun r1 s1 => if r1 = 0 then (some (none, s1)) else (some (none, (up s1 1 0 1 x1)))) := x_run rfl (x_st 1 dX1_sendAwayFrom_0 rfl (x_st 2 dX1_sendAwayFrom_1 rfl (x_ci 5 [vr 1 0, vi x1] [] dX1_sendAwayFrom_2 rfl (fun r1 s1 => x_br dX1_sendAwayFrom_5 (x_if (x_go 13 (x_ret dX1_sendAwayFrom_13 rfl)) (x_go 8 (x_st 9 dX1_sendAwayFrom_8 rfl (x_st 10 dX1_sendAwayFrom_9 rfl (x_st 13 dX1_sendAwayFrom_10 rfl (x_ret dX1_sendAwayFrom_13 rfl))))))))))
