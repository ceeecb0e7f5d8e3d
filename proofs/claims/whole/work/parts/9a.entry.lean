/-! THE LAW 1: what its entry gives: array classes, statics, links of nest mates -/
theorem over2_spec {args : Array Value} {s : State} (h : (Cond.arrayOver (.array .int)).before args s = true) : ∃ (comp c : ClassId) (k : Class), s.vm.findClass (FieldType.array .int).toString = some comp ∧ s.vm.classes[c]? = some k ∧ k.kind = .array comp (.array .int) ∧ s.vm.findClass ("[" ++ (FieldType.array .int).toString) = some c := by
  simp only [Cond.before, Cond.holds, Cond.value, beq_iff_eq] at h
  cases hc : s.vm.findClass (FieldType.array .int).toString with
  | none => simp [hc] at h
  | some comp =>
    simp only [hc, Option.bind_some, Option.bind_eq_some_iff, Option.map_eq_some_iff] at h
    obtain ⟨c, hi, k, hk, hb⟩ := h
    obtain ⟨hlt, hp, -⟩ := Array.findIdx?_eq_some_iff_getElem.mp hi
    rw [(Array.getElem?_eq_some_iff.mp hk).2] at hp
    cases hkind : k.kind with
    | array component ty =>
      rw [hkind] at hb hp
      simp at hb hp
      exact ⟨comp, c, k, rfl, hk, by rw [hkind, hp, hb.1], hb.2⟩
    | _ => rw [hkind] at hb; simp at hb
section EN
variable {s : State} {b : Nat}
theorem t1 {w : Cond} (hts : ∀ w ∈ lw_tbl, w.before #[Value.ref b] s = true) (i : Nat) (h : tables_1_1[i]? = some w) : w.before #[Value.ref b] s = true := hts w (tb_in.1 _ (List.mem_of_getElem? h))
theorem t2 {w : Cond} (hts : ∀ w ∈ lw_tbl, w.before #[Value.ref b] s = true) (i : Nat) (h : tables_1_2[i]? = some w) : w.before #[Value.ref b] s = true := hts w (tb_in.2.1 _ (List.mem_of_getElem? h))
theorem t3 {w : Cond} (hts : ∀ w ∈ lw_tbl, w.before #[Value.ref b] s = true) (i : Nat) (h : tables_1_3[i]? = some w) : w.before #[Value.ref b] s = true := hts w (tb_in.2.2.1 _ (List.mem_of_getElem? h))
theorem t4 {w : Cond} (hts : ∀ w ∈ lw_tbl, w.before #[Value.ref b] s = true) (i : Nat) (h : tables_1_4[i]? = some w) : w.before #[Value.ref b] s = true := hts w (tb_in.2.2.2.1 _ (List.mem_of_getElem? h))
theorem t5 {w : Cond} (hts : ∀ w ∈ lw_tbl, w.before #[Value.ref b] s = true) (i : Nat) (h : tables_1_5[i]? = some w) : w.before #[Value.ref b] s = true := hts w (tb_in.2.2.2.2.1 _ (List.mem_of_getElem? h))
theorem en_arr (hts : ∀ w ∈ lw_tbl, w.before #[Value.ref b] s = true) : ∃ Aa : Nat → ClassId, (∀ (k : Nat) (q : ClassId × FieldType), (tyS Aa)[k]? = some q → ArrOfT s q.1 q.2 ∧ va_RA s q.1 q.2) ∧ ovA Aa s := by
  obtain ⟨cI, kI, eI, f1, f2, f3⟩ := Cond.arrayClass_spec (t1 hts 41 (by decide +kernel) : (Cond.arrayClass .int).before #[Value.ref b] s = true)
  obtain ⟨cB, kB, eB, g1, g2, g3⟩ := Cond.arrayClass_spec (t5 hts 64 (by decide +kernel) : (Cond.arrayClass .boolean).before #[Value.ref b] s = true)
  obtain ⟨cJ, cA, kA, h1, h2, h3, h4⟩ := over2_spec (t1 hts 33 (by decide +kernel) : (Cond.arrayOver (.array .int)).before #[Value.ref b] s = true)
  obtain ⟨cS, cQ, kQ, i1, i2, i3, i4, i5⟩ := Cond.arrayOver_spec (t1 hts 198 (by decide +kernel) : (Cond.arrayOver (.object "OtherSidesPump$Sheet")).before #[Value.ref b] s = true)
  have f1 : s.vm.findClass (FieldType.array .int).toString = some cI := f1
  have e1 : cJ = cI := Option.some.inj (h1.symm.trans f1)
  subst e1
  refine ⟨fun k => if k = 0 then cJ else if k = 1 then cB else if k = 2 then cA else cQ, fun k q hq => ?_, kA, h2, h3⟩
  match k, hq with
  | 0, hq => cases hq; exact ⟨fun n z => ⟨fun k h => (by cases h), kI, f2, eI, f3⟩, f1⟩
  | 1, hq => cases hq; exact ⟨fun n z => ⟨fun k h => (by cases h), kB, g2, eB, g3⟩, g1⟩
  | 2, hq => cases hq; exact ⟨fun n z => ⟨fun k h => (by cases h), kA, h2, cJ, h3⟩, h4⟩
  | 3, hq => cases hq; exact ⟨fun n z => ⟨fun k h => (by cases h), kQ, i3, cS, i4⟩, kQ, cS, i3, i4, i1, i5⟩
  | k + 4, hq => simp at hq
theorem en_nst (hts : ∀ w ∈ lw_tbl, w.before #[Value.ref b] s = true) : nst s ∧ va_AO "OtherSidesPump$Sheet" s :=
  ⟨⟨va_Nw.of rfl (t1 hts 28 (by decide +kernel)), va_Nw.of rfl (t1 hts 44 (by decide +kernel)), va_Nw.of rfl (t1 hts 182 (by decide +kernel)), va_Nw.of rfl (t1 hts 200 (by decide +kernel))⟩, va_AO.of (t1 hts 198 (by decide +kernel))⟩
abbrev lwF : List Cond := flatC (Jvm.Cond.and given_1 narrow_1)
abbrev tmS (c : Nat) : Term := if c = 52 then .static "OtherSidesPump" "HIGHEST" "[I" else if c = 53 then .static "OtherSidesPump" "SOUGHT" "[I" else .static "OtherSidesPump$Kinds" "ABOVE" "[I"
abbrev tmK (c : Nat) : Term := if c = 55 then .string "OtherSidesPump" 64 else if c = 56 then .string "OtherSidesPump$Reader" 115 else .string "OtherSidesPump$Reader" 109
theorem ar_52 : Cond.arrayOf (.static "OtherSidesPump" "HIGHEST" "[I") .int ∈ lwF ∧ Cond.eq (.length (.static "OtherSidesPump" "HIGHEST" "[I")) (.int (Int32.ofNat 6)) ∈ lwF ∧ ∀ j, j < 6 → Cond.eq (.elem (.static "OtherSidesPump" "HIGHEST" "[I") (.int (Int32.ofNat j))) (.int (Int32.ofInt (sv 52 j))) ∈ lwF := by decide +kernel
theorem ar_53 : Cond.arrayOf (.static "OtherSidesPump" "SOUGHT" "[I") .int ∈ lwF ∧ Cond.eq (.length (.static "OtherSidesPump" "SOUGHT" "[I")) (.int (Int32.ofNat 7)) ∈ lwF ∧ ∀ j, j < 7 → Cond.eq (.elem (.static "OtherSidesPump" "SOUGHT" "[I") (.int (Int32.ofNat j))) (.int (Int32.ofInt (sv 53 j))) ∈ lwF := by decide +kernel
theorem ar_54 : Cond.arrayOf (.static "OtherSidesPump$Kinds" "ABOVE" "[I") .int ∈ lwF ∧ Cond.eq (.length (.static "OtherSidesPump$Kinds" "ABOVE" "[I")) (.int (Int32.ofNat 6)) ∈ lwF ∧ ∀ j, j < 6 → Cond.eq (.elem (.static "OtherSidesPump$Kinds" "ABOVE" "[I") (.int (Int32.ofNat j))) (.int (Int32.ofInt (sv 54 j))) ∈ lwF := by decide +kernel
theorem st_55 : Cond.exactly (.string "OtherSidesPump" 64) "java/lang/String" ∈ lwF ∧ Cond.eq (.field (.string "OtherSidesPump" 64) "java/lang/String" "coder" "B") (.int 0) ∈ lwF ∧ Cond.arrayOf (.field (.string "OtherSidesPump" 64) "java/lang/String" "value" "[B") .byte ∈ lwF ∧ Cond.eq (.length (.field (.string "OtherSidesPump" 64) "java/lang/String" "value" "[B")) (.int (Int32.ofNat 32)) ∈ lwF ∧ ∀ j, j < 32 → Cond.eq (.elem (.field (.string "OtherSidesPump" 64) "java/lang/String" "value" "[B") (.int (Int32.ofNat j))) (.int (Int32.ofInt (sv 58 j))) ∈ lwF := by decide +kernel
theorem st_56 : Cond.exactly (.string "OtherSidesPump$Reader" 115) "java/lang/String" ∈ lwF ∧ Cond.eq (.field (.string "OtherSidesPump$Reader" 115) "java/lang/String" "coder" "B") (.int 0) ∈ lwF ∧ Cond.arrayOf (.field (.string "OtherSidesPump$Reader" 115) "java/lang/String" "value" "[B") .byte ∈ lwF ∧ Cond.eq (.length (.field (.string "OtherSidesPump$Reader" 115) "java/lang/String" "value" "[B")) (.int (Int32.ofNat 65)) ∈ lwF ∧ ∀ j, j < 65 → Cond.eq (.elem (.field (.string "OtherSidesPump$Reader" 115) "java/lang/String" "value" "[B") (.int (Int32.ofNat j))) (.int (Int32.ofInt (sv 59 j))) ∈ lwF := by decide +kernel
theorem st_57 : Cond.exactly (.string "OtherSidesPump$Reader" 109) "java/lang/String" ∈ lwF ∧ Cond.eq (.field (.string "OtherSidesPump$Reader" 109) "java/lang/String" "coder" "B") (.int 0) ∈ lwF ∧ Cond.arrayOf (.field (.string "OtherSidesPump$Reader" 109) "java/lang/String" "value" "[B") .byte ∈ lwF ∧ Cond.eq (.length (.field (.string "OtherSidesPump$Reader" 109) "java/lang/String" "value" "[B")) (.int (Int32.ofNat 8)) ∈ lwF ∧ ∀ j, j < 8 → Cond.eq (.elem (.field (.string "OtherSidesPump$Reader" 109) "java/lang/String" "value" "[B") (.int (Int32.ofNat j))) (.int (Int32.ofInt (sv 60 j))) ∈ lwF := by decide +kernel
theorem en_str {A : Nat → Prop} {tm : Term} {N c : Nat} (hs : ∀ w ∈ lwF, w.before #[Value.ref b] s = true) (hA : ∀ a : Nat, a < s.heap.size → ¬ A a) (hN : N < 2 ^ 31) (h : Cond.exactly tm "java/lang/String" ∈ lwF ∧ Cond.eq (.field tm "java/lang/String" "coder" "B") (.int 0) ∈ lwF ∧ Cond.arrayOf (.field tm "java/lang/String" "value" "[B") .byte ∈ lwF ∧ Cond.eq (.length (.field tm "java/lang/String" "value" "[B")) (.int (Int32.ofNat N)) ∈ lwF ∧ ∀ j, j < N → Cond.eq (.elem (.field tm "java/lang/String" "value" "[B") (.int (Int32.ofNat j))) (.int (Int32.ofInt (sv c j))) ∈ lwF) :
    ∃ t v : Nat, tm.eval #[Value.ref b] s none [] s = some (.ref t) ∧ (va_O "java/lang/String" t A s s.heap ∧ va_OF "java/lang/String" "coder" "B" (.int 0) t A s s.heap ∧ va_OF "java/lang/String" "value" "[B" (.ref v) t A s s.heap) ∧ va_T .byte v N (fun i => .int (Int32.ofInt (sv c i))) A s s.heap := by
  obtain ⟨h1, h2, h3, h4, h5⟩ := h
  obtain ⟨t, -, -, -, ht, -⟩ := Cond.exactly_spec (hs _ h1)
  obtain ⟨v, hv, hT⟩ := va_Tof (f := fun i => .int (Int32.ofInt (sv c i))) hN (hs _ h3) (va_eqt (hs _ h4)) (fun j hj => va_eqt (hs _ (h5 j hj))) hA
  exact ⟨t, v, ht, ⟨va_Oof (hs _ h1) ht hA, vk_OFof ht (va_eqt (hs _ h2)) hA, vk_OFof ht hv hA⟩, hT⟩
theorem en_SF {A : Nat → Prop} (hts : ∀ w ∈ lw_tbl, w.before #[Value.ref b] s = true) (hgv : (Jvm.Cond.and given_1 narrow_1).before #[Value.ref b] s = true) (hA : ∀ a : Nat, a < s.heap.size → ¬ A a) : ∃ (adS : Nat → Nat → Nat) (nz : Value), nz.category = 1 ∧ SF adS nz A s s.heap := by
  have hs := flat_of_before _ hgv
  obtain ⟨t52, v52, T52⟩ := va_Tof (f := fun i => .int (Int32.ofInt (sv 52 i))) (by decide) (hs _ ar_52.1) (va_eqt (hs _ ar_52.2.1)) (fun j hj => va_eqt (hs _ (ar_52.2.2 j hj))) hA
  obtain ⟨t53, v53, T53⟩ := va_Tof (f := fun i => .int (Int32.ofInt (sv 53 i))) (by decide) (hs _ ar_53.1) (va_eqt (hs _ ar_53.2.1)) (fun j hj => va_eqt (hs _ (ar_53.2.2 j hj))) hA
  obtain ⟨t54, v54, T54⟩ := va_Tof (f := fun i => .int (Int32.ofInt (sv 54 i))) (by decide) (hs _ ar_54.1) (va_eqt (hs _ ar_54.2.1)) (fun j hj => va_eqt (hs _ (ar_54.2.2 j hj))) hA
  obtain ⟨t55, t58, k55, O55, T58⟩ := en_str (c := 58) hs hA (by decide) st_55
  obtain ⟨t56, t59, k56, O56, T59⟩ := en_str (c := 59) hs hA (by decide) st_56
  obtain ⟨t57, t60, k57, O57, T60⟩ := en_str (c := 60) hs hA (by decide) st_57
  have Z52 := va_Zof (A := A) (t2 hts 216 (by decide +kernel) : (Cond.laysStatic "OtherSidesPump" "HIGHEST" "[I").before #[Value.ref b] s = true) (hts _ (List.mem_filter.mp gi_8).1) v52 hA
  have Z53 := va_Zof (A := A) (t4 hts 31 (by decide +kernel) : (Cond.laysStatic "OtherSidesPump" "SOUGHT" "[I").before #[Value.ref b] s = true) (hts _ (List.mem_filter.mp gi_8).1) v53 hA
  have Z54 := va_Zof (A := A) (t4 hts 161 (by decide +kernel) : (Cond.laysStatic "OtherSidesPump$Kinds" "ABOVE" "[I").before #[Value.ref b] s = true) (hts _ (List.mem_filter.mp gi_3).1) v54 hA
  have Zc := va_Zof (A := A) (t1 hts 228 (by decide +kernel) : (Cond.laysStatic "java/lang/String" "COMPACT_STRINGS" "Z").before #[Value.ref b] s = true) (hts _ (List.mem_filter.mp gi_20).1) (va_eqt (hs _ (by decide +kernel : Cond.eq (.static "java/lang/String" "COMPACT_STRINGS" "Z") (.int 1) ∈ lwF))) hA
  have Zp := va_Zqof (A := A) (t2 hts 4 (by decide +kernel) : (Cond.laysStatic "jdk/internal/util/Preconditions" "SIOOBE_FORMATTER" "Ljava/util/function/BiFunction;").before #[Value.ref b] s = true) (hts _ (List.mem_filter.mp gi_23).1) (hs _ (by decide +kernel : Cond.isRef (.static "jdk/internal/util/Preconditions" "SIOOBE_FORMATTER" "Ljava/util/function/BiFunction;") ∈ lwF)) hA
  have hZ : ∃ nz : Value, nz.category = 1 ∧ va_Z "jdk/internal/util/Preconditions" "SIOOBE_FORMATTER" "Ljava/util/function/BiFunction;" nz A s s.heap := by
    rcases Zp with h | ⟨t, h⟩
    · exact ⟨_, rfl, h⟩
    · exact ⟨_, rfl, h⟩
  obtain ⟨nz, hz, Zn⟩ := hZ
  refine ⟨fun c _ => if c = 52 then t52 else if c = 53 then t53 else if c = 54 then t54 else if c = 55 then t55 else if c = 56 then t56 else if c = 57 then t57 else if c = 58 then t58 else if c = 59 then t59 else t60, nz, hz, ⟨Z52, Z53, Z54, Zc, Zn⟩, fun c q1 q2 => ?_, fun c q1 q2 => ?_, fun c q1 q2 => ?_, ⟨vk_R.of (t1 hts 214 (by decide +kernel)) k55, vk_R.of (t2 hts 51 (by decide +kernel)) k56, vk_R.of (t2 hts 64 (by decide +kernel)) k57⟩, va_Nw.of rfl (t2 hts 237 (by decide +kernel)), va_Nw.of rfl (t3 hts 224 (by decide +kernel))⟩
  · have : c = 52 ∨ c = 53 ∨ c = 54 := by omega
    rcases this with rfl | rfl | rfl
    · exact T52
    · exact T53
    · exact T54
  · have : c = 58 ∨ c = 59 ∨ c = 60 := by omega
    rcases this with rfl | rfl | rfl
    · exact T58
    · exact T59
    · exact T60
  · have : c = 55 ∨ c = 56 ∨ c = 57 := by omega
    rcases this with rfl | rfl | rfl
    · exact O55
    · exact O56
    · exact O57
end EN
