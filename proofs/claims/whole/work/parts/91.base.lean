/-! CONSTRUCTORS 1: worlds as sets of cells; rows over the array classes that are known -/
theorem vP_iff {D : va_G} {cl : List vw_C} {ws : va_W} {H : Heap} : va_P D cl ws H ↔ ∀ q ∈ ws, va_at D cl q H :=
  ⟨fun h q hq => by obtain ⟨k, hk⟩ := List.getElem?_of_mem hq; exact h k q hk, fun h k q hk => h q (List.mem_of_getElem? hk)⟩
theorem vD_iff {A : Nat → Prop} {ws : va_W} : va_D A ws ↔ (ws.map (fun q => q.1)).Nodup ∧ ∀ q ∈ ws, A q.1 := by
  constructor
  · intro h
    refine ⟨?_, fun q hq => by obtain ⟨k, hk⟩ := List.getElem?_of_mem hq; exact h.2 k q hk⟩
    refine List.pairwise_iff_getElem.mpr (fun i j hi hj hij he => ?_)
    rw [List.length_map] at hi hj
    rw [List.getElem_map, List.getElem_map] at he
    have := h.1 i j _ _ (List.getElem?_eq_getElem hi) (List.getElem?_eq_getElem hj) he
    omega
  · rintro ⟨h1, h2⟩
    refine ⟨fun i j p q hi hj he => ?_, fun k q hk => h2 q (List.mem_of_getElem? hk)⟩
    have e1 : (ws.map (fun q => q.1))[i]? = some p.1 := by rw [List.getElem?_map, hi]; rfl
    have e2 : (ws.map (fun q => q.1))[j]? = some p.1 := by rw [List.getElem?_map, hj, he]; rfl
    exact (List.getElem?_inj (List.getElem?_eq_some_iff.mp e1).1 h1).mp (e1.trans e2.symm)
theorem vP_perm {D : va_G} {cl : List vw_C} {w1 w2 : va_W} {H : Heap} (hp : w1.Perm w2) (h : va_P D cl w1 H) : va_P D cl w2 H := vP_iff.mpr (fun q hq => vP_iff.mp h q (hp.mem_iff.mpr hq))
theorem vD_perm {A : Nat → Prop} {w1 w2 : va_W} (hp : w1.Perm w2) (h : va_D A w1) : va_D A w2 := by
  obtain ⟨h1, h2⟩ := vD_iff.mp h
  exact vD_iff.mpr ⟨(hp.map _).nodup_iff.mp h1, fun q hq => h2 q (hp.mem_iff.mpr hq)⟩
theorem vP_l {D : va_G} {cl : List vw_C} {w1 w2 : va_W} {H : Heap} (h : va_P D cl (w1 ++ w2) H) : va_P D cl w1 H := vP_iff.mpr (fun q hq => vP_iff.mp h q (List.mem_append.mpr (Or.inl hq)))
theorem vP_r {D : va_G} {cl : List vw_C} {w1 w2 : va_W} {H : Heap} (h : va_P D cl (w1 ++ w2) H) : va_P D cl w2 H := vP_iff.mpr (fun q hq => vP_iff.mp h q (List.mem_append.mpr (Or.inr hq)))
theorem vD_r {A : Nat → Prop} {w1 w2 : va_W} (h : va_D A (w1 ++ w2)) : va_D A w2 := by
  obtain ⟨h1, h2⟩ := vD_iff.mp h
  rw [List.map_append] at h1
  exact vD_iff.mpr ⟨(List.nodup_append.mp h1).2.1, fun q hq => h2 q (List.mem_append.mpr (Or.inr hq))⟩
theorem vD_l {A : Nat → Prop} {w1 w2 : va_W} (h : va_D A (w1 ++ w2)) : va_D A w1 := by
  obtain ⟨h1, h2⟩ := vD_iff.mp h
  rw [List.map_append] at h1
  exact vD_iff.mpr ⟨(List.nodup_append.mp h1).1, fun q hq => h2 q (List.mem_append.mpr (Or.inl hq))⟩
/-- behind a call that got the last cells: the rest is as it was -/
theorem v_join {A0 : Nat → Prop} {D : va_G} {cl : List vw_C} {ws wc w1 : va_W} {H H1 : Heap} (hP : va_P D cl (ws ++ wc) H) (hD : va_D A0 (ws ++ wc)) (hk : ∀ q : Nat, q < H.size → ¬ va_A wc H.size q → H1[q]? = H[q]?) (hF : ∀ q, va_A wc H.size q → A0 q) (hP1 : va_P D cl w1 H1) (hD1 : va_D (va_A wc H.size) w1) : va_P D cl (ws ++ w1) H1 ∧ va_D A0 (ws ++ w1) := by
  obtain ⟨d1, d2⟩ := vD_iff.mp hD
  rw [List.map_append, List.nodup_append] at d1
  have apart : ∀ q ∈ ws, q.1 < H.size ∧ ¬ va_A wc H.size q.1 := by
    intro q hq
    obtain ⟨k, hk⟩ := List.getElem?_of_mem hq
    have hl := (vP_l hP k q hk).lt
    refine ⟨hl, fun h => ?_⟩
    rcases h with ⟨k2, e, h⟩ | h
    · exact d1.2.2 q.1 (List.mem_map_of_mem hq) q.1 (List.mem_map.mpr ⟨(q.1, e), List.mem_of_getElem? h, rfl⟩) rfl
    · omega
  refine ⟨vP_iff.mpr (fun q hq => ?_), vD_iff.mpr ⟨?_, fun q hq => ?_⟩⟩
  · rcases List.mem_append.mp hq with h | h
    · obtain ⟨k, h9⟩ := List.getElem?_of_mem h
      exact (vP_l hP k q h9).kept (hk q.1 (apart q h).1 (apart q h).2)
    · exact vP_iff.mp hP1 q h
  · rw [List.map_append, List.nodup_append]
    refine ⟨d1.1, (vD_iff.mp hD1).1, fun a ha b hb hab => ?_⟩
    obtain ⟨q, hq, rfl⟩ := List.mem_map.mp ha
    obtain ⟨q2, hq2, rfl⟩ := List.mem_map.mp hb
    exact (apart q hq).2 (by rw [hab]; exact (vD_iff.mp hD1).2 q2 hq2)
  · rcases List.mem_append.mp hq with h | h
    · exact d2 q (List.mem_append.mpr (Or.inl h))
    · exact hF _ ((vD_iff.mp hD1).2 q h)
abbrev zI (n : Nat) : vp_A := (n, .inl (fun _ => 0))
abbrev zQ (n : Nat) (r : Nat → Nat) : vp_A := (n, .inr (.inr (.inr (.inr (fun i => if i < n then some (r i) else none)))))
abbrev tyS (Aa : Nat → ClassId) : List (ClassId × FieldType) := [(Aa 0, .int), (Aa 1, .boolean), (Aa 2, .array .int), (Aa 3, .object "OtherSidesPump$Sheet")]
def ovA (Aa : Nat → ClassId) (U : State) : Prop := ∃ kA : Class, U.vm.classes[Aa 2]? = some kA ∧ kA.kind = .array (Aa 0) (.array .int)
theorem ovA.moved {Aa : Nat → ClassId} {u U : State} (hvm : u.vm.Alike U.vm) (h : ovA Aa u) : ovA Aa U := by
  obtain ⟨kA, h1, h2⟩ := h
  obtain ⟨k', hk', he⟩ := hvm.2.2 _ _ h1
  exact ⟨k', hk', by rw [he]; exact h2⟩
section NW
variable {p : Program} {l : Launch} {e : Env} {R : Room} {s : State} {m : MethodId} {args : Array Value} {below : List Frame} {meth : Method} {c : Code} {H : Heap} {locs : List Loc} {cells slots : Nat} {Q : State → Prop}
variable {cc : ByteArray} {pc : Nat} {ls : Array Slot} {rest : List Value} {D : va_G} {cl : List vw_C} {A : Nat → Prop} {a : Nat} {ws : va_W} {H0 : Heap} {Aa : Nat → ClassId}
theorem nw_int (hexec : p.tables.exec = Jvm.exec) (hb : c.code = cc) (harr : (Cond.arrayClass .int).before args s = true) (hK : va_K D cl (tyS Aa) s) (hP : va_P D cl ws H) (hD : va_D A ws) (hS : va_S A H0 H locs) (hA : ∀ q, H0.size ≤ q → A q)
    {n : Int32} {N' : Nat} (hn : ¬ n < 0) (hN : n.toNatClampNeg = N') (hbytes : N' ≤ 1000) (hcells : cells + 1 ≤ R.cells) (hslots : slots + N' ≤ R.slots) (hdg : decode cc pc = .ok (.newarray .int, 2))
    (kk : ∀ (q : Nat) (H1 : Heap), va_P D cl (ws ++ [(q, .inl (Aa 0, zI N'))]) H1 → va_D A (ws ++ [(q, .inl (Aa 0, zI N'))]) → va_S A H0 H1 locs →
      W p l e R s m args below meth c H1 locs (cells + 1) (slots + N') Q (F0 m (pc + 2) ls (.ref q :: rest))) : W p l e R s m args below meth c H locs cells slots Q (F0 m pc ls (.int n :: rest)) := by
  refine va_newa (atype := .int) (ty := .int) (a0 := zI N') hexec hb harr rfl hK hP hD hS hA (fun _ => rfl) hn hN (by show N' * 4 ≤ _; omega) hcells hslots hdg (fun q cA H1 hK1 hP1 hD1 hS1 => ?_)
  have e1 : s.vm.findClass ("[" ++ FieldType.int.toString) = some cA := (hK1.2 4 (cA, .int) rfl).2
  have e2 : s.vm.findClass ("[" ++ FieldType.int.toString) = some (Aa 0) := (hK.2 0 (Aa 0, .int) rfl).2
  have e3 : cA = Aa 0 := Option.some.inj (e1.symm.trans e2)
  subst e3
  exact kk q H1 hP1 hD1 hS1
theorem nw_bool (hexec : p.tables.exec = Jvm.exec) (hb : c.code = cc) (harr : (Cond.arrayClass .boolean).before args s = true) (hK : va_K D cl (tyS Aa) s) (hP : va_P D cl ws H) (hD : va_D A ws) (hS : va_S A H0 H locs) (hA : ∀ q, H0.size ≤ q → A q)
    {n : Int32} {N' : Nat} (hn : ¬ n < 0) (hN : n.toNatClampNeg = N') (hbytes : N' ≤ 1000) (hcells : cells + 1 ≤ R.cells) (hslots : slots + N' ≤ R.slots) (hdg : decode cc pc = .ok (.newarray .boolean, 2))
    (kk : ∀ (q : Nat) (H1 : Heap), va_P D cl (ws ++ [(q, .inl (Aa 1, zI N'))]) H1 → va_D A (ws ++ [(q, .inl (Aa 1, zI N'))]) → va_S A H0 H1 locs →
      W p l e R s m args below meth c H1 locs (cells + 1) (slots + N') Q (F0 m (pc + 2) ls (.ref q :: rest))) : W p l e R s m args below meth c H locs cells slots Q (F0 m pc ls (.int n :: rest)) := by
  refine va_newa (atype := .boolean) (ty := .boolean) (a0 := zI N') hexec hb harr rfl hK hP hD hS hA (fun _ => rfl) hn hN (by show N' * 1 ≤ _; omega) hcells hslots hdg (fun q cA H1 hK1 hP1 hD1 hS1 => ?_)
  have e1 : s.vm.findClass ("[" ++ FieldType.boolean.toString) = some cA := (hK1.2 4 (cA, .boolean) rfl).2
  have e2 : s.vm.findClass ("[" ++ FieldType.boolean.toString) = some (Aa 1) := (hK.2 1 (Aa 1, .boolean) rfl).2
  have e3 : cA = Aa 1 := Option.some.inj (e1.symm.trans e2)
  subst e3
  exact kk q H1 hP1 hD1 hS1
theorem nw_sheets (hexec : p.tables.exec = Jvm.exec) (hb : c.code = cc) {own : String} {index : Nat} (hown : s.vm.findClass own = some m.cls) (hclink : (Cond.classLink own index "OtherSidesPump$Sheet").before args s = true) (hover : va_AO "OtherSidesPump$Sheet" s) (hK : va_K D cl (tyS Aa) s) (hP : va_P D cl ws H) (hD : va_D A ws) (hS : va_S A H0 H locs) (hA : ∀ q, H0.size ≤ q → A q)
    {n : Int32} {N' : Nat} (hn : ¬ n < 0) (hN : n.toNatClampNeg = N') (hbytes : N' ≤ 1000) (hcells : cells + 1 ≤ R.cells) (hslots : slots + N' ≤ R.slots) (hdg : decode cc pc = .ok (.anewarray index, 3))
    (kk : ∀ (q : Nat) (H1 : Heap), va_P D cl (ws ++ [(q, .inl (Aa 3, N', .inr (.inr (.inr (.inr (fun _ => none))))))]) H1 → va_D A (ws ++ [(q, .inl (Aa 3, N', .inr (.inr (.inr (.inr (fun _ => none))))))]) → va_S A H0 H1 locs →
      W p l e R s m args below meth c H1 locs (cells + 1) (slots + N') Q (F0 m (pc + 3) ls (.ref q :: rest))) : W p l e R s m args below meth c H locs cells slots Q (F0 m pc ls (.int n :: rest)) := by
  refine va_newq hexec hb hown hclink hover hK hP hD hS hA hn hN (by omega) hcells hslots hdg (fun q cA H1 hK1 hP1 hD1 hS1 => ?_)
  obtain ⟨-, -, -, -, -, e1⟩ := (hK1.2 4 (cA, .object "OtherSidesPump$Sheet") rfl).2
  obtain ⟨-, -, -, -, -, e2⟩ := (hK.2 3 (Aa 3, .object "OtherSidesPump$Sheet") rfl).2
  have e3 : cA = Aa 3 := Option.some.inj (e1.symm.trans e2)
  subst e3
  exact kk q H1 hP1 hD1 hS1
theorem nw_mna (hexec : p.tables.exec = Jvm.exec) (hb : c.code = cc) {own : String} {index : Nat} (hown : s.vm.findClass own = some m.cls) (hclink : (Cond.classLink own index "[[I").before args s = true) (hover : ovA Aa s) (hK : va_K D cl (tyS Aa) s) (hP : va_P D cl ws H) (hD : va_D A ws) (hS : va_S A H0 H locs) (hA : ∀ q, H0.size ≤ q → A q)
    {n k : Int32} {N' K' : Nat} (hn : ¬ n < 0) (hk : ¬ k < 0) (hN : n.toNatClampNeg = N') (hM : k.toNatClampNeg = K') (hb1 : N' ≤ 1000) (hb2 : K' ≤ 1000) (hcells : cells + (1 + N') ≤ R.cells) (hslots : slots + (N' + N' * K') ≤ R.slots) (hdg : decode cc pc = .ok (.multianewarray index 2, 4))
    (kk : ∀ (q : Nat) (r : Nat → Nat) (H1 : Heap), va_P D cl (ws ++ ((q, .inl (Aa 2, zQ N' r)) :: (List.range N').map (fun i => (r i, .inl (Aa 0, zI K'))))) H1 → va_D A (ws ++ ((q, .inl (Aa 2, zQ N' r)) :: (List.range N').map (fun i => (r i, .inl (Aa 0, zI K'))))) → va_S A H0 H1 locs →
      W p l e R s m args below meth c H1 locs (cells + 1 + N') (slots + N' + N' * K') Q (F0 m (pc + 4) ls (.ref q :: rest))) : W p l e R s m args below meth c H locs cells slots Q (F0 m pc ls (.int k :: .int n :: rest)) := by
  subst hN
  subst hM
  intro T hT X
  obtain ⟨kA, hkA, hkindA⟩ := hover
  obtain ⟨-, kI, hkI, cI, hkindI⟩ := (hK.2 0 (Aa 0, .int) rfl).1 0 (fun _ => .int 0)
  have hfA : s.vm.findClass "[[I" = some (Aa 2) := (hK.2 2 (Aa 2, .array .int) rfl).2
  obtain ⟨vm₁, X', step⟩ := mq_step X hexec hown hclink hfA hkA hkindA hkI hkindI (g := F0 m pc ls (.int k :: .int n :: rest)) rfl (by rw [hb]; exact hdg) rfl hn hk hb1 hb2 hcells hslots
  obtain ⟨a1, a2, -, -, a5, a6⟩ := mqS_at (T.setVm vm₁) (Aa 2) (Aa 0) n.toNatClampNeg k.toNatClampNeg n.toNatClampNeg
  generalize mqS (T.setVm vm₁) (Aa 2) (Aa 0) n.toNatClampNeg k.toNatClampNeg n.toNatClampNeg = F at X' step a1 a2 a5 a6
  have hTh : (T.setVm vm₁).heap = H := hT
  rw [hTh] at a1 a2 a5 a6
  have hold : ∀ (k9 : Nat) (x : Nat × va_E), ws[k9]? = some x → F.heap[x.1]? = H[x.1]? := fun k9 x hx => a5 x.1 ((hP k9 x hx).lt)
  have hP1 : va_P D cl (ws ++ ((H.size, .inl (Aa 2, zQ n.toNatClampNeg (fun i => H.size + 1 + i))) :: (List.range n.toNatClampNeg).map (fun i => (H.size + 1 + i, .inl (Aa 0, zI k.toNatClampNeg))))) F.heap := by
    refine (hP.kept hold).app (vP_iff.mpr (fun q hq => ?_))
    rcases List.mem_cons.mp hq with rfl | hq
    · show F.heap[H.size]? = some (vp_cell _ _)
      rw [a2, vp_cell_q]
      rfl
    · obtain ⟨i, hi, rfl⟩ := List.mem_map.mp hq
      exact a6 i (List.mem_range.mp hi)
  have hD1 : va_D A (ws ++ ((H.size, .inl (Aa 2, zQ n.toNatClampNeg (fun i => H.size + 1 + i))) :: (List.range n.toNatClampNeg).map (fun i => (H.size + 1 + i, .inl (Aa 0, zI k.toNatClampNeg))))) := by
    have hge : ∀ q ∈ ((H.size, .inl (Aa 2, zQ n.toNatClampNeg (fun i => H.size + 1 + i))) :: (List.range n.toNatClampNeg).map (fun i => (H.size + 1 + i, .inl (Aa 0, zI k.toNatClampNeg))) : va_W), H.size ≤ q.1 := by
      intro q hq
      rcases List.mem_cons.mp hq with rfl | hq
      · exact Nat.le_refl _
      · obtain ⟨i, hi, rfl⟩ := List.mem_map.mp hq
        show H.size ≤ H.size + 1 + i
        omega
    refine hD.app (vD_iff.mpr ⟨?_, fun q hq => hA _ (Nat.le_trans hS.1 (hge q hq))⟩) (fun i j x y hx hy hxy => ?_)
    · rw [List.map_cons, List.map_map, List.nodup_cons]
      refine ⟨fun hm => ?_, ?_⟩
      · obtain ⟨i, hi, e9⟩ := List.mem_map.mp hm
        have e9 : H.size + 1 + i = H.size := e9
        omega
      · refine List.Pairwise.map _ (fun x y hxy he => hxy ?_) List.nodup_range
        have he : H.size + 1 + x = H.size + 1 + y := he
        omega
    · have h1 := (hP i x hx).lt
      have h2 := hge y (List.mem_of_getElem? hy)
      omega
  obtain ⟨t, a, b⟩ := kk H.size (fun i => H.size + 1 + i) F.heap hP1 hD1 ⟨by rw [a1]; have := hS.1; omega, fun x h1 h2 => (a5 x (Nat.lt_of_lt_of_le h1 hS.1)).trans (hS.2.1 x h1 h2), hS.2.2⟩ F rfl X'
  refine ⟨t, step t ?_, b⟩
  rw [show T.heap.size = H.size by rw [hT]]
  exact a
end NW
