/-! NEW T[n][m] of ints: the model's own 'make', walked -/
def mqO (cA : ClassId) (N h i : Nat) : Cell := arrV cA N (fun j => va_rf (if j < i then some (h + 1 + j) else none))
def mqI (cI : ClassId) (K : Nat) : Cell := arrV cI K (fun _ => .int 0)
def mqS (T : State) (cA cI : ClassId) (N K : Nat) : Nat → State
  | 0 => T.pushCell (mqO cA N T.heap.size 0)
  | i + 1 => ((mqS T cA cI N K i).pushCell (mqI cI K)).setCell T.heap.size (mqO cA N T.heap.size (i + 1))
theorem mqO_set (cA : ClassId) (N h i : Nat) : (mqO cA N h i).setSlot i (.ref (h + 1 + i)) = mqO cA N h (i + 1) := by
  unfold mqO
  rw [arrV_store]
  refine congrArg (arrV cA N) (funext fun j => ?_)
  by_cases e : j = i
  · subst e
    simp [updV, va_rf]
  · have e2 : (j < i + 1) = (j < i) := propext (by omega)
    simp only [updV, e, if_false, e2]
theorem mqO_new (cA : ClassId) (N h : Nat) : ({ cls := cA, slots := Array.replicate N .null, vm := .none } : Cell) = mqO cA N h 0 := by
  rw [arrV_new]
  unfold mqO
  refine congrArg (arrV cA N) (funext fun j => ?_)
  simp [va_rf]
theorem mqS_at (T : State) (cA cI : ClassId) (N K : Nat) : ∀ i, (mqS T cA cI N K i).heap.size = T.heap.size + 1 + i ∧ (mqS T cA cI N K i).heap[T.heap.size]? = some (mqO cA N T.heap.size i) ∧ (mqS T cA cI N K i).vm = T.vm ∧ (mqS T cA cI N K i).slotsUsed = T.slotsUsed + N + i * K ∧ (∀ a, a < T.heap.size → (mqS T cA cI N K i).heap[a]? = T.heap[a]?) ∧ ∀ j, j < i → (mqS T cA cI N K i).heap[T.heap.size + 1 + j]? = some (mqI cI K)
  | 0 => ⟨by simp [mqS], by simp [mqS], rfl, by simp [mqS, mqO, arrV_size], fun a ha => State.heap_pushCell_of_lt _ _ ha, fun j h => absurd h (Nat.not_lt_zero j)⟩
  | i + 1 => by
    obtain ⟨a1, a2, a3, a4, a5, a6⟩ := mqS_at T cA cI N K i
    have h0 : T.heap.size < (mqS T cA cI N K i).heap.size := by omega
    have h1 : ((mqS T cA cI N K i).pushCell (mqI cI K)).heap[T.heap.size]? = some (mqO cA N T.heap.size i) := by rw [State.heap_pushCell_of_lt (h := h0)]; exact a2
    refine ⟨?_, State.heap_setCell_self h1, by simp [mqS, a3], ?_, fun a ha => ?_, fun j hj => ?_⟩
    · simp [mqS, State.setCell, a1]; omega
    · simp [mqS, a4, mqI, arrV_size, Nat.succ_mul]; omega
    · show (((mqS T cA cI N K i).pushCell (mqI cI K)).setCell T.heap.size _).heap[a]? = _
      rw [State.heap_setCell_other (Nat.ne_of_gt ha), State.heap_pushCell_of_lt (h := (by omega : a < (mqS T cA cI N K i).heap.size))]
      exact a5 a ha
    · show (((mqS T cA cI N K i).pushCell (mqI cI K)).setCell T.heap.size _).heap[_]? = _
      rw [State.heap_setCell_other (show T.heap.size ≠ T.heap.size + 1 + j by omega)]
      by_cases e : j < i
      · rw [State.heap_pushCell_of_lt (h := (by omega : T.heap.size + 1 + j < (mqS T cA cI N K i).heap.size))]
        exact a6 j e
      · have e2 : j = i := by omega
        subst e2
        rw [← a1]
        exact State.heap_pushCell_size _ _
theorem mqS_top (T : State) (f : JFrame) (cA cI : ClassId) (N K : Nat) : ∀ i, mqS (T.setTop f) cA cI N K i = (mqS T cA cI N K i).setTop f
  | 0 => rfl
  | i + 1 => by simp only [mqS, mqS_top T f cA cI N K i, State.heap_setTop, State.pushCell_setTop, State.setCell_setTop]
section MQW
variable {E : CtlPost} {e : Env} {d : Bool} {acts : List Action} {s : State}
theorem mq_inner {cI cc : ClassId} {kI : Class} {k : Int32} (hk : s.vm.classes[cI]? = some kI) (hkind : kI.kind = .array cc .int) (h0 : ¬ k < 0) (hl : ¬ k.toNatClampNeg > e.platform.arrayLengthLimit) (hh : ¬ k.toNatClampNeg * 4 > e.platform.maxHeapBytes) (h1 : s.heap.size < e.platform.maxCells) (h2 : s.slotsUsed + k.toNatClampNeg ≤ e.platform.maxSlots) {Q : Addr → Pre} (hq : ∀ acts', Q s.heap.size d acts' (s.pushCell (mqI cI k.toNatClampNeg))) : wp (multianewarray.make cI [k]) Q E e d acts s := by
  rw [multianewarray.make]
  simp only [wp_bind', W.ite, h0, if_false, wp_pure', W.theClass, hk, hkind, Option.some.injEq, exists_eq_left']
  refine W.newArray_of hk hkind hl hh h1 h2 rfl (fun acts' => ?_)
  have h9 : ({ cls := cI, slots := Array.replicate k.toNatClampNeg (defaultValue .int) } : Cell) = mqI cI k.toNatClampNeg := arrV_new _ _ _
  rw [h9]
  exact hq acts'
theorem mq_make {cA cI cc : ClassId} {kA kI : Class} {n k : Int32} (hkA : s.vm.classes[cA]? = some kA) (hkindA : kA.kind = .array cI (.array .int)) (hkI : s.vm.classes[cI]? = some kI) (hkindI : kI.kind = .array cc .int) (hn : ¬ n < 0) (hk : ¬ k < 0)
    (hl1 : ¬ n.toNatClampNeg > e.platform.arrayLengthLimit) (hh1 : ¬ n.toNatClampNeg * 4 > e.platform.maxHeapBytes) (hl2 : ¬ k.toNatClampNeg > e.platform.arrayLengthLimit) (hh2 : ¬ k.toNatClampNeg * 4 > e.platform.maxHeapBytes)
    (hc : s.heap.size + (1 + n.toNatClampNeg) ≤ e.platform.maxCells) (hs : s.slotsUsed + (n.toNatClampNeg + n.toNatClampNeg * k.toNatClampNeg) ≤ e.platform.maxSlots)
    {Q : Addr → Pre} (hq : ∀ d' acts', Q s.heap.size d' acts' (mqS s cA cI n.toNatClampNeg k.toNatClampNeg n.toNatClampNeg)) : wp (multianewarray.make cA [n, k]) Q E e d acts s := by
  generalize hN : n.toNatClampNeg = N at *
  generalize hK : k.toNatClampNeg = K at *
  have hfind : ([k].find? (· < 0)) = none := by simp [hk]
  rw [multianewarray.make]
  simp only [wp_bind', W.ite, hn, if_false, wp_pure', W.theClass, hkA, hkindA, Option.some.injEq, exists_eq_left', hN]
  refine W.newArray_of hkA hkindA hl1 hh1 (by omega) (by omega) rfl (fun acts1 => ?_)
  simp only [hfind]
  rw [ite_self, wp_bind', Std.Legacy.Range.forIn_eq_forIn_range', show ([:N] : Std.Legacy.Range).size = N by simp [Std.Legacy.Range.size]]
  refine wp_forIn_inv (fun rest s' => ∃ i, i ≤ N ∧ rest = List.range' i (N - i) ∧ s' = mqS s cA cI N K i) _ _ ⟨0, Nat.zero_le _, rfl, by rw [mqO_new cA N s.heap.size]; rfl⟩ ?_ ?_
  · rintro x rest s' d' acts' Q' ⟨i, hi, hl, rfl⟩ hnext
    have hlt : i < N := by
      rcases Nat.lt_or_ge i N with h | h
      · exact h
      · rw [show N - i = 0 by omega] at hl
        cases hl
    rw [show N - i = (N - (i + 1)) + 1 by omega, List.range'_succ] at hl
    obtain ⟨rfl, hrest⟩ := List.cons.inj hl
    obtain ⟨a1, a2, a3, a4, -, -⟩ := mqS_at s cA cI N K x
    have hmul : x * K + K ≤ N * K := by
      have := Nat.mul_le_mul_right K (show x + 1 ≤ N from hlt)
      rw [Nat.succ_mul] at this
      exact this
    simp only [wp_bind']
    refine mq_inner (by rw [a3]; exact hkI) hkindI hk (by rw [hK]; exact hl2) (by rw [hK]; exact hh2) (by rw [a1]; omega) (by rw [a4, hK]; omega) (fun acts2 => ?_)
    rw [hK]
    have h0 : s.heap.size < (mqS s cA cI N K x).heap.size := by omega
    simp only [wp_bind', W.writeLoc, wp_pure']
    refine ⟨mqO cA N s.heap.size x, by rw [State.heap_pushCell_of_lt (h := h0)]; exact a2, fun q => (by cases q), by unfold mqO; rw [arrV_size]; exact hlt, ?_, hnext _ _ _ ⟨x + 1, hlt, hrest, ?_⟩⟩
    · show State.fitsSlot _ cA .none _ _ = true
      simp [State.fitsSlot, State.slotType?, a3, hkA, hkindA, fits]
    · rw [a1, mqO_set]
      rfl
  · rintro s' d' acts' ⟨i, hi, hl, rfl⟩
    have hiN : i = N := by
      rcases Nat.lt_or_ge i N with h | h
      · rw [show N - i = (N - (i + 1)) + 1 by omega, List.range'_succ] at hl
        cases hl
      · omega
    subst hiN
    simp only [wp_pure']
    exact hq _ _
end MQW
section MQR
variable {p : Program} {l : Launch} {e : Env} {R : Room} {s : State} {m : MethodId} {args : Array Value} {below : List Frame} {meth : Method} {c : Code} {T : State} {locs : List Loc} {cells slots : Nat}
theorem mq_stand (X : Stand p l e R s m args below meth c T locs cells slots) (cA cI : ClassId) (N K : Nat) : ∀ i, Stand p l e R s m args below meth c (mqS T cA cI N K i) locs (cells + 1 + i) (slots + N + i * K)
  | 0 => by
    have h := X.pushed (mqO cA N T.heap.size 0)
    rw [show (mqO cA N T.heap.size 0).slots.size = N from arrV_size _ _ _] at h
    simpa [mqS] using h
  | i + 1 => by
    have Xi := mq_stand X cA cI N K i
    obtain ⟨a1, a2, -, -, -, -⟩ := mqS_at T cA cI N K i
    have h0 : T.heap.size < (mqS T cA cI N K i).heap.size := by omega
    have h1 : ((mqS T cA cI N K i).pushCell (mqI cI K)).heap[T.heap.size]? = some (mqO cA N T.heap.size i) := by rw [State.heap_pushCell_of_lt (h := h0)]; exact a2
    have h := (Xi.pushed (mqI cI K)).stored h1 i (.ref (T.heap.size + 1 + i))
    rw [mqO_set, show (mqI cI K).slots.size = K from arrV_size _ _ _] at h
    rw [show cells + 1 + (i + 1) = cells + 1 + i + 1 by omega, show slots + N + (i + 1) * K = slots + N + i * K + K by rw [Nat.succ_mul]; omega]
    exact Stand.forget h (fun y hy => by rw [List.mem_singleton.mp hy]; exact X.same.2.1)
theorem mq_step (X : Stand p l e R s m args below meth c T locs cells slots) (hexec : p.tables.exec = Jvm.exec) {own : String} {index : Nat} {cA cI cc : ClassId} {kA kI : Class} (hown : s.vm.findClass own = some m.cls) (hclink : (Cond.classLink own index "[[I").before args s = true) (hfA : s.vm.findClass "[[I" = some cA) (hkA : s.vm.classes[cA]? = some kA) (hkindA : kA.kind = .array cI (.array .int)) (hkI : s.vm.classes[cI]? = some kI) (hkindI : kI.kind = .array cc .int)
    {g : JFrame} (hg : g.method = m) (hdg : decode c.code g.pc = .ok (.multianewarray index 2, 4)) {n k : Int32} {rest : List Value} (hstack : g.stack = .int k :: .int n :: rest) (hn : ¬ n < 0) (hk : ¬ k < 0) (hb1 : n.toNatClampNeg ≤ 1000) (hb2 : k.toNatClampNeg ≤ 1000) (hcells : cells + (1 + n.toNatClampNeg) ≤ R.cells) (hslots : slots + (n.toNatClampNeg + n.toNatClampNeg * k.toNatClampNeg) ≤ R.slots) :
    ∃ vm₁ : Vm, Stand p l e R s m args below meth c (mqS (T.setVm vm₁) cA cI n.toNatClampNeg k.toNatClampNeg n.toNatClampNeg) locs (cells + 1 + n.toNatClampNeg) (slots + n.toNatClampNeg + n.toNatClampNeg * k.toNatClampNeg) ∧
      ∀ target, Steps p.tables e below ((mqS (T.setVm vm₁) cA cI n.toNatClampNeg k.toNatClampNeg n.toNatClampNeg).setTop { g with pc := g.pc + 4, stack := .ref T.heap.size :: rest }) target → Steps p.tables e below (T.setTop g) target := by
  subst hg
  have hpl : e.platform.magicAccessors = ({} : Platform).magicAccessors := by rw [X.admits.platform]
  obtain ⟨c0, hfc0, hcl⟩ := Cond.classLink_spec hown hclink e.platform hpl
  cases hfA.symm.trans hfc0
  obtain ⟨hg₁, hwarm₁, hready₁⟩ := State.classEntry (e := e) X.warmed hcl
  generalize T.vm.noted g.method.cls index (.cls cA) = vm₁ at hg₁ hwarm₁ hready₁
  obtain ⟨kA1, hkA1, heA⟩ := hwarm₁.alike.2.2 _ _ hkA
  obtain ⟨kI1, hkI1, heI⟩ := hwarm₁.alike.2.2 _ _ hkI
  have X1 := X.noted hwarm₁
  have XF := mq_stand X1 cA cI n.toNatClampNeg k.toNatClampNeg n.toNatClampNeg
  obtain ⟨hr1, hr2⟩ := X.roomAbove hcells hslots
  refine ⟨vm₁, XF, fun target hrest => ?_⟩
  have l1 := Launch.admits_arrayLengthLimit X.admits
  have l2 := Launch.admits_maxHeapBytes X.admits
  jvm_step X.here [hexec, hdg]
  simp only [multianewarray.sem, wp_bind', W.resolveClassAt_links (State.method?_setTop g X.here.top) hg₁]
  rw [W.popN, if_neg (by decide)]
  refine ⟨g, State.topJava?_setTop' (s := T.setVm vm₁) g X.here.top, [.int n, .int k], rest, rfl, hstack, ?_⟩
  simp only [List.mapM_cons, List.mapM_nil, wp_bind', wp_pure']
  refine mq_make (kA := kA1) (kI := kI1) (cI := cI) (cc := cc) hkA1 (by rw [heA]; exact hkindA) hkI1 (by rw [heI]; exact hkindI) hn hk (by rw [l1]; omega) (by rw [l2]; omega) (by rw [l1]; omega) (by rw [l2]; omega) (by show T.heap.size + _ ≤ _; omega) (by show T.slotsUsed + _ ≤ _; omega) (fun d' acts' => ?_)
  rw [show ((T.setTop g).setVm vm₁).setTop { g with stack := rest } = (T.setVm vm₁).setTop { g with stack := rest } from by
    show ((T.setVm vm₁).setTop g).setTop _ = _
    rw [State.setTop_setTop], mqS_top]
  simp only [wp_bind', W.mark, W.pushRef, State.topJava?_setTop' _ XF.here.top, Option.some.injEq, exists_eq_left', State.setTop_setTop, State.heap_setTop]
  intro acts
  simp [jvm, XF.here.top]
  exact hrest
end MQR
