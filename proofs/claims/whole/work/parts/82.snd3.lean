/-! THE MACHINE IS SOUND, 3: the world's cells, the context -/
def fV (ad : Nat → Nat → Nat) (σ : Sg) (c j ci k : Nat) : Value := match fk ci k with
  | 1 => .long (Int64.ofInt (σ c j k))
  | 3 => .ref (ad (rf c k) j)
  | _ => .int (Int32.ofInt (σ c j k))
def enc (ad : Nat → Nat → Nat) (Aa : Nat → ClassId) (σ : Sg) (c j : Nat) : va_E := match kd c with
  | 0 => .inl (Aa 0, ln c, .inl (fun i => Int32.ofInt (σ c j i)))
  | 1 => .inl (Aa 1, ln c, .inl (fun i => Int32.ofInt (σ c j i)))
  | 2 => .inl (Aa 2, ln c, .inr (.inr (.inr (.inr (fun i => if i < ln c then some (ad (rf c 0) i) else none)))))
  | 3 => .inl (Aa 3, ln c, .inr (.inr (.inr (.inr (fun i => if i < ln c then some (ad (rf c 0) i) else none)))))
  | k => .inr (k - 10, (List.range (nF (k - 10))).map (fV ad σ c j (k - 10)))
def wl (ad : Nat → Nat → Nat) (Aa : Nat → ClassId) (prs : List (Nat × Nat)) (σ : Sg) : va_W := prs.map (fun q => (ad q.1 q.2, enc ad Aa σ q.1 q.2))
def tyA : Nat → FieldType := fun k => match k with
  | 0 => .int
  | 1 => .boolean
  | 2 => .array .int
  | _ => .object "OtherSidesPump$Sheet"
theorem wl_get {ad : Nat → Nat → Nat} {Aa : Nat → ClassId} {prs : List (Nat × Nat)} {σ : Sg} {q c j : Nat} (h : prs[q]? = some (c, j)) : (wl ad Aa prs σ)[q]? = some (ad c j, enc ad Aa σ c j) := by
  unfold wl
  rw [List.getElem?_map, h]
  rfl
theorem enc_congr {ad : Nat → Nat → Nat} {Aa : Nat → ClassId} {σ σ' : Sg} {c j : Nat} (h : σ' c j = σ c j) : enc ad Aa σ' c j = enc ad Aa σ c j := by
  have h2 : fV ad σ' c j = fV ad σ c j := by
    funext ci k
    unfold fV
    rw [h]
  unfold enc
  rw [h, h2]
theorem wl_set {ad : Nat → Nat → Nat} {Aa : Nat → ClassId} {prs : List (Nat × Nat)} {σ σ' : Sg} {q c j : Nat} (hn : prs.Nodup) (h : prs[q]? = some (c, j)) (hσ : ∀ c' j', (c', j') ≠ (c, j) → σ' c' j' = σ c' j') : (wl ad Aa prs σ).set q (ad c j, enc ad Aa σ' c j) = wl ad Aa prs σ' := by
  apply List.ext_getElem?
  intro k
  have hq : q < prs.length := (List.getElem?_eq_some_iff.mp h).1
  by_cases hk : q = k
  · subst hk
    rw [List.getElem?_set_self (by unfold wl; rw [List.length_map]; exact hq), wl_get h]
  · rw [List.getElem?_set_ne hk]
    unfold wl
    rw [List.getElem?_map, List.getElem?_map]
    cases hp : prs[k]? with
    | none => rfl
    | some r =>
      obtain ⟨c', j'⟩ := r
      have hne : (c', j') ≠ (c, j) := by
        intro e
        rw [e] at hp
        exact hk ((List.getElem?_inj hq hn).mp (h.trans hp.symm))
      show some (ad c' j', enc ad Aa σ c' j') = some (ad c' j', enc ad Aa σ' c' j')
      rw [enc_congr (hσ c' j' hne)]
theorem wl_addr {ad : Nat → Nat → Nat} {Aa : Nat → ClassId} {prs : List (Nat × Nat)} {σ σ' : Sg} {k : Nat} {q : Nat × va_E} (h : (wl ad Aa prs σ)[k]? = some q) : ∃ e, (wl ad Aa prs σ')[k]? = some (q.1, e) := by
  unfold wl at h ⊢
  rw [List.getElem?_map] at h ⊢
  cases hp : prs[k]? with
  | none => rw [hp] at h; cases h
  | some r => rw [hp] at h; cases h; exact ⟨_, rfl⟩
theorem wl_D {ad : Nat → Nat → Nat} {Aa : Nat → ClassId} {prs : List (Nat × Nat)} {σ : Sg} {A : Nat → Prop} (σ' : Sg) (h : va_D A (wl ad Aa prs σ)) : va_D A (wl ad Aa prs σ') := by
  refine ⟨fun i j p q hi hj he => ?_, fun k q hk => ?_⟩
  · obtain ⟨e1, h1⟩ := wl_addr (σ' := σ) hi
    obtain ⟨e2, h2⟩ := wl_addr (σ' := σ) hj
    exact h.1 i j _ _ h1 h2 he
  · obtain ⟨e1, h1⟩ := wl_addr (σ' := σ) hk
    exact h.2 k (q.1, e1) h1
theorem wl_A {ad : Nat → Nat → Nat} {Aa : Nat → ClassId} {prs : List (Nat × Nat)} {sz : Nat} (σ σ' : Sg) : va_A (wl ad Aa prs σ) sz = va_A (wl ad Aa prs σ') sz := by
  funext q
  apply propext
  constructor
  · rintro (⟨k, e, h⟩ | h)
    · obtain ⟨e1, h1⟩ := wl_addr (σ' := σ') h
      exact Or.inl ⟨k, e1, h1⟩
    · exact Or.inr h
  · rintro (⟨k, e, h⟩ | h)
    · obtain ⟨e1, h1⟩ := wl_addr (σ' := σ) h
      exact Or.inl ⟨k, e1, h1⟩
    · exact Or.inr h
theorem up_ne {σ : Sg} {c j i : Nat} {v : Int} : ∀ c' j', (c', j') ≠ (c, j) → up σ c j i v c' j' = σ c' j' := by
  intro c' j' h
  funext i'
  unfold up
  rw [if_neg]
  rintro ⟨e1, e2, -⟩
  exact h (by rw [e1, e2])
theorem up_self {σ : Sg} {c j i : Nat} {v : Int} (k : Nat) : up σ c j i v c j k = if k = i then v else σ c j k := by
  unfold up
  by_cases h : k = i
  · rw [if_pos ⟨rfl, rfl, h⟩, if_pos h]
  · rw [if_neg (fun q => h q.2.2), if_neg h]
/-- the statics that are used: where they lie, what they hold; none of it lies in A -/
def SF (ad : Nat → Nat → Nat) (nz : Value) (A : Nat → Prop) (U : State) (H : Heap) : Prop :=
  (va_Z "OtherSidesPump" "HIGHEST" "[I" (.ref (ad 52 0)) A U H ∧ va_Z "OtherSidesPump" "SOUGHT" "[I" (.ref (ad 53 0)) A U H ∧ va_Z "OtherSidesPump$Kinds" "ABOVE" "[I" (.ref (ad 54 0)) A U H ∧ va_Z "java/lang/String" "COMPACT_STRINGS" "Z" (.int 1) A U H ∧ va_Z "jdk/internal/util/Preconditions" "SIOOBE_FORMATTER" "Ljava/util/function/BiFunction;" nz A U H) ∧
  (∀ c, 52 ≤ c → c ≤ 54 → va_T .int (ad c 0) (ln c) (fun i => .int (Int32.ofInt (sv c i))) A U H) ∧
  (∀ c, 58 ≤ c → c ≤ 60 → va_T .byte (ad c 0) (ln c) (fun i => .int (Int32.ofInt (sv c i))) A U H) ∧
  (∀ c, 55 ≤ c → c ≤ 57 → va_O "java/lang/String" (ad c 0) A U H ∧ va_OF "java/lang/String" "coder" "B" (.int 0) (ad c 0) A U H ∧ va_OF "java/lang/String" "value" "[B" (.ref (ad (c + 3) 0)) (ad c 0) A U H) ∧
  (vk_R "OtherSidesPump" 64 "takes 4 ; forwards 1 ; minds 1 ;" (ad 55 0) U ∧ vk_R "OtherSidesPump$Reader" 115 "cap lane minute number ahead pie takes forwards minds or and not " (ad 56 0) U ∧ vk_R "OtherSidesPump$Reader" 109 "();+-*<=" (ad 57 0) U) ∧
  va_Nw (.fieldLinkNest "OtherSidesPump$Fleet" 36 "OtherSidesPump" "HIGHEST" "[I" "OtherSidesPump") U ∧ va_Nw (.fieldLinkNest "OtherSidesPump$Advice" 73 "OtherSidesPump" "HIGHEST" "[I" "OtherSidesPump") U
theorem SF.kept {ad : Nat → Nat → Nat} {nz : Value} {A : Nat → Prop} {U : State} {H H1 : Heap} (h : SF ad nz A U H) (hq : ∀ a : Nat, a < H.size → ¬ A a → H1[a]? = H[a]?) : SF ad nz A U H1 := by
  obtain ⟨⟨a1, a2, a3, a4, a5⟩, h2, h3, h4, h5, h6⟩ := h
  exact ⟨⟨a1.kept hq, a2.kept hq, a3.kept hq, a4.kept hq, a5.kept hq⟩, fun c q1 q2 => (h2 c q1 q2).kept hq, fun c q1 q2 => (h3 c q1 q2).kept hq, fun c q1 q2 => ⟨(h4 c q1 q2).1.kept hq, (h4 c q1 q2).2.1.kept hq, (h4 c q1 q2).2.2.kept hq⟩, h5, h6⟩
theorem SF.nar {ad : Nat → Nat → Nat} {nz : Value} {A B : Nat → Prop} {U : State} {H : Heap} (h : SF ad nz A U H) (hAB : ∀ q, B q → A q) : SF ad nz B U H := by
  obtain ⟨⟨a1, a2, a3, a4, a5⟩, h2, h3, h4, h5, h6⟩ := h
  exact ⟨⟨a1.narrow hAB, a2.narrow hAB, a3.narrow hAB, a4.narrow hAB, a5.narrow hAB⟩, fun c q1 q2 => (h2 c q1 q2).narrow hAB, fun c q1 q2 => (h3 c q1 q2).narrow hAB, fun c q1 q2 => ⟨(h4 c q1 q2).1.narrow hAB, (h4 c q1 q2).2.1.narrow hAB, (h4 c q1 q2).2.2.narrow hAB⟩, h5, h6⟩
theorem SF.moved {ad : Nat → Nat → Nat} {nz : Value} {A : Nat → Prop} {s U : State} {H : Heap} (hW : s.WarmedH U.vm) (h : SF ad nz A s H) : SF ad nz A U H := by
  have hv := hW.alike
  obtain ⟨⟨a1, a2, a3, a4, a5⟩, h2, h3, h4, ⟨b1, b2, b3⟩, c1, c2⟩ := h
  exact ⟨⟨a1.moved hv, a2.moved hv, a3.moved hv, a4.moved hv, a5.moved hv⟩, fun c q1 q2 => (h2 c q1 q2).moved hv, fun c q1 q2 => (h3 c q1 q2).moved hv, fun c q1 q2 => ⟨(h4 c q1 q2).1.moved hv, (h4 c q1 q2).2.1.moved hv, (h4 c q1 q2).2.2.moved hv⟩, ⟨b1.warm hW, b2.warm hW, b3.warm hW⟩, c1.warmF hW, c2.warmF hW⟩
theorem SF.same {ad : Nat → Nat → Nat} {nz : Value} {A : Nat → Prop} {u U : State} {H : Heap} (hv : U.vm = u.vm) (h : SF ad nz A u H) : SF ad nz A U H := by
  have hvv : u.vm.Alike U.vm := by rw [hv]; exact Vm.Alike.refl _
  obtain ⟨⟨a1, a2, a3, a4, a5⟩, h2, h3, h4, ⟨b1, b2, b3⟩, c1, c2⟩ := h
  exact ⟨⟨a1.moved hvv, a2.moved hvv, a3.moved hvv, a4.moved hvv, a5.moved hvv⟩, fun c q1 q2 => (h2 c q1 q2).moved hvv, fun c q1 q2 => (h3 c q1 q2).moved hvv, fun c q1 q2 => ⟨(h4 c q1 q2).1.moved hvv, (h4 c q1 q2).2.1.moved hvv, (h4 c q1 q2).2.2.moved hvv⟩, ⟨b1.same hv, b2.same hv, b3.same hv⟩, c1.same rfl hv.symm, c2.same rfl hv.symm⟩
/-- which cells a world has: no cell twice, what they name is there too -/
def prsOk (prs : List (Nat × Nat)) : Prop := prs.Nodup ∧ (∀ c j, (c, j) ∈ prs → c < 52 ∧ (kd c < 4 ∨ (10 ≤ kd c ∧ kd c < 20)) ∧ (kd c = 2 → ∀ i, i < ln c → (rf c 0, i) ∈ prs) ∧ (kd c = 3 → ∀ i, i < ln c → (rf c 0, i) ∈ prs) ∧ (10 ≤ kd c → ∀ k, k < nF (kd c - 10) → fk (kd c - 10) k = 3 → (rf c k, j) ∈ prs))
def tysOk (Aa : Nat → ClassId) (tys : List (ClassId × FieldType)) (prs : List (Nat × Nat)) : Prop := ∀ c j, (c, j) ∈ prs → kd c < 4 → ∃ t0 : Nat, tys[t0]? = some (Aa (kd c), tyA (kd c))
