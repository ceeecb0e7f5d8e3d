/-! CONSTRUCTORS 5: the machine's methods called, in bundles; what the cells of both objects are -/
def RX (p : Program) (s : State) (m : MethodId) (args : Array Value) (c : Code) (cc : ByteArray) (nL : Nat) (own : String) (dC : Nat → ClassId) (dI : Nat → Nat → Nat) (ad : Nat → Nat → Nat) (nz : Value) (Aa : Nat → ClassId) (tys : List (ClassId × FieldType)) (prs : List (Nat × Nat)) (A : Nat → Prop) : Prop :=
  p.tables.exec = Jvm.exec ∧ c.code = cc ∧ c.maxLocals = nL ∧ s.vm.findClass own = some m.cls ∧ (∀ w ∈ gws, w.before args s = true) ∧ va_K (dC, dI) scl tys s ∧ nz.category = 1 ∧ prsOk prs ∧ tysOk Aa tys prs ∧ va_D A (wl ad Aa prs (fun _ _ _ => 0)) ∧ SF ad nz A s s.heap ∧ ∀ q, s.heap.size ≤ q → A q
def RC (own : String) (idx n : Nat) (M : Md) (prs : List (Nat × Nat)) (a0 j0 : Nat) : Prop := gV M ∧ Cond.methodLink own idx M.2.1 ∈ gws ∧ gN M n ∧ (a0, j0) ∈ prs ∧ kd a0 = 10 + M.1
section RM
variable {p : Program} {l : Launch} {e : Env} {R : Room} {s : State} {m : MethodId} {args : Array Value} {below : List Frame} {meth : Method} {c : Code} {H : Heap} {locs : List Loc} {cells slt : Nat} {Q : State → Prop}
variable {cc : ByteArray} {pc : Nat} {la : Array Slot} {rest : List Value} {dC : Nat → ClassId} {dI : Nat → Nat → Nat} {ad : Nat → Nat → Nat} {nz : Value} {Aa : Nat → ClassId} {tys : List (ClassId × FieldType)} {prs : List (Nat × Nat)} {A : Nat → Prop}
variable {own : String} {M : Md} {idx n nL a0 j0 : Nat} {as : List PV} {σ σ' : Sg}
theorem rm_v (C : RX p s m args c cc nL own dC dI ad nz Aa tys prs A) (K : RC own idx n M prs a0 j0) (hrun : RUN 60 M (vr a0 j0 :: as) σ = some (none, σ')) (hT : okT prs as) (hσ : okS σ) (hn : as.length = n) (hsl : (slots (vr a0 j0 :: as)).length ≤ M.2.2.2.1) (hP : va_P (dC, dI) scl (wl ad Aa prs σ) H) (hS : va_S A s.heap H locs)
    (hR : 62 ≤ R.frames ∧ 6200 ≤ R.locals) (hc : cells ≤ R.cells ∧ slt ≤ R.slots) (hls : la.size = nL) (hrest : (rest.map fun v => v.category).sum ≤ 8) (hdg : decode cc pc = .ok (.invokevirtual idx, 3))
    (kk : ∀ (H1 : Heap) (locs1 : List Loc), okS σ' → va_P (dC, dI) scl (wl ad Aa prs σ') H1 → va_S A s.heap H1 locs1 → W p l e R s m args below meth c H1 locs1 cells slt Q (F0 m (pc + 3) la rest)) :
    W p l e R s m args below meth c H locs cells slt Q (F0 m pc la ((as.map (kc ad nz)).reverse ++ .ref (ad a0 j0) :: rest)) := by
  obtain ⟨hx, hb, hml, hown, hgs, hK, hz, hpo, hto, hD, hSF, hA⟩ := C
  obtain ⟨k1, k2, k3, k4, k5⟩ := K
  have hAin := A_in (σ := σ) hD hA hS
  exact va_callv (a := (Value.ref (ad a0 j0) :: as.map (kc ad nz)).toArray) (rm_run hx hb hml hown hgs hK hz hpo hto hP (wl_D _ hD) hSF hS hA k1 k2 k3 hrun k4 k5 hT hσ hn hsl hR hc hls hrest hdg) hS (fun q _ h => hAin q h) hAin (fun u t H1 locs1 ht hvm hw hB hz1 hk1 hS1 => kk H1 locs1 hw.1 (by rw [← ht]; exact hB) hS1)
theorem rm_i {x : Int} (C : RX p s m args c cc nL own dC dI ad nz Aa tys prs A) (K : RC own idx n M prs a0 j0) (hrun : RUN 60 M (vr a0 j0 :: as) σ = some (some (vi x), σ')) (hT : okT prs as) (hσ : okS σ) (hn : as.length = n) (hsl : (slots (vr a0 j0 :: as)).length ≤ M.2.2.2.1) (hP : va_P (dC, dI) scl (wl ad Aa prs σ) H) (hS : va_S A s.heap H locs)
    (hR : 62 ≤ R.frames ∧ 6200 ≤ R.locals) (hc : cells ≤ R.cells ∧ slt ≤ R.slots) (hls : la.size = nL) (hrest : (rest.map fun v => v.category).sum ≤ 8) (hdg : decode cc pc = .ok (.invokevirtual idx, 3))
    (kk : ∀ (H1 : Heap) (locs1 : List Loc), okS σ' → va_P (dC, dI) scl (wl ad Aa prs σ') H1 → va_S A s.heap H1 locs1 → W p l e R s m args below meth c H1 locs1 cells slt Q (F0 m (pc + 3) la (.int (Int32.ofInt x) :: rest))) :
    W p l e R s m args below meth c H locs cells slt Q (F0 m pc la ((as.map (kc ad nz)).reverse ++ .ref (ad a0 j0) :: rest)) := by
  obtain ⟨hx, hb, hml, hown, hgs, hK, hz, hpo, hto, hD, hSF, hA⟩ := C
  obtain ⟨k1, k2, k3, k4, k5⟩ := K
  have hAin := A_in (σ := σ) hD hA hS
  exact va_calli (a := (Value.ref (ad a0 j0) :: as.map (kc ad nz)).toArray) (rm_run hx hb hml hown hgs hK hz hpo hto hP (wl_D _ hD) hSF hS hA k1 k2 k3 hrun k4 k5 hT hσ hn hsl hR hc hls hrest hdg) hS (fun q _ h => hAin q h) hAin (fun r u t H1 locs1 ht hvm hw hB hz1 hk1 hS1 => by rw [hw.1]; exact kk H1 locs1 hw.2.1 (by rw [← ht]; exact hB) hS1)
theorem rm_l {x : Int} (C : RX p s m args c cc nL own dC dI ad nz Aa tys prs A) (K : RC own idx n M prs a0 j0) (hrun : RUN 60 M (vr a0 j0 :: as) σ = some (some (vl x), σ')) (hT : okT prs as) (hσ : okS σ) (hn : as.length = n) (hsl : (slots (vr a0 j0 :: as)).length ≤ M.2.2.2.1) (hP : va_P (dC, dI) scl (wl ad Aa prs σ) H) (hS : va_S A s.heap H locs)
    (hR : 62 ≤ R.frames ∧ 6200 ≤ R.locals) (hc : cells ≤ R.cells ∧ slt ≤ R.slots) (hls : la.size = nL) (hrest : (rest.map fun v => v.category).sum ≤ 8) (hdg : decode cc pc = .ok (.invokevirtual idx, 3))
    (kk : ∀ (H1 : Heap) (locs1 : List Loc), okS σ' → va_P (dC, dI) scl (wl ad Aa prs σ') H1 → va_S A s.heap H1 locs1 → W p l e R s m args below meth c H1 locs1 cells slt Q (F0 m (pc + 3) la (.long (Int64.ofInt x) :: rest))) :
    W p l e R s m args below meth c H locs cells slt Q (F0 m pc la ((as.map (kc ad nz)).reverse ++ .ref (ad a0 j0) :: rest)) := by
  obtain ⟨hx, hb, hml, hown, hgs, hK, hz, hpo, hto, hD, hSF, hA⟩ := C
  obtain ⟨k1, k2, k3, k4, k5⟩ := K
  have hAin := A_in (σ := σ) hD hA hS
  exact va_calll (a := (Value.ref (ad a0 j0) :: as.map (kc ad nz)).toArray) (rm_run hx hb hml hown hgs hK hz hpo hto hP (wl_D _ hD) hSF hS hA k1 k2 k3 hrun k4 k5 hT hσ hn hsl hR hc hls hrest hdg) hS (fun q _ h => hAin q h) hAin (fun r u t H1 locs1 ht hvm hw hB hz1 hk1 hS1 => by rw [hw.1]; exact kk H1 locs1 hw.2.1 (by rw [← ht]; exact hB) hS1)
theorem nw_get {o k : Nat} {a : Nat} {fs : List Value} {v : Value} {ws : va_W} (hexec : p.tables.exec = Jvm.exec) (hb : c.code = cc) (hgs : ∀ w ∈ gws, w.before args s = true) (hown : s.vm.findClass (RO o) = some m.cls) (hK : va_K (dC, dI) scl tys s) (hP : va_P (dC, dI) scl ((a, .inr (o, fs)) :: ws) H) (ho : o < 10) (hf : ftl o idx = some (o, k)) (hv : fs[k]? = some v) (hdg : decode cc pc = .ok (.getfield idx, 3))
    (kk : W p l e R s m args below meth c H locs cells slt Q (F0 m (pc + 3) la (v :: rest))) : W p l e R s m args below meth c H locs cells slt Q (F0 m pc la (.ref a :: rest)) :=
  va_get (D := (dC, dI)) (own := RO o) (ref := (TF o k).1) (ci := o) (C := RO o) (T := TF o) (N := nF o) hexec hb hgs (lay_ok ho) hown hK hP 0 rfl (scl_at o ho (ne3 (ftl_own hf ho).2)) k (ftl_own hf ho).2 (hgs _ (ftl_own hf ho).1) (fun _ h9 => h9) hv hdg kk
end RM
theorem tysOk_S (Aa : Nat → ClassId) (prs : List (Nat × Nat)) : tysOk Aa (tyS Aa) prs := by
  intro c j _ hk
  generalize kd c = k at hk ⊢
  have : k = 0 ∨ k = 1 ∨ k = 2 ∨ k = 3 := by omega
  rcases this with rfl | rfl | rfl | rfl
  · exact ⟨0, rfl⟩
  · exact ⟨1, rfl⟩
  · exact ⟨2, rfl⟩
  · exact ⟨3, rfl⟩
theorem SF_cg {ad ad' : Nat → Nat → Nat} {nz : Value} {A : Nat → Prop} {U : State} {H : Heap} (h : ∀ c, 52 ≤ c → ad c 0 = ad' c 0) (hS : SF ad' nz A U H) : SF ad nz A U H := by
  obtain ⟨⟨a1, a2, a3, a4, a5⟩, h2, h3, h4, ⟨b1, b2, b3⟩, c1, c2⟩ := hS
  refine ⟨⟨by rw [h 52 (by decide)]; exact a1, by rw [h 53 (by decide)]; exact a2, by rw [h 54 (by decide)]; exact a3, a4, a5⟩, fun c q1 q2 => by rw [h c q1]; exact h2 c q1 q2, fun c q1 q2 => by rw [h c (by omega)]; exact h3 c q1 q2, fun c q1 q2 => by rw [h c (by omega), h (c + 3) (by omega)]; exact h4 c q1 q2, ⟨by rw [h 55 (by decide)]; exact b1, by rw [h 56 (by decide)]; exact b2, by rw [h 57 (by decide)]; exact b3⟩, c1, c2⟩
theorem okS_0 : okS sg0 := by
  intro c j i
  refine Or.inl ?_
  unfold sg0
  split <;> constructor <;> omega
abbrev pX1 : List (Nat × Nat) := [(1, 0), (2, 0), (3, 0), (3, 1), (3, 2), (3, 3), (3, 4), (3, 5)]
abbrev pX5 : List (Nat × Nat) := [(4, 0), (5, 0), (6, 0), (6, 1), (6, 2), (6, 3), (6, 4), (6, 5), (7, 0), (8, 0), (8, 1), (8, 2), (8, 3), (8, 4), (8, 5), (9, 0), (10, 0)]
abbrev pX4 : List (Nat × Nat) := [(11, 0), (12, 0)]
abbrev pX7 : List (Nat × Nat) := [(13, 0), (14, 0), (15, 0), (16, 0), (17, 0), (18, 0), (19, 0), (20, 0)]
abbrev pX0 : List (Nat × Nat) := [(21, 0), (22, 0), (23, 0), (23, 1), (23, 2), (23, 3), (24, 0), (25, 0)]
abbrev pX2 : List (Nat × Nat) := [(26, 0), (27, 0), (28, 0), (28, 1), (28, 2), (28, 3), (28, 4)]
abbrev pX6 (j : Nat) : List (Nat × Nat) := [(30, j), (31, j)]
def prsC : List (Nat × Nat) := (0, 0) :: (29, 0) :: (([] ++ pX1 ++ pX5 ++ pX4 ++ pX7 ++ pX0 ++ pX2) ++ pX6 0 ++ pX6 1 ++ pX6 2 ++ pX6 3)
def prsM : List (Nat × Nat) := [(32, 0), (33, 0), (34, 0), (35, 0), (36, 0), (37, 0), (38, 0), (39, 0), (40, 0), (41, 0), (42, 0), (43, 0), (44, 0), (45, 0), (46, 0), (47, 0), (48, 0), (49, 0), (50, 0), (51, 0)]
def prsB (prs : List (Nat × Nat)) (q : Nat × Nat) : Bool := Nat.blt q.1 52 && ((Nat.blt (kd q.1) 4 || (Nat.ble 10 (kd q.1) && Nat.blt (kd q.1) 20)) && (((List.range (ln q.1)).all (fun i => !(Nat.beq (kd q.1) 2 || Nat.beq (kd q.1) 3) || decide ((rf q.1 0, i) ∈ prs))) && ((List.range (nF (kd q.1 - 10))).all (fun k => !(Nat.ble 10 (kd q.1) && Nat.beq (fk (kd q.1 - 10) k) 3) || decide ((rf q.1 k, q.2) ∈ prs)))))
theorem prs_of {prs : List (Nat × Nat)} (hn : prs.Nodup) (h : prs.all (prsB prs) = true) : prsOk prs := by
  refine ⟨hn, fun c j hm => ?_⟩
  have h1 := List.all_eq_true.mp h (c, j) hm
  unfold prsB at h1
  dsimp only at h1
  rw [Bool.and_eq_true, Bool.and_eq_true, Bool.and_eq_true, Bool.or_eq_true, Bool.and_eq_true, List.all_eq_true, List.all_eq_true] at h1
  obtain ⟨a1, a2, a3, a4⟩ := h1
  have g3 : (kd c = 2 ∨ kd c = 3) → ∀ i, i < ln c → (rf c 0, i) ∈ prs := by
    intro hk i hi
    have h9 := a3 i (List.mem_range.mpr hi)
    rw [Bool.or_eq_true, decide_eq_true_eq] at h9
    rcases h9 with h9 | h9
    · rcases hk with hk | hk <;> rw [hk] at h9 <;> cases h9
    · exact h9
  refine ⟨Nat.le_of_ble_eq_true a1, a2.imp (fun z => Nat.le_of_ble_eq_true z) (fun z => ⟨Nat.le_of_ble_eq_true z.1, Nat.le_of_ble_eq_true z.2⟩), fun hk => g3 (Or.inl hk), fun hk => g3 (Or.inr hk), fun hk k hk2 hf => ?_⟩
  have h9 := a4 k (List.mem_range.mpr hk2)
  rw [Bool.or_eq_true, decide_eq_true_eq] at h9
  rcases h9 with h9 | h9
  · rw [hf, Nat.ble_eq_true_of_le hk] at h9
    cases h9
  · exact h9
theorem prsC_ok : prsOk prsC := prs_of (by decide +kernel) (by decide +kernel)
theorem prsM_ok : prsOk prsM := prs_of (by decide +kernel) (by decide +kernel)
theorem prsA_ok : prsOk (prsC ++ prsM) := prs_of (by decide +kernel) (by decide +kernel)
