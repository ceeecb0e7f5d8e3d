/-! THE MACHINE IS SOUND, 4: one step that is no call and no end -/
def Cx (p : Program) (s : State) (m : MethodId) (args : Array Value) (c : Code) (M : Md) (dC : Nat → ClassId) (dI : Nat → Nat → Nat) (ad : Nat → Nat → Nat) (nz : Value) (Aa : Nat → ClassId) (tys : List (ClassId × FieldType)) (prs : List (Nat × Nat)) (A : Nat → Prop) : Prop :=
  p.tables.exec = Jvm.exec ∧ c.code = M.2.2.1 ∧ c.maxLocals = M.2.2.2.1 ∧ (∀ w ∈ gws, w.before args s = true) ∧ s.vm.findClass (RO M.1) = some m.cls ∧ va_K (dC, dI) scl tys s ∧ va_D A (wl ad Aa prs (fun _ _ _ => 0)) ∧ SF ad nz A s s.heap ∧ nz.category = 1 ∧ prsOk prs ∧ tysOk Aa tys prs
section SN
variable {p : Program} {l : Launch} {e : Env} {R : Room} {s : State} {m : MethodId} {args : Array Value} {below : List Frame} {meth : Method} {c : Code} {Q : State → Prop}
variable {dC : Nat → ClassId} {dI : Nat → Nat → Nat} {ad : Nat → Nat → Nat} {nz : Value} {Aa : Nat → ClassId} {tys : List (ClassId × FieldType)} {prs : List (Nat × Nat)} {A : Nat → Prop} {M : Md}
variable {pc pc' : Nat} {ls ls' st st' : List PV} {σ σ' : Sg} {len : Nat}
/-- from the machine's next state to this one -/
def Nx (p : Program) (l : Launch) (e : Env) (R : Room) (s : State) (m : MethodId) (args : Array Value) (below : List Frame) (meth : Method) (c : Code) (Q : State → Prop) (dC : Nat → ClassId) (dI : Nat → Nat → Nat) (ad : Nat → Nat → Nat) (nz : Value) (Aa : Nat → ClassId) (prs : List (Nat × Nat)) (A : Nat → Prop) (pc : Nat) (ls st : List PV) (σ : Sg) (pc' : Nat) (ls' st' : List PV) (σ' : Sg) : Prop :=
  ∀ (H : Heap) (locs : List Loc) (la : Array Slot), va_P (dC, dI) scl (wl ad Aa prs σ) H → va_S A s.heap H locs → LM ad nz ls la →
    (∀ (H' : Heap) (locs' : List Loc) (la' : Array Slot), va_P (dC, dI) scl (wl ad Aa prs σ') H' → va_S A s.heap H' locs' → LM ad nz ls' la' → W p l e R s m args below meth c H' locs' 0 0 Q (F0 m pc' la' (st'.map (kc ad nz)))) → W p l e R s m args below meth c H locs 0 0 Q (F0 m pc la (st.map (kc ad nz)))
/-- the machine's own words stay good -/
def Gd (prs : List (Nat × Nat)) (ls st : List PV) (σ : Sg) : Prop := okL prs ls ∧ okT prs st ∧ okS σ
theorem okT.tl {v : PV} (h : okT prs (v :: st)) : okT prs st := fun w hw => h w (List.mem_cons_of_mem _ hw)
theorem okT.hd {v : PV} (h : okT prs (v :: st)) : okV prs v := h v List.mem_cons_self
theorem okT.cons {v : PV} (hv : okV prs v) (h : okT prs st) : okT prs (v :: st) := by
  intro w hw
  rcases List.mem_cons.mp hw with rfl | hw
  · exact hv
  · exact h w hw
/-- a step that leaves store and locals as they are -/
theorem nx_row (row : ∀ (H : Heap) (locs : List Loc) (la : Array Slot), va_P (dC, dI) scl (wl ad Aa prs σ) H → va_S A s.heap H locs → LM ad nz ls la → W p l e R s m args below meth c H locs 0 0 Q (F0 m pc' la (st'.map (kc ad nz))) → W p l e R s m args below meth c H locs 0 0 Q (F0 m pc la (st.map (kc ad nz)))) : Nx p l e R s m args below meth c Q dC dI ad nz Aa prs A pc ls st σ pc' ls st' σ :=
  fun H locs la hP hS hL k => row H locs la hP hS hL (k H locs la hP hS hL)
theorem bin_inv {f : Int → Int → Int} {o : Out} (h : sBin f (pc, ls, st, σ) = some o) : ∃ a b st0, st = .inl b :: .inl a :: st0 ∧ o = .inl (pc + 1, ls, .inl (f a b) :: st0, σ) := by
  unfold sBin at h
  split at h
  · rename_i heq
    cases heq
    cases h
    exact ⟨_, _, _, rfl, rfl⟩
  · cases h
theorem div_inv {f : Int → Int → Int} {o : Out} (h : sDiv f (pc, ls, st, σ) = some o) : ∃ a b st0, st = .inl b :: .inl a :: st0 ∧ b ≠ 0 ∧ o = .inl (pc + 1, ls, .inl (f a b) :: st0, σ) := by
  unfold sDiv at h
  split at h
  · rename_i heq
    cases heq
    split at h
    · cases h
    · cases h
      exact ⟨_, _, _, rfl, by assumption, rfl⟩
  · cases h
theorem un_inv {f : Int → Int} {o : Out} (h : sUn f (pc, ls, st, σ) = some o) : ∃ a st0, st = .inl a :: st0 ∧ o = .inl (pc + 1, ls, .inl (f a) :: st0, σ) := by
  unfold sUn at h
  split at h
  · rename_i heq
    cases heq
    cases h
    exact ⟨_, _, rfl, rfl⟩
  · cases h
theorem lbin_inv {f : Int → Int → Int} {o : Out} (h : sLbin f (pc, ls, st, σ) = some o) : ∃ a b st0, st = .inr (.inr b) :: .inr (.inr a) :: st0 ∧ o = .inl (pc + 1, ls, .inr (.inr (f a b)) :: st0, σ) := by
  unfold sLbin at h
  split at h
  · rename_i heq
    cases heq
    cases h
    exact ⟨_, _, _, rfl, rfl⟩
  · cases h
theorem ldiv_inv {f : Int → Int → Int} {o : Out} (h : sLdiv f (pc, ls, st, σ) = some o) : ∃ a b st0, st = .inr (.inr b) :: .inr (.inr a) :: st0 ∧ b ≠ 0 ∧ o = .inl (pc + 1, ls, .inr (.inr (f a b)) :: st0, σ) := by
  unfold sLdiv at h
  split at h
  · rename_i heq
    cases heq
    split at h
    · cases h
    · cases h
      exact ⟨_, _, _, rfl, by assumption, rfl⟩
  · cases h
/-- an int operation of two -/
theorem so_bin {f : Int → Int → Int} {g : Int32 → Int32 → Int32} {i : Instr} (hG : Gd prs ls st σ) (h : sBin f (pc, ls, st, σ) = some (.inl (pc', ls', st', σ'))) (hr : ∀ a b, r32 (f a b)) (hf : ∀ a b, Int32.ofInt (f a b) = g (Int32.ofInt a) (Int32.ofInt b))
    (row : ∀ (H : Heap) (locs : List Loc) (la : Array Slot) (x y : Int32) (rest : List Value), W p l e R s m args below meth c H locs 0 0 Q (F0 m (pc + 1) la (.int (g x y) :: rest)) → W p l e R s m args below meth c H locs 0 0 Q (F0 m pc la (.int y :: .int x :: rest))) :
    Gd prs ls' st' σ' ∧ Nx p l e R s m args below meth c Q dC dI ad nz Aa prs A pc ls st σ pc' ls' st' σ' := by
  obtain ⟨a, b, st0, rfl, e⟩ := bin_inv h
  cases e
  refine ⟨⟨hG.1, okT.cons (hr a b) hG.2.1.tl.tl, hG.2.2⟩, nx_row (fun H locs la _ _ _ k => row H locs la _ _ _ ?_)⟩
  have k : W p l e R s m args below meth c H locs 0 0 Q (F0 m (pc + 1) la (.int (Int32.ofInt (f a b)) :: st0.map (kc ad nz))) := k
  rw [hf] at k
  exact k
theorem so_div {f : Int → Int → Int} {g : Int32 → Int32 → Int32} {i : Instr} (hG : Gd prs ls st σ) (h : sDiv f (pc, ls, st, σ) = some (.inl (pc', ls', st', σ'))) (hr : ∀ a b, r32 (f a b)) (hf : ∀ a b, Int32.ofInt (f a b) = g (Int32.ofInt a) (Int32.ofInt b))
    (row : ∀ (H : Heap) (locs : List Loc) (la : Array Slot) (x y : Int32) (rest : List Value), ¬ y = 0 → W p l e R s m args below meth c H locs 0 0 Q (F0 m (pc + 1) la (.int (g x y) :: rest)) → W p l e R s m args below meth c H locs 0 0 Q (F0 m pc la (.int y :: .int x :: rest))) :
    Gd prs ls' st' σ' ∧ Nx p l e R s m args below meth c Q dC dI ad nz Aa prs A pc ls st σ pc' ls' st' σ' := by
  obtain ⟨a, b, st0, rfl, hb0, e⟩ := div_inv h
  cases e
  have hb : r32 b := hG.2.1.hd
  refine ⟨⟨hG.1, okT.cons (hr a b) hG.2.1.tl.tl, hG.2.2⟩, nx_row (fun H locs la _ _ _ k => row H locs la _ _ _ (fun q => hb0 ((i32_eq hb (by constructor <;> omega)).mp q)) ?_)⟩
  have k : W p l e R s m args below meth c H locs 0 0 Q (F0 m (pc + 1) la (.int (Int32.ofInt (f a b)) :: st0.map (kc ad nz))) := k
  rw [hf] at k
  exact k
theorem so_un {f : Int → Int} {g : Int32 → Int32} (hG : Gd prs ls st σ) (h : sUn f (pc, ls, st, σ) = some (.inl (pc', ls', st', σ'))) (hr : ∀ a, r32 (f a)) (hf : ∀ a, Int32.ofInt (f a) = g (Int32.ofInt a))
    (row : ∀ (H : Heap) (locs : List Loc) (la : Array Slot) (x : Int32) (rest : List Value), W p l e R s m args below meth c H locs 0 0 Q (F0 m (pc + 1) la (.int (g x) :: rest)) → W p l e R s m args below meth c H locs 0 0 Q (F0 m pc la (.int x :: rest))) :
    Gd prs ls' st' σ' ∧ Nx p l e R s m args below meth c Q dC dI ad nz Aa prs A pc ls st σ pc' ls' st' σ' := by
  obtain ⟨a, st0, rfl, e⟩ := un_inv h
  cases e
  refine ⟨⟨hG.1, okT.cons (hr a) hG.2.1.tl, hG.2.2⟩, nx_row (fun H locs la _ _ _ k => row H locs la _ _ ?_)⟩
  have k : W p l e R s m args below meth c H locs 0 0 Q (F0 m (pc + 1) la (.int (Int32.ofInt (f a)) :: st0.map (kc ad nz))) := k
  rw [hf] at k
  exact k
theorem so_lbin {f : Int → Int → Int} {g : Int64 → Int64 → Int64} (hG : Gd prs ls st σ) (h : sLbin f (pc, ls, st, σ) = some (.inl (pc', ls', st', σ'))) (hr : ∀ a b, r64 (f a b)) (hf : ∀ a b, Int64.ofInt (f a b) = g (Int64.ofInt a) (Int64.ofInt b))
    (row : ∀ (H : Heap) (locs : List Loc) (la : Array Slot) (x y : Int64) (rest : List Value), W p l e R s m args below meth c H locs 0 0 Q (F0 m (pc + 1) la (.long (g x y) :: rest)) → W p l e R s m args below meth c H locs 0 0 Q (F0 m pc la (.long y :: .long x :: rest))) :
    Gd prs ls' st' σ' ∧ Nx p l e R s m args below meth c Q dC dI ad nz Aa prs A pc ls st σ pc' ls' st' σ' := by
  obtain ⟨a, b, st0, rfl, e⟩ := lbin_inv h
  cases e
  refine ⟨⟨hG.1, okT.cons (hr a b) hG.2.1.tl.tl, hG.2.2⟩, nx_row (fun H locs la _ _ _ k => row H locs la _ _ _ ?_)⟩
  have k : W p l e R s m args below meth c H locs 0 0 Q (F0 m (pc + 1) la (.long (Int64.ofInt (f a b)) :: st0.map (kc ad nz))) := k
  rw [hf] at k
  exact k
theorem so_ldiv {f : Int → Int → Int} {g : Int64 → Int64 → Int64} (hG : Gd prs ls st σ) (h : sLdiv f (pc, ls, st, σ) = some (.inl (pc', ls', st', σ'))) (hr : ∀ a b, r64 (f a b)) (hf : ∀ a b, Int64.ofInt (f a b) = g (Int64.ofInt a) (Int64.ofInt b))
    (row : ∀ (H : Heap) (locs : List Loc) (la : Array Slot) (x y : Int64) (rest : List Value), ¬ y = 0 → W p l e R s m args below meth c H locs 0 0 Q (F0 m (pc + 1) la (.long (g x y) :: rest)) → W p l e R s m args below meth c H locs 0 0 Q (F0 m pc la (.long y :: .long x :: rest))) :
    Gd prs ls' st' σ' ∧ Nx p l e R s m args below meth c Q dC dI ad nz Aa prs A pc ls st σ pc' ls' st' σ' := by
  obtain ⟨a, b, st0, rfl, hb0, e⟩ := ldiv_inv h
  cases e
  have hb : r64 b := hG.2.1.hd
  refine ⟨⟨hG.1, okT.cons (hr a b) hG.2.1.tl.tl, hG.2.2⟩, nx_row (fun H locs la _ _ _ k => row H locs la _ _ _ (fun q => hb0 ((i64_eq hb (by constructor <;> omega)).mp q)) ?_)⟩
  have k : W p l e R s m args below meth c H locs 0 0 Q (F0 m (pc + 1) la (.long (Int64.ofInt (f a b)) :: st0.map (kc ad nz))) := k
  rw [hf] at k
  exact k
/-- a value is pushed -/
theorem so_push {v : PV} (hG : Gd prs ls st σ) (h : sPush v len (pc, ls, st, σ) = some (.inl (pc', ls', st', σ'))) (hv : okV prs v)
    (row : ∀ (H : Heap) (locs : List Loc) (la : Array Slot) (rest : List Value), va_S A s.heap H locs → W p l e R s m args below meth c H locs 0 0 Q (F0 m (pc + len) la (kc ad nz v :: rest)) → W p l e R s m args below meth c H locs 0 0 Q (F0 m pc la rest)) :
    Gd prs ls' st' σ' ∧ Nx p l e R s m args below meth c Q dC dI ad nz Aa prs A pc ls st σ pc' ls' st' σ' := by
  cases h
  exact ⟨⟨hG.1, okT.cons hv hG.2.1, hG.2.2⟩, nx_row (fun H locs la _ hS _ k => row H locs la _ hS k)⟩
theorem UU_i (x : Int) : ¬ jk (Sum.inl x : PV) := by rintro (h | h) <;> cases h
theorem UU_l (x : Int) : ¬ jk (Sum.inr (Sum.inr x) : PV) := by rintro (h | h) <;> cases h
theorem so_iload {k : Nat} (hG : Gd prs ls st σ) (h : sIload k len (pc, ls, st, σ) = some (.inl (pc', ls', st', σ')))
    (row : ∀ (H : Heap) (locs : List Loc) (la : Array Slot) (x : Int32) (rest : List Value), la[k]? = some (.val (.int x)) → W p l e R s m args below meth c H locs 0 0 Q (F0 m (pc + len) la (.int x :: rest)) → W p l e R s m args below meth c H locs 0 0 Q (F0 m pc la rest)) :
    Gd prs ls' st' σ' ∧ Nx p l e R s m args below meth c Q dC dI ad nz Aa prs A pc ls st σ pc' ls' st' σ' := by
  unfold sIload at h
  split at h
  rename_i heq
  cases heq
  split at h
  · rename_i x hx
    cases h
    refine ⟨⟨hG.1, okT.cons ((hG.1 _ (List.mem_of_getElem? hx)).resolve_left (UU_i x)) hG.2.1, hG.2.2⟩, nx_row (fun H locs la _ _ hL k => row H locs la _ _ (hL.2.2 _ _ hx (UU_i x) (fun z => by cases z)) k)⟩
  · cases h
theorem so_lload {k : Nat} (hG : Gd prs ls st σ) (h : sLload k len (pc, ls, st, σ) = some (.inl (pc', ls', st', σ')))
    (row : ∀ (H : Heap) (locs : List Loc) (la : Array Slot) (x : Int64) (rest : List Value), la[k]? = some (.val (.long x)) → W p l e R s m args below meth c H locs 0 0 Q (F0 m (pc + len) la (.long x :: rest)) → W p l e R s m args below meth c H locs 0 0 Q (F0 m pc la rest)) :
    Gd prs ls' st' σ' ∧ Nx p l e R s m args below meth c Q dC dI ad nz Aa prs A pc ls st σ pc' ls' st' σ' := by
  unfold sLload at h
  split at h
  rename_i heq
  cases heq
  split at h
  · rename_i x hx hx2
    cases h
    refine ⟨⟨hG.1, okT.cons ((hG.1 _ (List.mem_of_getElem? hx)).resolve_left (UU_l x)) hG.2.1, hG.2.2⟩, nx_row (fun H locs la _ _ hL k => row H locs la _ _ (hL.2.2 _ _ hx (UU_l x) (fun _ => hx2)) k)⟩
  · cases h
theorem so_aload {k : Nat} (hG : Gd prs ls st σ) (h : sAload k len (pc, ls, st, σ) = some (.inl (pc', ls', st', σ')))
    (row : ∀ (H : Heap) (locs : List Loc) (la : Array Slot) (x : Nat) (rest : List Value), la[k]? = some (.val (.ref x)) → W p l e R s m args below meth c H locs 0 0 Q (F0 m (pc + len) la (.ref x :: rest)) → W p l e R s m args below meth c H locs 0 0 Q (F0 m pc la rest)) :
    Gd prs ls' st' σ' ∧ Nx p l e R s m args below meth c Q dC dI ad nz Aa prs A pc ls st σ pc' ls' st' σ' := by
  unfold sAload at h
  split at h
  rename_i heq
  cases heq
  split at h
  · rename_i q j hx
    split at h
    · rename_i hq
      cases h
      have hq61 : q < 61 := Nat.le_of_ble_eq_true hq
      have hU : ¬ jk (Sum.inr (Sum.inl (q, j)) : PV) := by
        rintro (h | h) <;> (cases h; omega)
      have hk : kc ad nz (.inr (.inl (q, j))) = .ref (ad q j) := kc_r (by omega)
      refine ⟨⟨hG.1, okT.cons ((hG.1 _ (List.mem_of_getElem? hx)).resolve_left hU) hG.2.1, hG.2.2⟩, nx_row (fun H locs la _ _ hL k => row H locs la (ad q j) _ (by rw [← hk]; exact hL.2.2 _ _ hx hU (fun z => by cases z)) ?_)⟩
      have k : W p l e R s m args below meth c H locs 0 0 Q (F0 m (pc + len) la (kc ad nz (.inr (.inl (q, j))) :: st.map (kc ad nz))) := k
      rw [hk] at k
      exact k
    · cases h
  · cases h
theorem so_istore {k : Nat} (hz : nz.category = 1) (hG : Gd prs ls st σ) (h : sIstore k len (pc, ls, st, σ) = some (.inl (pc', ls', st', σ')))
    (row : ∀ (H : Heap) (locs : List Loc) (la : Array Slot) (x : Int32) (rest : List Value) (nL : Nat) (lv : List (Nat × Value)), lv_has la nL lv → k < nL → (∀ la' : Array Slot, lv_has la' nL ((k, Value.int x) :: lv.filter (fun q => !(q.1 == k) && !(q.1 + 1 == k && q.2.category == 2))) → W p l e R s m args below meth c H locs 0 0 Q (F0 m (pc + len) la' rest)) → W p l e R s m args below meth c H locs 0 0 Q (F0 m pc la (.int x :: rest))) :
    Gd prs ls' st' σ' ∧ Nx p l e R s m args below meth c Q dC dI ad nz Aa prs A pc ls st σ pc' ls' st' σ' := by
  unfold sIstore at h
  split at h
  · rename_i heq
    cases heq
    split at h
    · rename_i hk
      cases h
      have hk := Nat.le_of_ble_eq_true hk
      refine ⟨⟨okL_set hG.1 (Or.inr hG.2.1.hd), hG.2.1.tl, hG.2.2⟩, fun H locs la hP hS hL kk => row H locs la _ _ _ _ hL.has hk (fun la' h' => kk H locs la' hP hS (LM.set1 hz (UU_i _) hk h'))⟩
    · cases h
  · cases h
theorem so_astore {k : Nat} (hz : nz.category = 1) (hG : Gd prs ls st σ) (h : sAstore k len (pc, ls, st, σ) = some (.inl (pc', ls', st', σ')))
    (row : ∀ (H : Heap) (locs : List Loc) (la : Array Slot) (x : Nat) (rest : List Value) (nL : Nat) (lv : List (Nat × Value)), lv_has la nL lv → k < nL → (∀ la' : Array Slot, lv_has la' nL ((k, Value.ref x) :: lv.filter (fun q => !(q.1 == k) && !(q.1 + 1 == k && q.2.category == 2))) → W p l e R s m args below meth c H locs 0 0 Q (F0 m (pc + len) la' rest)) → W p l e R s m args below meth c H locs 0 0 Q (F0 m pc la (.ref x :: rest))) :
    Gd prs ls' st' σ' ∧ Nx p l e R s m args below meth c Q dC dI ad nz Aa prs A pc ls st σ pc' ls' st' σ' := by
  unfold sAstore at h
  split at h
  · rename_i pc0 ls0 q j st0 s0 heq
    cases heq
    split at h
    · rename_i hq hk
      cases h
      have hk := Nat.le_of_ble_eq_true hk
      have hq := Nat.le_of_ble_eq_true hq
      have hkc : kc ad nz (.inr (.inl (q, j))) = .ref (ad q j) := kc_r (by omega)
      refine ⟨⟨okL_set hG.1 (Or.inr hG.2.1.hd), hG.2.1.tl, hG.2.2⟩, fun H locs la hP hS hL kk => ?_⟩
      show W p l e R s m args below meth c H locs 0 0 Q (F0 m pc la (kc ad nz (.inr (.inl (q, j))) :: List.map (kc ad nz) _))
      rw [hkc]
      exact row H locs la _ _ _ _ hL.has hk (fun la' h' => kk H locs la' hP hS (LM.set1 hz (by rintro (z | z) <;> (cases z; omega)) hk (by rw [hkc]; exact h')))
    · cases h
  · cases h
theorem so_lstore {k : Nat} (hz : nz.category = 1) (hG : Gd prs ls st σ) (h : sLstore k len (pc, ls, st, σ) = some (.inl (pc', ls', st', σ')))
    (row : ∀ (H : Heap) (locs : List Loc) (la : Array Slot) (x : Int64) (rest : List Value) (nL : Nat) (lv : List (Nat × Value)), lv_has la nL lv → k + 1 < nL → (∀ la' : Array Slot, lv_has la' nL ((k, Value.long x) :: lv.filter (fun q => !(q.1 == k) && (!(q.1 == k + 1) && !(q.1 + 1 == k && q.2.category == 2)))) → W p l e R s m args below meth c H locs 0 0 Q (F0 m (pc + len) la' rest)) → W p l e R s m args below meth c H locs 0 0 Q (F0 m pc la (.long x :: rest))) :
    Gd prs ls' st' σ' ∧ Nx p l e R s m args below meth c Q dC dI ad nz Aa prs A pc ls st σ pc' ls' st' σ' := by
  unfold sLstore at h
  split at h
  · rename_i heq
    cases heq
    split at h
    · rename_i hk
      cases h
      have hk := Nat.le_of_ble_eq_true hk
      refine ⟨⟨?_, hG.2.1.tl, hG.2.2⟩, fun H locs la hP hS hL kk => row H locs la _ _ _ _ hL.has hk (fun la' h' => kk H locs la' hP hS (LM.set2 hz (UU_l _) hk h'))⟩
      intro w hw
      rcases List.mem_or_eq_of_mem_set hw with q | q
      · exact okL_set hG.1 (Or.inr hG.2.1.hd) w q
      · exact Or.inl (Or.inr q)
    · cases h
  · cases h
theorem so_iinc {k : Nat} {n : Int} (hz : nz.category = 1) (hG : Gd prs ls st σ) (h : sIinc k n (pc, ls, st, σ) = some (.inl (pc', ls', st', σ')))
    (row : ∀ (H : Heap) (locs : List Loc) (la : Array Slot) (x : Int32) (rest : List Value) (nL q : Nat) (lv : List (Nat × Value)), lv_has la nL lv → lv[q]? = some (k, .int x) → k < nL → (∀ la' : Array Slot, lv_has la' nL ((k, Value.int (x + Int32.ofInt n)) :: lv.filter (fun q => !(q.1 == k) && !(q.1 + 1 == k && q.2.category == 2))) → W p l e R s m args below meth c H locs 0 0 Q (F0 m (pc + 3) la' rest)) → W p l e R s m args below meth c H locs 0 0 Q (F0 m pc la rest)) :
    Gd prs ls' st' σ' ∧ Nx p l e R s m args below meth c Q dC dI ad nz Aa prs A pc ls st σ pc' ls' st' σ' := by
  unfold sIinc at h
  split at h
  rename_i heq
  cases heq
  split at h
  · rename_i x hx hn
    cases h
    have hk : k < ls.length := (List.getElem?_eq_some_iff.mp hx).1
    refine ⟨⟨okL_set hG.1 (Or.inr (r32_t _)), hG.2.1, hG.2.2⟩, fun H locs la hP hS hL kk => ?_⟩
    obtain ⟨q, hq⟩ := List.getElem?_of_mem (lvOf_mem (ad := ad) (nz := nz) hx (UU_i x) (fun z => by cases z))
    refine row H locs la _ _ _ q _ hL.has hq hk (fun la' h' => kk H locs la' hP hS (LM.set1 hz (UU_i _) hk ?_))
    have e : kc ad nz (.inl (w32 (x + n))) = .int (Int32.ofInt x + Int32.ofInt n) := by
      show Value.int (Int32.ofInt (w32 (x + n))) = _
      rw [i32_w, Int32.ofInt_add]
    rw [e]
    exact h'
  · cases h
/-- a jump -/
theorem jmp_ok {off : Int} {t : Nat} (h : jmp pc off = some t) : (pc : Int) + off = (t : Int) := by
  unfold jmp at h
  split at h
  · rename_i q hq
    cases h
    exact hq
  · cases h
theorem to_inv {off : Int} {o : Out} (h : sTo pc off ls st σ = some o) : ∃ t : Nat, (pc : Int) + off = (t : Int) ∧ o = .inl (t, ls, st, σ) := by
  unfold sTo at h
  split at h
  · rename_i t ht
    cases h
    exact ⟨t, jmp_ok ht, rfl⟩
  · cases h
end SN
