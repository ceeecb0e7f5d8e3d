/-! THE MACHINE IS SOUND, 12: a run of the machine is a contract of the method -/
abbrev roomD (d : Nat) : Room := { frames := d + 1, cells := 0, slots := 0, locals := 100 * (d + 1) }
theorem RO_mh (q : Nat) : RO q ≠ "java/lang/invoke/MethodHandle" ∧ RO q ≠ "java/lang/invoke/VarHandle" := by
  unfold RO
  split <;> exact ⟨by decide, by decide⟩
section SN
variable {l : Launch} {dC : Nat → ClassId} {dI : Nat → Nat → Nat} {ad : Nat → Nat → Nat} {nz : Value} {Aa : Nat → ClassId} {tys : List (ClassId × FieldType)} {prs : List (Nat × Nat)}
def Pcx (dC : Nat → ClassId) (dI : Nat → Nat → Nat) (ad : Nat → Nat → Nat) (nz : Value) (Aa : Nat → ClassId) (tys : List (ClassId × FieldType)) (prs : List (Nat × Nat)) (as : List PV) (σ : Sg) (sz : Nat) : Array Value → State → Prop :=
  va_Pc (as.map (kc ad nz)) (fun U => U.heap.size = sz ∧ va_P (dC, dI) scl (wl ad Aa prs σ) U.heap ∧ va_K (dC, dI) scl tys U ∧ va_D (fun _ => True) (wl ad Aa prs σ) ∧ SF ad nz (va_A (wl ad Aa prs σ) sz) U U.heap)
def Bx (dC : Nat → ClassId) (dI : Nat → Nat → Nat) (ad : Nat → Nat → Nat) (Aa : Nat → ClassId) (prs : List (Nat × Nat)) (σ' : Sg) : Unit → State → Prop := fun _ t => va_P (dC, dI) scl (wl ad Aa prs σ') t.heap
def okRv (r : Option PV) : Prop := match r with
  | none => True
  | some (.inl x) => r32 x
  | some (.inr (.inr x)) => r64 x
  | some (.inr (.inl _)) => False
def Qcx (dC : Nat → ClassId) (dI : Nat → Nat → Nat) (ad : Nat → Nat → Nat) (Aa : Nat → ClassId) (prs : List (Nat × Nat)) (r : Option PV) (σ' : Sg) (A : Nat → Prop) : Array Value → State → Outcome → State → Prop := match r with
  | none => va_Qv (fun _ => okS σ' ∧ True) (Bx dC dI ad Aa prs σ') A
  | some (.inl x) => va_Qi (fun y _ => y = Int32.ofInt x ∧ okS σ' ∧ r32 x) (Bx dC dI ad Aa prs σ') A
  | some (.inr (.inr x)) => va_Ql (fun y _ => y = Int64.ofInt x ∧ okS σ' ∧ r64 x) (Bx dC dI ad Aa prs σ') A
  | some (.inr (.inl _)) => fun _ _ _ _ => False
/-- the body's walk, from any point of the method, in any context -/
def Wk (l : Launch) (dC : Nat → ClassId) (dI : Nat → Nat → Nat) (ad : Nat → Nat → Nat) (nz : Value) (Aa : Nat → ClassId) (tys : List (ClassId × FieldType)) (prs : List (Nat × Nat)) (d : Nat) (M : Md) (pc : Nat) (ls st : List PV) (σ : Sg) (r : Option PV) (σ' : Sg) : Prop :=
  ∀ (p : Program) (e : Env) (s : State) (m : MethodId) (args : Array Value) (below : List Frame) (meth : Method) (c : Code) (A : Nat → Prop) (H : Heap) (locs : List Loc) (la : Array Slot), Cx p s m args c M dC dI ad nz Aa tys prs A → meth.sig.returnType = M.2.2.2.2 → meth.locks = false → (∀ q, s.heap.size ≤ q → A q) → va_P (dC, dI) scl (wl ad Aa prs σ) H → va_S A s.heap H locs → LM ad nz ls la →
    W p l e (roomD d) s m args below meth c H locs 0 0 (MQ below (Qcx dC dI ad Aa prs r σ' A) args s 0 0 A) (F0 m pc la (st.map (kc ad nz)))
/-- the walk from the entry is the contract -/
theorem met_wrap {d : Nat} {M : Md} {as : List PV} {σ : Sg} {r : Option PV} {σ' : Sg} (hg : gM M) (hz : nz.category = 1) (hpo : prsOk prs) (hto : tysOk Aa tys prs) (hn : (slots as).length ≤ M.2.2.2.1) (sz : Nat) (hW : Wk l dC dI ad nz Aa tys prs d M 0 (padL M.2.2.2.1 (slots as)) [] σ r σ') :
    Met l M.2.1 (Cond.code M.2.1 M.2.2.1 M.2.2.2.1 M.2.2.2.2 :: gws) (roomD d) (Pcx dC dI ad nz Aa tys prs as σ sz) (Qcx dC dI ad Aa prs r σ' (va_A (wl ad Aa prs σ) sz)) 0 0 (va_A (wl ad Aa prs σ) sz) := by
  refine Met.ofW (cc := M.2.2.1) (maxL := M.2.2.2.1) (ret := M.2.2.2.2) hg.2.2.1 rfl ?_
  intro p e s m args below meth c s₁ B hml hv
  obtain ⟨rfl, hsz, hP, hK, hD0, hSF⟩ := hv
  have hx := B.exec
  have hb := B.bytes
  have hr := B.returns
  have hts := atoms_spec B.pre
  have hown : s.vm.findClass M.2.1.cls = some m.cls := findClass_of_methodNamed B.named
  rw [hg.2.1] at hown
  have hlocks := B.notSynchronized
  subst hsz
  rw [lg_entry_eq]
  exact hW p e s m _ below meth c _ s.heap [] _ ⟨hx, hb, hml, fun w hw => hts w (List.mem_cons_of_mem _ hw), hown, hK, wl_D _ (hD0.self), hSF, hz, hpo, hto⟩ hr hlocks (fun q hq => Or.inr hq) hP va_S.rf (LM.entry hz hn)
theorem blind {as : List PV} {σ : Sg} {sz : Nat} : FrameBlind (Pcx dC dI ad nz Aa tys prs as σ sz) := by
  intro a U g mk h
  obtain ⟨h0, h1, h2, h3, h4, h5⟩ := h
  exact ⟨h0, h1, h2, va_K.moved (u := U) (U := U.calling g mk a) (Vm.Alike.refl U.vm) h3, h4, SF.same (u := U) (U := U.calling g mk a) rfl h5⟩
/-- what a call's start gives, wherever it stands -/
theorem pcx_at {as : List PV} {σ : Sg} {s : State} {H : Heap} {locs : List Loc} {A : Nat → Prop} (hK : va_K (dC, dI) scl tys s) (hD : va_D A (wl ad Aa prs (fun _ _ _ => 0))) (hSF : SF ad nz A s s.heap) (hA : ∀ q, s.heap.size ≤ q → A q) (hP : va_P (dC, dI) scl (wl ad Aa prs σ) H) (hS : va_S A s.heap H locs) :
    ∀ U : State, U.heap = H → s.WarmedH U.vm → Pcx dC dI ad nz Aa tys prs as σ H.size (as.map (kc ad nz)).toArray U := by
  intro U hU hWm
  refine ⟨rfl, by rw [hU], by rw [hU]; exact hP, va_K.moved hWm.alike hK, (wl_D σ hD).weaken (fun _ _ _ _ => trivial), ?_⟩
  rw [hU]
  have h1 : SF ad nz A U H := SF.moved hWm (hSF.kept hS.2.1)
  refine h1.nar (fun q hq => ?_)
  rcases hq with ⟨k, e, h⟩ | h
  · exact (wl_D σ hD).2 k (q, e) h
  · exact hA q (Nat.le_trans hS.1 h)
theorem A_in {σ : Sg} {s : State} {H : Heap} {locs : List Loc} {A : Nat → Prop} (hD : va_D A (wl ad Aa prs (fun _ _ _ => 0))) (hA : ∀ q, s.heap.size ≤ q → A q) (hS : va_S A s.heap H locs) : ∀ q, va_A (wl ad Aa prs σ) H.size q → A q := by
  intro q hq
  rcases hq with ⟨k, e, h⟩ | h
  · exact (wl_D σ hD).2 k (q, e) h
  · exact hA q (Nat.le_trans hS.1 h)
theorem good_ws {M : Md} (hg : gM M) {ws : List Cond} (h : ∀ w ∈ ws, w ∈ gws) : GoodIn gws (ws ++ (Cond.code M.2.1 M.2.2.1 M.2.2.2.1 M.2.2.2.2 :: gws)) := by
  intro w hw
  have hm : w ∈ gws := by
    rcases List.mem_append.mp hw with h1 | h1
    · exact h w h1
    · rcases List.mem_cons.mp h1 with rfl | h1
      · exact hg.1
      · exact h1
  exact ⟨hm, gws_good hm⟩
/-- a call, answered by what the callee's contract says -/
theorem call_on {p : Program} {e : Env} {s : State} {m : MethodId} {args : Array Value} {below : List Frame} {meth : Method} {c : Code} {A : Nat → Prop} {Q : State → Prop} {H : Heap} {locs : List Loc} {la : Array Slot} {d pc rk : Nat} {a : Array Value} {rest st0 : List Value} {σ σ1 σ2 : Sg} {r : Option PV} {ls : List PV} {rst : List PV} {cf : Cfg}
    (hS : va_S A s.heap H locs) (hAin : ∀ q, va_A (wl ad Aa prs σ) H.size q → A q) (hrest : rest = rst.map (kc ad nz)) (hrs : rsm rk (pc + 3, ls, rst, σ2) r σ1 = some cf)
    (hr : va_Run p l e (roomD (d + 1)) s m args below meth c H locs 0 0 0 0 (F0 m pc la st0) rest (Qcx dC dI ad Aa prs r σ1 (va_A (wl ad Aa prs σ) H.size) a) (va_A (wl ad Aa prs σ) H.size))
    (kk : ∀ (H1 : Heap) (locs1 : List Loc), okS σ1 → okRv r → va_P (dC, dI) scl (wl ad Aa prs σ1) H1 → va_S A s.heap H1 locs1 → W p l e (roomD (d + 1)) s m args below meth c H1 locs1 0 0 Q (F0 m cf.1 la (cf.2.2.1.map (kc ad nz)))) :
    cf.2.1 = ls ∧ cf.2.2.2 = σ1 ∧ W p l e (roomD (d + 1)) s m args below meth c H locs 0 0 Q (F0 m pc la st0) := by
  unfold rsm at hrs
  split at hrs
  · cases hrs
    refine ⟨rfl, rfl, va_callv (a := a) hr hS (fun q _ h => hAin q h) hAin (fun u t H1 locs1 ht hvm hw hB hz1 hk1 hS1 => ?_)⟩
    rw [hrest]
    exact kk H1 locs1 hw.1 hw.2 (by rw [← ht]; exact hB) hS1
  · cases hrs
    refine ⟨rfl, rfl, va_calli (a := a) hr hS (fun q _ h => hAin q h) hAin (fun r1 u t H1 locs1 ht hvm hw hB hz1 hk1 hS1 => ?_)⟩
    rw [hrest, hw.1]
    exact kk H1 locs1 hw.2.1 hw.2.2 (by rw [← ht]; exact hB) hS1
  · cases hrs
    refine ⟨rfl, rfl, va_calll (a := a) hr hS (fun q _ h => hAin q h) hAin (fun r1 u t H1 locs1 ht hvm hw hB hz1 hk1 hS1 => ?_)⟩
    rw [hrest, hw.1]
    exact kk H1 locs1 hw.2.1 hw.2.2 (by rw [← ht]; exact hB) hS1
  · cases hrs
end SN
