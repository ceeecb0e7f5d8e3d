/-! THE LAW 3: one argument loaded, one case of the switch -/
def R_law : String := "OtherSidesPumpLaw"
abbrev prsA : List (Nat × Nat) := prsC ++ prsM
abbrev lvL (ad : Nat → Nat → Nat) (b i : Nat) : List (Nat × Value) := [(3, .int (Int32.ofNat i)), (2, .ref (ad 32 0)), (1, .ref (ad 0 0)), (0, .ref b)]
section LW
variable {p : Program} {l : Launch} {e : Env} {s : State} {m : MethodId} {below : List Frame} {meth : Method} {c : Code} {H : Heap} {locs : List Loc} {cells slt : Nat} {Q : State → Prop}
variable {pc : Nat} {ls : Array Slot} {rest : List Value} {dC : Nat → ClassId} {dI : Nat → Nat → Nat} {ad : Nat → Nat → Nat} {nz : Value} {Aa : Nat → ClassId} {b L i : Nat} {xs : Nat → Int32} {σ : Sg}
theorem ix_add {i j L : Nat} {y : Int32} (hj : y = Int32.ofNat j) (h : i + j < L) (hL : L ≤ 3072) : vp_in (Int32.ofNat i + y) L ∧ (Int32.ofNat i + y).toNatClampNeg = i + j := by
  subst hj
  have e : Int32.ofNat i + Int32.ofNat j = Int32.ofNat (i + j) := (Int32.ofNat_add i j).symm
  have e2 : (Int32.ofNat (i + j)).toInt = ((i + j : Nat) : Int) := Int32.toInt_ofNat_of_lt (by omega)
  rw [e]
  refine ⟨?_, ?_⟩
  · rw [vp_in_iff, e2]
    constructor <;> omega
  · show (Int32.ofNat (i + j)).toInt.toNat = _
    rw [e2]
    rfl
theorem arg_ld {j : Nat} {jz : Int} {A : Nat → Prop} (hx : p.tables.exec = Jvm.exec) (hb : c.code = cL_law) (hl : lv_has ls 4 (lvL ad b i)) (hX : va_X b L xs s s.heap) (hbl : b < s.heap.size) (hbA : ¬ A b) (hS : va_S A s.heap H locs) (hL : L ≤ 3072) (hij : i + j < L) (hjz : Int32.ofInt jz = Int32.ofNat j)
    (d0 : decode cL_law pc = .ok (.aload_n 0, 1)) (d1 : decode cL_law (pc + 1) = .ok (.iload_n 3, 1)) (d2 : decode cL_law (pc + 2) = .ok (.iconst jz, 1)) (d3 : decode cL_law (pc + 3) = .ok (.iadd, 1)) (d4 : decode cL_law (pc + 4) = .ok (.iaload, 1))
    (kk : W p l e room_1 s m #[Value.ref b] below meth c H locs cells slt Q (F0 m (pc + 5) ls (.int (Int32.ofInt (xs (i + j)).toInt) :: rest))) : W p l e room_1 s m #[Value.ref b] below meth c H locs cells slt Q (F0 m pc ls rest) := by
  refine lv_aload_n hx hb d0 rfl (lv_at hl 3 rfl) ?_
  refine lv_iload_n hx hb d1 rfl (lv_at hl 0 rfl) ?_
  refine lv_iconst (v := Int32.ofNat j) hx hb d2 hjz ?_
  refine lv_iadd hx hb d3 ?_
  obtain ⟨h1, h2⟩ := ix_add (i := i) (j := j) rfl hij hL
  refine va_sld hx hb hX hbl hbA hS h1 d4 ?_
  rw [h2, ← Int32.ofInt_toInt (xs (i + j))]
  rw [Int32.ofInt_toInt] at kk ⊢
  exact kk
end LW
/-- what a case goes on with -/
def NXT (p : Program) (l : Launch) (e : Env) (s : State) (m : MethodId) (b : Nat) (below : List Frame) (meth : Method) (c : Code) (cells slt : Nat) (Q : State → Prop) (dC : Nat → ClassId) (dI : Nat → Nat → Nat) (ad : Nat → Nat → Nat) (Aa : Nat → ClassId) (ls : Array Slot) : Prop :=
  ∀ (σ : Sg) (H : Heap) (locs : List Loc), INV σ → okS σ → va_P (dC, dI) scl (wl ad Aa prsA σ) H → va_S (fun q : Nat => s.heap.size ≤ q) s.heap H locs → W p l e room_1 s m #[Value.ref b] below meth c H locs cells slt Q (F0 m 961 ls [])
