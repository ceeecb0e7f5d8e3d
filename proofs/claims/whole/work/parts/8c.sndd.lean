/-! THE MACHINE IS SOUND, 13: the theorem -/
/-- only calls call -/
def isGo (o : Option Out) : Prop := ∀ x, o = some x → ∃ c', x = .inl c'
theorem isGo_no {o : Option Out} {q : (Nat × Md × List PV × Cfg) ⊕ (Option PV × Sg)} (h : isGo o) (hq : o = some (.inr q)) : False := by
  obtain ⟨c', e⟩ := h _ hq
  cases e
theorem isGo_none : isGo none := fun x h => by cases h
theorem isGo_some {c' : Cfg} : isGo (some (.inl c')) := fun x h => ⟨c', (Option.some.inj h).symm⟩
theorem isGo_ite {P : Prop} [Decidable P] {a b : Option Out} (ha : isGo a) (hb : isGo b) : isGo (if P then a else b) := by
  split
  · exact ha
  · exact hb
theorem go_sTo (pc : Nat) (off : Int) (ls st : List PV) (σ : Sg) : isGo (sTo pc off ls st σ) := by
  unfold sTo
  split
  · exact isGo_some
  · exact isGo_none
theorem go_sBr (cd : Jvm.ClassFile.Cond) (x y : Int) {a b : Option Out} (ha : isGo a) (hb : isGo b) : isGo (sBr cd x y a b) := by
  cases cd <;> simp only [sBr] <;> split <;> assumption
theorem go_sTab {k : Int → Option Out} (hk : ∀ o, isGo (k o)) (x d : Int) : ∀ (os : List Int) (lo : Int), isGo (sTab k x d lo os)
  | [], lo => hk d
  | o :: os, lo => by
    unfold sTab
    split
    · exact hk o
    · exact go_sTab hk x d os (lo + 1)
theorem go_sPush (v : PV) (len : Nat) (c : Cfg) : isGo (sPush v len c) := by
  unfold sPush
  repeat' split
  all_goals first | exact isGo_some | exact isGo_none | exact go_sTo _ _ _ _ _ | exact go_sBr _ _ _ (go_sTo _ _ _ _ _) isGo_some | exact go_sTab (fun _ => go_sTo _ _ _ _ _) _ _ _ _
theorem go_sIcon (n : Int) (len : Nat) (c : Cfg) : isGo (sIcon n len c) := by
  unfold sIcon
  repeat' split
  all_goals first | exact isGo_some | exact isGo_none | exact go_sTo _ _ _ _ _ | exact go_sBr _ _ _ (go_sTo _ _ _ _ _) isGo_some | exact go_sTab (fun _ => go_sTo _ _ _ _ _) _ _ _ _ | exact go_sPush _ _ _
theorem go_sIcon8 (n : Int) (len : Nat) (c : Cfg) : isGo (sIcon8 n len c) := by
  unfold sIcon8
  repeat' split
  all_goals first | exact isGo_some | exact isGo_none | exact go_sTo _ _ _ _ _ | exact go_sBr _ _ _ (go_sTo _ _ _ _ _) isGo_some | exact go_sTab (fun _ => go_sTo _ _ _ _ _) _ _ _ _ | exact go_sPush _ _ _
theorem go_sIload (k : Nat) (len : Nat) (c : Cfg) : isGo (sIload k len c) := by
  unfold sIload
  repeat' split
  all_goals first | exact isGo_some | exact isGo_none | exact go_sTo _ _ _ _ _ | exact go_sBr _ _ _ (go_sTo _ _ _ _ _) isGo_some | exact go_sTab (fun _ => go_sTo _ _ _ _ _) _ _ _ _ | exact go_sPush _ _ _
theorem go_sLload (k : Nat) (len : Nat) (c : Cfg) : isGo (sLload k len c) := by
  unfold sLload
  repeat' split
  all_goals first | exact isGo_some | exact isGo_none | exact go_sTo _ _ _ _ _ | exact go_sBr _ _ _ (go_sTo _ _ _ _ _) isGo_some | exact go_sTab (fun _ => go_sTo _ _ _ _ _) _ _ _ _ | exact go_sPush _ _ _
theorem go_sAload (k : Nat) (len : Nat) (c : Cfg) : isGo (sAload k len c) := by
  unfold sAload
  repeat' split
  all_goals first | exact isGo_some | exact isGo_none | exact go_sTo _ _ _ _ _ | exact go_sBr _ _ _ (go_sTo _ _ _ _ _) isGo_some | exact go_sTab (fun _ => go_sTo _ _ _ _ _) _ _ _ _ | exact go_sPush _ _ _
theorem go_sIstore (k : Nat) (len : Nat) (c : Cfg) : isGo (sIstore k len c) := by
  unfold sIstore
  repeat' split
  all_goals first | exact isGo_some | exact isGo_none | exact go_sTo _ _ _ _ _ | exact go_sBr _ _ _ (go_sTo _ _ _ _ _) isGo_some | exact go_sTab (fun _ => go_sTo _ _ _ _ _) _ _ _ _ | exact go_sPush _ _ _
theorem go_sAstore (k : Nat) (len : Nat) (c : Cfg) : isGo (sAstore k len c) := by
  unfold sAstore
  repeat' split
  all_goals first | exact isGo_some | exact isGo_none | exact go_sTo _ _ _ _ _ | exact go_sBr _ _ _ (go_sTo _ _ _ _ _) isGo_some | exact go_sTab (fun _ => go_sTo _ _ _ _ _) _ _ _ _ | exact go_sPush _ _ _
theorem go_sLstore (k : Nat) (len : Nat) (c : Cfg) : isGo (sLstore k len c) := by
  unfold sLstore
  repeat' split
  all_goals first | exact isGo_some | exact isGo_none | exact go_sTo _ _ _ _ _ | exact go_sBr _ _ _ (go_sTo _ _ _ _ _) isGo_some | exact go_sTab (fun _ => go_sTo _ _ _ _ _) _ _ _ _ | exact go_sPush _ _ _
theorem go_sIinc (k : Nat) (n : Int) (c : Cfg) : isGo (sIinc k n c) := by
  unfold sIinc
  repeat' split
  all_goals first | exact isGo_some | exact isGo_none | exact go_sTo _ _ _ _ _ | exact go_sBr _ _ _ (go_sTo _ _ _ _ _) isGo_some | exact go_sTab (fun _ => go_sTo _ _ _ _ _) _ _ _ _ | exact go_sPush _ _ _
theorem go_sBin (f : Int → Int → Int) (c : Cfg) : isGo (sBin f c) := by
  unfold sBin
  repeat' split
  all_goals first | exact isGo_some | exact isGo_none | exact go_sTo _ _ _ _ _ | exact go_sBr _ _ _ (go_sTo _ _ _ _ _) isGo_some | exact go_sTab (fun _ => go_sTo _ _ _ _ _) _ _ _ _ | exact go_sPush _ _ _
theorem go_sDiv (f : Int → Int → Int) (c : Cfg) : isGo (sDiv f c) := by
  unfold sDiv
  repeat' split
  all_goals first | exact isGo_some | exact isGo_none | exact go_sTo _ _ _ _ _ | exact go_sBr _ _ _ (go_sTo _ _ _ _ _) isGo_some | exact go_sTab (fun _ => go_sTo _ _ _ _ _) _ _ _ _ | exact go_sPush _ _ _
theorem go_sUn (g : Int → Int) (c : Cfg) : isGo (sUn g c) := by
  unfold sUn
  repeat' split
  all_goals first | exact isGo_some | exact isGo_none | exact go_sTo _ _ _ _ _ | exact go_sBr _ _ _ (go_sTo _ _ _ _ _) isGo_some | exact go_sTab (fun _ => go_sTo _ _ _ _ _) _ _ _ _ | exact go_sPush _ _ _
theorem go_sLbin (f : Int → Int → Int) (c : Cfg) : isGo (sLbin f c) := by
  unfold sLbin
  repeat' split
  all_goals first | exact isGo_some | exact isGo_none | exact go_sTo _ _ _ _ _ | exact go_sBr _ _ _ (go_sTo _ _ _ _ _) isGo_some | exact go_sTab (fun _ => go_sTo _ _ _ _ _) _ _ _ _ | exact go_sPush _ _ _
theorem go_sLdiv (f : Int → Int → Int) (c : Cfg) : isGo (sLdiv f c) := by
  unfold sLdiv
  repeat' split
  all_goals first | exact isGo_some | exact isGo_none | exact go_sTo _ _ _ _ _ | exact go_sBr _ _ _ (go_sTo _ _ _ _ _) isGo_some | exact go_sTab (fun _ => go_sTo _ _ _ _ _) _ _ _ _ | exact go_sPush _ _ _
theorem go_sLcmp  (c : Cfg) : isGo (sLcmp c) := by
  unfold sLcmp
  repeat' split
  all_goals first | exact isGo_some | exact isGo_none | exact go_sTo _ _ _ _ _ | exact go_sBr _ _ _ (go_sTo _ _ _ _ _) isGo_some | exact go_sTab (fun _ => go_sTo _ _ _ _ _) _ _ _ _ | exact go_sPush _ _ _
theorem go_sI2l  (c : Cfg) : isGo (sI2l c) := by
  unfold sI2l
  repeat' split
  all_goals first | exact isGo_some | exact isGo_none | exact go_sTo _ _ _ _ _ | exact go_sBr _ _ _ (go_sTo _ _ _ _ _) isGo_some | exact go_sTab (fun _ => go_sTo _ _ _ _ _) _ _ _ _ | exact go_sPush _ _ _
theorem go_sL2i  (c : Cfg) : isGo (sL2i c) := by
  unfold sL2i
  repeat' split
  all_goals first | exact isGo_some | exact isGo_none | exact go_sTo _ _ _ _ _ | exact go_sBr _ _ _ (go_sTo _ _ _ _ _) isGo_some | exact go_sTab (fun _ => go_sTo _ _ _ _ _) _ _ _ _ | exact go_sPush _ _ _
theorem go_sGo (off : Int) (c : Cfg) : isGo (sGo off c) := by
  unfold sGo
  repeat' split
  all_goals first | exact isGo_some | exact isGo_none | exact go_sTo _ _ _ _ _ | exact go_sBr _ _ _ (go_sTo _ _ _ _ _) isGo_some | exact go_sTab (fun _ => go_sTo _ _ _ _ _) _ _ _ _ | exact go_sPush _ _ _
theorem go_sIf (cd : Jvm.ClassFile.Cond) (off : Int) (c : Cfg) : isGo (sIf cd off c) := by
  unfold sIf
  repeat' split
  all_goals first | exact isGo_some | exact isGo_none | exact go_sTo _ _ _ _ _ | exact go_sBr _ _ _ (go_sTo _ _ _ _ _) isGo_some | exact go_sTab (fun _ => go_sTo _ _ _ _ _) _ _ _ _ | exact go_sPush _ _ _
theorem go_sIcmp (cd : Jvm.ClassFile.Cond) (off : Int) (c : Cfg) : isGo (sIcmp cd off c) := by
  unfold sIcmp
  repeat' split
  all_goals first | exact isGo_some | exact isGo_none | exact go_sTo _ _ _ _ _ | exact go_sBr _ _ _ (go_sTo _ _ _ _ _) isGo_some | exact go_sTab (fun _ => go_sTo _ _ _ _ _) _ _ _ _ | exact go_sPush _ _ _
theorem go_sSw (a1 : Int) (a2 : Int) (a3 : Int) (a4 : Array Int) (c : Cfg) : isGo (sSw a1 a2 a3 a4 c) := by
  unfold sSw
  repeat' split
  all_goals first | exact isGo_some | exact isGo_none | exact go_sTo _ _ _ _ _ | exact go_sBr _ _ _ (go_sTo _ _ _ _ _) isGo_some | exact go_sTab (fun _ => go_sTo _ _ _ _ _) _ _ _ _ | exact go_sPush _ _ _
theorem go_sDup  (c : Cfg) : isGo (sDup c) := by
  unfold sDup
  repeat' split
  all_goals first | exact isGo_some | exact isGo_none | exact go_sTo _ _ _ _ _ | exact go_sBr _ _ _ (go_sTo _ _ _ _ _) isGo_some | exact go_sTab (fun _ => go_sTo _ _ _ _ _) _ _ _ _ | exact go_sPush _ _ _
theorem go_sPop  (c : Cfg) : isGo (sPop c) := by
  unfold sPop
  repeat' split
  all_goals first | exact isGo_some | exact isGo_none | exact go_sTo _ _ _ _ _ | exact go_sBr _ _ _ (go_sTo _ _ _ _ _) isGo_some | exact go_sTab (fun _ => go_sTo _ _ _ _ _) _ _ _ _ | exact go_sPush _ _ _
theorem go_sDupx1  (c : Cfg) : isGo (sDupx1 c) := by
  unfold sDupx1
  repeat' split
  all_goals first | exact isGo_some | exact isGo_none | exact go_sTo _ _ _ _ _ | exact go_sBr _ _ _ (go_sTo _ _ _ _ _) isGo_some | exact go_sTab (fun _ => go_sTo _ _ _ _ _) _ _ _ _ | exact go_sPush _ _ _
theorem go_sDup2  (c : Cfg) : isGo (sDup2 c) := by
  unfold sDup2
  repeat' split
  all_goals first | exact isGo_some | exact isGo_none | exact go_sTo _ _ _ _ _ | exact go_sBr _ _ _ (go_sTo _ _ _ _ _) isGo_some | exact go_sTab (fun _ => go_sTo _ _ _ _ _) _ _ _ _ | exact go_sPush _ _ _
theorem go_sGet (k : Nat) (k2 : Nat) (c : Cfg) : isGo (sGet k k2 c) := by
  unfold sGet
  repeat' split
  all_goals first | exact isGo_some | exact isGo_none | exact go_sTo _ _ _ _ _ | exact go_sBr _ _ _ (go_sTo _ _ _ _ _) isGo_some | exact go_sTab (fun _ => go_sTo _ _ _ _ _) _ _ _ _ | exact go_sPush _ _ _
theorem go_sPut (k : Nat) (k2 : Nat) (c : Cfg) : isGo (sPut k k2 c) := by
  unfold sPut
  repeat' split
  all_goals first | exact isGo_some | exact isGo_none | exact go_sTo _ _ _ _ _ | exact go_sBr _ _ _ (go_sTo _ _ _ _ _) isGo_some | exact go_sTab (fun _ => go_sTo _ _ _ _ _) _ _ _ _ | exact go_sPush _ _ _
theorem go_sIald  (c : Cfg) : isGo (sIald c) := by
  unfold sIald
  repeat' split
  all_goals first | exact isGo_some | exact isGo_none | exact go_sTo _ _ _ _ _ | exact go_sBr _ _ _ (go_sTo _ _ _ _ _) isGo_some | exact go_sTab (fun _ => go_sTo _ _ _ _ _) _ _ _ _ | exact go_sPush _ _ _
theorem go_sBald  (c : Cfg) : isGo (sBald c) := by
  unfold sBald
  repeat' split
  all_goals first | exact isGo_some | exact isGo_none | exact go_sTo _ _ _ _ _ | exact go_sBr _ _ _ (go_sTo _ _ _ _ _) isGo_some | exact go_sTab (fun _ => go_sTo _ _ _ _ _) _ _ _ _ | exact go_sPush _ _ _
theorem go_sAald  (c : Cfg) : isGo (sAald c) := by
  unfold sAald
  repeat' split
  all_goals first | exact isGo_some | exact isGo_none | exact go_sTo _ _ _ _ _ | exact go_sBr _ _ _ (go_sTo _ _ _ _ _) isGo_some | exact go_sTab (fun _ => go_sTo _ _ _ _ _) _ _ _ _ | exact go_sPush _ _ _
theorem go_sIast  (c : Cfg) : isGo (sIast c) := by
  unfold sIast
  repeat' split
  all_goals first | exact isGo_some | exact isGo_none | exact go_sTo _ _ _ _ _ | exact go_sBr _ _ _ (go_sTo _ _ _ _ _) isGo_some | exact go_sTab (fun _ => go_sTo _ _ _ _ _) _ _ _ _ | exact go_sPush _ _ _
theorem go_sBast  (c : Cfg) : isGo (sBast c) := by
  unfold sBast
  repeat' split
  all_goals first | exact isGo_some | exact isGo_none | exact go_sTo _ _ _ _ _ | exact go_sBr _ _ _ (go_sTo _ _ _ _ _) isGo_some | exact go_sTab (fun _ => go_sTo _ _ _ _ _) _ _ _ _ | exact go_sPush _ _ _
theorem go_sAlen  (c : Cfg) : isGo (sAlen c) := by
  unfold sAlen
  repeat' split
  all_goals first | exact isGo_some | exact isGo_none | exact go_sTo _ _ _ _ _ | exact go_sBr _ _ _ (go_sTo _ _ _ _ _) isGo_some | exact go_sTab (fun _ => go_sTo _ _ _ _ _) _ _ _ _ | exact go_sPush _ _ _
theorem go_sCopy  (c : Cfg) : isGo (sCopy c) := by
  unfold sCopy
  repeat' split
  all_goals first | exact isGo_some | exact isGo_none | exact go_sTo _ _ _ _ _ | exact go_sBr _ _ _ (go_sTo _ _ _ _ _) isGo_some | exact go_sTab (fun _ => go_sTo _ _ _ _ _) _ _ _ _ | exact go_sPush _ _ _
theorem go_sMath (f : Int → Int → Int) (c : Cfg) : isGo (sMath f c) := by
  unfold sMath
  repeat' split
  all_goals first | exact isGo_some | exact isGo_none | exact go_sTo _ _ _ _ _ | exact go_sBr _ _ _ (go_sTo _ _ _ _ _) isGo_some | exact go_sTab (fun _ => go_sTo _ _ _ _ _) _ _ _ _ | exact go_sPush _ _ _
theorem go_sCon (k : Nat) (k2 : Nat) (len : Nat) (c : Cfg) : isGo (sCon k k2 len c) := by
  unfold sCon
  repeat' split
  all_goals first | exact isGo_some | exact isGo_none | exact go_sTo _ _ _ _ _ | exact go_sBr _ _ _ (go_sTo _ _ _ _ _) isGo_some | exact go_sTab (fun _ => go_sTo _ _ _ _ _) _ _ _ _ | exact go_sPush _ _ _
theorem sStat_call {own idx : Nat} {c : Cfg} {q : (Nat × Md × List PV × Cfg) ⊕ (Option PV × Sg)} (h : sStat own idx c = some (.inr q)) : sCall 1 own idx c = some (.inr q) := by
  unfold sStat at h
  split at h
  · exact (isGo_no (go_sCopy _) h).elim
  · exact (isGo_no (go_sMath _ _) h).elim
  · exact (isGo_no (go_sMath _ _) h).elim
  · cases h
  · exact h
theorem sCall_nr {vs own idx : Nat} {c : Cfg} {r : Option PV × Sg} : sCall vs own idx c ≠ some (.inr (.inr r)) := by
  intro h
  unfold sCall at h
  repeat' split at h
  all_goals cases h
theorem sIret_nc {rt : Option FieldType} {c : Cfg} {q : Nat × Md × List PV × Cfg} : sIret rt c ≠ some (.inr (.inl q)) := by
  intro h
  unfold sIret at h
  repeat' split at h
  all_goals cases h
theorem sLret_nc {rt : Option FieldType} {c : Cfg} {q : Nat × Md × List PV × Cfg} : sLret rt c ≠ some (.inr (.inl q)) := by
  intro h
  unfold sLret at h
  repeat' split at h
  all_goals cases h
theorem sVret_nc {rt : Option FieldType} {c : Cfg} {q : Nat × Md × List PV × Cfg} : sVret rt c ≠ some (.inr (.inl q)) := by
  intro h
  unfold sVret at h
  repeat' split at h
  all_goals cases h
theorem stpJ_call {own len : Nat} {rt : Option FieldType} {i : Instr} {c : Cfg} {q : Nat × Md × List PV × Cfg} (h : stpJ own rt i len c = some (.inr (.inl q))) (hlen : (Nat.beq (lenOf i) len || Nat.beq (lenOf i) 0) = true) : (∃ idx, i = .invokevirtual idx ∧ len = 3 ∧ sCall 0 own idx c = some (.inr (.inl q))) ∨ (∃ idx, i = .invokestatic idx ∧ len = 3 ∧ sCall 1 own idx c = some (.inr (.inl q))) := by
  cases i
  case iconst _ => exact (isGo_no (go_sIcon _ _ _) h).elim
  case bipush _ => exact (isGo_no (go_sIcon8 _ _ _) h).elim
  case sipush _ => exact (isGo_no (go_sIcon _ _ _) h).elim
  case lconst _ => exact (isGo_no (go_sPush _ _ _) h).elim
  case ldc _ => exact (isGo_no (go_sCon _ _ _ _) h).elim
  case ldc_w _ => exact (isGo_no ((by show isGo (match lcl _ _ with | some n => sPush (.inl n) _ _ | none => none); split; exact go_sPush _ _ _; exact isGo_none)) h).elim
  case ldc2_w _ => exact (isGo_no ((by show isGo (match lll _ _ with | some n => sPush (.inr (.inr n)) _ _ | none => none); split; exact go_sPush _ _ _; exact isGo_none)) h).elim
  case iload_n _ => exact (isGo_no (go_sIload _ _ _) h).elim
  case iload _ => exact (isGo_no (go_sIload _ _ _) h).elim
  case lload_n _ => exact (isGo_no (go_sLload _ _ _) h).elim
  case lload _ => exact (isGo_no (go_sLload _ _ _) h).elim
  case aload_n _ => exact (isGo_no (go_sAload _ _ _) h).elim
  case aload _ => exact (isGo_no (go_sAload _ _ _) h).elim
  case istore_n _ => exact (isGo_no (go_sIstore _ _ _) h).elim
  case istore _ => exact (isGo_no (go_sIstore _ _ _) h).elim
  case lstore _ => exact (isGo_no (go_sLstore _ _ _) h).elim
  case astore_n _ => exact (isGo_no (go_sAstore _ _ _) h).elim
  case astore _ => exact (isGo_no (go_sAstore _ _ _) h).elim
  case iinc _ _ => exact (isGo_no (go_sIinc _ _ _) h).elim
  case iadd => exact (isGo_no (go_sBin _ _) h).elim
  case isub => exact (isGo_no (go_sBin _ _) h).elim
  case imul => exact (isGo_no (go_sBin _ _) h).elim
  case idiv => exact (isGo_no (go_sDiv _ _) h).elim
  case irem => exact (isGo_no (go_sDiv _ _) h).elim
  case ineg => exact (isGo_no (go_sUn _ _) h).elim
  case iand => exact (isGo_no (go_sBin _ _) h).elim
  case ior => exact (isGo_no (go_sBin _ _) h).elim
  case ixor => exact (isGo_no (go_sBin _ _) h).elim
  case ishl => exact (isGo_no (go_sBin _ _) h).elim
  case ishr => exact (isGo_no (go_sBin _ _) h).elim
  case iushr => exact (isGo_no (go_sBin _ _) h).elim
  case i2b => exact (isGo_no (go_sUn _ _) h).elim
  case i2s => exact (isGo_no (go_sUn _ _) h).elim
  case i2c => exact (isGo_no (go_sUn _ _) h).elim
  case i2l => exact (isGo_no (go_sI2l _) h).elim
  case l2i => exact (isGo_no (go_sL2i _) h).elim
  case ladd => exact (isGo_no (go_sLbin _ _) h).elim
  case lsub => exact (isGo_no (go_sLbin _ _) h).elim
  case lmul => exact (isGo_no (go_sLbin _ _) h).elim
  case ldiv => exact (isGo_no (go_sLdiv _ _) h).elim
  case lrem => exact (isGo_no (go_sLdiv _ _) h).elim
  case lcmp => exact (isGo_no (go_sLcmp _) h).elim
  case ifCond _ _ => exact (isGo_no (go_sIf _ _ _) h).elim
  case if_icmp _ _ => exact (isGo_no (go_sIcmp _ _ _) h).elim
  case goto _ => exact (isGo_no (go_sGo _ _) h).elim
  case tableswitch _ _ _ _ => exact (isGo_no (go_sSw _ _ _ _ _) h).elim
  case dup => exact (isGo_no (go_sDup _) h).elim
  case dup_x1 => exact (isGo_no (go_sDupx1 _) h).elim
  case dup2 => exact (isGo_no (go_sDup2 _) h).elim
  case pop => exact (isGo_no (go_sPop _) h).elim
  case getfield _ => exact (isGo_no (go_sGet _ _ _) h).elim
  case putfield _ => exact (isGo_no (go_sPut _ _ _) h).elim
  case getstatic _ => exact (isGo_no ((by show isGo (match gtl _ _ with | some v => sPush v _ _ | none => none); split; exact go_sPush _ _ _; exact isGo_none)) h).elim
  case iaload => exact (isGo_no (go_sIald _) h).elim
  case baload => exact (isGo_no (go_sBald _) h).elim
  case aaload => exact (isGo_no (go_sAald _) h).elim
  case iastore => exact (isGo_no (go_sIast _) h).elim
  case bastore => exact (isGo_no (go_sBast _) h).elim
  case arraylength => exact (isGo_no (go_sAlen _) h).elim
  case invokevirtual kk => exact Or.inl ⟨kk, rfl, len_of (k := 3) hlen (by decide), h⟩
  case invokestatic kk => exact Or.inr ⟨kk, rfl, len_of (k := 3) hlen (by decide), sStat_call h⟩
  case ireturn => exact absurd h sIret_nc
  case lreturn => exact absurd h sLret_nc
  case return_ => exact absurd h sVret_nc
  all_goals (have h : (none : Option Out) = some (.inr (.inl q)) := h; cases h)
theorem stpJ_end {own len : Nat} {rt : Option FieldType} {i : Instr} {c : Cfg} {r : Option PV × Sg} (h : stpJ own rt i len c = some (.inr (.inr r))) (hlen : (Nat.beq (lenOf i) len || Nat.beq (lenOf i) 0) = true) : (i = .ireturn ∧ len = 1 ∧ sIret rt c = some (.inr (.inr r))) ∨ (i = .lreturn ∧ len = 1 ∧ sLret rt c = some (.inr (.inr r))) ∨ (i = .return_ ∧ len = 1 ∧ sVret rt c = some (.inr (.inr r))) := by
  cases i
  case iconst _ => exact (isGo_no (go_sIcon _ _ _) h).elim
  case bipush _ => exact (isGo_no (go_sIcon8 _ _ _) h).elim
  case sipush _ => exact (isGo_no (go_sIcon _ _ _) h).elim
  case lconst _ => exact (isGo_no (go_sPush _ _ _) h).elim
  case ldc _ => exact (isGo_no (go_sCon _ _ _ _) h).elim
  case ldc_w _ => exact (isGo_no ((by show isGo (match lcl _ _ with | some n => sPush (.inl n) _ _ | none => none); split; exact go_sPush _ _ _; exact isGo_none)) h).elim
  case ldc2_w _ => exact (isGo_no ((by show isGo (match lll _ _ with | some n => sPush (.inr (.inr n)) _ _ | none => none); split; exact go_sPush _ _ _; exact isGo_none)) h).elim
  case iload_n _ => exact (isGo_no (go_sIload _ _ _) h).elim
  case iload _ => exact (isGo_no (go_sIload _ _ _) h).elim
  case lload_n _ => exact (isGo_no (go_sLload _ _ _) h).elim
  case lload _ => exact (isGo_no (go_sLload _ _ _) h).elim
  case aload_n _ => exact (isGo_no (go_sAload _ _ _) h).elim
  case aload _ => exact (isGo_no (go_sAload _ _ _) h).elim
  case istore_n _ => exact (isGo_no (go_sIstore _ _ _) h).elim
  case istore _ => exact (isGo_no (go_sIstore _ _ _) h).elim
  case lstore _ => exact (isGo_no (go_sLstore _ _ _) h).elim
  case astore_n _ => exact (isGo_no (go_sAstore _ _ _) h).elim
  case astore _ => exact (isGo_no (go_sAstore _ _ _) h).elim
  case iinc _ _ => exact (isGo_no (go_sIinc _ _ _) h).elim
  case iadd => exact (isGo_no (go_sBin _ _) h).elim
  case isub => exact (isGo_no (go_sBin _ _) h).elim
  case imul => exact (isGo_no (go_sBin _ _) h).elim
  case idiv => exact (isGo_no (go_sDiv _ _) h).elim
  case irem => exact (isGo_no (go_sDiv _ _) h).elim
  case ineg => exact (isGo_no (go_sUn _ _) h).elim
  case iand => exact (isGo_no (go_sBin _ _) h).elim
  case ior => exact (isGo_no (go_sBin _ _) h).elim
  case ixor => exact (isGo_no (go_sBin _ _) h).elim
  case ishl => exact (isGo_no (go_sBin _ _) h).elim
  case ishr => exact (isGo_no (go_sBin _ _) h).elim
  case iushr => exact (isGo_no (go_sBin _ _) h).elim
  case i2b => exact (isGo_no (go_sUn _ _) h).elim
  case i2s => exact (isGo_no (go_sUn _ _) h).elim
  case i2c => exact (isGo_no (go_sUn _ _) h).elim
  case i2l => exact (isGo_no (go_sI2l _) h).elim
  case l2i => exact (isGo_no (go_sL2i _) h).elim
  case ladd => exact (isGo_no (go_sLbin _ _) h).elim
  case lsub => exact (isGo_no (go_sLbin _ _) h).elim
  case lmul => exact (isGo_no (go_sLbin _ _) h).elim
  case ldiv => exact (isGo_no (go_sLdiv _ _) h).elim
  case lrem => exact (isGo_no (go_sLdiv _ _) h).elim
  case lcmp => exact (isGo_no (go_sLcmp _) h).elim
  case ifCond _ _ => exact (isGo_no (go_sIf _ _ _) h).elim
  case if_icmp _ _ => exact (isGo_no (go_sIcmp _ _ _) h).elim
  case goto _ => exact (isGo_no (go_sGo _ _) h).elim
  case tableswitch _ _ _ _ => exact (isGo_no (go_sSw _ _ _ _ _) h).elim
  case dup => exact (isGo_no (go_sDup _) h).elim
  case dup_x1 => exact (isGo_no (go_sDupx1 _) h).elim
  case dup2 => exact (isGo_no (go_sDup2 _) h).elim
  case pop => exact (isGo_no (go_sPop _) h).elim
  case getfield _ => exact (isGo_no (go_sGet _ _ _) h).elim
  case putfield _ => exact (isGo_no (go_sPut _ _ _) h).elim
  case getstatic _ => exact (isGo_no ((by show isGo (match gtl _ _ with | some v => sPush v _ _ | none => none); split; exact go_sPush _ _ _; exact isGo_none)) h).elim
  case iaload => exact (isGo_no (go_sIald _) h).elim
  case baload => exact (isGo_no (go_sBald _) h).elim
  case aaload => exact (isGo_no (go_sAald _) h).elim
  case iastore => exact (isGo_no (go_sIast _) h).elim
  case bastore => exact (isGo_no (go_sBast _) h).elim
  case arraylength => exact (isGo_no (go_sAlen _) h).elim
  case invokevirtual kk => exact absurd h sCall_nr
  case invokestatic kk => exact absurd (sStat_call h) sCall_nr
  case ireturn => exact Or.inl ⟨rfl, len_of (k := 1) hlen (by decide), h⟩
  case lreturn => exact Or.inr (Or.inl ⟨rfl, len_of (k := 1) hlen (by decide), h⟩)
  case return_ => exact Or.inr (Or.inr ⟨rfl, len_of (k := 1) hlen (by decide), h⟩)
  all_goals (have h : (none : Option Out) = some (.inr (.inr r)) := h; cases h)
section SN
variable {l : Launch} {dC : Nat → ClassId} {dI : Nat → Nat → Nat} {ad : Nat → Nat → Nat} {nz : Value} {Aa : Nat → ClassId} {tys : List (ClassId × FieldType)} {prs : List (Nat × Nat)}
theorem iret_inv {rt : Option FieldType} {pc : Nat} {ls st : List PV} {σ : Sg} {o : Out} (h : sIret rt (pc, ls, st, σ) = some o) : ∃ x, st = [.inl x] ∧ o = .inr (.inr (some (.inl x), σ)) ∧ (r32 x → ∃ ty, rt = some ty ∧ narrow ty (.int (Int32.ofInt x)) = .int (Int32.ofInt x)) := by
  unfold sIret at h
  split at h
  · rename_i pc0 ls0 x0 s0 heq
    cases heq
    split at h
    · cases h
      exact ⟨_, rfl, rfl, fun _ => ⟨_, rfl, rfl⟩⟩
    · split at h
      · rename_i h01
        cases h
        exact ⟨_, rfl, rfl, fun _ => ⟨_, rfl, (nar_b h01).1⟩⟩
      · cases h
    · split at h
      · rename_i h01
        cases h
        refine ⟨_, rfl, rfl, fun hr => ⟨_, rfl, ?_⟩⟩
        have e1 : Int32.ofInt x0 = nI x0.toNat := by
          show _ = Int32.ofNat _
          rw [← Int32.ofInt_eq_ofNat, Int.toNat_of_nonneg h01.1]
        rw [e1]
        exact (pk_charN (by omega)).1
      · cases h
    · split at h
      · rename_i h01
        cases h
        refine ⟨_, rfl, rfl, fun hr => ⟨_, rfl, ?_⟩⟩
        have e1 : Int32.ofInt x0 = (Int32.ofInt x0).toInt8.toInt32 := by
          apply Int32.toInt_inj.mp
          rw [Int8.toInt_toInt32, Int32.toInt8_ofInt, Int8.toInt_ofInt_of_le (by omega) (by omega), i32_r hr]
        rw [e1]
        exact pk_nb _
      · cases h
    · cases h
  · cases h
theorem lret_inv {rt : Option FieldType} {pc : Nat} {ls st : List PV} {σ : Sg} {o : Out} (h : sLret rt (pc, ls, st, σ) = some o) : ∃ x, st = [.inr (.inr x)] ∧ o = .inr (.inr (some (.inr (.inr x)), σ)) ∧ rt = some .long := by
  unfold sLret at h
  split at h
  · rename_i heq
    cases heq
    split at h
    · cases h
      exact ⟨_, rfl, rfl, rfl⟩
    · cases h
  · cases h
theorem vret_inv {rt : Option FieldType} {pc : Nat} {ls st : List PV} {σ : Sg} {o : Out} (h : sVret rt (pc, ls, st, σ) = some o) : st = [] ∧ o = .inr (.inr (none, σ)) ∧ rt = none := by
  unfold sVret at h
  split at h
  · rename_i heq
    cases heq
    split at h
    · cases h
      exact ⟨rfl, rfl, rfl⟩
    · cases h
  · cases h
/-- a call: what it is -/
theorem call_inv {vs own idx pc : Nat} {ls st : List PV} {σ : Sg} {q : Nat × Md × List PV × Cfg} (h : sCall vs own idx (pc, ls, st, σ) = some (.inr (.inl q))) :
    ∃ (rk n : Nat) (M' : Md) (as st0 : List PV), mtl own idx = some (vs, rk, n, M') ∧ q = (rk, M', as, (pc + 3, ls, st0, σ)) ∧ catS st0 ≤ 8 ∧ (slots as).length ≤ M'.2.2.2.1 ∧
      ((vs = 1 ∧ as.length = n ∧ st = as.reverse ++ st0) ∨ (vs = 0 ∧ ∃ (a0 j0 : Nat) (as0 : List PV), as = .inr (.inl (a0, j0)) :: as0 ∧ as0.length = n ∧ st = as0.reverse ++ .inr (.inl (a0, j0)) :: st0 ∧ kd a0 = 10 + M'.1)) := by
  unfold sCall at h
  split at h
  rename_i heq
  cases heq
  split at h
  · rename_i v rk n M' hmt
    split at h
    · rename_i hv
      have hv := Nat.eq_of_beq_eq_true hv
      subst hv
      split at h
      · rename_i h1 h2 h3
        cases h
        have h1 := Nat.le_of_ble_eq_true h1
        refine ⟨_, n, _, _, _, hmt, rfl, Nat.le_of_ble_eq_true h2, Nat.le_of_ble_eq_true h3, Or.inl ⟨rfl, by rw [List.length_reverse, List.length_take]; omega, by rw [List.reverse_reverse, List.take_append_drop]⟩⟩
      · cases h
    · rename_i hv
      have hv := Nat.eq_of_beq_eq_true hv
      subst hv
      split at h
      · rename_i a0 j0 st1 hst
        split at h
        · rename_i h1 h2 h3
          cases h
          refine ⟨_, n, _, _, _, hmt, rfl, Nat.le_of_ble_eq_true h2, Nat.le_of_ble_eq_true h3, Or.inr ⟨rfl, a0, j0, _, rfl, ?_, ?_, Nat.eq_of_beq_eq_true h1⟩⟩
          · have h4 := congrArg List.length hst
            rw [List.length_drop, List.length_cons] at h4
            rw [List.length_reverse, List.length_take]
            omega
          · rw [List.reverse_reverse, ← hst, List.take_append_drop]
        · cases h
      · cases h
    · cases h
  · cases h
theorem rsm_inv {rk pc : Nat} {ls rst : List PV} {σ σ1 : Sg} {r : Option PV} {cf : Cfg} (h : rsm rk (pc, ls, rst, σ) r σ1 = some cf) : ∃ stx, cf = (pc, ls, stx, σ1) ∧ (okRv r → okT prs rst → okT prs stx) := by
  unfold rsm at h
  split at h
  · cases h
    exact ⟨_, rfl, fun _ q => q⟩
  · cases h
    exact ⟨_, rfl, fun q1 q => okT.cons q1 q⟩
  · cases h
    exact ⟨_, rfl, fun q1 q => okT.cons q1 q⟩
  · cases h
theorem okT_args {as st0 : List PV} (h : okT prs (as.reverse ++ st0)) : okT prs as ∧ okT prs st0 := ⟨fun v hv => h v (List.mem_append.mpr (Or.inl (List.mem_reverse.mpr hv))), fun v hv => h v (List.mem_append.mpr (Or.inr hv))⟩
set_option maxHeartbeats 1000000 in
theorem sound (hz : nz.category = 1) (hpo : prsOk prs) (hto : tysOk Aa tys prs) : ∀ (n d : Nat) (M : Md) (pc : Nat) (ls st : List PV) (σ : Sg) (r : Option PV) (σ' : Sg), gM M → ev n d M (pc, ls, st, σ) = some (r, σ') → Gd prs ls st σ → M.2.2.2.1 = ls.length →
    Wk l dC dI ad nz Aa tys prs d M pc ls st σ r σ' := by
  intro n
  induction n with
  | zero => intro d M pc ls st σ r σ' _ h; cases h
  | succ n ih =>
    intro d M pc ls st σ r σ' hg h hG hls p e s m args below meth c A H locs la C hr hlk hA hP hS hL
    rw [ev] at h
    unfold stp at h
    dsimp only at h
    cases hd : decode M.2.2.1 pc with
    | error z => rw [hd] at h; cases h
    | ok z =>
      obtain ⟨i, len⟩ := z
      rw [hd] at h
      dsimp only at h
      cases hs : stpI M.1 M.2.2.2.2 i len (pc, ls, st, σ) with
      | none => rw [hs] at h; cases h
      | some o =>
        rw [hs] at h
        rcases o with c' | q | r'
        · -- a step
          obtain ⟨pc', ls', st', σ1⟩ := c'
          dsimp only at h
          have hR : 1 ≤ (roomD d).frames ∧ 100 ≤ (roomD d).locals := ⟨Nat.le_add_left 1 d, by show 100 ≤ 100 * (d + 1); omega⟩
          obtain ⟨⟨hG', hN⟩, hl'⟩ := so_all (l := l) (e := e) (below := below) (meth := meth) (Q := MQ below (Qcx dC dI ad Aa prs r σ' A) args s 0 0 A) (R := roomD d) C hR hG hls hd hs
          exact hN H locs la hP hS hL (fun H' locs' la' hP' hS' hL' => ih d M pc' ls' st' σ1 r σ' hg h hG' (hls.trans hl'.symm) p e s m args below meth c A H' locs' la' C hr hlk hA hP' hS' hL')
        · -- a call
          cases d with
          | zero => cases h
          | succ d' =>
            dsimp only at h
            cases h1 : ev n d' q.2.1 (entry q.2.1 q.2.2.1 q.2.2.2.2.2.2) with
            | none => rw [h1] at h; cases h
            | some r1 =>
              rw [h1] at h
              dsimp only at h
              cases h2 : rsm q.1 q.2.2.2 r1.1 r1.2 with
              | none => rw [h2] at h; cases h
              | some cf =>
                rw [h2] at h
                dsimp only at h
                obtain ⟨r1, σ1⟩ := r1
                have C0 := C
                obtain ⟨hx, hb, hml, hts, hown, hK, hD, hSF, -, -, -⟩ := C
                unfold stpI at hs
                split at hs
                next hlen =>
                  have hcall : (∃ idx, i = .invokevirtual idx ∧ len = 3 ∧ sCall 0 M.1 idx (pc, ls, st, σ) = some (.inr (.inl q))) ∨ (∃ idx, i = .invokestatic idx ∧ len = 3 ∧ sCall 1 M.1 idx (pc, ls, st, σ) = some (.inr (.inl q))) := stpJ_call hs hlen
                  have hAin := A_in (σ := σ) hD hA hS
                  rcases hcall with ⟨idx, rfl, rfl, hc⟩ | ⟨idx, rfl, rfl, hc⟩
                  · obtain ⟨rk, nn, M', as, st0, hmt, rfl, hcat, hslots, hor⟩ := call_inv hc
                    rcases hor with ⟨e0, -⟩ | ⟨-, a0, j0, as0, rfl, hn0, rfl, hkd⟩
                    · cases e0
                    · obtain ⟨hlk1, hgr, hgn, hgv⟩ := mtl_ok hmt
                      rw [if_pos rfl] at hgv
                      obtain ⟨hgM, hins, hsel⟩ := hgv
                      have hoT := okT_args hG.2.1
                      have hV : (a0, j0) ∈ prs ∨ (52 ≤ a0 ∧ a0 ≤ 61 ∧ j0 = 0) := hoT.2.hd
                      have hao : a0 ≠ 61 := by
                        rcases hV with hm | ⟨z1, z2, z3⟩
                        · have := (hpo.2 a0 j0 hm).1
                          omega
                        · have := (kdS a0 z1 z2).2.2.2.2.2 (by omega)
                          omega
                      have hkc : kc ad nz (.inr (.inl (a0, j0))) = .ref (ad a0 j0) := kc_r hao
                      have hWk : Wk l dC dI ad nz Aa tys prs d' M' 0 (padL M'.2.2.2.1 (slots (.inr (.inl (a0, j0)) :: as0))) [] σ r1 σ1 := ih d' M' 0 _ [] σ r1 σ1 hgM h1 ⟨okL_entry (okT.cons hoT.2.hd hoT.1), fun v hv => (by cases hv), hG.2.2⟩ (by unfold padL; rw [List.length_append, List.length_replicate]; omega)
                      have hM := met_wrap (l := l) hgM hz hpo hto hslots H.size hWk
                      have hrecv : ∃ cellB : Cell, H[ad a0 j0]? = some cellB ∧ cellB.vm.isStatics = false ∧ s.vm.findClass (RO M'.1) = some cellB.cls := by
                        rcases hV with hm | ⟨z1, z2, z3⟩
                        · have hp9 := hpo.2 a0 j0 hm
                          obtain ⟨qq, hqq⟩ := cell_at hm
                          exact va_recv (cl := scl) hK hP (scl_at M'.1 (by omega) (fun z => kd_ne13 a0 (by omega))) (q0 := qq) (by rw [wl_get hqq, enc_obj (by omega), show kd a0 - 10 = M'.1 by omega])
                        · have z4 := (kdS a0 z1 z2).2.2.2.2.2 (by omega)
                          have z5 : M'.1 = 20 := by omega
                          subst z3
                          rw [z5]
                          obtain ⟨cellB, b1, b2, b3, b4⟩ := (hSF.2.2.2.1 a0 z4.2.1 z4.2.2).1.kept hS.2.1
                          exact ⟨cellB, b1, b2, b3⟩
                      obtain ⟨stx, rfl, hstx⟩ := rsm_inv (prs := prs) h2
                      have hrun := va_runV (l := l) (R := roomD (d' + 1)) (e := e) (below := below) (meth := meth) (locs := locs) (cells := 0) (slots := 0) (g := F0 m pc la ((as0.reverse ++ .inr (.inl (a0, j0)) :: st0).map (kc ad nz))) (b := ad a0 j0) (As := as0.map (kc ad nz)) (rest := st0.map (kc ad nz)) (C := RO M'.1) (nL := M.2.2.2.1) (Ts := gws) (own := RO M.1) ⟨hx, hb, hml, hown, hts⟩ hM
                        (cwV nn hts (good_ws hgM (fun w hw => by
                          simp only [List.mem_cons, List.not_mem_nil, or_false] at hw
                          rcases hw with rfl | rfl | rfl | rfl
                          · exact hlk1
                          · exact hins
                          · exact hsel
                          · exact hgM.2.2.2.2)) rfl rfl rfl ⟨hgM.2.1, by rw [hgM.2.1]; exact (RO_mh _).1, by rw [hgM.2.1]; exact (RO_mh _).2, hgn⟩ ⟨Nat.le_refl _, by have := hgM.2.2.2.1; show 8 + (M'.2.2.2.1 + 11) + 100 * (d' + 1) ≤ 100 * (d' + 1 + 1); omega⟩)
                        ⟨blind, hrecv, fun U hU hWm => by
                          have h9 := pcx_at (as := .inr (.inl (a0, j0)) :: as0) (nz := nz) hK hD hSF hA hP hS U hU hWm
                          rw [List.map_cons, hkc] at h9
                          exact h9⟩
                        rfl (by rw [List.length_map]; exact hn0) (hL.1.trans hls.symm) (by show List.map (kc ad nz) _ = _; rw [List.map_append, List.map_reverse, List.map_cons, hkc]) (lv_room (by rw [kc_cats hz]; exact hcat)) hd ⟨Nat.le_refl _, Nat.le_refl _⟩
                      exact (call_on (nz := nz) hS hAin rfl h2 hrun (fun H1 locs1 hoS hoR hP1 hS1 => ih (d' + 1) M (pc + 3) ls stx σ1 r σ' hg h ⟨hG.1, hstx hoR hoT.2.tl, hoS⟩ hls p e s m args below meth c A H1 locs1 la C0 hr hlk hA hP1 hS1 hL)).2.2
                  · obtain ⟨rk, nn, M', as, st0, hmt, rfl, hcat, hslots, hor⟩ := call_inv hc
                    rcases hor with ⟨-, hn0, rfl⟩ | ⟨e0, -⟩
                    · obtain ⟨hlk1, hgr, hgn, hgv⟩ := mtl_ok hmt
                      rw [if_neg (by decide)] at hgv
                      obtain ⟨-, hgM, hsta⟩ := hgv
                      have hoT := okT_args hG.2.1
                      have hWk : Wk l dC dI ad nz Aa tys prs d' M' 0 (padL M'.2.2.2.1 (slots as)) [] σ r1 σ1 := ih d' M' 0 _ [] σ r1 σ1 hgM h1 ⟨okL_entry hoT.1, fun v hv => (by cases hv), hG.2.2⟩ (by unfold padL; rw [List.length_append, List.length_replicate]; omega)
                      have hM := met_wrap (l := l) hgM hz hpo hto hslots H.size hWk
                      obtain ⟨stx, rfl, hstx⟩ := rsm_inv (prs := prs) h2
                      have hrun := va_runS (l := l) (R := roomD (d' + 1)) (e := e) (below := below) (meth := meth) (locs := locs) (cells := 0) (slots := 0) (g := F0 m pc la ((as.reverse ++ st0).map (kc ad nz))) (As := as.map (kc ad nz)) (rest := st0.map (kc ad nz)) (nL := M.2.2.2.1) (Ts := gws) (own := RO M.1) ⟨hx, hb, hml, hown, hts⟩ hM
                        (va_cwS nn hts (good_ws hgM (fun w hw => by
                          simp only [List.mem_cons, List.not_mem_nil, or_false] at hw
                          rcases hw with rfl | rfl | rfl
                          · exact hlk1
                          · exact hsta
                          · rw [hgM.2.1]; exact hgM.2.2.2.2)) rfl rfl rfl ⟨by rw [hgM.2.1]; exact (RO_mh _).1, by rw [hgM.2.1]; exact (RO_mh _).2, hgn⟩ ⟨Nat.le_refl _, by have := hgM.2.2.2.1; show 8 + (M'.2.2.2.1 + 11) + 100 * (d' + 1) ≤ 100 * (d' + 1 + 1); omega⟩)
                        ⟨blind, fun U hU hWm => pcx_at (as := as) (nz := nz) hK hD hSF hA hP hS U hU hWm⟩
                        rfl (by rw [List.length_map]; exact hn0) (hL.1.trans hls.symm) (by show List.map (kc ad nz) _ = _; rw [List.map_append, List.map_reverse]) (lv_room (by rw [kc_cats hz]; exact hcat)) hd ⟨Nat.le_refl _, Nat.le_refl _⟩
                      exact (call_on (nz := nz) hS hAin rfl h2 hrun (fun H1 locs1 hoS hoR hP1 hS1 => ih (d' + 1) M (pc + 3) ls stx σ1 r σ' hg h ⟨hG.1, hstx hoR hoT.2, hoS⟩ hls p e s m args below meth c A H1 locs1 la C0 hr hlk hA hP1 hS1 hL)).2.2
                    · cases e0
                next => cases hs
        · -- the end
          dsimp only at h
          cases h
          unfold stpI at hs
          split at hs
          next hlen =>
            have hend := stpJ_end hs hlen
            obtain ⟨hx, hb, hml, hts, hown, hK, hD, hSF, -, -, -⟩ := C
            rcases hend with ⟨rfl, rfl, h1⟩ | ⟨rfl, rfl, h1⟩ | ⟨rfl, rfl, h1⟩
            · obtain ⟨x, rfl, e1, e2⟩ := iret_inv h1
              cases e1
              have hxr : r32 x := hG.2.1.hd
              obtain ⟨ty, e3, e4⟩ := e2 hxr
              exact W.zret (ty := ty) hx hb (hr.trans e3) e4 (fun t ht hWm => ⟨⟨_, (), rfl, ⟨rfl, hG.2.2, hxr⟩, by show va_P _ _ _ t.heap; rw [ht]; exact hP⟩, hS.F ht⟩) hS.2.2 hd hlk
            · obtain ⟨x, rfl, e1, e3⟩ := lret_inv h1
              cases e1
              have hxr : r64 x := hG.2.1.hd
              exact W.lret hx hb (hr.trans e3) (fun t ht hWm => ⟨⟨_, (), rfl, ⟨rfl, hG.2.2, hxr⟩, by show va_P _ _ _ t.heap; rw [ht]; exact hP⟩, hS.F ht⟩) hS.2.2 hd hlk
            · obtain ⟨rfl, e1, e3⟩ := vret_inv h1
              cases e1
              exact W.vret hx hb (hr.trans e3) (fun t ht hWm => ⟨⟨(), rfl, ⟨hG.2.2, trivial⟩, by show va_P _ _ _ t.heap; rw [ht]; exact hP⟩, hS.F ht⟩) hS.2.2 hd hlk
          next => cases hs
end SN
