/-! THE MACHINE IS SOUND, 5: branches, cells -/
section SN
variable {p : Program} {l : Launch} {e : Env} {R : Room} {s : State} {m : MethodId} {args : Array Value} {below : List Frame} {meth : Method} {c : Code} {Q : State → Prop}
variable {dC : Nat → ClassId} {dI : Nat → Nat → Nat} {ad : Nat → Nat → Nat} {nz : Value} {Aa : Nat → ClassId} {tys : List (ClassId × FieldType)} {prs : List (Nat × Nat)} {A : Nat → Prop} {M : Md}
variable {pc pc' : Nat} {ls ls' st st' : List PV} {σ σ' : Sg} {len : Nat}
theorem r32_0 : r32 0 := by constructor <;> omega
theorem br_inv {k : Jvm.ClassFile.Cond} {x y : Int} {X Y : Option Out} {o : Out} (h : sBr k x y X Y = some o) : (match k with | .eq => (x = y ∧ X = some o) ∨ (¬ x = y ∧ Y = some o) | .ne => (¬ x = y ∧ X = some o) ∨ (x = y ∧ Y = some o) | .lt => (x < y ∧ X = some o) ∨ (¬ x < y ∧ Y = some o) | .ge => (y ≤ x ∧ X = some o) ∨ (¬ y ≤ x ∧ Y = some o) | .gt => (y < x ∧ X = some o) ∨ (¬ y < x ∧ Y = some o) | .le => (x ≤ y ∧ X = some o) ∨ (¬ x ≤ y ∧ Y = some o)) := by
  cases k
  · simp only [sBr] at h
    split at h
    · exact Or.inl ⟨by assumption, h⟩
    · exact Or.inr ⟨by assumption, h⟩
  · simp only [sBr] at h
    split at h
    · exact Or.inr ⟨by assumption, h⟩
    · exact Or.inl ⟨by assumption, h⟩
  · simp only [sBr] at h
    split at h
    · exact Or.inl ⟨by assumption, h⟩
    · exact Or.inr ⟨by assumption, h⟩
  · simp only [sBr] at h
    split at h
    · exact Or.inr ⟨by omega, h⟩
    · exact Or.inl ⟨by omega, h⟩
  · simp only [sBr] at h
    split at h
    · exact Or.inl ⟨by assumption, h⟩
    · exact Or.inr ⟨by assumption, h⟩
  · simp only [sBr] at h
    split at h
    · exact Or.inr ⟨by omega, h⟩
    · exact Or.inl ⟨by omega, h⟩
/-- a branch whose row is known -/
theorem so_cond {x y : Int} {off : Int} {st0 : List PV} {P : Prop} {PJ : Prop} (hL : okL prs ls) (hT : okT prs st0) (hσ : okS σ) (hP : PJ ↔ P)
    (h : (P ∧ sTo pc off ls st0 σ = some (.inl (pc', ls', st', σ'))) ∨ (¬ P ∧ (some (.inl (pc + 3, ls, st0, σ)) : Option Out) = some (.inl (pc', ls', st', σ'))))
    (row : ∀ (H : Heap) (locs : List Loc) (la : Array Slot) (tgt : Nat), (pc : Int) + off = (tgt : Int) → (PJ → W p l e R s m args below meth c H locs 0 0 Q (F0 m tgt la (st0.map (kc ad nz)))) → (¬ PJ → W p l e R s m args below meth c H locs 0 0 Q (F0 m (pc + 3) la (st0.map (kc ad nz)))) → W p l e R s m args below meth c H locs 0 0 Q (F0 m pc la (st.map (kc ad nz))))
    (hto : ∃ tgt : Nat, (pc : Int) + off = (tgt : Int)) :
    Gd prs ls' st' σ' ∧ Nx p l e R s m args below meth c Q dC dI ad nz Aa prs A pc ls st σ pc' ls' st' σ' := by
  rcases h with ⟨hp, h⟩ | ⟨hp, h⟩
  · obtain ⟨t, ht, e⟩ := to_inv h
    cases e
    exact ⟨⟨hL, hT, hσ⟩, fun H locs la hPP hS hLL k => row H locs la _ ht (fun _ => k H locs la hPP hS hLL) (fun q => absurd (hP.mpr hp) q)⟩
  · cases h
    obtain ⟨tgt, ht⟩ := hto
    exact ⟨⟨hL, hT, hσ⟩, fun H locs la hPP hS hLL k => row H locs la tgt ht (fun q => absurd (hP.mp q) hp) (fun _ => k H locs la hPP hS hLL)⟩
theorem cell_at {a0 j0 : Nat} (h : (a0, j0) ∈ prs) : ∃ q : Nat, prs[q]? = some (a0, j0) := List.getElem?_of_mem h
/-- what an object's cell is -/
theorem enc_obj {a0 j0 : Nat} (h : 10 ≤ kd a0) : enc ad Aa σ a0 j0 = .inr (kd a0 - 10, (List.range (nF (kd a0 - 10))).map (fV ad σ a0 j0 (kd a0 - 10))) := by
  unfold enc
  split
  · omega
  · omega
  · omega
  · omega
  · rfl
theorem enc_int {a0 j0 : Nat} (h : kd a0 = 0) : enc ad Aa σ a0 j0 = .inl (Aa 0, ln a0, .inl (fun i => Int32.ofInt (σ a0 j0 i))) := by unfold enc; rw [h]; rfl
theorem enc_bool {a0 j0 : Nat} (h : kd a0 = 1) : enc ad Aa σ a0 j0 = .inl (Aa 1, ln a0, .inl (fun i => Int32.ofInt (σ a0 j0 i))) := by unfold enc; rw [h]; rfl
theorem enc_grid {a0 j0 : Nat} (h : kd a0 = 2) : enc ad Aa σ a0 j0 = .inl (Aa 2, ln a0, .inr (.inr (.inr (.inr (fun i => if i < ln a0 then some (ad (rf a0 0) i) else none))))) := by unfold enc; rw [h]; rfl
theorem enc_refs {a0 j0 : Nat} (h : kd a0 = 3) : enc ad Aa σ a0 j0 = .inl (Aa 3, ln a0, .inr (.inr (.inr (.inr (fun i => if i < ln a0 then some (ad (rf a0 0) i) else none))))) := by unfold enc; rw [h]; rfl
theorem fs_get {a0 j0 ci k : Nat} (hk : k < nF ci) : ((List.range (nF ci)).map (fV ad σ a0 j0 ci))[k]? = some (fV ad σ a0 j0 ci k) := by
  rw [List.getElem?_map, List.getElem?_range hk]
  rfl
/-- the store, one place changed -/
theorem okS_up {a0 j0 i : Nat} {v : Int} (h : okS σ) (hv : r32 v ∨ (kd a0 = 19 ∧ fk 9 i = 1 ∧ r64 v)) : okS (up σ a0 j0 i v) := by
  intro c' j' i'
  unfold up
  by_cases hc : c' = a0 ∧ j' = j0 ∧ i' = i
  · rw [if_pos hc]
    rw [hc.1, hc.2.2]
    exact hv
  · rw [if_neg hc]
    exact h c' j' i'
theorem enc_up_int {a0 j0 i : Nat} {v : Int} (h : kd a0 = 0) : enc ad Aa (up σ a0 j0 i v) a0 j0 = .inl (Aa 0, ln a0, .inl (upd (fun i => Int32.ofInt (σ a0 j0 i)) i (Int32.ofInt v))) := by
  rw [enc_int h]
  congr 4
  funext k
  unfold upd
  rw [up_self]
  split <;> rfl
theorem enc_up_bool {a0 j0 i : Nat} {v : Int} (h : kd a0 = 1) : enc ad Aa (up σ a0 j0 i v) a0 j0 = .inl (Aa 1, ln a0, .inl (upd (fun i => Int32.ofInt (σ a0 j0 i)) i (Int32.ofInt v))) := by
  rw [enc_bool h]
  congr 4
  funext k
  unfold upd
  rw [up_self]
  split <;> rfl
theorem fs_set {a0 j0 ci k : Nat} {v : Int} {w : Value} (hw : fV ad (up σ a0 j0 k v) a0 j0 ci k = w) : ((List.range (nF ci)).map (fV ad σ a0 j0 ci)).set k w = (List.range (nF ci)).map (fV ad (up σ a0 j0 k v) a0 j0 ci) := by
  apply List.ext_getElem?
  intro q
  by_cases hq : k = q
  · subst hq
    by_cases hk : k < nF ci
    · rw [List.getElem?_set_self (by rw [List.length_map, List.length_range]; exact hk), fs_get hk, hw]
    · rw [List.getElem?_eq_none (by rw [List.length_set, List.length_map, List.length_range]; omega), List.getElem?_eq_none (by rw [List.length_map, List.length_range]; omega)]
  · rw [List.getElem?_set_ne hq]
    by_cases hk : q < nF ci
    · rw [fs_get hk, fs_get hk]
      congr 1
      unfold fV
      rw [up_self, if_neg (fun z => hq z.symm)]
    · rw [List.getElem?_eq_none (by rw [List.length_map, List.length_range]; omega), List.getElem?_eq_none (by rw [List.length_map, List.length_range]; omega)]
theorem fV_i {a0 j0 ci k : Nat} (h : fk ci k = 0 ∨ fk ci k = 2) : fV ad σ a0 j0 ci k = .int (Int32.ofInt (σ a0 j0 k)) := by
  unfold fV
  rcases h with h | h
  · rw [h]; rfl
  · rw [h]; rfl
theorem fV_l {a0 j0 ci k : Nat} (h : fk ci k = 1) : fV ad σ a0 j0 ci k = .long (Int64.ofInt (σ a0 j0 k)) := by
  unfold fV
  rw [h]; rfl
theorem fV_r {a0 j0 ci k : Nat} (h : fk ci k = 3) : fV ad σ a0 j0 ci k = .ref (ad (rf a0 k) j0) := by
  unfold fV
  rw [h]; rfl
theorem rd_w {a0 j0 i : Nat} (h : a0 < 52) : rd σ a0 j0 i = σ a0 j0 i := by
  unfold rd
  rw [show Nat.blt a0 52 = true from Nat.ble_eq_true_of_le h]
theorem rd_s {a0 j0 i : Nat} (h : 52 ≤ a0) : rd σ a0 j0 i = sv a0 i := by
  unfold rd
  rw [show Nat.blt a0 52 = false from by cases hb : Nat.blt a0 52 with | false => rfl | true => exact absurd (Nat.le_of_ble_eq_true hb) (by omega)]
/-- statics hold small numbers -/
theorem sv_ok (a0 i : Nat) : r32 (sv a0 i) := by
  have h : ∀ l ∈ svT, ∀ v ∈ l, -1000 ≤ v ∧ v ≤ 1000 := by decide +kernel
  have h0 : -1000 ≤ sv a0 i ∧ sv a0 i ≤ 1000 := by
    unfold sv
    rw [List.getD_eq_getElem?_getD, List.getD_eq_getElem?_getD]
    cases h1 : svT[a0 - 52]? with
    | none => simp
    | some l =>
      have hl := h l (List.mem_of_getElem? h1)
      show -1000 ≤ (l[i]?).getD 0 ∧ (l[i]?).getD 0 ≤ 1000
      cases h2 : l[i]? with
      | none => simp
      | some v => exact hl v (List.mem_of_getElem? h2)
  constructor <;> omega
theorem kdS : ∀ q, 52 ≤ q → q ≤ 61 → (kd q = 0 → 52 ≤ q ∧ q ≤ 54) ∧ (kd q = 4 → 58 ≤ q ∧ q ≤ 60) ∧ kd q ≠ 1 ∧ kd q ≠ 2 ∧ kd q ≠ 3 ∧ (10 ≤ kd q → kd q = 30 ∧ 55 ≤ q ∧ q ≤ 57) := by
  intro q h1 h2
  have hx : q = 52 ∨ q = 53 ∨ q = 54 ∨ q = 55 ∨ q = 56 ∨ q = 57 ∨ q = 58 ∨ q = 59 ∨ q = 60 ∨ q = 61 := by omega
  rcases hx with rfl | rfl | rfl | rfl | rfl | rfl | rfl | rfl | rfl | rfl <;> decide
end SN
