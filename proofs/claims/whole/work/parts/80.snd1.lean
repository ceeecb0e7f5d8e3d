/-! THE MACHINE IS SOUND, 1: numbers, values, locals, the world's cells -/
def r32 (x : Int) : Prop := -2147483648 ≤ x ∧ x < 2147483648
def r64 (x : Int) : Prop := -9223372036854775808 ≤ x ∧ x < 9223372036854775808
theorem r32_t (x : Int32) : r32 x.toInt := by
  have h1 := x.le_toInt
  have h2 := x.toInt_lt
  constructor <;> omega
theorem r64_t (x : Int64) : r64 x.toInt := by
  have h1 := x.le_toInt
  have h2 := x.toInt_lt
  constructor <;> omega
theorem i32_w (x : Int) : Int32.ofInt (w32 x) = Int32.ofInt x := Int32.ofInt_toInt _
theorem i64_w (x : Int) : Int64.ofInt (w64 x) = Int64.ofInt x := Int64.ofInt_toInt _
theorem i32_r {x : Int} (h : r32 x) : (Int32.ofInt x).toInt = x := Int32.toInt_ofInt_of_le (by have := h.1; omega) (by have := h.2; omega)
theorem i64_r {x : Int} (h : r64 x) : (Int64.ofInt x).toInt = x := Int64.toInt_ofInt_of_le (by have := h.1; omega) (by have := h.2; omega)
theorem i32_lt {a b : Int} (ha : r32 a) (hb : r32 b) : Int32.ofInt a < Int32.ofInt b ↔ a < b := by rw [Int32.lt_iff_toInt_lt, i32_r ha, i32_r hb]
theorem i32_le {a b : Int} (ha : r32 a) (hb : r32 b) : Int32.ofInt a ≤ Int32.ofInt b ↔ a ≤ b := by rw [Int32.le_iff_toInt_le, i32_r ha, i32_r hb]
theorem i32_eq {a b : Int} (ha : r32 a) (hb : r32 b) : Int32.ofInt a = Int32.ofInt b ↔ a = b := by rw [← Int32.toInt_inj, i32_r ha, i32_r hb]
theorem i64_lt {a b : Int} (ha : r64 a) (hb : r64 b) : Int64.ofInt a < Int64.ofInt b ↔ a < b := by rw [Int64.lt_iff_toInt_lt, i64_r ha, i64_r hb]
theorem i64_eq {a b : Int} (ha : r64 a) (hb : r64 b) : Int64.ofInt a = Int64.ofInt b ↔ a = b := by rw [← Int64.toInt_inj, i64_r ha, i64_r hb]
theorem i32_in {i : Int} {n : Nat} (hi : r32 i) (h : inb i n) : vp_in (Int32.ofInt i) n := by rw [vp_in_iff, i32_r hi]; exact h
theorem i32_nt {i : Int} (hi : r32 i) : (Int32.ofInt i).toNatClampNeg = i.toNat := by show (Int32.ofInt i).toInt.toNat = _; rw [i32_r hi]
theorem r32_64 {x : Int} (h : r32 x) : r64 x := by have h1 := h.1; have h2 := h.2; constructor <;> omega
theorem i32_64 {x : Int} (h : r32 x) : (Int32.ofInt x).toInt64 = Int64.ofInt x := Int64.toInt_inj.mp (by rw [Int32.toInt_toInt64, i32_r h, i64_r (r32_64 h)])
theorem r32_cst {n : Int} (h : cst n = true) : r32 n := by
  cases n with
  | ofNat k =>
    have h : Nat.ble (k + 1) 32768 = true := h
    have := Nat.le_of_ble_eq_true h
    constructor
    · have : (0 : Int) ≤ Int.ofNat k := Int.natCast_nonneg k
      omega
    · show (k : Int) < _
      omega
  | negSucc k =>
    have h : Nat.ble (k + 1) 32768 = true := h
    have := Nat.le_of_ble_eq_true h
    constructor <;> omega
theorem cst8_r {n : Int} (h : cst8 n = true) : -128 ≤ n ∧ n < 128 := by
  cases n with
  | ofNat k =>
    have h : Nat.ble (k + 1) 128 = true := h
    have := Nat.le_of_ble_eq_true h
    constructor
    · have : (0 : Int) ≤ Int.ofNat k := Int.natCast_nonneg k
      omega
    · show (k : Int) < _
      omega
  | negSucc k =>
    have h : Nat.ble (k + 1) 128 = true := h
    have := Nat.le_of_ble_eq_true h
    constructor <;> omega
theorem cst_8 {n : Int} (h : -128 ≤ n ∧ n < 128) : (Int8.ofInt n).toInt32 = Int32.ofInt n := by
  apply Int32.toInt_inj.mp
  rw [Int8.toInt_toInt32, Int8.toInt_ofInt_of_le (by omega) (by omega), i32_r (by constructor <;> omega)]
theorem cst_16 {n : Int} (h : cst n = true) : (Int16.ofInt n).toInt32 = Int32.ofInt n := by
  have hr := r32_cst h
  apply Int32.toInt_inj.mp
  cases n with
  | ofNat k =>
    have h : Nat.ble (k + 1) 32768 = true := h
    have := Nat.le_of_ble_eq_true h
    rw [Int16.toInt_toInt32, Int16.toInt_ofInt_of_le (by have : (0 : Int) ≤ Int.ofNat k := Int.natCast_nonneg k; omega) (by show (k : Int) < _; omega), i32_r hr]
  | negSucc k =>
    have h : Nat.ble (k + 1) 32768 = true := h
    have := Nat.le_of_ble_eq_true h
    rw [Int16.toInt_toInt32, Int16.toInt_ofInt_of_le (by omega) (by omega), i32_r hr]
theorem lcmp_k {a b : Int} (ha : r64 a) (hb : r64 b) : Int32.ofInt (wlcmp a b) = lg_cmp (Int64.ofInt a) (Int64.ofInt b) := by
  unfold wlcmp lg_cmp
  by_cases h1 : b < a
  · rw [if_pos h1, if_pos (show Int64.ofInt a > Int64.ofInt b from (i64_lt hb ha).mpr h1)]; rfl
  · rw [if_neg h1, if_neg (fun q : Int64.ofInt a > Int64.ofInt b => h1 ((i64_lt hb ha).mp q))]
    by_cases h2 : a = b
    · rw [if_pos h2, if_pos ((i64_eq ha hb).mpr h2)]; rfl
    · rw [if_neg h2, if_neg (fun q => h2 ((i64_eq ha hb).mp q))]; rfl
theorem r32_lcmp (a b : Int) : r32 (wlcmp a b) := by
  unfold wlcmp
  split
  · constructor <;> omega
  · split <;> constructor <;> omega
/-- a value of the machine, as the JVM has it; nz: what the formatter's static holds -/
def kc (ad : Nat → Nat → Nat) (nz : Value) : PV → Value
  | .inl x => .int (Int32.ofInt x)
  | .inr (.inl q) => if q.1 = 61 then nz else .ref (ad q.1 q.2)
  | .inr (.inr x) => .long (Int64.ofInt x)
theorem kc_r {ad : Nat → Nat → Nat} {nz : Value} {c j : Nat} (h : c ≠ 61) : kc ad nz (.inr (.inl (c, j))) = .ref (ad c j) := if_neg h
theorem kc_cat {ad : Nat → Nat → Nat} {nz : Value} (hz : nz.category = 1) (v : PV) : (kc ad nz v).category = cat v := by
  rcases v with x | q | x
  · rfl
  · show (if q.1 = 61 then nz else .ref (ad q.1 q.2)).category = 1
    split
    · exact hz
    · rfl
  · rfl
theorem kc_cats {ad : Nat → Nat → Nat} {nz : Value} (hz : nz.category = 1) (l : List PV) : ((l.map (kc ad nz)).map fun v => v.category).sum = catS l := by
  unfold catS
  rw [List.map_map]
  congr 1
  apply List.map_congr_left
  intro v _
  exact kc_cat hz v
def okV (prs : List (Nat × Nat)) : PV → Prop
  | .inl x => r32 x
  | .inr (.inl q) => q ∈ prs ∨ (52 ≤ q.1 ∧ q.1 ≤ 61 ∧ q.2 = 0)
  | .inr (.inr x) => r64 x
def jk (v : PV) : Prop := v = UU ∨ v = SEC
def okL (prs : List (Nat × Nat)) (ls : List PV) : Prop := ∀ v ∈ ls, jk v ∨ okV prs v
def okT (prs : List (Nat × Nat)) (st : List PV) : Prop := ∀ v ∈ st, okV prs v
def okS (σ : Sg) : Prop := ∀ c j i, (r32 (σ c j i) ∨ (kd c = 19 ∧ fk 9 i = 1 ∧ r64 (σ c j i)))
/-- the locals: what is no junk is held; a long only while its second half stands behind it -/
def LM (ad : Nat → Nat → Nat) (nz : Value) (ls : List PV) (la : Array Slot) : Prop := la.size = ls.length ∧ lv_wf la ∧ ∀ (k : Nat) (v : PV), ls[k]? = some v → ¬ jk v → (cat v = 2 → ls[k + 1]? = some SEC) → la[k]? = some (.val (kc ad nz v))
def vldB (ls : List PV) (k : Nat) (v : PV) : Bool := decide (v ≠ UU) && decide (v ≠ SEC) && (decide (cat v ≠ 2) || decide (ls[k + 1]? = some SEC))
theorem vldB_iff {ls : List PV} {k : Nat} {v : PV} : vldB ls k v = true ↔ ¬ jk v ∧ (cat v = 2 → ls[k + 1]? = some SEC) := by
  unfold vldB jk
  rw [Bool.and_eq_true, Bool.and_eq_true, Bool.or_eq_true, decide_eq_true_eq, decide_eq_true_eq, decide_eq_true_eq, decide_eq_true_eq]
  constructor
  · rintro ⟨⟨h1, h2⟩, h3⟩
    exact ⟨fun q => q.elim h1 h2, fun q => h3.resolve_left (fun z => z q)⟩
  · rintro ⟨h1, h2⟩
    refine ⟨⟨fun q => h1 (Or.inl q), fun q => h1 (Or.inr q)⟩, ?_⟩
    by_cases hc : cat v = 2
    · exact Or.inr (h2 hc)
    · exact Or.inl hc
def lvOf (ad : Nat → Nat → Nat) (nz : Value) (ls : List PV) : List (Nat × Value) := (List.range ls.length).filterMap (fun k => match ls[k]? with | some v => if vldB ls k v = true then some (k, kc ad nz v) else none | none => none)
theorem lvOf_mem {ad : Nat → Nat → Nat} {nz : Value} {ls : List PV} {k : Nat} {v : PV} (h : ls[k]? = some v) (hv : ¬ jk v) (h2 : cat v = 2 → ls[k + 1]? = some SEC) : (k, kc ad nz v) ∈ lvOf ad nz ls := by
  refine List.mem_filterMap.mpr ⟨k, List.mem_range.mpr (List.getElem?_eq_some_iff.mp h).1, ?_⟩
  rw [h]
  exact if_pos (vldB_iff.mpr ⟨hv, h2⟩)
theorem lvOf_inv {ad : Nat → Nat → Nat} {nz : Value} {ls : List PV} {q : Nat × Value} (h : q ∈ lvOf ad nz ls) : ∃ v, ls[q.1]? = some v ∧ ¬ jk v ∧ (cat v = 2 → ls[q.1 + 1]? = some SEC) ∧ q.2 = kc ad nz v := by
  obtain ⟨k, -, hk⟩ := List.mem_filterMap.mp h
  cases hv : ls[k]? with
  | none => rw [hv] at hk; cases hk
  | some v =>
    rw [hv] at hk
    dsimp only at hk
    split at hk
    · rename_i hvl
      cases hk
      exact ⟨v, hv, (vldB_iff.mp hvl).1, (vldB_iff.mp hvl).2, rfl⟩
    · cases hk
theorem LM.has {ad : Nat → Nat → Nat} {nz : Value} {ls : List PV} {la : Array Slot} (h : LM ad nz ls la) : lv_has la ls.length (lvOf ad nz ls) := by
  refine ⟨h.1, h.2.1, fun q hq => ?_⟩
  obtain ⟨v, h1, h2, h3, h4⟩ := lvOf_inv hq
  rw [h4]
  exact h.2.2 q.1 v h1 h2 h3
theorem LM.of {ad : Nat → Nat → Nat} {nz : Value} {ls : List PV} {la : Array Slot} {n : Nat} {lv : List (Nat × Value)} (h : lv_has la n lv) (hn : ls.length = n) (hm : ∀ (k : Nat) (v : PV), ls[k]? = some v → ¬ jk v → (cat v = 2 → ls[k + 1]? = some SEC) → (k, kc ad nz v) ∈ lv) : LM ad nz ls la :=
  ⟨h.1.trans hn.symm, h.2.1, fun k v h1 h2 h3 => h.2.2 _ (hm k v h1 h2 h3)⟩
theorem setL_len (ls : List PV) (i : Nat) (v : PV) : (setL ls i v).length = ls.length := by
  unfold setL
  simp
theorem okL_put {prs : List (Nat × Nat)} {ls : List PV} {i : Nat} {v : PV} (h : okL prs ls) (hv : jk v ∨ okV prs v) : okL prs (ls.set i v) := by
  intro x hx
  rcases List.mem_or_eq_of_mem_set hx with q | q
  · exact h x q
  · rw [q]; exact hv
theorem okL_set {prs : List (Nat × Nat)} {ls : List PV} {i : Nat} {v : PV} (h : okL prs ls) (hv : jk v ∨ okV prs v) : okL prs (setL ls i v) := okL_put h hv
/-- a store of one word -/
theorem LM.set1 {ad : Nat → Nat → Nat} {nz : Value} (hz : nz.category = 1) {ls : List PV} {i : Nat} {v : PV} {la : Array Slot} (hvj : ¬ jk v) (hi : i < ls.length) (h : lv_has la ls.length ((i, kc ad nz v) :: (lvOf ad nz ls).filter (fun q => !(q.1 == i) && !(q.1 + 1 == i && q.2.category == 2)))) : LM ad nz (setL ls i v) la := by
  refine LM.of h (setL_len ls i v) (fun k w h1 h2 h3 => ?_)
  unfold setL at h1 h3
  by_cases hk : k = i
  · subst hk
    rw [List.getElem?_set_self hi] at h1
    cases h1
    exact List.mem_cons_self
  · rw [List.getElem?_set_ne (Ne.symm hk)] at h1
    have h4 : cat w = 2 → k + 1 ≠ i ∧ ls[k + 1]? = some SEC := by
      intro hc
      have h5 := h3 hc
      by_cases hk1 : k + 1 = i
      · rw [hk1, List.getElem?_set_self hi] at h5
        exact absurd (Or.inr (Option.some.inj h5)) hvj
      · rw [List.getElem?_set_ne (Ne.symm hk1)] at h5
        exact ⟨hk1, h5⟩
    refine List.mem_cons_of_mem _ (List.mem_filter.mpr ⟨lvOf_mem h1 h2 (fun q => (h4 q).2), ?_⟩)
    have hc := kc_cat (ad := ad) hz w
    by_cases hk1 : k + 1 = i
    · have : cat w ≠ 2 := fun q => (h4 q).1 hk1
      simp [hk, hk1, hc, this]
    · simp [hk, hk1]
/-- a store of two words -/
theorem LM.set2 {ad : Nat → Nat → Nat} {nz : Value} (hz : nz.category = 1) {ls : List PV} {i : Nat} {v : PV} {la : Array Slot} (hvj : ¬ jk v) (hi : i + 1 < ls.length) (h : lv_has la ls.length ((i, kc ad nz v) :: (lvOf ad nz ls).filter (fun q => !(q.1 == i) && (!(q.1 == i + 1) && !(q.1 + 1 == i && q.2.category == 2))))) : LM ad nz ((setL ls i v).set (i + 1) SEC) la := by
  refine LM.of h (by rw [List.length_set, setL_len]) (fun k w h1 h2 h3 => ?_)
  unfold setL at h1 h3
  by_cases hk1 : k = i + 1
  · subst hk1
    rw [List.getElem?_set_self (by rw [List.length_set]; exact hi)] at h1
    exact absurd (Or.inr (Option.some.inj h1).symm) h2
  · rw [List.getElem?_set_ne (Ne.symm hk1)] at h1
    by_cases hk : k = i
    · subst hk
      rw [List.getElem?_set_self (by omega)] at h1
      cases h1
      exact List.mem_cons_self
    · rw [List.getElem?_set_ne (Ne.symm hk)] at h1
      have h4 : cat w = 2 → k + 1 ≠ i ∧ ls[k + 1]? = some SEC := by
        intro hc
        have h5 := h3 hc
        rw [List.getElem?_set_ne (by omega)] at h5
        by_cases hk2 : k + 1 = i
        · rw [hk2, List.getElem?_set_self (by omega)] at h5
          exact absurd (Or.inr (Option.some.inj h5)) hvj
        · rw [List.getElem?_set_ne (Ne.symm hk2)] at h5
          exact ⟨hk2, h5⟩
      refine List.mem_cons_of_mem _ (List.mem_filter.mpr ⟨lvOf_mem h1 h2 (fun q => (h4 q).2), ?_⟩)
      have hc := kc_cat (ad := ad) hz w
      by_cases hk2 : k + 1 = i
      · have : cat w ≠ 2 := fun q => (h4 q).1 hk2
        simp [hk, hk1, hk2, hc, this]
      · simp [hk, hk1, hk2]
/-- how a method begins -/
theorem slots_sl {ad : Nat → Nat → Nat} {nz : Value} (hz : nz.category = 1) : ∀ as : List PV, (lg_sl (as.map (kc ad nz))).length = (slots as).length
  | [] => rfl
  | .inl x :: l => by
    have h := slots_sl hz (ad := ad) l
    simp only [lg_sl, List.map_cons, List.flatMap_cons, slots, List.length_append, List.length_cons] at h ⊢
    rw [h]
    show 1 + _ = _
    omega
  | .inr (.inl x) :: l => by
    have h := slots_sl hz (ad := ad) l
    have hc := kc_cat (ad := ad) hz (.inr (.inl x))
    have hc : (kc ad nz (.inr (.inl x))).category = 1 := hc
    simp only [lg_sl, List.map_cons, List.flatMap_cons, slots, List.length_append, List.length_cons] at h ⊢
    rw [h, if_neg (by rw [hc]; decide)]
    show 1 + _ = _
    omega
  | .inr (.inr x) :: l => by
    have h := slots_sl hz (ad := ad) l
    simp only [lg_sl, List.map_cons, List.flatMap_cons, slots, List.length_append, List.length_cons] at h ⊢
    rw [h]
    show 2 + _ = _
    omega
theorem slots_args {ad : Nat → Nat → Nat} {nz : Value} (hz : nz.category = 1) : ∀ (as : List PV) (b k : Nat) (v : PV), (slots as)[k]? = some v → ¬ jk v → (b + k, kc ad nz v) ∈ lv_args b (as.map (kc ad nz))
  | [], b, k, v, h, _ => by simp [slots] at h
  | .inl x :: l, b, k, v, h, hv => by
    cases k with
    | zero => simp only [slots, List.getElem?_cons_zero] at h; cases h; exact List.mem_cons_self
    | succ k =>
      simp only [slots, List.getElem?_cons_succ] at h
      have := slots_args (ad := ad) hz l (b + 1) k v h hv
      rw [show b + (k + 1) = b + 1 + k by omega]
      exact List.mem_cons_of_mem _ this
  | .inr (.inl x) :: l, b, k, v, h, hv => by
    have hc : (kc ad nz (.inr (.inl x))).category = 1 := kc_cat (ad := ad) hz (.inr (.inl x))
    cases k with
    | zero => simp only [slots, List.getElem?_cons_zero] at h; cases h; exact List.mem_cons_self
    | succ k =>
      simp only [slots, List.getElem?_cons_succ] at h
      have := slots_args (ad := ad) hz l (b + 1) k v h hv
      rw [show b + (k + 1) = b + 1 + k by omega]
      refine List.mem_cons_of_mem _ ?_
      rw [if_neg (by rw [hc]; decide)]
      exact this
  | .inr (.inr x) :: l, b, k, v, h, hv => by
    cases k with
    | zero => simp only [slots, List.getElem?_cons_zero] at h; cases h; exact List.mem_cons_self
    | succ k =>
      cases k with
      | zero => simp only [slots, List.getElem?_cons_succ, List.getElem?_cons_zero] at h; exact absurd (Or.inr (Option.some.inj h).symm) hv
      | succ k =>
        simp only [slots, List.getElem?_cons_succ] at h
        have := slots_args (ad := ad) hz l (b + 2) k v h hv
        rw [show b + (k + 1 + 1) = b + 2 + k by omega]
        exact List.mem_cons_of_mem _ this
theorem LM.entry {ad : Nat → Nat → Nat} {nz : Value} (hz : nz.category = 1) {as : List PV} {n : Nat} (hn : (slots as).length ≤ n) : LM ad nz (padL n (slots as)) ((lg_sl (as.map (kc ad nz)) ++ List.replicate (n - (lg_sl (as.map (kc ad nz))).length) Slot.unset).toArray) := by
  have h := lv_entry (as.map (kc ad nz)) (n := n) (by rw [slots_sl hz]; exact hn)
  refine LM.of h (by unfold padL; simp; omega) (fun k v h1 h2 _ => ?_)
  unfold padL at h1
  by_cases hk : k < (slots as).length
  · rw [List.getElem?_append_left hk] at h1
    have := slots_args (ad := ad) hz as 0 k v h1 h2
    rw [Nat.zero_add] at this
    exact this
  · rw [List.getElem?_append_right (by omega)] at h1
    exact absurd (Or.inl (List.eq_of_mem_replicate (List.mem_of_getElem? h1))) h2
theorem okL_entry {prs : List (Nat × Nat)} {as : List PV} {n : Nat} (h : okT prs as) : okL prs (padL n (slots as)) := by
  have h1 : ∀ as : List PV, okT prs as → okL prs (slots as) := by
    intro as
    induction as with
    | nil => intro _ v hv; cases hv
    | cons a l ih =>
      intro h
      have h2 := ih (fun v hv => h v (List.mem_cons_of_mem _ hv))
      have h3 := h a List.mem_cons_self
      rcases a with x | x | x
      · intro v hv
        rcases List.mem_cons.mp hv with rfl | hv
        · exact Or.inr h3
        · exact h2 v hv
      · intro v hv
        rcases List.mem_cons.mp hv with rfl | hv
        · exact Or.inr h3
        · exact h2 v hv
      · intro v hv
        rcases List.mem_cons.mp hv with rfl | hv
        · exact Or.inr h3
        · rcases List.mem_cons.mp hv with rfl | hv
          · exact Or.inl (Or.inr rfl)
          · exact h2 v hv
  intro v hv
  rcases List.mem_append.mp hv with hv | hv
  · exact h1 as h v hv
  · exact Or.inl (Or.inl (List.eq_of_mem_replicate hv))
