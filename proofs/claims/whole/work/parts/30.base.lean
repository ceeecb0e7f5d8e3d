/-! PURE 1: how runs compose; numbers; the store -/
theorem ev_deep : ∀ (n d : Nat) (M : Md) (c : Cfg) (r : Option PV × Sg), ev n d M c = some r → ev n (d + 1) M c = some r := by
  intro n
  induction n with
  | zero => intro d M c r h; cases h
  | succ n ih =>
    intro d M c r h
    rw [ev] at h ⊢
    cases hs : stp M c with
    | none => rw [hs] at h; cases h
    | some o =>
      rw [hs] at h
      rcases o with c' | q | r'
      · exact ih d M c' r h
      · cases d with
        | zero => cases h
        | succ d' =>
          dsimp only at h ⊢
          cases h1 : ev n d' q.2.1 (entry q.2.1 q.2.2.1 q.2.2.2.2.2.2) with
          | none => rw [h1] at h; cases h
          | some r1 =>
            rw [h1] at h
            rw [ih _ _ _ _ h1]
            dsimp only at h ⊢
            cases h2 : rsm q.1 q.2.2.2 r1.1 r1.2 with
            | none => rw [h2] at h; cases h
            | some c' =>
              rw [h2] at h
              exact ih _ _ _ _ h
      · exact h
theorem EV_deep {d d' : Nat} {M : Md} {c : Cfg} {r : Option PV × Sg} (hd : d ≤ d') (h : EV d M c = some r) : EV d' M c = some r := by
  obtain ⟨n, h⟩ := EV_inv h
  obtain ⟨k, rfl⟩ := Nat.exists_eq_add_of_le hd
  refine EV_of (n := n) ?_
  clear hd
  induction k with
  | zero => exact h
  | succ k ih => exact ev_deep _ _ _ _ _ ih
theorem RUN_deep {d d' : Nat} {M : Md} {as : List PV} {σ : Sg} {r : Option PV × Sg} (hd : d ≤ d') (h : RUN d M as σ = some r) : RUN d' M as σ = some r := EV_deep hd h
theorem bV_s (σ : Sg) (k : Sg → Rs) : bV (some (none, σ)) k = k σ := rfl
theorem bI_s (x : Int) (σ : Sg) (k : Int → Sg → Rs) : bI (some (some (vi x), σ)) k = k x σ := rfl
theorem bL_s (x : Int) (σ : Sg) (k : Int → Sg → Rs) : bL (some (some (vl x), σ)) k = k x σ := rfl
theorem bV_if {p : Prop} [Decidable p] {a b : Rs} {k : Sg → Rs} : bV (if p then a else b) k = if p then bV a k else bV b k := by split <;> rfl
theorem bI_if {p : Prop} [Decidable p] {a b : Rs} {k : Int → Sg → Rs} : bI (if p then a else b) k = if p then bI a k else bI b k := by split <;> rfl
theorem bL_if {p : Prop} [Decidable p] {a b : Rs} {k : Int → Sg → Rs} : bL (if p then a else b) k = if p then bL a k else bL b k := by split <;> rfl
theorem w32_eq (x : Int) : w32 x = (x + 2147483648) % 4294967296 - 2147483648 := by
  unfold w32
  rw [Int32.toInt_ofInt]
  show x.bmod 4294967296 = _
  rw [Int.bmod_def]
  split <;> omega
theorem w32_id {x : Int} (h1 : -2147483648 ≤ x) (h2 : x < 2147483648) : w32 x = x := by rw [w32_eq]; omega
theorem w64_id {x : Int} (h1 : -9223372036854775808 ≤ x) (h2 : x < 9223372036854775808) : w64 x = x := Int64.toInt_ofInt_of_le (by omega) (by omega)
theorem wl2i_id {x : Int} (h1 : -2147483648 ≤ x) (h2 : x < 2147483648) : wl2i x = x := by
  unfold wl2i
  rw [Int64.toInt32_ofInt]
  exact w32_id h1 h2
theorem lcmp_lt (a b : Int) : (wlcmp a b < 0) ↔ a < b := by
  unfold wlcmp
  split
  · constructor <;> intro <;> omega
  · split <;> constructor <;> intro <;> omega
theorem lcmp_gt (a b : Int) : (0 < wlcmp a b) ↔ b < a := by
  unfold wlcmp
  split
  · constructor <;> intro <;> omega
  · split <;> constructor <;> intro <;> omega
theorem lcmp_eq (a b : Int) : (wlcmp a b = 0) ↔ a = b := by
  unfold wlcmp
  split
  · constructor <;> intro <;> omega
  · split <;> constructor <;> intro <;> omega
theorem up_ap (σ : Sg) (c j i : Nat) (v : Int) (c' j' i' : Nat) : up σ c j i v c' j' i' = if c' = c ∧ j' = j ∧ i' = i then v else σ c' j' i' := rfl
theorem up_c {σ : Sg} {c j i : Nat} {v : Int} {c' : Nat} (h : c' ≠ c) : up σ c j i v c' = σ c' := by
  funext j' i'
  rw [up_ap, if_neg (fun q => h q.1)]
theorem up_same (σ : Sg) (c j i : Nat) : up σ c j i (σ c j i) = σ := by
  funext c' j' i'
  rw [up_ap]
  split
  · rename_i h; rw [h.1, h.2.1, h.2.2]
  · rfl
theorem up_up (σ : Sg) (c j i : Nat) (v w : Int) : up (up σ c j i v) c j i w = up σ c j i w := by
  funext c' j' i'
  rw [up_ap, up_ap, up_ap]
  split <;> rfl
theorem tdiv_rg {a b : Int} (ha : -2147483648 ≤ a ∧ a < 2147483648) (hb : 0 < b) : -2147483648 ≤ a.tdiv b ∧ a.tdiv b < 2147483648 := by
  have h2 := Int.natAbs_tdiv_le_natAbs a b
  by_cases h : 0 ≤ a
  · have h3 := Int.tdiv_nonneg h (Int.le_of_lt hb)
    omega
  · have h3 := Int.tdiv_nonneg (a := -a) (by omega) (Int.le_of_lt hb)
    rw [Int.neg_tdiv] at h3
    omega
theorem wdiv_eq {a b : Int} (ha : -2147483648 ≤ a ∧ a < 2147483648) (hb : 0 < b ∧ b < 2147483648) : wdiv a b = a.tdiv b := by
  unfold wdiv
  rw [Int32.toInt_div, Int32.toInt_ofInt_of_le (by omega) (by omega), Int32.toInt_ofInt_of_le (by omega) (by omega)]
  have h1 := tdiv_rg ha hb.1
  show (a.tdiv b).bmod 4294967296 = _
  rw [Int.bmod_def]
  split <;> omega
theorem wrem_eq {a b : Int} (ha : -2147483648 ≤ a ∧ a < 2147483648) (hb : 0 < b ∧ b < 2147483648) : wrem a b = a.tmod b := by
  have h0 := wdiv_eq ha hb
  have h1 := tdiv_rg ha hb.1
  unfold wrem
  have e1 : Int32.ofInt a / Int32.ofInt b = Int32.ofInt (a.tdiv b) := by
    apply Int32.toInt_inj.mp
    rw [Int32.toInt_ofInt_of_le (n := a.tdiv b) (by omega) (by omega)]
    exact h0
  rw [e1, ← Int32.ofInt_mul, ← Int32.ofInt_sub]
  have e2 : a - a.tdiv b * b = a.tmod b := by rw [Int.tmod_def, Int.mul_comm]
  rw [e2]
  have h3 := Int.natAbs_tmod a b
  have h4 : a.natAbs % b.natAbs < b.natAbs := Nat.mod_lt _ (by omega)
  exact w32_id (by omega) (by omega)
