/-! LAW 15: all -/
def lst (O : Nat → Int) : Nat → Nat → Int → Int
  | 0, _, acc => acc
  | j + 1, c, acc => if O c = -1 then -1 else lst O j (c + 1) (if acc < O c then O c else acc)
/-- off later, though coming first -/
def ooB (ft : Ft) (O : Nat → Int) (a b : Nat) : Bool := decide (ft 2 a = ft 2 b) && (decide (O a ≠ -1) && decide (O b ≠ -1)) && (decide (ft 3 a < ft 3 b) || (decide (ft 3 a = ft 3 b) && decide (a < b))) && decide (O b < O a)
def oo1 (ft : Ft) (O : Nat → Int) (a b : Nat) : Int := if ooB ft O a b = true then 1 else 0
section PAl
variable {ft : Ft} {n : Nat} {v : Sem × Sem × Sem} {O : Nat → Int} {s : Sg} {d : Nat}
theorem lastC (hC : YC ft n v false s) (hO : ∀ c, c < n → s 17 0 c = O c) : ∀ (j c : Nat) (acc : Int), c + j = n → EV (d + 1) mX7_lastOff (4, [vr 13 0, vi acc, vi (c : Int)], [], s) = some (some (vi (lst O j c acc)), s)
  | 0, c, acc, h => by rw [qX7_lastOff_4, YC_size hC, bI_s, if_neg (by omega), lst]
  | j + 1, c, acc, h => by
    have h6 := hC.2.1.1
    rw [qX7_lastOff_4, YC_size hC, bI_s, if_pos (by omega), if_pos (inbN (by omega)), Int.toNat_natCast, hO c (by omega), lst]
    by_cases q : O c = -1
    · rw [if_pos q, if_pos q]
    · rw [if_neg q, if_neg q, if_pos (inbN (by omega)), w32_id (by omega) (by omega), show (c : Int) + 1 = ((c + 1 : Nat) : Int) by omega]
      have e : wmax acc (O c) = if acc < O c then O c else acc := rfl
      rw [e]
      exact lastC hC hO j (c + 1) _ (by omega)
theorem lastR (h9 : s 32 0 9 = (n : Int)) (h6 : n ≤ 6) (hO : ∀ c, c < n → s 39 0 c = O c) : ∀ (j c : Nat) (acc : Int), c + j = n → EV d mX9_lastOff (4, [vr 32 0, vi acc, vi (c : Int)], [], s) = some (some (vi (lst O j c acc)), s)
  | 0, c, acc, h => by rw [qX9_lastOff_4, h9, if_neg (by omega), lst]
  | j + 1, c, acc, h => by
    rw [qX9_lastOff_4, h9, if_pos (by omega), if_pos (inbN (by omega)), Int.toNat_natCast, hO c (by omega), lst]
    by_cases q : O c = -1
    · rw [if_pos q, if_pos q]
    · rw [if_neg q, if_neg q, if_pos (inbN (by omega))]
      by_cases q2 : acc < O c
      · rw [if_pos q2, if_pos q2, if_pos (inbN (by omega)), qX9_lastOff_44, w32_id (by omega) (by omega), show (c : Int) + 1 = ((c + 1 : Nat) : Int) by omega]
        exact lastR h9 h6 hO j (c + 1) _ (by omega)
      · rw [if_neg q2, if_neg q2, qX9_lastOff_44, w32_id (by omega) (by omega), show (c : Int) + 1 = ((c + 1 : Nat) : Int) by omega]
        exact lastR h9 h6 hO j (c + 1) _ (by omega)
theorem oo1_rg (ft : Ft) (O : Nat → Int) (a b : Nat) : 0 ≤ oo1 ft O a b ∧ oo1 ft O a b ≤ 1 := b01r
theorem sum1_rg {f : Nat → Int} (hf : ∀ i, 0 ≤ f i ∧ f i ≤ 1) : ∀ k : Nat, 0 ≤ sumN f k ∧ sumN f k ≤ (k : Int)
  | 0 => ⟨Int.le_refl 0, Int.le_refl 0⟩
  | k + 1 => by
    have ih := sum1_rg hf k
    have := hf k
    rw [sumN]
    omega
theorem sum6_rg {f : Nat → Int} (hf : ∀ i, 0 ≤ f i ∧ f i ≤ 6) : ∀ k : Nat, 0 ≤ sumN f k ∧ sumN f k ≤ 6 * (k : Int)
  | 0 => ⟨Int.le_refl 0, Int.le_refl 0⟩
  | k + 1 => by
    have ih := sum6_rg hf k
    have := hf k
    rw [sumN]
    omega
theorem ooB_iff {a b : Nat} : ooB ft O a b = true ↔ (ft 2 a = ft 2 b ∧ O a ≠ -1 ∧ O b ≠ -1 ∧ bef ft a b ∧ O b < O a) := by
  unfold ooB bef
  simp [and_assoc]
/-- inner loop: class -/
theorem ooC1 (hC : YC ft n v false s) (hO : ∀ c, c < n → s 17 0 c = O c) {a : Nat} (ha : a < n) {base : Int} (hb : 0 ≤ base ∧ base ≤ 100) : ∀ (j b : Nat) (z4 z5 : PV), b + j = n → ∃ z4' z5', EV (d + 2) mX7_outOfOrder (17, [vr 13 0, vi (base + sumN (oo1 ft O a) b), vi (a : Int), vi (b : Int), z4, z5], [], s) = EV (d + 2) mX7_outOfOrder (4, [vr 13 0, vi (base + sumN (oo1 ft O a) n), vi ((a + 1 : Nat) : Int), z4', z5', z5'], [], s) ∨ EV (d + 2) mX7_outOfOrder (17, [vr 13 0, vi (base + sumN (oo1 ft O a) b), vi (a : Int), vi (b : Int), z4, z5], [], s) = EV (d + 2) mX7_outOfOrder (4, [vr 13 0, vi (base + sumN (oo1 ft O a) n), vi ((a + 1 : Nat) : Int), vi (n : Int), z4', z5'], [], s) := by
  have h6 := hC.2.1.1
  intro j
  induction j with
  | zero =>
    intro b z4 z5 h
    have hb : b = n := by omega
    subst hb
    refine ⟨z4, z5, Or.inr ?_⟩
    rw [qX7_outOfOrder_17, YC_size hC, bI_s, if_neg (by omega), w32_id (by omega) (by omega), show (a : Int) + 1 = ((a + 1 : Nat) : Int) by omega]
  | succ j ih =>
    intro b z4 z5 h
    have hbn : b < n := by omega
    have hr := sum1_rg (oo1_rg ft O a) b
    have go0 : ∀ z4 z5 : PV, ooB ft O a b ≠ true → EV (d + 2) mX7_outOfOrder (120, [vr 13 0, vi (base + sumN (oo1 ft O a) b), vi (a : Int), vi (b : Int), z4, z5], [], s) = EV (d + 2) mX7_outOfOrder (17, [vr 13 0, vi (base + sumN (oo1 ft O a) (b + 1)), vi (a : Int), vi ((b + 1 : Nat) : Int), z4, z5], [], s) := by
      intro z4 z5 q
      have es : sumN (oo1 ft O a) (b + 1) = sumN (oo1 ft O a) b := by
        rw [sumN]
        unfold oo1
        rw [if_neg q]
        omega
      rw [qX7_outOfOrder_120, w32_id (by omega) (by omega), show (b : Int) + 1 = ((b + 1 : Nat) : Int) by omega, es]
    rw [qX7_outOfOrder_17, YC_size hC, bI_s, if_pos (by omega), show RUN (d + 1) mX1_tell [vr 1 0, vi 2, vi (a : Int)] s = _ from YC_tell (f := 2) hC ha (by omega), bI_s, show RUN (d + 1) mX1_tell [vr 1 0, vi 2, vi (b : Int)] s = _ from YC_tell (f := 2) hC hbn (by omega), bI_s]
    have at54 : ∀ y0 : Int, (y0 = if ft 2 a = ft 2 b then 1 else 0) → ∃ z4 z5, EV (d + 2) mX7_outOfOrder (54, [vr 13 0, vi (base + sumN (oo1 ft O a) b), vi (a : Int), vi (b : Int), z4, z5], [vi y0], s) = EV (d + 2) mX7_outOfOrder (54, [vr 13 0, vi (base + sumN (oo1 ft O a) b), vi (a : Int), vi (b : Int), z4, z5], [vi y0], s) := fun y0 _ => ⟨z4, z5, rfl⟩
    have step : ∀ y0 : Int, (y0 = if ft 2 a = ft 2 b then 1 else 0) → ∃ z4' z5', EV (d + 2) mX7_outOfOrder (54, [vr 13 0, vi (base + sumN (oo1 ft O a) b), vi (a : Int), vi (b : Int), z4, z5], [vi y0], s) = EV (d + 2) mX7_outOfOrder (17, [vr 13 0, vi (base + sumN (oo1 ft O a) (b + 1)), vi (a : Int), vi ((b + 1 : Nat) : Int), z4', z5'], [], s) := by
      intro y0 hy
      rw [qX7_outOfOrder_54, if_pos (inbN (by omega)), Int.toNat_natCast, hO a ha, if_pos (inbN (by omega)), Int.toNat_natCast, hO b hbn]
      have none80 : ∀ y1 : Int, y1 = 0 → ooB ft O a b ≠ true → ∃ z4' z5', EV (d + 2) mX7_outOfOrder (81, [vr 13 0, vi (base + sumN (oo1 ft O a) b), vi (a : Int), vi (b : Int), vi y0, z5], [vi y1], s) = EV (d + 2) mX7_outOfOrder (17, [vr 13 0, vi (base + sumN (oo1 ft O a) (b + 1)), vi (a : Int), vi ((b + 1 : Nat) : Int), z4', z5'], [], s) := by
        intro y1 h1 q
        rw [qX7_outOfOrder_81]
        by_cases q0 : y0 = 0
        · rw [if_pos q0, go0 _ _ q]; exact ⟨_, _, rfl⟩
        · rw [if_neg q0, if_pos h1, go0 _ _ q]; exact ⟨_, _, rfl⟩
      by_cases oa : O a = -1
      · rw [if_pos oa, qX7_outOfOrder_80]
        exact none80 0 rfl (fun z => (ooB_iff.mp z).2.1 oa)
      rw [if_neg oa]
      by_cases ob : O b = -1
      · rw [if_pos ob, qX7_outOfOrder_80]
        exact none80 0 rfl (fun z => (ooB_iff.mp z).2.2.1 ob)
      rw [if_neg ob, qX7_outOfOrder_81]
      by_cases hl : ft 2 a = ft 2 b
      · rw [if_pos hl] at hy
        rw [if_neg (by omega), if_neg i10]
        obtain ⟨r, hr1, hr2⟩ := comesC (d := d) (c' := b) hC ha hbn
        rw [hr1, bI_s]
        rcases hr2 with ⟨r0, hb⟩ | ⟨r1, hb⟩
        · rw [if_pos r0, go0 _ _ (fun z => hb (ooB_iff.mp z).2.2.2.1)]; exact ⟨_, _, rfl⟩
        · rw [if_neg (by omega), if_pos (inbN (by omega)), if_pos (inbN (by omega)), Int.toNat_natCast, Int.toNat_natCast, hO a ha, hO b hbn]
          by_cases hq : O b < O a
          · have es : sumN (oo1 ft O a) (b + 1) = sumN (oo1 ft O a) b + 1 := by
              rw [sumN]
              unfold oo1
              rw [if_pos (ooB_iff.mpr ⟨hl, oa, ob, hb, hq⟩)]
            rw [if_pos hq, qX7_outOfOrder_120, w32_id (by omega) (by omega), w32_id (by omega) (by omega), show (b : Int) + 1 = ((b + 1 : Nat) : Int) by omega, es, show base + (sumN (oo1 ft O a) b + 1) = base + sumN (oo1 ft O a) b + 1 by omega]
            exact ⟨_, _, rfl⟩
          · rw [if_neg hq, go0 _ _ (fun z => hq (ooB_iff.mp z).2.2.2.2)]; exact ⟨_, _, rfl⟩
      · rw [if_neg hl] at hy
        rw [if_pos hy, go0 _ _ (fun z => hl (ooB_iff.mp z).1)]; exact ⟨_, _, rfl⟩
    by_cases hl : ft 2 a = ft 2 b
    · rw [if_pos hl]
      obtain ⟨z4', z5', hs⟩ := step 1 (by rw [if_pos hl])
      rw [hs]
      exact ih (b + 1) z4' z5' (by omega)
    · rw [if_neg hl]
      obtain ⟨z4', z5', hs⟩ := step 0 (by rw [if_neg hl])
      rw [hs]
      exact ih (b + 1) z4' z5' (by omega)
theorem ooC (hC : YC ft n v false s) (hO : ∀ c, c < n → s 17 0 c = O c) : ∀ (j a : Nat) (z3 z4 z5 : PV), a + j = n → EV (d + 2) mX7_outOfOrder (4, [vr 13 0, vi (sumN (fun a => sumN (oo1 ft O a) n) a), vi (a : Int), z3, z4, z5], [], s) = some (some (vi (sumN (fun a => sumN (oo1 ft O a) n) n)), s)
  | 0, a, z3, z4, z5, h => by
    have ha : a = n := by omega
    subst ha
    rw [qX7_outOfOrder_4, YC_size hC, bI_s, if_neg (by omega)]
  | j + 1, a, z3, z4, z5, h => by
    have h6 := hC.2.1.1
    have hr := sum6_rg (f := fun a => sumN (oo1 ft O a) n) (fun i => by have := sum1_rg (oo1_rg ft O i) n; omega) a
    rw [qX7_outOfOrder_4, YC_size hC, bI_s, if_pos (by omega)]
    have e0 : sumN (fun a => sumN (oo1 ft O a) n) a + sumN (oo1 ft O a) 0 = sumN (fun a => sumN (oo1 ft O a) n) a := by
      show _ + 0 = _
      omega
    have es : sumN (fun a => sumN (oo1 ft O a) n) (a + 1) = sumN (fun a => sumN (oo1 ft O a) n) a + sumN (oo1 ft O a) n := rfl
    obtain ⟨z4', z5', hs⟩ := ooC1 (d := d) hC hO (a := a) (by omega) (base := sumN (fun a => sumN (oo1 ft O a) n) a) (by omega) n 0 z4 z5 (by omega)
    rw [e0, ← es] at hs
    rcases hs with hs | hs
    · rw [show EV (d + 2) mX7_outOfOrder (17, [vr 13 0, vi (sumN (fun a => sumN (oo1 ft O a) n) a), vi (a : Int), vi 0, z4, z5], [], s) = _ from hs]
      exact ooC hC hO j (a + 1) _ _ _ (by omega)
    · rw [show EV (d + 2) mX7_outOfOrder (17, [vr 13 0, vi (sumN (fun a => sumN (oo1 ft O a) n) a), vi (a : Int), vi 0, z4, z5], [], s) = _ from hs]
      exact ooC hC hO j (a + 1) _ _ _ (by omega)
end PAl
