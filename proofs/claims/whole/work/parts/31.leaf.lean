/-! PURE 2: Fleet, Kinds, Sheet -/
theorem toNat_cast (k : Nat) : Int.toNat (k : Int) = k := Int.toNat_natCast k
theorem has_ok (d : Nat) (x : Int) (s : Sg) : RUN d mX1_has [vr 1 0, vi x] s = some (some (vi (if 0 ≤ x ∧ x < s 1 0 1 then 1 else 0)), s) := by
  rw [qX1_has]
  by_cases h1 : x < 0
  · rw [if_pos h1, if_neg (by omega)]
  · rw [if_neg h1]
    by_cases h2 : x < s 1 0 1
    · rw [if_pos h2, if_pos (by omega)]
    · rw [if_neg h2, if_neg (by omega)]
theorem size_ok (d : Nat) (s : Sg) : RUN d mX1_size [vr 1 0] s = some (some (vi (s 1 0 1)), s) := qX1_size d s
theorem tell_ok {d : Nat} {f x : Int} {s : Sg} (hf : 0 ≤ f ∧ f < 6) (hx : 0 ≤ x ∧ x < s 1 0 1) (h6 : s 1 0 1 ≤ 6) : RUN d mX1_tell [vr 1 0, vi f, vi x] s = some (some (vi (s 3 f.toNat x.toNat)), s) := by
  rw [qX1_tell, if_neg (show ¬ f < 0 by omega), if_pos hf.2, if_neg (show ¬ x < 0 by omega), if_pos hx.2, if_pos (show inb f 6 by constructor <;> omega), if_pos (show inb x 6 by constructor <;> omega)]
theorem put_ok {d : Nat} {f x v : Int} {s : Sg} (hf : 0 ≤ f ∧ f < 6) (hx : 0 ≤ x ∧ x < s 1 0 1) (h6 : s 1 0 1 ≤ 6) : RUN (d + 1) mX1_put [vr 1 0, vi f, vi x, vi v] s = some (some (vi (s 3 f.toNat x.toNat)), up s 3 f.toNat x.toNat v) := by
  rw [qX1_put, tell_ok hf hx h6, bI_s, if_neg (show ¬ f < 0 by omega), if_pos hf.2, has_ok, bI_s, if_pos hx, if_neg (show ¬ (1 : Int) = 0 by decide), if_pos (show inb f 6 by constructor <;> omega), if_pos (show inb x 6 by constructor <;> omega)]
def hiOf (f : Nat) : Int := sv 52 f
theorem isOne_ok {d : Nat} {f x : Int} {s : Sg} (hf : 0 ≤ f ∧ f < 6) : RUN d mX1_isOne [vi f, vi x] s = some (some (vi (if 0 ≤ x ∧ x ≤ sv 52 f.toNat then 1 else 0)), s) := by
  rw [qX1_isOne]
  by_cases h1 : x < 0
  · rw [if_pos h1, if_neg (by omega)]
  · rw [if_neg h1, if_pos (by constructor <;> omega)]
    by_cases h2 : sv 52 f.toNat < x
    · rw [if_pos h2, if_neg (by omega)]
    · rw [if_neg h2, if_pos (by omega)]
/-- a car comes -/
def newCar (s : Sg) (n : Nat) (kind number lane : Int) : Sg := up (up (up (up (up (up (up s 1 0 1 ((n : Int) + 1)) 3 5 n kind) 3 0 n number) 3 2 n lane) 3 1 n 0) 3 3 n 0) 3 4 n 0
theorem welcome_ok {d n : Nat} {kind number lane : Int} {s : Sg} (hn : s 1 0 1 = (n : Int)) (h6 : n ≤ 6) : RUN (d + 2) mX1_welcome [vr 1 0, vi kind, vi number, vi lane] s =
    if 0 ≤ kind ∧ kind ≤ 5 ∧ 0 ≤ number ∧ number ≤ 9 ∧ 0 ≤ lane ∧ lane ≤ 3 then (if n < 6 then some (some (vi n), newCar s n kind number lane) else some (some (vi (-4)), s)) else some (some (vi (-2)), s) := by
  have e5 : sv 52 (Int.toNat 5) = 5 := by decide
  have e0 : sv 52 (Int.toNat 0) = 9 := by decide
  have e2 : sv 52 (Int.toNat 2) = 3 := by decide
  rw [qX1_welcome, isOne_ok (by omega), bI_s, e5]
  by_cases h1 : 0 ≤ kind ∧ kind ≤ 5
  · rw [if_pos h1, if_neg (show ¬ (1 : Int) = 0 by decide), isOne_ok (by omega), bI_s, e0]
    by_cases h2 : 0 ≤ number ∧ number ≤ 9
    · rw [if_pos h2, if_neg (show ¬ (1 : Int) = 0 by decide), isOne_ok (by omega), bI_s, e2]
      by_cases h3 : 0 ≤ lane ∧ lane ≤ 3
      · rw [if_pos h3, if_neg (show ¬ (1 : Int) = 0 by decide), if_pos (show 0 ≤ kind ∧ kind ≤ 5 ∧ 0 ≤ number ∧ number ≤ 9 ∧ 0 ≤ lane ∧ lane ≤ 3 from ⟨h1.1, h1.2, h2.1, h2.2, h3.1, h3.2⟩), hn]
        by_cases h4 : n < 6
        · rw [if_pos (show (n : Int) < 6 by omega), if_pos h4, w32_id (by omega) (by omega)]
          rw [put_ok (by omega) ⟨by omega, by simp [up_ap]; omega⟩ (by simp [up_ap]; omega), bI_s]
          rw [put_ok (by omega) ⟨by omega, by simp [up_ap]; omega⟩ (by simp [up_ap]; omega), bI_s]
          rw [put_ok (by omega) ⟨by omega, by simp [up_ap]; omega⟩ (by simp [up_ap]; omega), bI_s]
          rw [put_ok (by omega) ⟨by omega, by simp [up_ap]; omega⟩ (by simp [up_ap]; omega), bI_s]
          rw [put_ok (by omega) ⟨by omega, by simp [up_ap]; omega⟩ (by simp [up_ap]; omega), bI_s]
          rw [put_ok (by omega) ⟨by omega, by simp [up_ap]; omega⟩ (by simp [up_ap]; omega), bI_s]
          rfl
        · rw [if_neg (show ¬ (n : Int) < 6 by omega), if_neg h4]
      · rw [if_neg h3, if_pos (show (0 : Int) = 0 from rfl), if_neg (show ¬ (0 ≤ kind ∧ kind ≤ 5 ∧ 0 ≤ number ∧ number ≤ 9 ∧ 0 ≤ lane ∧ lane ≤ 3) by omega)]
    · rw [if_neg h2, if_pos (show (0 : Int) = 0 from rfl), if_neg (show ¬ (0 ≤ kind ∧ kind ≤ 5 ∧ 0 ≤ number ∧ number ≤ 9 ∧ 0 ≤ lane ∧ lane ≤ 3) by omega)]
  · rw [if_neg h1, if_pos (show (0 : Int) = 0 from rfl), if_neg (show ¬ (0 ≤ kind ∧ kind ≤ 5 ∧ 0 ≤ number ∧ number ≤ 9 ∧ 0 ≤ lane ∧ lane ≤ 3) by omega)]
theorem isLong_ok (d : Nat) (x : Int) (s : Sg) : RUN d mX3_isLong [vi x] s = some (some (vi (if x = 3 ∨ x = 5 then 1 else 0)), s) := by
  rw [qX3_isLong]
  by_cases h1 : x = 3
  · rw [if_pos h1, if_pos (Or.inl h1)]
  · rw [if_neg h1]
    by_cases h2 : x = 5
    · rw [if_pos h2, if_pos (Or.inr h2)]
    · rw [if_neg h2, if_neg (by omega)]
