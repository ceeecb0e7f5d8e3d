/-! PARSE 3: the class's step -/
section CS
variable {b : Nat → Int} {sz p q e : Nat} {s : Sg} {d : Nat}
theorem ch8c : ∀ n : Nat, n < 256 → wi2c (n : Int) = (n : Int) := by decide +kernel
theorem ch8b : ∀ n : Nat, n < 256 → wi2b (n : Int) = if n < 128 then (n : Int) else (n : Int) - 256 := by decide +kernel
theorem ch60 : ∀ k : Nat, k < 8 → 40 ≤ sv 60 k ∧ sv 60 k ≤ 61 := by decide +kernel
theorem ch8 (n : Nat) (hn : n < 256) : wi2c (n : Int) = (n : Int) ∧ ∀ k : Nat, k < 8 → (sv 60 k = wi2b (n : Int) ↔ sv 60 k = (n : Int)) := by
  refine ⟨ch8c n hn, fun k hk => ?_⟩
  have h := ch60 k hk
  rw [ch8b n hn]
  by_cases h1 : n < 128
  · rw [if_pos h1]
  · rw [if_neg h1]
    omega
theorem idxC {x : Int} (hx : 0 ≤ x ∧ x ≤ 255) : ∃ r : Int, RUN (d + 5) mJ0_indexOf_0f7a4 [vr 57 0, vi (wi2c x)] s = some (some (vi r), s) ∧ (r < 0 ↔ ¬ sgn x = true) := by
  obtain ⟨n, rfl⟩ : ∃ n : Nat, x = (n : Int) := ⟨x.toNat, by omega⟩
  obtain ⟨h1, h2⟩ := ch8 n (by omega)
  have hl : RUN (d + 3) mJ0_length_8abf5 [vr 57 0] s = some (some (vi 8), s) := by
    rw [qJ0_length_8abf5v, qJ0_coder_7d493v, bI_s]
    rfl
  rw [qJ0_indexOf_0f7a4, h1, qJ0_indexOf_7cf53, qJ0_isLatin1_aae02v, bI_s, if_neg (by decide), hl, bI_s, qJ1_indexOf_4cfef, qJ1_canEncode_9a6ad, if_neg (by omega), if_neg (by omega), bI_s, if_neg (by decide), show wmax 0 0 = 0 from rfl, show wmin 8 8 = 8 from rfl, if_pos (by decide), qJ1_indexOfChar_4cfef]
  have go : ∀ (m k : Nat), k + m = 8 → (∀ i, i < k → sv 60 i ≠ (n : Int)) → ∃ r : Int, EV (d + 2) mJ1_indexOfChar_4cfef (7, [vr 60 0, vi (n : Int), vi 0, vi 8, vi (wi2b (n : Int)), vi (k : Int)], [], s) = some (some (vi r), s) ∧ (r < 0 ↔ ∀ i, i < 8 → sv 60 i ≠ (n : Int)) := by
    intro m
    induction m with
    | zero =>
      intro k hk hno
      rw [qJ1_indexOfChar_4cfef_7, if_neg (by omega)]
      exact ⟨-1, rfl, ⟨fun _ i hi => hno i (by omega), fun _ => by decide⟩⟩
    | succ m ih =>
      intro k hk hno
      rw [qJ1_indexOfChar_4cfef_7, if_pos (by omega), if_pos (show inb (k : Int) 8 by constructor <;> omega), Int.toNat_natCast]
      by_cases hc : sv 60 k = wi2b (n : Int)
      · rw [if_pos hc]
        refine ⟨(k : Int), rfl, ⟨fun h => by omega, fun h => ?_⟩⟩
        exact absurd ((h2 k (by omega)).mp hc) (h k (by omega))
      · rw [if_neg hc, w32_id (by omega) (by omega), show (k : Int) + 1 = ((k + 1 : Nat) : Int) by omega]
        refine ih (k + 1) (by omega) (fun i hi => ?_)
        by_cases e : i = k
        · rw [e]; exact fun h => hc ((h2 k (by omega)).mpr h)
        · exact hno i (by omega)
  obtain ⟨r, hr, hr2⟩ := go 8 0 (by omega) (fun i hi => by omega)
  have hr' : EV (d + 2) mJ1_indexOfChar_4cfef (7, [vr 60 0, vi (n : Int), vi 0, vi 8, vi (wi2b (n : Int)), vi 0], [], s) = some (some (vi r), s) := hr
  refine ⟨r, by rw [hr', bI_s, bI_s, bI_s], ?_⟩
  rw [hr2]
  unfold sgn
  rw [decide_eq_true_eq]
  constructor
  · intro h hs
    have a0 : (40 : Int) ≠ n := h 0 (by omega)
    have a1 : (41 : Int) ≠ n := h 1 (by omega)
    have a2 : (59 : Int) ≠ n := h 2 (by omega)
    have a3 : (43 : Int) ≠ n := h 3 (by omega)
    have a4 : (45 : Int) ≠ n := h 4 (by omega)
    have a5 : (42 : Int) ≠ n := h 5 (by omega)
    have a6 : (60 : Int) ≠ n := h 6 (by omega)
    have a7 : (61 : Int) ≠ n := h 7 (by omega)
    omega
  · intro h i hi he
    apply h
    rw [← he]
    have hi8 : i = 0 ∨ i = 1 ∨ i = 2 ∨ i = 3 ∨ i = 4 ∨ i = 5 ∨ i = 6 ∨ i = 7 := by omega
    rcases hi8 with rfl | rfl | rfl | rfl | rfl | rfl | rfl | rfl
    · exact Or.inl rfl
    · exact Or.inr (Or.inl rfl)
    · exact Or.inr (Or.inr (Or.inl rfl))
    · exact Or.inr (Or.inr (Or.inr (Or.inl rfl)))
    · exact Or.inr (Or.inr (Or.inr (Or.inr (Or.inl rfl))))
    · exact Or.inr (Or.inr (Or.inr (Or.inr (Or.inr (Or.inl rfl)))))
    · exact Or.inr (Or.inr (Or.inr (Or.inr (Or.inr (Or.inr (Or.inl rfl))))))
    · exact Or.inr (Or.inr (Or.inr (Or.inr (Or.inr (Or.inr (Or.inr rfl))))))
end CS
