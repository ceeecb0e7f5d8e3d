/-! PURE 4: the spec's own facts: who is next; what isn't in the set doesn't matter -/
section SP
variable {ft : Ft} {ak : Ak} {eg : Bool} {n : Nat} {l m : Int} {S : Nat → Bool}
theorem nxt_lt {st : Nat → Int} : ∀ k, nxtI ft l S m st k = -1 ∨ ∃ c : Nat, c < k ∧ nxtI ft l S m st k = (c : Int) ∧ candB ft l S m st c = true
  | 0 => Or.inl rfl
  | k + 1 => by
    have ih := nxt_lt (st := st) k
    rw [nxtI]
    split
    · rename_i hc
      split
      · exact Or.inr ⟨k, Nat.lt_succ_self k, rfl, hc⟩
      · rcases ih with h | ⟨c, h1, h2, h3⟩
        · exact Or.inl h
        · exact Or.inr ⟨c, by omega, h2, h3⟩
    · rcases ih with h | ⟨c, h1, h2, h3⟩
      · exact Or.inl h
      · exact Or.inr ⟨c, by omega, h2, h3⟩
theorem nxt_none {st : Nat → Int} : ∀ k, nxtI ft l S m st k = -1 → ∀ c, c < k → candB ft l S m st c = false
  | 0, _, c, h => absurd h (Nat.not_lt_zero c)
  | k + 1, h, c, hc => by
    rw [nxtI] at h
    split at h
    · split at h
      · omega
      · rename_i hk hn
        exact absurd (Or.inl h) hn
    · rename_i hk
      rcases Nat.lt_succ_iff_lt_or_eq.mp hc with h1 | h1
      · exact nxt_none k h c h1
      · rw [h1]; exact Bool.eq_false_iff.mpr hk
/-- the one that is next is ahead of all others that could be -/
theorem nxt_min {st : Nat → Int} : ∀ (k c : Nat), nxtI ft l S m st k = (c : Int) → ∀ c', c' < k → candB ft l S m st c' = true → ft 3 c < ft 3 c' ∨ (ft 3 c = ft 3 c' ∧ c ≤ c')
  | 0, c, h, c', h1, _ => absurd h1 (Nat.not_lt_zero c')
  | k + 1, c, h, c', h1, h2 => by
    have ih := nxt_min (st := st) k
    rw [nxtI] at h
    split at h
    · rename_i hk
      split at h
      · rename_i hn
        have e : k = c := by omega
        subst e
        rcases Nat.lt_succ_iff_lt_or_eq.mp h1 with h3 | h3
        · rcases nxt_lt (ft := ft) (l := l) (S := S) (m := m) (st := st) k with h4 | ⟨c2, h5, h6, h7⟩
          · have := nxt_none k h4 c' h3
            rw [h2] at this
            cases this
          · rw [h6] at hn
            have h8 := ih c2 h6 c' h3 h2
            rw [Int.toNat_natCast] at hn
            rcases hn with hn | hn
            · omega
            · omega
        · subst h3
          exact Or.inr ⟨rfl, Nat.le_refl _⟩
      · rename_i hn
        rcases Nat.lt_succ_iff_lt_or_eq.mp h1 with h3 | h3
        · exact ih c h c' h3 h2
        · subst h3
          rw [h, Int.toNat_natCast] at hn
          have hlt : c < c' := by
            rcases nxt_lt (ft := ft) (l := l) (S := S) (m := m) (st := st) c' with h4 | ⟨c2, h5, h6, h7⟩
            · rw [h] at h4; omega
            · rw [h] at h6; omega
          have := fun q => hn (Or.inr q)
          omega
    · rename_i hk
      rcases Nat.lt_succ_iff_lt_or_eq.mp h1 with h3 | h3
      · exact ih c h c' h3 h2
      · subst h3
        exact absurd h2 hk
/-- next depends on the set's cars alone -/
theorem nxt_congr {st st' : Nat → Int} : ∀ k, (∀ c, c < k → S c = true → st c = st' c) → nxtI ft l S m st k = nxtI ft l S m st' k
  | 0, _ => rfl
  | k + 1, h => by
    have ih := nxt_congr (st := st) (st' := st') k (fun c hc => h c (by omega))
    have hc : candB ft l S m st k = candB ft l S m st' k := by
      unfold candB
      by_cases hs : S k = true
      · rw [h k (Nat.lt_succ_self k) hs]
      · rw [Bool.eq_false_iff.mpr hs]; rfl
    rw [nxtI, nxtI, hc, ih]
/-- two lanes' states that agree in all that counts: the set's cars, who is at the pumps, when these end -/
def agr (n : Nat) (S : Nat → Bool) (L L' : LaS) : Prop := (∀ c, c < n → S c = true → L.1 c = L'.1 c ∧ L.2.1 c = L'.2.1 c ∧ L.2.2.1 c = L'.2.2.1 c) ∧ L.2.2.2.2 = L'.2.2.2.2 ∧ (L.2.2.2.2.1 = -1 ∨ ∃ c : Nat, c < n ∧ S c = true ∧ L.2.2.2.2.1 = (c : Int) ∧ L.2.2.2.1 c = L'.2.2.2.1 c) ∧ (L.2.2.2.2.2 = -1 ∨ ∃ c : Nat, c < n ∧ S c = true ∧ L.2.2.2.2.2 = (c : Int) ∧ L.2.2.2.1 c = L'.2.2.2.1 c)
theorem fup_same (f : Nat → Int) (k : Nat) (v : Int) : fup f k v k = v := if_pos rfl
theorem fup_ne {f : Nat → Int} {k j : Nat} {v : Int} (h : j ≠ k) : fup f k v j = f j := if_neg h
theorem fup_agr {f f' : Nat → Int} {k : Nat} {v : Int} {c : Nat} (h : f c = f' c) : fup f k v c = fup f' k v c := by
  unfold fup
  split
  · rfl
  · exact h
end SP
