/-! PURE 6: the history of a lane: who was where, when -/
section SP
variable {ft : Ft} {ak : Ak} {eg : Bool} {n : Nat} {l : Int} {S : Nat → Bool}
theorem take_1 {c : Nat} {l m a : Int} : 1 ≤ takeI ft ak c l m a := by
  unfold takeI
  dsimp only
  split <;> omega
/-- a car of the set: it hasn't driven up, or is at its pumps, or is off -/
def hcar (cm k : Int) (c : Nat) (st off pu fr ba : Int) : Prop :=
  (st = -1 ∧ off = -1 ∧ pu = -1 ∧ fr ≠ (c : Int) ∧ ba ≠ (c : Int)) ∨
  (0 ≤ st ∧ cm ≤ st ∧ st < k ∧ off = -1 ∧ ((pu = 0 ∧ ba = (c : Int) ∧ fr ≠ (c : Int)) ∨ (pu = 1 ∧ fr = (c : Int) ∧ ba ≠ (c : Int)) ∨ (pu = 2 ∧ fr = (c : Int) ∧ ba = (c : Int)))) ∨
  (0 ≤ st ∧ cm ≤ st ∧ st ≤ off ∧ off < k ∧ (pu = 0 ∨ pu = 1 ∨ pu = 2) ∧ fr ≠ (c : Int) ∧ ba ≠ (c : Int))
def inP (n : Nat) (S : Nat → Bool) (x : Int) : Prop := x = -1 ∨ ∃ c : Nat, c < n ∧ S c = true ∧ x = (c : Int)
def hist (n : Nat) (S : Nat → Bool) (ft : Ft) (k : Int) (L : LaS) : Prop :=
  (∀ c, c < n → S c = true → hcar (ft 3 c) k c (L.1 c) (L.2.1 c) (L.2.2.1 c) L.2.2.2.2.1 L.2.2.2.2.2) ∧ inP n S L.2.2.2.2.1 ∧ inP n S L.2.2.2.2.2
theorem hist_mono {k k' : Int} {L : LaS} (h : hist n S ft k L) (hk : k ≤ k') : hist n S ft k' L := by
  refine ⟨fun c h1 h2 => ?_, h.2⟩
  rcases h.1 c h1 h2 with q | q | q
  · exact Or.inl q
  · exact Or.inr (Or.inl (by omega))
  · exact Or.inr (Or.inr (by omega))
theorem hist_lvF {k : Int} {L : LaS} (hk : 0 ≤ k) (h : hist n S ft (k + 1) L) : hist n S ft (k + 1) (lvF k L) := by
  obtain ⟨st, off, pu, en, fr, ba⟩ := L
  obtain ⟨h1, h2, h3⟩ := h
  unfold lvF
  split
  · rename_i hm
    dsimp only at h1 h2 h3 hm ⊢
    rcases h2 with h2 | ⟨c, c1, c2, c3⟩
    · exact absurd h2 hm.1
    · subst c3
      rw [Int.toNat_natCast]
      refine ⟨fun q q1 q2 => ?_, Or.inl rfl, ?_⟩
      · have hq := h1 q q1 q2
        dsimp only at hq ⊢
        unfold hcar at hq ⊢
        by_cases e : q = c
        · subst e
          rw [fup_same]
          split <;> omega
        · rw [fup_ne e]
          split <;> omega
      · dsimp only
        split
        · exact Or.inl rfl
        · exact h3
  · exact ⟨h1, h2, h3⟩
theorem hist_lvB {k : Int} {L : LaS} (hk : 0 ≤ k) (h : hist n S ft (k + 1) L) : hist n S ft (k + 1) (lvB k L) := by
  obtain ⟨st, off, pu, en, fr, ba⟩ := L
  obtain ⟨h1, h2, h3⟩ := h
  unfold lvB
  split
  · rename_i hm
    dsimp only at h1 h2 h3 hm ⊢
    rcases h3 with h3 | ⟨c, c1, c2, c3⟩
    · exact absurd h3 hm.1
    · subst c3
      rw [Int.toNat_natCast]
      refine ⟨fun q q1 q2 => ?_, h2, Or.inl rfl⟩
      have hq := h1 q q1 q2
      dsimp only at hq ⊢
      unfold hcar at hq ⊢
      by_cases e : q = c
      · subst e
        rw [fup_same]
        omega
      · rw [fup_ne e]
        omega
  · exact ⟨h1, h2, h3⟩
theorem hist_atB {k a : Int} {L : LaS} {c : Nat} (hk : 0 ≤ k) (hc : c < n) (hs : S c = true) (hst : L.1 c = -1) (hcm : ft 3 c ≤ k) (hb : L.2.2.2.2.2 = -1) (h : hist n S ft (k + 1) L) : hist n S ft (k + 1) (atB ft ak l k a c L) := by
  obtain ⟨st, off, pu, en, fr, ba⟩ := L
  obtain ⟨h1, h2, h3⟩ := h
  dsimp only at h1 h2 h3 hst hb
  refine ⟨fun q q1 q2 => ?_, h2, Or.inr ⟨c, hc, hs, rfl⟩⟩
  have hq := h1 q q1 q2
  have hq0 := h1 c hc hs
  show hcar (ft 3 q) (k + 1) q (fup st c k q) (off q) (fup pu c 0 q) fr (c : Int)
  unfold hcar at hq hq0 ⊢
  by_cases e : q = c
  · subst e
    rw [fup_same, fup_same]
    omega
  · rw [fup_ne e, fup_ne e]
    omega
theorem hist_atF {k : Int} {L : LaS} {c : Nat} (hk : 0 ≤ k) (hc : c < n) (hs : S c = true) (hst : L.1 c = -1) (hcm : ft 3 c ≤ k) (hf : L.2.2.2.2.1 = -1) (h : hist n S ft (k + 1) L) : hist n S ft (k + 1) (atF ft ak l k c L) := by
  obtain ⟨st, off, pu, en, fr, ba⟩ := L
  obtain ⟨h1, h2, h3⟩ := h
  dsimp only at h1 h2 h3 hst hf
  refine ⟨fun q q1 q2 => ?_, Or.inr ⟨c, hc, hs, rfl⟩, h3⟩
  have hq := h1 q q1 q2
  have hq0 := h1 c hc hs
  show hcar (ft 3 q) (k + 1) q (fup st c k q) (off q) (fup pu c 1 q) (c : Int) ba
  unfold hcar at hq hq0 ⊢
  by_cases e : q = c
  · subst e
    rw [fup_same, fup_same]
    omega
  · rw [fup_ne e, fup_ne e]
    omega
theorem hist_at2 {k : Int} {L : LaS} {c : Nat} (hk : 0 ≤ k) (hc : c < n) (hs : S c = true) (hst : L.1 c = -1) (hcm : ft 3 c ≤ k) (hf : L.2.2.2.2.1 = -1) (hb : L.2.2.2.2.2 = -1) (h : hist n S ft (k + 1) L) : hist n S ft (k + 1) (at2 ft ak l k c L) := by
  obtain ⟨st, off, pu, en, fr, ba⟩ := L
  obtain ⟨h1, h2, h3⟩ := h
  dsimp only at h1 h2 h3 hst hf hb
  refine ⟨fun q q1 q2 => ?_, Or.inr ⟨c, hc, hs, rfl⟩, Or.inr ⟨c, hc, hs, rfl⟩⟩
  have hq := h1 q q1 q2
  have hq0 := h1 c hc hs
  show hcar (ft 3 q) (k + 1) q (fup st c k q) (off q) (fup pu c 2 q) (c : Int) (c : Int)
  unfold hcar at hq hq0 ⊢
  by_cases e : q = c
  · subst e
    rw [fup_same, fup_same]
    omega
  · rw [fup_ne e, fup_ne e]
    omega
theorem hist_dr2 {k : Int} {L : LaS} (hk : 0 ≤ k) (hb : L.2.2.2.2.2 = -1) (h : hist n S ft (k + 1) L) : hist n S ft (k + 1) (dr2 ft ak n l S k L) := by
  unfold dr2
  rcases nxt_lt (ft := ft) (l := l) (S := S) (m := k) (st := L.1) n with h1 | ⟨c, h1, h2, h3⟩
  · rw [if_pos h1]; exact h
  · rw [h2, Int.toNat_natCast, if_neg (show ¬ (c : Int) = -1 by omega)]
    have hs := cand_S h3
    split
    · exact h
    · exact hist_atB hk h1 hs.1 hs.2.1 hs.2.2.1 hb h
theorem hist_dr1 {k : Int} {L : LaS} (hk : 0 ≤ k) (h : hist n S ft (k + 1) L) : hist n S ft (k + 1) (dr1 ft ak eg n l S k L) := by
  unfold dr1
  by_cases hb : L.2.2.2.2.2 ≠ -1
  · rw [if_pos hb]; exact h
  · rw [if_neg hb]
    have hb : L.2.2.2.2.2 = -1 := Decidable.not_not.mp hb
    rcases nxt_lt (ft := ft) (l := l) (S := S) (m := k) (st := L.1) n with h1 | ⟨c, h1, h2, h3⟩
    · rw [if_pos h1]; exact h
    · rw [h2, Int.toNat_natCast, if_neg (show ¬ (c : Int) = -1 by omega)]
      have hs := cand_S h3
      split
      · split
        · rename_i hf
          exact hist_at2 hk h1 hs.1 hs.2.1 hs.2.2.1 hf hb h
        · exact h
      · split
        · rename_i hf
          exact hist_dr2 hk hb (hist_atF hk h1 hs.1 hs.2.1 hs.2.2.1 hf.1 h)
        · exact hist_atB hk h1 hs.1 hs.2.1 hs.2.2.1 hb h
theorem hist_min {k : Nat} {L : LaS} (h : hist n S ft (k : Int) L) : hist n S ft ((k + 1 : Nat) : Int) (minI ft ak eg n l S (k : Int) L) := by
  have hk : (0 : Int) ≤ (k : Int) := Int.natCast_nonneg k
  have e : ((k + 1 : Nat) : Int) = (k : Int) + 1 := by omega
  rw [e]
  exact hist_dr1 hk (hist_lvB hk (hist_lvF hk (hist_mono h (by omega))))
theorem hist_run {L : LaS} (h : hist n S ft 0 L) : ∀ k : Nat, hist n S ft (k : Int) (runI ft ak eg n l S L k)
  | 0 => h
  | k + 1 => hist_min (hist_run h k)
end SP
