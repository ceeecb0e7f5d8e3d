/-! PURE 5: a lane's minutes depend on the set's cars alone -/
section SP
variable {ft : Ft} {ak : Ak} {eg : Bool} {n : Nat} {l m : Int} {S : Nat → Bool}
theorem agr_lvF {L L' : LaS} (h : agr n S L L') : agr n S (lvF m L) (lvF m L') := by
  obtain ⟨st, off, pu, en, fr, ba⟩ := L
  obtain ⟨st', off', pu', en', fr', ba'⟩ := L'
  obtain ⟨h1, h2, h3, h4⟩ := h
  dsimp only at h1 h2 h3 h4
  cases h2
  unfold lvF
  dsimp only
  rcases h3 with h3 | ⟨c, hc1, hc2, hc3, hc4⟩
  · rw [if_neg (fun q => q.1 h3), if_neg (fun q => q.1 h3)]
    exact ⟨h1, rfl, Or.inl h3, h4⟩
  · subst hc3
    rw [Int.toNat_natCast]
    by_cases hm : ((c : Int) ≠ -1 ∧ en c ≤ m)
    · rw [if_pos hm, if_pos (show (c : Int) ≠ -1 ∧ en' c ≤ m by rw [← hc4]; exact hm)]
      refine ⟨fun q hq1 hq2 => ⟨(h1 q hq1 hq2).1, fup_agr (h1 q hq1 hq2).2.1, (h1 q hq1 hq2).2.2⟩, rfl, Or.inl rfl, ?_⟩
      dsimp only
      split
      · exact Or.inl rfl
      · exact h4
    · rw [if_neg hm, if_neg (show ¬ ((c : Int) ≠ -1 ∧ en' c ≤ m) by rw [← hc4]; exact hm)]
      exact ⟨h1, rfl, Or.inr ⟨c, hc1, hc2, rfl, hc4⟩, h4⟩
theorem agr_lvB {L L' : LaS} (h : agr n S L L') : agr n S (lvB m L) (lvB m L') := by
  obtain ⟨st, off, pu, en, fr, ba⟩ := L
  obtain ⟨st', off', pu', en', fr', ba'⟩ := L'
  obtain ⟨h1, h2, h3, h4⟩ := h
  dsimp only at h1 h2 h3 h4
  cases h2
  unfold lvB
  dsimp only
  rcases h4 with h4 | ⟨c, hc1, hc2, hc3, hc4⟩
  · rw [if_neg (fun q => q.1 h4), if_neg (fun q => q.1 h4)]
    exact ⟨h1, rfl, h3, Or.inl h4⟩
  · subst hc3
    rw [Int.toNat_natCast]
    by_cases hm : ((c : Int) ≠ -1 ∧ fr = -1 ∧ en c ≤ m)
    · rw [if_pos hm, if_pos (show (c : Int) ≠ -1 ∧ fr = -1 ∧ en' c ≤ m by rw [← hc4]; exact hm)]
      exact ⟨fun q hq1 hq2 => ⟨(h1 q hq1 hq2).1, fup_agr (h1 q hq1 hq2).2.1, (h1 q hq1 hq2).2.2⟩, rfl, h3, Or.inl rfl⟩
    · rw [if_neg hm, if_neg (show ¬ ((c : Int) ≠ -1 ∧ fr = -1 ∧ en' c ≤ m) by rw [← hc4]; exact hm)]
      exact ⟨h1, rfl, h3, Or.inr ⟨c, hc1, hc2, rfl, hc4⟩⟩
theorem fup_en {en en' : Nat → Int} {k : Nat} {v : Int} {x : Int} (h : x = -1 ∨ ∃ c : Nat, c < n ∧ S c = true ∧ x = (c : Int) ∧ en c = en' c) : x = -1 ∨ ∃ c : Nat, c < n ∧ S c = true ∧ x = (c : Int) ∧ fup en k v c = fup en' k v c := by
  rcases h with h | ⟨c, h1, h2, h3, h4⟩
  · exact Or.inl h
  · exact Or.inr ⟨c, h1, h2, h3, fup_agr h4⟩
theorem agr_atB {L L' : LaS} {a : Int} {c : Nat} (hc : c < n) (hs : S c = true) (h : agr n S L L') : agr n S (atB ft ak l m a c L) (atB ft ak l m a c L') := by
  obtain ⟨st, off, pu, en, fr, ba⟩ := L
  obtain ⟨st', off', pu', en', fr', ba'⟩ := L'
  obtain ⟨h1, h2, h3, h4⟩ := h
  dsimp only at h1 h2 h3 h4
  cases h2
  exact ⟨fun q hq1 hq2 => ⟨fup_agr (h1 q hq1 hq2).1, (h1 q hq1 hq2).2.1, fup_agr (h1 q hq1 hq2).2.2⟩, rfl, fup_en h3, Or.inr ⟨c, hc, hs, rfl, by show fup _ _ _ _ = fup _ _ _ _; rw [fup_same, fup_same]⟩⟩
theorem agr_atF {L L' : LaS} {c : Nat} (hc : c < n) (hs : S c = true) (h : agr n S L L') : agr n S (atF ft ak l m c L) (atF ft ak l m c L') := by
  obtain ⟨st, off, pu, en, fr, ba⟩ := L
  obtain ⟨st', off', pu', en', fr', ba'⟩ := L'
  obtain ⟨h1, h2, h3, h4⟩ := h
  dsimp only at h1 h2 h3 h4
  cases h2
  exact ⟨fun q hq1 hq2 => ⟨fup_agr (h1 q hq1 hq2).1, (h1 q hq1 hq2).2.1, fup_agr (h1 q hq1 hq2).2.2⟩, rfl, Or.inr ⟨c, hc, hs, rfl, by show fup _ _ _ _ = fup _ _ _ _; rw [fup_same, fup_same]⟩, fup_en h4⟩
theorem agr_at2 {L L' : LaS} {c : Nat} (hc : c < n) (hs : S c = true) (h : agr n S L L') : agr n S (at2 ft ak l m c L) (at2 ft ak l m c L') := by
  obtain ⟨st, off, pu, en, fr, ba⟩ := L
  obtain ⟨st', off', pu', en', fr', ba'⟩ := L'
  obtain ⟨h1, h2, h3, h4⟩ := h
  dsimp only at h1 h2 h3 h4
  cases h2
  exact ⟨fun q hq1 hq2 => ⟨fup_agr (h1 q hq1 hq2).1, (h1 q hq1 hq2).2.1, fup_agr (h1 q hq1 hq2).2.2⟩, rfl, Or.inr ⟨c, hc, hs, rfl, by show fup _ _ _ _ = fup _ _ _ _; rw [fup_same, fup_same]⟩, Or.inr ⟨c, hc, hs, rfl, by show fup _ _ _ _ = fup _ _ _ _; rw [fup_same, fup_same]⟩⟩
theorem cand_S {st : Nat → Int} {c : Nat} (h : candB ft l S m st c = true) : S c = true ∧ st c = -1 ∧ ft 3 c ≤ m ∧ fitB (ft 5 c) (ft 1 c) l = true := by
  unfold candB at h
  rw [Bool.and_eq_true, Bool.and_eq_true, Bool.and_eq_true, decide_eq_true_eq, decide_eq_true_eq] at h
  exact ⟨h.1.1.1, h.1.1.2, h.1.2, h.2⟩
theorem agr_dr2 {L L' : LaS} (h : agr n S L L') : agr n S (dr2 ft ak n l S m L) (dr2 ft ak n l S m L') := by
  have e : nxtI ft l S m L.1 n = nxtI ft l S m L'.1 n := nxt_congr n (fun c h1 h2 => (h.1 c h1 h2).1)
  unfold dr2
  rw [← e]
  rcases nxt_lt (ft := ft) (l := l) (S := S) (m := m) (st := L.1) n with h1 | ⟨c, h1, h2, h3⟩
  · rw [if_pos h1, if_pos h1]; exact h
  · rw [h2, Int.toNat_natCast, if_neg (show ¬ (c : Int) = -1 by omega), if_neg (show ¬ (c : Int) = -1 by omega)]
    split
    · exact h
    · exact agr_atB h1 (cand_S h3).1 h
theorem agr_dr1 {L L' : LaS} (h : agr n S L L') : agr n S (dr1 ft ak eg n l S m L) (dr1 ft ak eg n l S m L') := by
  have e : nxtI ft l S m L.1 n = nxtI ft l S m L'.1 n := nxt_congr n (fun c h1 h2 => (h.1 c h1 h2).1)
  unfold dr1
  rw [← e, ← h.2.1]
  by_cases hb : L.2.2.2.2.2 ≠ -1
  · rw [if_pos hb, if_pos hb]; exact h
  · rw [if_neg hb, if_neg hb]
    rcases nxt_lt (ft := ft) (l := l) (S := S) (m := m) (st := L.1) n with h1 | ⟨c, h1, h2, h3⟩
    · rw [if_pos h1, if_pos h1]; exact h
    · rw [h2, Int.toNat_natCast, if_neg (show ¬ (c : Int) = -1 by omega), if_neg (show ¬ (c : Int) = -1 by omega)]
      have hs := (cand_S h3).1
      split
      · split
        · exact agr_at2 h1 hs h
        · exact h
      · split
        · exact agr_dr2 (agr_atF h1 hs h)
        · exact agr_atB h1 hs h
theorem agr_run {L L' : LaS} (h : agr n S L L') : ∀ k, agr n S (runI ft ak eg n l S L k) (runI ft ak eg n l S L' k)
  | 0 => h
  | k + 1 => agr_dr1 (agr_lvB (agr_lvF (agr_run h k)))
/-- what isn't in the set stays -/
def outS (n : Nat) (S : Nat → Bool) (L L' : LaS) : Prop := (∀ c, ¬ (c < n ∧ S c = true) → L'.1 c = L.1 c ∧ L'.2.1 c = L.2.1 c ∧ L'.2.2.1 c = L.2.2.1 c) ∧ (L'.2.2.2.2.1 = -1 ∨ ∃ c : Nat, c < n ∧ S c = true ∧ L'.2.2.2.2.1 = (c : Int)) ∧ (L'.2.2.2.2.2 = -1 ∨ ∃ c : Nat, c < n ∧ S c = true ∧ L'.2.2.2.2.2 = (c : Int))
end SP
