/-! PARSE 3: the class's step -/
section CS
variable {b : Nat → Int} {sz p q e : Nat} {s : Sg} {d : Nat}
theorem numv_rg {k : Nat} (hk : k ≤ 4) (h : ∀ i, i < k → 48 ≤ b (q + i) ∧ b (q + i) ≤ 57) : 0 ≤ numv b q k ∧ numv b q k ≤ 9999 ∧ (k ≤ 3 → numv b q k ≤ 999) := by
  have h0 := h 0
  have h1 := h 1
  have h2 := h 2
  have h3 := h 3
  match k, hk with
  | 0, _ =>
    show (0 : Int) ≤ 0 ∧ (0 : Int) ≤ 9999 ∧ (0 ≤ 3 → (0 : Int) ≤ 999)
    exact ⟨by decide, by decide, fun _ => by decide⟩
  | 1, _ => simp only [numv]; omega
  | 2, _ => simp only [numv]; omega
  | 3, _ => simp only [numv]; omega
  | 4, _ => simp only [numv]; omega
theorem dgt_rg {x : Int} (h : dgt x = true) : 48 ≤ x ∧ x ≤ 57 := by unfold dgt at h; rw [decide_eq_true_eq] at h; exact h
theorem ltr_rg {x : Int} (h : ltr x = true) : 97 ≤ x ∧ x ≤ 122 := by unfold ltr at h; rw [decide_eq_true_eq] at h; exact h
theorem numC : ∀ (k p : Nat) (s : Sg), sz - p = k → bytC b sz s → s 11 0 5 = (q : Int) → s 11 0 3 = (p : Int) → q ≤ p → p ≤ sz → (∀ i, q ≤ i → i < p → dgt (b i) = true) → (p - q ≤ 4 → s 11 0 6 = numv b q (p - q)) → ∃ v : Int, (scan dgt b sz p - q ≤ 4 → v = numv b q (scan dgt b sz p - q)) ∧ EV (d + 1) mX4_stepNumeral (5, [vr 11 0], [], s) = EV (d + 1) mX4_stepNumeral (64, [vr 11 0], [], up (up s 11 0 6 v) 11 0 3 ((scan dgt b sz p : Nat) : Int)) := by
  intro k
  induction k with
  | zero =>
    intro p s hk hb hq hp hqp hz hd hv
    refine ⟨s 11 0 6, ?_, ?_⟩
    · rw [scan_out (by omega)]; exact hv
    · rw [qX4_stepNumeral_5, if_neg (show ¬ s 11 0 3 < s 11 0 2 by rw [hp, hb.1]; omega), scan_out (by omega), up_same, up_eq hp]
  | succ k ih =>
    intro p s hk hb hq hp hqp hz hd hv
    have hlt : p < sz := by omega
    have h160 := hb.2.1
    by_cases h1 : dgt (b p) = true
    · have hr := dgt_rg h1
      obtain ⟨v, hv1, hv2⟩ := ih (p + 1) (up (up s 11 0 6 (w32 (w32 (w32 (s 11 0 6 * 10) + b p) - 48))) 11 0 3 ((p : Int) + 1)) (by omega) (bytC_up (bytC_up hb (by omega)) (by omega)) hq (by rw [up_ap, if_pos ⟨rfl, rfl, rfl⟩]; omega) (by omega) (by omega)
        (fun i h2 h3 => by
          by_cases e : i = p
          · rw [e]; exact h1
          · exact hd i h2 (by omega))
        (fun h4 => by
          have hv' := hv (by omega)
          have hn := numv_rg (b := b) (q := q) (k := p - q) (by omega) (fun i hi => dgt_rg (hd (q + i) (by omega) (by omega)))
          have hn2 := hn.2.2 (by omega)
          rw [up_ap, if_neg (by omega), up_ap, if_pos ⟨rfl, rfl, rfl⟩, hv', show p + 1 - q = (p - q) + 1 by omega, numv, w32_id (x := numv b q (p - q) * 10) (by omega) (by omega), w32_id (x := numv b q (p - q) * 10 + b p) (by omega) (by omega), w32_id (by omega) (by omega), show q + (p - q) = p by omega]
          omega)
      refine ⟨v, by rw [scan_in hlt h1]; exact hv1, ?_⟩
      rw [qX4_stepNumeral_5, if_pos (show s 11 0 3 < s 11 0 2 by rw [hp, hb.1]; omega), hp, digC_ok (by omega), bI_s, hb.2.2.1 p hlt, if_pos h1, if_neg (by decide), hp, Int.toNat_natCast, if_pos (show inb (p : Int) 160 by constructor <;> omega), hb.2.2.1 p hlt, w32_id (x := (p : Int) + 1) (by omega) (by omega), hv2, scan_in hlt h1]
      have e1 : up (up (up (up s 11 0 6 (w32 (w32 (w32 (s 11 0 6 * 10) + b p) - 48))) 11 0 3 ((p : Int) + 1)) 11 0 6 v) 11 0 3 ((scan dgt b sz (p + 1) : Nat) : Int) = up (up s 11 0 6 v) 11 0 3 ((scan dgt b sz (p + 1) : Nat) : Int) := by
        funext c j i
        simp only [up_ap]
        by_cases h3 : c = 11 ∧ j = 0 ∧ i = 3
        · simp only [if_pos h3]
        · by_cases h6 : c = 11 ∧ j = 0 ∧ i = 6
          · simp only [if_pos h6, if_neg h3]
          · simp only [if_neg h6, if_neg h3]
      rw [e1]
    · refine ⟨s 11 0 6, ?_, ?_⟩
      · rw [scan_out (fun q => h1 q.2)]; exact hv
      · rw [qX4_stepNumeral_5, if_pos (show s 11 0 3 < s 11 0 2 by rw [hp, hb.1]; omega), hp, digC_ok (by omega), bI_s, hb.2.2.1 p hlt, if_neg h1, if_pos rfl, scan_out (fun q => h1 q.2), up_same, up_eq hp]
theorem stepNumC (hb : bytC b sz s) (hq : s 11 0 5 = (q : Int)) (hp : s 11 0 3 = (q : Int)) (hz : q ≤ sz) : ∃ v : Int, (scan dgt b sz q - q ≤ 4 → v = tnF b sz q) ∧ RUN (d + 1) mX4_stepNumeral [vr 11 0] s = some (none, up (up (up s 11 0 6 v) 11 0 3 ((scan dgt b sz q : Nat) : Int)) 11 0 4 (if 4 < scan dgt b sz q - q then 14 else 12)) := by
  obtain ⟨v, h1, h2⟩ := numC (d := d) (b := b) (sz := sz) (q := q) _ q (up s 11 0 6 0) rfl (bytC_up hb (by omega)) hq hp (Nat.le_refl _) hz (fun i h1 h2 => by omega) (fun _ => by rw [Nat.sub_self]; rfl)
  refine ⟨v, h1, ?_⟩
  have hs := scan_le (P := dgt) (b := b) hz
  have hg := scan_ge (P := dgt) (b := b) (sz := sz) (p := q)
  have h160 := hb.2.1
  rw [qX4_stepNumeral, h2, up_up, qX4_stepNumeral_64]
  have e3 : up (up s 11 0 6 v) 11 0 3 ((scan dgt b sz q : Nat) : Int) 11 0 3 = ((scan dgt b sz q : Nat) : Int) := rfl
  have e5 : up (up s 11 0 6 v) 11 0 3 ((scan dgt b sz q : Nat) : Int) 11 0 5 = (q : Int) := hq
  rw [e3, e5, w32_id (by omega) (by omega)]
  by_cases h : 4 < scan dgt b sz q - q
  · rw [if_pos h, if_pos (by omega)]
  · rw [if_neg h, if_neg (by omega)]
end CS
