/-! PARSE 4: the reference's tokens -/
theorem b01 {p : Prop} [Decidable p] {A B : Rs} : (if (if p then (1 : Int) else 0) = 0 then A else B) = if p then B else A := by
  by_cases h : p
  · rw [if_pos h, if_pos h, if_neg (by decide)]
  · rw [if_neg h, if_neg h, if_pos rfl]
section RS
variable {b : Nat → Int} {sz t p q e : Nat} {s : Sg} {d : Nat}
def bytR (b : Nat → Int) (sz t : Nat) (s : Sg) : Prop := s 32 0 16 = ((160 * t : Nat) : Int) ∧ s 32 0 17 = (sz : Int) ∧ sz ≤ 160 ∧ t < 6 ∧ (∀ i, i < sz → s 33 0 (160 * t + i) = b i) ∧ (∀ i, i < sz → 0 ≤ b i ∧ b i ≤ 255)
def frN (s s' : Sg) : Prop := ∀ c j i, ¬ (c = 32 ∧ j = 0 ∧ 18 ≤ i ∧ i ≤ 21) → s' c j i = s c j i
theorem frN_refl (s : Sg) : frN s s := fun _ _ _ _ => rfl
theorem frN_r {s s' : Sg} {k : Nat} {v : Int} (h : frN s s') (hk : 18 ≤ k ∧ k ≤ 21) : frN s (up s' 32 0 k v) := fun c j i hn => by
  rw [up_ap, if_neg (fun q => hn ⟨q.1, q.2.1, by omega⟩)]
  exact h c j i hn
theorem bytR_fr {s' : Sg} (h : bytR b sz t s) (hf : frN s s') : bytR b sz t s' := ⟨(hf 32 0 16 (by omega)).trans h.1, (hf 32 0 17 (by omega)).trans h.2.1, h.2.2.1, h.2.2.2.1, fun i hi => (hf 33 0 _ (by omega)).trans (h.2.2.2.2.1 i hi), h.2.2.2.2.2⟩
theorem bytR_up {k : Nat} {v : Int} (h : bytR b sz t s) (hk : 18 ≤ k ∧ k ≤ 21) : bytR b sz t (up s 32 0 k v) := bytR_fr h (frN_r (frN_refl s) hk)
theorem in_ok {x a c : Int} : RUN d mX9_in [vl x, vl a, vl c] s = some (some (vi (if a ≤ x ∧ x ≤ c then 1 else 0)), s) := by
  rw [qX9_in]
  have h1 := lcmp_lt x a
  have h2 := lcmp_gt x c
  by_cases q1 : x < a
  · rw [if_pos (h1.mpr q1), if_neg (by omega)]
  · rw [if_neg (fun h => q1 (h1.mp h))]
    by_cases q2 : c < x
    · rw [if_pos (h2.mpr q2), if_neg (by omega)]
    · rw [if_neg (fun h => q2 (h2.mp h)), if_pos (by omega)]
def bAt (b : Nat → Int) (sz p : Nat) : Int := if p < sz then b p else -1
theorem byteR (hb : bytR b sz t s) (hp : p ≤ 400) : RUN d mX9_byteAt [vr 32 0, vi (p : Int)] s = some (some (vi (bAt b sz p)), s) := by
  obtain ⟨h1, h2, h3, h4, h5, h6⟩ := hb
  rw [qX9_byteAt, h1, h2]
  unfold bAt
  by_cases h : p < sz
  · rw [if_pos (show (p : Int) < (sz : Int) by omega), if_pos h, w32_id (by omega) (by omega), show ((160 * t : Nat) : Int) + (p : Int) = ((160 * t + p : Nat) : Int) by omega, Int.toNat_natCast, if_pos (show inb ((160 * t + p : Nat) : Int) 960 by constructor <;> omega), h5 p h]
  · rw [if_neg (show ¬ (p : Int) < (sz : Int) by omega), if_neg h]
theorem skipR {z1 z2 : PV} : ∀ (k p : Nat) (s : Sg), sz - p = k → bytR b sz t s → s 32 0 18 = (p : Int) → p ≤ sz → EV (d + 1) mX9_next (0, [vr 32 0, z1, z2], [], s) = EV (d + 1) mX9_next (0, [vr 32 0, z1, z2], [], up s 32 0 18 ((scan blk b sz p : Nat) : Int)) := by
  intro k
  induction k with
  | zero =>
    intro p s hk hb hp hz
    rw [scan_out (by omega), up_eq hp]
  | succ k ih =>
    intro p s hk hb hp hz
    have hlt : p < sz := by omega
    have h160 := hb.2.2.1
    by_cases hbl : blk (b p) = true
    · have hgo : EV (d + 1) mX9_next (26, [vr 32 0, z1, z2], [], s) = EV (d + 1) mX9_next (0, [vr 32 0, z1, z2], [], up s 32 0 18 ((scan blk b sz p : Nat) : Int)) := by
        rw [qX9_next_26, hp, w32_id (by omega) (by omega), ih (p + 1) _ (by omega) (bytR_up hb (by omega)) (by rw [up_hit]; omega) (by omega), up_up, scan_in hlt hbl]
      rw [← hgo, qX9_next_0, hp, byteR hb (by omega), bI_s]
      have e : bAt b sz p = b p := if_pos hlt
      rw [e]
      unfold blk at hbl
      rw [decide_eq_true_eq] at hbl
      by_cases h1 : b p = 32
      · rw [if_pos h1]
      · rw [if_neg h1, hp, byteR hb (by omega), bI_s, e, if_pos (by omega)]
    · rw [scan_out (fun q => hbl q.2), up_eq hp]
theorem lettersR {z1 z2 : PV} : ∀ (k p : Nat) (s : Sg), sz - p = k → bytR b sz t s → s 32 0 18 = (p : Int) → p ≤ sz → EV (d + 1) mX9_next (100, [vr 32 0, z1, z2], [], s) = some (none, up s 32 0 18 ((scan ltr b sz p : Nat) : Int)) := by
  intro k
  induction k with
  | zero =>
    intro p s hk hb hp hz
    have h160 := hb.2.2.1
    rw [qX9_next_100, hp, byteR hb (by omega), bI_s, in_ok, bI_s, show bAt b sz p = -1 from if_neg (by omega), b01, if_neg (by decide), scan_out (by omega), up_eq hp]
  | succ k ih =>
    intro p s hk hb hp hz
    have hlt : p < sz := by omega
    have h160 := hb.2.2.1
    rw [qX9_next_100, hp, byteR hb (by omega), bI_s, in_ok, bI_s, show bAt b sz p = b p from if_pos hlt]
    by_cases h1 : ltr (b p) = true
    · rw [b01, if_pos (ltr_rg h1), hp, w32_id (by omega) (by omega), ih (p + 1) _ (by omega) (bytR_up hb (by omega)) (by rw [up_hit]; omega) (by omega), up_up, scan_in hlt h1]
    · rw [b01, if_neg (fun h => h1 (by unfold ltr; rw [decide_eq_true_eq]; exact h)), scan_out (fun q => h1 q.2), up_eq hp]
theorem digitsR {z1 : PV} : ∀ (k p : Nat) (s : Sg), sz - p = k → bytR b sz t s → s 32 0 18 = (p : Int) → q ≤ p → p ≤ sz → (∀ i, q ≤ i → i < p → dgt (b i) = true) → (p - q ≤ 4 → s 32 0 21 = numv b q (p - q)) → ∃ v : Int, (scan dgt b sz p - q ≤ 4 → v = numv b q (scan dgt b sz p - q)) ∧ EV (d + 1) mX9_next (160, [vr 32 0, z1, vi ((p - q : Nat) : Int)], [], s) = some (none, up (up (up s 32 0 21 v) 32 0 18 ((scan dgt b sz p : Nat) : Int)) 32 0 19 (if 4 < scan dgt b sz p - q then 4 else 2)) := by
  intro k
  induction k with
  | zero =>
    intro p s hk hb hp hqp hz hd hv
    have h160 := hb.2.2.1
    refine ⟨s 32 0 21, by rw [scan_out (by omega)]; exact hv, ?_⟩
    rw [qX9_next_160, hp, byteR hb (by omega), bI_s, in_ok, bI_s, show bAt b sz p = -1 from if_neg (by omega), b01, if_neg (by decide), scan_out (by omega), up_same, up_eq hp]
    by_cases h : 4 < p - q
    · rw [if_pos (by omega), if_pos h]
    · rw [if_neg (by omega), if_neg h]
  | succ k ih =>
    intro p s hk hb hp hqp hz hd hv
    have hlt : p < sz := by omega
    have h160 := hb.2.2.1
    have eb : bAt b sz p = b p := if_pos hlt
    by_cases h1 : dgt (b p) = true
    · have hr := dgt_rg h1
      have step : ∀ w : Int, (p + 1 - q ≤ 4 → w = numv b q (p + 1 - q)) → ∃ v : Int, (scan dgt b sz p - q ≤ 4 → v = numv b q (scan dgt b sz p - q)) ∧ EV (d + 1) mX9_next (216, [vr 32 0, z1, vi ((p - q : Nat) : Int)], [vl w, vr 32 0], s) = some (none, up (up (up s 32 0 21 v) 32 0 18 ((scan dgt b sz p : Nat) : Int)) 32 0 19 (if 4 < scan dgt b sz p - q then 4 else 2)) := by
        intro w hw
        obtain ⟨s1, hs1, hb1, h18, h21⟩ : ∃ s1, up (up s 32 0 21 w) 32 0 18 ((p : Int) + 1) = s1 ∧ bytR b sz t s1 ∧ s1 32 0 18 = ((p + 1 : Nat) : Int) ∧ s1 32 0 21 = w := ⟨_, rfl, bytR_up (bytR_up hb (by omega)) (by omega), by rw [up_hit]; omega, by rw [up_i (by decide), up_hit]⟩
        obtain ⟨v, hv1, hv2⟩ := ih (p + 1) s1 (by omega) hb1 h18 (by omega) (by omega)
          (fun i h2 h3 => by
            by_cases e : i = p
            · rw [e]; exact h1
            · exact hd i h2 (by omega))
          (fun h4 => by rw [h21]; exact hw h4)
        refine ⟨v, by rw [scan_in hlt h1]; exact hv1, ?_⟩
        rw [qX9_next_216, hp, w32_id (by omega) (by omega), w32_id (by omega) (by omega), hs1, show ((p - q : Nat) : Int) + 1 = ((p + 1 - q : Nat) : Int) by omega, hv2, scan_in hlt h1, ← hs1]
        have e1 : up (up (up (up s 32 0 21 w) 32 0 18 ((p : Int) + 1)) 32 0 21 v) 32 0 18 ((scan dgt b sz (p + 1) : Nat) : Int) = up (up s 32 0 21 v) 32 0 18 ((scan dgt b sz (p + 1) : Nat) : Int) := by
          funext c j i
          simp only [up_ap]
          by_cases h3 : c = 32 ∧ j = 0 ∧ i = 18
          · simp only [if_pos h3]
          · by_cases h6 : c = 32 ∧ j = 0 ∧ i = 21
            · simp only [if_pos h6, if_neg h3]
            · simp only [if_neg h6, if_neg h3]
        rw [e1]
      by_cases h4 : p - q < 4
      · have hv' := hv (by omega)
        have hn := numv_rg (b := b) (q := q) (k := p - q) (by omega) (fun i hi => dgt_rg (hd (q + i) (by omega) (by omega)))
        have hn2 := hn.2.2 (by omega)
        obtain ⟨v, hv1, hv2⟩ := step (10 * numv b q (p - q) + b p - 48) (fun h5 => by rw [show p + 1 - q = (p - q) + 1 by omega, numv, show q + (p - q) = p by omega])
        refine ⟨v, hv1, ?_⟩
        rw [qX9_next_160, hp, byteR hb (by omega), bI_s, in_ok, bI_s, eb, b01, if_pos hr, if_pos (by omega), hp, byteR hb (by omega), bI_s, eb, hv', w64_id (x := 10 * numv b q (p - q)) (by omega) (by omega), w64_id (x := 10 * numv b q (p - q) + b p) (by omega) (by omega), w64_id (by omega) (by omega), hv2]
      · obtain ⟨v, hv1, hv2⟩ := step (s 32 0 21) (fun h5 => by omega)
        refine ⟨v, hv1, ?_⟩
        rw [qX9_next_160, hp, byteR hb (by omega), bI_s, in_ok, bI_s, eb, b01, if_pos hr, if_neg (by omega), hv2]
    · refine ⟨s 32 0 21, by rw [scan_out (fun q => h1 q.2)]; exact hv, ?_⟩
      rw [qX9_next_160, hp, byteR hb (by omega), bI_s, in_ok, bI_s, eb, b01, if_neg (fun h => h1 (by unfold dgt; rw [decide_eq_true_eq]; exact h)), scan_out (fun q => h1 q.2), up_same, up_eq hp]
      by_cases h : 4 < p - q
      · rw [if_pos (by omega), if_pos h]
      · rw [if_neg (by omega), if_neg h]
end RS
