/-! PARSE 6: the reference's words -/
section RS
variable {b : Nat → Int} {sz t p q e : Nat} {s : Sg} {d : Nat}
abbrev Lt (b : Nat → Int) (q e i : Nat) (x : Int) : Prop := (q + i < e ∧ b (q + i) = x) ∨ (e ≤ q + i ∧ x = 0)
theorem letR {i : Nat} {x : Int} (hb : bytR b sz t s) (hq : s 32 0 20 = (q : Int)) (he : s 32 0 18 = (e : Int)) (hez : e ≤ sz) (hqz : q ≤ 200) (hi : i ≤ 8) : RUN (d + 1) mX9_isLetter [vr 32 0, vi (i : Int), vi x] s = some (some (vi (if Lt b q e i x then 1 else 0)), s) := by
  rw [qX9_isLetter, hq, he, w32_id (by omega) (by omega), show (q : Int) + (i : Int) = ((q + i : Nat) : Int) by omega]
  by_cases h : q + i < e
  · rw [if_pos (by omega), byteR hb (by omega), bI_s, show bAt b sz (q + i) = b (q + i) from if_pos (by omega)]
    by_cases h2 : b (q + i) = x
    · rw [if_pos h2, if_pos (by omega)]
    · rw [if_neg h2, if_neg (by omega)]
  · rw [if_neg (by omega)]
    by_cases h2 : x = 0
    · rw [if_pos h2, if_pos (by omega)]
    · rw [if_neg h2, if_neg (by omega)]
theorem b01' {p : Prop} [Decidable p] {A B : Rs} : (if (if p then (1 : Int) else 0) = 0 then A else B) = if p then B else A := b01
theorem wordG {x0 x1 x2 x3 x4 x5 x6 x7 : Int} (hb : bytR b sz t s) (h0 : s 32 0 23 = 0) (h1 : s 32 0 19 = 1) (hq : s 32 0 20 = (q : Int)) (he : s 32 0 18 = (e : Int)) (hez : e ≤ sz) (hqz : q ≤ 200) : RUN (d + 2) mX9_isWord [vr 32 0, vi x0, vi x1, vi x2, vi x3, vi x4, vi x5, vi x6, vi x7] s = some (some (vi (if e ≤ q + 8 ∧ Lt b q e 0 x0 ∧ Lt b q e 1 x1 ∧ Lt b q e 2 x2 ∧ Lt b q e 3 x3 ∧ Lt b q e 4 x4 ∧ Lt b q e 5 x5 ∧ Lt b q e 6 x6 ∧ Lt b q e 7 x7 then 1 else 0)), s) := by
  have h160 := hb.2.2.1
  rw [qX9_isWord, if_pos h0, if_pos h1, hq, he, w32_id (by omega) (by omega)]
  by_cases h8 : e ≤ q + 8
  · rw [if_neg (by omega)]
    rw [show RUN (d + 1) mX9_isLetter [vr 32 0, vi 0, vi x0] s = _ from letR (i := 0) hb hq he hez hqz (by omega), bI_s, b01]
    by_cases c0 : Lt b q e 0 x0
    · rw [if_pos c0]
      rw [show RUN (d + 1) mX9_isLetter [vr 32 0, vi 1, vi x1] s = _ from letR (i := 1) hb hq he hez hqz (by omega), bI_s, b01]
      by_cases c1 : Lt b q e 1 x1
      · rw [if_pos c1]
        rw [show RUN (d + 1) mX9_isLetter [vr 32 0, vi 2, vi x2] s = _ from letR (i := 2) hb hq he hez hqz (by omega), bI_s, b01]
        by_cases c2 : Lt b q e 2 x2
        · rw [if_pos c2]
          rw [show RUN (d + 1) mX9_isLetter [vr 32 0, vi 3, vi x3] s = _ from letR (i := 3) hb hq he hez hqz (by omega), bI_s, b01]
          by_cases c3 : Lt b q e 3 x3
          · rw [if_pos c3]
            rw [show RUN (d + 1) mX9_isLetter [vr 32 0, vi 4, vi x4] s = _ from letR (i := 4) hb hq he hez hqz (by omega), bI_s, b01]
            by_cases c4 : Lt b q e 4 x4
            · rw [if_pos c4]
              rw [show RUN (d + 1) mX9_isLetter [vr 32 0, vi 5, vi x5] s = _ from letR (i := 5) hb hq he hez hqz (by omega), bI_s, b01]
              by_cases c5 : Lt b q e 5 x5
              · rw [if_pos c5]
                rw [show RUN (d + 1) mX9_isLetter [vr 32 0, vi 6, vi x6] s = _ from letR (i := 6) hb hq he hez hqz (by omega), bI_s, b01]
                by_cases c6 : Lt b q e 6 x6
                · rw [if_pos c6]
                  rw [show RUN (d + 1) mX9_isLetter [vr 32 0, vi 7, vi x7] s = _ from letR (i := 7) hb hq he hez hqz (by omega), bI_s, b01]
                  by_cases c7 : Lt b q e 7 x7
                  · rw [if_pos c7]
                    rw [if_pos ⟨h8, c0, c1, c2, c3, c4, c5, c6, c7⟩]
                  · rw [if_neg c7, if_neg (fun h => c7 h.2.2.2.2.2.2.2.2)]
                · rw [if_neg c6, if_neg (fun h => c6 h.2.2.2.2.2.2.2.1)]
              · rw [if_neg c5, if_neg (fun h => c5 h.2.2.2.2.2.2.1)]
            · rw [if_neg c4, if_neg (fun h => c4 h.2.2.2.2.2.1)]
          · rw [if_neg c3, if_neg (fun h => c3 h.2.2.2.2.1)]
        · rw [if_neg c2, if_neg (fun h => c2 h.2.2.2.1)]
      · rw [if_neg c1, if_neg (fun h => c1 h.2.2.1)]
    · rw [if_neg c0, if_neg (fun h => c0 h.2.1)]
  · rw [if_pos (by omega), if_neg (fun h => h8 h.1)]
theorem wordN {x0 x1 x2 x3 x4 x5 x6 x7 : Int} (h : s 32 0 23 = 1 ∨ s 32 0 19 ≠ 1) : RUN (d + 2) mX9_isWord [vr 32 0, vi x0, vi x1, vi x2, vi x3, vi x4, vi x5, vi x6, vi x7] s = some (some (vi 0), s) := by
  rw [qX9_isWord]
  by_cases h0 : s 32 0 23 = 0
  · rw [if_pos h0, if_neg (by omega)]
  · rw [if_neg h0]
theorem wlq_of {b : Nat → Int} : ∀ (n p k : Nat), (∀ i, i < n → b (p + i) = sv 59 (k + i)) → wlq b p k n = true
  | 0, _, _, _ => rfl
  | n + 1, p, k, h => by
    rw [wlq, Bool.and_eq_true, decide_eq_true_eq]
    refine ⟨(h 0 (by omega)).symm, wlq_of n (p + 1) (k + 1) (fun i hi => ?_)⟩
    have := h (i + 1) (by omega)
    rw [show p + 1 + i = p + (i + 1) by omega, show k + 1 + i = k + (i + 1) by omega]
    exact this
theorem wm_iff {f u : Nat} : wm b q e f u = true ↔ (e - q = u - f ∧ ∀ i, i < u - f → b (q + i) = sv 59 (f + i)) := by
  unfold wm
  rw [Bool.and_eq_true, decide_eq_true_eq]
  exact ⟨fun h => ⟨h.1, wlq_get _ _ _ h.2⟩, fun h => ⟨h.1, wlq_of _ _ _ h.2⟩⟩
theorem wq_0 (hL : ∀ i, q ≤ i → i < e → 97 ≤ b i) : (e ≤ q + 8 ∧ Lt b q e 0 99 ∧ Lt b q e 1 97 ∧ Lt b q e 2 112 ∧ Lt b q e 3 0 ∧ Lt b q e 4 0 ∧ Lt b q e 5 0 ∧ Lt b q e 6 0 ∧ Lt b q e 7 0) ↔ wm b q e 0 3 = true := by
  rw [wm_iff]
  constructor
  · rintro ⟨h8, a0, a1, a2, a3, a4, a5, a6, a7⟩
    have hx := hL (q + 3)
    have en : e - q = 3 := by omega
    refine ⟨en, fun i hi => ?_⟩
    have hi' : i = 0 ∨ i = 1 ∨ i = 2 := by omega
    rcases hi' with rfl | rfl | rfl
    · show b (q + 0) = 99
      omega
    · show b (q + 1) = 97
      omega
    · show b (q + 2) = 112
      omega
  · rintro ⟨h1, h2⟩
    have en : e - q = 3 := h1
    have a0 : b (q + 0) = 99 := h2 0 (by decide)
    have a1 : b (q + 1) = 97 := h2 1 (by decide)
    have a2 : b (q + 2) = 112 := h2 2 (by decide)
    refine ⟨by omega, by omega, by omega, by omega, by omega, by omega, by omega, by omega, by omega⟩
theorem word_0 (hb : bytR b sz t s) (hh : HR b sz p s) (h0 : s 32 0 23 = 0) (hz : p ≤ sz) : RUN (d + 2) mX9_isWord [vr 32 0, vi 99, vi 97, vi 112, vi 0, vi 0, vi 0, vi 0, vi 0] s = some (some (vi (if tkC b sz p = 0 then 1 else 0)), s) := by
  have hbl : tkB b sz p ≤ sz := scan_le (P := blk) (b := b) hz
  have h160 := hb.2.2.1
  unfold HR at hh
  unfold tkC
  generalize tkB b sz p = q at hh hbl ⊢
  obtain ⟨h1, h2, h3, h4, h5⟩ := hh
  rcases tk_c b sz q with h | h | h | h | h
  · rw [wordN (Or.inr (by omega)), if_neg (by omega)]
  · obtain ⟨g1, g2, g3, g4, g5, g6⟩ := h
    rw [wordG hb h0 (by rw [h1]; exact g1) h2 (h3 (by omega)) g6 (by omega), g3]
    by_cases hw : wm b q (teF b sz q) 0 3 = true
    · rw [if_pos ((wq_0 g4).mpr hw), if_pos ((wc_0 b q _).mpr hw)]
    · rw [if_neg (fun x => hw ((wq_0 g4).mp x)), if_neg (fun x => hw ((wc_0 b q _).mp x))]
  · rw [wordN (Or.inr (by omega)), if_neg (by omega)]
  · rw [wordN (Or.inr (by omega)), if_neg (by omega)]
  · rw [wordN (Or.inr (by omega)), if_neg (by omega)]
theorem wq_1 (hL : ∀ i, q ≤ i → i < e → 97 ≤ b i) : (e ≤ q + 8 ∧ Lt b q e 0 108 ∧ Lt b q e 1 97 ∧ Lt b q e 2 110 ∧ Lt b q e 3 101 ∧ Lt b q e 4 0 ∧ Lt b q e 5 0 ∧ Lt b q e 6 0 ∧ Lt b q e 7 0) ↔ wm b q e 4 8 = true := by
  rw [wm_iff]
  constructor
  · rintro ⟨h8, a0, a1, a2, a3, a4, a5, a6, a7⟩
    have hx := hL (q + 4)
    have en : e - q = 4 := by omega
    refine ⟨en, fun i hi => ?_⟩
    have hi' : i = 0 ∨ i = 1 ∨ i = 2 ∨ i = 3 := by omega
    rcases hi' with rfl | rfl | rfl | rfl
    · show b (q + 0) = 108
      omega
    · show b (q + 1) = 97
      omega
    · show b (q + 2) = 110
      omega
    · show b (q + 3) = 101
      omega
  · rintro ⟨h1, h2⟩
    have en : e - q = 4 := h1
    have a0 : b (q + 0) = 108 := h2 0 (by decide)
    have a1 : b (q + 1) = 97 := h2 1 (by decide)
    have a2 : b (q + 2) = 110 := h2 2 (by decide)
    have a3 : b (q + 3) = 101 := h2 3 (by decide)
    refine ⟨by omega, by omega, by omega, by omega, by omega, by omega, by omega, by omega, by omega⟩
theorem word_1 (hb : bytR b sz t s) (hh : HR b sz p s) (h0 : s 32 0 23 = 0) (hz : p ≤ sz) : RUN (d + 2) mX9_isWord [vr 32 0, vi 108, vi 97, vi 110, vi 101, vi 0, vi 0, vi 0, vi 0] s = some (some (vi (if tkC b sz p = 1 then 1 else 0)), s) := by
  have hbl : tkB b sz p ≤ sz := scan_le (P := blk) (b := b) hz
  have h160 := hb.2.2.1
  unfold HR at hh
  unfold tkC
  generalize tkB b sz p = q at hh hbl ⊢
  obtain ⟨h1, h2, h3, h4, h5⟩ := hh
  rcases tk_c b sz q with h | h | h | h | h
  · rw [wordN (Or.inr (by omega)), if_neg (by omega)]
  · obtain ⟨g1, g2, g3, g4, g5, g6⟩ := h
    rw [wordG hb h0 (by rw [h1]; exact g1) h2 (h3 (by omega)) g6 (by omega), g3]
    by_cases hw : wm b q (teF b sz q) 4 8 = true
    · rw [if_pos ((wq_1 g4).mpr hw), if_pos ((wc_1 b q _).mpr hw)]
    · rw [if_neg (fun x => hw ((wq_1 g4).mp x)), if_neg (fun x => hw ((wc_1 b q _).mp x))]
  · rw [wordN (Or.inr (by omega)), if_neg (by omega)]
  · rw [wordN (Or.inr (by omega)), if_neg (by omega)]
  · rw [wordN (Or.inr (by omega)), if_neg (by omega)]
theorem wq_2 (hL : ∀ i, q ≤ i → i < e → 97 ≤ b i) : (e ≤ q + 8 ∧ Lt b q e 0 109 ∧ Lt b q e 1 105 ∧ Lt b q e 2 110 ∧ Lt b q e 3 117 ∧ Lt b q e 4 116 ∧ Lt b q e 5 101 ∧ Lt b q e 6 0 ∧ Lt b q e 7 0) ↔ wm b q e 9 15 = true := by
  rw [wm_iff]
  constructor
  · rintro ⟨h8, a0, a1, a2, a3, a4, a5, a6, a7⟩
    have hx := hL (q + 6)
    have en : e - q = 6 := by omega
    refine ⟨en, fun i hi => ?_⟩
    have hi' : i = 0 ∨ i = 1 ∨ i = 2 ∨ i = 3 ∨ i = 4 ∨ i = 5 := by omega
    rcases hi' with rfl | rfl | rfl | rfl | rfl | rfl
    · show b (q + 0) = 109
      omega
    · show b (q + 1) = 105
      omega
    · show b (q + 2) = 110
      omega
    · show b (q + 3) = 117
      omega
    · show b (q + 4) = 116
      omega
    · show b (q + 5) = 101
      omega
  · rintro ⟨h1, h2⟩
    have en : e - q = 6 := h1
    have a0 : b (q + 0) = 109 := h2 0 (by decide)
    have a1 : b (q + 1) = 105 := h2 1 (by decide)
    have a2 : b (q + 2) = 110 := h2 2 (by decide)
    have a3 : b (q + 3) = 117 := h2 3 (by decide)
    have a4 : b (q + 4) = 116 := h2 4 (by decide)
    have a5 : b (q + 5) = 101 := h2 5 (by decide)
    refine ⟨by omega, by omega, by omega, by omega, by omega, by omega, by omega, by omega, by omega⟩
theorem word_2 (hb : bytR b sz t s) (hh : HR b sz p s) (h0 : s 32 0 23 = 0) (hz : p ≤ sz) : RUN (d + 2) mX9_isWord [vr 32 0, vi 109, vi 105, vi 110, vi 117, vi 116, vi 101, vi 0, vi 0] s = some (some (vi (if tkC b sz p = 2 then 1 else 0)), s) := by
  have hbl : tkB b sz p ≤ sz := scan_le (P := blk) (b := b) hz
  have h160 := hb.2.2.1
  unfold HR at hh
  unfold tkC
  generalize tkB b sz p = q at hh hbl ⊢
  obtain ⟨h1, h2, h3, h4, h5⟩ := hh
  rcases tk_c b sz q with h | h | h | h | h
  · rw [wordN (Or.inr (by omega)), if_neg (by omega)]
  · obtain ⟨g1, g2, g3, g4, g5, g6⟩ := h
    rw [wordG hb h0 (by rw [h1]; exact g1) h2 (h3 (by omega)) g6 (by omega), g3]
    by_cases hw : wm b q (teF b sz q) 9 15 = true
    · rw [if_pos ((wq_2 g4).mpr hw), if_pos ((wc_2 b q _).mpr hw)]
    · rw [if_neg (fun x => hw ((wq_2 g4).mp x)), if_neg (fun x => hw ((wc_2 b q _).mp x))]
  · rw [wordN (Or.inr (by omega)), if_neg (by omega)]
  · rw [wordN (Or.inr (by omega)), if_neg (by omega)]
  · rw [wordN (Or.inr (by omega)), if_neg (by omega)]
theorem wq_3 (hL : ∀ i, q ≤ i → i < e → 97 ≤ b i) : (e ≤ q + 8 ∧ Lt b q e 0 110 ∧ Lt b q e 1 117 ∧ Lt b q e 2 109 ∧ Lt b q e 3 98 ∧ Lt b q e 4 101 ∧ Lt b q e 5 114 ∧ Lt b q e 6 0 ∧ Lt b q e 7 0) ↔ wm b q e 16 22 = true := by
  rw [wm_iff]
  constructor
  · rintro ⟨h8, a0, a1, a2, a3, a4, a5, a6, a7⟩
    have hx := hL (q + 6)
    have en : e - q = 6 := by omega
    refine ⟨en, fun i hi => ?_⟩
    have hi' : i = 0 ∨ i = 1 ∨ i = 2 ∨ i = 3 ∨ i = 4 ∨ i = 5 := by omega
    rcases hi' with rfl | rfl | rfl | rfl | rfl | rfl
    · show b (q + 0) = 110
      omega
    · show b (q + 1) = 117
      omega
    · show b (q + 2) = 109
      omega
    · show b (q + 3) = 98
      omega
    · show b (q + 4) = 101
      omega
    · show b (q + 5) = 114
      omega
  · rintro ⟨h1, h2⟩
    have en : e - q = 6 := h1
    have a0 : b (q + 0) = 110 := h2 0 (by decide)
    have a1 : b (q + 1) = 117 := h2 1 (by decide)
    have a2 : b (q + 2) = 109 := h2 2 (by decide)
    have a3 : b (q + 3) = 98 := h2 3 (by decide)
    have a4 : b (q + 4) = 101 := h2 4 (by decide)
    have a5 : b (q + 5) = 114 := h2 5 (by decide)
    refine ⟨by omega, by omega, by omega, by omega, by omega, by omega, by omega, by omega, by omega⟩
theorem word_3 (hb : bytR b sz t s) (hh : HR b sz p s) (h0 : s 32 0 23 = 0) (hz : p ≤ sz) : RUN (d + 2) mX9_isWord [vr 32 0, vi 110, vi 117, vi 109, vi 98, vi 101, vi 114, vi 0, vi 0] s = some (some (vi (if tkC b sz p = 3 then 1 else 0)), s) := by
  have hbl : tkB b sz p ≤ sz := scan_le (P := blk) (b := b) hz
  have h160 := hb.2.2.1
  unfold HR at hh
  unfold tkC
  generalize tkB b sz p = q at hh hbl ⊢
  obtain ⟨h1, h2, h3, h4, h5⟩ := hh
  rcases tk_c b sz q with h | h | h | h | h
  · rw [wordN (Or.inr (by omega)), if_neg (by omega)]
  · obtain ⟨g1, g2, g3, g4, g5, g6⟩ := h
    rw [wordG hb h0 (by rw [h1]; exact g1) h2 (h3 (by omega)) g6 (by omega), g3]
    by_cases hw : wm b q (teF b sz q) 16 22 = true
    · rw [if_pos ((wq_3 g4).mpr hw), if_pos ((wc_3 b q _).mpr hw)]
    · rw [if_neg (fun x => hw ((wq_3 g4).mp x)), if_neg (fun x => hw ((wc_3 b q _).mp x))]
  · rw [wordN (Or.inr (by omega)), if_neg (by omega)]
  · rw [wordN (Or.inr (by omega)), if_neg (by omega)]
  · rw [wordN (Or.inr (by omega)), if_neg (by omega)]
theorem wq_4 (hL : ∀ i, q ≤ i → i < e → 97 ≤ b i) : (e ≤ q + 8 ∧ Lt b q e 0 97 ∧ Lt b q e 1 104 ∧ Lt b q e 2 101 ∧ Lt b q e 3 97 ∧ Lt b q e 4 100 ∧ Lt b q e 5 0 ∧ Lt b q e 6 0 ∧ Lt b q e 7 0) ↔ wm b q e 23 28 = true := by
  rw [wm_iff]
  constructor
  · rintro ⟨h8, a0, a1, a2, a3, a4, a5, a6, a7⟩
    have hx := hL (q + 5)
    have en : e - q = 5 := by omega
    refine ⟨en, fun i hi => ?_⟩
    have hi' : i = 0 ∨ i = 1 ∨ i = 2 ∨ i = 3 ∨ i = 4 := by omega
    rcases hi' with rfl | rfl | rfl | rfl | rfl
    · show b (q + 0) = 97
      omega
    · show b (q + 1) = 104
      omega
    · show b (q + 2) = 101
      omega
    · show b (q + 3) = 97
      omega
    · show b (q + 4) = 100
      omega
  · rintro ⟨h1, h2⟩
    have en : e - q = 5 := h1
    have a0 : b (q + 0) = 97 := h2 0 (by decide)
    have a1 : b (q + 1) = 104 := h2 1 (by decide)
    have a2 : b (q + 2) = 101 := h2 2 (by decide)
    have a3 : b (q + 3) = 97 := h2 3 (by decide)
    have a4 : b (q + 4) = 100 := h2 4 (by decide)
    refine ⟨by omega, by omega, by omega, by omega, by omega, by omega, by omega, by omega, by omega⟩
theorem word_4 (hb : bytR b sz t s) (hh : HR b sz p s) (h0 : s 32 0 23 = 0) (hz : p ≤ sz) : RUN (d + 2) mX9_isWord [vr 32 0, vi 97, vi 104, vi 101, vi 97, vi 100, vi 0, vi 0, vi 0] s = some (some (vi (if tkC b sz p = 4 then 1 else 0)), s) := by
  have hbl : tkB b sz p ≤ sz := scan_le (P := blk) (b := b) hz
  have h160 := hb.2.2.1
  unfold HR at hh
  unfold tkC
  generalize tkB b sz p = q at hh hbl ⊢
  obtain ⟨h1, h2, h3, h4, h5⟩ := hh
  rcases tk_c b sz q with h | h | h | h | h
  · rw [wordN (Or.inr (by omega)), if_neg (by omega)]
  · obtain ⟨g1, g2, g3, g4, g5, g6⟩ := h
    rw [wordG hb h0 (by rw [h1]; exact g1) h2 (h3 (by omega)) g6 (by omega), g3]
    by_cases hw : wm b q (teF b sz q) 23 28 = true
    · rw [if_pos ((wq_4 g4).mpr hw), if_pos ((wc_4 b q _).mpr hw)]
    · rw [if_neg (fun x => hw ((wq_4 g4).mp x)), if_neg (fun x => hw ((wc_4 b q _).mp x))]
  · rw [wordN (Or.inr (by omega)), if_neg (by omega)]
  · rw [wordN (Or.inr (by omega)), if_neg (by omega)]
  · rw [wordN (Or.inr (by omega)), if_neg (by omega)]
theorem wq_5 (hL : ∀ i, q ≤ i → i < e → 97 ≤ b i) : (e ≤ q + 8 ∧ Lt b q e 0 112 ∧ Lt b q e 1 105 ∧ Lt b q e 2 101 ∧ Lt b q e 3 0 ∧ Lt b q e 4 0 ∧ Lt b q e 5 0 ∧ Lt b q e 6 0 ∧ Lt b q e 7 0) ↔ wm b q e 29 32 = true := by
  rw [wm_iff]
  constructor
  · rintro ⟨h8, a0, a1, a2, a3, a4, a5, a6, a7⟩
    have hx := hL (q + 3)
    have en : e - q = 3 := by omega
    refine ⟨en, fun i hi => ?_⟩
    have hi' : i = 0 ∨ i = 1 ∨ i = 2 := by omega
    rcases hi' with rfl | rfl | rfl
    · show b (q + 0) = 112
      omega
    · show b (q + 1) = 105
      omega
    · show b (q + 2) = 101
      omega
  · rintro ⟨h1, h2⟩
    have en : e - q = 3 := h1
    have a0 : b (q + 0) = 112 := h2 0 (by decide)
    have a1 : b (q + 1) = 105 := h2 1 (by decide)
    have a2 : b (q + 2) = 101 := h2 2 (by decide)
    refine ⟨by omega, by omega, by omega, by omega, by omega, by omega, by omega, by omega, by omega⟩
theorem word_5 (hb : bytR b sz t s) (hh : HR b sz p s) (h0 : s 32 0 23 = 0) (hz : p ≤ sz) : RUN (d + 2) mX9_isWord [vr 32 0, vi 112, vi 105, vi 101, vi 0, vi 0, vi 0, vi 0, vi 0] s = some (some (vi (if tkC b sz p = 5 then 1 else 0)), s) := by
  have hbl : tkB b sz p ≤ sz := scan_le (P := blk) (b := b) hz
  have h160 := hb.2.2.1
  unfold HR at hh
  unfold tkC
  generalize tkB b sz p = q at hh hbl ⊢
  obtain ⟨h1, h2, h3, h4, h5⟩ := hh
  rcases tk_c b sz q with h | h | h | h | h
  · rw [wordN (Or.inr (by omega)), if_neg (by omega)]
  · obtain ⟨g1, g2, g3, g4, g5, g6⟩ := h
    rw [wordG hb h0 (by rw [h1]; exact g1) h2 (h3 (by omega)) g6 (by omega), g3]
    by_cases hw : wm b q (teF b sz q) 29 32 = true
    · rw [if_pos ((wq_5 g4).mpr hw), if_pos ((wc_5 b q _).mpr hw)]
    · rw [if_neg (fun x => hw ((wq_5 g4).mp x)), if_neg (fun x => hw ((wc_5 b q _).mp x))]
  · rw [wordN (Or.inr (by omega)), if_neg (by omega)]
  · rw [wordN (Or.inr (by omega)), if_neg (by omega)]
  · rw [wordN (Or.inr (by omega)), if_neg (by omega)]
theorem wq_6 (hL : ∀ i, q ≤ i → i < e → 97 ≤ b i) : (e ≤ q + 8 ∧ Lt b q e 0 116 ∧ Lt b q e 1 97 ∧ Lt b q e 2 107 ∧ Lt b q e 3 101 ∧ Lt b q e 4 115 ∧ Lt b q e 5 0 ∧ Lt b q e 6 0 ∧ Lt b q e 7 0) ↔ wm b q e 33 38 = true := by
  rw [wm_iff]
  constructor
  · rintro ⟨h8, a0, a1, a2, a3, a4, a5, a6, a7⟩
    have hx := hL (q + 5)
    have en : e - q = 5 := by omega
    refine ⟨en, fun i hi => ?_⟩
    have hi' : i = 0 ∨ i = 1 ∨ i = 2 ∨ i = 3 ∨ i = 4 := by omega
    rcases hi' with rfl | rfl | rfl | rfl | rfl
    · show b (q + 0) = 116
      omega
    · show b (q + 1) = 97
      omega
    · show b (q + 2) = 107
      omega
    · show b (q + 3) = 101
      omega
    · show b (q + 4) = 115
      omega
  · rintro ⟨h1, h2⟩
    have en : e - q = 5 := h1
    have a0 : b (q + 0) = 116 := h2 0 (by decide)
    have a1 : b (q + 1) = 97 := h2 1 (by decide)
    have a2 : b (q + 2) = 107 := h2 2 (by decide)
    have a3 : b (q + 3) = 101 := h2 3 (by decide)
    have a4 : b (q + 4) = 115 := h2 4 (by decide)
    refine ⟨by omega, by omega, by omega, by omega, by omega, by omega, by omega, by omega, by omega⟩
theorem word_6 (hb : bytR b sz t s) (hh : HR b sz p s) (h0 : s 32 0 23 = 0) (hz : p ≤ sz) : RUN (d + 2) mX9_isWord [vr 32 0, vi 116, vi 97, vi 107, vi 101, vi 115, vi 0, vi 0, vi 0] s = some (some (vi (if tkC b sz p = 6 then 1 else 0)), s) := by
  have hbl : tkB b sz p ≤ sz := scan_le (P := blk) (b := b) hz
  have h160 := hb.2.2.1
  unfold HR at hh
  unfold tkC
  generalize tkB b sz p = q at hh hbl ⊢
  obtain ⟨h1, h2, h3, h4, h5⟩ := hh
  rcases tk_c b sz q with h | h | h | h | h
  · rw [wordN (Or.inr (by omega)), if_neg (by omega)]
  · obtain ⟨g1, g2, g3, g4, g5, g6⟩ := h
    rw [wordG hb h0 (by rw [h1]; exact g1) h2 (h3 (by omega)) g6 (by omega), g3]
    by_cases hw : wm b q (teF b sz q) 33 38 = true
    · rw [if_pos ((wq_6 g4).mpr hw), if_pos ((wc_6 b q _).mpr hw)]
    · rw [if_neg (fun x => hw ((wq_6 g4).mp x)), if_neg (fun x => hw ((wc_6 b q _).mp x))]
  · rw [wordN (Or.inr (by omega)), if_neg (by omega)]
  · rw [wordN (Or.inr (by omega)), if_neg (by omega)]
  · rw [wordN (Or.inr (by omega)), if_neg (by omega)]
theorem wq_7 (hL : ∀ i, q ≤ i → i < e → 97 ≤ b i) : (e ≤ q + 8 ∧ Lt b q e 0 102 ∧ Lt b q e 1 111 ∧ Lt b q e 2 114 ∧ Lt b q e 3 119 ∧ Lt b q e 4 97 ∧ Lt b q e 5 114 ∧ Lt b q e 6 100 ∧ Lt b q e 7 115) ↔ wm b q e 39 47 = true := by
  rw [wm_iff]
  constructor
  · rintro ⟨h8, a0, a1, a2, a3, a4, a5, a6, a7⟩
    have en : e - q = 8 := by omega
    refine ⟨en, fun i hi => ?_⟩
    have hi' : i = 0 ∨ i = 1 ∨ i = 2 ∨ i = 3 ∨ i = 4 ∨ i = 5 ∨ i = 6 ∨ i = 7 := by omega
    rcases hi' with rfl | rfl | rfl | rfl | rfl | rfl | rfl | rfl
    · show b (q + 0) = 102
      omega
    · show b (q + 1) = 111
      omega
    · show b (q + 2) = 114
      omega
    · show b (q + 3) = 119
      omega
    · show b (q + 4) = 97
      omega
    · show b (q + 5) = 114
      omega
    · show b (q + 6) = 100
      omega
    · show b (q + 7) = 115
      omega
  · rintro ⟨h1, h2⟩
    have en : e - q = 8 := h1
    have a0 : b (q + 0) = 102 := h2 0 (by decide)
    have a1 : b (q + 1) = 111 := h2 1 (by decide)
    have a2 : b (q + 2) = 114 := h2 2 (by decide)
    have a3 : b (q + 3) = 119 := h2 3 (by decide)
    have a4 : b (q + 4) = 97 := h2 4 (by decide)
    have a5 : b (q + 5) = 114 := h2 5 (by decide)
    have a6 : b (q + 6) = 100 := h2 6 (by decide)
    have a7 : b (q + 7) = 115 := h2 7 (by decide)
    refine ⟨by omega, by omega, by omega, by omega, by omega, by omega, by omega, by omega, by omega⟩
theorem word_7 (hb : bytR b sz t s) (hh : HR b sz p s) (h0 : s 32 0 23 = 0) (hz : p ≤ sz) : RUN (d + 2) mX9_isWord [vr 32 0, vi 102, vi 111, vi 114, vi 119, vi 97, vi 114, vi 100, vi 115] s = some (some (vi (if tkC b sz p = 7 then 1 else 0)), s) := by
  have hbl : tkB b sz p ≤ sz := scan_le (P := blk) (b := b) hz
  have h160 := hb.2.2.1
  unfold HR at hh
  unfold tkC
  generalize tkB b sz p = q at hh hbl ⊢
  obtain ⟨h1, h2, h3, h4, h5⟩ := hh
  rcases tk_c b sz q with h | h | h | h | h
  · rw [wordN (Or.inr (by omega)), if_neg (by omega)]
  · obtain ⟨g1, g2, g3, g4, g5, g6⟩ := h
    rw [wordG hb h0 (by rw [h1]; exact g1) h2 (h3 (by omega)) g6 (by omega), g3]
    by_cases hw : wm b q (teF b sz q) 39 47 = true
    · rw [if_pos ((wq_7 g4).mpr hw), if_pos ((wc_7 b q _).mpr hw)]
    · rw [if_neg (fun x => hw ((wq_7 g4).mp x)), if_neg (fun x => hw ((wc_7 b q _).mp x))]
  · rw [wordN (Or.inr (by omega)), if_neg (by omega)]
  · rw [wordN (Or.inr (by omega)), if_neg (by omega)]
  · rw [wordN (Or.inr (by omega)), if_neg (by omega)]
theorem wq_8 (hL : ∀ i, q ≤ i → i < e → 97 ≤ b i) : (e ≤ q + 8 ∧ Lt b q e 0 109 ∧ Lt b q e 1 105 ∧ Lt b q e 2 110 ∧ Lt b q e 3 100 ∧ Lt b q e 4 115 ∧ Lt b q e 5 0 ∧ Lt b q e 6 0 ∧ Lt b q e 7 0) ↔ wm b q e 48 53 = true := by
  rw [wm_iff]
  constructor
  · rintro ⟨h8, a0, a1, a2, a3, a4, a5, a6, a7⟩
    have hx := hL (q + 5)
    have en : e - q = 5 := by omega
    refine ⟨en, fun i hi => ?_⟩
    have hi' : i = 0 ∨ i = 1 ∨ i = 2 ∨ i = 3 ∨ i = 4 := by omega
    rcases hi' with rfl | rfl | rfl | rfl | rfl
    · show b (q + 0) = 109
      omega
    · show b (q + 1) = 105
      omega
    · show b (q + 2) = 110
      omega
    · show b (q + 3) = 100
      omega
    · show b (q + 4) = 115
      omega
  · rintro ⟨h1, h2⟩
    have en : e - q = 5 := h1
    have a0 : b (q + 0) = 109 := h2 0 (by decide)
    have a1 : b (q + 1) = 105 := h2 1 (by decide)
    have a2 : b (q + 2) = 110 := h2 2 (by decide)
    have a3 : b (q + 3) = 100 := h2 3 (by decide)
    have a4 : b (q + 4) = 115 := h2 4 (by decide)
    refine ⟨by omega, by omega, by omega, by omega, by omega, by omega, by omega, by omega, by omega⟩
theorem word_8 (hb : bytR b sz t s) (hh : HR b sz p s) (h0 : s 32 0 23 = 0) (hz : p ≤ sz) : RUN (d + 2) mX9_isWord [vr 32 0, vi 109, vi 105, vi 110, vi 100, vi 115, vi 0, vi 0, vi 0] s = some (some (vi (if tkC b sz p = 8 then 1 else 0)), s) := by
  have hbl : tkB b sz p ≤ sz := scan_le (P := blk) (b := b) hz
  have h160 := hb.2.2.1
  unfold HR at hh
  unfold tkC
  generalize tkB b sz p = q at hh hbl ⊢
  obtain ⟨h1, h2, h3, h4, h5⟩ := hh
  rcases tk_c b sz q with h | h | h | h | h
  · rw [wordN (Or.inr (by omega)), if_neg (by omega)]
  · obtain ⟨g1, g2, g3, g4, g5, g6⟩ := h
    rw [wordG hb h0 (by rw [h1]; exact g1) h2 (h3 (by omega)) g6 (by omega), g3]
    by_cases hw : wm b q (teF b sz q) 48 53 = true
    · rw [if_pos ((wq_8 g4).mpr hw), if_pos ((wc_8 b q _).mpr hw)]
    · rw [if_neg (fun x => hw ((wq_8 g4).mp x)), if_neg (fun x => hw ((wc_8 b q _).mp x))]
  · rw [wordN (Or.inr (by omega)), if_neg (by omega)]
  · rw [wordN (Or.inr (by omega)), if_neg (by omega)]
  · rw [wordN (Or.inr (by omega)), if_neg (by omega)]
theorem wq_9 (hL : ∀ i, q ≤ i → i < e → 97 ≤ b i) : (e ≤ q + 8 ∧ Lt b q e 0 111 ∧ Lt b q e 1 114 ∧ Lt b q e 2 0 ∧ Lt b q e 3 0 ∧ Lt b q e 4 0 ∧ Lt b q e 5 0 ∧ Lt b q e 6 0 ∧ Lt b q e 7 0) ↔ wm b q e 54 56 = true := by
  rw [wm_iff]
  constructor
  · rintro ⟨h8, a0, a1, a2, a3, a4, a5, a6, a7⟩
    have hx := hL (q + 2)
    have en : e - q = 2 := by omega
    refine ⟨en, fun i hi => ?_⟩
    have hi' : i = 0 ∨ i = 1 := by omega
    rcases hi' with rfl | rfl
    · show b (q + 0) = 111
      omega
    · show b (q + 1) = 114
      omega
  · rintro ⟨h1, h2⟩
    have en : e - q = 2 := h1
    have a0 : b (q + 0) = 111 := h2 0 (by decide)
    have a1 : b (q + 1) = 114 := h2 1 (by decide)
    refine ⟨by omega, by omega, by omega, by omega, by omega, by omega, by omega, by omega, by omega⟩
theorem word_9 (hb : bytR b sz t s) (hh : HR b sz p s) (h0 : s 32 0 23 = 0) (hz : p ≤ sz) : RUN (d + 2) mX9_isWord [vr 32 0, vi 111, vi 114, vi 0, vi 0, vi 0, vi 0, vi 0, vi 0] s = some (some (vi (if tkC b sz p = 9 then 1 else 0)), s) := by
  have hbl : tkB b sz p ≤ sz := scan_le (P := blk) (b := b) hz
  have h160 := hb.2.2.1
  unfold HR at hh
  unfold tkC
  generalize tkB b sz p = q at hh hbl ⊢
  obtain ⟨h1, h2, h3, h4, h5⟩ := hh
  rcases tk_c b sz q with h | h | h | h | h
  · rw [wordN (Or.inr (by omega)), if_neg (by omega)]
  · obtain ⟨g1, g2, g3, g4, g5, g6⟩ := h
    rw [wordG hb h0 (by rw [h1]; exact g1) h2 (h3 (by omega)) g6 (by omega), g3]
    by_cases hw : wm b q (teF b sz q) 54 56 = true
    · rw [if_pos ((wq_9 g4).mpr hw), if_pos ((wc_9 b q _).mpr hw)]
    · rw [if_neg (fun x => hw ((wq_9 g4).mp x)), if_neg (fun x => hw ((wc_9 b q _).mp x))]
  · rw [wordN (Or.inr (by omega)), if_neg (by omega)]
  · rw [wordN (Or.inr (by omega)), if_neg (by omega)]
  · rw [wordN (Or.inr (by omega)), if_neg (by omega)]
theorem wq_10 (hL : ∀ i, q ≤ i → i < e → 97 ≤ b i) : (e ≤ q + 8 ∧ Lt b q e 0 97 ∧ Lt b q e 1 110 ∧ Lt b q e 2 100 ∧ Lt b q e 3 0 ∧ Lt b q e 4 0 ∧ Lt b q e 5 0 ∧ Lt b q e 6 0 ∧ Lt b q e 7 0) ↔ wm b q e 57 60 = true := by
  rw [wm_iff]
  constructor
  · rintro ⟨h8, a0, a1, a2, a3, a4, a5, a6, a7⟩
    have hx := hL (q + 3)
    have en : e - q = 3 := by omega
    refine ⟨en, fun i hi => ?_⟩
    have hi' : i = 0 ∨ i = 1 ∨ i = 2 := by omega
    rcases hi' with rfl | rfl | rfl
    · show b (q + 0) = 97
      omega
    · show b (q + 1) = 110
      omega
    · show b (q + 2) = 100
      omega
  · rintro ⟨h1, h2⟩
    have en : e - q = 3 := h1
    have a0 : b (q + 0) = 97 := h2 0 (by decide)
    have a1 : b (q + 1) = 110 := h2 1 (by decide)
    have a2 : b (q + 2) = 100 := h2 2 (by decide)
    refine ⟨by omega, by omega, by omega, by omega, by omega, by omega, by omega, by omega, by omega⟩
theorem word_10 (hb : bytR b sz t s) (hh : HR b sz p s) (h0 : s 32 0 23 = 0) (hz : p ≤ sz) : RUN (d + 2) mX9_isWord [vr 32 0, vi 97, vi 110, vi 100, vi 0, vi 0, vi 0, vi 0, vi 0] s = some (some (vi (if tkC b sz p = 10 then 1 else 0)), s) := by
  have hbl : tkB b sz p ≤ sz := scan_le (P := blk) (b := b) hz
  have h160 := hb.2.2.1
  unfold HR at hh
  unfold tkC
  generalize tkB b sz p = q at hh hbl ⊢
  obtain ⟨h1, h2, h3, h4, h5⟩ := hh
  rcases tk_c b sz q with h | h | h | h | h
  · rw [wordN (Or.inr (by omega)), if_neg (by omega)]
  · obtain ⟨g1, g2, g3, g4, g5, g6⟩ := h
    rw [wordG hb h0 (by rw [h1]; exact g1) h2 (h3 (by omega)) g6 (by omega), g3]
    by_cases hw : wm b q (teF b sz q) 57 60 = true
    · rw [if_pos ((wq_10 g4).mpr hw), if_pos ((wc_10 b q _).mpr hw)]
    · rw [if_neg (fun x => hw ((wq_10 g4).mp x)), if_neg (fun x => hw ((wc_10 b q _).mp x))]
  · rw [wordN (Or.inr (by omega)), if_neg (by omega)]
  · rw [wordN (Or.inr (by omega)), if_neg (by omega)]
  · rw [wordN (Or.inr (by omega)), if_neg (by omega)]
theorem wq_11 (hL : ∀ i, q ≤ i → i < e → 97 ≤ b i) : (e ≤ q + 8 ∧ Lt b q e 0 110 ∧ Lt b q e 1 111 ∧ Lt b q e 2 116 ∧ Lt b q e 3 0 ∧ Lt b q e 4 0 ∧ Lt b q e 5 0 ∧ Lt b q e 6 0 ∧ Lt b q e 7 0) ↔ wm b q e 61 64 = true := by
  rw [wm_iff]
  constructor
  · rintro ⟨h8, a0, a1, a2, a3, a4, a5, a6, a7⟩
    have hx := hL (q + 3)
    have en : e - q = 3 := by omega
    refine ⟨en, fun i hi => ?_⟩
    have hi' : i = 0 ∨ i = 1 ∨ i = 2 := by omega
    rcases hi' with rfl | rfl | rfl
    · show b (q + 0) = 110
      omega
    · show b (q + 1) = 111
      omega
    · show b (q + 2) = 116
      omega
  · rintro ⟨h1, h2⟩
    have en : e - q = 3 := h1
    have a0 : b (q + 0) = 110 := h2 0 (by decide)
    have a1 : b (q + 1) = 111 := h2 1 (by decide)
    have a2 : b (q + 2) = 116 := h2 2 (by decide)
    refine ⟨by omega, by omega, by omega, by omega, by omega, by omega, by omega, by omega, by omega⟩
theorem word_11 (hb : bytR b sz t s) (hh : HR b sz p s) (h0 : s 32 0 23 = 0) (hz : p ≤ sz) : RUN (d + 2) mX9_isWord [vr 32 0, vi 110, vi 111, vi 116, vi 0, vi 0, vi 0, vi 0, vi 0] s = some (some (vi (if tkC b sz p = 11 then 1 else 0)), s) := by
  have hbl : tkB b sz p ≤ sz := scan_le (P := blk) (b := b) hz
  have h160 := hb.2.2.1
  unfold HR at hh
  unfold tkC
  generalize tkB b sz p = q at hh hbl ⊢
  obtain ⟨h1, h2, h3, h4, h5⟩ := hh
  rcases tk_c b sz q with h | h | h | h | h
  · rw [wordN (Or.inr (by omega)), if_neg (by omega)]
  · obtain ⟨g1, g2, g3, g4, g5, g6⟩ := h
    rw [wordG hb h0 (by rw [h1]; exact g1) h2 (h3 (by omega)) g6 (by omega), g3]
    by_cases hw : wm b q (teF b sz q) 61 64 = true
    · rw [if_pos ((wq_11 g4).mpr hw), if_pos ((wc_11 b q _).mpr hw)]
    · rw [if_neg (fun x => hw ((wq_11 g4).mp x)), if_neg (fun x => hw ((wc_11 b q _).mp x))]
  · rw [wordN (Or.inr (by omega)), if_neg (by omega)]
  · rw [wordN (Or.inr (by omega)), if_neg (by omega)]
  · rw [wordN (Or.inr (by omega)), if_neg (by omega)]
end RS
