/-! PARSE 5: the reference's next, its words and signs -/
section RS
variable {b : Nat → Int} {sz t p q e : Nat} {s : Sg} {d : Nat}
def tkF (b : Nat → Int) (sz q : Nat) : Int := if ¬ q < sz then 0 else if ltr (b q) = true then 1 else if dgt (b q) = true then (if 4 < scan dgt b sz q - q then 4 else 2) else if sgn (b q) = true then 3 else 4
def HF (b : Nat → Int) (sz q : Nat) (s : Sg) : Prop := s 32 0 19 = tkF b sz q ∧ s 32 0 20 = (q : Int) ∧ (tkF b sz q ≠ 4 → s 32 0 18 = ((teF b sz q : Nat) : Int)) ∧ (tkF b sz q = 2 → s 32 0 21 = tnF b sz q) ∧ (tkF b sz q = 3 → s 32 0 21 = tcF b sz q)
def HR (b : Nat → Int) (sz p : Nat) (s : Sg) : Prop := HF b sz (tkB b sz p) s
theorem nextR (hb : bytR b sz t s) (hp : s 32 0 18 = (p : Int)) (hz : p ≤ sz) : ∃ s', RUN (d + 1) mX9_next [vr 32 0] s = some (none, s') ∧ HR b sz p s' ∧ frN s s' := by
  have h160 := hb.2.2.1
  rw [qX9_next, skipR _ p s rfl hb hp hz]
  have hbl : tkB b sz p ≤ sz := scan_le (P := blk) (b := b) hz
  have hst : ¬ (tkB b sz p < sz ∧ blk (b (tkB b sz p)) = true) := scan_stop (P := blk) (b := b)
  show ∃ s', EV (d + 1) mX9_next (0, [vr 32 0, UU, UU], [], up s 32 0 18 ((tkB b sz p : Nat) : Int)) = some (none, s') ∧ HF b sz (tkB b sz p) s' ∧ frN s s'
  generalize tkB b sz p = q at hbl hst ⊢
  obtain ⟨s1, hs1, hb1, h18, hf1⟩ : ∃ s1, up s 32 0 18 (q : Int) = s1 ∧ bytR b sz t s1 ∧ s1 32 0 18 = (q : Int) ∧ frN s s1 := ⟨_, rfl, bytR_up hb (by omega), up_hit _ _ _ _ _, frN_r (frN_refl s) (by omega)⟩
  rw [hs1]
  clear hs1
  have hx : bAt b sz q ≠ 32 ∧ bAt b sz q ≠ 10 := by
    unfold bAt
    by_cases h : q < sz
    · rw [if_pos h]
      constructor <;> (intro h2; exact hst ⟨h, by unfold blk; rw [decide_eq_true_eq]; omega⟩)
    · rw [if_neg h]
      decide
  obtain ⟨s2, hs2, hb2, h28, h20, hf2⟩ : ∃ s2, up s1 32 0 20 (q : Int) = s2 ∧ bytR b sz t s2 ∧ s2 32 0 18 = (q : Int) ∧ s2 32 0 20 = (q : Int) ∧ frN s s2 := ⟨_, rfl, bytR_up hb1 (by omega), by rw [up_i (by decide)]; exact h18, up_hit _ _ _ _ _, frN_r hf1 (by omega)⟩
  rw [qX9_next_0, h18, byteR hb1 (by omega), bI_s, if_neg hx.1, h18, byteR hb1 (by omega), bI_s, if_neg hx.2, h18, hs2, byteR hb2 (by omega), bI_s]
  clear hs2
  by_cases hq : q < sz
  · have hbq := hb.2.2.2.2.2 q hq
    rw [show bAt b sz q = b q from if_pos hq, if_neg (by omega)]
    obtain ⟨s3, hs3, hb3, h38, h30, h39, hf3⟩ : ∃ s3, up s2 32 0 19 4 = s3 ∧ bytR b sz t s3 ∧ s3 32 0 18 = (q : Int) ∧ s3 32 0 20 = (q : Int) ∧ s3 32 0 19 = 4 ∧ frN s s3 := ⟨_, rfl, bytR_up hb2 (by omega), by rw [up_i (by decide)]; exact h28, by rw [up_i (by decide)]; exact h20, up_hit _ _ _ _ _, frN_r hf2 (by omega)⟩
    rw [hs3, in_ok, bI_s, b01]
    clear hs3
    by_cases hl : ltr (b q) = true
    · have hk : tkF b sz q = 1 := by unfold tkF; rw [if_neg (show ¬ ¬ q < sz from fun h => h hq), if_pos hl]
      rw [if_pos (ltr_rg hl), lettersR _ q _ rfl (bytR_up hb3 (by omega)) (by rw [up_i (by decide)]; exact h38) hbl]
      refine ⟨_, rfl, ⟨?_, ?_, ?_, ?_, ?_⟩, frN_r (frN_r hf3 (by omega)) (by omega)⟩
      · rw [up_i (by decide), up_hit, hk]
      · rw [up_i (by decide), up_i (by decide)]; exact h30
      · intro _
        rw [up_hit]
        unfold teF
        rw [if_neg (show ¬ ¬ q < sz from fun h => h hq), if_pos hl]
      · rw [hk]; intro h; exact absurd h (by decide)
      · rw [hk]; intro h; exact absurd h (by decide)
    · rw [if_neg (fun h => hl (by unfold ltr; rw [decide_eq_true_eq]; exact h)), in_ok, bI_s, b01]
      by_cases hd : dgt (b q) = true
      · obtain ⟨s4, hs4, hb4, h48, h40, h41, hf4⟩ : ∃ s4, up (up s3 32 0 19 2) 32 0 21 0 = s4 ∧ bytR b sz t s4 ∧ s4 32 0 18 = (q : Int) ∧ s4 32 0 20 = (q : Int) ∧ s4 32 0 21 = 0 ∧ frN s s4 := ⟨_, rfl, bytR_up (bytR_up hb3 (by omega)) (by omega), by rw [up_i (by decide), up_i (by decide)]; exact h38, by rw [up_i (by decide), up_i (by decide)]; exact h30, up_hit _ _ _ _ _, frN_r (frN_r hf3 (by omega)) (by omega)⟩
        obtain ⟨v, hv1, hv2⟩ := digitsR (d := d) (z1 := vi (b q)) (q := q) _ q s4 rfl hb4 h48 (Nat.le_refl _) hbl (fun i h1 h2 => by omega) (fun _ => by rw [Nat.sub_self, h41]; rfl)
        have hv2' : EV (d + 1) mX9_next (160, [vr 32 0, vi (b q), vi 0], [], s4) = some (none, up (up (up s4 32 0 21 v) 32 0 18 ((scan dgt b sz q : Nat) : Int)) 32 0 19 (if 4 < scan dgt b sz q - q then 4 else 2)) := by
          rw [← hv2, Nat.sub_self]; rfl
        rw [if_pos (dgt_rg hd), hs4, hv2']
        have hk : tkF b sz q = if 4 < scan dgt b sz q - q then 4 else 2 := by unfold tkF; rw [if_neg (show ¬ ¬ q < sz from fun h => h hq), if_neg hl, if_pos hd]
        refine ⟨_, rfl, ⟨?_, ?_, ?_, ?_, ?_⟩, frN_r (frN_r (frN_r hf4 (by omega)) (by omega)) (by omega)⟩
        · rw [up_hit, hk]
        · rw [up_i (by decide), up_i (by decide), up_i (by decide)]; exact h40
        · intro _
          rw [up_i (by decide), up_hit]
          unfold teF
          rw [if_neg (show ¬ ¬ q < sz from fun h => h hq), if_neg hl, if_pos hd]
        · intro h
          rw [up_i (by decide), up_i (by decide), up_hit]
          refine hv1 ?_
          rw [hk] at h
          split at h <;> omega
        · intro h
          rw [hk] at h
          split at h <;> omega
      · rw [if_neg (fun h => hd (by unfold dgt; rw [decide_eq_true_eq]; exact h))]
        by_cases hs : sgn (b q) = true
        · have hk : tkF b sz q = 3 := by unfold tkF; rw [if_neg (show ¬ ¬ q < sz from fun h => h hq), if_neg hl, if_neg hd, if_pos hs]
          have hfin : ∃ s', EV (d + 1) mX9_next (300, [vr 32 0, vi (b q), UU], [], s3) = some (none, s') ∧ HF b sz q s' ∧ frN s s' := by
            rw [qX9_next_300, h38, w32_id (by omega) (by omega)]
            refine ⟨_, rfl, ⟨?_, ?_, ?_, ?_, ?_⟩, frN_r (frN_r (frN_r hf3 (by omega)) (by omega)) (by omega)⟩
            · rw [up_i (by decide), up_i (by decide), up_hit, hk]
            · rw [up_i (by decide), up_i (by decide), up_i (by decide)]; exact h30
            · intro _
              rw [up_hit]
              unfold teF
              rw [if_neg (show ¬ ¬ q < sz from fun h => h hq), if_neg hl, if_neg hd]
              omega
            · rw [hk]; intro h; exact absurd h (by decide)
            · intro _
              rw [up_i (by decide), up_hit]
              unfold tcF
              rw [if_neg (show ¬ ¬ q < sz from fun h => h hq), if_neg hl, if_neg hd, if_pos hs]
          unfold sgn at hs
          rw [decide_eq_true_eq] at hs
          by_cases c1 : b q = 40
          · rw [if_pos c1]; exact hfin
          rw [if_neg c1]
          by_cases c2 : b q = 41
          · rw [if_pos c2]; exact hfin
          rw [if_neg c2]
          by_cases c3 : b q = 59
          · rw [if_pos c3]; exact hfin
          rw [if_neg c3]
          by_cases c4 : b q = 43
          · rw [if_pos c4]; exact hfin
          rw [if_neg c4]
          by_cases c5 : b q = 45
          · rw [if_pos c5]; exact hfin
          rw [if_neg c5]
          by_cases c6 : b q = 42
          · rw [if_pos c6]; exact hfin
          rw [if_neg c6]
          by_cases c7 : b q = 60
          · rw [if_pos c7]; exact hfin
          rw [if_neg c7, if_pos (show b q = 61 by omega)]
          exact hfin
        · have hk : tkF b sz q = 4 := by unfold tkF; rw [if_neg (show ¬ ¬ q < sz from fun h => h hq), if_neg hl, if_neg hd, if_neg hs]
          have hs' := hs
          unfold sgn at hs'
          rw [decide_eq_true_eq] at hs'
          rw [if_neg (show ¬ b q = 40 by omega), if_neg (show ¬ b q = 41 by omega), if_neg (show ¬ b q = 59 by omega), if_neg (show ¬ b q = 43 by omega), if_neg (show ¬ b q = 45 by omega), if_neg (show ¬ b q = 42 by omega), if_neg (show ¬ b q = 60 by omega), if_neg (show ¬ b q = 61 by omega)]
          refine ⟨_, rfl, ⟨?_, ?_, ?_, ?_, ?_⟩, hf3⟩
          · rw [hk]; exact h39
          · exact h30
          · rw [hk]; intro h; exact absurd rfl h
          · rw [hk]; intro h; exact absurd h (by decide)
          · rw [hk]; intro h; exact absurd h (by decide)
  · have hk : tkF b sz q = 0 := by unfold tkF; rw [if_pos hq]
    rw [show bAt b sz q = -1 from if_neg hq, if_pos (by decide)]
    refine ⟨_, rfl, ⟨?_, ?_, ?_, ?_, ?_⟩, frN_r (frN_r (frN_r hf2 (by omega)) (by omega)) (by omega)⟩
    · rw [up_i (by decide), up_hit, hk]
    · rw [up_hit, hb2.2.1]; omega
    · intro _
      rw [up_i (by decide), up_i (by decide), up_i (by decide), h28]
      unfold teF
      rw [if_pos hq]
    · rw [hk]; intro h; exact absurd h (by decide)
    · rw [hk]; intro h; exact absurd h (by decide)
/-- kinds of token and their codes -/
theorem tk_c (b : Nat → Int) (sz q : Nat) : (tkF b sz q = 0 ∧ tcF b sz q = 13) ∨ (tkF b sz q = 1 ∧ q < sz ∧ tcF b sz q = wcode b q (teF b sz q) ∧ (∀ i, q ≤ i → i < teF b sz q → 97 ≤ b i) ∧ q < teF b sz q ∧ teF b sz q ≤ sz) ∨ (tkF b sz q = 2 ∧ tcF b sz q = 12) ∨ (tkF b sz q = 3 ∧ 40 ≤ tcF b sz q) ∨ (tkF b sz q = 4 ∧ tcF b sz q = 14) := by
  by_cases hq : q < sz
  · by_cases hl : ltr (b q) = true
    · right; left
      have et : teF b sz q = scan ltr b sz q := by unfold teF; rw [if_neg (show ¬ ¬ q < sz from fun h => h hq), if_pos hl]
      rw [et]
      refine ⟨?_, hq, ?_, fun i h1 h2 => (ltr_rg (scan_all h1 h2)).1, ?_, scan_le (Nat.le_of_lt hq)⟩
      · unfold tkF; rw [if_neg (show ¬ ¬ q < sz from fun h => h hq), if_pos hl]
      · unfold tcF; rw [if_neg (show ¬ ¬ q < sz from fun h => h hq), if_pos hl]
      · rw [scan_in hq hl]; exact scan_ge
    · by_cases hd : dgt (b q) = true
      · by_cases h4 : 4 < scan dgt b sz q - q
        · right; right; right; right
          unfold tkF tcF
          rw [if_neg (show ¬ ¬ q < sz from fun h => h hq), if_neg hl, if_pos hd, if_pos h4, if_neg (show ¬ ¬ q < sz from fun h => h hq), if_neg hl, if_pos hd, if_pos h4]
          exact ⟨rfl, rfl⟩
        · right; right; left
          unfold tkF tcF
          rw [if_neg (show ¬ ¬ q < sz from fun h => h hq), if_neg hl, if_pos hd, if_neg h4, if_neg (show ¬ ¬ q < sz from fun h => h hq), if_neg hl, if_pos hd, if_neg h4]
          exact ⟨rfl, rfl⟩
      · by_cases hs : sgn (b q) = true
        · right; right; right; left
          unfold tkF tcF
          rw [if_neg (show ¬ ¬ q < sz from fun h => h hq), if_neg hl, if_neg hd, if_pos hs, if_neg (show ¬ ¬ q < sz from fun h => h hq), if_neg hl, if_neg hd, if_pos hs]
          unfold sgn at hs
          rw [decide_eq_true_eq] at hs
          exact ⟨rfl, by omega⟩
        · right; right; right; right
          unfold tkF tcF
          rw [if_neg (show ¬ ¬ q < sz from fun h => h hq), if_neg hl, if_neg hd, if_neg hs, if_neg (show ¬ ¬ q < sz from fun h => h hq), if_neg hl, if_neg hd, if_neg hs]
          exact ⟨rfl, rfl⟩
  · left
    unfold tkF tcF
    rw [if_pos hq, if_pos hq]
    exact ⟨rfl, rfl⟩
theorem signR {c : Int} (hh : HR b sz p s) (h0 : s 32 0 23 = 0) (hc : 40 ≤ c) : RUN d mX9_isSign [vr 32 0, vi c] s = some (some (vi (if tkC b sz p = c then 1 else 0)), s) := by
  unfold HR at hh
  unfold tkC
  generalize tkB b sz p = q at hh ⊢
  obtain ⟨h1, h2, h3, h4, h5⟩ := hh
  rw [qX9_isSign, if_pos h0, h1]
  have hw := wcode_rg b q (teF b sz q)
  rcases tk_c b sz q with h | h | h | h | h
  · rw [h.1, if_neg (by decide), if_neg (by omega)]
  · rw [h.1, if_neg (by decide), if_neg (by omega)]
  · rw [h.1, if_neg (by decide), if_neg (by omega)]
  · have h6 := h5 h.1
    rw [h.1, if_pos rfl, h6]
    by_cases e : tcF b sz q = c
    · rw [if_pos ((lcmp_eq _ _).mpr e), if_pos e]
    · rw [if_neg (fun x => e ((lcmp_eq _ _).mp x)), if_neg e]
  · rw [h.1, if_neg (by decide), if_neg (by omega)]
theorem signB {c : Int} (h1 : s 32 0 23 = 1) : RUN d mX9_isSign [vr 32 0, vi c] s = some (some (vi 0), s) := by
  rw [qX9_isSign, if_neg (by omega)]
end RS
