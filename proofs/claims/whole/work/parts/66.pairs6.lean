/-! LAW 7: drawn, forward, chance, image, back -/
section P6
variable {ft : Ft} {n : Nat} {sm : Nat → Sem × Sem × Sem} {tn t : Nat} {s s' : Sg} {d : Nat}
theorem frI_dr (h : ∀ c, c ≠ 32 → c ≠ 38 → c ≠ 39 → c ≠ 40 → c ≠ 41 → c ≠ 42 → c ≠ 43 → c ≠ 46 → s' c = s c) (h2 : ∀ i, ¬ (10 ≤ i ∧ i ≤ 24) → s' 32 0 i = s 32 0 i) : frI s s' := ⟨fun c hc => h c (by omega) (by omega) (by omega) (by omega) (by omega) (by omega) (by omega) (by omega), by rw [h 11 (by decide) (by decide) (by decide) (by decide) (by decide) (by decide) (by decide) (by decide)], by rw [h 13 (by decide) (by decide) (by decide) (by decide) (by decide) (by decide) (by decide) (by decide)], fun i hi => h2 i (by omega)⟩
theorem p_drawn (x : Int) : PAIR mX8_drawn mX9_drawn [vi x] := by
  refine pair_ro (fun ft n sm _ t => vi (totB ft (sm t) false n (lnZ x))) (fun ft n sm tn t s h => ?_) (fun ft n sm tn t s h => ?_)
  · obtain ⟨s1, s2, a1, a2, a3, a4, a5⟩ := drawC (d := 52) (seed := x) (inv_YC h)
    refine ⟨s2, ?_, frI_now a4 a5⟩
    rw [qX8_drawn, a1, bV_s, a2, bI_s]
  · obtain ⟨s1, a1, a2, a3, a4⟩ := drivesR (d := 10) (seed := x) (inv_YR h)
    refine ⟨s1, ?_, frI_dr a3 a4⟩
    rw [qX9_drawn, a1, bI_s]
theorem p_forward : PAIR mX8_forward mX9_forward [] := by
  refine pair_ro (fun ft n sm _ t => vi (totB ft (sm t) true n (lnF ft) - totB ft (sm t) false n (lnF ft))) (fun ft n sm tn t s h => ?_) (fun ft n sm tn t s h => ?_)
  · have hC := inv_YC h
    obtain ⟨s1, a1, a2, a3⟩ := spreadC (d := 58) hC
    have hy1 := YC_fr hC (frY_14 a3)
    have h4 : ∀ c, c < n → lnF ft c < 4 := fun c hc => (lnF_4 hC.2.1 hc).1
    obtain ⟨s2, b1, b2, b3⟩ := playN (d := 52) hy1 h4 a2
    have e14 : s2 14 = s1 14 := b2.1 14 (by decide) (by decide) (by decide) (by decide) (by decide) (by decide) (by decide) (by decide) (by decide)
    have hy2 := YC_fr hy1 (frY_L b2)
    have hy3 : YC ft n (sm t) true (up s2 13 0 14 1) := by
      obtain ⟨c1, c2, ⟨t', tn', d1, d2, d3, d4, d5⟩, c4⟩ := hy2
      refine ⟨ftC_fr c1 (up_c (by decide)) (up_c (by decide)), c2, ⟨t', tn', by rw [up_c (by decide)]; exact d1, d2, by rw [up_c (by decide)]; exact d3, d4, fun k hk => stands_fr (d5 k hk) (up_c (by decide)) (up_c (by decide))⟩, ?_⟩
      rw [up_hit]; rfl
    obtain ⟨s4, g1, g2, g3⟩ := playN (d := 52) (ln := lnF ft) hy3 h4 (fun l hl => by rw [up_c (by decide), e14]; exact a2 l hl)
    have r1 := totB_rg (v := sm t) (eg := true) (ln := lnF ft) hC.2.1
    have r2 := totB_rg (v := sm t) (eg := false) (ln := lnF ft) hC.2.1
    refine ⟨up s4 13 0 14 0, ?_, ?_⟩
    · rw [qX8_forward, a1, bV_s, b1, bI_s, qX7_sendAllForward, if_pos (by decide), bV_s, g1, bI_s, qX7_sendAllForward, if_pos (by decide), bV_s, w32_id (by omega) (by omega)]
    · have fc : ∀ c, c ≠ 9 → c ≠ 10 → c ≠ 13 → c ≠ 14 → c ≠ 15 → c ≠ 16 → c ≠ 17 → c ≠ 18 → c ≠ 19 → c ≠ 20 → up s4 13 0 14 0 c = s c := fun c q1 q2 q3 q4 q5 q6 q7 q8 q9 q10 => by
        rw [up_c q3, g2.1 c q1 q2 q3 q5 q6 q7 q8 q9 q10, up_c q3, b2.1 c q1 q2 q3 q5 q6 q7 q8 q9 q10, a3 c q4]
      refine frI_now fc ?_
      rw [up_hit]
      exact h.2.2.1.1.symm
  · have hR := inv_YR h
    obtain ⟨s1, a1, a2, a3⟩ := badnessR (d := 11) hR
    have hy1 := YR_fr hR (frZ_W a2)
    have hy2 : YR ft n (sm t) true (up s1 32 0 25 1) := by
      obtain ⟨⟨b1, b2⟩, b3, ⟨t', b, sz, c1, c2, c3, c4, c5, c6, c7⟩, d1⟩ := hy1
      refine ⟨⟨by rw [up_i (by decide)]; exact b1, by rw [up_c (by decide), up_c (by decide)]; exact b2⟩, b3, ⟨t', b, sz, by rw [up_i (by decide)]; exact c1, c2, by rw [up_c (by decide)]; exact c3, c4, by rw [up_c (by decide)]; exact c5, c6, c7⟩, ?_⟩
      rw [up_hit]; rfl
    obtain ⟨s2, g1, g2, g3⟩ := badnessR (d := 11) hy2
    have r1 := totB_rg (v := sm t) (eg := true) (ln := lnF ft) hR.2.1
    have r2 := totB_rg (v := sm t) (eg := false) (ln := lnF ft) hR.2.1
    refine ⟨up s2 32 0 25 0, ?_, ?_⟩
    · rw [qX9_forward, a1, bI_s, g1, bI_s, w32_id (by omega) (by omega)]
    · have fc : ∀ c, c ≠ 32 → c ≠ 38 → c ≠ 39 → c ≠ 40 → c ≠ 41 → c ≠ 42 → c ≠ 43 → up s2 32 0 25 0 c = s c := fun c q1 q2 q3 q4 q5 q6 q7 => by
        rw [up_c q1, g2.1 c q1 q2 q3 q4 q5 q6 q7, up_c q1, a2.1 c q1 q2 q3 q4 q5 q6 q7]
      refine frI_W ⟨fc, fun i hi => ?_⟩
      by_cases e : i = 25
      · rw [e, up_hit]; exact h.2.2.1.2.symm
      · rw [up_i e, g2.2 i hi, up_i e, a2.2 i hi]
/-- Euclid -/
def eu : Nat → Nat → Nat → Nat
  | 0, x, _ => x
  | k + 1, x, y => if y = 0 then x else eu k y (x % y)
theorem eu_pos : ∀ (k x y : Nat), 0 < x + y → y < k → 0 < eu k x y
  | 0, _, _, _, h => by omega
  | k + 1, x, y, h, hk => by
    rw [eu]
    by_cases q : y = 0
    · rw [if_pos q]; omega
    · rw [if_neg q]
      exact eu_pos k y (x % y) (by omega) (by have := Nat.mod_lt x (show 0 < y by omega); omega)
theorem eu_le : ∀ (k x y B : Nat), x ≤ B → y ≤ B → eu k x y ≤ B
  | 0, _, _, _, h, _ => h
  | k + 1, x, y, B, h1, h2 => by
    rw [eu]
    by_cases q : y = 0
    · rw [if_pos q]; exact h1
    · rw [if_neg q]
      exact eu_le k y (x % y) B h2 (by have := Nat.mod_lt x (show 0 < y by omega); omega)
theorem tmodN (x y : Nat) : (x : Int).tmod (y : Int) = ((x % y : Nat) : Int) := rfl
theorem gcdC {z0 z1 : PV} : ∀ (k x y i : Nat) (z5 : PV), y < k → x ≤ 100 → y ≤ 100 → i + k ≤ 64 → 0 < x + y → EV d mX0_commonDivisor (7, [z0, z1, vi (x : Int), vi (y : Int), vi (i : Int), z5], [], s) = some (some (vi ((eu k x y : Nat) : Int)), s)
  | 0, _, _, _, _, h, _, _, _, _ => by omega
  | k + 1, x, y, i, z5, h, h1, h2, h3, h4 => by
    rw [qX0_commonDivisor_7, if_pos (by omega), eu]
    by_cases q : y = 0
    · rw [if_pos (by omega), if_pos q, qX0_commonDivisor_34, if_neg (by omega)]
    · have hm := Nat.mod_lt x (show 0 < y by omega)
      rw [if_neg (by omega), if_neg (by omega), if_neg q, wrem_eq (by omega) (by omega), tmodN, w32_id (by omega) (by omega), show (i : Int) + 1 = ((i + 1 : Nat) : Int) by omega]
      exact gcdC k y (x % y) (i + 1) _ (by omega) h2 (by omega) (by omega) (by omega)
theorem tdiv_r64 {a b : Int} (ha : 0 ≤ a ∧ a ≤ 1000) (hb : 0 < b ∧ b ≤ 1000) : 0 ≤ a.tdiv b ∧ a.tdiv b ≤ 1000 := by
  have h1 := Int.tdiv_nonneg ha.1 (Int.le_of_lt hb.1)
  have h2 := Int.natAbs_tdiv_le_natAbs a b
  omega
theorem wldiv_eq {a b : Int} (ha : 0 ≤ a ∧ a ≤ 1000) (hb : 0 < b ∧ b ≤ 1000) : wldiv a b = a.tdiv b := by
  unfold wldiv
  rw [Int64.toInt_div, Int64.toInt_ofInt_of_le (by omega) (by omega), Int64.toInt_ofInt_of_le (by omega) (by omega)]
  have h1 := tdiv_r64 ha hb
  show (a.tdiv b).bmod 18446744073709551616 = _
  rw [Int.bmod_def]
  split <;> omega
theorem wlrem_eq {a b : Int} (ha : 0 ≤ a ∧ a ≤ 1000) (hb : 0 < b ∧ b ≤ 1000) : wlrem a b = a.tmod b := by
  have h0 := wldiv_eq ha hb
  have h1 := tdiv_r64 ha hb
  unfold wlrem
  have e1 : Int64.ofInt a / Int64.ofInt b = Int64.ofInt (a.tdiv b) := by
    apply Int64.toInt_inj.mp
    rw [Int64.toInt_ofInt_of_le (n := a.tdiv b) (by omega) (by omega)]
    exact h0
  rw [e1, ← Int64.ofInt_mul, ← Int64.ofInt_sub]
  have e2 : a - a.tdiv b * b = a.tmod b := by rw [Int.tmod_def, Int.mul_comm]
  rw [e2]
  have h3 := Int.natAbs_tmod a b
  have h4 : a.natAbs % b.natAbs < b.natAbs := Nat.mod_lt _ (by omega)
  exact w64_id (by omega) (by omega)
theorem gcdR {z0 z1 z4 : PV} {x2 x3 x5 : Int} (h5 : 0 ≤ x5 ∧ x5 ≤ 100) (hx2 : 0 ≤ x2 ∧ x2 ≤ 100) : ∀ (k x y : Nat) (z11 z12 : PV), y < k → x ≤ 100 → y ≤ 100 → 0 < x + y → EV d mX9_chance (81, [z0, z1, vi x2, vi x3, z4, vl x5, SEC, vl (x : Int), SEC, vl (y : Int), SEC, z11, z12], [], s) = some (some (vl (if x3 = 0 then x5.tdiv ((eu k x y : Nat) : Int) else x2.tdiv ((eu k x y : Nat) : Int))), s)
  | 0, _, _, _, _, h, _, _, _ => by omega
  | k + 1, x, y, z11, z12, h, h1, h2, h4 => by
    rw [qX9_chance_81, eu]
    by_cases q : y = 0
    · rw [if_pos ((lcmp_eq _ _).mpr (by omega)), if_pos q]
      by_cases q3 : x3 = 0
      · rw [if_pos q3, if_pos q3, if_neg (show ¬ (x : Int) = 0 by omega), wldiv_eq (by omega) (by omega)]
      · rw [if_neg q3, if_neg q3, if_neg (show ¬ (x : Int) = 0 by omega), wldiv_eq (by omega) (by omega)]
    · have hm := Nat.mod_lt x (show 0 < y by omega)
      rw [if_neg (fun z => q (by have := (lcmp_eq _ _).mp z; omega)), if_neg (by omega), if_neg q, wlrem_eq (by omega) (by omega), tmodN]
      exact gcdR h5 hx2 k y (x % y) _ _ (by omega) h2 (by omega) (by omega)
/-- how many of the seeds do no worse -/
def goodN (f : Nat → Int) (now : Int) : Nat → Nat
  | 0 => 0
  | k + 1 => goodN f now k + (if f k ≤ now then 1 else 0)
theorem goodN_le {f : Nat → Int} {now : Int} : ∀ k, goodN f now k ≤ k
  | 0 => Nat.le_refl _
  | k + 1 => by
    have := goodN_le (f := f) (now := now) k
    rw [goodN]
    split <;> omega
theorem chC {x1 x3 now : Int} {N : Nat} {v : Sem × Sem × Sem} (hN : 1 ≤ N ∧ N ≤ 20) : ∀ (j k : Nat) (s0 s : Sg), k + j = N → YC ft n v false s → (∀ c, c ≠ 9 → c ≠ 10 → c ≠ 13 → c ≠ 14 → c ≠ 15 → c ≠ 16 → c ≠ 17 → c ≠ 18 → c ≠ 19 → c ≠ 20 → s c = s0 c) → s 13 0 14 = s0 13 0 14 → ∃ s', EV (d + 8) mX8_chance (46, [vr 0 0, vi x1, vi (N : Int), vi x3, vi now, vi ((goodN (fun i => totB ft v false n (lnZ (w32 (x1 + (i : Int))))) now k : Nat) : Int), vi (k : Int)], [], s) = some (some (vl (if x3 = 0 then ((goodN (fun i => totB ft v false n (lnZ (w32 (x1 + (i : Int))))) now N : Nat) : Int).tdiv ((eu 64 (goodN (fun i => totB ft v false n (lnZ (w32 (x1 + (i : Int))))) now N) N : Nat) : Int) else (N : Int).tdiv ((eu 64 (goodN (fun i => totB ft v false n (lnZ (w32 (x1 + (i : Int))))) now N) N : Nat) : Int))), s') ∧ (∀ c, c ≠ 9 → c ≠ 10 → c ≠ 13 → c ≠ 14 → c ≠ 15 → c ≠ 16 → c ≠ 17 → c ≠ 18 → c ≠ 19 → c ≠ 20 → s' c = s0 c) ∧ s' 13 0 14 = s0 13 0 14 := by
  intro j
  induction j with
  | zero =>
    intro k s0 s hk hC f1 f2
    have hk : k = N := by omega
    subst hk
    have hg := goodN_le (f := fun i => totB ft v false n (lnZ (w32 (x1 + (i : Int))))) (now := now) k
    generalize goodN (fun i => totB ft v false n (lnZ (w32 (x1 + (i : Int))))) now k = g at hg ⊢
    have hp := eu_pos 64 g k (by omega) (by omega)
    have hl := eu_le 64 g k 20 (by omega) (by omega)
    refine ⟨s, ?_, f1, f2⟩
    rw [qX8_chance_46, if_neg (by omega), qX0_commonDivisor, show EV (d + 7) mX0_commonDivisor (7, [vi (g : Int), vi (k : Int), vi (g : Int), vi (k : Int), vi 0, UU], [], s) = _ from gcdC 64 g k 0 UU (by omega) (by omega) (by omega) (by omega) (by omega), bI_s]
    by_cases q3 : x3 = 0
    · rw [if_pos q3, if_pos q3, if_neg (by omega), wdiv_eq (by omega) (by omega)]
    · rw [if_neg q3, if_neg q3, if_neg (by omega), wdiv_eq (by omega) (by omega)]
  | succ j ih =>
    intro k s0 s hk hC f1 f2
    have hg := goodN_le (f := fun i => totB ft v false n (lnZ (w32 (x1 + (i : Int))))) (now := now) k
    obtain ⟨s1, s2, a1, a2, a3, a4, a5⟩ := drawC (d := d) (seed := w32 (x1 + (k : Int))) hC
    have f1' : ∀ c, c ≠ 9 → c ≠ 10 → c ≠ 13 → c ≠ 14 → c ≠ 15 → c ≠ 16 → c ≠ 17 → c ≠ 18 → c ≠ 19 → c ≠ 20 → s2 c = s0 c := fun c q1 q2 q3 q4 q5 q6 q7 q8 q9 q10 => (a4 c q1 q2 q3 q4 q5 q6 q7 q8 q9 q10).trans (f1 c q1 q2 q3 q4 q5 q6 q7 q8 q9 q10)
    have ih' := ih (k + 1) s0 s2 (by omega) a3 f1' (a5.trans f2)
    rw [goodN] at ih'
    rw [qX8_chance_46, if_pos (by omega), a1, bV_s, a2, bI_s]
    by_cases q : totB ft v false n (lnZ (w32 (x1 + (k : Int)))) ≤ now
    · rw [if_pos q] at ih'
      rw [if_neg (by omega), qX8_chance_78, w32_id (by omega) (by omega), w32_id (by omega) (by omega), show (k : Int) + 1 = ((k + 1 : Nat) : Int) by omega]
      exact ih'
    · rw [if_neg q, Nat.add_zero] at ih'
      rw [if_pos (by omega), qX8_chance_78, w32_id (by omega) (by omega), show (k : Int) + 1 = ((k + 1 : Nat) : Int) by omega]
      exact ih'
theorem chR {x1 x3 now : Int} {N : Nat} {v : Sem × Sem × Sem} (hN : 1 ≤ N ∧ N ≤ 20) : ∀ (j k : Nat) (z8 z9 z10 z11 z12 : PV) (s0 s : Sg), k + j = N → YR ft n v false s → (∀ c, c ≠ 32 → c ≠ 38 → c ≠ 39 → c ≠ 40 → c ≠ 41 → c ≠ 42 → c ≠ 43 → c ≠ 46 → s c = s0 c) → (∀ i, ¬ (10 ≤ i ∧ i ≤ 24) → s 32 0 i = s0 32 0 i) → ∃ s', EV (d + 50) mX9_chance (38, [vr 32 0, vi x1, vi (N : Int), vi x3, vi now, vl ((goodN (fun i => totB ft v false n (lnZ (w32 (x1 + (i : Int))))) now k : Nat) : Int), SEC, vi (k : Int), z8, z9, z10, z11, z12], [], s) = some (some (vl (if x3 = 0 then ((goodN (fun i => totB ft v false n (lnZ (w32 (x1 + (i : Int))))) now N : Nat) : Int).tdiv ((eu 64 (goodN (fun i => totB ft v false n (lnZ (w32 (x1 + (i : Int))))) now N) N : Nat) : Int) else (N : Int).tdiv ((eu 64 (goodN (fun i => totB ft v false n (lnZ (w32 (x1 + (i : Int))))) now N) N : Nat) : Int))), s') ∧ (∀ c, c ≠ 32 → c ≠ 38 → c ≠ 39 → c ≠ 40 → c ≠ 41 → c ≠ 42 → c ≠ 43 → c ≠ 46 → s' c = s0 c) ∧ (∀ i, ¬ (10 ≤ i ∧ i ≤ 24) → s' 32 0 i = s0 32 0 i) := by
  intro j
  induction j with
  | zero =>
    intro k z8 z9 z10 z11 z12 s0 s hk hR f1 f2
    have hk : k = N := by omega
    subst hk
    have hg := goodN_le (f := fun i => totB ft v false n (lnZ (w32 (x1 + (i : Int))))) (now := now) k
    generalize goodN (fun i => totB ft v false n (lnZ (w32 (x1 + (i : Int))))) now k = g at hg ⊢
    refine ⟨s, ?_, f1, f2⟩
    rw [qX9_chance_38, if_neg (by omega), gcdR (by omega) (by omega) 64 g k _ _ (by omega) (by omega) (by omega) (by omega)]
  | succ j ih =>
    intro k z8 z9 z10 z11 z12 s0 s hk hR f1 f2
    have hg := goodN_le (f := fun i => totB ft v false n (lnZ (w32 (x1 + (i : Int))))) (now := now) k
    obtain ⟨s1, a1, a2, a3, a4⟩ := drivesR (d := d) (seed := w32 (x1 + (k : Int))) hR
    have ih' := ih (k + 1) z8 z9 z10 z11 z12 s0 s1 (by omega) a2 (fun c q1 q2 q3 q4 q5 q6 q7 q8 => (a3 c q1 q2 q3 q4 q5 q6 q7 q8).trans (f1 c q1 q2 q3 q4 q5 q6 q7 q8)) (fun i hi => (a4 i hi).trans (f2 i hi))
    rw [goodN] at ih'
    rw [qX9_chance_38, if_pos (by omega), a1, bI_s]
    by_cases q : totB ft v false n (lnZ (w32 (x1 + (k : Int)))) ≤ now
    · rw [if_pos q] at ih'
      rw [if_neg (by omega), qX9_chance_64, w64_id (by omega) (by omega), w32_id (by omega) (by omega), show (k : Int) + 1 = ((k + 1 : Nat) : Int) by omega]
      exact ih'
    · rw [if_neg q, Nat.add_zero] at ih'
      rw [if_pos (by omega), qX9_chance_64, w64_id (by omega) (by omega), w32_id (by omega) (by omega), show (k : Int) + 1 = ((k + 1 : Nat) : Int) by omega, show ∀ g : Int, g + 0 = g from fun g => by omega]
      exact ih'
theorem p_chance (x y w : Int) : PAIR mX8_chance mX9_chance [vi x, vi y, vi w] := by
  by_cases hy : 1 ≤ y ∧ y ≤ 20
  · by_cases hw : 0 ≤ w ∧ w ≤ 1
    · obtain ⟨N, rfl⟩ : ∃ N : Nat, y = (N : Int) := ⟨y.toNat, by omega⟩
      refine pair_ro (fun ft n sm _ t => vl (if w = 0 then ((goodN (fun i => totB ft (sm t) false n (lnZ (w32 (x + (i : Int))))) (totB ft (sm t) false n (lnF ft)) N : Nat) : Int).tdiv ((eu 64 (goodN (fun i => totB ft (sm t) false n (lnZ (w32 (x + (i : Int))))) (totB ft (sm t) false n (lnF ft)) N) N : Nat) : Int) else (N : Int).tdiv ((eu 64 (goodN (fun i => totB ft (sm t) false n (lnZ (w32 (x + (i : Int))))) (totB ft (sm t) false n (lnF ft)) N) N : Nat) : Int))) (fun ft n sm tn t s h => ?_) (fun ft n sm tn t s h => ?_)
      · obtain ⟨s1, s2, a1, a2, a3, a4, a5, a6, a7⟩ := nowC (d := 52) (inv_YC h)
        obtain ⟨s3, b1, b2, b3⟩ := chC (d := 52) (x1 := x) (x3 := w) (now := totB ft (sm t) false n (lnF ft)) (N := N) (by omega) N 0 s s2 (by omega) a4 a5 a6
        refine ⟨s3, ?_, frI_now b2 b3⟩
        rw [qX8_chance, if_neg (by omega), if_neg (by omega), if_neg (by omega), if_neg (by omega), a1, bV_s, a2, bI_s]
        exact b1
      · obtain ⟨s2, a1, a2, a3⟩ := badnessR (d := 11) (inv_YR h)
        obtain ⟨s3, b1, b2, b3⟩ := chR (d := 10) (x1 := x) (x3 := w) (now := totB ft (sm t) false n (lnF ft)) (N := N) (by omega) N 0 UU UU UU UU UU s s2 (by omega) (YR_fr (inv_YR h) (frZ_W a2)) (fun c q1 q2 q3 q4 q5 q6 q7 q8 => a2.1 c q1 q2 q3 q4 q5 q6 q7) a2.2
        refine ⟨s3, ?_, frI_dr b2 b3⟩
        rw [qX9_chance, in_ok, bI_s, b01, if_pos hy, in_ok, bI_s, b01, if_pos hw, a1, bI_s]
        exact b1
    · refine pair_ro (fun _ _ _ _ _ => vl (-4611686018427387904)) (fun ft n sm tn t s h => ⟨s, ?_, frI_refl s⟩) (fun ft n sm tn t s h => ⟨s, ?_, frI_refl s⟩)
      · rw [qX8_chance, if_neg (by omega), if_neg (by omega)]
        by_cases q : w < 0
        · rw [if_pos q]
        · rw [if_neg q, if_pos (by omega)]
      · rw [qX9_chance, in_ok, bI_s, b01, if_pos hy, in_ok, bI_s, b01, if_neg hw]
  · refine pair_ro (fun _ _ _ _ _ => vl (-4611686018427387904)) (fun ft n sm tn t s h => ⟨s, ?_, frI_refl s⟩) (fun ft n sm tn t s h => ⟨s, ?_, frI_refl s⟩)
    · rw [qX8_chance]
      by_cases q : y < 1
      · rw [if_pos q]
      · rw [if_neg q, if_pos (by omega)]
    · rw [qX9_chance, in_ok, bI_s, b01, if_neg hy]
end P6
