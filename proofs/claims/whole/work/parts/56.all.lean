/-! YARD 7: all lanes -/
def msk (P : Nat → Bool) : Nat → Nat
  | 0 => 0
  | k + 1 => msk P k + (if P k = true then 2 ^ k else 0)
theorem msk_lt (P : Nat → Bool) : ∀ k, msk P k < 2 ^ k
  | 0 => Nat.one_pos
  | k + 1 => by
    have := msk_lt P k
    rw [msk, Nat.pow_succ]
    split <;> omega
theorem msk_64 {P : Nat → Bool} {k : Nat} (h : k ≤ 6) : msk P k < 64 := Nat.lt_of_lt_of_le (msk_lt P k) (Nat.pow_le_pow_right (n := 2) (by decide) h)
theorem msk_bit (P : Nat → Bool) : ∀ k c, (msk P k).testBit c = (decide (c < k) && P c)
  | 0, c => by rw [msk, Nat.zero_testBit]; simp
  | k + 1, c => by
    have ih := msk_bit P k c
    have hlt := msk_lt P k
    rw [msk]
    by_cases hp : P k = true
    · rw [if_pos hp, Nat.add_comm]
      rcases Nat.lt_trichotomy c k with h | h | h
      · rw [Nat.testBit_two_pow_add_gt h, ih, decide_eq_true h, decide_eq_true (show c < k + 1 by omega)]
      · subst h
        rw [Nat.testBit_two_pow_add_eq, Nat.testBit_lt_two_pow hlt, decide_eq_true (Nat.lt_succ_self c), hp]; rfl
      · rw [Nat.testBit_lt_two_pow (show 2 ^ k + msk P k < 2 ^ c from Nat.lt_of_lt_of_le (show 2 ^ k + msk P k < 2 ^ (k + 1) by rw [Nat.pow_succ]; omega) (Nat.pow_le_pow_right (by decide) h)), decide_eq_false (show ¬ c < k + 1 by omega)]; rfl
    · rw [if_neg hp, Nat.add_zero, ih]
      rcases Nat.lt_trichotomy c k with h | h | h
      · rw [decide_eq_true h, decide_eq_true (show c < k + 1 by omega)]
      · subst h
        rw [decide_eq_false (Nat.lt_irrefl c), decide_eq_true (Nat.lt_succ_self c), Bool.eq_false_iff.mpr hp]; rfl
      · rw [decide_eq_false (show ¬ c < k by omega), decide_eq_false (show ¬ c < k + 1 by omega)]
theorem wor_add : ∀ c : Nat, c < 6 → ∀ x : Nat, x < 2 ^ c → wor (x : Int) (wshl 1 (c : Int)) = ((x + 2 ^ c : Nat) : Int) := by decide +kernel
/-- the set of a lane, if lanes are told by ln -/
def setN (ln : Nat → Nat) (n l : Nat) : Nat := msk (fun c => decide (ln c = l)) n
theorem setN_bit {ln : Nat → Nat} {n l c : Nat} : (setN ln n l).testBit c = true ↔ c < n ∧ ln c = l := by
  unfold setN
  rw [msk_bit]
  simp
section YA
variable {ft : Ft} {n : Nat} {v : Sem × Sem × Sem} {eg : Bool} {d : Nat} {s : Sg} {ln : Nat → Nat}
def mbr (ln : Nat → Nat) (x : Nat) (s : Sg) : Prop := ∀ l, l < 4 → s 14 0 l = ((setN ln x l : Nat) : Int)
theorem clearY : ∃ s', RUN d mX7_clearLanes [vr 13 0] s = some (none, s') ∧ mbr ln 0 s' ∧ (∀ c, c ≠ 14 → s' c = s c) := by
  rw [qX7_clearLanes, qX7_clearLanes_2, if_pos (by decide), if_pos (by decide), show w32 (0 + 1) = 1 from rfl, qX7_clearLanes_2, if_pos (by decide), if_pos (by decide), show w32 (1 + 1) = 2 from rfl, qX7_clearLanes_2, if_pos (by decide), if_pos (by decide), show w32 (2 + 1) = 3 from rfl, qX7_clearLanes_2, if_pos (by decide), if_pos (by decide), show w32 (3 + 1) = 4 from rfl, qX7_clearLanes_2, if_neg (by decide)]
  refine ⟨_, rfl, fun l hl => ?_, fun c hc => by rw [up_c hc, up_c hc, up_c hc, up_c hc]⟩
  have h : l = 0 ∨ l = 1 ∨ l = 2 ∨ l = 3 := by omega
  rcases h with rfl | rfl | rfl | rfl
  · rw [up_i (by decide), up_i (by decide), up_i (by decide), show Int.toNat 0 = 0 from rfl, up_hit]; rfl
  · rw [up_i (by decide), up_i (by decide), show Int.toNat 1 = 1 from rfl, up_hit]; rfl
  · rw [up_i (by decide), show Int.toNat 2 = 2 from rfl, up_hit]; rfl
  · rw [show Int.toNat 3 = 3 from rfl, up_hit]; rfl
theorem joinY {x : Nat} (h : mbr ln x s) (hx : x < 6) (hl : ln x < 4) : ∃ s', RUN d mX7_join [vr 13 0, vi (x : Int), vi ((ln x : Nat) : Int)] s = some (none, s') ∧ mbr ln (x + 1) s' ∧ (∀ c, c ≠ 14 → s' c = s c) := by
  have hlt : setN ln x (ln x) < 2 ^ x := msk_lt _ x
  rw [qX7_join, if_neg (by omega), if_pos (by omega), if_pos (show inb ((ln x : Nat) : Int) 4 by constructor <;> omega), if_pos (show inb ((ln x : Nat) : Int) 4 by constructor <;> omega), Int.toNat_natCast, h (ln x) hl, wor_add x hx _ hlt]
  refine ⟨_, rfl, fun l hl' => ?_, fun c hc => up_c hc⟩
  by_cases e : l = ln x
  · subst e
    rw [up_hit]
    unfold setN
    rw [msk, if_pos (by simp)]
  · rw [up_i e, h l hl']
    unfold setN
    rw [msk, if_neg (by simp; omega), Nat.add_zero]
theorem frY_14 {s s' : Sg} (h : ∀ c, c ≠ 14 → s' c = s c) : frY s s' := ⟨fun c hc => h c (by omega), by rw [h 13 (by decide)]⟩
def lnF (ft : Ft) (c : Nat) : Nat := (ft 2 c).toNat
theorem lnF_4 {c : Nat} (h : ftOk ft n) (hc : c < n) : lnF ft c < 4 ∧ ((lnF ft c : Nat) : Int) = ft 2 c := by
  have := h.2 c hc
  unfold lnF
  omega
theorem spreadL : ∀ (j x : Nat) (s : Sg), x + j = n → YC ft n v eg s → mbr (lnF ft) x s → ∃ s', EV (d + 1) mX7_spread (6, [vr 13 0, vi (x : Int)], [], s) = some (none, s') ∧ mbr (lnF ft) n s' ∧ (∀ c, c ≠ 14 → s' c = s c) := by
  intro j
  induction j with
  | zero =>
    intro x s hx hy hm
    have hx : x = n := by omega
    subst hx
    rw [qX7_spread_6, YC_size hy, bI_s, if_neg (by omega)]
    exact ⟨s, rfl, hm, fun _ _ => rfl⟩
  | succ j ih =>
    intro x s hx hy hm
    have h6 := hy.2.1.1
    obtain ⟨l4, le⟩ := lnF_4 (c := x) hy.2.1 (by omega)
    obtain ⟨s1, a1, a2, a3⟩ := joinY (d := d) hm (by omega) l4
    rw [qX7_spread_6, YC_size hy, bI_s, if_pos (by omega), show RUN d mX1_tell [vr 1 0, vi 2, vi (x : Int)] s = _ from YC_tell (f := 2) hy (by omega) (by omega), bI_s, ← le, a1, bV_s, w32_id (by omega) (by omega), show (x : Int) + 1 = ((x + 1 : Nat) : Int) by omega]
    obtain ⟨s', b1, b2, b3⟩ := ih (x + 1) s1 (by omega) (YC_fr hy (frY_14 a3)) a2
    exact ⟨s', b1, b2, fun c hc => (b3 c hc).trans (a3 c hc)⟩
theorem spreadC (hy : YC ft n v eg s) : ∃ s', RUN (d + 1) mX7_spread [vr 13 0] s = some (none, s') ∧ mbr (lnF ft) n s' ∧ (∀ c, c ≠ 14 → s' c = s c) := by
  obtain ⟨s1, a1, a2, a3⟩ := clearY (d := d) (ln := lnF ft) (s := s)
  obtain ⟨s', b1, b2, b3⟩ := spreadL (d := d) n 0 s1 (by omega) (YC_fr hy (frY_14 a3)) a2
  rw [qX7_spread, a1, bV_s]
  exact ⟨s', b1, b2, fun c hc => (b3 c hc).trans (a3 c hc)⟩
/-- drawn by a seed -/
def zN (seed : Int) : Nat → Int
  | 0 => seed
  | k + 1 => w32 (w32 (zN seed k * 1103515245) + 12345)
def lnZ (seed : Int) (c : Nat) : Nat := (wrem (wush (zN seed (c + 1)) 9) 4).toNat
theorem wush9 (x : Int) : 0 ≤ wush x 9 ∧ wush x 9 < 8388608 := by
  unfold wush
  have e : ((Int32.ofInt 9).toUInt32 &&& Int32.toUInt32 31) = 9 := by decide
  rw [e]
  generalize (Int32.ofInt x).toUInt32 = u
  have h1 : (u >>> 9).toNat < 8388608 := by
    rw [UInt32.toNat_shiftRight]
    have := u.toNat_lt
    have e9 : (9 : UInt32).toNat % 32 = 9 := by decide
    rw [e9, Nat.shiftRight_eq_div_pow]
    omega
  generalize u >>> 9 = w at h1 ⊢
  have h2 : w.toInt32.toInt = (w.toNat : Int) := by
    rw [← Int32.toInt_toBitVec, UInt32.toBitVec_toInt32, BitVec.toInt_eq_toNat_cond, UInt32.toNat_toBitVec, if_pos (by omega)]
  rw [h2]
  omega
theorem lnZ_4 (seed : Int) (c : Nat) : lnZ seed c < 4 ∧ ((lnZ seed c : Nat) : Int) = wrem (wush (zN seed (c + 1)) 9) 4 := by
  have h := wush9 (zN seed (c + 1))
  have h2 := wrem_eq (a := wush (zN seed (c + 1)) 9) (b := 4) (by omega) (by omega)
  have h3 : (wush (zN seed (c + 1)) 9).tmod 4 = (wush (zN seed (c + 1)) 9) % 4 := Int.tmod_eq_emod_of_nonneg h.1
  unfold lnZ
  rw [h2, h3]
  omega
theorem seedL {seed : Int} {z1 : PV} : ∀ (j x : Nat) (s : Sg), x + j = n → YC ft n v eg s → mbr (lnZ seed) x s → ∃ s', EV (d + 1) mX7_spreadBySeed (8, [vr 13 0, z1, vi (zN seed x), vi (x : Int)], [], s) = some (none, s') ∧ mbr (lnZ seed) n s' ∧ (∀ c, c ≠ 14 → s' c = s c) := by
  intro j
  induction j with
  | zero =>
    intro x s hx hy hm
    have hx : x = n := by omega
    subst hx
    rw [qX7_spreadBySeed_8, YC_size hy, bI_s, if_neg (by omega)]
    exact ⟨s, rfl, hm, fun _ _ => rfl⟩
  | succ j ih =>
    intro x s hx hy hm
    have h6 := hy.2.1.1
    obtain ⟨l4, le⟩ := lnZ_4 seed x
    obtain ⟨s1, a1, a2, a3⟩ := joinY (d := d) hm (by omega) l4
    have ez : w32 (w32 (zN seed x * 1103515245) + 12345) = zN seed (x + 1) := rfl
    rw [qX7_spreadBySeed_8, YC_size hy, bI_s, if_pos (by omega), ez, ← le, a1, bV_s, w32_id (x := (x : Int) + 1) (by omega) (by omega), show (x : Int) + 1 = ((x + 1 : Nat) : Int) by omega]
    obtain ⟨s', b1, b2, b3⟩ := ih (x + 1) s1 (by omega) (YC_fr hy (frY_14 a3)) a2
    exact ⟨s', b1, b2, fun c hc => (b3 c hc).trans (a3 c hc)⟩
theorem seedC {seed : Int} (hy : YC ft n v eg s) : ∃ s', RUN (d + 1) mX7_spreadBySeed [vr 13 0, vi seed] s = some (none, s') ∧ mbr (lnZ seed) n s' ∧ (∀ c, c ≠ 14 → s' c = s c) := by
  obtain ⟨s1, a1, a2, a3⟩ := clearY (d := d) (ln := lnZ seed) (s := s)
  obtain ⟨s', b1, b2, b3⟩ := seedL (d := d) (seed := seed) (z1 := vi seed) n 0 s1 (by omega) (YC_fr hy (frY_14 a3)) a2
  rw [qX7_spreadBySeed, a1, bV_s]
  exact ⟨s', b1, b2, fun c hc => (b3 c hc).trans (a3 c hc)⟩
theorem lanB_rg {l : Int} {set : Nat} (hok : ftOk ft n) : 0 ≤ lanB ft v eg n l set ∧ lanB ft v eg n l set ≤ 10800 := by
  have h := sumN_rg (f := bsum ft (akS v ft) l set (lanR ft v eg n l set).1) n (fun i hi => bsum_rg (lanR_w hok) hi)
  have := hok.1
  unfold lanB
  omega
theorem lanV_rg {l : Int} {set : Nat} : 0 ≤ lanV ft v eg n l set ∧ lanV ft v eg n l set ≤ 200 := vaI_rg 200
def sumT (f : Nat → Int) (k : Nat) (B : Int) : Prop := 0 ≤ sumN f k ∧ sumN f k ≤ B * (k : Int)
theorem sumL_rg {sets : Nat → Nat} (hok : ftOk ft n) : ∀ x, 0 ≤ sumN (fun l => lanB ft v eg n (l : Int) (sets l)) x ∧ sumN (fun l => lanB ft v eg n (l : Int) (sets l)) x ≤ 10800 * (x : Int)
  | 0 => ⟨Int.le_refl 0, Int.le_refl 0⟩
  | x + 1 => by
    have ih := sumL_rg (sets := sets) hok x
    have := lanB_rg (v := v) (eg := eg) (l := (x : Int)) (set := sets x) hok
    rw [sumN]
    omega
theorem sumV_rg {sets : Nat → Nat} : ∀ x, 0 ≤ sumN (fun l => lanV ft v eg n (l : Int) (sets l)) x ∧ sumN (fun l => lanV ft v eg n (l : Int) (sets l)) x ≤ 200 * (x : Int)
  | 0 => ⟨Int.le_refl 0, Int.le_refl 0⟩
  | x + 1 => by
    have ih := sumV_rg (sets := sets) x
    have := lanV_rg (ft := ft) (n := n) (v := v) (eg := eg) (l := (x : Int)) (set := sets x)
    rw [sumN]
    omega
def resAt (ft : Ft) (v : Sem × Sem × Sem) (eg : Bool) (n : Nat) (l : Nat) (set : Nat) (s' : Sg) (c : Nat) : Prop := s' 15 0 c = (lanR ft v eg n l set).1 c ∧ s' 17 0 c = (lanR ft v eg n l set).2.1 c ∧ s' 18 0 c = (lanR ft v eg n l set).2.2.1 c ∧ s' 19 0 c = baI ft (akS v ft) l (lanR ft v eg n l set).1 c
theorem playL {sets : Nat → Nat} (hs : ∀ l, l < 4 → sets l < 64) (hdj : ∀ l l' c, l < 4 → l' < 4 → (sets l).testBit c = true → (sets l').testBit c = true → l = l') : ∀ (j x : Nat) (s : Sg), x + j = 4 → YC ft n v eg s → (∀ l, l < 4 → s 14 0 l = ((sets l : Nat) : Int)) → s 13 0 13 = sumN (fun l => lanV ft v eg n (l : Int) (sets l)) x → (∀ l c, l < x → c < n → (sets l).testBit c = true → resAt ft v eg n l (sets l) s c) → ∃ s', EV (d + 7) mX7_playAll (9, [vr 13 0, vi (sumN (fun l => lanB ft v eg n (l : Int) (sets l)) x), vi (x : Int)], [], s) = some (some (vi (sumN (fun l => lanB ft v eg n (l : Int) (sets l)) 4)), s') ∧ frL s s' ∧ s' 13 0 13 = sumN (fun l => lanV ft v eg n (l : Int) (sets l)) 4 ∧ (∀ l c, l < 4 → c < n → (sets l).testBit c = true → resAt ft v eg n l (sets l) s' c) := by
  intro j
  induction j with
  | zero =>
    intro x s hx hy hm hv hr
    have hx : x = 4 := by omega
    subst hx
    rw [qX7_playAll_9, if_neg (by decide)]
    exact ⟨s, rfl, frL_refl s, hv, hr⟩
  | succ j ih =>
    intro x s hx hy hm hv hr
    have hB := sumL_rg (v := v) (eg := eg) (sets := sets) hy.2.1 x
    have hV := sumV_rg (ft := ft) (n := n) (v := v) (eg := eg) (sets := sets) x
    have hb := lanB_rg (v := v) (eg := eg) (l := (x : Int)) (set := sets x) hy.2.1
    obtain ⟨s1, a1, a2, a3, a4, a5⟩ := playC (d := d) (l := (x : Int)) (set := sets x) (hs x (by omega)) (by omega) hy
    rw [qX7_playAll_9, if_pos (by omega), if_pos (show inb (x : Int) 4 by constructor <;> omega), Int.toNat_natCast, hm x (by omega), a1, bI_s, w32_id (by omega) (by omega), w32_id (by omega) (by omega), show (x : Int) + 1 = ((x + 1 : Nat) : Int) by omega]
    have e14 : s1 14 = s 14 := a2.1 14 (by decide) (by decide) (by decide) (by decide) (by decide) (by decide) (by decide) (by decide) (by decide)
    obtain ⟨s', b1, b2, b3, b4⟩ := ih (x + 1) s1 (by omega) (YC_fr hy (frY_L a2)) (fun l hl => by rw [e14]; exact hm l hl) (by rw [a5 (by omega) (by omega), hv]; rfl)
      (fun l c h1 h2 h3 => by
        by_cases e : l = x
        · subst e; exact a3 c h2 h3
        · obtain ⟨r1, r2, r3, r4⟩ := hr l c (by omega) h2 h3
          obtain ⟨o1, o2, o3, o4⟩ := a4 c (fun q => e (hdj l x c (by omega) (by omega) h3 q.2))
          exact ⟨o1.trans r1, o2.trans r2, o3.trans r3, o4.trans r4⟩)
    exact ⟨s', b1, frL_tr a2 b2, b3, b4⟩
theorem playAllC {sets : Nat → Nat} (hs : ∀ l, l < 4 → sets l < 64) (hdj : ∀ l l' c, l < 4 → l' < 4 → (sets l).testBit c = true → (sets l').testBit c = true → l = l') (hy : YC ft n v eg s) (hm : ∀ l, l < 4 → s 14 0 l = ((sets l : Nat) : Int)) : ∃ s', RUN (d + 7) mX7_playAll [vr 13 0] s = some (some (vi (sumN (fun l => lanB ft v eg n (l : Int) (sets l)) 4)), s') ∧ frL s s' ∧ s' 13 0 13 = sumN (fun l => lanV ft v eg n (l : Int) (sets l)) 4 ∧ (∀ l c, l < 4 → c < n → (sets l).testBit c = true → resAt ft v eg n l (sets l) s' c) := by
  have f0 : frL s (up s 13 0 13 0) := ⟨fun c _ _ a3 _ _ _ _ _ _ => up_c a3, up_i (by decide)⟩
  obtain ⟨s', b1, b2, b3, b4⟩ := playL (d := d) (v := v) (eg := eg) (ft := ft) (n := n) hs hdj 4 0 (up s 13 0 13 0) (by omega) (YC_fr hy (frY_L f0)) (fun l hl => by rw [up_c (by decide)]; exact hm l hl) (up_hit _ _ _ _ _) (fun l c h => by omega)
  rw [qX7_playAll]
  exact ⟨s', b1, frL_tr f0 b2, b3, b4⟩
end YA
