/-! YARD 6: the badness of a lane; a lane, whole -/
def sumN (f : Nat → Int) : Nat → Int
  | 0 => 0
  | k + 1 => sumN f k + f k
theorem sumN_rg {f : Nat → Int} : ∀ (k : Nat), (∀ i, i < k → 0 ≤ f i ∧ f i ≤ 1800) → 0 ≤ sumN f k ∧ sumN f k ≤ 1800 * (k : Int)
  | 0, _ => ⟨Int.le_refl 0, Int.le_refl 0⟩
  | k + 1, h => by
    have ih := sumN_rg k (fun i hi => h i (by omega))
    have := h k (by omega)
    rw [sumN]
    omega
theorem sumN_ext {f g : Nat → Int} : ∀ (k : Nat), (∀ i, i < k → f i = g i) → sumN f k = sumN g k
  | 0, _ => rfl
  | k + 1, h => by rw [sumN, sumN, sumN_ext k (fun i hi => h i (by omega)), h k (by omega)]
def waI (ft : Ft) (st : Nat → Int) (c : Nat) : Int := (if st c = -1 then 200 else st c) - ft 3 c
def baI (ft : Ft) (ak : Ak) (l : Int) (st : Nat → Int) (c : Nat) : Int := mindI ft ak c l * waI ft st c
theorem baI_rg {ft : Ft} {ak : Ak} {l : Int} {st : Nat → Int} {c : Nat} (h : 0 ≤ waI ft st c ∧ waI ft st c ≤ 200) : 0 ≤ baI ft ak l st c ∧ baI ft ak l st c ≤ 1800 := by
  have hm := clampI_rg (hi := 9) (x := ak 2 c l (ft 3 c) 0) (by decide)
  unfold baI mindI
  constructor
  · exact Int.mul_nonneg hm.1 h.1
  · calc clampI 9 (ak 2 c l (ft 3 c) 0) * waI ft st c ≤ 9 * waI ft st c := Int.mul_le_mul_of_nonneg_right hm.2 h.1
      _ ≤ 1800 := by omega
section YB
variable {ft : Ft} {n : Nat} {v : Sem × Sem × Sem} {eg : Bool} {d c : Nat} {l : Int} {s : Sg}
theorem startsC (h : YC ft n v eg s) (hc : c < n) : RUN (d + 1) mX7_starts [vr 13 0, vi (c : Int)] s = some (some (vi (s 15 0 c)), s) := by
  have h6 := h.2.1.1
  rw [qX7_starts, YC_has h, bI_s, b01, if_pos (by omega), if_pos (show inb (c : Int) 6 by constructor <;> omega), Int.toNat_natCast]
theorem offC (h : YC ft n v eg s) (hc : c < n) : RUN (d + 1) mX7_off [vr 13 0, vi (c : Int)] s = some (some (vi (s 17 0 c)), s) := by
  have h6 := h.2.1.1
  rw [qX7_off, YC_has h, bI_s, b01, if_pos (by omega), if_pos (show inb (c : Int) 6 by constructor <;> omega), Int.toNat_natCast]
theorem placeC (h : YC ft n v eg s) (hc : c < n) : RUN (d + 1) mX7_place [vr 13 0, vi (c : Int)] s = some (some (vi (s 18 0 c)), s) := by
  have h6 := h.2.1.1
  rw [qX7_place, YC_has h, bI_s, b01, if_pos (by omega), if_pos (show inb (c : Int) 6 by constructor <;> omega), Int.toNat_natCast]
theorem shareC (h : YC ft n v eg s) (hc : c < n) : RUN (d + 1) mX7_share [vr 13 0, vi (c : Int)] s = some (some (vi (s 19 0 c)), s) := by
  have h6 := h.2.1.1
  rw [qX7_share, YC_has h, bI_s, b01, if_pos (by omega), if_pos (show inb (c : Int) 6 by constructor <;> omega), Int.toNat_natCast]
theorem waitedC (h : YC ft n v eg s) (hc : c < n) (hr : -1 ≤ s 15 0 c ∧ s 15 0 c ≤ 200) : RUN (d + 2) mX7_waited [vr 13 0, vi (c : Int)] s = some (some (vi (waI ft (s 15 0) c)), s) := by
  have hf := h.2.1.2 c hc
  rw [qX7_waited, startsC h hc, bI_s]
  unfold waI
  by_cases h1 : s 15 0 c = -1
  · rw [if_pos h1, if_pos h1, qX7_waited_20, show RUN (d + 1) mX1_tell [vr 1 0, vi 3, vi (c : Int)] s = _ from YC_tell (f := 3) h hc (by omega), bI_s, w32_id (by omega) (by omega)]
  · rw [if_neg h1, if_neg h1, startsC h hc, bI_s, qX7_waited_20, show RUN (d + 1) mX1_tell [vr 1 0, vi 3, vi (c : Int)] s = _ from YC_tell (f := 3) h hc (by omega), bI_s, w32_id (by omega) (by omega)]
/-- what the badness may change -/
def frB (s s' : Sg) : Prop := ∀ c, c ≠ 9 → c ≠ 10 → c ≠ 19 → s' c = s c
theorem frB_tr {s1 s2 s3 : Sg} (h1 : frB s1 s2) (h2 : frB s2 s3) : frB s1 s3 := fun c a1 a2 a3 => (h2 c a1 a2 a3).trans (h1 c a1 a2 a3)
theorem frY_B {s s' : Sg} (h : frB s s') : frY s s' := ⟨fun c hc => h c (by omega) (by omega) (by omega), by rw [h 13 (by decide) (by decide) (by decide)]⟩
def okW (ft : Ft) (n set : Nat) (st : Nat → Int) : Prop := ∀ c, c < n → set.testBit c = true → -1 ≤ st c ∧ st c ≤ 200 ∧ 0 ≤ waI ft st c ∧ waI ft st c ≤ 200
def bsum (ft : Ft) (ak : Ak) (l : Int) (set : Nat) (st : Nat → Int) (c : Nat) : Int := if set.testBit c = true then baI ft ak l st c else 0
theorem bsum_rg {ak : Ak} {set : Nat} {st : Nat → Int} (h : okW ft n set st) (hc : c < n) : 0 ≤ bsum ft ak l set st c ∧ bsum ft ak l set st c ≤ 1800 := by
  unfold bsum
  by_cases hb : set.testBit c = true
  · rw [if_pos hb]; exact baI_rg (h c hc hb).2.2
  · rw [if_neg hb]; decide
theorem badC {set : Nat} (hset : set < 64) : ∀ (j c : Nat) (s : Sg), c + j = n → YC ft n v eg s → okW ft n set (s 15 0) → ∃ s', EV (d + 3) mX7_badness (5, [vr 13 0, vi l, vi (set : Int), vi (sumN (bsum ft (akS v ft) l set (s 15 0)) c), vi (c : Int)], [], s) = some (some (vi (sumN (bsum ft (akS v ft) l set (s 15 0)) n)), s') ∧ frB s s' ∧ (∀ i, c ≤ i → i < n → set.testBit i = true → s' 19 0 i = baI ft (akS v ft) l (s 15 0) i) ∧ (∀ i, ¬ (c ≤ i ∧ i < n ∧ set.testBit i = true) → s' 19 0 i = s 19 0 i) := by
  intro j
  induction j with
  | zero =>
    intro c s hc hy hw
    have hc : c = n := by omega
    subst hc
    rw [qX7_badness_5, YC_size hy, bI_s, if_neg (by omega)]
    exact ⟨s, rfl, fun _ _ _ _ => rfl, fun i h1 h2 => by omega, fun i _ => rfl⟩
  | succ j ih =>
    intro c s hc hy hw
    have h6 := hy.2.1.1
    have hs := sumN_rg (f := bsum ft (akS v ft) l set (s 15 0)) c (fun i hi => bsum_rg hw (by omega))
    have hs1 := bsum_rg (ak := akS v ft) (l := l) (c := c) hw (by omega)
    rw [qX7_badness_5, YC_size hy, bI_s, if_pos (by omega), wbit set hset c (by omega), b01]
    by_cases hb : set.testBit c = true
    · obtain ⟨w1, w2, w3, w4⟩ := hw c (by omega) hb
      have hba := baI_rg (ak := akS v ft) (l := l) ⟨w3, w4⟩
      obtain ⟨s1, a1, a2⟩ := mindsC (d := d) (c := c) (l := l) hy (by omega)
      have hy1 := YC_fr hy (frY_A a2)
      have e15 : s1 15 = s 15 := a2 15 (by decide) (by decide)
      rw [if_pos hb, a1, bI_s, waitedC hy1 (by omega) (by rw [e15]; exact ⟨w1, w2⟩), bI_s, if_pos (show inb (c : Int) 6 by constructor <;> omega), if_pos (show inb (c : Int) 6 by constructor <;> omega), Int.toNat_natCast, e15, up_hit]
      have eb : w32 (mindI ft (akS v ft) c l * waI ft (s 15 0) c) = baI ft (akS v ft) l (s 15 0) c := w32_id (by unfold baI at hba; omega) (by unfold baI at hba; omega)
      have es : sumN (bsum ft (akS v ft) l set (s 15 0)) (c + 1) = sumN (bsum ft (akS v ft) l set (s 15 0)) c + baI ft (akS v ft) l (s 15 0) c := by
        rw [sumN]
        unfold bsum
        rw [if_pos hb]
      rw [eb, qX7_badness_57, w32_id (by omega) (by omega), w32_id (by omega) (by omega), ← es, show (c : Int) + 1 = ((c + 1 : Nat) : Int) by omega]
      have f2 : frB s (up s1 19 0 c (baI ft (akS v ft) l (s 15 0) c)) := fun q q1 q2 q3 => (up_c q3).trans (a2 q q1 q2)
      have e15' : up s1 19 0 c (baI ft (akS v ft) l (s 15 0) c) 15 = s 15 := (up_c (by decide)).trans e15
      obtain ⟨s', c1, c2, c3, c4⟩ := ih (c + 1) (up s1 19 0 c (baI ft (akS v ft) l (s 15 0) c)) (by omega) (YC_fr hy (frY_B f2)) (by rw [e15']; exact hw)
      rw [e15'] at c1 c3
      refine ⟨s', c1, frB_tr f2 c2, fun i h1 h2 h3 => ?_, fun i h => ?_⟩
      · by_cases e : i = c
        · rw [e, c4 c (fun q => by omega), up_hit]
        · exact c3 i (by omega) h2 h3
      · by_cases e : i = c
        · exact absurd ⟨by omega, by omega, by rw [e]; exact hb⟩ h
        · rw [c4 i (fun q => h ⟨by omega, q.2⟩), up_i e, a2 19 (by decide) (by decide)]
    · have es : sumN (bsum ft (akS v ft) l set (s 15 0)) (c + 1) = sumN (bsum ft (akS v ft) l set (s 15 0)) c := by
        rw [sumN]
        unfold bsum
        rw [if_neg hb]
        omega
      rw [if_neg hb, qX7_badness_57, w32_id (by omega) (by omega), ← es, show (c : Int) + 1 = ((c + 1 : Nat) : Int) by omega]
      obtain ⟨s', c1, c2, c3, c4⟩ := ih (c + 1) s (by omega) hy hw
      refine ⟨s', c1, c2, fun i h1 h2 h3 => ?_, fun i h => ?_⟩
      · by_cases e : i = c
        · exact absurd (by rw [← e]; exact h3) hb
        · exact c3 i (by omega) h2 h3
      · exact c4 i (fun q => h ⟨by omega, q.2⟩)
theorem va_agr {ak : Ak} {S : Nat → Bool} {L L' : LaS} (h : agr n S L L') : ∀ k, vaI ft ak eg n l S L k = vaI ft ak eg n l S L' k
  | 0 => rfl
  | k + 1 => by
    have := (agr_run (ft := ft) (ak := ak) (eg := eg) (l := l) h (k + 1)).2.1
    rw [vaI, vaI, va_agr h k, this]
/-- what a lane may change -/
def frL (s s' : Sg) : Prop := (∀ c, c ≠ 9 → c ≠ 10 → c ≠ 13 → c ≠ 15 → c ≠ 16 → c ≠ 17 → c ≠ 18 → c ≠ 19 → c ≠ 20 → s' c = s c) ∧ s' 13 0 14 = s 13 0 14
theorem frL_refl (s : Sg) : frL s s := ⟨fun _ _ _ _ _ _ _ _ _ _ => rfl, rfl⟩
theorem frL_tr {s1 s2 s3 : Sg} (h1 : frL s1 s2) (h2 : frL s2 s3) : frL s1 s3 := ⟨fun c a1 a2 a3 a4 a5 a6 a7 a8 a9 => (h2.1 c a1 a2 a3 a4 a5 a6 a7 a8 a9).trans (h1.1 c a1 a2 a3 a4 a5 a6 a7 a8 a9), h2.2.trans h1.2⟩
theorem frY_L {s s' : Sg} (h : frL s s') : frY s s' := ⟨fun c hc => h.1 c (by omega) (by omega) (by omega) (by omega) (by omega) (by omega) (by omega) (by omega) (by omega), h.2⟩
def bitS (set : Nat) : Nat → Bool := fun c => set.testBit c
/-- the lane's outcome -/
def lanR (ft : Ft) (v : Sem × Sem × Sem) (eg : Bool) (n : Nat) (l : Int) (set : Nat) : LaS := resI ft (akS v ft) eg n l (bitS set)
def lanB (ft : Ft) (v : Sem × Sem × Sem) (eg : Bool) (n : Nat) (l : Int) (set : Nat) : Int := sumN (bsum ft (akS v ft) l set (lanR ft v eg n l set).1) n
def lanV (ft : Ft) (v : Sem × Sem × Sem) (eg : Bool) (n : Nat) (l : Int) (set : Nat) : Int := vaI ft (akS v ft) eg n l (bitS set) cn0 200
theorem hcar_w {L : LaS} {set : Nat} (hok : ftOk ft n) (h : hist n (bitS set) ft 200 L) : okW ft n set L.1 := by
  intro c hc hb
  have hf := hok.2 c hc
  unfold waI
  rcases h.1 c hc hb with q | q | q
  · rw [if_pos q.1]; omega
  · rw [if_neg (by omega)]; omega
  · rw [if_neg (by omega)]; omega
theorem lanR_w {set : Nat} (hok : ftOk ft n) : okW ft n set (lanR ft v eg n l set).1 := hcar_w hok (hist_run (ak := akS v ft) (eg := eg) (l := l) (cn_hist (n := n) (S := bitS set) (ft := ft)) 200)
theorem playC {set : Nat} (hset : set < 64) (hl : 0 ≤ l ∧ l < 4) (hy : YC ft n v eg s) : ∃ s', RUN (d + 6) mX7_playLane [vr 13 0, vi l, vi (set : Int)] s = some (some (vi (lanB ft v eg n l set)), s') ∧ frL s s' ∧ (∀ c, c < n → set.testBit c = true → s' 15 0 c = (lanR ft v eg n l set).1 c ∧ s' 17 0 c = (lanR ft v eg n l set).2.1 c ∧ s' 18 0 c = (lanR ft v eg n l set).2.2.1 c ∧ s' 19 0 c = baI ft (akS v ft) l (lanR ft v eg n l set).1 c) ∧ (∀ c, ¬ (c < n ∧ set.testBit c = true) → s' 15 0 c = s 15 0 c ∧ s' 17 0 c = s 17 0 c ∧ s' 18 0 c = s 18 0 c ∧ s' 19 0 c = s 19 0 c) ∧ (0 ≤ s 13 0 13 → s 13 0 13 ≤ 100000 → s' 13 0 13 = s 13 0 13 + lanV ft v eg n l set) := by
  obtain ⟨s1, hs1, f11, f12, f9, f15⟩ : ∃ s1, up (up s 13 0 11 (-1)) 13 0 12 (-1) = s1 ∧ s1 13 0 11 = -1 ∧ s1 13 0 12 = -1 ∧ (∀ i, i ≠ 11 → i ≠ 12 → s1 13 0 i = s 13 0 i) ∧ (∀ c, c ≠ 13 → s1 c = s c) := ⟨_, rfl, by rw [up_i (by decide), up_hit], up_hit _ _ _ _ _, fun i h1 h2 => by rw [up_i h2, up_i h1], fun c hc => by rw [up_c hc, up_c hc]⟩
  have hy1 : YC ft n v eg s1 := YC_fr hy ⟨fun c hc => f15 c (by omega), f9 14 (by decide) (by decide)⟩
  obtain ⟨s2, hs2, g9, g10, gf, g13⟩ : ∃ s2, up (up s1 13 0 9 0) 13 0 10 0 = s2 ∧ s2 13 0 9 = ((0 : Nat) : Int) ∧ s2 13 0 10 = 0 ∧ (∀ c, c ≠ 13 → s2 c = s1 c) ∧ (∀ i, i ≠ 9 → i ≠ 10 → s2 13 0 i = s1 13 0 i) := ⟨_, rfl, by rw [up_i (by decide), up_hit]; rfl, up_hit _ _ _ _ _, fun c hc => by rw [up_c hc, up_c hc], fun i h1 h2 => by rw [up_i h2, up_i h1]⟩
  have hy2 : YC ft n v eg s2 := YC_fr hy1 ⟨fun c hc => gf c (by omega), g13 14 (by decide) (by decide)⟩
  have q0 : que ft l (fun c => set.testBit c) 0 0 (s2 20 0) := ⟨Nat.le_refl _, fun i hi => by omega, fun i j h1 h2 => by omega, fun c hc => by omega⟩
  obtain ⟨k, s3, a1, a2, a3, a4, a5, a6, a7⟩ := lineC (d := d + 3) (set := set) hset hl n 0 0 UU s2 s2 (by omega) hy2 q0 g9 g10 ⟨fun _ _ _ _ _ _ => rfl, fun _ _ _ => rfl⟩ (fun c hc => by omega) (fun c _ => ⟨rfl, rfl, rfl⟩)
  have hy3 : YC ft n v eg s3 := YC_fr hy2 (frY_Q a5)
  have t11 : s3 13 0 11 = -1 := (a5.2 11 (by decide) (by decide)).trans ((g13 11 (by decide) (by decide)).trans f11)
  have t12 : s3 13 0 12 = -1 := (a5.2 12 (by decide) (by decide)).trans ((g13 12 (by decide) (by decide)).trans f12)
  have t13 : s3 13 0 13 = s 13 0 13 := (a5.2 13 (by decide) (by decide)).trans ((g13 13 (by decide) (by decide)).trans (f9 13 (by decide) (by decide)))
  have hL3 : LI ft n v eg l (bitS set) k 0 s3 := ⟨hy3, a2, a3, a4, ⟨Nat.zero_le _, fun i hi => by
    obtain ⟨c, c1, c2, c3, c4⟩ := a2.2.1 i hi
    rw [c1, Int.toNat_natCast]
    exact ⟨fun _ => Nat.zero_le _, fun _ => (a6 c c2 c3).1⟩⟩⟩
  have hag : agr n (bitS set) (laS s3) cn0 := agr0 (fun c h1 h2 => a6 c h1 h2) t11 t12
  have hh0 : hist n (bitS set) ft 0 (laS s3) := hist0 (fun c h1 h2 => a6 c h1 h2) t11 t12
  obtain ⟨s4, z, b1, b2, b3, b4⟩ := minsC (d := d) (v := v) (eg := eg) (l := l) (set := (set : Int)) (k := k) hh0 200 0 0 s3 (by omega) hL3 rfl
  have hagR := agr_run (ft := ft) (ak := akS v ft) (eg := eg) (l := l) hag 200
  have eR : runI ft (akS v ft) eg n l (bitS set) cn0 200 = lanR ft v eg n l set := by unfold lanR resI; rfl
  rw [← b2, eR] at hagR
  have hy4 : YC ft n v eg s4 := YC_fr hy3 (frY_V b4)
  have hW : okW ft n set (s4 15 0) := by
    have := hist_run (ak := akS v ft) (eg := eg) (l := l) hh0 200
    rw [← b2] at this
    exact hcar_w hy.2.1 this
  obtain ⟨s5, c1, c2, c3, c4⟩ := badC (d := d + 1) (l := l) hset n 0 s4 (by omega) hy4 hW
  have hst : ∀ c, c < n → set.testBit c = true → s4 15 0 c = (lanR ft v eg n l set).1 c ∧ s4 17 0 c = (lanR ft v eg n l set).2.1 c ∧ s4 18 0 c = (lanR ft v eg n l set).2.2.1 c := fun c h1 h2 => hagR.1 c h1 h2
  have hba : ∀ c, c < n → set.testBit c = true → baI ft (akS v ft) l (s4 15 0) c = baI ft (akS v ft) l (lanR ft v eg n l set).1 c := by
    intro c h1 h2
    unfold baI waI
    rw [(hst c h1 h2).1]
  have hsum : sumN (bsum ft (akS v ft) l set (s4 15 0)) n = lanB ft v eg n l set := by
    refine sumN_ext n (fun c hc => ?_)
    unfold bsum
    by_cases hb : set.testBit c = true
    · rw [if_pos hb, if_pos hb, hba c hc hb]
    · rw [if_neg hb, if_neg hb]
  have hr : RUN (d + 6) mX7_playLane [vr 13 0, vi l, vi (set : Int)] s = some (some (vi (lanB ft v eg n l set)), s5) := by
    rw [qX7_playLane, hs1, qX7_lineUp, hs2, show EV (d + 5) mX7_lineUp (12, [vr 13 0, vi l, vi (set : Int), vi 0, UU], [], s2) = _ from a1, bV_s, show EV (d + 5 + 1) mX7_playLane (18, [vr 13 0, vi l, vi (set : Int), vi 0], [], s3) = _ from EV_deep (Nat.le_succ _) (show EV (d + 5) mX7_playLane (18, [vr 13 0, vi l, vi (set : Int), vi 0], [], s3) = some (some (vi (lanB ft v eg n l set)), s5) from by
      rw [show EV (d + 5) mX7_playLane (18, [vr 13 0, vi l, vi (set : Int), vi 0], [], s3) = _ from b1, qX7_playLane_98, qX7_badness, show EV (d + 4) mX7_badness (5, [vr 13 0, vi l, vi (set : Int), vi 0, vi 0], [], s4) = _ from c1, bI_s, hsum])]
  refine ⟨s5, hr, ⟨fun c q1 q2 q3 q4 q5 q6 q7 q8 q9 => ?_, ?_⟩, fun c h1 h2 => ?_, fun c h => ?_, fun q1 q2 => ?_⟩
  · rw [c2 c q1 q2 q8, b4.1 c q1 q2 q3 q4 q5 q6 q7, a5.1 c q3 q4 q6 q7 q9, gf c q3, f15 c q3]
  · rw [c2 13 (by decide) (by decide) (by decide), b4.2 14 (by decide) (by decide) (by decide) (by decide), a5.2 14 (by decide) (by decide), g13 14 (by decide) (by decide), f9 14 (by decide) (by decide)]
  · obtain ⟨x1, x2, x3⟩ := hst c h1 h2
    rw [c2 15 (by decide) (by decide) (by decide), c2 17 (by decide) (by decide) (by decide), c2 18 (by decide) (by decide) (by decide), c3 c (Nat.zero_le _) h1 h2, hba c h1 h2]
    exact ⟨x1, x2, x3, rfl⟩
  · have ho := run_out (ak := akS v ft) (eg := eg) (l := l) hh0 200 c h
    rw [← b2] at ho
    obtain ⟨y1, y2, y3⟩ := a7 c h
    have o1 : s4 15 0 c = s3 15 0 c := ho.1
    have o2 : s4 17 0 c = s3 17 0 c := ho.2.1
    have o3 : s4 18 0 c = s3 18 0 c := ho.2.2
    rw [c2 15 (by decide) (by decide) (by decide), c2 17 (by decide) (by decide) (by decide), c2 18 (by decide) (by decide) (by decide), o1, o2, o3, y1, y2, y3, c4 c (fun q => h q.2), b4.1 19 (by decide) (by decide) (by decide) (by decide) (by decide) (by decide) (by decide), a5.1 19 (by decide) (by decide) (by decide) (by decide) (by decide), gf 19 (by decide), gf 15 (by decide), gf 17 (by decide), gf 18 (by decide), f15 19 (by decide), f15 15 (by decide), f15 17 (by decide), f15 18 (by decide)]
    exact ⟨rfl, rfl, rfl, rfl⟩
  · rw [c2 13 (by decide) (by decide) (by decide), b3 (by rw [t13]; exact q1) (by rw [t13]; omega), t13, va_agr hag 200]
    show s 13 0 13 + (vaI ft (akS v ft) eg n l (bitS set) cn0 200 - 0) = _
    unfold lanV
    omega
end YB
