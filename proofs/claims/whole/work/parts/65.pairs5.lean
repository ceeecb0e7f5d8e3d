/-! LAW 6: what a fleet's lanes don't touch; times, drawn, forward -/
def sameF (n : Nat) (ft ft' : Ft) : Prop := ∀ c, c < n → ∀ f, f ≠ 2 → ft f c = ft' f c
section CG
variable {ft ft' : Ft} {n : Nat} {v : Sem × Sem × Sem} {eg : Bool} {l m : Int} {S : Nat → Bool}
theorem ak_same {k c : Nat} {a : Int} (h : sameF n ft ft') (hc : c < n) : akS v ft k c l m a = akS v ft' k c l m a := by
  unfold akS
  have e : envI ft c l m a = envI ft' c l m a := by
    funext q
    unfold envI
    rw [h c hc 1 (by decide), h c hc 0 (by decide), h c hc 4 (by decide)]
  rw [e]
theorem nxt_same {st : Nat → Int} (h : sameF n ft ft') : ∀ k, k ≤ n → nxtI ft l S m st k = nxtI ft' l S m st k
  | 0, _ => rfl
  | k + 1, hk => by
    have ih := nxt_same (st := st) h k (by omega)
    have e3 := h k (by omega) 3 (by decide)
    have hc : candB ft l S m st k = candB ft' l S m st k := by
      unfold candB
      rw [e3, h k (by omega) 5 (by decide), h k (by omega) 1 (by decide)]
    rw [nxtI, nxtI, hc, ih, e3]
    rcases nxt_lt (ft := ft') (l := l) (S := S) (m := m) (st := st) k with q | ⟨c, q1, q2, q3⟩
    · rw [q]
      by_cases hh : candB ft' l S m st k = true
      · rw [if_pos hh, if_pos hh, if_pos (Or.inl rfl), if_pos (Or.inl rfl)]
      · rw [if_neg hh, if_neg hh]
    · rw [q2, Int.toNat_natCast, h c (by omega) 3 (by decide)]
theorem take_same {c : Nat} {a : Int} (h : sameF n ft ft') (hc : c < n) : takeI ft (akS v ft) c l m a = takeI ft' (akS v ft') c l m a := by
  unfold takeI
  rw [ak_same h hc, h c hc 5 (by decide), h c hc 4 (by decide), h c hc 0 (by decide)]
theorem draw_same {c : Nat} (h : sameF n ft ft') (hc : c < n) : drawB ft (akS v ft) eg c l m = drawB ft' (akS v ft') eg c l m := by
  unfold drawB
  rw [ak_same h hc, h c hc 5 (by decide), h c hc 0 (by decide)]
theorem beg_same {c : Nat} {a pu : Int} {L : LaS} (h : sameF n ft ft') (hc : c < n) : begI ft (akS v ft) l m a c pu L = begI ft' (akS v ft') l m a c pu L := by
  unfold begI
  rw [take_same h hc]
theorem dr2_same {L : LaS} (h : sameF n ft ft') : dr2 ft (akS v ft) n l S m L = dr2 ft' (akS v ft') n l S m L := by
  unfold dr2
  rw [nxt_same h n (Nat.le_refl _)]
  rcases nxt_lt (ft := ft') (l := l) (S := S) (m := m) (st := L.1) n with q | ⟨c, q1, q2, q3⟩
  · rw [if_pos q, if_pos q]
  · rw [q2, Int.toNat_natCast, h c q1 5 (by decide)]
    unfold atB
    rw [beg_same h q1]
theorem dr1_same {L : LaS} (h : sameF n ft ft') : dr1 ft (akS v ft) eg n l S m L = dr1 ft' (akS v ft') eg n l S m L := by
  unfold dr1
  rw [nxt_same h n (Nat.le_refl _)]
  rcases nxt_lt (ft := ft') (l := l) (S := S) (m := m) (st := L.1) n with q | ⟨c, q1, q2, q3⟩
  · rw [if_pos q, if_pos q]
  · rw [q2, Int.toNat_natCast, h c q1 5 (by decide), draw_same h q1, dr2_same h]
    unfold atB at2 atF
    rw [beg_same h q1, beg_same h q1, beg_same h q1]
theorem run_same {L : LaS} (h : sameF n ft ft') : ∀ k, runI ft (akS v ft) eg n l S L k = runI ft' (akS v ft') eg n l S L k
  | 0 => rfl
  | k + 1 => by
    rw [runI, runI, run_same h k]
    unfold minI
    rw [dr1_same h]
theorem lanR_same {set : Nat} (h : sameF n ft ft') : lanR ft v eg n l set = lanR ft' v eg n l set := by
  unfold lanR resI
  exact run_same h 200
theorem msk_ext {P Q : Nat → Bool} : ∀ k, (∀ c, c < k → P c = Q c) → msk P k = msk Q k
  | 0, _ => rfl
  | k + 1, h => by rw [msk, msk, msk_ext k (fun c hc => h c (by omega)), h k (by omega)]
theorem setN_ext {ln ln' : Nat → Nat} {l : Nat} (h : ∀ c, c < n → ln c = ln' c) : setN ln n l = setN ln' n l := msk_ext n (fun c hc => by rw [h c hc])
theorem carL_same {ln ln' : Nat → Nat} {c : Nat} (h : sameF n ft ft') (hl : ∀ c, c < n → ln c = ln' c) (hc : c < n) : carL ft v eg n ln c = carL ft' v eg n ln' c := by
  rw [carL_eq, carL_eq, hl c hc, setN_ext hl, lanR_same h]
theorem carB_same {ln ln' : Nat → Nat} {c : Nat} (h : sameF n ft ft') (hl : ∀ c, c < n → ln c = ln' c) (hc : c < n) : carB ft v eg n ln c = carB ft' v eg n ln' c := by
  rw [carB_eq, carB_eq, carL_same h hl hc, hl c hc]
  unfold baI mindI waI
  rw [ak_same h hc, h c hc 3 (by decide)]
theorem totB_same {ln ln' : Nat → Nat} (h : sameF n ft ft') (hl : ∀ c, c < n → ln c = ln' c) : totB ft v eg n ln = totB ft' v eg n ln' := sumN_ext n (fun c hc => carB_same h hl hc)
end CG
section P5
variable {ft : Ft} {n : Nat} {sm : Nat → Sem × Sem × Sem} {tn t : Nat} {s s' : Sg} {d : Nat}
theorem frI_now (h : ∀ c, c ≠ 9 → c ≠ 10 → c ≠ 13 → c ≠ 14 → c ≠ 15 → c ≠ 16 → c ≠ 17 → c ≠ 18 → c ≠ 19 → c ≠ 20 → s' c = s c) (h14 : s' 13 0 14 = s 13 0 14) : frI s s' := ⟨fun c hc => h c (by omega) (by omega) (by omega) (by omega) (by omega) (by omega) (by omega) (by omega) (by omega) (by omega), by rw [h 11 (by decide) (by decide) (by decide) (by decide) (by decide) (by decide) (by decide) (by decide) (by decide) (by decide)], h14, fun i _ => by rw [h 32 (by decide) (by decide) (by decide) (by decide) (by decide) (by decide) (by decide) (by decide) (by decide) (by decide)]⟩
theorem p_times (x y : Int) : PAIR mX8_times mX9_times [vi x, vi y] := by
  refine pair_ro (fun ft n sm _ t => vi (if (0 ≤ x ∧ x < (n : Int)) ∧ 0 ≤ y ∧ y ≤ 3 then (if y = 0 then (carL ft (sm t) false n (lnF ft) x.toNat).1 x.toNat else if y = 1 then (carL ft (sm t) false n (lnF ft) x.toNat).2.1 x.toNat else if y = 2 then waI ft (carL ft (sm t) false n (lnF ft) x.toNat).1 x.toNat else (carL ft (sm t) false n (lnF ft) x.toNat).2.2.1 x.toNat) else -2)) (fun ft n sm tn t s h => ?_) (fun ft n sm tn t s h => ?_)
  · have hC := inv_YC h
    rw [qX8_times, YC_has hC, bI_s, b01]
    by_cases hx : 0 ≤ x ∧ x < (n : Int)
    · by_cases hy : 0 ≤ y ∧ y ≤ 3
      · obtain ⟨c, rfl⟩ : ∃ c : Nat, x = (c : Int) := ⟨x.toNat, by omega⟩
        have hcn : c < n := by omega
        obtain ⟨s1, s2, a1, a2, a3, a4, a5, a6, a7⟩ := nowC (d := 52) hC
        obtain ⟨w1, w2, w3, w4⟩ := carL_w (v := sm t) (eg := false) (ln := lnF ft) hC.2.1 hcn
        obtain ⟨o1, o2, o3, o4⟩ := a7.2 c hcn
        have ff := frI_now a5 a6
        rw [if_pos hx, if_pos (show (0 ≤ (c : Int) ∧ (c : Int) < (n : Int)) ∧ 0 ≤ y ∧ y ≤ 3 from ⟨hx, hy⟩), if_neg (show ¬ y < 0 by omega), if_neg (show ¬ 3 < y by omega), a1, bV_s, a2, bI_s, Int.toNat_natCast]
        by_cases y0 : y = 0
        · rw [if_pos y0, if_pos y0, startsC a4 hcn, bI_s, o1]; exact ⟨s2, rfl, ff⟩
        rw [if_neg y0, if_neg y0]
        by_cases y1 : y = 1
        · rw [if_pos y1, if_pos y1, offC a4 hcn, bI_s, o2]; exact ⟨s2, rfl, ff⟩
        rw [if_neg y1, if_neg y1]
        by_cases y2 : y = 2
        · rw [if_pos y2, if_pos y2, waitedC a4 hcn (by rw [o1]; exact ⟨w1, w2⟩), bI_s, (baI_st (ft := ft) (ak := akS (sm t) ft) (l := 0) o1).2]; exact ⟨s2, rfl, ff⟩
        rw [if_neg y2, if_neg y2, placeC a4 hcn, bI_s, o3]; exact ⟨s2, rfl, ff⟩
      · rw [if_pos hx, if_neg (show ¬ ((0 ≤ x ∧ x < (n : Int)) ∧ 0 ≤ y ∧ y ≤ 3) from fun z => hy z.2)]
        by_cases q : y < 0
        · rw [if_pos q]; exact ⟨s, rfl, frI_refl s⟩
        · rw [if_neg q, if_pos (by omega)]; exact ⟨s, rfl, frI_refl s⟩
    · rw [if_neg hx, if_neg (show ¬ ((0 ≤ x ∧ x < (n : Int)) ∧ 0 ≤ y ∧ y ≤ 3) from fun z => hx z.1)]
      exact ⟨s, rfl, frI_refl s⟩
  · have hR := inv_YR h
    have h6 := h.1.2.2.1
    rw [qX9_times, carR hR, bI_s, b01]
    by_cases hx : 0 ≤ x ∧ x < (n : Int)
    · rw [if_pos hx, in_ok, bI_s, b01]
      by_cases hy : 0 ≤ y ∧ y ≤ 3
      · obtain ⟨c, rfl⟩ : ∃ c : Nat, x = (c : Int) := ⟨x.toNat, by omega⟩
        have hcn : c < n := by omega
        have hc6 : c < 6 := by omega
        obtain ⟨s1, a1, a2, a3⟩ := goesAllR (d := 12) hR
        obtain ⟨w1, w2, w3, w4⟩ := carL_w (v := sm t) (eg := false) (ln := lnF ft) hR.2.1 hcn
        obtain ⟨o1, o2, o3⟩ := a3.2 c hcn
        have ff := frI_W a2
        rw [if_pos hy, if_pos (show (0 ≤ (c : Int) ∧ (c : Int) < (n : Int)) ∧ 0 ≤ y ∧ y ≤ 3 from ⟨hx, hy⟩), a1, bV_s, Int.toNat_natCast]
        by_cases y0 : y = 0
        · rw [if_pos y0, if_pos y0, if_pos (inbN hc6), o1]; exact ⟨s1, rfl, ff⟩
        rw [if_neg y0, if_neg y0]
        by_cases y1 : y = 1
        · rw [if_pos y1, if_pos y1, if_pos (inbN hc6), o2]; exact ⟨s1, rfl, ff⟩
        rw [if_neg y1, if_neg y1]
        by_cases y2 : y = 2
        · rw [if_pos y2, if_pos y2, waitR (YR_fr hR (frZ_W a2)) hcn (by rw [o1]; exact ⟨w1, w2⟩), bI_s, (baI_st (ft := ft) (ak := akS (sm t) ft) (l := 0) o1).2]; exact ⟨s1, rfl, ff⟩
        rw [if_neg y2, if_neg y2, if_pos (inbN hc6), o3]; exact ⟨s1, rfl, ff⟩
      · rw [if_neg hy, if_neg (show ¬ ((0 ≤ x ∧ x < (n : Int)) ∧ 0 ≤ y ∧ y ≤ 3) from fun z => hy z.2)]
        exact ⟨s, rfl, frI_refl s⟩
    · rw [if_neg hx, if_neg (show ¬ ((0 ≤ x ∧ x < (n : Int)) ∧ 0 ≤ y ∧ y ≤ 3) from fun z => hx z.1)]
      exact ⟨s, rfl, frI_refl s⟩
/-- drawn by a seed: class -/
theorem drawC {seed : Int} {v : Sem × Sem × Sem} {eg : Bool} (hC : YC ft n v eg s) : ∃ s1 s2, RUN (d + 7) mX7_spreadBySeed [vr 13 0, vi seed] s = some (none, s1) ∧ RUN (d + 7) mX7_playAll [vr 13 0] s1 = some (some (vi (totB ft v eg n (lnZ seed))), s2) ∧ YC ft n v eg s2 ∧ (∀ c, c ≠ 9 → c ≠ 10 → c ≠ 13 → c ≠ 14 → c ≠ 15 → c ≠ 16 → c ≠ 17 → c ≠ 18 → c ≠ 19 → c ≠ 20 → s2 c = s c) ∧ s2 13 0 14 = s 13 0 14 := by
  obtain ⟨s1, a1, a2, a3⟩ := seedC (d := d + 6) (seed := seed) hC
  have hy1 := YC_fr hC (frY_14 a3)
  obtain ⟨s2, b1, b2, b3⟩ := playN (d := d) hy1 (fun c _ => (lnZ_4 seed c).1) a2
  exact ⟨s1, s2, a1, b1, YC_fr hy1 (frY_L b2), fun c q1 q2 q3 q4 q5 q6 q7 q8 q9 q10 => (b2.1 c q1 q2 q3 q5 q6 q7 q8 q9 q10).trans (a3 c q4), b2.2.trans (by rw [a3 13 (by decide)])⟩
/-- lanes told by ln, in the fleet -/
def fLan (ft : Ft) (ln : Nat → Nat) (x : Nat) : Ft := fun f c => if f = 2 ∧ c < x then ((ln c : Nat) : Int) else ft f c
theorem drives4 {seed : Int} {v : Sem × Sem × Sem} {eg : Bool} {z1 z4 : PV} (h0 : YR ft n v eg s) : ∀ (j x : Nat) (s1 : Sg), x + j = n → (∀ c, c ≠ 37 → c ≠ 46 → s1 c = s c) → (∀ c, c < 6 → ∀ f, f < 5 → s1 37 0 (5 * c + f) = if f = 2 ∧ c < x then ((lnZ seed c : Nat) : Int) else s 37 0 (5 * c + f)) → (∀ i, 30 ≤ i → s1 37 0 i = s 37 0 i) → (∀ j, j ≠ 0 → s1 37 j = s 37 j) → (∀ c, c < x → s1 46 0 c = ft 2 c) → ∃ s', EV (d + 1) mX9_drives (4, [vr 32 0, z1, vi (zN seed x), vi (x : Int), z4], [], s1) = bI (RUN d mX9_badness [vr 32 0] s') (fun r1 s1 => EV (d + 1) mX9_drives (68, [vr 32 0, z1, vi (zN seed n), vi r1, vi 0], [], s1)) ∧ (∀ c, c ≠ 37 → c ≠ 46 → s' c = s c) ∧ (∀ c, c < 6 → ∀ f, f < 5 → s' 37 0 (5 * c + f) = if f = 2 ∧ c < n then ((lnZ seed c : Nat) : Int) else s 37 0 (5 * c + f)) ∧ (∀ i, 30 ≤ i → s' 37 0 i = s 37 0 i) ∧ (∀ j, j ≠ 0 → s' 37 j = s 37 j) ∧ (∀ c, c < n → s' 46 0 c = ft 2 c) := by
  intro j
  have h6 := h0.2.1.1
  induction j with
  | zero =>
    intro x s1 hx f1 f2 f3 f3' f4
    have hx : x = n := by omega
    subst hx
    rw [qX9_drives_4, f1 32 (by decide) (by decide), h0.1.1, if_neg (by omega)]
    exact ⟨s1, rfl, f1, f2, f3, f3', f4⟩
  | succ j ih =>
    intro x s1 hx f1 f2 f3 f3' f4
    have hx6 : x < 6 := by omega
    have hxn : x < n := by omega
    obtain ⟨l4, le⟩ := lnZ_4 seed x
    have ez : w32 (w32 (zN seed x * 1103515245) + 12345) = zN seed (x + 1) := rfl
    have e2 : s1 37 0 (5 * x + 2) = ft 2 x := by rw [f2 x hx6 2 (by omega), if_neg (by omega)]; exact YR_row h0 hxn (by omega)
    rw [qX9_drives_4, f1 32 (by decide) (by decide), h0.1.1, if_pos (by omega), r2 hx6, if_pos (inbN (by omega)), if_pos (inbN hx6), if_pos (inbN (by omega)), Int.toNat_natCast, Int.toNat_natCast, ez, ← le, w32_id (x := (x : Int) + 1) (by omega) (by omega), show (x : Int) + 1 = ((x + 1 : Nat) : Int) by omega, e2]
    refine ih (x + 1) _ (by omega) (fun c q1 q2 => by rw [up_c q1, up_c q2]; exact f1 c q1 q2) (fun c hc f hf => ?_) (fun i hi => ?_) (fun j hj => ?_) (fun c hc => ?_)
    · by_cases q : f = 2 ∧ c = x
      · rw [q.1, q.2, up_hit, if_pos ⟨rfl, by omega⟩]
      · rw [up_i (by omega), up_c (by decide), f2 c hc f hf]
        by_cases q2 : f = 2 ∧ c < x
        · rw [if_pos q2, if_pos (by omega)]
        · rw [if_neg q2, if_neg (by omega)]
    · rw [up_i (by omega), up_c (by decide)]; exact f3 i hi
    · have : up (up s1 46 0 x (ft 2 x)) 37 0 (5 * x + 2) ((lnZ seed x : Nat) : Int) 37 j = s1 37 j := by
        funext i
        rw [up_ap, if_neg (fun z => hj z.2.1), up_c (by decide)]
      rw [this]; exact f3' j hj
    · rw [up_c (by decide)]
      by_cases q : c = x
      · rw [q, up_hit]
      · rw [up_i q]; exact f4 c (by omega)
theorem drives68 {z1 z2 : PV} {r : Int} {s0 : Sg} (h6 : n ≤ 6) : ∀ (j x : Nat) (s1 : Sg), x + j = n → s1 32 0 9 = (n : Int) → (∀ c, c ≠ 37 → s1 c = s0 c) → (∀ c, c < n → s1 46 0 c = s 37 0 (5 * c + 2)) → (∀ c, c < 6 → ∀ f, f < 5 → ¬ (f = 2 ∧ x ≤ c ∧ c < n) → s1 37 0 (5 * c + f) = s 37 0 (5 * c + f)) → (∀ i, 30 ≤ i → s1 37 0 i = s 37 0 i) → (∀ j, j ≠ 0 → s1 37 j = s 37 j) → ∃ s', EV d mX9_drives (68, [vr 32 0, z1, z2, vi r, vi (x : Int)], [], s1) = some (some (vi r), s') ∧ (∀ c, c ≠ 37 → s' c = s0 c) ∧ s' 37 = s 37 := by
  intro j
  induction j with
  | zero =>
    intro x s1 hx h9 f1 f2 f3 f4 f5
    have hx : x = n := by omega
    subst hx
    rw [qX9_drives_68, h9, if_neg (by omega)]
    refine ⟨s1, rfl, f1, ?_⟩
    funext j i
    by_cases hj : j = 0
    · subst hj
      by_cases hi : 30 ≤ i
      · exact f4 i hi
      · have := f3 (i / 5) (by omega) (i % 5) (by omega) (by omega)
        rw [show 5 * (i / 5) + i % 5 = i by omega] at this
        exact this
    · rw [f5 j hj]
  | succ j ih =>
    intro x s1 hx h9 f1 f2 f3 f4 f5
    have hx6 : x < 6 := by omega
    rw [qX9_drives_68, h9, if_pos (by omega), if_pos (inbN hx6), r2 hx6, if_pos (inbN (by omega)), Int.toNat_natCast, Int.toNat_natCast, w32_id (by omega) (by omega), show (x : Int) + 1 = ((x + 1 : Nat) : Int) by omega, f2 x (by omega)]
    refine ih (x + 1) _ (by omega) (by rw [up_c (by decide)]; exact h9) (fun c hc => by rw [up_c hc]; exact f1 c hc) (fun c hc => by rw [up_c (by decide)]; exact f2 c hc) (fun c hc f hf hn => ?_) (fun i hi => by rw [up_i (by omega)]; exact f4 i hi) (fun j hj => ?_)
    · by_cases q : f = 2 ∧ c = x
      · rw [q.1, q.2, up_hit]
      · rw [up_i (by omega)]; exact f3 c hc f hf (by omega)
    · have : up s1 37 0 (5 * x + 2) (s 37 0 (5 * x + 2)) 37 j = s1 37 j := by
        funext i
        rw [up_ap, if_neg (fun z => hj z.2.1)]
      rw [this]; exact f5 j hj
theorem drivesR {seed : Int} {v : Sem × Sem × Sem} {eg : Bool} (hR : YR ft n v eg s) : ∃ s', RUN (d + 49) mX9_drives [vr 32 0, vi seed] s = some (some (vi (totB ft v eg n (lnZ seed))), s') ∧ YR ft n v eg s' ∧ (∀ c, c ≠ 32 → c ≠ 38 → c ≠ 39 → c ≠ 40 → c ≠ 41 → c ≠ 42 → c ≠ 43 → c ≠ 46 → s' c = s c) ∧ (∀ i, ¬ (10 ≤ i ∧ i ≤ 24) → s' 32 0 i = s 32 0 i) := by
  have h6 := hR.2.1.1
  obtain ⟨s1, a1, a2, a3, a4, a5, a6⟩ := drives4 (d := d + 48) (seed := seed) (z1 := vi seed) (z4 := UU) hR n 0 s (by omega) (fun _ _ _ => rfl) (fun c _ f _ => by rw [if_neg (by omega)]) (fun _ _ => rfl) (fun _ _ => rfl) (fun c hc => by omega)
  have hok' : ftOk (fLan ft (lnZ seed) n) n := by
    refine ⟨h6, fun c hc => ?_⟩
    have hf := hR.2.1.2 c hc
    have := (lnZ_4 seed c).1
    unfold fLan
    simp [hc]
    omega
  have hR1 : YR (fLan ft (lnZ seed) n) n v eg s1 := by
    obtain ⟨⟨b1, b2⟩, b3, ⟨t, b, sz, c1, c2, c3, c4, c5, c6, c7⟩, d1⟩ := hR
    have e32 := a2 32 (by decide) (by decide)
    refine ⟨⟨by rw [e32]; exact b1, fun c hc => ⟨fun f hf => ?_, ?_⟩⟩, hok', ⟨t, b, sz, by rw [e32]; exact c1, c2, by rw [a2 34 (by decide) (by decide)]; exact c3, c4, by rw [a2 33 (by decide) (by decide)]; exact c5, c6, c7⟩, by rw [e32]; exact d1⟩
    · rw [a3 c (by omega) f hf]
      unfold fLan
      by_cases q : f = 2 ∧ c < n
      · rw [if_pos q, if_pos q]
      · rw [if_neg q, if_neg q]; exact (b2 c hc).1 f hf
    · rw [a2 36 (by decide) (by decide)]
      unfold fLan
      rw [if_neg (by omega)]
      exact (b2 c hc).2
  obtain ⟨s2, g1, g2, g3⟩ := badnessR (d := d) hR1
  have hsame : sameF n (fLan ft (lnZ seed) n) ft := fun c hc f hf => by
    unfold fLan
    rw [if_neg (fun q => hf q.1)]
  have hln : ∀ c, c < n → lnF (fLan ft (lnZ seed) n) c = lnZ seed c := fun c hc => by
    unfold lnF fLan
    rw [if_pos ⟨rfl, hc⟩, Int.toNat_natCast]
  rw [totB_same hsame hln] at g1
  have e37 : s2 37 = s1 37 := g2.1 37 (by decide) (by decide) (by decide) (by decide) (by decide) (by decide) (by decide)
  have e46 : s2 46 = s1 46 := g2.1 46 (by decide) (by decide) (by decide) (by decide) (by decide) (by decide) (by decide)
  obtain ⟨s3, k1, k2, k3⟩ := drives68 (d := d + 49) (s := s) (s0 := s2) (n := n) (z1 := vi seed) (z2 := vi (zN seed n)) (r := totB ft v eg n (lnZ seed)) h6 n 0 s2 (by omega) (by rw [g2.2 9 (by omega), a2 32 (by decide) (by decide)]; exact hR.1.1) (fun _ _ => rfl) (fun c hc => by rw [e46, a6 c hc]; exact (YR_row hR hc (by omega)).symm) (fun c hc f hf hn => by rw [e37, a3 c hc f hf, if_neg (by omega)]) (fun i hi => by rw [e37]; exact a4 i hi) (fun j hj => by rw [e37]; exact a5 j hj)
  have fin : (∀ c, c ≠ 32 → c ≠ 38 → c ≠ 39 → c ≠ 40 → c ≠ 41 → c ≠ 42 → c ≠ 43 → c ≠ 46 → s3 c = s c) := by
    intro c q1 q2 q3 q4 q5 q6 q7 q8
    by_cases e : c = 37
    · rw [e, k3]
    · rw [k2 c e, g2.1 c q1 q2 q3 q4 q5 q6 q7, a2 c e q8]
  have fin2 : ∀ i, ¬ (10 ≤ i ∧ i ≤ 24) → s3 32 0 i = s 32 0 i := fun i hi => by rw [k2 32 (by decide), g2.2 i hi, a2 32 (by decide) (by decide)]
  refine ⟨s3, ?_, YR_fr hR ⟨fun c hc => fin c (by omega) (by omega) (by omega) (by omega) (by omega) (by omega) (by omega) (by omega), fun i hi => fin2 i (by omega)⟩, fin, fin2⟩
  rw [qX9_drives, show EV (d + 49) mX9_drives (4, [vr 32 0, vi seed, vi seed, vi 0, UU], [], s) = _ from a1, g1, bI_s]
  exact k1
end P5
