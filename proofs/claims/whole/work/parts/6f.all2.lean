/-! LAW 16: all: the reference -/
section PAr
variable {ft : Ft} {n : Nat} {v : Sem × Sem × Sem} {O : Nat → Int} {s : Sg} {d : Nat}
theorem aheadR {a b : Nat} (hR : YR ft n v false s) (ha : a < n) (hb : b < n) : ∃ r : Int, RUN d mX9_isAhead [vr 32 0, vi (a : Int), vi (b : Int)] s = some (some (vi r), s) ∧ ((r = 0 ∧ ¬ bef ft a b) ∨ (r = 1 ∧ bef ft a b)) := by
  have h6 := hR.2.1.1
  rw [qX9_isAhead, r3 (show a < 6 by omega), r3 (show b < 6 by omega), if_pos (inbN (by omega)), if_pos (inbN (by omega)), Int.toNat_natCast, Int.toNat_natCast, YR_row hR ha (by omega), YR_row hR hb (by omega)]
  unfold bef
  by_cases h1 : ft 3 a < ft 3 b
  · rw [if_pos h1]; exact ⟨1, rfl, Or.inr ⟨rfl, Or.inl h1⟩⟩
  rw [if_neg h1, if_pos (inbN (by omega)), if_pos (inbN (by omega))]
  by_cases h2 : ft 3 a = ft 3 b
  · rw [if_pos h2]
    by_cases h3 : (a : Int) < (b : Int)
    · rw [if_pos h3]; exact ⟨1, rfl, Or.inr ⟨rfl, by omega⟩⟩
    · rw [if_neg h3]; exact ⟨0, rfl, Or.inl ⟨rfl, by omega⟩⟩
  · rw [if_neg h2]; exact ⟨0, rfl, Or.inl ⟨rfl, by omega⟩⟩
theorem ooR1 {z1 z2 : PV} (hR : YR ft n v false s) (hO : ∀ c, c < n → s 39 0 c = O c) {a : Nat} (ha : a < n) {base : Int} (hb : 0 ≤ base ∧ base ≤ 100) : ∀ (j b : Nat) (z6 : PV), b + j = n → ∃ z6', EV (d + 1) mX9_all (113, [vr 32 0, z1, z2, vi (base + sumN (oo1 ft O a) b), vi (a : Int), vi (b : Int), z6], [], s) = EV (d + 1) mX9_all (101, [vr 32 0, z1, z2, vi (base + sumN (oo1 ft O a) n), vi ((a + 1 : Nat) : Int), vi (n : Int), z6'], [], s) := by
  have h6 := hR.2.1.1
  intro j
  induction j with
  | zero =>
    intro b z6 h
    have hb : b = n := by omega
    subst hb
    refine ⟨z6, ?_⟩
    rw [qX9_all_113, hR.1.1, if_neg (by omega), w32_id (by omega) (by omega), show (a : Int) + 1 = ((a + 1 : Nat) : Int) by omega]
  | succ j ih =>
    intro b z6 h
    have hbn : b < n := by omega
    have hr := sum1_rg (oo1_rg ft O a) b
    have es : sumN (oo1 ft O a) (b + 1) = sumN (oo1 ft O a) b + oo1 ft O a b := rfl
    have go0 : ∀ z6 : PV, ooB ft O a b ≠ true → EV (d + 1) mX9_all (214, [vr 32 0, z1, z2, vi (base + sumN (oo1 ft O a) b), vi (a : Int), vi (b : Int), z6], [vi (base + sumN (oo1 ft O a) b)], s) = EV (d + 1) mX9_all (113, [vr 32 0, z1, z2, vi (base + sumN (oo1 ft O a) (b + 1)), vi (a : Int), vi ((b + 1 : Nat) : Int), z6], [], s) := by
      intro z6 q
      have e1 : oo1 ft O a b = 0 := if_neg q
      rw [qX9_all_214, qX9_all_215, w32_id (by omega) (by omega), w32_id (by omega) (by omega), show (b : Int) + 1 = ((b + 1 : Nat) : Int) by omega, es, e1, show base + sumN (oo1 ft O a) b + 0 = base + (sumN (oo1 ft O a) b + 0) by omega]
    have step : ∃ z6', EV (d + 1) mX9_all (113, [vr 32 0, z1, z2, vi (base + sumN (oo1 ft O a) b), vi (a : Int), vi (b : Int), z6], [], s) = EV (d + 1) mX9_all (113, [vr 32 0, z1, z2, vi (base + sumN (oo1 ft O a) (b + 1)), vi (a : Int), vi ((b + 1 : Nat) : Int), z6'], [], s) := by
      rw [qX9_all_113, hR.1.1, if_pos (by omega), r2 (show a < 6 by omega), r2 (show b < 6 by omega), if_pos (inbN (by omega)), if_pos (inbN (by omega)), Int.toNat_natCast, Int.toNat_natCast, YR_row hR ha (by omega), YR_row hR hbn (by omega), if_pos (inbN (by omega)), if_pos (inbN (by omega)), Int.toNat_natCast, Int.toNat_natCast, hO a ha, hO b hbn]
      have none173 : ooB ft O a b ≠ true → ∃ z6', EV (d + 1) mX9_all (173, [vr 32 0, z1, z2, vi (base + sumN (oo1 ft O a) b), vi (a : Int), vi (b : Int), z6], [], s) = EV (d + 1) mX9_all (113, [vr 32 0, z1, z2, vi (base + sumN (oo1 ft O a) (b + 1)), vi (a : Int), vi ((b + 1 : Nat) : Int), z6'], [], s) := by
        intro q
        rw [qX9_all_173, qX9_all_174, if_pos i00, go0 _ q]
        exact ⟨_, rfl⟩
      by_cases hl : ft 2 a = ft 2 b
      · rw [if_pos hl]
        by_cases oa : O a = -1
        · rw [if_pos oa]; exact none173 (fun z => (ooB_iff.mp z).2.1 oa)
        rw [if_neg oa]
        by_cases ob : O b = -1
        · rw [if_pos ob]; exact none173 (fun z => (ooB_iff.mp z).2.2.1 ob)
        rw [if_neg ob, qX9_all_174, if_neg i10]
        obtain ⟨r, hr1, hr2⟩ := aheadR (d := d) hR ha hbn
        rw [hr1, bI_s]
        rcases hr2 with ⟨r0, hb⟩ | ⟨r1, hb⟩
        · rw [if_pos r0, go0 _ (fun z => hb (ooB_iff.mp z).2.2.2.1)]; exact ⟨_, rfl⟩
        · rw [if_neg (by omega), if_pos (inbN (by omega)), if_pos (inbN (by omega)), Int.toNat_natCast, Int.toNat_natCast, hO a ha, hO b hbn]
          by_cases hq : O b < O a
          · have e1 : oo1 ft O a b = 1 := if_pos (ooB_iff.mpr ⟨hl, oa, ob, hb, hq⟩)
            rw [if_pos hq, qX9_all_215, w32_id (by omega) (by omega), w32_id (by omega) (by omega), show (b : Int) + 1 = ((b + 1 : Nat) : Int) by omega, es, e1, show base + (sumN (oo1 ft O a) b + 1) = base + sumN (oo1 ft O a) b + 1 by omega]
            exact ⟨_, rfl⟩
          · rw [if_neg hq, go0 _ (fun z => hq (ooB_iff.mp z).2.2.2.2)]; exact ⟨_, rfl⟩
      · rw [if_neg hl]; exact none173 (fun z => hl (ooB_iff.mp z).1)
    obtain ⟨z6', hs⟩ := step
    rw [hs]
    exact ih (b + 1) z6' (by omega)
theorem ooR {z1 z2 : PV} (hR : YR ft n v false s) (hO : ∀ c, c < n → s 39 0 c = O c) : ∀ (j a : Nat) (z5 z6 : PV), a + j = n → EV (d + 1) mX9_all (101, [vr 32 0, z1, z2, vi (sumN (fun a => sumN (oo1 ft O a) n) a), vi (a : Int), z5, z6], [], s) = some (some (vi (sumN (fun a => sumN (oo1 ft O a) n) n)), s)
  | 0, a, z5, z6, h => by
    have ha : a = n := by omega
    subst ha
    rw [qX9_all_101, hR.1.1, if_neg (by omega)]
  | j + 1, a, z5, z6, h => by
    have h6 := hR.2.1.1
    have hr := sum6_rg (f := fun a => sumN (oo1 ft O a) n) (fun i => by have := sum1_rg (oo1_rg ft O i) n; omega) a
    rw [qX9_all_101, hR.1.1, if_pos (by omega)]
    have e0 : sumN (fun a => sumN (oo1 ft O a) n) a + sumN (oo1 ft O a) 0 = sumN (fun a => sumN (oo1 ft O a) n) a := by
      show _ + 0 = _
      omega
    have es : sumN (fun a => sumN (oo1 ft O a) n) (a + 1) = sumN (fun a => sumN (oo1 ft O a) n) a + sumN (oo1 ft O a) n := rfl
    obtain ⟨z6', hs⟩ := ooR1 (d := d) (z1 := z1) (z2 := z2) hR hO (a := a) (by omega) (base := sumN (fun a => sumN (oo1 ft O a) n) a) (by omega) n 0 z6 (by omega)
    rw [e0, ← es] at hs
    rw [show EV (d + 1) mX9_all (113, [vr 32 0, z1, z2, vi (sumN (fun a => sumN (oo1 ft O a) n) a), vi (a : Int), vi 0, z6], [], s) = _ from hs]
    exact ooR hR hO j (a + 1) _ _ (by omega)
/-- in vain, over all rows -/
theorem vnR {z1 z2 z5 z6 : PV} {g : Nat → Int} (hg : ∀ i, i < 800 → g i = if s 43 0 i = -1 ∧ s 42 0 i ≠ -1 then 1 else 0) (hg1 : ∀ i, 0 ≤ g i ∧ g i ≤ 1) : ∀ (j x : Nat), x + j = 800 → EV d mX9_all (52, [vr 32 0, z1, z2, vi (sumN g x), vi (x : Int), z5, z6], [], s) = some (some (vi (sumN g 800)), s)
  | 0, x, h => by
    have hx : x = 800 := by omega
    subst hx
    rw [qX9_all_52, if_neg (by decide)]
  | j + 1, x, h => by
    have hr := sum1_rg hg1 x
    have es : sumN g (x + 1) = sumN g x + g x := rfl
    have ih : EV d mX9_all (52, [vr 32 0, z1, z2, vi (sumN g (x + 1)), vi ((x + 1 : Nat) : Int), z5, z6], [], s) = some (some (vi (sumN g 800)), s) := vnR hg hg1 j (x + 1) (by omega)
    rw [es, hg x (by omega)] at ih
    rw [qX9_all_52, if_pos (by omega), if_pos (inbN (by omega)), Int.toNat_natCast, if_pos (inbN (by omega))]
    by_cases q1 : s 43 0 x = -1
    · rw [if_pos q1]
      by_cases q2 : s 42 0 x = -1
      · rw [if_neg (fun z => z.2 q2)] at ih
        rw [if_pos q2, qX9_all_87, qX9_all_88, w32_id (by omega) (by omega), w32_id (by omega) (by omega), show (x : Int) + 1 = ((x + 1 : Nat) : Int) by omega]
        exact ih
      · rw [if_pos ⟨q1, q2⟩] at ih
        rw [if_neg q2, qX9_all_88, w32_id (by omega) (by omega), w32_id (by omega) (by omega), show (x : Int) + 1 = ((x + 1 : Nat) : Int) by omega]
        exact ih
    · rw [if_neg (fun z => q1 z.1)] at ih
      rw [if_neg q1, qX9_all_87, qX9_all_88, w32_id (by omega) (by omega), w32_id (by omega) (by omega), show (x : Int) + 1 = ((x + 1 : Nat) : Int) by omega]
      exact ih
theorem sumN_split {g : Nat → Int} (a : Nat) : ∀ b, sumN g (a + b) = sumN g a + sumN (fun m => g (a + m)) b
  | 0 => by
    show sumN g a = sumN g a + 0
    omega
  | b + 1 => by
    show sumN g (a + b) + g (a + b) = sumN g a + (sumN (fun m => g (a + m)) b + g (a + b))
    rw [sumN_split a b]
    omega
theorem vaI_sum {ak : Ak} {eg : Bool} {l : Int} {S : Nat → Bool} {L0 : LaS} {g : Nat → Int} : ∀ k, (∀ m, m < k → g m = if (runI ft ak eg n l S L0 (m + 1)).2.2.2.2.2 ≠ -1 ∧ (runI ft ak eg n l S L0 (m + 1)).2.2.2.2.1 = -1 then 1 else 0) → sumN g k = vaI ft ak eg n l S L0 k
  | 0, _ => rfl
  | k + 1, h => by
    rw [sumN, vaI, vaI_sum k (fun m hm => h m (by omega)), h k (by omega)]
theorem sumN4 (F : Nat → Int) : sumN F 4 = F 0 + F 1 + F 2 + F 3 := by
  show 0 + F 0 + F 1 + F 2 + F 3 = _
  omega
theorem vn_tot {g : Nat → Int} (hr : ∀ l, l < 4 → rowsTo ft (akS v ft) false n l (bitS (setN (lnF ft) n l)) cn0 200 s) (hg : ∀ i, i < 800 → g i = if s 43 0 i = -1 ∧ s 42 0 i ≠ -1 then 1 else 0) : sumN g (200 + 200 + 200 + 200) = totV ft v false n (lnF ft) := by
  have one : ∀ l, l < 4 → sumN (fun m => g (200 * l + m)) 200 = lanV ft v false n (l : Int) (setN (lnF ft) n l) := by
    intro l hl
    unfold lanV
    refine vaI_sum 200 (fun m hm => ?_)
    rw [hg _ (by omega), (hr l hl m hm).1, (hr l hl m hm).2]
    generalize (runI ft (akS v ft) false n (l : Int) (bitS (setN (lnF ft) n l)) cn0 (m + 1)).2.2.2.2.2 = p1
    generalize (runI ft (akS v ft) false n (l : Int) (bitS (setN (lnF ft) n l)) cn0 (m + 1)).2.2.2.2.1 = p2
    by_cases q : p2 = -1 ∧ p1 ≠ -1
    · rw [if_pos q, if_pos ⟨q.2, q.1⟩]
    · rw [if_neg q, if_neg (fun z => q ⟨z.2, z.1⟩)]
  have h0 := one 0 (by decide)
  have h1 := one 1 (by decide)
  have h2 := one 2 (by decide)
  have h3 := one 3 (by decide)
  have e0 : (fun m => g (200 * 0 + m)) = g := by funext m; rw [Nat.mul_zero, Nat.zero_add]
  rw [e0] at h0
  have hT : totV ft v false n (lnF ft) = lanV ft v false n ((0 : Nat) : Int) (setN (lnF ft) n 0) + lanV ft v false n ((1 : Nat) : Int) (setN (lnF ft) n 1) + lanV ft v false n ((2 : Nat) : Int) (setN (lnF ft) n 2) + lanV ft v false n ((3 : Nat) : Int) (setN (lnF ft) n 3) := by
    unfold totV
    exact sumN4 _
  rw [sumN_split (200 + 200 + 200) 200, sumN_split (200 + 200) 200, sumN_split 200 200, hT, ← h0, ← h1, ← h2, ← h3]
theorem p_all (x : Int) : PAIR mX8_all mX9_all [vi x] := by
  refine pair_ro (fun ft n sm _ t => vi (if 0 ≤ x ∧ x ≤ 3 then (if x = 0 then totB ft (sm t) false n (lnF ft) else if x = 1 then totV ft (sm t) false n (lnF ft) else if x = 2 then lst (fun c => pj2 (carL ft (sm t) false n (lnF ft) c) c) n 0 (-1) else sumN (fun a => sumN (oo1 ft (fun c => pj2 (carL ft (sm t) false n (lnF ft) c) c) a) n) n) else -2)) (fun ft n sm tn t s h => ?_) (fun ft n sm tn t s h => ?_)
  · rw [qX8_all]
    by_cases hx : 0 ≤ x ∧ x ≤ 3
    · obtain ⟨s1, s2, a1, a2, a3, a4, a5, a6, a7⟩ := nowC (d := 52) (inv_YC h)
      have ff := frI_now a5 a6
      obtain ⟨O, hOe, hO⟩ : ∃ O : Nat → Int, (fun c => pj2 (carL ft (sm t) false n (lnF ft) c) c) = O ∧ ∀ c, c < n → s2 17 0 c = O c := ⟨_, rfl, fun c hc => by rw [(a7.2 c hc).2.1, ← pj2_eq]⟩
      rw [hOe]
      rw [if_pos hx, if_neg (show ¬ x < 0 by omega), if_neg (show ¬ 3 < x by omega), a1, bV_s, a2, bI_s]
      by_cases x0 : x = 0
      · rw [if_pos x0, if_pos x0]; exact ⟨s2, rfl, ff⟩
      rw [if_neg x0, if_neg x0]
      by_cases x1 : x = 1
      · rw [if_pos x1, if_pos x1, qX7_inVain, bI_s, a7.1]; exact ⟨s2, rfl, ff⟩
      rw [if_neg x1, if_neg x1]
      by_cases x2 : x = 2
      · rw [if_pos x2, if_pos x2, qX7_lastOff, show EV 59 mX7_lastOff (4, [vr 13 0, vi (-1), vi 0], [], s2) = _ from lastC a4 hO n 0 (-1) (by omega), bI_s]; exact ⟨s2, rfl, ff⟩
      rw [if_neg x2, if_neg x2, qX7_outOfOrder, show EV 59 mX7_outOfOrder (4, [vr 13 0, vi 0, vi 0, UU, UU, UU], [], s2) = _ from ooC (d := 57) a4 hO n 0 UU UU UU (by omega), bI_s]
      exact ⟨s2, rfl, ff⟩
    · rw [if_neg hx]
      by_cases q : x < 0
      · rw [if_pos q]; exact ⟨s, rfl, frI_refl s⟩
      · rw [if_neg q, if_pos (by omega)]; exact ⟨s, rfl, frI_refl s⟩
  · have hR := inv_YR h
    rw [qX9_all, in_ok, bI_s, b01]
    by_cases hx : 0 ≤ x ∧ x ≤ 3
    · obtain ⟨s2, a1, a2, a3⟩ := badnessR (d := 11) hR
      have ff := frI_W a2
      have hR2 := YR_fr hR (frZ_W a2)
      obtain ⟨O, hOe, hO⟩ : ∃ O : Nat → Int, (fun c => pj2 (carL ft (sm t) false n (lnF ft) c) c) = O ∧ ∀ c, c < n → s2 39 0 c = O c := ⟨_, rfl, fun c hc => by rw [(a3.2 c hc).2.1, ← pj2_eq]⟩
      rw [hOe]
      rw [if_pos hx, if_pos hx, a1, bI_s]
      by_cases x0 : x = 0
      · rw [if_pos x0, if_pos x0, qX9_all_29, if_pos x0]; exact ⟨s2, rfl, ff⟩
      rw [if_neg x0, if_neg x0]
      by_cases x2 : x = 2
      · rw [if_pos x2, qX9_all_29, if_neg x0, qX9_lastOff, show EV 59 mX9_lastOff (4, [vr 32 0, vi (-1), vi 0], [], s2) = _ from lastR hR2.1.1 hR2.2.1.1 hO n 0 (-1) (by omega), bI_s, if_neg (show ¬ x = 1 by omega), if_pos x2]; exact ⟨s2, rfl, ff⟩
      rw [if_neg x2]
      by_cases x1 : x = 1
      · have hg : ∀ i, i < 800 → (fun i => if s2 43 0 i = -1 ∧ s2 42 0 i ≠ -1 then (1 : Int) else 0) i = if s2 43 0 i = -1 ∧ s2 42 0 i ≠ -1 then 1 else 0 := fun i _ => rfl
        have hv := vnR (d := 60) (s := s2) (z1 := vi x) (z2 := vi (totB ft (sm t) false n (lnF ft))) (z5 := UU) (z6 := UU) hg (fun i => b01r) 800 0 (by omega)
        have ht := vn_tot (g := fun i => if s2 43 0 i = -1 ∧ s2 42 0 i ≠ -1 then (1 : Int) else 0) a3.1 hg
        rw [if_pos x1, if_pos x1, show EV 60 mX9_all (52, [vr 32 0, vi x, vi (totB ft (sm t) false n (lnF ft)), vi 0, vi 0, UU, UU], [], s2) = _ from hv, ← ht]
        exact ⟨s2, rfl, ff⟩
      rw [if_neg x1, if_neg x1, if_neg x2, show EV 60 mX9_all (101, [vr 32 0, vi x, vi (totB ft (sm t) false n (lnF ft)), vi 0, vi 0, UU, UU], [], s2) = _ from ooR (d := 59) hR2 hO n 0 UU UU (by omega)]
      exact ⟨s2, rfl, ff⟩
    · rw [if_neg hx, if_neg hx]; exact ⟨s, rfl, frI_refl s⟩
end PAr
