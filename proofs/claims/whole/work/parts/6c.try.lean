/-! LAW 13: one thing at a time is tried, and laid back; lane, when -/
section TR
variable {ft : Ft} {n : Nat} {v : Sem × Sem × Sem} {f c : Nat} {s0 s s' : Sg} {d : Nat}
def tryC (f c : Nat) (s0 s : Sg) : Prop := (∀ f' c', ¬ (f' = f ∧ c' = c) → s 3 f' c' = s0 3 f' c') ∧ (∀ q, q ≠ 3 → q ≠ 9 → q ≠ 10 → q ≠ 13 → q ≠ 14 → q ≠ 15 → q ≠ 16 → q ≠ 17 → q ≠ 18 → q ≠ 19 → q ≠ 20 → q ≠ 21 → s q = s0 q) ∧ s 13 0 14 = s0 13 0 14
theorem tryC_refl (s : Sg) : tryC f c s s := ⟨fun _ _ _ => rfl, fun _ _ _ _ _ _ _ _ _ _ _ _ _ => rfl, rfl⟩
theorem tryC_21 {i : Nat} {x : Int} (h : tryC f c s0 s) : tryC f c s0 (up s 21 0 i x) := ⟨fun f' c' q => by rw [up_c (by decide)]; exact h.1 f' c' q, fun q q1 q2 q3 q4 q5 q6 q7 q8 q9 q10 q11 q12 => by rw [up_c q12]; exact h.2.1 q q1 q2 q3 q4 q5 q6 q7 q8 q9 q10 q11 q12, by rw [up_c (by decide)]; exact h.2.2⟩
theorem tryC_YC {x : Int} (hC : YC ft n v false s0) (h : tryC f c s0 s) (hx : 0 ≤ x ∧ x ≤ sv 52 f) : YC (fset ft f c x) n v false (up s 3 f c x) := by
  obtain ⟨⟨a1, a2⟩, a3, ⟨t, tn, c1, c2, c3, c4, c5⟩, a5⟩ := hC
  have fc : ∀ q, q = 1 ∨ q = 4 ∨ q = 6 ∨ q = 8 → up s 3 f c x q = s0 q := fun q hq => by
    rw [up_c (by omega)]
    exact h.2.1 q (by omega) (by omega) (by omega) (by omega) (by omega) (by omega) (by omega) (by omega) (by omega) (by omega) (by omega) (by omega)
  refine ⟨⟨by rw [fc 1 (by omega)]; exact a1, fun c' hc f' hf => ?_⟩, fset_ok a3 hx, ⟨t, tn, by rw [fc 4 (by omega)]; exact c1, c2, by rw [fc 4 (by omega)]; exact c3, c4, fun k hk => stands_fr (c5 k hk) (fc 6 (by omega)) (fc 8 (by omega))⟩, ?_⟩
  · unfold fset
    by_cases q : f' = f ∧ c' = c
    · rw [q.1, q.2, up_hit, if_pos ⟨rfl, rfl⟩]
    · rw [up_ap, if_neg (fun z => q z.2), h.1 f' c' q, if_neg q]
      exact a2 c' hc f' hf
  · rw [up_c (by decide), h.2.2]; exact a5
theorem tryC_put {x : Int} (hC : YC ft n v false s0) (h : tryC f c s0 s) (hf : f < 6) (hc : c < n) : ∃ r, RUN (d + 1) mX1_put [vr 1 0, vi (f : Int), vi (c : Int), vi x] s = some (some (vi r), up s 3 f c x) := by
  have h6 := hC.2.1.1
  have e1 : s 1 = s0 1 := h.2.1 1 (by decide) (by decide) (by decide) (by decide) (by decide) (by decide) (by decide) (by decide) (by decide) (by decide) (by decide) (by decide)
  rw [put_ok (by omega) (by rw [e1, hC.1.1]; omega) (by rw [e1, hC.1.1]; omega), Int.toNat_natCast, Int.toNat_natCast]
  exact ⟨_, rfl⟩
/-- tried: put, spread, played -/
theorem tryC_go {x : Int} (hC : YC ft n v false s0) (h : tryC f c s0 s) (hx : 0 ≤ x ∧ x ≤ sv 52 f) : ∃ s2 s3, RUN (d + 7) mX7_spread [vr 13 0] (up s 3 f c x) = some (none, s2) ∧ RUN (d + 7) mX7_playAll [vr 13 0] s2 = some (some (vi (totB (fset ft f c x) v false n (lnF (fset ft f c x)))), s3) ∧ YC (fset ft f c x) n v false s3 ∧ outC (fset ft f c x) v false n (lnF (fset ft f c x)) s3 ∧ tryC f c s0 s3 ∧ s3 21 = s 21 ∧ s3 25 = s 25 := by
  obtain ⟨s2, s3, a1, a2, a3, a4, a5, a6, a7⟩ := nowC (d := d) (tryC_YC hC h hx)
  refine ⟨s2, s3, a1, a2, a4, a7, ⟨fun f' c' q => ?_, fun q q1 q2 q3 q4 q5 q6 q7 q8 q9 q10 q11 q12 => ?_, ?_⟩, ?_, ?_⟩
  · rw [a5 3 (by decide) (by decide) (by decide) (by decide) (by decide) (by decide) (by decide) (by decide) (by decide) (by decide), up_ap, if_neg (fun z => q z.2)]
    exact h.1 f' c' q
  · rw [a5 q q2 q3 q4 q5 q6 q7 q8 q9 q10 q11, up_c q1]
    exact h.2.1 q q1 q2 q3 q4 q5 q6 q7 q8 q9 q10 q11 q12
  · rw [a6, up_c (by decide)]; exact h.2.2
  · rw [a5 21 (by decide) (by decide) (by decide) (by decide) (by decide) (by decide) (by decide) (by decide) (by decide) (by decide), up_c (by decide)]
  · rw [a5 25 (by decide) (by decide) (by decide) (by decide) (by decide) (by decide) (by decide) (by decide) (by decide) (by decide), up_c (by decide)]
/-- laid back -/
theorem tryC_end (h : tryC f c s0 s) : frI s0 (up s 3 f c (s0 3 f c)) := by
  have e3 : up s 3 f c (s0 3 f c) 3 = s0 3 := by
    funext f' c'
    by_cases q : f' = f ∧ c' = c
    · rw [q.1, q.2, up_hit]
    · rw [up_ap, if_neg (fun z => q z.2)]; exact h.1 f' c' q
  refine ⟨fun q hq => ?_, ?_, ?_, fun i _ => ?_⟩
  · by_cases e : q = 3
    · rw [e]; exact e3
    · rw [up_c e]
      exact h.2.1 q e (by omega) (by omega) (by omega) (by omega) (by omega) (by omega) (by omega) (by omega) (by omega) (by omega) (by omega)
  · rw [up_c (by decide), h.2.1 11 (by decide) (by decide) (by decide) (by decide) (by decide) (by decide) (by decide) (by decide) (by decide) (by decide) (by decide) (by decide)]
  · rw [up_c (by decide)]; exact h.2.2
  · rw [up_c (by decide), h.2.1 32 (by decide) (by decide) (by decide) (by decide) (by decide) (by decide) (by decide) (by decide) (by decide) (by decide) (by decide) (by decide)]
/-- reference: rows alone but one -/
def tryR (f c : Nat) (s0 s : Sg) : Prop := (∀ q, q ≠ 32 → q ≠ 37 → q ≠ 38 → q ≠ 39 → q ≠ 40 → q ≠ 41 → q ≠ 42 → q ≠ 43 → s q = s0 q) ∧ (∀ i, ¬ (10 ≤ i ∧ i ≤ 24) → s 32 0 i = s0 32 0 i) ∧ (∀ j i, ¬ (j = 0 ∧ i = 5 * c + f) → s 37 j i = s0 37 j i)
theorem tryR_refl (s : Sg) : tryR f c s s := ⟨fun _ _ _ _ _ _ _ _ _ => rfl, fun _ _ => rfl, fun _ _ _ => rfl⟩
theorem tryR_YR {x : Int} (hR : YR ft n v false s0) (h : tryR f c s0 s) (hf : f < 5) (hx : 0 ≤ x ∧ x ≤ sv 52 f) : YR (fset ft f c x) n v false (up s 37 0 (5 * c + f) x) := by
  obtain ⟨⟨a1, a2⟩, a3, ⟨t, b, sz, c1, c2, c3, c4, c5, c6, c7⟩, a5⟩ := hR
  have f32 : ∀ i, ¬ (10 ≤ i ∧ i ≤ 24) → up s 37 0 (5 * c + f) x 32 0 i = s0 32 0 i := fun i hi => by rw [up_c (by decide)]; exact h.2.1 i hi
  have fc : ∀ q, q = 33 ∨ q = 34 ∨ q = 36 → up s 37 0 (5 * c + f) x q = s0 q := fun q hq => by
    rw [up_c (by omega)]
    exact h.1 q (by omega) (by omega) (by omega) (by omega) (by omega) (by omega) (by omega) (by omega)
  refine ⟨⟨by rw [f32 9 (by omega)]; exact a1, fun c' hc => ⟨fun f' hf' => ?_, ?_⟩⟩, fset_ok a3 hx, ⟨t, b, sz, by rw [f32 4 (by omega)]; exact c1, c2, by rw [fc 34 (by omega)]; exact c3, c4, by rw [fc 33 (by omega)]; exact c5, c6, c7⟩, by rw [f32 25 (by omega)]; exact a5⟩
  · unfold fset
    by_cases q : f' = f ∧ c' = c
    · rw [q.1, q.2, up_hit, if_pos ⟨rfl, rfl⟩]
    · rw [up_i (by omega), h.2.2 0 _ (by omega), if_neg q]
      exact (a2 c' hc).1 f' hf'
  · rw [fc 36 (by omega)]
    unfold fset
    rw [if_neg (by omega)]
    exact (a2 c' hc).2
theorem tryR_W {s1 : Sg} {x : Int} (h : tryR f c s0 s) (hw : frW (up s 37 0 (5 * c + f) x) s1) : tryR f c s0 s1 := by
  refine ⟨fun q q1 q2 q3 q4 q5 q6 q7 q8 => ?_, fun i hi => ?_, fun j i hn => ?_⟩
  · rw [hw.1 q q1 q3 q4 q5 q6 q7 q8, up_c q2]; exact h.1 q q1 q2 q3 q4 q5 q6 q7 q8
  · rw [hw.2 i hi, up_c (by decide)]; exact h.2.1 i hi
  · rw [hw.1 37 (by decide) (by decide) (by decide) (by decide) (by decide) (by decide) (by decide), up_ap, if_neg (fun z => hn z.2)]; exact h.2.2 j i hn
theorem tryR_end (h : tryR f c s0 s) : frI s0 (up s 37 0 (5 * c + f) (s0 37 0 (5 * c + f))) := by
  have e37 : up s 37 0 (5 * c + f) (s0 37 0 (5 * c + f)) 37 = s0 37 := by
    funext j i
    by_cases q : j = 0 ∧ i = 5 * c + f
    · rw [q.1, q.2, up_hit]
    · rw [up_ap, if_neg (fun z => q z.2)]; exact h.2.2 j i q
  refine ⟨fun q hq => ?_, ?_, ?_, fun i hi => ?_⟩
  · by_cases e : q = 37
    · rw [e]; exact e37
    · rw [up_c e]
      exact h.1 q (by omega) e (by omega) (by omega) (by omega) (by omega) (by omega) (by omega)
  · rw [up_c (by decide), h.1 11 (by decide) (by decide) (by decide) (by decide) (by decide) (by decide) (by decide) (by decide)]
  · rw [up_c (by decide), h.1 13 (by decide) (by decide) (by decide) (by decide) (by decide) (by decide) (by decide) (by decide)]
  · rw [up_c (by decide)]; exact h.2.1 i (by omega)
end TR
/-- the first least, where none is -1 -/
def bestL (o : Nat → Int) : Nat → Int × Int
  | 0 => (-1, -1)
  | k + 1 => if o k ≠ -1 ∧ ((bestL o k).1 = -1 ∨ o k < (bestL o k).2) then ((k : Int), o k) else bestL o k
section PL2
variable {ft : Ft} {n : Nat} {v : Sem × Sem × Sem} {c : Nat} {s0 : Sg} {d : Nat}
def pj1 (L : LaS) (c : Nat) : Int := L.1 c
def pj2 (L : LaS) (c : Nat) : Int := L.2.1 c
theorem pj1_eq (L : LaS) (c : Nat) : pj1 L c = L.1 c := rfl
theorem pj2_eq (L : LaS) (c : Nat) : pj2 L c = L.2.1 c := rfl
def offT (ft : Ft) (v : Sem × Sem × Sem) (n c : Nat) (l : Nat) : Int := pj2 (carL (fset ft 2 c (l : Int)) v false n (lnF (fset ft 2 c (l : Int))) c) c
theorem offT_eq (ft : Ft) (v : Sem × Sem × Sem) (n c l : Nat) : pj2 (carL (fset ft 2 c (l : Int)) v false n (lnF (fset ft 2 c (l : Int))) c) c = offT ft v n c l := rfl
theorem laneC {o : Nat → Int} (hO : ∀ l : Nat, pj2 (carL (fset ft 2 c (l : Int)) v false n (lnF (fset ft 2 c (l : Int))) c) c = o l) (hC : YC ft n v false s0) (hc : c < n) : ∀ (j x : Nat) (z4 : PV) (s : Sg), x + j = 4 → tryC 2 c s0 s → s 21 0 5 = (bestL o x).1 → s 21 0 6 = (bestL o x).2 → ∃ s', EV (d + 9) mX0_seekLane (22, [vr 21 0, vi (c : Int), vi (ft 2 c), vi (x : Int), z4], [], s) = some (none, s') ∧ frI s0 s' ∧ s' 21 0 5 = (bestL o 4).1 ∧ s' 21 0 6 = (bestL o 4).2 := by
  have e3 : s0 3 2 c = ft 2 c := hC.1.2 c hc 2 (by omega)
  intro j
  induction j with
  | zero =>
    intro x z4 s hx ht h5 h6
    have hx : x = 4 := by omega
    subst hx
    obtain ⟨r, hr⟩ := tryC_put (d := d + 7) (x := ft 2 c) hC ht (by omega) hc
    rw [qX0_seekLane_22, if_neg (by decide), show RUN (d + 8) mX1_put [vr 1 0, vi 2, vi (c : Int), vi (ft 2 c)] s = _ from hr, bI_s]
    refine ⟨_, rfl, ?_, by rw [up_c (by decide)]; exact h5, by rw [up_c (by decide)]; exact h6⟩
    rw [← e3]
    exact tryC_end ht
  | succ j ih =>
    intro x z4 s hx ht h5 h6
    obtain ⟨r, hr⟩ := tryC_put (d := d + 7) (x := (x : Int)) hC ht (by omega) hc
    obtain ⟨s2, s3, a1, a2, a3, a4, a5, a6, _⟩ := tryC_go (d := d + 1) (x := (x : Int)) hC ht ⟨by omega, by show (x : Int) ≤ 3; omega⟩
    have ho : s3 17 0 c = o x := by rw [(a4.2 c hc).2.1, ← pj2_eq, hO]
    rw [qX0_seekLane_22, if_pos (by omega), show RUN (d + 8) mX1_put [vr 1 0, vi 2, vi (c : Int), vi (x : Int)] s = _ from hr, bI_s, a1, bV_s, a2, bI_s, offC a3 hc, bI_s, ho, a6, h5, h6]
    have ihB := ih (x + 1)
    rw [bestL] at ihB
    by_cases q1 : o x = -1
    · rw [if_neg (fun z => z.1 q1)] at ihB
      rw [if_pos q1, qX0_seekLane_97, w32_id (by omega) (by omega), show (x : Int) + 1 = ((x + 1 : Nat) : Int) by omega]
      exact ihB _ s3 (by omega) a5 (by rw [a6]; exact h5) (by rw [a6]; exact h6)
    · rw [if_neg q1]
      have up5 : ∃ s', EV (d + 9) mX0_seekLane (86, [vr 21 0, vi (c : Int), vi (ft 2 c), vi (x : Int), vi (o x)], [], s3) = EV (d + 9) mX0_seekLane (22, [vr 21 0, vi (c : Int), vi (ft 2 c), vi ((x + 1 : Nat) : Int), vi (o x)], [], s') ∧ tryC 2 c s0 s' ∧ s' 21 0 5 = (x : Int) ∧ s' 21 0 6 = o x := by
        refine ⟨_, ?_, tryC_21 (tryC_21 a5), by rw [up_i (by decide), up_hit], up_hit _ _ _ _ _⟩
        rw [qX0_seekLane_86, qX0_seekLane_97, w32_id (by omega) (by omega), show (x : Int) + 1 = ((x + 1 : Nat) : Int) by omega]
      obtain ⟨s4, b1, b2, b3, b4⟩ := up5
      by_cases q2 : (bestL o x).1 = -1
      · rw [if_pos ⟨q1, Or.inl q2⟩] at ihB
        rw [if_pos q2, b1]
        exact ihB _ s4 (by omega) b2 b3 b4
      · rw [if_neg q2]
        by_cases q3 : o x < (bestL o x).2
        · rw [if_pos ⟨q1, Or.inr q3⟩] at ihB
          rw [if_pos q3, b1]
          exact ihB _ s4 (by omega) b2 b3 b4
        · rw [if_neg (fun z => z.2.elim q2 q3)] at ihB
          rw [if_neg q3, qX0_seekLane_97, w32_id (by omega) (by omega), show (x : Int) + 1 = ((x + 1 : Nat) : Int) by omega]
          exact ihB _ s3 (by omega) a5 (by rw [a6]; exact h5) (by rw [a6]; exact h6)
theorem laneR {o : Nat → Int} {x2 : Int} (hO : ∀ l : Nat, pj2 (carL (fset ft 2 c (l : Int)) v false n (lnF (fset ft 2 c (l : Int))) c) c = o l) (hR : YR ft n v false s0) (hc : c < n) : ∀ (j x : Nat) (s : Sg), x + j = 4 → tryR 2 c s0 s → ∃ s', EV (d + 48) mX9_lane (41, [vr 32 0, vi (c : Int), vi x2, vi (ft 2 c), vi (bestL o x).1, vi (bestL o x).2, vi (x : Int)], [], s) = some (some (vi (if x2 = 0 then (bestL o 4).1 else (bestL o 4).2)), s') ∧ frI s0 s' := by
  have h6 := hR.2.1.1
  have hc6 : c < 6 := by omega
  have e37 : s0 37 0 (5 * c + 2) = ft 2 c := YR_row hR hc (by omega)
  intro j
  induction j with
  | zero =>
    intro x s hx ht
    have hx : x = 4 := by omega
    subst hx
    refine ⟨up s 37 0 (5 * c + 2) (ft 2 c), ?_, by rw [← e37]; exact tryR_end ht⟩
    rw [qX9_lane_41, if_neg (by decide), r2 hc6, if_pos (inbN (by omega)), Int.toNat_natCast]
    by_cases q : x2 = 0
    · rw [if_pos q, if_pos q]
    · rw [if_neg q, if_neg q]
  | succ j ih =>
    intro x s hx ht
    have hy := tryR_YR (x := (x : Int)) hR ht (by omega) ⟨by omega, by show (x : Int) ≤ 3; omega⟩
    obtain ⟨s1, a1, a2, a3, a4, a5⟩ := goesR (d := d + 1) (l := x) (set := setN (lnF (fset ft 2 c (x : Int))) n x) (setN_64 h6) (by omega) hy
    have hl : lnF (fset ft 2 c (x : Int)) c = x := by
      unfold lnF fset
      rw [if_pos ⟨rfl, rfl⟩, Int.toNat_natCast]
    have ho : s1 39 0 c = o x := by
      have := (a3 c hc (setN_bit.mpr ⟨hc, hl⟩)).2.1
      rw [this, ← hO, pj2_eq, carL_eq, hl]
    have ht1 := tryR_W ht (frW_G a2)
    rw [qX9_lane_41, if_pos (by omega), r2 hc6, if_pos (inbN (by omega)), Int.toNat_natCast, setOfR hy, bI_s, a1, bV_s, if_pos (inbN hc6), Int.toNat_natCast, ho]
    have ihB := fun s1 => ih (x + 1) s1 (by omega)
    rw [bestL] at ihB
    have up5 : EV (d + 48) mX9_lane (98, [vr 32 0, vi (c : Int), vi x2, vi (ft 2 c), vi (bestL o x).1, vi (bestL o x).2, vi (x : Int)], [], s1) = EV (d + 48) mX9_lane (41, [vr 32 0, vi (c : Int), vi x2, vi (ft 2 c), vi (x : Int), vi (o x), vi ((x + 1 : Nat) : Int)], [], s1) := by
      rw [qX9_lane_98, if_pos (inbN hc6), Int.toNat_natCast, ho, qX9_lane_110, w32_id (by omega) (by omega), show (x : Int) + 1 = ((x + 1 : Nat) : Int) by omega]
    by_cases q1 : o x = -1
    · rw [if_neg (fun z => z.1 q1)] at ihB
      rw [if_pos q1, qX9_lane_110, w32_id (by omega) (by omega), show (x : Int) + 1 = ((x + 1 : Nat) : Int) by omega]
      exact ihB s1 ht1
    · rw [if_neg q1]
      by_cases q2 : (bestL o x).1 = -1
      · rw [if_pos ⟨q1, Or.inl q2⟩] at ihB
        rw [if_pos q2, up5]
        exact ihB s1 ht1
      · rw [if_neg q2, if_pos (inbN hc6)]
        by_cases q3 : o x < (bestL o x).2
        · rw [if_pos ⟨q1, Or.inr q3⟩] at ihB
          rw [if_pos q3, up5]
          exact ihB s1 ht1
        · rw [if_neg (fun z => z.2.elim q2 q3)] at ihB
          rw [if_neg q3, qX9_lane_110, w32_id (by omega) (by omega), show (x : Int) + 1 = ((x + 1 : Nat) : Int) by omega]
          exact ihB s1 ht1
theorem p_lane (x y : Int) : PAIR mX8_lane mX9_lane [vi x, vi y] := by
  refine pair_ro (fun ft n sm _ t => vi (if (0 ≤ x ∧ x < (n : Int)) ∧ 0 ≤ y ∧ y ≤ 1 then (if y = 0 then (bestL (offT ft (sm t) n x.toNat) 4).1 else (bestL (offT ft (sm t) n x.toNat) 4).2) else -2)) (fun ft n sm tn t s h => ?_) (fun ft n sm tn t s h => ?_)
  · have hC := inv_YC h
    rw [qX8_lane, YC_has hC, bI_s, b01]
    by_cases hx : 0 ≤ x ∧ x < (n : Int)
    · rw [if_pos hx]
      by_cases hy : 0 ≤ y ∧ y ≤ 1
      · obtain ⟨c, rfl⟩ : ∃ c : Nat, x = (c : Int) := ⟨x.toNat, by omega⟩
        have hcn : c < n := by omega
        obtain ⟨s1, hs1, g1, g2, g3⟩ : ∃ s1, up (up s 21 0 5 (-1)) 21 0 6 (-1) = s1 ∧ tryC 2 c s s1 ∧ s1 21 0 5 = -1 ∧ s1 21 0 6 = -1 := ⟨_, rfl, tryC_21 (tryC_21 (tryC_refl s)), by rw [up_i (by decide), up_hit], up_hit _ _ _ _ _⟩
        obtain ⟨s2, a1, a2, a3, a4⟩ := laneC (d := 50) (o := offT ft (sm t) n c) (fun l => offT_eq ft (sm t) n c l) hC hcn 4 0 UU s1 (by omega) g1 g2 g3
        have hC1 : YC ft n (sm t) false s1 := by
          rw [← hs1]
          exact YC_fr hC ⟨fun q hq => by rw [up_c (by omega), up_c (by omega)], by rw [up_c (by decide), up_c (by decide)]⟩
        rw [if_pos (show (0 ≤ (c : Int) ∧ (c : Int) < (n : Int)) ∧ 0 ≤ y ∧ y ≤ 1 from ⟨hx, hy⟩), if_neg (show ¬ y < 0 by omega), if_neg (show ¬ 1 < y by omega), Int.toNat_natCast, qX0_seekLane, hs1, show RUN 58 mX1_tell [vr 1 0, vi 2, vi (c : Int)] s1 = _ from YC_tell (f := 2) hC1 hcn (by omega), bI_s, show EV 59 mX0_seekLane (22, [vr 21 0, vi (c : Int), vi (ft 2 c), vi 0, UU], [], s1) = _ from a1, bV_s, qX0_answer, a3, a4]
        refine ⟨s2, ?_, a2⟩
        by_cases q : y = 0
        · rw [if_pos q, if_pos q, bI_s]
        · rw [if_neg q, if_neg q, bI_s]
      · rw [if_neg (show ¬ ((0 ≤ x ∧ x < (n : Int)) ∧ 0 ≤ y ∧ y ≤ 1) from fun z => hy z.2)]
        by_cases q : y < 0
        · rw [if_pos q]; exact ⟨s, rfl, frI_refl s⟩
        · rw [if_neg q, if_pos (by omega)]; exact ⟨s, rfl, frI_refl s⟩
    · rw [if_neg hx, if_neg (show ¬ ((0 ≤ x ∧ x < (n : Int)) ∧ 0 ≤ y ∧ y ≤ 1) from fun z => hx z.1)]
      exact ⟨s, rfl, frI_refl s⟩
  · have hR := inv_YR h
    have h6 := h.1.2.2.1
    rw [qX9_lane, carR hR, bI_s, b01]
    by_cases hx : 0 ≤ x ∧ x < (n : Int)
    · rw [if_pos hx, in_ok, bI_s, b01]
      by_cases hy : 0 ≤ y ∧ y ≤ 1
      · obtain ⟨c, rfl⟩ : ∃ c : Nat, x = (c : Int) := ⟨x.toNat, by omega⟩
        have hcn : c < n := by omega
        have hc6 : c < 6 := by omega
        obtain ⟨s2, a1, a2⟩ := laneR (d := 12) (x2 := y) (o := offT ft (sm t) n c) (fun l => offT_eq ft (sm t) n c l) hR hcn 4 0 s (by omega) (tryR_refl s)
        rw [if_pos hy, if_pos (show (0 ≤ (c : Int) ∧ (c : Int) < (n : Int)) ∧ 0 ≤ y ∧ y ≤ 1 from ⟨hx, hy⟩), r2 hc6, if_pos (inbN (by omega)), Int.toNat_natCast, Int.toNat_natCast, YR_row hR hcn (by omega)]
        exact ⟨s2, a1, a2⟩
      · rw [if_neg hy, if_neg (show ¬ ((0 ≤ x ∧ x < (n : Int)) ∧ 0 ≤ y ∧ y ≤ 1) from fun z => hy z.2)]
        exact ⟨s, rfl, frI_refl s⟩
    · rw [if_neg hx, if_neg (show ¬ ((0 ≤ x ∧ x < (n : Int)) ∧ 0 ≤ y ∧ y ≤ 1) from fun z => hx z.1)]
      exact ⟨s, rfl, frI_refl s⟩
end PL2
