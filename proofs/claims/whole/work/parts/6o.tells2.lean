/-! LAW 25: tells: what is tried -/
section PU
variable {ft : Ft} {n : Nat} {v : Sem × Sem × Sem} {sm : Nat → Sem × Sem × Sem} {tn t : Nat} {I : Nat → Int} {P : Nat → Bool} {s0 s : Sg} {d j : Nat}
theorem featR {w : Int} {c f top : Nat} (hR : YR ft n v false s0) (hf : f < 5) (hc : c < n) (hj : j < 4) (htop : sv 52 f = (top : Int)) (ht100 : top < 100) (hI : ∀ i, i < n → s0 51 0 (40 * j + i) = I i) (hP : ∀ k : Nat, k ≤ top → decide (unN (offF (fset ft f c (k : Int)) v n) I n = 0) = P k) : ∃ s', EV (d + 49) mX9_tells (228, [vr 32 0, vi (j : Int), vi w, vi (c : Int), vi (f : Int), vi (ft f c), vi (top : Int), vi 0, vi 0, vi (-1), vi 0], [], s0) = some (some (vi (ansP w P (top + 1))), s') ∧ frI s0 s' := by
  have h6 := hR.2.1.1
  have e37 : s0 37 0 (5 * c + f) = ft f c := YR_row hR hc hf
  refine tlR (d := d) (n := n) (I := I) (L := fun x s => up s 37 0 (5 * c + f) x) (J := tryR f c s0) (fv := fun k => fset ft f c (k : Int)) (vv := fun _ => v) ht100 hj (fun x s => ?_) (fun k s hk ht => tryR_YR hR ht hf ⟨by omega, by rw [htop]; omega⟩) (fun k s s1 ht hw => tryR_W ht hw) (fun s ht => ?_) (fun k s ht i hi => ?_) hP (top + 1) 0 0 s0 (by omega) (fun _ => rfl) (tryR_refl s0)
  · rw [qX9_lays, if_pos (by omega), w32_id (x := 5 * (c : Int)) (by omega) (by omega), w32_id (by omega) (by omega), show 5 * (c : Int) + (f : Int) = ((5 * c + f : Nat) : Int) by omega, if_pos (inbN (by omega)), Int.toNat_natCast]
  · show frI s0 (up s 37 0 (5 * c + f) (ft f c))
    rw [← e37]; exact tryR_end ht
  · show up s 37 0 (5 * c + f) (k : Int) 51 0 (40 * j + i) = I i
    rw [up_c (by decide), ht.1 51 (by decide) (by decide) (by decide) (by decide) (by decide) (by decide) (by decide) (by decide)]
    exact hI i hi
def try5 (c : Nat) (s0 s : Sg) : Prop := (∀ q, q ≠ 32 → q ≠ 36 → q ≠ 38 → q ≠ 39 → q ≠ 40 → q ≠ 41 → q ≠ 42 → q ≠ 43 → s q = s0 q) ∧ (∀ i, ¬ (10 ≤ i ∧ i ≤ 24) → s 32 0 i = s0 32 0 i) ∧ (∀ r i, ¬ (r = 0 ∧ i = c) → s 36 r i = s0 36 r i)
theorem kindR {w : Int} {c : Nat} (hR : YR ft n v false s0) (hc : c < n) (hj : j < 4) (hI : ∀ i, i < n → s0 51 0 (40 * j + i) = I i) (hP : ∀ k : Nat, k ≤ 5 → decide (unN (offF (fset ft 5 c (k : Int)) v n) I n = 0) = P k) : ∃ s', EV (d + 49) mX9_tells (228, [vr 32 0, vi (j : Int), vi w, vi (c : Int), vi 5, vi (ft 5 c), vi ((5 : Nat) : Int), vi 0, vi 0, vi (-1), vi 0], [], s0) = some (some (vi (ansP w P (5 + 1))), s') ∧ frI s0 s' := by
  have h6 := hR.2.1.1
  have e36 : s0 36 0 c = ft 5 c := (hR.1.2 c hc).2
  refine tlR (d := d) (n := n) (I := I) (L := fun x s => up s 36 0 c x) (J := try5 c s0) (fv := fun k => fset ft 5 c (k : Int)) (vv := fun _ => v) (by decide) hj (fun x s => ?_) (fun k s hk ht => ?_) (fun k s s1 ht hw => ?_) (fun s ht => ?_) (fun k s ht i hi => ?_) hP (5 + 1) 0 0 s0 (by omega) (fun _ => rfl) ⟨fun _ _ _ _ _ _ _ _ _ => rfl, fun _ _ => rfl, fun _ _ _ => rfl⟩
  · rw [qX9_lays, if_neg (by decide), if_pos rfl, if_pos (inbN (by omega)), Int.toNat_natCast]
  · obtain ⟨⟨a1, a2⟩, a3, ⟨t, b, sz, c1, c2, c3, c4, c5, c6, c7⟩, a5⟩ := hR
    show YR (fset ft 5 c (k : Int)) n v false (up s 36 0 c (k : Int))
    have f32 : ∀ i, ¬ (10 ≤ i ∧ i ≤ 24) → up s 36 0 c (k : Int) 32 0 i = s0 32 0 i := fun i hi => by rw [up_c (by decide)]; exact ht.2.1 i hi
    have fc : ∀ q, q = 33 ∨ q = 34 ∨ q = 37 → up s 36 0 c (k : Int) q = s0 q := fun q hq => by
      rw [up_c (by omega)]
      exact ht.1 q (by omega) (by omega) (by omega) (by omega) (by omega) (by omega) (by omega) (by omega)
    refine ⟨⟨by rw [f32 9 (by omega)]; exact a1, fun c' hc => ⟨fun f' hf' => ?_, ?_⟩⟩, fset_ok a3 ⟨by omega, by show (k : Int) ≤ 5; omega⟩, ⟨t, b, sz, by rw [f32 4 (by omega)]; exact c1, c2, by rw [fc 34 (by omega)]; exact c3, c4, by rw [fc 33 (by omega)]; exact c5, c6, c7⟩, by rw [f32 25 (by omega)]; exact a5⟩
    · rw [fc 37 (by omega)]
      unfold fset
      rw [if_neg (by omega)]
      exact (a2 c' hc).1 f' hf'
    · unfold fset
      by_cases q : c' = c
      · rw [q, up_hit, if_pos ⟨rfl, rfl⟩]
      · rw [up_i q, ht.2.2 0 _ (fun z => q z.2), if_neg (fun z => q z.2)]
        exact (a2 c' hc).2
  · have hw : frW (up s 36 0 c (k : Int)) s1 := hw
    refine ⟨fun q q1 q2 q3 q4 q5 q6 q7 q8 => ?_, fun i hi => ?_, fun r i hn => ?_⟩
    · rw [hw.1 q q1 q3 q4 q5 q6 q7 q8, up_c q2]; exact ht.1 q q1 q2 q3 q4 q5 q6 q7 q8
    · rw [hw.2 i hi, up_c (by decide)]; exact ht.2.1 i hi
    · rw [hw.1 36 (by decide) (by decide) (by decide) (by decide) (by decide) (by decide) (by decide), up_ap, if_neg (fun z => hn z.2)]; exact ht.2.2 r i hn
  · show frI s0 (up s 36 0 c (ft 5 c))
    have e : up s 36 0 c (ft 5 c) 36 = s0 36 := by
      funext r i
      by_cases q : r = 0 ∧ i = c
      · rw [q.1, q.2, up_hit, e36]
      · rw [up_ap, if_neg (fun z => q z.2)]; exact ht.2.2 r i q
    refine ⟨fun q hq => ?_, ?_, ?_, fun i hi => ?_⟩
    · by_cases e' : q = 36
      · rw [e']; exact e
      · rw [up_c e']
        exact ht.1 q (by omega) e' (by omega) (by omega) (by omega) (by omega) (by omega) (by omega)
    · rw [up_c (by decide), ht.1 11 (by decide) (by decide) (by decide) (by decide) (by decide) (by decide) (by decide) (by decide)]
    · rw [up_c (by decide), ht.1 13 (by decide) (by decide) (by decide) (by decide) (by decide) (by decide) (by decide) (by decide)]
    · rw [up_c (by decide)]; exact ht.2.1 i (by omega)
  · show up s 36 0 c (k : Int) 51 0 (40 * j + i) = I i
    rw [up_c (by decide), ht.1 51 (by decide) (by decide) (by decide) (by decide) (by decide) (by decide) (by decide) (by decide)]
    exact hI i hi
def try6 (s0 s : Sg) : Prop := (∀ q, q ≠ 32 → q ≠ 38 → q ≠ 39 → q ≠ 40 → q ≠ 41 → q ≠ 42 → q ≠ 43 → s q = s0 q) ∧ (∀ i, ¬ (10 ≤ i ∧ i ≤ 24) → i ≠ 4 → s 32 0 i = s0 32 0 i)
theorem textR {w c : Int} {top : Nat} (h : INVp ft n sm tn t s0) (hj : j < 4) (htop : tn = top + 1) (hI : ∀ i, i < n → s0 51 0 (40 * j + i) = I i) (hP : ∀ k : Nat, k ≤ top → decide (unN (offF ft (sm k) n) I n = 0) = P k) : ∃ s', EV (d + 49) mX9_tells (228, [vr 32 0, vi (j : Int), vi w, vi c, vi 6, vi (t : Int), vi (top : Int), vi 0, vi 0, vi (-1), vi 0], [], s0) = some (some (vi (ansP w P (top + 1))), s') ∧ frI s0 s' := by
  obtain ⟨⟨h1, h2, h3⟩, ⟨x1, x2, x3, x4, x5, x6, x7, x8, x9⟩, ⟨e1, e2⟩, h5⟩ := h
  refine tlR (d := d) (n := n) (I := I) (L := fun x s => up s 32 0 4 x) (J := try6 s0) (fv := fun _ => ft) (vv := fun k => sm k) (by omega) hj (fun x s => ?_) (fun k s hk ht => ?_) (fun k s s1 ht hw => ?_) (fun s ht => ?_) (fun k s ht i hi => ?_) hP (top + 1) 0 0 s0 (by omega) (fun _ => rfl) ⟨fun _ _ _ _ _ _ _ _ => rfl, fun _ _ _ => rfl⟩
  · rw [qX9_lays, if_neg (by decide), if_neg (by decide)]
  · show YR ft n (sm k) false (up s 32 0 4 (k : Int))
    have f32 : ∀ i, ¬ (10 ≤ i ∧ i ≤ 24) → i ≠ 4 → up s 32 0 4 (k : Int) 32 0 i = s0 32 0 i := fun i hi h4 => by rw [up_i h4]; exact ht.2 i hi h4
    have fc : ∀ q, q = 33 ∨ q = 34 ∨ q = 36 ∨ q = 37 → up s 32 0 4 (k : Int) q = s0 q := fun q hq => by
      rw [up_c (by omega)]
      exact ht.1 q (by omega) (by omega) (by omega) (by omega) (by omega) (by omega) (by omega)
    obtain ⟨b, sz, y1, y2, y3, y4, y5⟩ := x9 k (by omega)
    refine ⟨⟨by rw [f32 9 (by omega) (by omega)]; exact h2.1, fun c' hc => by rw [fc 36 (by omega), fc 37 (by omega)]; exact h2.2 c' hc⟩, h3, ⟨k, b, sz, by rw [up_hit], by omega, by rw [fc 34 (by omega)]; exact y1, y2, by rw [fc 33 (by omega)]; exact y3, y4, y5⟩, by rw [f32 25 (by omega) (by omega)]; exact e2⟩
  · have hw : frW (up s 32 0 4 (k : Int)) s1 := hw
    refine ⟨fun q q1 q3 q4 q5 q6 q7 q8 => ?_, fun i hi h4 => ?_⟩
    · rw [hw.1 q q1 q3 q4 q5 q6 q7 q8, up_c q1]; exact ht.1 q q1 q3 q4 q5 q6 q7 q8
    · rw [hw.2 i hi, up_i h4]; exact ht.2 i hi h4
  · show frI s0 (up s 32 0 4 (t : Int))
    refine ⟨fun q hq => ?_, ?_, ?_, fun i hi => ?_⟩
    · rw [up_c (by omega)]
      exact ht.1 q (by omega) (by omega) (by omega) (by omega) (by omega) (by omega) (by omega)
    · rw [up_c (by decide), ht.1 11 (by decide) (by decide) (by decide) (by decide) (by decide) (by decide) (by decide)]
    · rw [up_c (by decide), ht.1 13 (by decide) (by decide) (by decide) (by decide) (by decide) (by decide) (by decide)]
    · by_cases h4 : i = 4
      · rw [h4, up_hit, x8]
      · rw [up_i h4]; exact ht.2 i (by omega) h4
  · show up s 32 0 4 (k : Int) 51 0 (40 * j + i) = I i
    rw [up_c (by decide), ht.1 51 (by decide) (by decide) (by decide) (by decide) (by decide) (by decide) (by decide)]
    exact hI i hi
def tryT (s0 s : Sg) : Prop := (∀ r i, ¬ (r = 0 ∧ i = 5) → s 4 r i = s0 4 r i) ∧ (∀ q, q ≠ 4 → q ≠ 9 → q ≠ 10 → q ≠ 13 → q ≠ 14 → q ≠ 15 → q ≠ 16 → q ≠ 17 → q ≠ 18 → q ≠ 19 → q ≠ 20 → s q = s0 q) ∧ s 13 0 14 = s0 13 0 14
theorem textC' (h : INVp ft n sm tn t s0) (hj : (s0 30 j 2 = (n : Int)) ∧ ∀ i, i < n → s0 31 j i = I i) (hP : ∀ k : Nat, k < tn → decide (unN (offF ft (sm k) n) I n = 0) = P k) : ∀ (m k : Nat) (s : Sg), k + m = tn → tryT s0 s → ∃ s', EV (d + 9) mX8_likelyTexts (13, [vr 0 0, vr 30 j, vi (t : Int), vi (bitP P k), vi (k : Int)], [], s) = some (some (vi (bitP P tn)), s') ∧ frI s0 s' := by
  obtain ⟨⟨h1, h2, h3⟩, ⟨x1, x2, x3, x4, x5, x6, x7, x8, x9⟩, ⟨e1, e2⟩, h5⟩ := h
  have ch : ∀ (s : Sg) (k : Nat) (D : Nat), k < tn → s 4 0 4 = (tn : Int) → ∃ r, RUN (D + 1) mX5_choose [vr 4 0, vi (k : Int)] s = some (some (vi r), up s 4 0 5 (k : Int)) := by
    intro s k D hk h4
    rw [qX5_choose, qX5_has, if_neg (by omega), h4, if_pos (by omega), bI_s, if_neg (by decide)]
    exact ⟨_, rfl⟩
  intro m
  induction m with
  | zero =>
    intro k s hk ht
    have hk : k = tn := by omega
    subst hk
    have h4 : s 4 0 4 = (k : Int) := by rw [ht.1 0 4 (by omega)]; exact x4
    obtain ⟨r, hr⟩ := ch s t (d + 7) x3 h4
    rw [qX8_likelyTexts_13, qX5_size, bI_s, h4, if_neg (by omega), hr, bI_s]
    refine ⟨_, rfl, ?_⟩
    have e : up s 4 0 5 (t : Int) 4 = s0 4 := by
      funext r i
      by_cases q : r = 0 ∧ i = 5
      · rw [q.1, q.2, up_hit, x5]
      · rw [up_ap, if_neg (fun z => q z.2)]; exact ht.1 r i q
    refine ⟨fun q hq => ?_, ?_, ?_, fun i hi => ?_⟩
    · by_cases e' : q = 4
      · rw [e']; exact e
      · rw [up_c e']
        exact ht.2.1 q e' (by omega) (by omega) (by omega) (by omega) (by omega) (by omega) (by omega) (by omega) (by omega) (by omega)
    · rw [up_c (by decide), ht.2.1 11 (by decide) (by decide) (by decide) (by decide) (by decide) (by decide) (by decide) (by decide) (by decide) (by decide) (by decide)]
    · rw [up_c (by decide)]; exact ht.2.2
    · rw [up_c (by decide), ht.2.1 32 (by decide) (by decide) (by decide) (by decide) (by decide) (by decide) (by decide) (by decide) (by decide) (by decide) (by decide)]
  | succ m ih =>
    intro k s hk ht
    have h4 : s 4 0 4 = (tn : Int) := by rw [ht.1 0 4 (by omega)]; exact x4
    obtain ⟨r, hr⟩ := ch s k (d + 7) (by omega) h4
    have fc : ∀ q, q = 1 ∨ q = 3 ∨ q = 6 ∨ q = 8 → up s 4 0 5 (k : Int) q = s0 q := fun q hq => by
      rw [up_c (by omega)]
      exact ht.2.1 q (by omega) (by omega) (by omega) (by omega) (by omega) (by omega) (by omega) (by omega) (by omega) (by omega) (by omega)
    have hY : YC ft n (sm k) false (up s 4 0 5 (k : Int)) := by
      refine ⟨⟨by rw [fc 1 (by omega)]; exact h1.1, fun c hc f hf => by rw [fc 3 (by omega)]; exact h1.2 c hc f hf⟩, h3, ⟨k, tn, up_hit _ _ _ _ _, by omega, by rw [up_i (by decide)]; exact h4, x2, fun k' hk' => stands_fr (x6 k (by omega) k' hk') (fc 6 (by omega)) (fc 8 (by omega))⟩, by rw [up_c (by decide), ht.2.2]; exact e1⟩
    obtain ⟨s2, s3, a1, a2, a3, a4, a5, a6, a7⟩ := nowC (d := d + 1) hY
    have ht3 : tryT s0 s3 := by
      refine ⟨fun r i q => ?_, fun q q1 q2 q3 q4 q5 q6 q7 q8 q9 q10 q11 => ?_, ?_⟩
      · rw [a5 4 (by decide) (by decide) (by decide) (by decide) (by decide) (by decide) (by decide) (by decide) (by decide) (by decide), up_ap, if_neg (fun z => q z.2)]
        exact ht.1 r i q
      · rw [a5 q q2 q3 q4 q5 q6 q7 q8 q9 q10 q11, up_c q1]
        exact ht.2.1 q q1 q2 q3 q4 q5 q6 q7 q8 q9 q10 q11
      · rw [a6, up_c (by decide)]; exact ht.2.2
    have e30 : s3 30 = s0 30 := ht3.2.1 30 (by decide) (by decide) (by decide) (by decide) (by decide) (by decide) (by decide) (by decide) (by decide) (by decide) (by decide)
    have e31 : s3 31 = s0 31 := ht3.2.1 31 (by decide) (by decide) (by decide) (by decide) (by decide) (by decide) (by decide) (by decide) (by decide) (by decide) (by decide)
    have ho := othC (d := d + 7) (j := j) (I := I) (O := offF ft (sm k) n) a4 (fun c' hc' => by rw [(a7.2 c' hc').2.1, offF_eq]) (fun i hi => by rw [e31]; exact hj.2 i hi) (by rw [e30]; exact hj.1)
    have hp := hP k (by omega)
    rw [qX8_likelyTexts_13, qX5_size, bI_s, h4, if_pos (by omega), hr, bI_s, a1, bV_s, a2, bI_s, ho, bI_s]
    have ihB := ih (k + 1)
    rw [bitP] at ihB
    by_cases q : unN (offF ft (sm k) n) I n = 0
    · have hpk : P k = true := by rw [← hp]; exact decide_eq_true q
      rw [if_pos hpk] at ihB
      rw [if_pos (by omega), qX8_likelyTexts_68, w32_id (by omega) (by omega), show (k : Int) + 1 = ((k + 1 : Nat) : Int) by omega]
      exact ihB s3 (by omega) ht3
    · have hpk : ¬ P k = true := by rw [← hp]; exact fun z => q (of_decide_eq_true z)
      rw [if_neg hpk] at ihB
      rw [if_neg (by omega), qX8_likelyTexts_68, w32_id (by omega) (by omega), show (k : Int) + 1 = ((k + 1 : Nat) : Int) by omega]
      exact ihB s3 (by omega) ht3
end PU
