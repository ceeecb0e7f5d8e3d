/-! LAW 18: blame -/
def clr (x c : Nat) : Nat := (wand (x : Int) (wxor (wshl 1 (c : Int)) (-1))).toNat
theorem clr_ok : ∀ c : Nat, c < 6 → ∀ x : Nat, x < 64 → wand (x : Int) (wxor (wshl 1 (c : Int)) (-1)) = ((clr x c : Nat) : Int) ∧ clr x c < 64 ∧ (x.testBit c = false → clr x c = x) ∧ ∀ i : Nat, i < 6 → (clr x c).testBit i = (x.testBit i && decide (i ≠ c)) := by decide +kernel
def wot (ft : Ft) (v : Sem × Sem × Sem) (n : Nat) (c : Nat) : Int := sumN (fun l => lanB ft v false n (l : Int) (clr (setN (lnF ft) n l) c)) 4
def blm (T : Int) (O W : Nat → Int) : Nat → Int × Int × Int
  | 0 => (-1, 0, T)
  | k + 1 => if (blm T O W k).2.1 < O k - W k then ((k : Int), O k - W k, W k) else blm T O W k
section PB
variable {ft : Ft} {n : Nat} {v : Sem × Sem × Sem} {T : Int} {O W : Nat → Int} {s0 s : Sg} {d : Nat}
theorem wot_rg {c : Nat} (hok : ftOk ft n) : 0 ≤ wot ft v n c ∧ wot ft v n c ≤ 43200 := by
  have := sumL_rg (v := v) (eg := false) (sets := fun l => clr (setN (lnF ft) n l) c) hok 4
  unfold wot
  omega
theorem leaveL {S : Nat → Nat} {c : Nat} (hc : c < 6) (hS : ∀ l, l < 4 → S l < 64) : ∀ (j x : Nat) (s : Sg), x + j = 4 → (∀ l, l < 4 → s 14 0 l = if l < x then ((clr (S l) c : Nat) : Int) else ((S l : Nat) : Int)) → ∃ s', EV d mX7_leaveOut (2, [vr 13 0, vi (c : Int), vi (x : Int)], [], s) = some (none, s') ∧ (∀ l, l < 4 → s' 14 0 l = ((clr (S l) c : Nat) : Int)) ∧ ∀ q, q ≠ 14 → s' q = s q := by
  intro j
  induction j with
  | zero =>
    intro x s hx hm
    have hx : x = 4 := by omega
    subst hx
    rw [qX7_leaveOut_2, if_neg (by decide)]
    exact ⟨s, rfl, fun l hl => by rw [hm l hl, if_pos hl], fun _ _ => rfl⟩
  | succ j ih =>
    intro x s hx hm
    rw [qX7_leaveOut_2, if_pos (by omega), if_pos (inbN (by omega)), if_pos (inbN (by omega)), Int.toNat_natCast, hm x (by omega), if_neg (Nat.lt_irrefl x), (clr_ok c hc (S x) (hS x (by omega))).1, w32_id (by omega) (by omega), show (x : Int) + 1 = ((x + 1 : Nat) : Int) by omega]
    obtain ⟨s', a1, a2, a3⟩ := ih (x + 1) (up s 14 0 x ((clr (S x) c : Nat) : Int)) (by omega) (fun l hl => by
      by_cases e : l = x
      · rw [e, up_hit, if_pos (Nat.lt_succ_self x)]
      · rw [up_i e, hm l hl]
        by_cases q : l < x
        · rw [if_pos q, if_pos (by omega)]
        · rw [if_neg q, if_neg (by omega)])
    exact ⟨s', a1, a2, fun q hq => (a3 q hq).trans (up_c hq)⟩
theorem blC1 (hC : YC ft n v false s0) (hO : ∀ c, c < n → w32 (s0 21 0 6 - s0 19 0 c) = O c) : ∀ (j x : Nat) (z2 z3 : PV) (s : Sg), x + j = n → (∀ q, q ≠ 25 → s q = s0 q) → (∀ c, c < x → s 25 0 c = O c) → ∃ s', EV (d + 3) mX0_seekBlame (25, [vr 21 0, vi (x : Int), z2, z3], [], s) = EV (d + 3) mX0_seekBlame (65, [vr 21 0, vi 0, vi 0, z3], [], s') ∧ (∀ q, q ≠ 25 → s' q = s0 q) ∧ (∀ c, c < n → s' 25 0 c = O c) := by
  have h6 := hC.2.1.1
  intro j
  induction j with
  | zero =>
    intro x z2 z3 s hx hf ho
    have hx : x = n := by omega
    subst hx
    have hC1 : YC ft x v false s := YC_fr hC ⟨fun q hq => hf q (by omega), by rw [hf 13 (by decide)]⟩
    rw [qX0_seekBlame_25, YC_size hC1, bI_s, if_neg (by omega)]
    exact ⟨s, rfl, hf, ho⟩
  | succ j ih =>
    intro x z2 z3 s hx hf ho
    have hC1 : YC ft n v false s := YC_fr hC ⟨fun q hq => hf q (by omega), by rw [hf 13 (by decide)]⟩
    rw [qX0_seekBlame_25, YC_size hC1, bI_s, if_pos (by omega), shareC hC1 (by omega), bI_s, if_pos (inbN (by omega)), Int.toNat_natCast, hf 21 (by decide), hf 19 (by decide), hO x (by omega), w32_id (by omega) (by omega), show (x : Int) + 1 = ((x + 1 : Nat) : Int) by omega]
    exact ih (x + 1) z2 z3 (up s 25 0 x (O x)) (by omega) (fun q hq => by rw [up_c hq]; exact hf q hq) (fun c hc => by
      by_cases e : c = x
      · rw [e, up_hit]
      · rw [up_i e]; exact ho c (by omega))
theorem blC2 (hO : ∀ c, c < n → 0 ≤ O c + 10800 ∧ O c ≤ 100000) (hW : ∀ c, c < n → wot ft v n c = W c) : ∀ (j x : Nat) (z3 : PV) (s : Sg), x + j = n → YC ft n v false s → frI s0 s → (∀ c, c < n → s 25 0 c = O c) → s 21 0 5 = (blm T O W x).1 → s 21 0 6 = (blm T O W x).2.2 → ∃ s', EV (d + 9) mX0_seekBlame (65, [vr 21 0, vi (blm T O W x).2.1, vi (x : Int), z3], [], s) = some (none, s') ∧ frI s0 s' ∧ s' 21 0 5 = (blm T O W n).1 ∧ s' 21 0 6 = (blm T O W n).2.2 := by
  intro j
  induction j with
  | zero =>
    intro x z3 s hx hC hf h25 h5 h6
    have hx : x = n := by omega
    subst hx
    rw [qX0_seekBlame_65, YC_size hC, bI_s, if_neg (by omega)]
    exact ⟨s, rfl, hf, h5, h6⟩
  | succ j ih =>
    intro x z3 s hx hC hf h25 h5 h6
    have hn6 := hC.2.1.1
    have hxn : x < n := by omega
    obtain ⟨s1, a1, a2, a3⟩ := spreadC (d := d + 7) hC
    have hC1 := YC_fr hC (frY_14 a3)
    obtain ⟨s2, b1, b2, b3⟩ := leaveL (d := d + 8) (S := fun l => setN (lnF ft) n l) (c := x) (by omega) (fun l _ => setN_64 hn6) 4 0 s1 (by omega) (fun l hl => by rw [if_neg (Nat.not_lt_zero l)]; exact a2 l hl)
    have hC2 := YC_fr hC1 (frY_14 b3)
    obtain ⟨s3, c1, c2, _, _⟩ := playAllC (d := d + 1) (ft := ft) (n := n) (v := v) (eg := false) (sets := fun l => clr (setN (lnF ft) n l) x) (fun l _ => (clr_ok x (by omega) _ (setN_64 hn6)).2.1) (fun l l' c _ _ h1 h2 => by
      have hc6 : c < 6 := by
        refine Nat.lt_of_not_le (fun hge => ?_)
        have := Nat.testBit_lt_two_pow (Nat.lt_of_lt_of_le (clr_ok x (by omega) _ (setN_64 (ln := lnF ft) (n := n) (l := l) hn6)).2.1 (Nat.pow_le_pow_right (n := 2) (by decide) hge))
        rw [this] at h1
        exact Bool.noConfusion h1
      rw [(clr_ok x (by omega) _ (setN_64 hn6)).2.2.2 c hc6, Bool.and_eq_true] at h1 h2
      exact (setN_bit.mp h1.1).2.symm.trans (setN_bit.mp h2.1).2) hC2 b2
    have eW : sumN (fun l => lanB ft v false n (l : Int) (clr (setN (lnF ft) n l) x)) 4 = W x := hW x hxn
    rw [eW] at c1
    have hWr := wot_rg (v := v) (c := x) hC.2.1
    rw [hW x hxn] at hWr
    have hOr := hO x hxn
    have hC3 := YC_fr hC2 (frY_L c2)
    have e25 : s3 25 = s 25 := by rw [c2.1 25 (by decide) (by decide) (by decide) (by decide) (by decide) (by decide) (by decide) (by decide) (by decide), b3 25 (by decide), a3 25 (by decide)]
    have e21 : s3 21 = s 21 := by rw [c2.1 21 (by decide) (by decide) (by decide) (by decide) (by decide) (by decide) (by decide) (by decide) (by decide), b3 21 (by decide), a3 21 (by decide)]
    have hf3 : frI s0 s3 := frI_tr (frI_tr (frI_tr hf (frI_14 a3)) (frI_14 b3)) (frI_L c2)
    rw [qX0_seekBlame_65, YC_size hC, bI_s, if_pos (by omega), a1, bV_s, qX7_leaveOut, show EV (d + 8) mX7_leaveOut (2, [vr 13 0, vi (x : Int), vi 0], [], s1) = _ from b1, bV_s, c1, bI_s, if_pos (inbN (by omega)), Int.toNat_natCast, e25, h25 x hxn, w32_id (x := O x - W x) (by omega) (by omega)]
    have ihB := ih (x + 1)
    rw [blm] at ihB
    by_cases q : (blm T O W x).2.1 < O x - W x
    · rw [if_pos q] at ihB
      rw [if_pos q, if_pos (inbN (by omega)), qX0_seekBlame_130, w32_id (by omega) (by omega), show (x : Int) + 1 = ((x + 1 : Nat) : Int) by omega]
      refine ihB _ (up (up s3 21 0 5 (x : Int)) 21 0 6 (W x)) (by omega) (YC_fr hC3 ⟨fun q hq => by rw [up_c (by omega), up_c (by omega)], by rw [up_c (by decide), up_c (by decide)]⟩) (frI_c (by omega) (frI_c (by omega) hf3)) (fun c hc => by rw [up_c (by decide), up_c (by decide), e25]; exact h25 c hc) (by rw [up_i (by decide), up_hit]) (by rw [up_hit])
    · rw [if_neg q] at ihB
      rw [if_neg q, qX0_seekBlame_130, w32_id (by omega) (by omega), show (x : Int) + 1 = ((x + 1 : Nat) : Int) by omega]
      exact ihB _ s3 (by omega) hC3 hf3 (fun c hc => by rw [e25]; exact h25 c hc) (by rw [e21]; exact h5) (by rw [e21]; exact h6)
theorem blameC (hC : YC ft n v false s) (hT : totB ft v false n (lnF ft) = T) (hO : ∀ c, c < n → T - carB ft v false n (lnF ft) c = O c) (hW : ∀ c, c < n → wot ft v n c = W c) : ∃ s', RUN (d + 9) mX0_seekBlame [vr 21 0] s = some (none, s') ∧ frI s s' ∧ s' 21 0 5 = (blm T O W n).1 ∧ s' 21 0 6 = (blm T O W n).2.2 := by
  obtain ⟨s1, a1, a2, a3⟩ := spreadC (d := d + 7) hC
  have hC1 := YC_fr hC (frY_14 a3)
  obtain ⟨s2, hs2, g1, g2⟩ : ∃ s2, up s1 21 0 5 (-1) = s2 ∧ s2 21 0 5 = -1 ∧ ∀ q, q ≠ 21 → s2 q = s1 q := ⟨_, rfl, up_hit _ _ _ _ _, fun q hq => up_c hq⟩
  have hC2 : YC ft n v false s2 := YC_fr hC1 ⟨fun q hq => g2 q (by omega), by rw [g2 13 (by decide)]⟩
  obtain ⟨s3, b1, b2, b3⟩ := playN (d := d + 1) hC2 (fun c hc => (lnF_4 hC.2.1 hc).1) (fun l hl => by rw [g2 14 (by decide)]; exact a2 l hl)
  have hC3 := YC_fr hC2 (frY_L b2)
  rw [hT] at b1
  obtain ⟨s4, hs4, k1, k2, k3⟩ : ∃ s4, up s3 21 0 6 T = s4 ∧ s4 21 0 6 = T ∧ s4 21 0 5 = s3 21 0 5 ∧ ∀ q, q ≠ 21 → s4 q = s3 q := ⟨_, rfl, up_hit _ _ _ _ _, up_i (by decide), fun q hq => up_c hq⟩
  have hC4 : YC ft n v false s4 := YC_fr hC3 ⟨fun q hq => k3 q (by omega), by rw [k3 13 (by decide)]⟩
  have hTr := totB_rg (v := v) (eg := false) (ln := lnF ft) hC.2.1
  rw [hT] at hTr
  have hOr : ∀ c, c < n → 0 ≤ O c + 10800 ∧ O c ≤ 100000 := fun c hc => by
    have := carB_rg (v := v) (eg := false) (ln := lnF ft) hC.2.1 hc
    have := hO c hc
    omega
  obtain ⟨s5, c1, c2, c3⟩ := blC1 (d := d + 6) (O := O) hC4 (fun c hc => by
    rw [k1, k3 19 (by decide), (b3.2 c hc).2.2.2, hO c hc]
    have := hOr c hc
    exact w32_id (by omega) (by omega)) n 0 UU UU s4 (by omega) (fun _ _ => rfl) (fun c hc => by omega)
  have hf4 : frI s s4 := by
    refine frI_tr (frI_tr (frI_14 a3) ?_) (frI_tr (frI_L b2) ?_)
    · rw [← hs2]; exact frI_c (by omega) (frI_refl s1)
    · rw [← hs4]; exact frI_c (by omega) (frI_refl s3)
  have hf5 : frI s s5 := frI_tr hf4 ⟨fun q hq => c2 q (by omega), by rw [c2 11 (by decide)], by rw [c2 13 (by decide)], fun i _ => by rw [c2 32 (by decide)]⟩
  have hC5 : YC ft n v false s5 := YC_fr hC4 ⟨fun q hq => c2 q (by omega), by rw [c2 13 (by decide)]⟩
  have e5 : s5 21 0 5 = -1 := by rw [c2 21 (by decide), k2, b2.1 21 (by decide) (by decide) (by decide) (by decide) (by decide) (by decide) (by decide) (by decide) (by decide), g1]
  have e6 : s5 21 0 6 = T := by rw [c2 21 (by decide), k1]
  obtain ⟨s6, d1, d2, d3, d4⟩ := blC2 (d := d) (T := T) (s0 := s) hOr hW n 0 UU s5 (by omega) hC5 hf5 c3 e5 e6
  rw [qX0_seekBlame, a1, bV_s, hs2, b1, bI_s, hs4, show EV (d + 9) mX0_seekBlame (25, [vr 21 0, vi 0, UU, UU], [], s4) = _ from c1]
  exact ⟨s6, d1, d2, d3, d4⟩
/-! the reference -/
variable {c l : Nat} {st : Nat → Int}
def othS (ft : Ft) (ak : Ak) (c l : Nat) (st : Nat → Int) (b : Nat) : Int := if b ≠ c ∧ lnF ft b = l then baI ft ak (l : Int) st b else 0
def okO (ft : Ft) (n c l : Nat) (st : Nat → Int) : Prop := ∀ i, i < n → lnF ft i = l → i ≠ c → -1 ≤ st i ∧ st i ≤ 200 ∧ 0 ≤ waI ft st i ∧ waI ft st i ≤ 200
theorem othS_rg {ak : Ak} (h : okO ft n c l st) {i : Nat} (hi : i < n) : 0 ≤ othS ft ak c l st i ∧ othS ft ak c l st i ≤ 1800 := by
  unfold othS
  by_cases q : i ≠ c ∧ lnF ft i = l
  · rw [if_pos q]; exact baI_rg (h i hi q.2 q.1).2.2
  · rw [if_neg q]; omega
theorem blR1 {x1 x2 x3 x4 x5 x9 : Int} {z11 : PV} (hw : okO ft n c l st) : ∀ (j b : Nat) (s : Sg), b + j = n → YR ft n v false s → (∀ i, i < n → lnF ft i = l → i ≠ c → s 38 0 i = st i) → ∃ s', EV (d + 48) mX9_blame (72, [vr 32 0, vi x1, vi x2, vi x3, vi x4, vi x5, vi (c : Int), vi (l : Int), vi (sumN (othS ft (akS v ft) c l st) b), vi x9, vi (b : Int), z11], [], s) = EV (d + 48) mX9_blame (72, [vr 32 0, vi x1, vi x2, vi x3, vi x4, vi x5, vi (c : Int), vi (l : Int), vi (sumN (othS ft (akS v ft) c l st) n), vi x9, vi (n : Int), z11], [], s') ∧ frK s s' := by
  intro j
  induction j with
  | zero =>
    intro b s hb hR hs
    have hb : b = n := by omega
    subst hb
    exact ⟨s, rfl, frK_refl s⟩
  | succ j ih =>
    intro b s hb hR hs
    have h6 := hR.2.1.1
    have hbn : b < n := by omega
    have hb6 : b < 6 := by omega
    have hr := sumN_rg (f := othS ft (akS v ft) c l st) b (fun i hi => othS_rg hw (by omega))
    have hg := othS_rg (ak := akS v ft) hw hbn
    have es : sumN (othS ft (akS v ft) c l st) (b + 1) = sumN (othS ft (akS v ft) c l st) b + othS ft (akS v ft) c l st b := rfl
    have go0 : ¬ (b ≠ c ∧ lnF ft b = l) → EV (d + 48) mX9_blame (117, [vr 32 0, vi x1, vi x2, vi x3, vi x4, vi x5, vi (c : Int), vi (l : Int), vi (sumN (othS ft (akS v ft) c l st) b), vi x9, vi (b : Int), z11], [vi (sumN (othS ft (akS v ft) c l st) b)], s) = EV (d + 48) mX9_blame (72, [vr 32 0, vi x1, vi x2, vi x3, vi x4, vi x5, vi (c : Int), vi (l : Int), vi (sumN (othS ft (akS v ft) c l st) (b + 1)), vi x9, vi ((b + 1 : Nat) : Int), z11], [], s) := by
      intro q
      have e0 : othS ft (akS v ft) c l st b = 0 := if_neg q
      rw [qX9_blame_117, qX9_blame_118, w32_id (by omega) (by omega), w32_id (by omega) (by omega), es, e0, show (b : Int) + 1 = ((b + 1 : Nat) : Int) by omega]
    have hfl := lnF_4 hR.2.1 hbn
    rw [qX9_blame_72, hR.1.1, if_pos (by omega)]
    by_cases q1 : b = c
    · rw [if_pos (by omega), go0 (fun z => z.1 q1)]
      exact ih (b + 1) s (by omega) hR hs
    · rw [if_neg (by omega), r2 hb6, if_pos (inbN (by omega)), Int.toNat_natCast, YR_row hR hbn (by omega)]
      by_cases q2 : lnF ft b = l
      · have ee := hs b hbn q2 q1
        have hwb := hw b hbn q2 q1
        have eb := baI_st (ft := ft) (ak := akS v ft) (l := (l : Int)) ee
        obtain ⟨s1, a1, a2⟩ := badOfR (d := d + 3) (l := (l : Int)) hR hbn (by rw [ee]; exact ⟨hwb.1, hwb.2.1⟩) (by rw [eb.2]; exact hwb.2.2)
        have eo : baI ft (akS v ft) (l : Int) (s 38 0) b = othS ft (akS v ft) c l st b := by
          rw [eb.1]
          unfold othS
          rw [if_pos ⟨q1, q2⟩]
        rw [if_pos (by omega), a1, bI_s, eo, qX9_blame_118, w32_id (by omega) (by omega), w32_id (by omega) (by omega), ← es, show (b : Int) + 1 = ((b + 1 : Nat) : Int) by omega]
        obtain ⟨s', b1, b2⟩ := ih (b + 1) s1 (by omega) (YR_fr hR (frZ_K a2)) (fun i h1 h2 h3 => by rw [a2.1 38 (by decide)]; exact hs i h1 h2 h3)
        exact ⟨s', b1, frK_tr a2 b2⟩
      · rw [if_neg (by omega), go0 (fun z => q2 z.2)]
        exact ih (b + 1) s (by omega) hR hs
theorem blR2 {x1 x2 x3 x4 x5 x8 x10 : Int} (hw : okO ft n c l st) : ∀ (j b : Nat) (s : Sg), b + j = n → YR ft n v false s → (∀ i, i < n → lnF ft i = l → i ≠ c → s 38 0 i = st i) → ∃ s', EV (d + 48) mX9_blame (159, [vr 32 0, vi x1, vi x2, vi x3, vi x4, vi x5, vi (c : Int), vi (l : Int), vi x8, vi (sumN (othS ft (akS v ft) c l st) b), vi x10, vi (b : Int)], [], s) = EV (d + 48) mX9_blame (159, [vr 32 0, vi x1, vi x2, vi x3, vi x4, vi x5, vi (c : Int), vi (l : Int), vi x8, vi (sumN (othS ft (akS v ft) c l st) n), vi x10, vi (n : Int)], [], s') ∧ frK s s' := by
  intro j
  induction j with
  | zero =>
    intro b s hb hR hs
    have hb : b = n := by omega
    subst hb
    exact ⟨s, rfl, frK_refl s⟩
  | succ j ih =>
    intro b s hb hR hs
    have h6 := hR.2.1.1
    have hbn : b < n := by omega
    have hb6 : b < 6 := by omega
    have hr := sumN_rg (f := othS ft (akS v ft) c l st) b (fun i hi => othS_rg hw (by omega))
    have hg := othS_rg (ak := akS v ft) hw hbn
    have es : sumN (othS ft (akS v ft) c l st) (b + 1) = sumN (othS ft (akS v ft) c l st) b + othS ft (akS v ft) c l st b := rfl
    have go0 : ¬ (b ≠ c ∧ lnF ft b = l) → EV (d + 48) mX9_blame (204, [vr 32 0, vi x1, vi x2, vi x3, vi x4, vi x5, vi (c : Int), vi (l : Int), vi x8, vi (sumN (othS ft (akS v ft) c l st) b), vi x10, vi (b : Int)], [vi (sumN (othS ft (akS v ft) c l st) b)], s) = EV (d + 48) mX9_blame (159, [vr 32 0, vi x1, vi x2, vi x3, vi x4, vi x5, vi (c : Int), vi (l : Int), vi x8, vi (sumN (othS ft (akS v ft) c l st) (b + 1)), vi x10, vi ((b + 1 : Nat) : Int)], [], s) := by
      intro q
      have e0 : othS ft (akS v ft) c l st b = 0 := if_neg q
      rw [qX9_blame_204, qX9_blame_205, w32_id (by omega) (by omega), w32_id (by omega) (by omega), es, e0, show (b : Int) + 1 = ((b + 1 : Nat) : Int) by omega]
    have hfl := lnF_4 hR.2.1 hbn
    rw [qX9_blame_159, hR.1.1, if_pos (by omega)]
    by_cases q1 : b = c
    · rw [if_pos (by omega), go0 (fun z => z.1 q1)]
      exact ih (b + 1) s (by omega) hR hs
    · rw [if_neg (by omega), r2 hb6, if_pos (inbN (by omega)), Int.toNat_natCast, YR_row hR hbn (by omega)]
      by_cases q2 : lnF ft b = l
      · have ee := hs b hbn q2 q1
        have hwb := hw b hbn q2 q1
        have eb := baI_st (ft := ft) (ak := akS v ft) (l := (l : Int)) ee
        obtain ⟨s1, a1, a2⟩ := badOfR (d := d + 3) (l := (l : Int)) hR hbn (by rw [ee]; exact ⟨hwb.1, hwb.2.1⟩) (by rw [eb.2]; exact hwb.2.2)
        have eo : baI ft (akS v ft) (l : Int) (s 38 0) b = othS ft (akS v ft) c l st b := by
          rw [eb.1]
          unfold othS
          rw [if_pos ⟨q1, q2⟩]
        rw [if_pos (by omega), a1, bI_s, eo, qX9_blame_205, w32_id (by omega) (by omega), w32_id (by omega) (by omega), ← es, show (b : Int) + 1 = ((b + 1 : Nat) : Int) by omega]
        obtain ⟨s', b1, b2⟩ := ih (b + 1) s1 (by omega) (YR_fr hR (frZ_K a2)) (fun i h1 h2 h3 => by rw [a2.1 38 (by decide)]; exact hs i h1 h2 h3)
        exact ⟨s', b1, frK_tr a2 b2⟩
      · rw [if_neg (by omega), go0 (fun z => q2 z.2)]
        exact ih (b + 1) s (by omega) hR hs
end PB
