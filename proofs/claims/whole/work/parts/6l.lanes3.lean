/-! LAW 22: lanes: the reference -/
theorem clr_add : ∀ c : Nat, c < 6 → ∀ x : Nat, x < 2 ^ c → wand (((x + 2 ^ c : Nat) : Int)) (wxor (wshl 1 (c : Int)) (-1)) = (x : Int) := by decide +kernel
def mrF (B D : Nat → Int) : Nat → Int × Int
  | 0 => (0, 0)
  | k + 1 => if (mrF B D k).1 = 0 ∨ B k < (mrF B D k).2 then (D k, B k) else mrF B D k
theorem mr_mn {B D : Nat → Int} (hB : ∀ w, 0 ≤ B w) (hD : ∀ w, 1 ≤ D w) : ∀ k, (mnF B (k + 1)).2 ≠ -1 ∧ mrF B D (k + 1) = (D (mnF B (k + 1)).1.toNat, (mnF B (k + 1)).2)
  | 0 => by
    have := hB 0
    have e1 : mnF B (0 + 1) = (((0 : Nat) : Int), B 0) := if_pos (Or.inl rfl)
    have e2 : mrF B D (0 + 1) = (D 0, B 0) := if_pos (Or.inl rfl)
    rw [e1, e2]
    exact ⟨by show B 0 ≠ -1; omega, rfl⟩
  | k + 1 => by
    obtain ⟨h1, h2⟩ := mr_mn hB hD k
    have hb := hB (k + 1)
    have hd := hD (mnF B (k + 1)).1.toNat
    rw [mnF, mrF, h2]
    by_cases q : B (k + 1) < (mnF B (k + 1)).2
    · rw [if_pos (Or.inr q), if_pos (Or.inr q), Int.toNat_natCast]
      exact ⟨by show B (k + 1) ≠ -1; omega, rfl⟩
    · rw [if_neg (fun z => z.elim h1 q), if_neg (fun z => z.elim (fun z => by have z : D (mnF B (k + 1)).1.toNat = 0 := z; omega) q)]
      exact ⟨h1, rfl⟩
theorem lwp_lo {c p l i : Nat} (hl : l < 4) (hi : i < c) : lwp (c + 1) (4 * p + l) i = lwp c p i := by
  rw [lwp, if_neg (by omega), show (4 * p + l) / 4 = p by omega]
theorem lwp_hi {c p l : Nat} (hl : l < 4) : lwp (c + 1) (4 * p + l) c = l := by
  rw [lwp, if_pos rfl]; omega
theorem setN_ext' {ln ln' : Nat → Nat} {k l : Nat} (h : ∀ c, c < k → ln c = ln' c) : setN ln k l = setN ln' k l := msk_ext k (fun c hc => by rw [h c hc])
theorem setN_up {c p l l' : Nat} (hl : l < 4) : setN (lwp (c + 1) (4 * p + l)) (c + 1) l' = if l = l' then setN (lwp c p) c l' + 2 ^ c else setN (lwp c p) c l' := by
  have e : setN (lwp (c + 1) (4 * p + l)) c l' = setN (lwp c p) c l' := setN_ext' (fun i hi => lwp_lo hl hi)
  rw [← e]
  unfold setN
  rw [msk, lwp_hi hl]
  by_cases q : l = l'
  · rw [if_pos q, if_pos (by simp [q])]
  · rw [if_neg q, if_neg (by simp [q]), Nat.add_zero]
theorem dgs_ext {ln ln' : Nat → Nat} : ∀ k, (∀ c, c < k → ln c = ln' c) → dgs ln k = dgs ln' k
  | 0, _ => rfl
  | k + 1, h => by rw [dgs, dgs, dgs_ext k (fun c hc => h c (by omega)), h k (by omega)]
theorem dgs_up {c p l : Nat} (hl : l < 4) : dgs (lwp (c + 1) (4 * p + l)) (c + 1) = 10 * dgs (lwp c p) c + (l : Int) + 1 := by
  rw [dgs, dgs_ext c (fun i hi => lwp_lo hl hi), lwp_hi hl, Int.mul_comm]
section PM
variable {ft : Ft} {n : Nat} {v : Sem × Sem × Sem} {T : Nat → Nat → Int} {B D : Nat → Int} {s0 s : Sg} {d : Nat}
theorem lnR1 {x1 : Int} {l set : Nat} {st : Nat → Int} (hset : set < 64) (hw : okW ft n set st) : ∀ (j b : Nat) (s : Sg), b + j = n → YR ft n v false s → (∀ i, i < n → set.testBit i = true → s 38 0 i = st i) → ∃ s', EV (d + 48) mX9_lanes (60, [vr 32 0, vi x1, vi (l : Int), vi (set : Int), vi (sumN (bsum ft (akS v ft) (l : Int) set st) b), vi (b : Int)], [], s) = EV (d + 48) mX9_lanes (60, [vr 32 0, vi x1, vi (l : Int), vi (set : Int), vi (sumN (bsum ft (akS v ft) (l : Int) set st) n), vi (n : Int)], [], s') ∧ frK s s' := by
  intro j
  induction j with
  | zero =>
    intro b s hb hR hs
    have hb : b = n := by omega
    subst hb
    exact ⟨s, rfl, frK_refl s⟩
  | succ j ih =>
    intro b s hb hR hs
    have h6 := hR.2.1.1
    have hbn : b < n := by omega
    have hb6 : b < 6 := by omega
    have hr := sumN_rg (f := bsum ft (akS v ft) (l : Int) set st) b (fun i hi => bsum_rg hw (by omega))
    have hg := bsum_rg (ak := akS v ft) (l := (l : Int)) hw hbn
    have es : sumN (bsum ft (akS v ft) (l : Int) set st) (b + 1) = sumN (bsum ft (akS v ft) (l : Int) set st) b + bsum ft (akS v ft) (l : Int) set st b := rfl
    rw [qX9_lanes_60, hR.1.1, if_pos (by omega), wbit set hset b hb6, b11]
    by_cases q : set.testBit b = true
    · have ee := hs b hbn q
      have hwb := hw b hbn q
      have eb := baI_st (ft := ft) (ak := akS v ft) (l := (l : Int)) ee
      obtain ⟨s1, a1, a2⟩ := badOfR (d := d + 3) (l := (l : Int)) hR hbn (by rw [ee]; exact ⟨hwb.1, hwb.2.1⟩) (by rw [eb.2]; exact hwb.2.2)
      have eo : baI ft (akS v ft) (l : Int) (s 38 0) b = bsum ft (akS v ft) (l : Int) set st b := by
        rw [eb.1]
        unfold bsum
        rw [if_pos q]
      rw [if_pos q, a1, bI_s, eo, qX9_lanes_92, w32_id (by omega) (by omega), w32_id (by omega) (by omega), ← es, show (b : Int) + 1 = ((b + 1 : Nat) : Int) by omega]
      obtain ⟨s', b1, b2⟩ := ih (b + 1) s1 (by omega) (YR_fr hR (frZ_K a2)) (fun i h1 h2 => by rw [a2.1 38 (by decide)]; exact hs i h1 h2)
      exact ⟨s', b1, frK_tr a2 b2⟩
    · have e0 : bsum ft (akS v ft) (l : Int) set st b = 0 := if_neg q
      rw [if_neg q, qX9_lanes_92, w32_id (by omega) (by omega), w32_id (by omega) (by omega), show (b : Int) + 1 = ((b + 1 : Nat) : Int) by omega, show sumN (bsum ft (akS v ft) (l : Int) set st) b + 0 = sumN (bsum ft (akS v ft) (l : Int) set st) (b + 1) by omega]
      exact ih (b + 1) s (by omega) hR hs
theorem lnR2 {x1 : Int} {x : Nat} (hT : ∀ l set, lanB ft v false n ((l : Nat) : Int) set = T l set) (hx : x < 4) : ∀ (j k : Nat) (z4 z5 : PV) (s : Sg), k + j = 2 ^ n → YR ft n v false s → frI s0 s → (∀ l, l < x → ∀ set, set < 2 ^ n → s 44 0 (64 * l + set) = T l set) → (∀ set, set < k → s 44 0 (64 * x + set) = T x set) → (∀ l, l < x + 1 → s 45 0 l = 0) → ∃ z3' z4' z5' s', EV (d + 48) mX9_lanes (38, [vr 32 0, vi x1, vi (x : Int), vi (k : Int), z4, z5], [], s) = EV (d + 48) mX9_lanes (24, [vr 32 0, vi x1, vi ((x + 1 : Nat) : Int), z3', z4', z5'], [], s') ∧ YR ft n v false s' ∧ frI s0 s' ∧ (∀ l, l < x + 1 → ∀ set, set < 2 ^ n → s' 44 0 (64 * l + set) = T l set) ∧ (∀ l, l < x + 1 → s' 45 0 l = 0) := by
  intro j
  induction j with
  | zero =>
    intro k z4 z5 s hk hR hf h1 h2 h3
    have hk : k = 2 ^ n := by omega
    subst hk
    have h6 := hR.2.1.1
    rw [qX9_lanes_38, hR.1.1, (shl1 n (by omega)).1, if_neg (by omega), w32_id (by omega) (by omega), show (x : Int) + 1 = ((x + 1 : Nat) : Int) by omega]
    refine ⟨vi ((2 ^ n : Nat) : Int), z4, z5, s, rfl, hR, hf, fun l hl set hs => ?_, h3⟩
    by_cases e : l = x
    · rw [e]; exact h2 set hs
    · exact h1 l (by omega) set hs
  | succ j ih =>
    intro k z4 z5 s hk hR hf h1 h2 h3
    have h6 := hR.2.1.1
    have h64 := p64 h6
    obtain ⟨s1, a1, a2, a3, _, _⟩ := goesR (d := d + 1) (l := x) (set := k) (by omega) hx hR
    have hR1 := YR_fr hR (frZ_G a2)
    obtain ⟨st, hst⟩ : ∃ st, (lanR ft v false n (x : Int) k).1 = st := ⟨_, rfl⟩
    have hw : okW ft n k st := by rw [← hst]; exact lanR_w hR.2.1
    obtain ⟨s2, b1, b2⟩ := lnR1 (d := d) (x1 := x1) (l := x) (v := v) (by omega) hw n 0 s1 (by omega) hR1 (fun i hi hb => by rw [(a3 i hi hb).1, hst])
    have hR2 := YR_fr hR1 (frZ_K b2)
    have eT : sumN (bsum ft (akS v ft) (x : Int) k st) n = T x k := by rw [← hst, ← lanB_eq]; exact hT x k
    rw [eT] at b1
    have ff : frW s s2 := frW_tr (frW_G a2) (frW_K b2)
    have e44 : s2 44 = s 44 := ff.1 44 (by decide) (by decide) (by decide) (by decide) (by decide) (by decide) (by decide)
    have e45 : s2 45 = s 45 := ff.1 45 (by decide) (by decide) (by decide) (by decide) (by decide) (by decide) (by decide)
    rw [qX9_lanes_38, hR.1.1, (shl1 n (by omega)).1, if_pos (by omega), a1, bV_s, show EV (d + 48) mX9_lanes (60, [vr 32 0, vi x1, vi (x : Int), vi (k : Int), vi 0, vi 0], [], s1) = _ from b1, qX9_lanes_60, hR2.1.1, if_neg (by omega), w32_id (x := 64 * (x : Int)) (by omega) (by omega), w32_id (x := 64 * (x : Int) + (k : Int)) (by omega) (by omega), w32_id (x := (k : Int) + 1) (by omega) (by omega), show 64 * (x : Int) + (k : Int) = ((64 * x + k : Nat) : Int) by omega, if_pos (inbN (by omega)), Int.toNat_natCast, show (k : Int) + 1 = ((k + 1 : Nat) : Int) by omega]
    refine ih (k + 1) _ _ (up s2 44 0 (64 * x + k) (T x k)) (by omega) (YR_fr hR2 ⟨fun q hq => up_c (by omega), fun i _ => by rw [up_c (by decide)]⟩) (frI_c (by omega) (frI_tr hf (frI_W ff))) (fun l hl set hs => ?_) (fun set hs => ?_) (fun l hl => ?_)
    · rw [up_i (by omega), e44]; exact h1 l hl set hs
    · by_cases e : set = k
      · rw [e, up_hit]
      · rw [up_i (by omega), e44]; exact h2 set (by omega)
    · rw [up_c (by decide), e45]; exact h3 l hl
def tabR (T : Nat → Nat → Int) (n : Nat) (s : Sg) : Prop := ∀ l, l < 4 → ∀ set, set < 2 ^ n → s 44 0 (64 * l + set) = T l set
theorem lnR3 {x1 : Int} (hT : ∀ l set, lanB ft v false n ((l : Nat) : Int) set = T l set) : ∀ (j x : Nat) (z3 z4 z5 : PV) (s : Sg), x + j = 4 → YR ft n v false s → frI s0 s → (∀ l, l < x → ∀ set, set < 2 ^ n → s 44 0 (64 * l + set) = T l set) → (∀ l, l < x → s 45 0 l = 0) → ∃ z3' z4' z5' s', EV (d + 48) mX9_lanes (24, [vr 32 0, vi x1, vi (x : Int), z3, z4, z5], [], s) = EV (d + 48) mX9_lanes (24, [vr 32 0, vi x1, vi 4, z3', z4', z5'], [], s') ∧ YR ft n v false s' ∧ frI s0 s' ∧ tabR T n s' ∧ (∀ l, l < 4 → s' 45 0 l = 0) := by
  intro j
  induction j with
  | zero =>
    intro x z3 z4 z5 s hx hR hf h1 h2
    have hx : x = 4 := by omega
    subst hx
    exact ⟨z3, z4, z5, s, rfl, hR, hf, h1, h2⟩
  | succ j ih =>
    intro x z3 z4 z5 s hx hR hf h1 h2
    have hRu : YR ft n v false (up s 45 0 x 0) := YR_fr hR ⟨fun q hq => up_c (by omega), fun i _ => by rw [up_c (by decide)]⟩
    obtain ⟨z3', z4', z5', s1, a1, a2, a3, a4, a5⟩ := lnR2 (d := d) (x1 := x1) (x := x) (s0 := s0) hT (by omega) (2 ^ n) 0 z4 z5 (up s 45 0 x 0) (by omega) hRu (frI_c (by omega) hf) (fun l hl set hs => by rw [up_c (by decide)]; exact h1 l hl set hs) (fun set hs => by omega) (fun l hl => by
      by_cases e : l = x
      · rw [e, up_hit]
      · rw [up_i e]; exact h2 l (by omega))
    rw [qX9_lanes_24, if_pos (by omega), if_pos (inbN (by omega)), Int.toNat_natCast, show EV (d + 48) mX9_lanes (38, [vr 32 0, vi x1, vi (x : Int), vi 0, z4, z5], [], up s 45 0 x 0) = _ from a1]
    exact ih (x + 1) _ _ _ s1 (by omega) a2 a3 a4 a5
/-- seeking -/
def frS (s s' : Sg) : Prop := (∀ q, q ≠ 32 → q ≠ 45 → s' q = s q) ∧ ∀ i, i ≠ 34 → i ≠ 35 → s' 32 0 i = s 32 0 i
theorem frS_tr {s1 s2 s3 : Sg} (h1 : frS s1 s2) (h2 : frS s2 s3) : frS s1 s3 := ⟨fun q a b => (h2.1 q a b).trans (h1.1 q a b), fun i a b => (h2.2 i a b).trans (h1.2 i a b)⟩
theorem frS_45 {s s' : Sg} {i : Nat} {x : Int} (h : frS s s') : frS s (up s' 45 0 i x) := ⟨fun q a b => by rw [up_c b]; exact h.1 q a b, fun i a b => by rw [up_c (by decide)]; exact h.2 i a b⟩
theorem frI_S {s s' : Sg} (h : frS s s') : frI s s' := ⟨fun c hc => h.1 c (by omega) (by omega), by rw [h.1 11 (by decide) (by decide)], by rw [h.1 13 (by decide) (by decide)], fun i hi => h.2 i (by omega) (by omega)⟩
def SKI (T : Nat → Nat → Int) (B D : Nat → Int) (n c p k : Nat) (s : Sg) : Prop := s 32 0 9 = (n : Int) ∧ (∀ l, l < 4 → s 45 0 l = ((setN (lwp c p) c l : Nat) : Int)) ∧ tabR T n s ∧ s 32 0 34 = (mrF B D k).1 ∧ s 32 0 35 = (mrF B D k).2
theorem sk0 {w : Nat} {z1 : PV} {x2 : Int} (hTr : ∀ l set, 0 ≤ T l set ∧ T l set ≤ 10800) (h6 : n ≤ 6) (ht : tabR T n s) (hm : ∀ l, l < 4 → s 45 0 l = ((setN (lwp n w) n l : Nat) : Int)) : ∀ (j x : Nat), x + j = 4 → (0 ≤ sumN (fun l => T l (setN (lwp n w) n l)) x ∧ sumN (fun l => T l (setN (lwp n w) n l)) x ≤ 10800 * (x : Int)) → EV d mX9_seeks (13, [vr 32 0, z1, vi x2, vi (sumN (fun l => T l (setN (lwp n w) n l)) x), vi (x : Int)], [], s) = EV d mX9_seeks (13, [vr 32 0, z1, vi x2, vi (wayB T n w), vi 4], [], s)
  | 0, x, hx, hr => by
    have hx : x = 4 := by omega
    subst hx
    rfl
  | j + 1, x, hx, hr => by
    have hlt : setN (lwp n w) n x < 2 ^ n := msk_lt _ n
    have h64 := p64 h6
    have hT := hTr x (setN (lwp n w) n x)
    have es : sumN (fun l => T l (setN (lwp n w) n l)) (x + 1) = sumN (fun l => T l (setN (lwp n w) n l)) x + T x (setN (lwp n w) n x) := rfl
    rw [qX9_seeks_13, if_pos (by omega), if_pos (inbN (by omega)), Int.toNat_natCast, hm x (by omega), w32_id (x := 64 * (x : Int)) (by omega) (by omega), w32_id (x := 64 * (x : Int) + ((setN (lwp n w) n x : Nat) : Int)) (by omega) (by omega), show 64 * (x : Int) + ((setN (lwp n w) n x : Nat) : Int) = ((64 * x + setN (lwp n w) n x : Nat) : Int) by omega, if_pos (inbN (by omega)), Int.toNat_natCast, ht x (by omega) _ hlt, w32_id (by omega) (by omega), w32_id (by omega) (by omega), ← es, show (x : Int) + 1 = ((x + 1 : Nat) : Int) by omega]
    exact sk0 hTr h6 ht hm j (x + 1) (by omega) (by omega)
theorem skL {c p : Nat} {j : Nat} {z4 : PV} (hc : c < 6) (ih : ∀ p s, SKI T B D n (c + 1) p (p * 4 ^ j) s → ∃ s', RUN (d + j) mX9_seeks [vr 32 0, vi ((c + 1 : Nat) : Int), vi (dgs (lwp (c + 1) p) (c + 1))] s = some (none, s') ∧ frS s s' ∧ SKI T B D n (c + 1) p ((p + 1) * 4 ^ j) s') : ∀ (m l : Nat) (s : Sg), l + m = 4 → SKI T B D n c p ((4 * p + l) * 4 ^ j) s → ∃ s', EV (d + j + 1) mX9_seeks (74, [vr 32 0, vi (c : Int), vi (dgs (lwp c p) c), vi (l : Int), z4], [], s) = some (none, s') ∧ frS s s' ∧ SKI T B D n c p ((4 * p + 4) * 4 ^ j) s' := by
  have hd := dgs_rg (lwp_4 c p) c
  have hp : (10 : Int) ^ c ≤ 100000 := by
    have : c = 0 ∨ c = 1 ∨ c = 2 ∨ c = 3 ∨ c = 4 ∨ c = 5 := by omega
    rcases this with rfl | rfl | rfl | rfl | rfl | rfl <;> decide
  intro m
  induction m with
  | zero =>
    intro l s hl hs
    have hl : l = 4 := by omega
    subst hl
    rw [qX9_seeks_74, if_neg (by decide)]
    exact ⟨s, rfl, ⟨fun _ _ _ => rfl, fun _ _ _ => rfl⟩, hs⟩
  | succ m ihm =>
    intro l s hl hs
    have hl4 : l < 4 := by omega
    obtain ⟨i1, i2, i3, i4, i5⟩ := hs
    have hlt : setN (lwp c p) c l < 2 ^ c := msk_lt _ c
    obtain ⟨s1, hs1, g1, g2⟩ : ∃ s1, up s 45 0 l ((setN (lwp c p) c l + 2 ^ c : Nat) : Int) = s1 ∧ frS s s1 ∧ ∀ l', l' < 4 → s1 45 0 l' = ((setN (lwp (c + 1) (4 * p + l)) (c + 1) l' : Nat) : Int) := by
      refine ⟨_, rfl, frS_45 ⟨fun _ _ _ => rfl, fun _ _ _ => rfl⟩, fun l' hl' => ?_⟩
      rw [setN_up hl4]
      by_cases e : l' = l
      · subst e
        rw [up_hit, if_pos rfl]
      · rw [up_i e, if_neg (fun z => e z.symm)]; exact i2 l' hl'
    obtain ⟨s2, a1, a2, a3⟩ := ih (4 * p + l) s1 ⟨by rw [g1.2 9 (by decide) (by decide)]; exact i1, g2, fun l' h1 set h2 => by rw [g1.1 44 (by decide) (by decide)]; exact i3 l' h1 set h2, by rw [← hs1, up_c (by decide)]; exact i4, by rw [← hs1, up_c (by decide)]; exact i5⟩
    obtain ⟨k1, k2, k3, k4, k5⟩ := a3
    have ed := dgs_up (c := c) (p := p) hl4
    have es2 : s2 45 0 l = ((setN (lwp c p) c l + 2 ^ c : Nat) : Int) := by rw [k2 l hl4, setN_up hl4, if_pos rfl]
    rw [qX9_seeks_74, if_pos (by omega), if_pos (inbN hl4), if_pos (inbN hl4), Int.toNat_natCast, i2 l hl4, wor_add c hc _ hlt, hs1, w32_id (x := 10 * dgs (lwp c p) c) (by omega) (by omega), w32_id (x := 10 * dgs (lwp c p) c + (l : Int)) (by omega) (by omega), w32_id (x := 10 * dgs (lwp c p) c + (l : Int) + 1) (by omega) (by omega), w32_id (x := (c : Int) + 1) (by omega) (by omega), ← ed, show (c : Int) + 1 = ((c + 1 : Nat) : Int) by omega, a1, bV_s, if_pos (inbN hl4), if_pos (inbN hl4), es2, clr_add c hc _ hlt, w32_id (by omega) (by omega), show (l : Int) + 1 = ((l + 1 : Nat) : Int) by omega]
    obtain ⟨s', b1, b2, b3⟩ := ihm (l + 1) (up s2 45 0 l ((setN (lwp c p) c l : Nat) : Int)) (by omega) ⟨by rw [up_c (by decide)]; exact k1, fun l' hl' => by
      by_cases e : l' = l
      · subst e
        rw [up_hit]
      · rw [up_i e, k2 l' hl', setN_up hl4, if_neg (fun z => e z.symm)], fun l' h1 set h2 => by rw [up_c (by decide)]; exact k3 l' h1 set h2, by rw [up_c (by decide)]; exact k4, by rw [up_c (by decide)]; exact k5⟩
    exact ⟨s', b1, frS_tr (frS_45 (frS_tr g1 a2)) b2, b3⟩
theorem skR (hTr : ∀ l set, 0 ≤ T l set ∧ T l set ≤ 10800) (hB : ∀ w, wayB T n w = B w) (hD : ∀ w, dgs (lwp n w) n = D w) (h6 : n ≤ 6) : ∀ (j c p : Nat) (s : Sg), c + j = n → SKI T B D n c p (p * 4 ^ j) s → ∃ s', RUN (d + j) mX9_seeks [vr 32 0, vi (c : Int), vi (dgs (lwp c p) c)] s = some (none, s') ∧ frS s s' ∧ SKI T B D n c p ((p + 1) * 4 ^ j) s' := by
  intro j
  induction j with
  | zero =>
    intro c p s hc hs
    have hc : c = n := by omega
    subst hc
    obtain ⟨i1, i2, i3, i4, i5⟩ := hs
    have h0 := sk0 (d := d) (z1 := vi (c : Int)) (x2 := dgs (lwp c p) c) hTr h6 i3 i2 4 0 (by omega) ⟨Int.le_refl 0, Int.le_refl 0⟩
    rw [Nat.pow_zero, Nat.mul_one] at i4 i5 ⊢
    rw [qX9_seeks, i1, if_pos rfl, show EV (d + 0) mX9_seeks (13, [vr 32 0, vi (c : Int), vi (dgs (lwp c p) c), vi 0, vi 0], [], s) = _ from h0, qX9_seeks_13, if_neg (by decide), i4, i5, hB, hD]
    have up2 : frS s (up (up s 32 0 34 (D p)) 32 0 35 (B p)) ∧ SKI T (B) D c c p (p + 1) s = SKI T B D c c p (p + 1) s := ⟨⟨fun q a b => by rw [up_c a, up_c a], fun i a b => by rw [up_i b, up_i a]⟩, rfl⟩
    have new : (mrF B D p).1 = 0 ∨ B p < (mrF B D p).2 → SKI T B D c c p (p + 1) (up (up s 32 0 34 (D p)) 32 0 35 (B p)) := by
      intro q
      unfold SKI
      rw [mrF, if_pos q]
      exact ⟨by rw [up_i (by decide), up_i (by decide)]; exact i1, fun l hl => by rw [up_c (by decide), up_c (by decide)]; exact i2 l hl, fun l' h1 set h2 => by rw [up_c (by decide), up_c (by decide)]; exact i3 l' h1 set h2, by rw [up_i (by decide), up_hit], up_hit _ _ _ _ _⟩
    by_cases q1 : (mrF B D p).1 = 0
    · rw [if_pos q1]
      exact ⟨_, rfl, up2.1, new (Or.inl q1)⟩
    · rw [if_neg q1]
      by_cases q2 : B p < (mrF B D p).2
      · rw [if_pos q2]
        exact ⟨_, rfl, up2.1, new (Or.inr q2)⟩
      · rw [if_neg q2]
        refine ⟨s, rfl, ⟨fun _ _ _ => rfl, fun _ _ _ => rfl⟩, ?_⟩
        unfold SKI
        rw [mrF, if_neg (fun z => z.elim q1 q2)]
        exact ⟨i1, i2, i3, i4, i5⟩
  | succ j ih =>
    intro c p s hc hs
    have e1 : p * 4 ^ (j + 1) = (4 * p + 0) * 4 ^ j := by rw [Nat.pow_succ, Nat.add_zero, Nat.mul_comm 4 p, Nat.mul_assoc, Nat.mul_comm 4]
    have e2 : (p + 1) * 4 ^ (j + 1) = (4 * p + 4) * 4 ^ j := by rw [Nat.pow_succ, show 4 * p + 4 = (p + 1) * 4 by omega, Nat.mul_assoc, Nat.mul_comm 4]
    rw [e1] at hs
    rw [e2]
    obtain ⟨s', a1, a2, a3⟩ := skL (d := d) (z4 := UU) (j := j) (by omega) (fun p s => ih (c + 1) p s (by omega)) 4 0 s (by omega) hs
    rw [qX9_seeks, hs.1, if_neg (by omega)]
    exact ⟨s', a1, a2, a3⟩
end PM
