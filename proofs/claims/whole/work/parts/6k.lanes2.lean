/-! LAW 21: lanes: what is asked; the class -/
def lwp : Nat → Nat → Nat → Nat
  | 0, _, _ => 0
  | c + 1, p, i => if i = c then p % 4 else lwp c (p / 4) i
theorem lwp_4 : ∀ c p i, lwp c p i < 4
  | 0, _, _ => by rw [lwp]; omega
  | c + 1, p, i => by
    rw [lwp]
    by_cases q : i = c
    · rw [if_pos q]; omega
    · rw [if_neg q]; exact lwp_4 c (p / 4) i
theorem lwp_div : ∀ c p i, i < c → lwp c p i = p / 4 ^ (c - 1 - i) % 4
  | 0, _, _, h => by omega
  | c + 1, p, i, h => by
    rw [lwp]
    by_cases q : i = c
    · rw [if_pos q, q, show c + 1 - 1 - c = 0 by omega, Nat.pow_zero, Nat.div_one]
    · rw [if_neg q, lwp_div c (p / 4) i (by omega), Nat.div_div_eq_div_mul, show c + 1 - 1 - i = (c - 1 - i) + 1 by omega, Nat.pow_succ, Nat.mul_comm 4]
def wayB (T : Nat → Nat → Int) (n w : Nat) : Int := sumN (fun l => T l (setN (lwp n w) n l)) 4
def mnF (B : Nat → Int) : Nat → Int × Int
  | 0 => (0, -1)
  | k + 1 => if (mnF B k).2 = -1 ∨ B k < (mnF B k).2 then ((k : Int), B k) else mnF B k
def dgs (ln : Nat → Nat) : Nat → Int
  | 0 => 0
  | c + 1 => dgs ln c * 10 + (ln c : Int) + 1
theorem dgs_rg {ln : Nat → Nat} (h : ∀ i, ln i < 4) : ∀ c, 0 ≤ dgs ln c ∧ dgs ln c < (10 : Int) ^ c
  | 0 => by rw [dgs]; decide
  | c + 1 => by
    have ih := dgs_rg h c
    have := h c
    rw [dgs, Int.pow_succ]
    omega
theorem mnF_nat {B : Nat → Int} : ∀ k, ∃ w : Nat, (mnF B k).1 = (w : Int) ∧ (w < k ∨ w = 0)
  | 0 => ⟨0, rfl, Or.inr rfl⟩
  | k + 1 => by
    rw [mnF]
    by_cases q : (mnF B k).2 = -1 ∨ B k < (mnF B k).2
    · rw [if_pos q]; exact ⟨k, rfl, Or.inl (Nat.lt_succ_self k)⟩
    · rw [if_neg q]
      obtain ⟨w, h1, h2⟩ := mnF_nat (B := B) k
      exact ⟨w, h1, by omega⟩
theorem p4096 {n : Nat} (h : n ≤ 6) : 4 ^ n ≤ 4096 := Nat.pow_le_pow_right (n := 4) (by decide) h
theorem p64 {n : Nat} (h : n ≤ 6) : 2 ^ n ≤ 64 := Nat.pow_le_pow_right (n := 2) (by decide) h
theorem shl1 : ∀ n : Nat, n < 7 → wshl 1 (n : Int) = ((2 ^ n : Nat) : Int) ∧ wshl 1 (w32 (2 * (n : Int))) = ((4 ^ n : Nat) : Int) := by decide +kernel
section PN
variable {ft : Ft} {n : Nat} {v : Sem × Sem × Sem} {T : Nat → Nat → Int} {s0 s : Sg} {d : Nat}
theorem inWayC {w c : Nat} (hC : YC ft n v false s) (hc : c < n) (hw : w < 4096) : RUN (d + 1) mX0_laneInWay [vr 21 0, vi (w : Int), vi (c : Int)] s = some (some (vi ((lwp n w c : Nat) : Int)), s) := by
  have h6 := hC.2.1.1
  have e := ws3 (n - 1 - c) (by omega) (w / 64) (by omega) (w % 64) (by omega)
  rw [show 64 * (w / 64) + w % 64 = w by omega] at e
  rw [qX0_laneInWay, YC_size hC, bI_s, w32_id (x := (n : Int) - 1) (by omega) (by omega), w32_id (x := (n : Int) - 1 - (c : Int)) (by omega) (by omega), w32_id (by omega) (by omega), show 2 * ((n : Int) - 1 - (c : Int)) = ((2 * (n - 1 - c) : Nat) : Int) by omega, e, lwp_div n w c hc]
/-- filled -/
def tabC (T : Nat → Nat → Int) (n : Nat) (s : Sg) : Prop := ∀ l, l < 4 → ∀ set, set < 2 ^ n → s 23 l set = T l set
theorem fillC1 {x : Nat} (hT : ∀ l set, lanB ft v false n ((l : Nat) : Int) set = T l set) (hx : x < 4) : ∀ (j k : Nat) (s : Sg), k + j = 2 ^ n → YC ft n v false s → frI s0 s → (∀ l, l < x → ∀ set, set < 2 ^ n → s 23 l set = T l set) → (∀ set, set < k → s 23 x set = T x set) → ∃ s', EV (d + 7) mX0_fillLaneBadness (9, [vr 21 0, vi (x : Int), vi (k : Int)], [], s) = EV (d + 7) mX0_fillLaneBadness (2, [vr 21 0, vi ((x + 1 : Nat) : Int), vi ((2 ^ n : Nat) : Int)], [], s') ∧ YC ft n v false s' ∧ frI s0 s' ∧ (∀ l, l < x + 1 → ∀ set, set < 2 ^ n → s' 23 l set = T l set) := by
  intro j
  induction j with
  | zero =>
    intro k s hk hC hf h1 h2
    have hk : k = 2 ^ n := by omega
    subst hk
    have h6 := hC.2.1.1
    rw [qX0_fillLaneBadness_9, YC_size hC, bI_s, (shl1 n (by omega)).1, if_neg (by omega), w32_id (by omega) (by omega), show (x : Int) + 1 = ((x + 1 : Nat) : Int) by omega]
    refine ⟨s, rfl, hC, hf, fun l hl set hs => ?_⟩
    by_cases e : l = x
    · rw [e]; exact h2 set hs
    · exact h1 l (by omega) set hs
  | succ j ih =>
    intro k s hk hC hf h1 h2
    have h6 := hC.2.1.1
    have h64 := p64 h6
    obtain ⟨s1, a1, a2, _⟩ := playC (d := d) (l := (x : Int)) (set := k) (by omega) (by omega) hC
    rw [hT x k] at a1
    have e23 : s1 23 = s 23 := a2.1 23 (by decide) (by decide) (by decide) (by decide) (by decide) (by decide) (by decide) (by decide) (by decide)
    rw [qX0_fillLaneBadness_9, YC_size hC, bI_s, (shl1 n (by omega)).1, if_pos (by omega), if_pos (inbN (by omega)), a1, bI_s, if_pos (inbN (by omega)), Int.toNat_natCast, Int.toNat_natCast, w32_id (by omega) (by omega), show (k : Int) + 1 = ((k + 1 : Nat) : Int) by omega]
    refine ih (k + 1) (up s1 23 x k (T x k)) (by omega) (YC_fr hC ⟨fun q hq => by rw [up_c (by omega), (frY_L a2).1 q hq], by rw [up_c (by decide), (frY_L a2).2]⟩) (frI_c (by omega) (frI_tr hf (frI_L a2))) (fun l hl set hs => ?_) (fun set hs => ?_)
    · rw [up_ap, if_neg (by omega), e23]; exact h1 l hl set hs
    · by_cases e : set = k
      · rw [e, up_hit]
      · rw [up_i e, e23]; exact h2 set (by omega)
theorem fillC (hT : ∀ l set, lanB ft v false n ((l : Nat) : Int) set = T l set) : ∀ (j x : Nat) (z2 : PV) (s : Sg), x + j = 4 → YC ft n v false s → frI s0 s → (∀ l, l < x → ∀ set, set < 2 ^ n → s 23 l set = T l set) → ∃ s', EV (d + 7) mX0_fillLaneBadness (2, [vr 21 0, vi (x : Int), z2], [], s) = some (none, s') ∧ YC ft n v false s' ∧ frI s0 s' ∧ tabC T n s' := by
  intro j
  induction j with
  | zero =>
    intro x z2 s hx hC hf h1
    have hx : x = 4 := by omega
    subst hx
    rw [qX0_fillLaneBadness_2, if_neg (by decide)]
    exact ⟨s, rfl, hC, hf, h1⟩
  | succ j ih =>
    intro x z2 s hx hC hf h1
    obtain ⟨s1, a1, a2, a3, a4⟩ := fillC1 (d := d) (x := x) hT (by omega) (2 ^ n) 0 s (by omega) hC hf h1 (fun set hs => by omega)
    rw [qX0_fillLaneBadness_2, if_pos (by omega), show EV (d + 7) mX0_fillLaneBadness (9, [vr 21 0, vi (x : Int), vi 0], [], s) = _ from a1]
    exact ih (x + 1) _ s1 (by omega) a2 a3 a4
def mb24 (ln : Nat → Nat) (x : Nat) (s : Sg) : Prop := ∀ l, l < 4 → s 24 0 l = ((setN ln x l : Nat) : Int)
theorem bw0 {ln : Nat → Nat} {w : PV} {x1 : Int} {z3 : PV} : ∃ s', EV d mX0_badnessOfWay (2, [vr 21 0, vi x1, vi 0, z3], [], s) = EV d mX0_badnessOfWay (22, [vr 21 0, vi x1, vi 0, z3], [], s') ∧ mb24 ln 0 s' ∧ (∀ c, c ≠ 24 → s' c = s c) := by
  rw [qX0_badnessOfWay_2, if_pos (by decide), if_pos (by decide), show w32 (0 + 1) = 1 from rfl, qX0_badnessOfWay_2, if_pos (by decide), if_pos (by decide), show w32 (1 + 1) = 2 from rfl, qX0_badnessOfWay_2, if_pos (by decide), if_pos (by decide), show w32 (2 + 1) = 3 from rfl, qX0_badnessOfWay_2, if_pos (by decide), if_pos (by decide), show w32 (3 + 1) = 4 from rfl, qX0_badnessOfWay_2, if_neg (by decide)]
  refine ⟨_, rfl, fun l hl => ?_, fun c hc => by rw [up_c hc, up_c hc, up_c hc, up_c hc]⟩
  have h : l = 0 ∨ l = 1 ∨ l = 2 ∨ l = 3 := by omega
  rcases h with rfl | rfl | rfl | rfl
  · rw [up_i (by decide), up_i (by decide), up_i (by decide), show Int.toNat 0 = 0 from rfl, up_hit]; rfl
  · rw [up_i (by decide), up_i (by decide), show Int.toNat 1 = 1 from rfl, up_hit]; rfl
  · rw [up_i (by decide), show Int.toNat 2 = 2 from rfl, up_hit]; rfl
  · rw [show Int.toNat 3 = 3 from rfl, up_hit]; rfl
theorem bw1 {w : Nat} {z3 : PV} (hw : w < 4096) : ∀ (j x : Nat) (s : Sg), x + j = n → YC ft n v false s → mb24 (lwp n w) x s → ∃ s', EV (d + 2) mX0_badnessOfWay (22, [vr 21 0, vi (w : Int), vi (x : Int), z3], [], s) = EV (d + 2) mX0_badnessOfWay (60, [vr 21 0, vi (w : Int), vi 0, vi 0], [], s') ∧ mb24 (lwp n w) n s' ∧ (∀ c, c ≠ 24 → s' c = s c) := by
  intro j
  induction j with
  | zero =>
    intro x s hx hC hm
    have hx : x = n := by omega
    subst hx
    rw [qX0_badnessOfWay_22, YC_size hC, bI_s, if_neg (by omega)]
    exact ⟨s, rfl, hm, fun _ _ => rfl⟩
  | succ j ih =>
    intro x s hx hC hm
    have h6 := hC.2.1.1
    have hlt : setN (lwp n w) x (lwp n w x) < 2 ^ x := msk_lt _ x
    have hl4 := lwp_4 n w x
    rw [qX0_badnessOfWay_22, YC_size hC, bI_s, if_pos (by omega), inWayC hC (by omega) hw, bI_s, if_pos (inbN hl4), if_pos (inbN hl4), Int.toNat_natCast, hm _ hl4, wor_add x (by omega) _ hlt, w32_id (by omega) (by omega), show (x : Int) + 1 = ((x + 1 : Nat) : Int) by omega]
    obtain ⟨s', a1, a2, a3⟩ := ih (x + 1) (up s 24 0 (lwp n w x) ((setN (lwp n w) x (lwp n w x) + 2 ^ x : Nat) : Int)) (by omega) (YC_fr hC ⟨fun q hq => up_c (by omega), by rw [up_c (by decide)]⟩) (fun l hl => by
      by_cases e : l = lwp n w x
      · subst e
        rw [up_hit]
        unfold setN
        rw [msk, if_pos (by simp)]
      · rw [up_i e, hm l hl]
        unfold setN
        rw [msk, if_neg (by simp; omega), Nat.add_zero])
    exact ⟨s', a1, a2, fun c hc => (a3 c hc).trans (up_c hc)⟩
theorem bw2 {w : Nat} {z1 : PV} (hTr : ∀ l set, 0 ≤ T l set ∧ T l set ≤ 10800) (h6 : n ≤ 6) (ht : tabC T n s) (hm : mb24 (lwp n w) n s) : ∀ (j x : Nat), x + j = 4 → (0 ≤ sumN (fun l => T l (setN (lwp n w) n l)) x ∧ sumN (fun l => T l (setN (lwp n w) n l)) x ≤ 10800 * (x : Int)) → EV d mX0_badnessOfWay (60, [vr 21 0, z1, vi (sumN (fun l => T l (setN (lwp n w) n l)) x), vi (x : Int)], [], s) = some (some (vi (wayB T n w)), s)
  | 0, x, hx, hr => by
    have hx : x = 4 := by omega
    subst hx
    rw [qX0_badnessOfWay_60, if_neg (by decide)]
    rfl
  | j + 1, x, hx, hr => by
    have hlt : setN (lwp n w) n x < 2 ^ n := msk_lt _ n
    have h64 := p64 h6
    have hT := hTr x (setN (lwp n w) n x)
    have es : sumN (fun l => T l (setN (lwp n w) n l)) (x + 1) = sumN (fun l => T l (setN (lwp n w) n l)) x + T x (setN (lwp n w) n x) := rfl
    rw [qX0_badnessOfWay_60, if_pos (by omega), if_pos (inbN (by omega)), if_pos (inbN (by omega)), Int.toNat_natCast, hm x (by omega), if_pos (inbN (by omega)), Int.toNat_natCast, ht x (by omega) _ hlt, w32_id (by omega) (by omega), w32_id (by omega) (by omega), ← es, show (x : Int) + 1 = ((x + 1 : Nat) : Int) by omega]
    exact bw2 hTr h6 ht hm j (x + 1) (by omega) (by omega)
theorem bwC {w : Nat} (hTr : ∀ l set, 0 ≤ T l set ∧ T l set ≤ 10800) (hC : YC ft n v false s) (ht : tabC T n s) (hw : w < 4096) : ∃ s', RUN (d + 2) mX0_badnessOfWay [vr 21 0, vi (w : Int)] s = some (some (vi (wayB T n w)), s') ∧ ∀ c, c ≠ 24 → s' c = s c := by
  obtain ⟨s1, a1, a2, a3⟩ := bw0 (d := d + 2) (s := s) (ln := lwp n w) (w := UU) (x1 := (w : Int)) (z3 := UU)
  have hC1 : YC ft n v false s1 := YC_fr hC ⟨fun q hq => a3 q (by omega), by rw [a3 13 (by decide)]⟩
  obtain ⟨s2, b1, b2, b3⟩ := bw1 (d := d) (z3 := UU) hw n 0 s1 (by omega) hC1 a2
  have ht2 : tabC T n s2 := fun l hl set hs => by rw [b3 23 (by decide), a3 23 (by decide)]; exact ht l hl set hs
  have h3 := bw2 (d := d + 2) (z1 := vi (w : Int)) hTr hC.2.1.1 ht2 b2 4 0 (by omega) ⟨Int.le_refl 0, Int.le_refl 0⟩
  rw [qX0_badnessOfWay, a1, show EV (d + 2) mX0_badnessOfWay (22, [vr 21 0, vi (w : Int), vi 0, UU], [], s1) = _ from b1]
  exact ⟨s2, h3, fun c hc => (b3 c hc).trans (a3 c hc)⟩
theorem dgC {w : Nat} (hC : YC ft n v false s) (hw : w < 4096) : ∀ (j x : Nat), x + j = n → EV (d + 2) mX0_digits (4, [vr 21 0, vi (w : Int), vi (dgs (lwp n w) x), vi (x : Int)], [], s) = some (some (vi (dgs (lwp n w) n)), s)
  | 0, x, hx => by
    have hx : x = n := by omega
    subst hx
    rw [qX0_digits_4, YC_size hC, bI_s, if_neg (by omega)]
  | j + 1, x, hx => by
    have h6 := hC.2.1.1
    have hd := dgs_rg (lwp_4 n w) x
    have hp : (10 : Int) ^ x ≤ 100000 := by
      have : x = 0 ∨ x = 1 ∨ x = 2 ∨ x = 3 ∨ x = 4 ∨ x = 5 := by omega
      rcases this with rfl | rfl | rfl | rfl | rfl | rfl <;> decide
    have hl4 := lwp_4 n w x
    have es : dgs (lwp n w) (x + 1) = dgs (lwp n w) x * 10 + ((lwp n w x : Nat) : Int) + 1 := rfl
    rw [qX0_digits_4, YC_size hC, bI_s, if_pos (by omega), inWayC hC (by omega) hw, bI_s, w32_id (x := dgs (lwp n w) x * 10) (by omega) (by omega), w32_id (x := dgs (lwp n w) x * 10 + ((lwp n w x : Nat) : Int)) (by omega) (by omega), w32_id (by omega) (by omega), w32_id (by omega) (by omega), ← es, show (x : Int) + 1 = ((x + 1 : Nat) : Int) by omega]
    exact dgC hC hw j (x + 1) (by omega)
theorem skC {B : Nat → Int} (hB : ∀ w, wayB T n w = B w) (hTr : ∀ l set, 0 ≤ T l set ∧ T l set ≤ 10800) : ∀ (j k : Nat) (z3 : PV) (s : Sg), k + j = 4 ^ n → YC ft n v false s → frI s0 s → tabC T n s → s 21 0 5 = (mnF B k).1 → s 21 0 6 = (mnF B k).2 → ∃ s', EV (d + 3) mX0_seekLanes (28, [vr 21 0, vi ((4 ^ n : Nat) : Int), vi (k : Int), z3], [], s) = some (none, s') ∧ frI s0 s' ∧ s' 21 0 5 = dgs (lwp n (mnF B (4 ^ n)).1.toNat) n ∧ s' 21 0 6 = (mnF B (4 ^ n)).2 := by
  intro j
  induction j with
  | zero =>
    intro k z3 s hk hC hf ht h5 h6
    have hk : k = 4 ^ n := by omega
    subst hk
    obtain ⟨w, w1, w2⟩ := mnF_nat (B := B) (4 ^ n)
    have hp := p4096 hC.2.1.1
    have hd := dgC (d := d) (w := w) hC (by omega) n 0 (by omega)
    rw [qX0_seekLanes_28, if_neg (by omega), h5, w1, qX0_digits, show EV (d + 2) mX0_digits (4, [vr 21 0, vi (w : Int), vi 0, vi 0], [], s) = _ from hd, bI_s, Int.toNat_natCast]
    exact ⟨_, rfl, frI_c (by omega) hf, up_hit _ _ _ _ _, by rw [up_i (by decide)]; exact h6⟩
  | succ j ih =>
    intro k z3 s hk hC hf ht h5 h6
    have hp := p4096 hC.2.1.1
    obtain ⟨s1, a1, a2⟩ := bwC (d := d) (w := k) hTr hC ht (by omega)
    rw [hB] at a1
    have hC1 : YC ft n v false s1 := YC_fr hC ⟨fun q hq => a2 q (by omega), by rw [a2 13 (by decide)]⟩
    have hf1 : frI s0 s1 := frI_tr hf ⟨fun q hq => a2 q (by omega), by rw [a2 11 (by decide)], by rw [a2 13 (by decide)], fun i _ => by rw [a2 32 (by decide)]⟩
    have ht1 : tabC T n s1 := fun l hl set hs => by rw [a2 23 (by decide)]; exact ht l hl set hs
    have ihB := ih (k + 1)
    rw [mnF] at ihB
    have g55 : ∃ s2, EV (d + 3) mX0_seekLanes (55, [vr 21 0, vi ((4 ^ n : Nat) : Int), vi (k : Int), vi (B k)], [], s1) = EV (d + 3) mX0_seekLanes (28, [vr 21 0, vi ((4 ^ n : Nat) : Int), vi ((k + 1 : Nat) : Int), vi (B k)], [], s2) ∧ YC ft n v false s2 ∧ frI s0 s2 ∧ tabC T n s2 ∧ s2 21 0 5 = (k : Int) ∧ s2 21 0 6 = B k := by
      refine ⟨up (up s1 21 0 5 (k : Int)) 21 0 6 (B k), ?_, YC_fr hC1 ⟨fun q hq => by rw [up_c (by omega), up_c (by omega)], by rw [up_c (by decide), up_c (by decide)]⟩, frI_c (by omega) (frI_c (by omega) hf1), fun l hl set hs => by rw [up_c (by decide), up_c (by decide)]; exact ht1 l hl set hs, by rw [up_i (by decide), up_hit], up_hit _ _ _ _ _⟩
      rw [qX0_seekLanes_55, qX0_seekLanes_65, w32_id (by omega) (by omega), show (k : Int) + 1 = ((k + 1 : Nat) : Int) by omega]
    obtain ⟨s2, b1, b2, b3, b4, b5, b6⟩ := g55
    rw [qX0_seekLanes_28, if_pos (by omega), a1, bI_s, a2 21 (by decide), h6]
    by_cases q1 : (mnF B k).2 = -1
    · rw [if_pos (Or.inl q1)] at ihB
      rw [if_pos q1, b1]
      exact ihB _ s2 (by omega) b2 b3 b4 b5 b6
    · rw [if_neg q1]
      by_cases q2 : B k < (mnF B k).2
      · rw [if_pos (Or.inr q2)] at ihB
        rw [if_pos q2, b1]
        exact ihB _ s2 (by omega) b2 b3 b4 b5 b6
      · rw [if_neg (fun z => z.elim q1 q2)] at ihB
        rw [if_neg q2, qX0_seekLanes_65, w32_id (by omega) (by omega), show (k : Int) + 1 = ((k + 1 : Nat) : Int) by omega]
        exact ihB _ s1 (by omega) hC1 hf1 ht1 (by rw [a2 21 (by decide)]; exact h5) (by rw [a2 21 (by decide)]; exact h6)
theorem lanesC {B : Nat → Int} (hT : ∀ l set, lanB ft v false n ((l : Nat) : Int) set = T l set) (hB : ∀ w, wayB T n w = B w) (hC : YC ft n v false s) : ∃ s', RUN (d + 8) mX0_seekLanes [vr 21 0] s = some (none, s') ∧ frI s s' ∧ s' 21 0 5 = dgs (lwp n (mnF B (4 ^ n)).1.toNat) n ∧ s' 21 0 6 = (mnF B (4 ^ n)).2 := by
  have h6 := hC.2.1.1
  obtain ⟨s1, a1, a2, a3, a4⟩ := fillC (d := d) (s0 := s) hT 4 0 UU s (by omega) hC (frI_refl s) (fun l hl => by omega)
  obtain ⟨s2, hs2, g1, g2, g3⟩ : ∃ s2, up (up s1 21 0 5 0) 21 0 6 (-1) = s2 ∧ s2 21 0 5 = 0 ∧ s2 21 0 6 = -1 ∧ ∀ q, q ≠ 21 → s2 q = s1 q := ⟨_, rfl, by rw [up_i (by decide), up_hit], up_hit _ _ _ _ _, fun q hq => by rw [up_c hq, up_c hq]⟩
  have hC2 : YC ft n v false s2 := YC_fr a2 ⟨fun q hq => g3 q (by omega), by rw [g3 13 (by decide)]⟩
  have hf2 : frI s s2 := by rw [← hs2]; exact frI_c (by omega) (frI_c (by omega) a3)
  obtain ⟨s3, b1, b2, b3, b4⟩ := skC (d := d + 5) (s0 := s) (T := T) hB (fun l set => by rw [← hT]; exact lanB_rg hC.2.1) (4 ^ n) 0 UU s2 (by omega) hC2 hf2 (fun l hl set hs => by rw [g3 23 (by decide)]; exact a4 l hl set hs) g1 g2
  rw [qX0_seekLanes, qX0_fillLaneBadness, show EV (d + 7) mX0_fillLaneBadness (2, [vr 21 0, vi 0, UU], [], s) = _ from a1, bV_s, hs2, YC_size hC2, bI_s, (shl1 n (by omega)).2]
  exact ⟨s3, b1, b2, b3, b4⟩
end PN
