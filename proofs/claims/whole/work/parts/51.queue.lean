/-! YARD 2: the queue of a lane -/
theorem wbit : ∀ x : Nat, x < 64 → ∀ c : Nat, c < 6 → wand (wshr (x : Int) (c : Int)) 1 = if x.testBit c = true then 1 else 0 := by decide +kernel
section YQ
variable {ft : Ft} {n : Nat} {v : Sem × Sem × Sem} {eg : Bool} {d x k : Nat} {l : Int} {S : Nat → Bool}
theorem bef_tr {a b c : Nat} (h1 : bef ft a b) (h2 : bef ft b c) : bef ft a c := by unfold bef at *; omega
theorem bef_tot {a b : Nat} (h : ¬ bef ft a b) (hn : b < a) : bef ft b a := by unfold bef at *; omega
/-- q: the cars of the set that fit, among the first n, in the order in which they come -/
def que (ft : Ft) (l : Int) (S : Nat → Bool) (n k : Nat) (q : Nat → Int) : Prop := k ≤ n ∧ (∀ i, i < k → ∃ c : Nat, q i = (c : Int) ∧ c < n ∧ S c = true ∧ fitB (ft 5 c) (ft 1 c) l = true) ∧ (∀ i j, i < j → j < k → bef ft (q i).toNat (q j).toNat) ∧ (∀ c, c < n → S c = true → fitB (ft 5 c) (ft 1 c) l = true → ∃ i, i < k ∧ q i = (c : Int))
theorem que_ext {q q' : Nat → Int} (h : que ft l S n k q) (e : ∀ i, i < k → q' i = q i) : que ft l S n k q' := by
  obtain ⟨h1, h2, h3, h4⟩ := h
  refine ⟨h1, fun i hi => by rw [e i hi]; exact h2 i hi, fun i j hij hj => by rw [e i (by omega), e j hj]; exact h3 i j hij hj, fun c a1 a2 a3 => ?_⟩
  obtain ⟨i, hi, hq⟩ := h4 c a1 a2 a3
  exact ⟨i, hi, by rw [e i hi]; exact hq⟩
theorem que_skip {q : Nat → Int} (h : que ft l S x k q) (hn : ¬ (S x = true ∧ fitB (ft 5 x) (ft 1 x) l = true)) : que ft l S (x + 1) k q := by
  obtain ⟨h1, h2, h3, h4⟩ := h
  refine ⟨by omega, fun i hi => ?_, h3, fun c a1 a2 a3 => ?_⟩
  · obtain ⟨c, c1, c2, c3, c4⟩ := h2 i hi
    exact ⟨c, c1, by omega, c3, c4⟩
  · by_cases e : c = x
    · subst e; exact absurd ⟨a2, a3⟩ hn
    · exact h4 c (by omega) a2 a3
theorem que_ins {q0 q : Nat → Int} {p : Nat} (h : que ft l S x k q0) (hS : S x = true) (hf : fitB (ft 5 x) (ft 1 x) l = true) (hp : p ≤ k) (e1 : ∀ i, i < p → q i = q0 i) (e2 : q p = (x : Int)) (e3 : ∀ i, p < i → i ≤ k → q i = q0 (i - 1)) (b1 : ∀ i, p ≤ i → i < k → bef ft x (q0 i).toNat) (b2 : p = 0 ∨ ¬ bef ft x (q0 (p - 1)).toNat) : que ft l S (x + 1) (k + 1) q := by
  obtain ⟨h1, h2, h3, h4⟩ := h
  have hb : ∀ i, i < p → bef ft (q0 i).toNat x := by
    intro i hi
    have b2 := b2.resolve_left (by omega)
    obtain ⟨c, c1, c2, c3, c4⟩ := h2 (p - 1) (by omega)
    have hlast : bef ft (q0 (p - 1)).toNat x := bef_tot b2 (by rw [c1, Int.toNat_natCast]; exact c2)
    by_cases e : i = p - 1
    · rw [e]; exact hlast
    · exact bef_tr (h3 i (p - 1) (by omega) (by omega)) hlast
  refine ⟨by omega, fun i hi => ?_, fun i j hij hj => ?_, fun c a1 a2 a3 => ?_⟩
  · by_cases c1 : i < p
    · obtain ⟨c, d1, d2, d3, d4⟩ := h2 i (by omega)
      exact ⟨c, (e1 i c1).trans d1, by omega, d3, d4⟩
    · by_cases c2 : i = p
      · exact ⟨x, by rw [c2]; exact e2, by omega, hS, hf⟩
      · obtain ⟨c, d1, d2, d3, d4⟩ := h2 (i - 1) (by omega)
        exact ⟨c, (e3 i (by omega) (by omega)).trans d1, by omega, d3, d4⟩
  · by_cases c1 : j < p
    · rw [e1 i (by omega), e1 j c1]; exact h3 i j hij (by omega)
    · by_cases c2 : j = p
      · rw [c2, e2, e1 i (by omega), Int.toNat_natCast]; exact hb i (by omega)
      · rw [e3 j (by omega) (by omega)]
        by_cases c3 : i < p
        · rw [e1 i c3]; exact h3 i (j - 1) (by omega) (by omega)
        · by_cases c4 : i = p
          · rw [c4, e2, Int.toNat_natCast]; exact b1 (j - 1) (by omega) (by omega)
          · rw [e3 i (by omega) (by omega)]; exact h3 (i - 1) (j - 1) (by omega) (by omega)
  · by_cases e : c = x
    · subst e; exact ⟨p, by omega, e2⟩
    · obtain ⟨i, hi, hq⟩ := h4 c (by omega) a2 a3
      by_cases c1 : i < p
      · exact ⟨i, by omega, (e1 i c1).trans hq⟩
      · exact ⟨i + 1, by omega, (e3 (i + 1) (by omega) (by omega)).trans hq⟩
theorem frY_20 {s s' : Sg} (h : ∀ c, c ≠ 20 → s' c = s c) : frY s s' := ⟨fun c hc => h c (by omega), by rw [h 13 (by decide)]⟩
theorem insC {q0 : Nat → Int} {set : Int} (hx : x < n) (h6 : n ≤ 6) (hq : que ft l S x k q0) (hS : S x = true) (hf : fitB (ft 5 x) (ft 1 x) l = true) : ∀ (p : Nat) (s : Sg), p ≤ k → YC ft n v eg s → (∀ i, i < p → s 20 0 i = q0 i) → (∀ i, p < i → i ≤ k → s 20 0 i = q0 (i - 1)) → (∀ i, p ≤ i → i < k → bef ft x (q0 i).toNat) → ∃ (p' : Nat) (s' : Sg), EV (d + 2) mX7_lineUp (77, [vr 13 0, vi l, vi set, vi (x : Int), vi (p : Int)], [], s) = EV (d + 2) mX7_lineUp (129, [vr 13 0, vi l, vi set, vi (x : Int), vi (p' : Int)], [], s') ∧ (∀ c, c ≠ 20 → s' c = s c) ∧ que ft l S (x + 1) (k + 1) (s' 20 0) := by
  intro p
  induction p with
  | zero =>
    intro s hp hy e1 e3 b1
    have hk := hq.1
    refine ⟨0, up s 20 0 0 (x : Int), ?_, fun c hc => up_c hc, ?_⟩
    · rw [qX7_lineUp_77, if_neg (by decide), qX7_lineUp_121, if_pos (show inb ((0 : Nat) : Int) 6 by decide)]
      rfl
    · exact que_ins hq hS hf hp (fun i hi => by omega) (up_hit _ _ _ _ _) (fun i h1 h2 => by rw [up_i (by omega)]; exact e3 i h1 h2) b1 (Or.inl rfl)
  | succ p ih =>
    intro s hp hy e1 e3 b1
    have hk := hq.1
    obtain ⟨c, c1, c2, c3, c4⟩ := hq.2.1 p (by omega)
    have hqp : s 20 0 p = (c : Int) := (e1 p (by omega)).trans c1
    obtain ⟨r, hr1, hr2⟩ := comesC (d := d) (c' := c) hy hx (by omega)
    rw [qX7_lineUp_77, if_pos (by omega), w32_id (x := ((p + 1 : Nat) : Int) - 1) (by omega) (by omega), show ((p + 1 : Nat) : Int) - 1 = (p : Int) by omega, if_pos (show inb (p : Int) 6 by constructor <;> omega), Int.toNat_natCast, hqp, hr1, bI_s]
    rcases hr2 with ⟨r0, hb⟩ | ⟨r1, hb⟩
    · refine ⟨p + 1, up s 20 0 (p + 1) (x : Int), ?_, fun c hc => up_c hc, ?_⟩
      · rw [if_pos r0, qX7_lineUp_121, if_pos (show inb ((p + 1 : Nat) : Int) 6 by constructor <;> omega), Int.toNat_natCast]
      · refine que_ins hq hS hf hp (fun i hi => by rw [up_i (by omega)]; exact e1 i hi) (up_hit _ _ _ _ _) (fun i h1 h2 => by rw [up_i (by omega)]; exact e3 i h1 h2) b1 (Or.inr ?_)
        rw [show p + 1 - 1 = p by omega, c1, Int.toNat_natCast]; exact hb
    · obtain ⟨p', s', a1, a2, a3⟩ := ih (up s 20 0 (p + 1) (c : Int)) (by omega) (YC_fr hy (frY_20 (fun c hc => up_c hc))) (fun i hi => by rw [up_i (by omega)]; exact e1 i (by omega))
        (fun i h1 h2 => by
          by_cases e : i = p + 1
          · rw [e, up_hit, show p + 1 - 1 = p by omega]; exact c1.symm
          · rw [up_i e]; exact e3 i (by omega) h2)
        (fun i h1 h2 => by
          by_cases e : i = p
          · rw [e, c1, Int.toNat_natCast]; exact hb
          · exact b1 i (by omega) h2)
      refine ⟨p', s', ?_, fun c hc => (a2 c hc).trans (up_c hc), a3⟩
      rw [if_neg (by omega), if_pos (show inb (p : Int) 6 by constructor <;> omega), if_pos (show inb ((p + 1 : Nat) : Int) 6 by constructor <;> omega), w32_id (by omega) (by omega), show ((p + 1 : Nat) : Int) + -1 = (p : Int) by omega, Int.toNat_natCast, hqp]
      exact a1
/-- what lining up may change -/
def frQ (s s' : Sg) : Prop := (∀ c, c ≠ 13 → c ≠ 15 → c ≠ 17 → c ≠ 18 → c ≠ 20 → s' c = s c) ∧ (∀ i, i ≠ 9 → i ≠ 10 → s' 13 0 i = s 13 0 i)
theorem frY_Q {s s' : Sg} (h : frQ s s') : frY s s' := ⟨fun c hc => h.1 c (by omega) (by omega) (by omega) (by omega) (by omega), h.2 14 (by decide) (by decide)⟩
theorem lineC {set : Nat} (hset : set < 64) (hl : 0 ≤ l ∧ l < 4) : ∀ (j x k : Nat) (z : PV) (s0 s : Sg), x + j = n → YC ft n v eg s → que ft l (fun c => set.testBit c) x k (s 20 0) → s 13 0 9 = (k : Int) → s 13 0 10 = 0 → frQ s0 s → (∀ c, c < x → set.testBit c = true → s 15 0 c = -1 ∧ s 17 0 c = -1 ∧ s 18 0 c = -1) → (∀ c, ¬ (c < x ∧ set.testBit c = true) → s 15 0 c = s0 15 0 c ∧ s 17 0 c = s0 17 0 c ∧ s 18 0 c = s0 18 0 c) → ∃ k' s', EV (d + 2) mX7_lineUp (12, [vr 13 0, vi l, vi (set : Int), vi (x : Int), z], [], s) = some (none, s') ∧ que ft l (fun c => set.testBit c) n k' (s' 20 0) ∧ s' 13 0 9 = (k' : Int) ∧ s' 13 0 10 = 0 ∧ frQ s0 s' ∧ (∀ c, c < n → set.testBit c = true → s' 15 0 c = -1 ∧ s' 17 0 c = -1 ∧ s' 18 0 c = -1) ∧ (∀ c, ¬ (c < n ∧ set.testBit c = true) → s' 15 0 c = s0 15 0 c ∧ s' 17 0 c = s0 17 0 c ∧ s' 18 0 c = s0 18 0 c) := by
  intro j
  induction j with
  | zero =>
    intro x k z s0 s hx hy hq h9 h10 hf hw ho
    have hx : x = n := by omega
    subst hx
    rw [qX7_lineUp_12, YC_size hy, bI_s, if_neg (by omega)]
    exact ⟨k, s, rfl, hq, h9, h10, hf, hw, ho⟩
  | succ j ih =>
    intro x k z s0 s hx hy hq h9 h10 hf hw ho
    have h6 := hy.2.1.1
    have hk := hq.1
    rw [qX7_lineUp_12, YC_size hy, bI_s, if_pos (by omega), wbit set hset x (by omega), b01]
    by_cases hb : set.testBit x = true
    · rw [if_pos hb, if_pos (show inb (x : Int) 6 by constructor <;> omega), Int.toNat_natCast]
      obtain ⟨s1, hs1, g15, g17, g18, gf⟩ : ∃ s1, up (up (up s 15 0 x (-1)) 17 0 x (-1)) 18 0 x (-1) = s1 ∧ (∀ c, s1 15 0 c = if c = x then -1 else s 15 0 c) ∧ (∀ c, s1 17 0 c = if c = x then -1 else s 17 0 c) ∧ (∀ c, s1 18 0 c = if c = x then -1 else s 18 0 c) ∧ (∀ c, c ≠ 15 → c ≠ 17 → c ≠ 18 → s1 c = s c) := by
        refine ⟨_, rfl, fun c => ?_, fun c => ?_, fun c => ?_, fun c h1 h2 h3 => ?_⟩
        · rw [up_c (by decide), up_c (by decide), up_ap]
          by_cases e : c = x
          · rw [if_pos e, if_pos ⟨rfl, rfl, e⟩]
          · rw [if_neg e, if_neg (fun q => e q.2.2)]
        · rw [up_c (by decide), up_ap, up_c (by decide)]
          by_cases e : c = x
          · rw [if_pos e, if_pos ⟨rfl, rfl, e⟩]
          · rw [if_neg e, if_neg (fun q => e q.2.2)]
        · rw [up_ap, up_c (by decide), up_c (by decide)]
          by_cases e : c = x
          · rw [if_pos e, if_pos ⟨rfl, rfl, e⟩]
          · rw [if_neg e, if_neg (fun q => e q.2.2)]
        · rw [up_c h3, up_c h2, up_c h1]
      have f13 : s1 13 = s 13 := gf 13 (by decide) (by decide) (by decide)
      have f20 : s1 20 = s 20 := gf 20 (by decide) (by decide) (by decide)
      have hy1 : YC ft n v eg s1 := YC_fr hy ⟨fun c hc => gf c (by omega) (by omega) (by omega), by rw [f13]⟩
      have hf1 : frQ s0 s1 := ⟨fun c a1 a2 a3 a4 a5 => (gf c a2 a3 a4).trans (hf.1 c a1 a2 a3 a4 a5), fun i a1 a2 => by rw [f13]; exact hf.2 i a1 a2⟩
      have hw1 : ∀ s2 : Sg, s2 15 = s1 15 → s2 17 = s1 17 → s2 18 = s1 18 → ∀ c, c < x + 1 → set.testBit c = true → s2 15 0 c = -1 ∧ s2 17 0 c = -1 ∧ s2 18 0 c = -1 := by
        intro s2 e1 e2 e3 c h1 h2
        rw [e1, e2, e3, g15, g17, g18]
        by_cases e : c = x
        · rw [if_pos e, if_pos e, if_pos e]; exact ⟨rfl, rfl, rfl⟩
        · rw [if_neg e, if_neg e, if_neg e]; exact hw c (by omega) h2
      have ho1 : ∀ s2 : Sg, s2 15 = s1 15 → s2 17 = s1 17 → s2 18 = s1 18 → ∀ c, ¬ (c < x + 1 ∧ set.testBit c = true) → s2 15 0 c = s0 15 0 c ∧ s2 17 0 c = s0 17 0 c ∧ s2 18 0 c = s0 18 0 c := by
        intro s2 e1 e2 e3 c h1
        have e : c ≠ x := fun e => h1 ⟨by omega, by rw [e]; exact hb⟩
        rw [e1, e2, e3, g15, g17, g18, if_neg e, if_neg e, if_neg e]
        exact ho c (fun q => h1 ⟨by omega, q.2⟩)
      rw [if_pos (show inb (x : Int) 6 by constructor <;> omega), if_pos (show inb (x : Int) 6 by constructor <;> omega), hs1, fitsC hy1 (by omega) hl, bI_s, b01]
      by_cases hfit : fitB (ft 5 x) (ft 1 x) l = true
      · rw [if_pos hfit, f13, h9, w32_id (by omega) (by omega)]
        have hy2 : YC ft n v eg (up s1 13 0 9 ((k : Int) + 1)) := YC_fr hy1 ⟨fun c hc => up_c (by omega), up_i (by decide)⟩
        obtain ⟨p', s', a1, a2, a3⟩ := insC (d := d) (n := n) (x := x) (set := (set : Int)) (S := fun c => set.testBit c) (by omega) h6 hq hb hfit k (up s1 13 0 9 ((k : Int) + 1)) (Nat.le_refl _) hy2 (fun i hi => by rw [up_c (by decide), f20]) (fun i h1 h2 => by omega) (fun i h1 h2 => by omega)
        rw [a1, qX7_lineUp_129, w32_id (by omega) (by omega), show (x : Int) + 1 = ((x + 1 : Nat) : Int) by omega]
        have b13 : s' 13 = up s1 13 0 9 ((k : Int) + 1) 13 := a2 13 (by decide)
        refine ih (x + 1) (k + 1) _ s0 s' (by omega) (YC_fr hy2 (frY_20 a2)) a3 ?_ ?_ ?_ ?_ ?_
        · rw [b13, up_hit]; omega
        · rw [b13, up_i (by decide), f13]; exact h10
        · exact ⟨fun c q1 q2 q3 q4 q5 => (a2 c q5).trans ((up_c q1).trans (hf1.1 c q1 q2 q3 q4 q5)), fun i q1 q2 => by rw [b13, up_i q1]; exact hf1.2 i q1 q2⟩
        · exact hw1 s' ((a2 15 (by decide)).trans (up_c (by decide))) ((a2 17 (by decide)).trans (up_c (by decide))) ((a2 18 (by decide)).trans (up_c (by decide)))
        · exact ho1 s' ((a2 15 (by decide)).trans (up_c (by decide))) ((a2 17 (by decide)).trans (up_c (by decide))) ((a2 18 (by decide)).trans (up_c (by decide)))
      · rw [if_neg hfit, qX7_lineUp_129, w32_id (by omega) (by omega), show (x : Int) + 1 = ((x + 1 : Nat) : Int) by omega]
        refine ih (x + 1) k _ s0 s1 (by omega) hy1 ?_ (by rw [f13]; exact h9) (by rw [f13]; exact h10) hf1 (hw1 s1 rfl rfl rfl) (ho1 s1 rfl rfl rfl)
        rw [f20]
        exact que_skip hq (fun q => hfit q.2)
    · rw [if_neg hb, qX7_lineUp_129, w32_id (by omega) (by omega), show (x : Int) + 1 = ((x + 1 : Nat) : Int) by omega]
      refine ih (x + 1) k _ s0 s (by omega) hy (que_skip hq (fun q => hb q.1)) h9 h10 hf (fun c h1 h2 => ?_) (fun c h1 => ?_)
      · have e : c ≠ x := fun e => hb (by rw [← e]; exact h2)
        exact hw c (by omega) h2
      · by_cases e : c = x
        · exact ho c (fun q => by omega)
        · exact ho c (fun q => h1 ⟨by omega, q.2⟩)
end YQ
