/-! YARD 3: leaving, driving up -/
def laS (s : Sg) : LaS := (s 15 0, s 17 0, s 18 0, s 16 0, s 13 0 11, s 13 0 12)
theorem up_f (s : Sg) (c j x : Nat) (v : Int) : up s c j x v c j = fup (s c j) x v := by
  funext i
  unfold fup
  rw [up_ap]
  by_cases e : i = x
  · rw [if_pos e, if_pos ⟨rfl, rfl, e⟩]
  · rw [if_neg e, if_neg (fun q => e q.2.2)]
section YD
variable {ft : Ft} {n : Nat} {v : Sem × Sem × Sem} {eg : Bool} {d k g : Nat} {l m : Int} {S : Nat → Bool} {s : Sg}
/-- what the minutes may change -/
def frM (s s' : Sg) : Prop := (∀ c, c ≠ 9 → c ≠ 10 → c ≠ 13 → c ≠ 15 → c ≠ 16 → c ≠ 17 → c ≠ 18 → s' c = s c) ∧ (∀ i, i ≠ 10 → i ≠ 11 → i ≠ 12 → s' 13 0 i = s 13 0 i)
theorem frM_refl (s : Sg) : frM s s := ⟨fun _ _ _ _ _ _ _ _ => rfl, fun _ _ _ _ => rfl⟩
theorem frM_tr {s1 s2 s3 : Sg} (h1 : frM s1 s2) (h2 : frM s2 s3) : frM s1 s3 := ⟨fun c a1 a2 a3 a4 a5 a6 a7 => (h2.1 c a1 a2 a3 a4 a5 a6 a7).trans (h1.1 c a1 a2 a3 a4 a5 a6 a7), fun i a1 a2 a3 => (h2.2 i a1 a2 a3).trans (h1.2 i a1 a2 a3)⟩
theorem frM_A {s s' : Sg} (h : frA s s') : frM s s' := ⟨fun c a1 a2 _ _ _ _ _ => h c a1 a2, fun i _ _ _ => by rw [h 13 (by decide) (by decide)]⟩
theorem frM_up {s s' : Sg} {c i : Nat} {x : Int} (h : frM s s') (hc : (c = 13 ∧ (i = 10 ∨ i = 11 ∨ i = 12)) ∨ c = 15 ∨ c = 16 ∨ c = 17 ∨ c = 18) : frM s (up s' c 0 i x) := by
  refine ⟨fun q a1 a2 a3 a4 a5 a6 a7 => ?_, fun q a1 a2 a3 => ?_⟩
  · rw [up_c (by omega)]; exact h.1 q a1 a2 a3 a4 a5 a6 a7
  · rw [up_ap, if_neg (by omega)]; exact h.2 q a1 a2 a3
theorem frY_M {s s' : Sg} (h : frM s s') : frY s s' := ⟨fun c hc => h.1 c (by omega) (by omega) (by omega) (by omega) (by omega) (by omega) (by omega), h.2 14 (by decide) (by decide) (by decide)⟩
theorem leaveC (h6 : n ≤ 6) (hf : inP n S (s 13 0 11)) (hb : inP n S (s 13 0 12)) : ∃ s', RUN d mX7_leave [vr 13 0, vi m] s = some (none, s') ∧ laS s' = lvB m (lvF m (laS s)) ∧ frM s s' ∧ s' 13 0 10 = s 13 0 10 ∧ s' 15 = s 15 := by
  have step2 : ∀ s1 : Sg, inP n S (s1 13 0 12) → ∃ s', EV d mX7_leave (59, [vr 13 0, vi m], [], s1) = some (none, s') ∧ laS s' = lvB m (laS s1) ∧ frM s1 s' ∧ s' 13 0 10 = s1 13 0 10 ∧ s' 15 = s1 15 := by
    intro s1 hb
    rw [qX7_leave_59]
    unfold lvB laS
    dsimp only
    by_cases h1 : s1 13 0 12 = -1
    · rw [if_pos h1, if_neg (fun q => q.1 h1)]
      exact ⟨s1, rfl, rfl, frM_refl s1, rfl, rfl⟩
    · obtain ⟨c, hc1, hc2, hc3⟩ := hb.resolve_left h1
      rw [if_neg h1, hc3, Int.toNat_natCast]
      by_cases h2 : s1 13 0 11 = -1
      · rw [if_pos h2, if_pos (show inb (c : Int) 6 by constructor <;> omega)]
        by_cases h3 : m < s1 16 0 c
        · rw [if_pos h3, if_neg (fun q => by have := q.2.2; omega)]
          exact ⟨s1, rfl, by rw [hc3], frM_refl s1, rfl, rfl⟩
        · rw [if_neg h3, if_pos (show inb (c : Int) 6 by constructor <;> omega), if_pos (show (c : Int) ≠ -1 ∧ s1 13 0 11 = -1 ∧ s1 16 0 c ≤ m from ⟨by omega, h2, by omega⟩)]
          refine ⟨_, rfl, ?_, frM_up (frM_up (frM_refl s1) (by omega)) (by omega), ?_, ?_⟩
          · rw [up_c (by decide), up_c (by decide), up_c (c' := 17) (by decide), up_f, up_c (by decide), up_c (by decide), up_c (by decide), up_c (by decide), up_i (by decide), up_c (by decide), up_hit]
          · rw [up_i (by decide), up_c (by decide)]
          · rw [up_c (by decide), up_c (by decide)]
      · rw [if_neg h2, if_neg (fun q => h2 q.2.1)]
        exact ⟨s1, rfl, by rw [hc3], frM_refl s1, rfl, rfl⟩
  rw [qX7_leave]
  unfold lvF
  have e1 : (laS s).2.2.2.2.1 = s 13 0 11 := rfl
  have e2 : (laS s).2.2.2.1 = s 16 0 := rfl
  have e3 : (laS s).2.2.2.2.2 = s 13 0 12 := rfl
  rw [e1, e2, e3]
  by_cases h1 : s 13 0 11 = -1
  · rw [if_pos h1, if_neg (fun q => q.1 h1)]
    exact step2 s hb
  · obtain ⟨c, hc1, hc2, hc3⟩ := hf.resolve_left h1
    rw [if_neg h1, hc3, Int.toNat_natCast, if_pos (show inb (c : Int) 6 by constructor <;> omega)]
    by_cases h3 : m < s 16 0 c
    · rw [if_pos h3, if_neg (fun q => by have := q.2; omega)]
      exact step2 s hb
    · rw [if_neg h3, if_pos (show inb (c : Int) 6 by constructor <;> omega), if_pos (show (c : Int) ≠ -1 ∧ s 16 0 c ≤ m from ⟨by omega, by omega⟩)]
      have fin : ∀ y : Int, inP n S y → ∃ s', EV d mX7_leave (51, [vr 13 0, vi m], [vi y, vr 13 0], up s 17 0 c m) = some (none, s') ∧ laS s' = lvB m ((laS s).1, fup (laS s).2.1 c m, (laS s).2.2.1, s 16 0, -1, y) ∧ frM s s' ∧ s' 13 0 10 = s 13 0 10 ∧ s' 15 = s 15 := by
        intro y hy
        obtain ⟨s', a1, a2, a3, a4, a5⟩ := step2 (up (up (up s 17 0 c m) 13 0 12 y) 13 0 11 (-1)) (by rw [up_i (by decide), up_hit]; exact hy)
        refine ⟨s', ?_, ?_, frM_tr (frM_up (frM_up (frM_up (frM_refl s) (by omega)) (by omega)) (by omega)) a3, ?_, ?_⟩
        · rw [qX7_leave_51]; exact a1
        · rw [a2]
          unfold laS
          dsimp only
          rw [up_c (by decide), up_c (by decide), up_c (by decide), up_c (c' := 17) (by decide), up_c (c' := 17) (by decide), up_f, up_c (by decide), up_c (by decide), up_c (by decide), up_c (by decide), up_c (by decide), up_c (by decide), up_hit, up_i (by decide), up_hit]
        · rw [a4, up_i (by decide), up_i (by decide), up_c (by decide)]
        · rw [a5, up_c (by decide), up_c (by decide), up_c (by decide)]
      by_cases h4 : s 13 0 12 = (c : Int)
      · rw [if_pos h4, if_pos h4]
        exact fin (-1) (Or.inl rfl)
      · rw [if_neg h4, if_neg h4]
        exact fin _ hb
/-- who has driven up: the first g of the queue -/
def gon (k g : Nat) (q : Nat → Int) (st : Nat → Int) : Prop := g ≤ k ∧ ∀ i, i < k → (st (q i).toNat = -1 ↔ g ≤ i)
theorem nxt_q {q st : Nat → Int} (hq : que ft l S n k q) (hg : gon k g q st) : nxtI ft l S m st n = if g < k ∧ ft 3 (q g).toNat ≤ m then q g else -1 := by
  obtain ⟨q1, q2, q3, q4⟩ := hq
  by_cases h : g < k ∧ ft 3 (q g).toNat ≤ m
  · rw [if_pos h]
    obtain ⟨x, x1, x2, x3, x4⟩ := q2 g h.1
    have hst : st x = -1 := by
      have := (hg.2 g h.1).mpr (Nat.le_refl _)
      rw [x1, Int.toNat_natCast] at this
      exact this
    have hm := h.2
    rw [x1, Int.toNat_natCast] at hm
    have hcand : candB ft l S m st x = true := by
      unfold candB
      simp [x3, hst, hm, x4]
    rcases nxt_lt (ft := ft) (l := l) (S := S) (m := m) (st := st) n with h1 | ⟨c, h1, h2, h3⟩
    · have := nxt_none n h1 x x2
      rw [hcand] at this
      cases this
    · rw [h2, x1]
      have hs := cand_S h3
      obtain ⟨j, j1, j2⟩ := q4 c h1 hs.1 hs.2.2.2
      have hj := hg.2 j j1
      rw [j2, Int.toNat_natCast] at hj
      have hj' := hj.mp hs.2.1
      by_cases e : j = g
      · subst e; rw [← j2, x1]
      · have hb := q3 g j (by omega) j1
        rw [x1, j2, Int.toNat_natCast, Int.toNat_natCast] at hb
        have hmin := nxt_min n c h2 x x2 hcand
        unfold bef at hb
        omega
  · rw [if_neg h]
    rcases nxt_lt (ft := ft) (l := l) (S := S) (m := m) (st := st) n with h1 | ⟨c, h1, h2, h3⟩
    · exact h1
    · exfalso
      have hs := cand_S h3
      obtain ⟨j, j1, j2⟩ := q4 c h1 hs.1 hs.2.2.2
      have hj := hg.2 j j1
      rw [j2, Int.toNat_natCast] at hj
      have hj' := hj.mp hs.2.1
      apply h
      refine ⟨by omega, ?_⟩
      by_cases e : j = g
      · rw [← e, j2, Int.toNat_natCast]; exact hs.2.2.1
      · have hb := q3 g j (by omega) j1
        rw [j2, Int.toNat_natCast] at hb
        unfold bef at hb
        have := hs.2.2.1
        omega
theorem gon_up {q st : Nat → Int} {x : Nat} (hq : que ft l S n k q) (hg : gon k g q st) (hk : g < k) (hx : q g = (x : Int)) (hm : m ≠ -1) : gon k (g + 1) q (fup st x m) := by
  refine ⟨hk, fun i hi => ?_⟩
  by_cases e : i = g
  · subst e
    rw [hx, Int.toNat_natCast, fup_same]
    constructor <;> intro h <;> omega
  · have hne : (q i).toNat ≠ x := by
      intro h
      rcases Nat.lt_or_gt_of_ne e with h1 | h1
      · have := hq.2.2.1 i g h1 hk
        rw [hx, h, Int.toNat_natCast] at this
        unfold bef at this
        omega
      · have := hq.2.2.1 g i h1 hi
        rw [hx, h, Int.toNat_natCast] at this
        unfold bef at this
        omega
    rw [fup_ne hne, hg.2 i hi]
    constructor <;> intro h <;> omega
theorem take_rg {ak : Ak} {c : Nat} {a : Int} (hf : ftOk ft n) (hc : c < n) : 1 ≤ takeI ft ak c l m a ∧ takeI ft ak c l m a ≤ 120 := by
  have h := hf.2 c hc
  have hr := clampI_rg (hi := 40) (x := ak 0 c l m a) (by decide)
  have h1 := minT_rg (kd := ft 5 c) (pl := clampI 40 (ak 0 c l m a) + ft 4 c) (nb := ft 0 c) (by omega) (by omega)
  unfold takeI
  dsimp only
  split <;> omega
/-- the start of one that drives up: who begins, when it ends -/
theorem beginC {x : Nat} {a : Int} {z5 : Int} (hy : YC ft n v eg s) (hx : x < n) (hm : 0 ≤ m ∧ m < 200) (hg : s 13 0 10 = (g : Int)) (hg6 : g < 6) : ∃ s1, RUN (d + 2) mX7_takes [vr 13 0, vi (x : Int), vi l, vi m, vi a] (up (up s 13 0 10 (w32 ((s 13 0 10) + 1))) 15 0 (Int.toNat (x : Int)) m) = some (some (vi (takeI ft (akS v ft) x l m a)), s1) ∧ YC ft n v eg s1 ∧ w32 (m + takeI ft (akS v ft) x l m a) = m + takeI ft (akS v ft) x l m a ∧ frM s s1 ∧ s1 13 0 10 = ((g + 1 : Nat) : Int) ∧ s1 13 0 11 = s 13 0 11 ∧ s1 13 0 12 = s 13 0 12 ∧ s1 15 0 = fup (s 15 0) x m ∧ s1 16 = s 16 ∧ s1 17 = s 17 ∧ s1 18 = s 18 := by
  rw [hg, w32_id (by omega) (by omega), Int.toNat_natCast]
  have f0 : frM s (up (up s 13 0 10 ((g : Int) + 1)) 15 0 x m) := frM_up (frM_up (frM_refl s) (by omega)) (by omega)
  obtain ⟨s1, a1, a2⟩ := takesC (d := d) (c := x) (l := l) (m := m) (a := a) (YC_fr hy (frY_M f0)) hx
  have ht := take_rg (ft := ft) (n := n) (l := l) (m := m) (a := a) (ak := akS v ft) hy.2.1 hx
  have e13 : s1 13 = up (up s 13 0 10 ((g : Int) + 1)) 15 0 x m 13 := a2 13 (by decide) (by decide)
  refine ⟨s1, a1, YC_fr (YC_fr hy (frY_M f0)) (frY_A a2), w32_id (by omega) (by omega), frM_tr f0 (frM_A a2), ?_, ?_, ?_, ?_, ?_, ?_, ?_⟩
  · rw [e13, up_c (by decide), up_hit]; omega
  · rw [e13, up_c (by decide), up_i (by decide)]
  · rw [e13, up_c (by decide), up_i (by decide)]
  · rw [a2 15 (by decide) (by decide), up_f, up_c (by decide)]
  · rw [a2 16 (by decide) (by decide), up_c (by decide), up_c (by decide)]
  · rw [a2 17 (by decide) (by decide), up_c (by decide), up_c (by decide)]
  · rw [a2 18 (by decide) (by decide), up_c (by decide), up_c (by decide)]
/-- with one at the back nobody drives up -/
theorem drvB {z3 z4 z5 : PV} (hb : s 13 0 12 ≠ -1) : EV (d + 1) mX7_driveUp (0, [vr 13 0, vi l, vi m, z3, z4, z5], [], s) = some (none, s) := by
  rw [qX7_driveUp_0]
  by_cases h : s 13 0 10 < s 13 0 9
  · rw [if_pos h, if_neg hb]
  · rw [if_neg h]
def drvEnd (ft : Ft) (n : Nat) (v : Sem × Sem × Sem) (eg : Bool) (k g' : Nat) (L : LaS) (r : Rs) (s : Sg) : Prop := ∃ s', r = some (none, s') ∧ laS s' = L ∧ frM s s' ∧ s' 13 0 10 = (g' : Int)
/-- one goes to the back pump -/
theorem toBack {x : Nat} {a : Int} {z5 : Int} (hy : YC ft n v eg s) (hx : x < n) (hm : 0 ≤ m ∧ m < 200) (hg : s 13 0 10 = (g : Int)) (hg6 : g < 6) (h : (a = 1) ∨ (a = 0 ∧ drawB ft (akS v ft) eg x l m = false)) : drvEnd ft n v eg k (g + 1) (atB ft (akS v ft) l m a x (laS s)) (EV (d + 4) mX7_driveUp (90, [vr 13 0, vi l, vi m, vi (x : Int), vi a, vi 0], [], s)) s := by
  have h6 := hy.2.1.1
  obtain ⟨s1, a1, hy1, aw, af, a10, a11, a12, a15, a16, a17, a18⟩ := beginC (d := d + 1) (l := l) (a := a) (z5 := 0) hy hx hm hg hg6
  rw [qX7_driveUp_90, if_pos (show inb (x : Int) 6 by constructor <;> omega), a1, bI_s, if_pos (show inb (x : Int) 6 by constructor <;> omega), if_pos i00, Int.toNat_natCast, aw]
  have fin : ∀ s2 : Sg, (∀ c, c ≠ 9 → c ≠ 10 → s2 c = up s1 16 0 x (m + takeI ft (akS v ft) x l m a) c) → drvEnd ft n v eg k (g + 1) (atB ft (akS v ft) l m a x (laS s)) (EV (d + 4) mX7_driveUp (179, [vr 13 0, vi l, vi m, vi (x : Int), vi a, vi 0], [], s2)) s := by
    intro s2 h2
    have e13 : s2 13 = s1 13 := (h2 13 (by decide) (by decide)).trans (up_c (by decide))
    have f2 : frM s s2 := frM_tr (frM_up af (by omega)) ⟨fun c q1 q2 _ _ _ _ _ => h2 c q1 q2, fun i _ _ _ => by rw [h2 13 (by decide) (by decide)]⟩
    rw [qX7_driveUp_179, if_pos (show inb (x : Int) 6 by constructor <;> omega), qX7_driveUp_191, drvB (by rw [up_hit]; omega), Int.toNat_natCast]
    refine ⟨_, rfl, ?_, frM_up (frM_up f2 (by omega)) (by omega), ?_⟩
    · unfold laS atB begI
      dsimp only
      rw [up_c (by decide), up_c (by decide), h2 15 (by decide) (by decide), up_c (by decide), a15, up_c (by decide), up_c (by decide), h2 17 (by decide) (by decide), up_c (by decide), a17, up_c (c' := 18) (by decide), up_f, h2 18 (by decide) (by decide), up_c (by decide), a18, up_c (by decide), up_c (by decide), h2 16 (by decide) (by decide), up_f, a16, up_i (by decide), up_c (by decide), e13, a11, up_hit]
    · rw [up_i (by decide), up_c (by decide), e13]; exact a10
  rcases h with h | ⟨h, hd⟩
  · rw [if_neg (by omega)]
    exact fin _ (fun c _ _ => rfl)
  · obtain ⟨s2, b1, b2⟩ := drawsC (d := d + 1) (c := x) (l := l) (m := m) (YC_fr hy1 (frY_M (frM_up (c := 16) (i := x) (x := m + takeI ft (akS v ft) x l m a) (frM_refl s1) (by omega)))) hx
    rw [if_pos h, b1, bI_s, b01, hd, if_neg (by decide)]
    exact fin s2 b2
end YD
