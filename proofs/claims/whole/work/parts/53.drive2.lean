/-! YARD 4: a minute's driving up, whole -/
section YD
variable {ft : Ft} {n : Nat} {v : Sem × Sem × Sem} {eg : Bool} {d k g : Nat} {l m : Int} {S : Nat → Bool} {s : Sg}
/-- the yard within a lane's minutes -/
def LI (ft : Ft) (n : Nat) (v : Sem × Sem × Sem) (eg : Bool) (l : Int) (S : Nat → Bool) (k g : Nat) (s : Sg) : Prop := YC ft n v eg s ∧ que ft l S n k (s 20 0) ∧ s 13 0 9 = (k : Int) ∧ s 13 0 10 = (g : Int) ∧ gon k g (s 20 0) (s 15 0)
/-- the end of driving up: the lane is as L, the first g' are gone -/
def DE (ft : Ft) (n : Nat) (v : Sem × Sem × Sem) (eg : Bool) (l : Int) (S : Nat → Bool) (k : Nat) (L : LaS) (r : Rs) (s : Sg) : Prop := ∃ s' g', r = some (none, s') ∧ laS s' = L ∧ frM s s' ∧ LI ft n v eg l S k g' s'
theorem LI_of {s s' : Sg} {x : Nat} (h : LI ft n v eg l S k g s) (hf : frM s s') (hg : g < k) (hx : s 20 0 g = (x : Int)) (hm : m ≠ -1) (h15 : s' 15 0 = fup (s 15 0) x m) (h10 : s' 13 0 10 = ((g + 1 : Nat) : Int)) : LI ft n v eg l S k (g + 1) s' := by
  obtain ⟨h1, h2, h3, h4, h5⟩ := h
  have e20 : s' 20 = s 20 := hf.1 20 (by decide) (by decide) (by decide) (by decide) (by decide) (by decide) (by decide)
  refine ⟨YC_fr h1 (frY_M hf), by rw [e20]; exact h2, (hf.2 9 (by decide) (by decide) (by decide)).trans h3, h10, ?_⟩
  rw [e20, h15]
  exact gon_up h2 h5 hg hx hm
/-- the head of the queue -/
theorem LI_hd (h : LI ft n v eg l S k g s) (hg : g < k) : ∃ x : Nat, s 20 0 g = (x : Int) ∧ x < n ∧ S x = true := by
  obtain ⟨x, x1, x2, x3, x4⟩ := h.2.1.2.1 g hg
  exact ⟨x, x1, x2, x3⟩
theorem long_iff (x : Int) : longB x = true ↔ (x = 3 ∨ x = 5) := by
  unfold longB
  simp
/-- behind one at the front -/
theorem drv2 {z3 z4 z5 : PV} (h : LI ft n v eg l S k g s) (hm : 0 ≤ m ∧ m < 200) (hf : s 13 0 11 ≠ -1) (hb : s 13 0 12 = -1) : DE ft n v eg l S k (dr2 ft (akS v ft) n l S m (laS s)) (EV (d + 4) mX7_driveUp (0, [vr 13 0, vi l, vi m, z3, z4, z5], [], s)) s := by
  have h6 := h.1.2.1.1
  have hk6 := h.2.1.1
  have hn := nxt_q (m := m) h.2.1 h.2.2.2.2
  rw [qX7_driveUp_0, h.2.2.1, h.2.2.2.1]
  unfold dr2
  have eL : (laS s).1 = s 15 0 := rfl
  rw [eL, hn]
  by_cases hg : g < k
  · obtain ⟨x, x1, x2, x3⟩ := LI_hd h hg
    have hft := h.1.2.1.2 x x2
    rw [if_pos (show (g : Int) < (k : Int) by omega), if_pos hb, if_pos (show inb (g : Int) 6 by constructor <;> omega), Int.toNat_natCast, x1, show RUN (d + 3) mX1_tell [vr 1 0, vi 3, vi (x : Int)] s = _ from YC_tell (f := 3) h.1 x2 (by omega), bI_s, Int.toNat_natCast]
    by_cases hc : ft 3 x ≤ m
    · rw [if_neg (show ¬ m < ft 3 x by omega), if_pos (show g < k ∧ ft 3 x ≤ m from ⟨hg, hc⟩), if_neg (show ¬ (x : Int) = -1 by omega), Int.toNat_natCast, h.2.2.2.1, if_pos (show inb (g : Int) 6 by constructor <;> omega), Int.toNat_natCast, x1, if_neg hf, qX7_driveUp_63, show RUN (d + 3) mX1_tell [vr 1 0, vi 5, vi (x : Int)] s = _ from YC_tell (f := 5) h.1 x2 (by omega), bI_s, isLong_ok, bI_s, b01]
      by_cases hl : ft 5 x = 3 ∨ ft 5 x = 5
      · rw [if_pos hl, if_pos (show (0 : Int) < 1 by decide), if_pos ((long_iff _).mpr hl)]
        exact ⟨s, g, rfl, rfl, frM_refl s, h⟩
      · rw [if_neg hl, if_neg hl, if_neg (show ¬ longB (ft 5 x) = true from fun q => hl ((long_iff _).mp q))]
        obtain ⟨s', a1, a2, a3, a4⟩ := toBack (d := d) (k := k) (l := l) (a := 1) (z5 := 0) h.1 x2 hm h.2.2.2.1 (by omega) (Or.inl rfl)
        refine ⟨s', g + 1, a1, a2, a3, LI_of (m := m) h a3 hg x1 (by omega) ?_ a4⟩
        have := congrArg (fun L : LaS => L.1) a2
        exact this
    · rw [if_pos (show m < ft 3 x by omega), if_neg (show ¬ (g < k ∧ ft 3 x ≤ m) from fun q => hc q.2), if_pos (show (-1 : Int) = -1 from rfl)]
      exact ⟨s, g, rfl, rfl, frM_refl s, h⟩
  · rw [if_neg (show ¬ (g : Int) < (k : Int) by omega), if_neg (show ¬ (g < k ∧ ft 3 (s 20 0 g).toNat ≤ m) from fun q => hg q.1), if_pos (show (-1 : Int) = -1 from rfl)]
    exact ⟨s, g, rfl, rfl, frM_refl s, h⟩
theorem driveC (h : LI ft n v eg l S k g s) (hm : 0 ≤ m ∧ m < 200) : DE ft n v eg l S k (dr1 ft (akS v ft) eg n l S m (laS s)) (RUN (d + 4) mX7_driveUp [vr 13 0, vi l, vi m] s) s := by
  have h6 := h.1.2.1.1
  have hk6 := h.2.1.1
  rw [qX7_driveUp]
  by_cases hb : s 13 0 12 = -1
  · by_cases hf : s 13 0 11 = -1
    · have hn := nxt_q (m := m) h.2.1 h.2.2.2.2
      rw [qX7_driveUp_0, h.2.2.1, h.2.2.2.1]
      unfold dr1
      have eL : (laS s).1 = s 15 0 := rfl
      have eF : (laS s).2.2.2.2.1 = s 13 0 11 := rfl
      have eB : (laS s).2.2.2.2.2 = s 13 0 12 := rfl
      rw [eL, eF, eB, hn, if_neg (show ¬ s 13 0 12 ≠ -1 from fun q => q hb)]
      by_cases hg : g < k
      · obtain ⟨x, x1, x2, x3⟩ := LI_hd h hg
        have hft := h.1.2.1.2 x x2
        rw [if_pos (show (g : Int) < (k : Int) by omega), if_pos hb, if_pos (show inb (g : Int) 6 by constructor <;> omega), Int.toNat_natCast, x1, show RUN (d + 3) mX1_tell [vr 1 0, vi 3, vi (x : Int)] s = _ from YC_tell (f := 3) h.1 x2 (by omega), bI_s, Int.toNat_natCast]
        by_cases hc : ft 3 x ≤ m
        · rw [if_neg (show ¬ m < ft 3 x by omega), if_pos (show g < k ∧ ft 3 x ≤ m from ⟨hg, hc⟩), if_neg (show ¬ (x : Int) = -1 by omega), Int.toNat_natCast, h.2.2.2.1, if_pos (show inb (g : Int) 6 by constructor <;> omega), Int.toNat_natCast, x1, if_pos hf (α := Rs), qX7_driveUp_63, show RUN (d + 3) mX1_tell [vr 1 0, vi 5, vi (x : Int)] s = _ from YC_tell (f := 5) h.1 x2 (by omega), bI_s, isLong_ok, bI_s, b01]
          by_cases hl : ft 5 x = 3 ∨ ft 5 x = 5
          · rw [if_pos hl, if_neg (show ¬ (0 : Int) < 0 by decide), if_pos ((long_iff _).mpr hl), if_pos hf, if_pos hl]
            obtain ⟨s1, a1, hy1, aw, af, a10, a11, a12, a15, a16, a17, a18⟩ := beginC (d := d + 1) (l := l) (a := 0) (z5 := 0) h.1 x2 hm h.2.2.2.1 (by omega)
            rw [qX7_driveUp_90, if_pos (show inb (x : Int) 6 by constructor <;> omega), a1, bI_s, if_pos (show inb (x : Int) 6 by constructor <;> omega), if_neg i10, if_pos (show inb (x : Int) 6 by constructor <;> omega), Int.toNat_natCast, aw, qX7_driveUp_191, drvB (by rw [up_hit]; omega)]
            have ff : frM s (up (up (up (up s1 16 0 x (m + takeI ft (akS v ft) x l m 0)) 18 0 x 2) 13 0 11 (x : Int)) 13 0 12 (x : Int)) := frM_up (frM_up (frM_up (frM_up af (by omega)) (by omega)) (by omega)) (by omega)
            have e15 : up (up (up (up s1 16 0 x (m + takeI ft (akS v ft) x l m 0)) 18 0 x 2) 13 0 11 (x : Int)) 13 0 12 (x : Int) 15 0 = fup (s 15 0) x m := by
              rw [up_c (by decide), up_c (by decide), up_c (by decide), up_c (by decide), a15]
            refine ⟨_, g + 1, rfl, ?_, ff, LI_of (m := m) h ff hg x1 (by omega) e15 ?_⟩
            · unfold laS at2 begI
              dsimp only
              rw [e15, up_c (c' := 17) (by decide), up_c (c' := 17) (by decide), up_c (c' := 17) (by decide), up_c (c' := 17) (by decide), a17, up_c (c' := 18) (by decide), up_c (c' := 18) (by decide), up_f, up_c (c' := 18) (by decide), a18, up_c (c' := 16) (by decide), up_c (c' := 16) (by decide), up_c (c' := 16) (by decide), up_f, a16, up_i (by decide), up_hit, up_hit]
            · rw [up_i (by decide), up_i (by decide), up_c (by decide), up_c (by decide)]; exact a10
          · rw [if_neg hl, if_neg (show ¬ longB (ft 5 x) = true from fun q => hl ((long_iff _).mp q)), if_neg hl]
            by_cases hd : drawB ft (akS v ft) eg x l m = true
            · rw [if_pos (show s 13 0 11 = -1 ∧ drawB ft (akS v ft) eg x l m = true from ⟨hf, hd⟩)]
              obtain ⟨s1, a1, hy1, aw, af, a10, a11, a12, a15, a16, a17, a18⟩ := beginC (d := d + 1) (l := l) (a := 0) (z5 := 0) h.1 x2 hm h.2.2.2.1 (by omega)
              obtain ⟨s2, b1, b2⟩ := drawsC (d := d + 1) (c := x) (l := l) (m := m) (YC_fr hy1 (frY_M (frM_up (c := 16) (i := x) (x := m + takeI ft (akS v ft) x l m 0) (frM_refl s1) (by omega)))) x2
              rw [qX7_driveUp_90, if_pos (show inb (x : Int) 6 by constructor <;> omega), a1, bI_s, if_pos (show inb (x : Int) 6 by constructor <;> omega), if_pos i00, if_pos i00, Int.toNat_natCast, aw, b1, bI_s, b01, if_pos hd, if_pos (show inb (x : Int) 6 by constructor <;> omega), qX7_driveUp_191]
              have e13 : s2 13 = s1 13 := (b2 13 (by decide) (by decide)).trans (up_c (by decide))
              have ff : frM s (up (up s2 18 0 x 1) 13 0 11 (x : Int)) := frM_up (frM_up (frM_tr (frM_up af (by omega)) (frM_A b2)) (by omega)) (by omega)
              have e15 : up (up s2 18 0 x 1) 13 0 11 (x : Int) 15 0 = fup (s 15 0) x m := by
                rw [up_c (by decide), up_c (by decide), b2 15 (by decide) (by decide), up_c (by decide), a15]
              have hL := LI_of (s' := up (up s2 18 0 x 1) 13 0 11 (x : Int)) (m := m) h ff hg x1 (by omega) e15 (by rw [up_i (by decide), up_c (by decide), e13]; exact a10)
              have eL2 : laS (up (up s2 18 0 x 1) 13 0 11 (x : Int)) = atF ft (akS v ft) l m x (laS s) := by
                unfold laS atF begI
                dsimp only
                rw [e15, up_c (c' := 17) (by decide), up_c (c' := 17) (by decide), b2 17 (by decide) (by decide), up_c (c' := 17) (by decide), a17, up_c (c' := 18) (by decide), up_f, b2 18 (by decide) (by decide), up_c (c' := 18) (by decide), a18, up_c (c' := 16) (by decide), up_c (c' := 16) (by decide), b2 16 (by decide) (by decide), up_f, a16, up_hit, up_i (by decide), up_c (by decide), e13, a12]
              rw [← eL2]
              obtain ⟨s', g', c1, c2, c3, c4⟩ := drv2 (d := d) (z3 := vi (x : Int)) (z4 := vi 0) (z5 := vi 0) hL hm (by rw [up_hit]; omega) (by rw [up_i (by decide), up_c (by decide), e13, a12]; exact hb)
              exact ⟨s', g', c1, c2, frM_tr ff c3, c4⟩
            · rw [if_neg (show ¬ (s 13 0 11 = -1 ∧ drawB ft (akS v ft) eg x l m = true) from fun q => hd q.2), if_pos hf]
              obtain ⟨s', a1, a2, a3, a4⟩ := toBack (d := d) (k := k) (l := l) (a := 0) (z5 := 0) h.1 x2 hm h.2.2.2.1 (by omega) (Or.inr ⟨rfl, Bool.eq_false_iff.mpr hd⟩)
              refine ⟨s', g + 1, a1, a2, a3, LI_of (m := m) h a3 hg x1 (by omega) ?_ a4⟩
              have := congrArg (fun L : LaS => L.1) a2
              exact this
        · rw [if_pos (show m < ft 3 x by omega), if_neg (show ¬ (g < k ∧ ft 3 x ≤ m) from fun q => hc q.2), if_pos (show (-1 : Int) = -1 from rfl)]
          exact ⟨s, g, rfl, rfl, frM_refl s, h⟩
      · rw [if_neg (show ¬ (g : Int) < (k : Int) by omega), if_neg (show ¬ (g < k ∧ ft 3 (s 20 0 g).toNat ≤ m) from fun q => hg q.1), if_pos (show (-1 : Int) = -1 from rfl)]
        exact ⟨s, g, rfl, rfl, frM_refl s, h⟩
    · have e : dr1 ft (akS v ft) eg n l S m (laS s) = dr2 ft (akS v ft) n l S m (laS s) := by
        unfold dr1 dr2
        have eF : (laS s).2.2.2.2.1 = s 13 0 11 := rfl
        have eB : (laS s).2.2.2.2.2 = s 13 0 12 := rfl
        rw [eF, eB, if_neg (fun q => q hb)]
        by_cases h1 : nxtI ft l S m (laS s).1 n = -1
        · rw [if_pos h1, if_pos h1]
        · rw [if_neg h1, if_neg h1]
          by_cases h2 : longB (ft 5 (nxtI ft l S m (laS s).1 n).toNat) = true
          · rw [if_pos h2, if_pos h2, if_neg hf]
          · rw [if_neg h2, if_neg h2, if_neg (fun q => hf q.1), if_neg hf]
      rw [e]
      exact drv2 h hm hf hb
  · have e : dr1 ft (akS v ft) eg n l S m (laS s) = laS s := by
      unfold dr1
      have eB : (laS s).2.2.2.2.2 = s 13 0 12 := rfl
      rw [eB, if_pos hb]
    rw [e, drvB hb]
    exact ⟨s, g, rfl, rfl, frM_refl s, h⟩
end YD
