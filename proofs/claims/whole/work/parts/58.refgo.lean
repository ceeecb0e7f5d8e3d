/-! REF 2: the reference goes through a lane's minutes -/
def laR (s : Sg) (fr ba : Int) : LaS := (s 38 0, s 39 0, s 40 0, s 41 0, fr, ba)
section RG
variable {ft : Ft} {n : Nat} {v : Sem × Sem × Sem} {eg : Bool} {s : Sg} {d : Nat} {l m : Int} {set : Nat}
theorem nextL (hset : set < 64) (hl : 0 ≤ l ∧ l < 4) (h : YR ft n v eg s) : ∀ (j c : Nat), c + j = n → EV (d + 1) mX9_nextOf (6, [vr 32 0, vi l, vi (set : Int), vi m, vi (nxtI ft l (bitS set) m (s 38 0) c), vi (c : Int)], [], s) = some (some (vi (nxtI ft l (bitS set) m (s 38 0) n)), s) := by
  intro j
  induction j with
  | zero =>
    intro c hc
    have hc : c = n := by omega
    subst hc
    rw [qX9_nextOf_6, h.1.1, if_neg (by omega)]
  | succ j ih =>
    intro c hc
    have h6 := h.2.1.1
    have hc6 : c < 6 := by omega
    have ih' := ih (c + 1) (by omega)
    rw [show (((c + 1 : Nat)) : Int) = (c : Int) + 1 by omega] at ih'
    rw [qX9_nextOf_6, h.1.1, if_pos (by omega), wbit set hset c hc6, b11]
    rw [nxtI] at ih'
    by_cases hb : set.testBit c = true
    · rw [if_pos hb, if_pos (inbN hc6), Int.toNat_natCast]
      by_cases hst : s 38 0 c = -1
      · rw [if_pos hst, r3 hc6, if_pos (inbN (by omega)), Int.toNat_natCast, YR_row h (c := c) (by omega) (by omega)]
        by_cases hm : ft 3 c ≤ m
        · rw [if_neg (by omega), fitsR h (by omega) hl, bI_s, b01]
          by_cases hf : fitB (ft 5 c) (ft 1 c) l = true
          · have hcand : candB ft l (bitS set) m (s 38 0) c = true := by
              unfold candB bitS
              simp [hb, hst, hm, hf]
            rw [if_pos hcand] at ih'
            rw [if_pos hf]
            rcases nxt_lt (ft := ft) (l := l) (S := bitS set) (m := m) (st := s 38 0) c with h1 | ⟨x, h1, h2, h3⟩
            · rw [if_pos (Or.inl h1)] at ih'
              rw [if_pos h1, qX9_nextOf_92, qX9_nextOf_99, qX9_nextOf_101, w32_id (by omega) (by omega)]
              exact ih'
            · rw [h2, Int.toNat_natCast] at ih'
              rw [h2, if_neg (show ¬ (x : Int) = -1 by omega), if_pos (inbN (by omega)), r3 (show x < 6 by omega), if_pos (inbN (by omega)), Int.toNat_natCast, YR_row h (c := x) (by omega) (by omega), YR_row h (c := c) (by omega) (by omega)]
              by_cases hlt : ft 3 c < ft 3 x
              · rw [if_pos (Or.inr hlt)] at ih'
                rw [if_pos hlt, qX9_nextOf_92, qX9_nextOf_99, qX9_nextOf_101, w32_id (by omega) (by omega)]
                exact ih'
              · rw [if_neg (by omega)] at ih'
                rw [if_neg hlt, qX9_nextOf_99, qX9_nextOf_101, w32_id (by omega) (by omega)]
                exact ih'
          · have hcand : candB ft l (bitS set) m (s 38 0) c ≠ true := fun q => hf (cand_S q).2.2.2
            rw [if_neg hcand] at ih'
            rw [if_neg hf, qX9_nextOf_101, w32_id (by omega) (by omega)]
            exact ih'
        · have hcand : candB ft l (bitS set) m (s 38 0) c ≠ true := fun q => hm (cand_S q).2.2.1
          rw [if_neg hcand] at ih'
          rw [if_pos (by omega), qX9_nextOf_101, w32_id (by omega) (by omega)]
          exact ih'
      · have hcand : candB ft l (bitS set) m (s 38 0) c ≠ true := fun q => hst (cand_S q).2.1
        rw [if_neg hcand] at ih'
        rw [if_neg hst, qX9_nextOf_101, w32_id (by omega) (by omega)]
        exact ih'
    · have hcand : candB ft l (bitS set) m (s 38 0) c ≠ true := fun q => hb (cand_S q).1
      rw [if_neg hcand] at ih'
      rw [if_neg hb, qX9_nextOf_101, w32_id (by omega) (by omega)]
      exact ih'
theorem nextOfR (hset : set < 64) (hl : 0 ≤ l ∧ l < 4) (h : YR ft n v eg s) : RUN (d + 1) mX9_nextOf [vr 32 0, vi l, vi (set : Int), vi m] s = some (some (vi (nxtI ft l (bitS set) m (s 38 0) n)), s) := by
  rw [qX9_nextOf]
  exact nextL hset hl h n 0 (by omega)
/-- what driving up may change -/
def frU (s s' : Sg) : Prop := (∀ c, c ≠ 32 → c ≠ 38 → c ≠ 39 → c ≠ 40 → c ≠ 41 → s' c = s c) ∧ (∀ i, ¬ (10 ≤ i ∧ i ≤ 24) → s' 32 0 i = s 32 0 i)
theorem frU_refl (s : Sg) : frU s s := ⟨fun _ _ _ _ _ _ => rfl, fun _ _ => rfl⟩
theorem frU_tr {s1 s2 s3 : Sg} (h1 : frU s1 s2) (h2 : frU s2 s3) : frU s1 s3 := ⟨fun c a1 a2 a3 a4 a5 => (h2.1 c a1 a2 a3 a4 a5).trans (h1.1 c a1 a2 a3 a4 a5), fun i h => (h2.2 i h).trans (h1.2 i h)⟩
theorem frU_K {s s' : Sg} (h : frK s s') : frU s s' := ⟨fun c a1 _ _ _ _ => h.1 c a1, h.2⟩
theorem frU_up {s s' : Sg} {c i : Nat} {x : Int} (h : frU s s') (hc : c = 38 ∨ c = 39 ∨ c = 40 ∨ c = 41) : frU s (up s' c 0 i x) := ⟨fun q a1 a2 a3 a4 a5 => by rw [up_c (by omega)]; exact h.1 q a1 a2 a3 a4 a5, fun q hq => by rw [up_c (by omega)]; exact h.2 q hq⟩
theorem frZ_U {s s' : Sg} (h : frU s s') : frZ s s' := ⟨fun c hc => h.1 c (by omega) (by omega) (by omega) (by omega) (by omega), fun i hi => h.2 i (by omega)⟩
theorem beginsR {c : Nat} {a pu : Int} (h : YR ft n v eg s) (hc : c < n) (hm : 0 ≤ m ∧ m < 200) : ∃ s', RUN (d + 45) mX9_begins [vr 32 0, vi (c : Int), vi l, vi m, vi a, vi pu] s = some (none, s') ∧ frU s s' ∧ s' 38 0 = fup (s 38 0) c m ∧ s' 39 = s 39 ∧ s' 40 0 = fup (s 40 0) c pu ∧ s' 41 0 = fup (s 41 0) c (m + takeI ft (akS v ft) c l m a) := by
  have h6 := h.2.1.1
  obtain ⟨s1, a1, a2⟩ := takesR (d := d) (c := c) (l := l) (m := m) (a := a) h hc
  have ht := take_rg (ft := ft) (n := n) (l := l) (m := m) (a := a) (ak := akS v ft) h.2.1 hc
  rw [qX9_begins, a1, bI_s, if_pos (inbN (by omega)), if_pos (inbN (by omega)), if_pos (inbN (by omega)), Int.toNat_natCast, w32_id (by omega) (by omega)]
  refine ⟨_, rfl, frU_up (frU_up (frU_up (frU_K a2) (by omega)) (by omega)) (by omega), ?_, ?_, ?_, ?_⟩
  · rw [up_c (by decide), up_f, up_c (by decide), a2.1 38 (by decide)]
  · rw [up_c (by decide), up_c (by decide), up_c (by decide), a2.1 39 (by decide)]
  · rw [up_f, up_c (by decide), up_c (by decide), a2.1 40 (by decide)]
  · rw [up_c (by decide), up_c (by decide), up_f, a2.1 41 (by decide)]
theorem leaveR {fr ba : Int} {z6 z7 : PV} {S : Nat → Bool} (h6 : n ≤ 6) (hm : m < 200) (hf : inP n S fr) (hb : inP n S ba) : ∃ (s' : Sg) (fr' ba' : Int), EV d mX9_goes (54, [vr 32 0, vi l, vi (set : Int), vi ba, vi fr, vi m, z6, z7], [], s) = EV d mX9_goes (136, [vr 32 0, vi l, vi (set : Int), vi ba', vi fr', vi m, z6, z7], [], s') ∧ laR s' fr' ba' = lvB m (lvF m (laR s fr ba)) ∧ (∀ c, c ≠ 39 → s' c = s c) := by
  have step2 : ∀ (s1 : Sg) (fr ba : Int), inP n S ba → ∃ (s' : Sg) (fr' ba' : Int), EV d mX9_goes (104, [vr 32 0, vi l, vi (set : Int), vi ba, vi fr, vi m, z6, z7], [], s1) = EV d mX9_goes (136, [vr 32 0, vi l, vi (set : Int), vi ba', vi fr', vi m, z6, z7], [], s') ∧ laR s' fr' ba' = lvB m (laR s1 fr ba) ∧ (∀ c, c ≠ 39 → s' c = s1 c) := by
    intro s1 fr ba hb
    rw [qX9_goes_104]
    unfold lvB laR
    dsimp only
    by_cases h1 : ba = -1
    · rw [if_pos h1, if_neg (fun q => q.1 h1)]
      exact ⟨s1, fr, ba, rfl, rfl, fun _ _ => rfl⟩
    · obtain ⟨c, hc1, hc2, hc3⟩ := hb.resolve_left h1
      rw [if_neg h1, hc3, Int.toNat_natCast]
      by_cases h2 : fr = -1
      · rw [if_pos h2, if_pos (inbN (by omega))]
        by_cases h3 : m < s1 41 0 c
        · rw [if_pos h3, if_neg (fun q => by have := q.2.2; omega)]
          exact ⟨s1, fr, c, rfl, rfl, fun _ _ => rfl⟩
        · rw [if_neg h3, if_pos (inbN (by omega)), if_pos (show (c : Int) ≠ -1 ∧ fr = -1 ∧ s1 41 0 c ≤ m from ⟨by omega, h2, by omega⟩)]
          refine ⟨_, fr, -1, rfl, ?_, fun q hq => up_c hq⟩
          rw [up_c (by decide), up_f, up_c (by decide), up_c (by decide)]
      · rw [if_neg h2, if_neg (fun q => h2 q.2.1)]
        exact ⟨s1, fr, c, rfl, rfl, fun _ _ => rfl⟩
  rw [qX9_goes_54, if_pos hm]
  unfold lvF
  have e1 : (laR s fr ba).2.2.2.2.1 = fr := rfl
  have e2 : (laR s fr ba).2.2.2.1 = s 41 0 := rfl
  have e3 : (laR s fr ba).2.2.2.2.2 = ba := rfl
  rw [e1, e2, e3]
  by_cases h1 : fr = -1
  · rw [if_pos h1, if_neg (fun q => q.1 h1)]
    exact step2 s fr ba hb
  · obtain ⟨c, hc1, hc2, hc3⟩ := hf.resolve_left h1
    rw [if_neg h1, hc3, Int.toNat_natCast, if_pos (inbN (by omega))]
    by_cases h3 : m < s 41 0 c
    · rw [if_pos h3, if_neg (fun q => by have := q.2; omega)]
      exact step2 s c ba hb
    · rw [if_neg h3, if_pos (inbN (by omega)), if_pos (show (c : Int) ≠ -1 ∧ s 41 0 c ≤ m from ⟨by omega, by omega⟩)]
      have fin : ∀ y : Int, inP n S y → ∃ (s' : Sg) (fr' ba' : Int), EV d mX9_goes (100, [vr 32 0, vi l, vi (set : Int), vi ba, vi (c : Int), vi m, z6, z7], [vi y], up s 39 0 c m) = EV d mX9_goes (136, [vr 32 0, vi l, vi (set : Int), vi ba', vi fr', vi m, z6, z7], [], s') ∧ laR s' fr' ba' = lvB m (s 38 0, fup (s 39 0) c m, s 40 0, s 41 0, -1, y) ∧ (∀ c, c ≠ 39 → s' c = s c) := by
        intro y hy
        obtain ⟨s', fr', ba', a1, a2, a3⟩ := step2 (up s 39 0 c m) (-1) y hy
        refine ⟨s', fr', ba', ?_, ?_, fun q hq => (a3 q hq).trans (up_c hq)⟩
        · rw [qX9_goes_100]; exact a1
        · rw [a2]
          unfold laR
          rw [up_c (by decide), up_f, up_c (by decide), up_c (by decide)]
      by_cases h4 : ba = (c : Int)
      · rw [if_pos h4, if_pos h4]
        exact fin (-1) (Or.inl rfl)
      · rw [if_neg h4, if_neg h4]
        exact fin _ hb
/-- the end of a minute's driving up -/
def DR (ft : Ft) (n : Nat) (v : Sem × Sem × Sem) (eg : Bool) (d : Nat) (l m : Int) (set : Nat) (L : LaS) (r : Rs) (s : Sg) : Prop := ∃ (s' : Sg) (fr' ba' : Int) (z7 : PV), r = EV d mX9_goes (155, [vr 32 0, vi l, vi (set : Int), vi ba', vi fr', vi m, vi (-1), z7], [], s') ∧ laR s' fr' ba' = L ∧ frU s s'
theorem toBackR {c : Nat} {a fr ba : Int} {z : PV} (h : YR ft n v eg s) (hc : c < n) (hm : 0 ≤ m ∧ m < 200) : DR ft n v eg (d + 46) l m set (atB ft (akS v ft) l m a c (laR s fr ba)) (EV (d + 46) mX9_goes (260, [vr 32 0, vi l, vi (set : Int), z, vi fr, vi m, vi (c : Int), vi a], [], s)) s := by
  obtain ⟨s1, a1, a2, a38, a39, a40, a41⟩ := beginsR (d := d) (c := c) (l := l) (m := m) (a := a) (pu := 0) h hc hm
  rw [qX9_goes_260, a1, bV_s, qX9_goes_278]
  refine ⟨s1, fr, c, _, rfl, ?_, a2⟩
  unfold laR atB begI
  dsimp only
  rw [a38, a39, a40, a41]
theorem drive2R {fr : Int} {z7 : PV} (hset : set < 64) (hl : 0 ≤ l ∧ l < 4) (h : YR ft n v eg s) (hm : 0 ≤ m ∧ m < 200) (hf : fr ≠ -1) : DR ft n v eg (d + 46) l m set (dr2 ft (akS v ft) n l (bitS set) m (laR s fr (-1))) (EV (d + 46) mX9_goes (155, [vr 32 0, vi l, vi (set : Int), vi (-1), vi fr, vi m, vi (nxtI ft l (bitS set) m (s 38 0) n), z7], [], s)) s := by
  unfold dr2
  have eL : (laR s fr (-1)).1 = s 38 0 := rfl
  rw [eL]
  rcases nxt_lt (ft := ft) (l := l) (S := bitS set) (m := m) (st := s 38 0) n with h1 | ⟨c, h1, h2, h3⟩
  · rw [h1, if_pos rfl]
    exact ⟨s, fr, -1, z7, rfl, rfl, frU_refl s⟩
  · rw [h2, Int.toNat_natCast, if_neg (show ¬ (c : Int) = -1 by omega), qX9_goes_155, if_neg (show ¬ (c : Int) = -1 by omega), if_neg hf, qX9_goes_172, longR h h1, bI_s, b01]
    by_cases hlg : longB (ft 5 c) = true
    · rw [if_pos hlg, if_pos hlg, if_neg hf, qX9_goes_207, qX9_goes_278]
      exact ⟨s, fr, -1, _, rfl, rfl, frU_refl s⟩
    · rw [if_neg hlg, if_neg hlg, if_neg hf]
      exact toBackR h h1 hm
theorem driveR {fr ba : Int} {z6 z7 : PV} (hset : set < 64) (hl : 0 ≤ l ∧ l < 4) (h : YR ft n v eg s) (hm : 0 ≤ m ∧ m < 200) : DR ft n v eg (d + 46) l m set (dr1 ft (akS v ft) eg n l (bitS set) m (laR s fr ba)) (EV (d + 46) mX9_goes (136, [vr 32 0, vi l, vi (set : Int), vi ba, vi fr, vi m, z6, z7], [], s)) s := by
  unfold dr1
  have eL : (laR s fr ba).1 = s 38 0 := rfl
  have eF : (laR s fr ba).2.2.2.2.1 = fr := rfl
  have eB : (laR s fr ba).2.2.2.2.2 = ba := rfl
  rw [eL, eF, eB, qX9_goes_136]
  by_cases hb : ba = -1
  · subst hb
    rw [if_neg (show ¬ (-1 : Int) ≠ -1 from fun q => q rfl), if_pos (show (-1 : Int) = -1 from rfl), nextOfR hset hl h, bI_s, qX9_goes_153]
    by_cases hf : fr = -1
    · subst hf
      rcases nxt_lt (ft := ft) (l := l) (S := bitS set) (m := m) (st := s 38 0) n with h1 | ⟨c, h1, h2, h3⟩
      · rw [h1, if_pos rfl]
        exact ⟨s, -1, -1, z7, rfl, rfl, frU_refl s⟩
      · rw [h2, Int.toNat_natCast, if_neg (show ¬ (c : Int) = -1 by omega), qX9_goes_155, if_neg (show ¬ (c : Int) = -1 by omega), if_pos (show (-1 : Int) = -1 from rfl), qX9_goes_172, longR h h1, bI_s, b01]
        by_cases hlg : longB (ft 5 c) = true
        · obtain ⟨s1, a1, a2, a38, a39, a40, a41⟩ := beginsR (d := d) (c := c) (l := l) (m := m) (a := 0) (pu := 2) h h1 hm
          rw [if_pos hlg, if_pos hlg, if_pos (show (-1 : Int) = -1 from rfl), if_pos (show (-1 : Int) = -1 from rfl), a1, bV_s, qX9_goes_207, qX9_goes_278]
          refine ⟨s1, c, c, _, rfl, ?_, a2⟩
          unfold laR at2 begI
          dsimp only
          rw [a38, a39, a40, a41]
        · obtain ⟨s1, a1, a2⟩ := drawsR (d := d + 1) (c := c) (l := l) (m := m) h h1
          have hy1 := YR_fr h (frZ_K a2)
          rw [if_neg hlg, if_neg hlg, if_pos (show (-1 : Int) = -1 from rfl), a1, bI_s, b01]
          have e38 : s1 38 = s 38 := a2.1 38 (by decide)
          have e39 : s1 39 = s 39 := a2.1 39 (by decide)
          have e40 : s1 40 = s 40 := a2.1 40 (by decide)
          have e41 : s1 41 = s 41 := a2.1 41 (by decide)
          by_cases hd : drawB ft (akS v ft) eg c l m = true
          · obtain ⟨s2, b1, b2, b38, b39, b40, b41⟩ := beginsR (d := d) (c := c) (l := l) (m := m) (a := 0) (pu := 1) hy1 h1 hm
            have hy2 := YR_fr hy1 (frZ_U b2)
            rw [if_pos hd, if_pos (show (-1 : Int) = -1 ∧ drawB ft (akS v ft) eg c l m = true from ⟨rfl, hd⟩), b1, bV_s, nextOfR hset hl hy2, bI_s, qX9_goes_278]
            have eA : laR s2 (c : Int) (-1) = atF ft (akS v ft) l m c (laR s (-1) (-1)) := by
              unfold laR atF begI
              dsimp only
              rw [b38, b39, b40, b41, e38, e39, e40, e41]
            rw [← eA]
            obtain ⟨s3, fr', ba', z, c1, c2, c3⟩ := drive2R (d := d) (fr := (c : Int)) (z7 := vi 0) hset hl hy2 hm (by omega)
            exact ⟨s3, fr', ba', z, c1, c2, frU_tr (frU_K a2) (frU_tr b2 c3)⟩
          · rw [if_neg hd, if_neg (show ¬ ((-1 : Int) = -1 ∧ drawB ft (akS v ft) eg c l m = true) from fun q => hd q.2), if_pos (show (-1 : Int) = -1 from rfl)]
            obtain ⟨s3, fr', ba', z, c1, c2, c3⟩ := toBackR (d := d) (c := c) (set := set) (l := l) (a := 0) (fr := -1) (ba := -1) (z := vi (-1)) hy1 h1 hm
            refine ⟨s3, fr', ba', z, c1, ?_, frU_tr (frU_K a2) c3⟩
            rw [c2]
            unfold laR
            rw [e38, e39, e40, e41]
    · have e : (if nxtI ft l (bitS set) m (s 38 0) n = -1 then laR s fr (-1) else if longB (ft 5 (nxtI ft l (bitS set) m (s 38 0) n).toNat) = true then (if fr = -1 then at2 ft (akS v ft) l m (nxtI ft l (bitS set) m (s 38 0) n).toNat (laR s fr (-1)) else laR s fr (-1)) else if fr = -1 ∧ drawB ft (akS v ft) eg (nxtI ft l (bitS set) m (s 38 0) n).toNat l m = true then dr2 ft (akS v ft) n l (bitS set) m (atF ft (akS v ft) l m (nxtI ft l (bitS set) m (s 38 0) n).toNat (laR s fr (-1))) else atB ft (akS v ft) l m (if fr = -1 then 0 else 1) (nxtI ft l (bitS set) m (s 38 0) n).toNat (laR s fr (-1))) = dr2 ft (akS v ft) n l (bitS set) m (laR s fr (-1)) := by
        unfold dr2
        have eL' : (laR s fr (-1)).1 = s 38 0 := rfl
        rw [eL']
        by_cases h1 : nxtI ft l (bitS set) m (s 38 0) n = -1
        · rw [if_pos h1, if_pos h1]
        · rw [if_neg h1, if_neg h1]
          by_cases h2 : longB (ft 5 (nxtI ft l (bitS set) m (s 38 0) n).toNat) = true
          · rw [if_pos h2, if_pos h2, if_neg hf]
          · rw [if_neg h2, if_neg h2, if_neg (fun q => hf q.1), if_neg hf]
      rw [e]
      exact drive2R hset hl h hm hf
  · rw [if_pos hb, if_neg hb, qX9_goes_153]
    exact ⟨s, fr, ba, z7, rfl, rfl, frU_refl s⟩
end RG
