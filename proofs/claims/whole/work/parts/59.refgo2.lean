/-! REF 3: a lane, all lanes, the badness -/
section RG
variable {ft : Ft} {n : Nat} {v : Sem × Sem × Sem} {eg : Bool} {s : Sg} {d : Nat} {l : Nat} {set : Nat}
/-- what going through lane l may change -/
def frG (l : Nat) (s s' : Sg) : Prop := (∀ c, c ≠ 32 → c ≠ 38 → c ≠ 39 → c ≠ 40 → c ≠ 41 → c ≠ 42 → c ≠ 43 → s' c = s c) ∧ (∀ i, ¬ (10 ≤ i ∧ i ≤ 24) → s' 32 0 i = s 32 0 i) ∧ (∀ i, ¬ (200 * l ≤ i ∧ i < 200 * l + 200) → s' 42 0 i = s 42 0 i ∧ s' 43 0 i = s 43 0 i)
theorem frG_refl (s : Sg) : frG l s s := ⟨fun _ _ _ _ _ _ _ _ => rfl, fun _ _ => rfl, fun _ _ => ⟨rfl, rfl⟩⟩
theorem frG_tr {s1 s2 s3 : Sg} (h1 : frG l s1 s2) (h2 : frG l s2 s3) : frG l s1 s3 := ⟨fun c a1 a2 a3 a4 a5 a6 a7 => (h2.1 c a1 a2 a3 a4 a5 a6 a7).trans (h1.1 c a1 a2 a3 a4 a5 a6 a7), fun i h => (h2.2.1 i h).trans (h1.2.1 i h), fun i h => ⟨(h2.2.2 i h).1.trans (h1.2.2 i h).1, (h2.2.2 i h).2.trans (h1.2.2 i h).2⟩⟩
theorem frG_U {s s' : Sg} (h : frU s s') : frG l s s' := ⟨fun c a1 a2 a3 a4 a5 _ _ => h.1 c a1 a2 a3 a4 a5, h.2, fun i _ => by rw [h.1 42 (by decide) (by decide) (by decide) (by decide) (by decide), h.1 43 (by decide) (by decide) (by decide) (by decide) (by decide)]; exact ⟨rfl, rfl⟩⟩
theorem frZ_G {s s' : Sg} (h : frG l s s') : frZ s s' := ⟨fun c hc => h.1 c (by omega) (by omega) (by omega) (by omega) (by omega) (by omega) (by omega), fun i hi => h.2.1 i (by omega)⟩
/-- the rows of a lane up to a minute -/
def rowsTo (ft : Ft) (ak : Ak) (eg : Bool) (n l : Nat) (S : Nat → Bool) (L0 : LaS) (k : Nat) (s : Sg) : Prop := ∀ m, m < k → s 42 0 (200 * l + m) = (runI ft ak eg n l S L0 (m + 1)).2.2.2.2.2 ∧ s 43 0 (200 * l + m) = (runI ft ak eg n l S L0 (m + 1)).2.2.2.2.1
theorem minsR {L0 : LaS} (hset : set < 64) (hl : l < 4) (hL0 : hist n (bitS set) ft 0 L0) : ∀ (j mn : Nat) (fr ba : Int) (z6 z7 : PV) (s0 s : Sg), mn + j = 200 → YR ft n v eg s → laR s fr ba = runI ft (akS v ft) eg n l (bitS set) L0 mn → rowsTo ft (akS v ft) eg n l (bitS set) L0 mn s → frG l s0 s → ∃ (s' : Sg) (fr' ba' : Int), EV (d + 46) mX9_goes (54, [vr 32 0, vi (l : Int), vi (set : Int), vi ba, vi fr, vi (mn : Int), z6, z7], [], s) = some (none, s') ∧ laR s' fr' ba' = runI ft (akS v ft) eg n l (bitS set) L0 200 ∧ rowsTo ft (akS v ft) eg n l (bitS set) L0 200 s' ∧ frG l s0 s' := by
  intro j
  induction j with
  | zero =>
    intro mn fr ba z6 z7 s0 s hmn h hL hr hf
    have hmn : mn = 200 := by omega
    subst hmn
    rw [qX9_goes_54, if_neg (by decide)]
    exact ⟨s, fr, ba, rfl, hL, hr, hf⟩
  | succ j ih =>
    intro mn fr ba z6 z7 s0 s hmn h hL hr hf
    have hh := hist_run (ak := akS v ft) (eg := eg) (l := (l : Int)) hL0 mn
    rw [← hL] at hh
    obtain ⟨s1, fr1, ba1, a1, a2, a3⟩ := leaveR (d := d + 46) (fr := fr) (ba := ba) (l := (l : Int)) (m := (mn : Int)) (set := set) (z6 := z6) (z7 := z7) (s := s) (S := bitS set) h.2.1.1 (by omega) hh.2.1 hh.2.2
    have f1 : frU s s1 := ⟨fun c _ _ q _ _ => a3 c q, fun i _ => by rw [a3 32 (by decide)]⟩
    have h1 := YR_fr h (frZ_U f1)
    obtain ⟨s2, fr2, ba2, z, b1, b2, b3⟩ := driveR (d := d) (fr := fr1) (ba := ba1) (z6 := z6) (z7 := z7) (l := (l : Int)) (m := (mn : Int)) hset (by omega) h1 (by omega)
    have h2 := YR_fr h1 (frZ_U b3)
    have hL2 : laR s2 fr2 ba2 = runI ft (akS v ft) eg n l (bitS set) L0 (mn + 1) := by
      rw [b2, a2, hL]
      rfl
    have e1 : w32 (w32 (200 * (l : Int)) + (mn : Int)) = ((200 * l + mn : Nat) : Int) := by rw [w32_id (x := 200 * (l : Int)) (by omega) (by omega), w32_id (by omega) (by omega)]; omega
    rw [a1, b1, qX9_goes_155, if_pos (show (-1 : Int) = -1 from rfl), e1, if_pos (inbN (by omega)), if_pos (inbN (by omega)), Int.toNat_natCast, w32_id (by omega) (by omega), show (mn : Int) + 1 = ((mn + 1 : Nat) : Int) by omega]
    have f2 : frU s s2 := frU_tr f1 b3
    have e42 : s2 42 = s 42 := f2.1 42 (by decide) (by decide) (by decide) (by decide) (by decide)
    have e43 : s2 43 = s 43 := f2.1 43 (by decide) (by decide) (by decide) (by decide) (by decide)
    have f3 : frG l s2 (up (up s2 42 0 (200 * l + mn) ba2) 43 0 (200 * l + mn) fr2) := ⟨fun c _ _ _ _ _ q1 q2 => by rw [up_c q2, up_c q1], fun i _ => by rw [up_c (by decide), up_c (by decide)], fun i hi => by
      rw [up_c (by decide), up_i (by omega), up_i (by omega), up_c (by decide)]
      exact ⟨rfl, rfl⟩⟩
    refine ih (mn + 1) fr2 ba2 (vi (-1)) z s0 _ (by omega) (YR_fr h2 (frZ_G f3)) ?_ ?_ (frG_tr hf (frG_tr (frG_U f2) f3))
    · rw [← hL2]
      unfold laR
      rw [up_c (by decide), up_c (by decide), up_c (by decide), up_c (by decide), up_c (by decide), up_c (by decide), up_c (by decide), up_c (by decide)]
    · intro m hm
      by_cases e : m = mn
      · subst e
        rw [up_c (by decide), up_hit, up_hit, ← hL2]
        exact ⟨rfl, rfl⟩
      · rw [up_c (by decide), up_i (by omega), up_i (by omega), up_c (by decide), e42, e43]
        exact hr m (by omega)
theorem wipeR (hset : set < 64) : ∀ (j x : Nat) (z4 z5 z6 z7 : PV) (s0 s : Sg), x + j = n → YR ft n v eg s → (∀ c, c ≠ 38 → c ≠ 39 → c ≠ 40 → s c = s0 c) → (∀ c, c < x → set.testBit c = true → s 38 0 c = -1 ∧ s 39 0 c = -1 ∧ s 40 0 c = -1) → (∀ c, ¬ (c < x ∧ set.testBit c = true) → s 38 0 c = s0 38 0 c ∧ s 39 0 c = s0 39 0 c ∧ s 40 0 c = s0 40 0 c) → ∃ s', EV d mX9_goes (2, [vr 32 0, vi (l : Int), vi (set : Int), vi (x : Int), z4, z5, z6, z7], [], s) = EV d mX9_goes (54, [vr 32 0, vi (l : Int), vi (set : Int), vi (-1), vi (-1), vi 0, z6, z7], [], s') ∧ YR ft n v eg s' ∧ (∀ c, c ≠ 38 → c ≠ 39 → c ≠ 40 → s' c = s0 c) ∧ (∀ c, c < n → set.testBit c = true → s' 38 0 c = -1 ∧ s' 39 0 c = -1 ∧ s' 40 0 c = -1) ∧ (∀ c, ¬ (c < n ∧ set.testBit c = true) → s' 38 0 c = s0 38 0 c ∧ s' 39 0 c = s0 39 0 c ∧ s' 40 0 c = s0 40 0 c) := by
  intro j
  induction j with
  | zero =>
    intro x z4 z5 z6 z7 s0 s hx h hf hw ho
    have hx : x = n := by omega
    subst hx
    rw [qX9_goes_2, h.1.1, if_neg (by omega)]
    exact ⟨s, rfl, h, hf, hw, ho⟩
  | succ j ih =>
    intro x z4 z5 z6 z7 s0 s hx h hf hw ho
    have h6 := h.2.1.1
    have hx6 : x < 6 := by omega
    rw [qX9_goes_2, h.1.1, if_pos (by omega), wbit set hset x hx6, b11]
    by_cases hb : set.testBit x = true
    · rw [if_pos hb, if_pos (inbN hx6), if_pos (inbN hx6), if_pos (inbN hx6), Int.toNat_natCast, qX9_goes_40, w32_id (by omega) (by omega), show (x : Int) + 1 = ((x + 1 : Nat) : Int) by omega]
      have hfr : ∀ c, c ≠ 38 → c ≠ 39 → c ≠ 40 → up (up (up s 38 0 x (-1)) 39 0 x (-1)) 40 0 x (-1) c = s c := fun c q1 q2 q3 => by rw [up_c q3, up_c q2, up_c q1]
      have e38 : ∀ c, up (up (up s 38 0 x (-1)) 39 0 x (-1)) 40 0 x (-1) 38 0 c = if c = x then -1 else s 38 0 c := fun c => by rw [up_c (by decide), up_c (by decide), up_f]; rfl
      have e39 : ∀ c, up (up (up s 38 0 x (-1)) 39 0 x (-1)) 40 0 x (-1) 39 0 c = if c = x then -1 else s 39 0 c := fun c => by rw [up_c (by decide), up_f, up_c (by decide)]; rfl
      have e40 : ∀ c, up (up (up s 38 0 x (-1)) 39 0 x (-1)) 40 0 x (-1) 40 0 c = if c = x then -1 else s 40 0 c := fun c => by rw [up_f, up_c (by decide), up_c (by decide)]; rfl
      refine ih (x + 1) z4 z5 z6 z7 s0 _ (by omega) (YR_fr h ⟨fun c hc => hfr c (by omega) (by omega) (by omega), fun i _ => by rw [hfr 32 (by decide) (by decide) (by decide)]⟩) (fun c q1 q2 q3 => (hfr c q1 q2 q3).trans (hf c q1 q2 q3)) (fun c h1 h2 => ?_) (fun c h1 => ?_)
      · rw [e38, e39, e40]
        by_cases e : c = x
        · rw [if_pos e, if_pos e, if_pos e]; exact ⟨rfl, rfl, rfl⟩
        · rw [if_neg e, if_neg e, if_neg e]; exact hw c (by omega) h2
      · have e : c ≠ x := fun e => h1 ⟨by omega, by rw [e]; exact hb⟩
        rw [e38, e39, e40, if_neg e, if_neg e, if_neg e]
        exact ho c (fun q => h1 ⟨by omega, q.2⟩)
    · rw [if_neg hb, qX9_goes_40, w32_id (by omega) (by omega), show (x : Int) + 1 = ((x + 1 : Nat) : Int) by omega]
      refine ih (x + 1) z4 z5 z6 z7 s0 s (by omega) h hf (fun c h1 h2 => ?_) (fun c h1 => ?_)
      · have e : c ≠ x := fun e => hb (by rw [← e]; exact h2)
        exact hw c (by omega) h2
      · by_cases e : c = x
        · exact ho c (fun q => by omega)
        · exact ho c (fun q => h1 ⟨by omega, q.2⟩)
theorem goesR (hset : set < 64) (hl : l < 4) (h : YR ft n v eg s) : ∃ s', RUN (d + 46) mX9_goes [vr 32 0, vi (l : Int), vi (set : Int)] s = some (none, s') ∧ frG l s s' ∧ (∀ c, c < n → set.testBit c = true → s' 38 0 c = (lanR ft v eg n l set).1 c ∧ s' 39 0 c = (lanR ft v eg n l set).2.1 c ∧ s' 40 0 c = (lanR ft v eg n l set).2.2.1 c) ∧ (∀ c, ¬ (c < n ∧ set.testBit c = true) → s' 38 0 c = s 38 0 c ∧ s' 39 0 c = s 39 0 c ∧ s' 40 0 c = s 40 0 c) ∧ rowsTo ft (akS v ft) eg n l (bitS set) cn0 200 s' := by
  obtain ⟨s1, a1, h1, a2, a3, a4⟩ := wipeR (d := d + 46) (l := l) hset n 0 UU UU UU UU s s (by omega) h (fun _ _ _ _ => rfl) (fun c hc => by omega) (fun c _ => ⟨rfl, rfl, rfl⟩)
  have hag : agr n (bitS set) (laR s1 (-1) (-1)) cn0 := agr0 (fun c q1 q2 => a3 c q1 q2) rfl rfl
  have hh0 : hist n (bitS set) ft 0 (laR s1 (-1) (-1)) := hist0 (fun c q1 q2 => a3 c q1 q2) rfl rfl
  obtain ⟨s2, fr', ba', b1, b2, b3, b4⟩ := minsR (d := d) (v := v) (eg := eg) hset hl hh0 200 0 (-1) (-1) UU UU s1 s1 (by omega) h1 rfl (fun m hm => by omega) (frG_refl s1)
  have hagR := agr_run (ft := ft) (ak := akS v ft) (eg := eg) (l := (l : Int)) hag 200
  have eR : runI ft (akS v ft) eg n l (bitS set) cn0 200 = lanR ft v eg n l set := by unfold lanR resI; rfl
  rw [← b2, eR] at hagR
  have f1 : frG l s s1 := ⟨fun c q1 q2 q3 q4 q5 q6 q7 => a2 c q2 q3 q4, fun i _ => by rw [a2 32 (by decide) (by decide) (by decide)], fun i _ => by rw [a2 42 (by decide) (by decide) (by decide), a2 43 (by decide) (by decide) (by decide)]; exact ⟨rfl, rfl⟩⟩
  refine ⟨s2, ?_, frG_tr f1 b4, fun c q1 q2 => hagR.1 c q1 q2, fun c hc => ?_, fun m hm => ?_⟩
  · rw [qX9_goes, show EV (d + 46) mX9_goes (2, [vr 32 0, vi (l : Int), vi (set : Int), vi 0, UU, UU, UU, UU], [], s) = _ from a1]
    exact b1
  · have ho := run_out (ak := akS v ft) (eg := eg) (l := (l : Int)) hh0 200 c hc
    rw [← b2] at ho
    obtain ⟨y1, y2, y3⟩ := a4 c hc
    have o1 : s2 38 0 c = s1 38 0 c := ho.1
    have o2 : s2 39 0 c = s1 39 0 c := ho.2.1
    have o3 : s2 40 0 c = s1 40 0 c := ho.2.2
    exact ⟨o1.trans y1, o2.trans y2, o3.trans y3⟩
  · have hm' := b3 m hm
    have := (agr_run (ft := ft) (ak := akS v ft) (eg := eg) (l := (l : Int)) hag (m + 1)).2.1
    rw [hm'.1, hm'.2, this]
    exact ⟨rfl, rfl⟩
theorem wor_0 : ∀ x : Nat, x < 64 → ∀ c : Nat, c < 6 → wor (x : Int) (wshl 0 (c : Int)) = (x : Int) := by decide +kernel
theorem setOfL (h : YR ft n v eg s) : ∀ (j x : Nat), x + j = n → EV d mX9_setOf (4, [vr 32 0, vi (l : Int), vi ((setN (lnF ft) x l : Nat) : Int), vi (x : Int)], [], s) = some (some (vi ((setN (lnF ft) n l : Nat) : Int)), s) := by
  intro j
  induction j with
  | zero =>
    intro x hx
    have hx : x = n := by omega
    subst hx
    rw [qX9_setOf_4, h.1.1, if_neg (by omega)]
  | succ j ih =>
    intro x hx
    have h6 := h.2.1.1
    have hx6 : x < 6 := by omega
    obtain ⟨l4, le⟩ := lnF_4 (c := x) h.2.1 (by omega)
    have hlt : setN (lnF ft) x l < 2 ^ x := msk_lt _ x
    have hlt64 : setN (lnF ft) x l < 64 := msk_64 (by omega)
    have ih' := ih (x + 1) (by omega)
    rw [qX9_setOf_4, h.1.1, if_pos (by omega), r2 hx6, if_pos (inbN (by omega)), Int.toNat_natCast, YR_row h (c := x) (by omega) (by omega), ← le]
    by_cases e : lnF ft x = l
    · rw [if_pos (by omega), qX9_setOf_32, wor_add x hx6 _ hlt, w32_id (by omega) (by omega), show (x : Int) + 1 = ((x + 1 : Nat) : Int) by omega]
      have es : setN (lnF ft) (x + 1) l = setN (lnF ft) x l + 2 ^ x := by
        unfold setN
        rw [msk, if_pos (by simp [e])]
      rw [← es]
      exact ih'
    · rw [if_neg (by omega), qX9_setOf_32, wor_0 _ hlt64 x hx6, w32_id (by omega) (by omega), show (x : Int) + 1 = ((x + 1 : Nat) : Int) by omega]
      have es : setN (lnF ft) (x + 1) l = setN (lnF ft) x l := by
        unfold setN
        rw [msk, if_neg (by simp [e]), Nat.add_zero]
      rw [← es]
      exact ih'
theorem setOfR (h : YR ft n v eg s) : RUN d mX9_setOf [vr 32 0, vi (l : Int)] s = some (some (vi ((setN (lnF ft) n l : Nat) : Int)), s) := by
  rw [qX9_setOf]
  exact setOfL h n 0 (by omega)
end RG
