/-! YARD 5: the minutes of a lane -/
def vaI (ft : Ft) (ak : Ak) (eg : Bool) (n : Nat) (l : Int) (S : Nat → Bool) (L0 : LaS) : Nat → Int
  | 0 => 0
  | k + 1 => vaI ft ak eg n l S L0 k + (if (runI ft ak eg n l S L0 (k + 1)).2.2.2.2.2 ≠ -1 ∧ (runI ft ak eg n l S L0 (k + 1)).2.2.2.2.1 = -1 then 1 else 0)
def cn0 : LaS := (fun _ => -1, fun _ => -1, fun _ => -1, fun _ => 0, -1, -1)
def resI (ft : Ft) (ak : Ak) (eg : Bool) (n : Nat) (l : Int) (S : Nat → Bool) : LaS := runI ft ak eg n l S cn0 200
section PL
variable {ft : Ft} {ak : Ak} {eg : Bool} {n : Nat} {l : Int} {S : Nat → Bool} {L0 : LaS}
def outE (n : Nat) (S : Nat → Bool) (L L' : LaS) : Prop := ∀ c, ¬ (c < n ∧ S c = true) → L'.1 c = L.1 c ∧ L'.2.1 c = L.2.1 c ∧ L'.2.2.1 c = L.2.2.1 c
theorem outE_refl (L : LaS) : outE n S L L := fun _ _ => ⟨rfl, rfl, rfl⟩
theorem outE_tr {L1 L2 L3 : LaS} (h1 : outE n S L1 L2) (h2 : outE n S L2 L3) : outE n S L1 L3 := fun c hc => ⟨(h2 c hc).1.trans (h1 c hc).1, (h2 c hc).2.1.trans (h1 c hc).2.1, (h2 c hc).2.2.trans (h1 c hc).2.2⟩
theorem out_lvF {m : Int} {L : LaS} (h : inP n S L.2.2.2.2.1) : outE n S L (lvF m L) := by
  unfold lvF
  split
  · rename_i hm
    obtain ⟨x, x1, x2, x3⟩ := h.resolve_left hm.1
    intro c hc
    refine ⟨rfl, ?_, rfl⟩
    show fup L.2.1 L.2.2.2.2.1.toNat m c = _
    rw [x3, Int.toNat_natCast, fup_ne (fun e => hc ⟨by omega, by rw [e]; exact x2⟩)]
  · exact outE_refl L
theorem out_lvB {m : Int} {L : LaS} (h : inP n S L.2.2.2.2.2) : outE n S L (lvB m L) := by
  unfold lvB
  split
  · rename_i hm
    obtain ⟨x, x1, x2, x3⟩ := h.resolve_left hm.1
    intro c hc
    refine ⟨rfl, ?_, rfl⟩
    show fup L.2.1 L.2.2.2.2.2.toNat m c = _
    rw [x3, Int.toNat_natCast, fup_ne (fun e => hc ⟨by omega, by rw [e]; exact x2⟩)]
  · exact outE_refl L
theorem out_beg {m a pu : Int} {x : Nat} {L L' : LaS} (hx : x < n) (hs : S x = true) (h1 : L'.1 = (begI ft ak l m a x pu L).1) (h2 : L'.2.1 = (begI ft ak l m a x pu L).2.1) (h3 : L'.2.2.1 = (begI ft ak l m a x pu L).2.2.1) : outE n S L L' := by
  intro c hc
  have e : c ≠ x := fun e => hc ⟨by omega, by rw [e]; exact hs⟩
  rw [h1, h2, h3]
  exact ⟨fup_ne e, rfl, fup_ne e⟩
theorem out_dr2 {m : Int} {L : LaS} : outE n S L (dr2 ft ak n l S m L) := by
  unfold dr2
  rcases nxt_lt (ft := ft) (l := l) (S := S) (m := m) (st := L.1) n with h1 | ⟨c, h1, h2, h3⟩
  · rw [if_pos h1]; exact outE_refl L
  · rw [h2, Int.toNat_natCast, if_neg (show ¬ (c : Int) = -1 by omega)]
    split
    · exact outE_refl L
    · exact out_beg (ft := ft) (ak := ak) (l := l) (m := m) (a := 1) (pu := 0) h1 (cand_S h3).1 rfl rfl rfl
theorem out_dr1 {m : Int} {L : LaS} : outE n S L (dr1 ft ak eg n l S m L) := by
  unfold dr1
  split
  · exact outE_refl L
  · rcases nxt_lt (ft := ft) (l := l) (S := S) (m := m) (st := L.1) n with h1 | ⟨c, h1, h2, h3⟩
    · rw [if_pos h1]; exact outE_refl L
    · rw [h2, Int.toNat_natCast, if_neg (show ¬ (c : Int) = -1 by omega)]
      have hs := (cand_S h3).1
      split
      · split
        · exact out_beg (ft := ft) (ak := ak) (l := l) (m := m) (a := 0) (pu := 2) h1 hs rfl rfl rfl
        · exact outE_refl L
      · split
        · exact outE_tr (out_beg (ft := ft) (ak := ak) (l := l) (m := m) (a := 0) (pu := 1) (L' := atF ft ak l m c L) h1 hs rfl rfl rfl) out_dr2
        · exact out_beg (ft := ft) (ak := ak) (l := l) (m := m) (a := if L.2.2.2.2.1 = -1 then 0 else 1) (pu := 0) h1 hs rfl rfl rfl
theorem inP_lvF {m : Int} {L : LaS} (h : inP n S L.2.2.2.2.2) : inP n S (lvF m L).2.2.2.2.2 := by
  unfold lvF
  split
  · show inP n S (if _ then _ else _)
    split
    · exact Or.inl rfl
    · exact h
  · exact h
theorem run_out (h : hist n S ft 0 L0) : ∀ k, outE n S L0 (runI ft ak eg n l S L0 k)
  | 0 => outE_refl L0
  | k + 1 => by
    have hh := hist_run (ak := ak) (eg := eg) (l := l) h k
    exact outE_tr (run_out h k) (outE_tr (out_lvF hh.2.1) (outE_tr (out_lvB (inP_lvF hh.2.2)) out_dr1))
theorem hist0 {L : LaS} (h : ∀ c, c < n → S c = true → L.1 c = -1 ∧ L.2.1 c = -1 ∧ L.2.2.1 c = -1) (hf : L.2.2.2.2.1 = -1) (hb : L.2.2.2.2.2 = -1) : hist n S ft 0 L := by
  refine ⟨fun c h1 h2 => Or.inl ?_, Or.inl hf, Or.inl hb⟩
  obtain ⟨a1, a2, a3⟩ := h c h1 h2
  exact ⟨a1, a2, a3, by omega, by omega⟩
theorem agr0 {L : LaS} (h : ∀ c, c < n → S c = true → L.1 c = -1 ∧ L.2.1 c = -1 ∧ L.2.2.1 c = -1) (hf : L.2.2.2.2.1 = -1) (hb : L.2.2.2.2.2 = -1) : agr n S L cn0 := by
  obtain ⟨st, off, pu, en, fr, ba⟩ := L
  dsimp only at hf hb
  subst hf hb
  exact ⟨fun c h1 h2 => h c h1 h2, rfl, Or.inl rfl, Or.inl rfl⟩
theorem cn_hist : hist n S ft 0 cn0 := hist0 (fun _ _ _ => ⟨rfl, rfl, rfl⟩) rfl rfl
/-- nobody left: nothing happens any more -/
theorem stat {k : Nat} (hn : ∀ m : Int, nxtI ft l S m (runI ft ak eg n l S L0 k).1 n = -1) (hf : (runI ft ak eg n l S L0 k).2.2.2.2.1 = -1) (hb : (runI ft ak eg n l S L0 k).2.2.2.2.2 = -1) : ∀ j, runI ft ak eg n l S L0 (k + j) = runI ft ak eg n l S L0 k ∧ vaI ft ak eg n l S L0 (k + j) = vaI ft ak eg n l S L0 k
  | 0 => ⟨rfl, rfl⟩
  | j + 1 => by
    obtain ⟨ih1, ih2⟩ := stat hn hf hb j
    have e : runI ft ak eg n l S L0 (k + j + 1) = runI ft ak eg n l S L0 k := by
      rw [runI, ih1]
      unfold minI
      have e1 : lvF ((k + j : Nat) : Int) (runI ft ak eg n l S L0 k) = runI ft ak eg n l S L0 k := by
        unfold lvF
        rw [if_neg (fun q => q.1 hf)]
      have e2 : lvB ((k + j : Nat) : Int) (runI ft ak eg n l S L0 k) = runI ft ak eg n l S L0 k := by
        unfold lvB
        rw [if_neg (fun q => q.1 hb)]
      rw [e1, e2]
      unfold dr1
      rw [if_neg (fun q => q hb), if_pos (hn _)]
    refine ⟨e, ?_⟩
    show vaI ft ak eg n l S L0 (k + j + 1) = _
    rw [vaI, e, ih2, if_neg (fun q => q.1 hb)]
    omega
theorem vaI_rg : ∀ k : Nat, 0 ≤ vaI ft ak eg n l S L0 k ∧ vaI ft ak eg n l S L0 k ≤ (k : Int)
  | 0 => ⟨Int.le_refl 0, Int.le_refl 0⟩
  | k + 1 => by
    have ih := vaI_rg k
    rw [vaI]
    split <;> omega
end PL
section YP
variable {ft : Ft} {n : Nat} {v : Sem × Sem × Sem} {eg : Bool} {d : Nat} {l : Int} {S : Nat → Bool}
/-- what a lane's minutes may change -/
def frV (s s' : Sg) : Prop := (∀ c, c ≠ 9 → c ≠ 10 → c ≠ 13 → c ≠ 15 → c ≠ 16 → c ≠ 17 → c ≠ 18 → s' c = s c) ∧ (∀ i, i ≠ 10 → i ≠ 11 → i ≠ 12 → i ≠ 13 → s' 13 0 i = s 13 0 i)
theorem frV_M {s s' : Sg} (h : frM s s') : frV s s' := ⟨h.1, fun i a1 a2 a3 _ => h.2 i a1 a2 a3⟩
theorem frV_tr {s1 s2 s3 : Sg} (h1 : frV s1 s2) (h2 : frV s2 s3) : frV s1 s3 := ⟨fun c a1 a2 a3 a4 a5 a6 a7 => (h2.1 c a1 a2 a3 a4 a5 a6 a7).trans (h1.1 c a1 a2 a3 a4 a5 a6 a7), fun i a1 a2 a3 a4 => (h2.2 i a1 a2 a3 a4).trans (h1.2 i a1 a2 a3 a4)⟩
theorem frV_13 {s : Sg} {x : Int} : frV s (up s 13 0 13 x) := ⟨fun c _ _ a3 _ _ _ _ => up_c a3, fun i _ _ _ a4 => up_i a4⟩
theorem frY_V {s s' : Sg} (h : frV s s') : frY s s' := ⟨fun c hc => h.1 c (by omega) (by omega) (by omega) (by omega) (by omega) (by omega) (by omega), h.2 14 (by decide) (by decide) (by decide) (by decide)⟩
theorem laS_13 {s : Sg} {x : Int} : laS (up s 13 0 13 x) = laS s := by
  unfold laS
  rw [up_c (by decide), up_c (by decide), up_c (by decide), up_c (by decide), up_i (by decide), up_i (by decide)]
theorem LI_13 {s : Sg} {x : Int} {k g : Nat} (h : LI ft n v eg l S k g s) : LI ft n v eg l S k g (up s 13 0 13 x) := by
  obtain ⟨h1, h2, h3, h4, h5⟩ := h
  exact ⟨YC_fr h1 (frY_V frV_13), by rw [up_c (by decide)]; exact h2, by rw [up_i (by decide)]; exact h3, by rw [up_i (by decide)]; exact h4, by rw [up_c (by decide), up_c (by decide)]; exact h5⟩
theorem minsC {set : Int} {k : Nat} {L0 : LaS} (hL0 : hist n S ft 0 L0) : ∀ (j mn g : Nat) (s : Sg), mn + j = 200 → LI ft n v eg l S k g s → laS s = runI ft (akS v ft) eg n l S L0 mn → ∃ (s' : Sg) (z : PV), EV (d + 5) mX7_playLane (18, [vr 13 0, vi l, vi set, vi (mn : Int)], [], s) = EV (d + 5) mX7_playLane (98, [vr 13 0, vi l, vi set, z], [], s') ∧ laS s' = runI ft (akS v ft) eg n l S L0 200 ∧ (0 ≤ s 13 0 13 → s 13 0 13 ≤ 100000 + (mn : Int) → s' 13 0 13 = s 13 0 13 + (vaI ft (akS v ft) eg n l S L0 200 - vaI ft (akS v ft) eg n l S L0 mn)) ∧ frV s s' := by
  intro j
  induction j with
  | zero =>
    intro mn g s hmn h hL
    have hmn : mn = 200 := by omega
    subst hmn
    rw [qX7_playLane_18, if_neg (by decide)]
    exact ⟨s, _, rfl, hL, fun _ _ => by omega, frV_M (frM_refl s)⟩
  | succ j ih =>
    intro mn g s hmn h hL
    have hh := hist_run (ak := akS v ft) (eg := eg) (l := l) hL0 mn
    rw [← hL] at hh
    obtain ⟨s1, a1, a2, a3, a4, a5⟩ := leaveC (d := d + 4) (m := (mn : Int)) (n := n) (S := S) h.1.2.1.1 hh.2.1 hh.2.2
    have e20 : s1 20 = s 20 := a3.1 20 (by decide) (by decide) (by decide) (by decide) (by decide) (by decide) (by decide)
    have h1 : LI ft n v eg l S k g s1 := ⟨YC_fr h.1 (frY_M a3), by rw [e20]; exact h.2.1, (a3.2 9 (by decide) (by decide) (by decide)).trans h.2.2.1, a4.trans h.2.2.2.1, by rw [e20, a5]; exact h.2.2.2.2⟩
    obtain ⟨s2, g2, b1, b2, b3, b4⟩ := driveC (d := d) (m := (mn : Int)) h1 (by omega)
    have hL2 : laS s2 = runI ft (akS v ft) eg n l S L0 (mn + 1) := by
      rw [b2, a2, hL]
      rfl
    have f2 : frM s s2 := frM_tr a3 b3
    have v2 : s2 13 0 13 = s 13 0 13 := f2.2 13 (by decide) (by decide) (by decide)
    have hF : (runI ft (akS v ft) eg n l S L0 (mn + 1)).2.2.2.2.1 = s2 13 0 11 := by rw [← hL2]; rfl
    have hB : (runI ft (akS v ft) eg n l S L0 (mn + 1)).2.2.2.2.2 = s2 13 0 12 := by rw [← hL2]; rfl
    have hva : vaI ft (akS v ft) eg n l S L0 (mn + 1) = vaI ft (akS v ft) eg n l S L0 mn + (if s2 13 0 12 ≠ -1 ∧ s2 13 0 11 = -1 then 1 else 0) := by rw [vaI, hF, hB]
    -- behind the count
    have go : ∀ s3 : Sg, laS s3 = laS s2 → LI ft n v eg l S k g2 s3 → frV s s3 → (0 ≤ s 13 0 13 → s 13 0 13 ≤ 100000 + (mn : Int) → s3 13 0 13 = s 13 0 13 + (vaI ft (akS v ft) eg n l S L0 (mn + 1) - vaI ft (akS v ft) eg n l S L0 mn)) → ∃ (s' : Sg) (z : PV), EV (d + 5) mX7_playLane (62, [vr 13 0, vi l, vi set, vi (mn : Int)], [], s3) = EV (d + 5) mX7_playLane (98, [vr 13 0, vi l, vi set, z], [], s') ∧ laS s' = runI ft (akS v ft) eg n l S L0 200 ∧ (0 ≤ s 13 0 13 → s 13 0 13 ≤ 100000 + (mn : Int) → s' 13 0 13 = s 13 0 13 + (vaI ft (akS v ft) eg n l S L0 200 - vaI ft (akS v ft) eg n l S L0 mn)) ∧ frV s s' := by
      intro s3 hl3 h3 f3 v3
      have on : ∃ (s' : Sg) (z : PV), EV (d + 5) mX7_playLane (92, [vr 13 0, vi l, vi set, vi (mn : Int)], [], s3) = EV (d + 5) mX7_playLane (98, [vr 13 0, vi l, vi set, z], [], s') ∧ laS s' = runI ft (akS v ft) eg n l S L0 200 ∧ (0 ≤ s 13 0 13 → s 13 0 13 ≤ 100000 + (mn : Int) → s' 13 0 13 = s 13 0 13 + (vaI ft (akS v ft) eg n l S L0 200 - vaI ft (akS v ft) eg n l S L0 mn)) ∧ frV s s' := by
        rw [qX7_playLane_92, w32_id (by omega) (by omega), show (mn : Int) + 1 = ((mn + 1 : Nat) : Int) by omega]
        -- the count is bounded by what is left
        obtain ⟨s', z, c1, c2, c3, c4⟩ := ih (mn + 1) g2 s3 (by omega) h3 (by rw [hl3, hL2])
        refine ⟨s', z, c1, c2, fun q1 q2 => ?_, frV_tr f3 c4⟩
        have h3' := v3 q1 q2
        have hr : 0 ≤ vaI ft (akS v ft) eg n l S L0 (mn + 1) - vaI ft (akS v ft) eg n l S L0 mn ∧ vaI ft (akS v ft) eg n l S L0 (mn + 1) - vaI ft (akS v ft) eg n l S L0 mn ≤ 1 := by
          rw [hva]
          split <;> omega
        rw [c3 (by omega) (by omega), h3']
        omega
      rw [qX7_playLane_62]
      by_cases h12 : s3 13 0 12 = -1
      · rw [if_pos h12]
        by_cases h11 : s3 13 0 11 = -1
        · rw [if_pos h11]
          by_cases hgk : s3 13 0 10 = s3 13 0 9
          · rw [if_pos hgk]
            have hgk' : g2 = k := by
              have e1 := h3.2.2.1
              have e2 := h3.2.2.2.1
              omega
            have hno : ∀ m : Int, nxtI ft l S m (runI ft (akS v ft) eg n l S L0 (mn + 1)).1 n = -1 := by
              intro m
              rw [← hL2, ← hl3]
              show nxtI ft l S m (s3 15 0) n = -1
              rw [nxt_q h3.2.1 h3.2.2.2.2, if_neg (by omega)]
            have hst := stat (k := mn + 1) hno (by rw [← hL2, ← hl3]; exact h11) (by rw [← hL2, ← hl3]; exact h12) (200 - (mn + 1))
            rw [show mn + 1 + (200 - (mn + 1)) = 200 by omega] at hst
            exact ⟨s3, _, rfl, by rw [hl3, hL2, hst.1], fun q1 q2 => by rw [hst.2]; exact v3 q1 q2, f3⟩
          · rw [if_neg hgk]; exact on
        · rw [if_neg h11]; exact on
      · rw [if_neg h12]; exact on
    rw [qX7_playLane_18, if_pos (by omega), a1, bV_s, b1, bV_s]
    by_cases h12 : s2 13 0 12 = -1
    · rw [if_pos h12]
      exact go s2 rfl b4 (frV_M f2) (fun q1 q2 => by rw [hva, if_neg (fun q => q.1 h12), v2]; omega)
    · rw [if_neg h12]
      by_cases h11 : s2 13 0 11 = -1
      · rw [if_pos h11]
        refine go _ laS_13 (LI_13 b4) (frV_tr (frV_M f2) frV_13) (fun q1 q2 => ?_)
        rw [up_hit, hva, if_pos ⟨h12, h11⟩, v2, w32_id (by omega) (by omega)]
        omega
      · rw [if_neg h11]
        exact go s2 rfl b4 (frV_M f2) (fun q1 q2 => by rw [hva, if_neg (fun q => h11 q.2), v2]; omega)
end YP
