/-! LAW 17: pump: who is where, when, read off the ends -/
section PS
variable {ft : Ft} {ak : Ak} {eg : Bool} {n : Nat} {l : Int} {S : Nat → Bool}
/-- what has been told of a car stays, and is told anew only for later minutes -/
def pst (k : Int) (st off pu st' off' pu' : Int) : Prop := (st ≠ -1 → st' = st ∧ pu' = pu) ∧ (st = -1 → st' = -1 ∨ k ≤ st') ∧ (off ≠ -1 → off' = off) ∧ (off = -1 → off' = -1 ∨ k ≤ off')
def pstL (n : Nat) (S : Nat → Bool) (k : Int) (L L' : LaS) : Prop := ∀ c, c < n → S c = true → pst k (L.1 c) (L.2.1 c) (L.2.2.1 c) (L'.1 c) (L'.2.1 c) (L'.2.2.1 c)
theorem pst_refl {k : Int} (L : LaS) : pstL n S k L L := fun c _ _ => ⟨fun _ => ⟨rfl, rfl⟩, fun h => Or.inl h, fun _ => rfl, fun h => Or.inl h⟩
theorem pst_tr {k k' : Int} {L1 L2 L3 : LaS} (hk0 : 0 ≤ k) (hk : k ≤ k') (h1 : pstL n S k L1 L2) (h2 : pstL n S k' L2 L3) : pstL n S k L1 L3 := fun c hc hs => by
  have a := h1 c hc hs
  have b := h2 c hc hs
  unfold pst at a b ⊢
  obtain ⟨a1, a2, a3, a4⟩ := a
  obtain ⟨b1, b2, b3, b4⟩ := b
  refine ⟨fun h => ?_, fun h => ?_, fun h => ?_, fun h => ?_⟩
  · have e := a1 h
    have e2 := b1 (by rw [e.1]; exact h)
    exact ⟨e2.1.trans e.1, e2.2.trans e.2⟩
  · rcases a2 h with q | q
    · rcases b2 q with q2 | q2
      · exact Or.inl q2
      · exact Or.inr (by omega)
    · have e2 := b1 (by omega)
      exact Or.inr (by omega)
  · have e := a3 h
    rw [b3 (by rw [e]; exact h), e]
  · rcases a4 h with q | q
    · rcases b4 q with q2 | q2
      · exact Or.inl q2
      · exact Or.inr (by omega)
    · have e2 := b3 (by omega)
      exact Or.inr (by omega)
theorem pst_lvF {k : Int} {L : LaS} (hk : 0 ≤ k) (h : hist n S ft (k + 1) L) : pstL n S k L (lvF k L) := by
  intro c hc hs
  unfold lvF
  split
  · rename_i hm
    obtain ⟨x, x1, x2, x3⟩ := h.2.1.resolve_left hm.1
    have hx := h.1 x x1 x2
    show pst k (L.1 c) (L.2.1 c) (L.2.2.1 c) (L.1 c) (fup L.2.1 L.2.2.2.2.1.toNat k c) (L.2.2.1 c)
    rw [x3, Int.toNat_natCast]
    by_cases e : c = x
    · subst e
      rw [fup_same]
      unfold hcar at hx
      unfold pst
      refine ⟨fun _ => ⟨rfl, rfl⟩, fun q => Or.inl q, fun q => ?_, fun _ => Or.inr (Int.le_refl k)⟩
      omega
    · rw [fup_ne e]
      exact ⟨fun _ => ⟨rfl, rfl⟩, fun q => Or.inl q, fun _ => rfl, fun q => Or.inl q⟩
  · exact pst_refl L c hc hs
theorem pst_lvB {k : Int} {L : LaS} (hk : 0 ≤ k) (h : hist n S ft (k + 1) L) : pstL n S k L (lvB k L) := by
  intro c hc hs
  unfold lvB
  split
  · rename_i hm
    obtain ⟨x, x1, x2, x3⟩ := h.2.2.resolve_left hm.1
    have hx := h.1 x x1 x2
    show pst k (L.1 c) (L.2.1 c) (L.2.2.1 c) (L.1 c) (fup L.2.1 L.2.2.2.2.2.toNat k c) (L.2.2.1 c)
    rw [x3, Int.toNat_natCast]
    by_cases e : c = x
    · subst e
      rw [fup_same]
      unfold hcar at hx
      unfold pst
      refine ⟨fun _ => ⟨rfl, rfl⟩, fun q => Or.inl q, fun q => ?_, fun _ => Or.inr (Int.le_refl k)⟩
      omega
    · rw [fup_ne e]
      exact ⟨fun _ => ⟨rfl, rfl⟩, fun q => Or.inl q, fun _ => rfl, fun q => Or.inl q⟩
  · exact pst_refl L c hc hs
theorem pst_beg {k a pu : Int} {x : Nat} {L L' : LaS} (hst : L.1 x = -1) (h1 : L'.1 = fup L.1 x k) (h2 : L'.2.1 = L.2.1) (h3 : L'.2.2.1 = fup L.2.2.1 x pu) : pstL n S k L L' := by
  intro c hc hs
  rw [h1, h2, h3]
  by_cases e : c = x
  · subst e
    rw [fup_same, fup_same]
    exact ⟨fun q => absurd hst q, fun _ => Or.inr (Int.le_refl k), fun _ => rfl, fun q => Or.inl q⟩
  · rw [fup_ne e, fup_ne e]
    exact ⟨fun _ => ⟨rfl, rfl⟩, fun q => Or.inl q, fun _ => rfl, fun q => Or.inl q⟩
theorem pst_dr2 {k : Int} {L : LaS} : pstL n S k L (dr2 ft ak n l S k L) := by
  unfold dr2
  rcases nxt_lt (ft := ft) (l := l) (S := S) (m := k) (st := L.1) n with h1 | ⟨c, h1, h2, h3⟩
  · rw [if_pos h1]; exact pst_refl L
  · rw [h2, Int.toNat_natCast, if_neg (show ¬ (c : Int) = -1 by omega)]
    split
    · exact pst_refl L
    · exact pst_beg (a := 0) (pu := 0) (cand_S h3).2.1 rfl rfl rfl
theorem pst_dr1 {k : Int} {L : LaS} (hk : 0 ≤ k) : pstL n S k L (dr1 ft ak eg n l S k L) := by
  unfold dr1
  split
  · exact pst_refl L
  · rcases nxt_lt (ft := ft) (l := l) (S := S) (m := k) (st := L.1) n with h1 | ⟨c, h1, h2, h3⟩
    · rw [if_pos h1]; exact pst_refl L
    · rw [h2, Int.toNat_natCast, if_neg (show ¬ (c : Int) = -1 by omega)]
      have hst := (cand_S h3).2.1
      split
      · split
        · exact pst_beg (a := 0) (pu := 2) hst rfl rfl rfl
        · exact pst_refl L
      · split
        · exact pst_tr hk (Int.le_refl k) (pst_beg (a := 0) (pu := 1) (L' := atF ft ak l k c L) hst rfl rfl rfl) pst_dr2
        · exact pst_beg (a := 0) (pu := 0) hst rfl rfl rfl
theorem pst_min {k : Nat} {L : LaS} (h : hist n S ft (k : Int) L) : pstL n S (k : Int) L (minI ft ak eg n l S (k : Int) L) := by
  have hk : (0 : Int) ≤ (k : Int) := Int.natCast_nonneg k
  have h1 := hist_mono h (show (k : Int) ≤ (k : Int) + 1 by omega)
  have h2 := hist_lvF hk h1
  exact pst_tr hk (Int.le_refl _) (pst_lvF hk h1) (pst_tr hk (Int.le_refl _) (pst_lvB hk h2) (pst_dr1 hk))
theorem pst_run {L0 : LaS} (h0 : hist n S ft 0 L0) : ∀ (j k : Nat), pstL n S (k : Int) (runI ft ak eg n l S L0 k) (runI ft ak eg n l S L0 (k + j))
  | 0, k => pst_refl _
  | j + 1, k => by
    have h1 : pstL n S (k : Int) (runI ft ak eg n l S L0 k) (runI ft ak eg n l S L0 (k + j)) := pst_run h0 j k
    have h2 := pst_min (ak := ak) (eg := eg) (l := l) (hist_run (ak := ak) (eg := eg) (l := l) h0 (k + j))
    exact pst_tr (Int.natCast_nonneg k) (by omega) h1 h2
/-- at a pump at the end of minute m: read off the ends -/
theorem pump_iff {L0 : LaS} (h0 : hist n S ft 0 L0) {m c : Nat} (hm : m < 200) (hc : c < n) (hs : S c = true) {F : LaS} (hF : runI ft ak eg n l S L0 200 = F) {M : LaS} (hM : runI ft ak eg n l S L0 (m + 1) = M) : ((M.2.2.2.2.2 = (c : Int) ↔ ((F.2.2.1 c = 0 ∨ F.2.2.1 c = 2) ∧ F.1 c ≤ (m : Int) ∧ (F.2.1 c = -1 ∨ (m : Int) < F.2.1 c)))) ∧ ((M.2.2.2.2.1 = (c : Int) ↔ ((F.2.2.1 c = 1 ∨ F.2.2.1 c = 2) ∧ F.1 c ≤ (m : Int) ∧ (F.2.1 c = -1 ∨ (m : Int) < F.2.1 c)))) := by
  have hk := (hist_run (ak := ak) (eg := eg) (l := l) h0 (m + 1)).1 c hc hs
  have hf := (hist_run (ak := ak) (eg := eg) (l := l) h0 200).1 c hc hs
  have hp := pst_run (ak := ak) (eg := eg) (l := l) h0 (200 - (m + 1)) (m + 1) c hc hs
  rw [show m + 1 + (200 - (m + 1)) = 200 by omega] at hp
  rw [hF] at hf hp
  rw [hM] at hk hp
  clear hF hM
  obtain ⟨p1, p2, p3, p4⟩ := hp
  unfold hcar at hk hf
  generalize F.1 c = a1 at *
  generalize F.2.1 c = a2 at *
  generalize F.2.2.1 c = a3 at *
  generalize M.1 c = b1 at *
  generalize M.2.1 c = b2 at *
  generalize M.2.2.1 c = b3 at *
  generalize M.2.2.2.2.1 = fr at *
  generalize M.2.2.2.2.2 = ba at *
  rcases hk with q | q | q
  · have e := p2 q.1
    constructor
    · constructor
      · intro h; omega
      · intro h; omega
    · constructor
      · intro h; omega
      · intro h; omega
  · have e := p1 (by omega)
    have e4 := p4 q.2.2.2.1
    constructor
    · constructor
      · intro h; omega
      · intro h; omega
    · constructor
      · intro h; omega
      · intro h; omega
  · have e := p1 (by omega)
    have e3 := p3 (by omega)
    constructor
    · constructor
      · intro h; omega
      · intro h; omega
    · constructor
      · intro h; omega
      · intro h; omega
end PS
section PP
variable {ft : Ft} {n : Nat} {v : Sem × Sem × Sem} {s : Sg} {d : Nat}
theorem whoC {x1 x2 x3 T : Int} (hC : YC ft n v false s) (hT : T = -1 ∨ ∃ c : Nat, c < n ∧ T = (c : Int)) (hW : ∀ c : Nat, c < n → (T = (c : Int) ↔ (ft 2 c = x1 ∧ (s 18 0 c = x3 ∨ s 18 0 c = 2) ∧ s 15 0 c ≤ x2 ∧ (s 17 0 c = -1 ∨ x2 < s 17 0 c)))) : ∀ (j c : Nat) (z5 z6 : PV), c + j = n → (∀ c' : Nat, c' < c → T ≠ (c' : Int)) → EV (d + 1) mX7_whoIsAt (3, [vr 13 0, vi x1, vi x2, vi x3, vi (c : Int), z5, z6], [], s) = some (some (vi T), s) := by
  have h6 := hC.2.1.1
  intro j
  induction j with
  | zero =>
    intro c z5 z6 h hno
    have hc : c = n := by omega
    subst hc
    rw [qX7_whoIsAt_3, YC_size hC, bI_s, if_neg (by omega)]
    rcases hT with q | ⟨c0, q1, q2⟩
    · rw [q]
    · exact absurd q2 (hno c0 q1)
  | succ j ih =>
    intro c z5 z6 h hno
    have hcn : c < n := by omega
    have hw := hW c hcn
    have next : ∀ z5 z6 : PV, T ≠ (c : Int) → EV (d + 1) mX7_whoIsAt (111, [vr 13 0, vi x1, vi x2, vi x3, vi (c : Int), z5, z6], [], s) = some (some (vi T), s) := by
      intro z5 z6 q
      rw [qX7_whoIsAt_111, w32_id (by omega) (by omega), show (c : Int) + 1 = ((c + 1 : Nat) : Int) by omega]
      refine ih (c + 1) z5 z6 (by omega) (fun c' hc' => ?_)
      by_cases e : c' = c
      · rw [e]; exact q
      · exact hno c' (by omega)
    have at82 : ∀ y5 y6 : Int, ∀ z6 : PV, (y5 = if s 18 0 c = x3 ∨ s 18 0 c = 2 then 1 else 0) → (y6 = if s 15 0 c ≤ x2 ∧ (s 17 0 c = -1 ∨ x2 < s 17 0 c) then 1 else 0) → EV (d + 1) mX7_whoIsAt (82, [vr 13 0, vi x1, vi x2, vi x3, vi (c : Int), vi y5, z6], [vi y6], s) = some (some (vi T), s) := by
      intro y5 y6 z6 h5 h6'
      rw [qX7_whoIsAt_82]
      by_cases g1 : s 18 0 c = x3 ∨ s 18 0 c = 2
      · rw [if_pos g1] at h5
        rw [if_neg (by omega)]
        by_cases g2 : s 15 0 c ≤ x2 ∧ (s 17 0 c = -1 ∨ x2 < s 17 0 c)
        · rw [if_pos g2] at h6'
          rw [if_neg (by omega), show RUN d mX1_tell [vr 1 0, vi 2, vi (c : Int)] s = _ from YC_tell (f := 2) hC hcn (by omega), bI_s]
          by_cases g3 : ft 2 c = x1
          · rw [if_pos g3, hw.mpr ⟨g3, g1, g2.1, g2.2⟩]
          · rw [if_neg g3]
            exact next _ _ (fun z => g3 (hw.mp z).1)
        · rw [if_neg g2] at h6'
          rw [if_pos h6']
          exact next _ _ (fun z => g2 ⟨(hw.mp z).2.2.1, (hw.mp z).2.2.2⟩)
      · rw [if_neg g1] at h5
        rw [if_pos h5]
        exact next _ _ (fun z => g1 (hw.mp z).2.1)
    have at42 : ∀ y5 : Int, ∀ z5 z6 : PV, (y5 = if s 18 0 c = x3 ∨ s 18 0 c = 2 then 1 else 0) → EV (d + 1) mX7_whoIsAt (42, [vr 13 0, vi x1, vi x2, vi x3, vi (c : Int), z5, z6], [vi y5], s) = some (some (vi T), s) := by
      intro y5 z5 z6 h5
      rw [qX7_whoIsAt_42, if_pos (inbN (by omega)), Int.toNat_natCast, if_pos (inbN (by omega))]
      by_cases g1 : x2 < s 15 0 c
      · rw [if_pos g1, qX7_whoIsAt_81]
        exact at82 _ _ _ h5 (by rw [if_neg (by omega)])
      rw [if_neg g1]
      by_cases g2 : s 17 0 c = -1
      · rw [if_pos g2, qX7_whoIsAt_77]
        exact at82 _ _ _ h5 (by rw [if_pos ⟨by omega, Or.inl g2⟩])
      rw [if_neg g2, if_pos (inbN (by omega))]
      by_cases g3 : x2 < s 17 0 c
      · rw [if_pos g3, qX7_whoIsAt_77]
        exact at82 _ _ _ h5 (by rw [if_pos ⟨by omega, Or.inr g3⟩])
      · rw [if_neg g3, qX7_whoIsAt_81]
        exact at82 _ _ _ h5 (by rw [if_neg (by omega)])
    rw [qX7_whoIsAt_3, YC_size hC, bI_s, if_pos (by omega), if_pos (inbN (by omega)), Int.toNat_natCast]
    by_cases g1 : s 18 0 c = x3
    · rw [if_pos g1, qX7_whoIsAt_37]
      exact at42 1 _ _ (by rw [if_pos (Or.inl g1)])
    rw [if_neg g1, if_pos (inbN (by omega))]
    by_cases g2 : s 18 0 c = 2
    · rw [if_pos g2, qX7_whoIsAt_37]
      exact at42 1 _ _ (by rw [if_pos (Or.inr g2)])
    · rw [if_neg g2]
      exact at42 0 _ _ (by rw [if_neg (by omega)])
def pF (L : LaS) : Int := L.2.2.2.2.1
def pB (L : LaS) : Int := L.2.2.2.2.2
def pumpI (ft : Ft) (v : Sem × Sem × Sem) (n l m : Nat) (w : Int) : Int := if w = 0 then pB (runI ft (akS v ft) false n l (bitS (setN (lnF ft) n l)) cn0 (m + 1)) else pF (runI ft (akS v ft) false n l (bitS (setN (lnF ft) n l)) cn0 (m + 1))
theorem p_pump (x y w : Int) : PAIR mX8_pump mX9_pump [vi x, vi y, vi w] := by
  refine pair_ro (fun ft n sm _ t => vi (if (0 ≤ x ∧ x < 4) ∧ (0 ≤ y ∧ y < 200) ∧ 0 ≤ w ∧ w ≤ 1 then pumpI ft (sm t) n x.toNat y.toNat w else -2)) (fun ft n sm tn t s h => ?_) (fun ft n sm tn t s h => ?_)
  · rw [qX8_pump]
    by_cases hx : 0 ≤ x ∧ x < 4
    · rw [if_neg (show ¬ x < 0 by omega), if_pos hx.2]
      by_cases hy : 0 ≤ y ∧ y < 200
      · rw [if_neg (show ¬ y < 0 by omega), if_pos hy.2]
        by_cases hw : 0 ≤ w ∧ w ≤ 1
        · have hC := inv_YC h
          obtain ⟨l, rfl⟩ : ∃ l : Nat, x = (l : Int) := ⟨x.toNat, by omega⟩
          obtain ⟨m, rfl⟩ : ∃ m : Nat, y = (m : Int) := ⟨y.toNat, by omega⟩
          obtain ⟨s1, s2, a1, a2, a3, a4, a5, a6, a7⟩ := nowC (d := 52) hC
          rw [if_neg (show ¬ w < 0 by omega), if_neg (show ¬ 1 < w by omega), a1, bV_s, a2, bI_s, qX7_whoIsAt, if_pos ⟨hx, hy, hw⟩, Int.toNat_natCast, Int.toNat_natCast]
          refine ⟨s2, ?_, frI_now a5 a6⟩
          obtain ⟨M, hM⟩ : ∃ M, runI ft (akS (sm t) ft) false n l (bitS (setN (lnF ft) n l)) cn0 (m + 1) = M := ⟨_, rfl⟩
          obtain ⟨F, hF⟩ : ∃ F, runI ft (akS (sm t) ft) false n l (bitS (setN (lnF ft) n l)) cn0 200 = F := ⟨_, rfl⟩
          have hFl : lanR ft (sm t) false n l (setN (lnF ft) n l) = F := by rw [← hF]; unfold lanR resI; rfl
          have hh := hist_run (ak := akS (sm t) ft) (eg := false) (l := (l : Int)) (cn_hist (n := n) (S := bitS (setN (lnF ft) n l)) (ft := ft)) (m + 1)
          rw [hM] at hh
          unfold pumpI
          rw [hM]
          have hres : ∀ c, c < n → lnF ft c = l → s2 15 0 c = F.1 c ∧ s2 17 0 c = F.2.1 c ∧ s2 18 0 c = F.2.2.1 c := fun c hc hl => by
            obtain ⟨o1, o2, o3, _⟩ := a7.2 c hc
            rw [o1, o2, o3, carL_eq, hl, hFl]
            exact ⟨rfl, rfl, rfl⟩
          have key : ∀ T : Int, inP n (bitS (setN (lnF ft) n l)) T → (∀ c, c < n → lnF ft c = l → (T = (c : Int) ↔ ((F.2.2.1 c = w ∨ F.2.2.1 c = 2) ∧ F.1 c ≤ (m : Int) ∧ (F.2.1 c = -1 ∨ (m : Int) < F.2.1 c)))) → EV 59 mX7_whoIsAt (3, [vr 13 0, vi (l : Int), vi (m : Int), vi w, vi 0, UU, UU], [], s2) = some (some (vi T), s2) := by
            intro T hT hW
            refine whoC (d := 58) a4 ?_ ?_ n 0 UU UU (by omega) (fun c' hc' => by omega)
            · rcases hT with q | ⟨c, q1, q2, q3⟩
              · exact Or.inl q
              · exact Or.inr ⟨c, q1, q3⟩
            · intro c hc
              have le := (lnF_4 (c := c) hC.2.1 hc).2
              by_cases hl : lnF ft c = l
              · obtain ⟨o1, o2, o3⟩ := hres c hc hl
                rw [hW c hc hl, o1, o2, o3]
                exact ⟨fun z => ⟨by omega, z⟩, fun z => z.2⟩
              · constructor
                · intro hTc
                  rcases hT with q | ⟨c', q1, q2, q3⟩
                  · omega
                  · have : c' = c := by omega
                    rw [this] at q2
                    exact absurd (setN_bit.mp q2).2 hl
                · intro z
                  omega
          by_cases w0 : w = 0
          · rw [if_pos w0, key (pB M) hh.2.2 (fun c hc hl => ?_), bI_s]
            rw [w0]
            exact (pump_iff cn_hist (by omega) hc (setN_bit.mpr ⟨hc, hl⟩) hF hM).1
          · have w1 : w = 1 := by omega
            rw [if_neg w0, key (pF M) hh.2.1 (fun c hc hl => ?_), bI_s]
            rw [w1]
            exact (pump_iff cn_hist (by omega) hc (setN_bit.mpr ⟨hc, hl⟩) hF hM).2
        · rw [if_neg (show ¬ ((0 ≤ x ∧ x < 4) ∧ (0 ≤ y ∧ y < 200) ∧ 0 ≤ w ∧ w ≤ 1) from fun z => hw z.2.2)]
          by_cases q : w < 0
          · rw [if_pos q]; exact ⟨s, rfl, frI_refl s⟩
          · rw [if_neg q, if_pos (by omega)]; exact ⟨s, rfl, frI_refl s⟩
      · rw [if_neg (show ¬ ((0 ≤ x ∧ x < 4) ∧ (0 ≤ y ∧ y < 200) ∧ 0 ≤ w ∧ w ≤ 1) from fun z => hy z.2.1)]
        by_cases q : y < 0
        · rw [if_pos q]; exact ⟨s, rfl, frI_refl s⟩
        · rw [if_neg q, if_neg (by omega)]; exact ⟨s, rfl, frI_refl s⟩
    · rw [if_neg (show ¬ ((0 ≤ x ∧ x < 4) ∧ (0 ≤ y ∧ y < 200) ∧ 0 ≤ w ∧ w ≤ 1) from fun z => hx z.1)]
      by_cases q : x < 0
      · rw [if_pos q]; exact ⟨s, rfl, frI_refl s⟩
      · rw [if_neg q, if_neg (by omega)]; exact ⟨s, rfl, frI_refl s⟩
  · rw [qX9_pump, in_ok, bI_s, b01]
    by_cases hx : 0 ≤ x ∧ x < 4
    · rw [if_pos (show 0 ≤ x ∧ x ≤ 3 by omega), in_ok, bI_s, b01]
      by_cases hy : 0 ≤ y ∧ y < 200
      · rw [if_pos (show 0 ≤ y ∧ y ≤ 199 by omega), in_ok, bI_s, b01]
        by_cases hw : 0 ≤ w ∧ w ≤ 1
        · obtain ⟨l, rfl⟩ : ∃ l : Nat, x = (l : Int) := ⟨x.toNat, by omega⟩
          obtain ⟨m, rfl⟩ : ∃ m : Nat, y = (m : Int) := ⟨y.toNat, by omega⟩
          obtain ⟨s2, a1, a2, a3⟩ := goesAllR (d := 12) (inv_YR h)
          have e1 : w32 (w32 (200 * (l : Int)) + (m : Int)) = ((200 * l + m : Nat) : Int) := by rw [w32_id (x := 200 * (l : Int)) (by omega) (by omega), w32_id (by omega) (by omega)]; omega
          obtain ⟨r1', r2'⟩ := a3.1 l (by omega) m (by omega)
          rw [if_pos hw, if_pos ⟨hx, hy, hw⟩, a1, bV_s, e1, if_pos (inbN (by omega)), if_pos (inbN (by omega)), Int.toNat_natCast, Int.toNat_natCast, Int.toNat_natCast]
          refine ⟨s2, ?_, frI_W a2⟩
          unfold pumpI
          obtain ⟨M, hM⟩ : ∃ M, runI ft (akS (sm t) ft) false n l (bitS (setN (lnF ft) n l)) cn0 (m + 1) = M := ⟨_, rfl⟩
          rw [hM] at r1' r2' ⊢
          by_cases w0 : w = 0
          · rw [if_pos w0, if_pos w0, r1']; rfl
          · rw [if_neg w0, if_neg w0, r2']; rfl
        · rw [if_neg hw, if_neg (show ¬ ((0 ≤ x ∧ x < 4) ∧ (0 ≤ y ∧ y < 200) ∧ 0 ≤ w ∧ w ≤ 1) from fun z => hw z.2.2)]
          exact ⟨s, rfl, frI_refl s⟩
      · rw [if_neg (show ¬ (0 ≤ y ∧ y ≤ 199) by omega), if_neg (show ¬ ((0 ≤ x ∧ x < 4) ∧ (0 ≤ y ∧ y < 200) ∧ 0 ≤ w ∧ w ≤ 1) from fun z => hy z.2.1)]
        exact ⟨s, rfl, frI_refl s⟩
    · rw [if_neg (show ¬ (0 ≤ x ∧ x ≤ 3) by omega), if_neg (show ¬ ((0 ≤ x ∧ x < 4) ∧ (0 ≤ y ∧ y < 200) ∧ 0 ≤ w ∧ w ≤ 1) from fun z => hx z.1)]
      exact ⟨s, rfl, frI_refl s⟩
end PP
