/-! LAW 14: when -/
def bestW (z : Int) (o : Nat → Int) : Nat → Int × Int
  | 0 => (-1, z)
  | k + 1 => if (bestW z o k).1 = -1 ∨ o k < (bestW z o k).2 then ((k : Int), o k) else bestW z o k
theorem bestW_1 (z : Int) (o : Nat → Int) : bestW z o (0 + 1) = (((0 : Nat) : Int), o 0) := if_pos (Or.inl rfl)
theorem bestW_z (z z' : Int) (o : Nat → Int) : ∀ k, bestW z o (k + 1) = bestW z' o (k + 1)
  | 0 => by rw [bestW_1, bestW_1]
  | k + 1 => by
    rw [bestW, bestW_z z z' o k]
    rfl
section PW
variable {ft : Ft} {n : Nat} {v : Sem × Sem × Sem} {c : Nat} {s0 : Sg} {d : Nat}
def waT (ft : Ft) (v : Sem × Sem × Sem) (n c : Nat) (x : Nat) : Int := waI (fset ft 3 c (x : Int)) (pj1 (carL (fset ft 3 c (x : Int)) v false n (lnF (fset ft 3 c (x : Int))) c)) c
theorem waT_eq (ft : Ft) (v : Sem × Sem × Sem) (n c x : Nat) : waI (fset ft 3 c (x : Int)) (pj1 (carL (fset ft 3 c (x : Int)) v false n (lnF (fset ft 3 c (x : Int))) c)) c = waT ft v n c x := rfl
theorem wa_pj {ft : Ft} {st : Nat → Int} {L : LaS} {c : Nat} (h : st c = L.1 c) : waI ft st c = waI ft (pj1 L) c := by
  unfold waI
  rw [h, ← pj1_eq]
theorem whenC {o : Nat → Int} (hO : ∀ x : Nat, waI (fset ft 3 c (x : Int)) (pj1 (carL (fset ft 3 c (x : Int)) v false n (lnF (fset ft 3 c (x : Int))) c)) c = o x) (hC : YC ft n v false s0) (hc : c < n) : ∀ (j x : Nat) (z4 : PV) (s : Sg), x + j = 100 → tryC 3 c s0 s → s 21 0 5 = (bestW (-1) o x).1 → s 21 0 6 = (bestW (-1) o x).2 → ∃ s', EV (d + 9) mX0_seekMinute (22, [vr 21 0, vi (c : Int), vi (ft 3 c), vi (x : Int), z4], [], s) = some (none, s') ∧ frI s0 s' ∧ s' 21 0 5 = (bestW (-1) o 100).1 ∧ s' 21 0 6 = (bestW (-1) o 100).2 := by
  have e3 : s0 3 3 c = ft 3 c := hC.1.2 c hc 3 (by omega)
  intro j
  induction j with
  | zero =>
    intro x z4 s hx ht h5 h6
    have hx : x = 100 := by omega
    subst hx
    obtain ⟨r, hr⟩ := tryC_put (d := d + 7) (x := ft 3 c) hC ht (by omega) hc
    rw [qX0_seekMinute_22, if_pos (by decide), show RUN (d + 8) mX1_put [vr 1 0, vi 3, vi (c : Int), vi (ft 3 c)] s = _ from hr, bI_s]
    refine ⟨_, rfl, ?_, by rw [up_c (by decide)]; exact h5, by rw [up_c (by decide)]; exact h6⟩
    rw [← e3]
    exact tryC_end ht
  | succ j ih =>
    intro x z4 s hx ht h5 h6
    obtain ⟨r, hr⟩ := tryC_put (d := d + 7) (x := (x : Int)) hC ht (by omega) hc
    obtain ⟨s2, s3, a1, a2, a3, a4, a5, a6, _⟩ := tryC_go (d := d + 1) (x := (x : Int)) hC ht ⟨by omega, by show (x : Int) ≤ 99; omega⟩
    have hst := (a4.2 c hc).1
    obtain ⟨w1, w2, w3, w4⟩ := carL_w (v := v) (eg := false) (ln := lnF (fset ft 3 c (x : Int))) a3.2.1 hc
    have ho : waI (fset ft 3 c (x : Int)) (s3 15 0) c = o x := by rw [wa_pj hst, hO]
    rw [qX0_seekMinute_22, if_neg (by omega), show RUN (d + 8) mX1_put [vr 1 0, vi 3, vi (c : Int), vi (x : Int)] s = _ from hr, bI_s, a1, bV_s, a2, bI_s, waitedC a3 hc (by rw [hst]; exact ⟨w1, w2⟩), bI_s, ho, a6, h5, h6]
    have ihB := ih (x + 1)
    rw [bestW] at ihB
    have up5 : ∃ s', EV (d + 9) mX0_seekMinute (84, [vr 21 0, vi (c : Int), vi (ft 3 c), vi (x : Int), vi (o x)], [], s3) = EV (d + 9) mX0_seekMinute (22, [vr 21 0, vi (c : Int), vi (ft 3 c), vi ((x + 1 : Nat) : Int), vi (o x)], [], s') ∧ tryC 3 c s0 s' ∧ s' 21 0 5 = (x : Int) ∧ s' 21 0 6 = o x := by
      refine ⟨_, ?_, tryC_21 (tryC_21 a5), by rw [up_i (by decide), up_hit], up_hit _ _ _ _ _⟩
      rw [qX0_seekMinute_84, qX0_seekMinute_95, w32_id (by omega) (by omega), show (x : Int) + 1 = ((x + 1 : Nat) : Int) by omega]
    obtain ⟨s4, b1, b2, b3, b4⟩ := up5
    by_cases q2 : (bestW (-1) o x).1 = -1
    · rw [if_pos (Or.inl q2)] at ihB
      rw [if_pos q2, b1]
      exact ihB _ s4 (by omega) b2 b3 b4
    · rw [if_neg q2]
      by_cases q3 : o x < (bestW (-1) o x).2
      · rw [if_pos (Or.inr q3)] at ihB
        rw [if_pos q3, b1]
        exact ihB _ s4 (by omega) b2 b3 b4
      · rw [if_neg (fun z => z.elim q2 q3)] at ihB
        rw [if_neg q3, qX0_seekMinute_95, w32_id (by omega) (by omega), show (x : Int) + 1 = ((x + 1 : Nat) : Int) by omega]
        exact ihB _ s3 (by omega) a5 (by rw [a6]; exact h5) (by rw [a6]; exact h6)
theorem whenR {o : Nat → Int} {x2 : Int} (hO : ∀ x : Nat, waI (fset ft 3 c (x : Int)) (pj1 (carL (fset ft 3 c (x : Int)) v false n (lnF (fset ft 3 c (x : Int))) c)) c = o x) (hR : YR ft n v false s0) (hc : c < n) : ∀ (j x : Nat) (s : Sg), x + j = 100 → tryR 3 c s0 s → ∃ s', EV (d + 48) mX9_when (53, [vr 32 0, vi (c : Int), vi x2, vi (ft 3 c), vi (ft 2 c), vi (bestW 0 o x).1, vi (bestW 0 o x).2, vi (x : Int)], [], s) = some (some (vi (if x2 = 0 then (bestW 0 o 100).1 else (bestW 0 o 100).2)), s') ∧ frI s0 s' := by
  have h6 := hR.2.1.1
  have hc6 : c < 6 := by omega
  have e37 : s0 37 0 (5 * c + 3) = ft 3 c := YR_row hR hc (by omega)
  obtain ⟨l4, le⟩ := lnF_4 (c := c) hR.2.1 hc
  intro j
  induction j with
  | zero =>
    intro x s hx ht
    have hx : x = 100 := by omega
    subst hx
    refine ⟨up s 37 0 (5 * c + 3) (ft 3 c), ?_, by rw [← e37]; exact tryR_end ht⟩
    rw [qX9_when_53, if_neg (by decide), r3 hc6, if_pos (inbN (by omega)), Int.toNat_natCast]
    by_cases q : x2 = 0
    · rw [if_pos q, if_pos q]
    · rw [if_neg q, if_neg q]
  | succ j ih =>
    intro x s hx ht
    have hy := tryR_YR (x := (x : Int)) hR ht (by omega) ⟨by omega, by show (x : Int) ≤ 99; omega⟩
    have hl : lnF (fset ft 3 c (x : Int)) c = lnF ft c := by
      unfold lnF fset
      rw [if_neg (fun z => absurd z.1 (by decide))]
    obtain ⟨s1, a1, a2, a3, a4, a5⟩ := goesR (d := d + 1) (l := lnF ft c) (set := setN (lnF (fset ft 3 c (x : Int))) n (lnF ft c)) (setN_64 h6) l4 hy
    have hst : s1 38 0 c = (carL (fset ft 3 c (x : Int)) v false n (lnF (fset ft 3 c (x : Int))) c).1 c := by
      have := (a3 c hc (setN_bit.mpr ⟨hc, hl⟩)).1
      rw [this, carL_eq, hl]
    obtain ⟨w1, w2, w3, w4⟩ := carL_w (v := v) (eg := false) (ln := lnF (fset ft 3 c (x : Int))) hy.2.1 hc
    have ho : waI (fset ft 3 c (x : Int)) (s1 38 0) c = o x := by rw [wa_pj hst, hO]
    have ht1 := tryR_W ht (frW_G a2)
    have hy1 := YR_fr hy (frZ_G a2)
    have hw : ∀ e : Nat, RUN e mX9_waitedOf [vr 32 0, vi (c : Int)] s1 = some (some (vi (o x)), s1) := fun e => by rw [waitR hy1 hc (by rw [hst]; exact ⟨w1, w2⟩), ho]
    have sO := setOfR (d := d + 47) (l := lnF ft c) hy
    rw [le] at sO a1
    rw [qX9_when_53, if_pos (by omega), r3 hc6, if_pos (inbN (by omega)), Int.toNat_natCast, sO, bI_s, a1, bV_s]
    have ihB := fun s1 => ih (x + 1) s1 (by omega)
    rw [bestW] at ihB
    have up5 : EV (d + 48) mX9_when (100, [vr 32 0, vi (c : Int), vi x2, vi (ft 3 c), vi (ft 2 c), vi (bestW 0 o x).1, vi (bestW 0 o x).2, vi (x : Int)], [], s1) = EV (d + 48) mX9_when (53, [vr 32 0, vi (c : Int), vi x2, vi (ft 3 c), vi (ft 2 c), vi (x : Int), vi (o x), vi ((x + 1 : Nat) : Int)], [], s1) := by
      rw [qX9_when_100, hw, bI_s, qX9_when_111, w32_id (by omega) (by omega), show (x : Int) + 1 = ((x + 1 : Nat) : Int) by omega]
    by_cases q2 : (bestW 0 o x).1 = -1
    · rw [if_pos (Or.inl q2)] at ihB
      rw [if_pos q2, up5]
      exact ihB s1 ht1
    · rw [if_neg q2, hw, bI_s]
      by_cases q3 : o x < (bestW 0 o x).2
      · rw [if_pos (Or.inr q3)] at ihB
        rw [if_pos q3, up5]
        exact ihB s1 ht1
      · rw [if_neg (fun z => z.elim q2 q3)] at ihB
        rw [if_neg q3, qX9_when_111, w32_id (by omega) (by omega), show (x : Int) + 1 = ((x + 1 : Nat) : Int) by omega]
        exact ihB s1 ht1
theorem p_when (x y : Int) : PAIR mX8_when mX9_when [vi x, vi y] := by
  refine pair_ro (fun ft n sm _ t => vi (if (0 ≤ x ∧ x < (n : Int)) ∧ 0 ≤ y ∧ y ≤ 1 then (if y = 0 then (bestW (-1) (waT ft (sm t) n x.toNat) 100).1 else (bestW (-1) (waT ft (sm t) n x.toNat) 100).2) else -2)) (fun ft n sm tn t s h => ?_) (fun ft n sm tn t s h => ?_)
  · have hC := inv_YC h
    rw [qX8_when, YC_has hC, bI_s, b01]
    by_cases hx : 0 ≤ x ∧ x < (n : Int)
    · rw [if_pos hx]
      by_cases hy : 0 ≤ y ∧ y ≤ 1
      · obtain ⟨c, rfl⟩ : ∃ c : Nat, x = (c : Int) := ⟨x.toNat, by omega⟩
        have hcn : c < n := by omega
        obtain ⟨s1, hs1, g1, g2, g3⟩ : ∃ s1, up (up s 21 0 5 (-1)) 21 0 6 (-1) = s1 ∧ tryC 3 c s s1 ∧ s1 21 0 5 = -1 ∧ s1 21 0 6 = -1 := ⟨_, rfl, tryC_21 (tryC_21 (tryC_refl s)), by rw [up_i (by decide), up_hit], up_hit _ _ _ _ _⟩
        obtain ⟨s2, a1, a2, a3, a4⟩ := whenC (d := 50) (o := waT ft (sm t) n c) (fun l => waT_eq ft (sm t) n c l) hC hcn 100 0 UU s1 (by omega) g1 g2 g3
        have hC1 : YC ft n (sm t) false s1 := by
          rw [← hs1]
          exact YC_fr hC ⟨fun q hq => by rw [up_c (by omega), up_c (by omega)], by rw [up_c (by decide), up_c (by decide)]⟩
        rw [if_pos (show (0 ≤ (c : Int) ∧ (c : Int) < (n : Int)) ∧ 0 ≤ y ∧ y ≤ 1 from ⟨hx, hy⟩), if_neg (show ¬ y < 0 by omega), if_neg (show ¬ 1 < y by omega), Int.toNat_natCast, qX0_seekMinute, hs1, show RUN 58 mX1_tell [vr 1 0, vi 3, vi (c : Int)] s1 = _ from YC_tell (f := 3) hC1 hcn (by omega), bI_s, show EV 59 mX0_seekMinute (22, [vr 21 0, vi (c : Int), vi (ft 3 c), vi 0, UU], [], s1) = _ from a1, bV_s, qX0_answer, a3, a4]
        refine ⟨s2, ?_, a2⟩
        by_cases q : y = 0
        · rw [if_pos q, if_pos q, bI_s]
        · rw [if_neg q, if_neg q, bI_s]
      · rw [if_neg (show ¬ ((0 ≤ x ∧ x < (n : Int)) ∧ 0 ≤ y ∧ y ≤ 1) from fun z => hy z.2)]
        by_cases q : y < 0
        · rw [if_pos q]; exact ⟨s, rfl, frI_refl s⟩
        · rw [if_neg q, if_pos (by omega)]; exact ⟨s, rfl, frI_refl s⟩
    · rw [if_neg hx, if_neg (show ¬ ((0 ≤ x ∧ x < (n : Int)) ∧ 0 ≤ y ∧ y ≤ 1) from fun z => hx z.1)]
      exact ⟨s, rfl, frI_refl s⟩
  · have hR := inv_YR h
    have h6 := h.1.2.2.1
    rw [qX9_when, carR hR, bI_s, b01]
    by_cases hx : 0 ≤ x ∧ x < (n : Int)
    · rw [if_pos hx, in_ok, bI_s, b01]
      by_cases hy : 0 ≤ y ∧ y ≤ 1
      · obtain ⟨c, rfl⟩ : ∃ c : Nat, x = (c : Int) := ⟨x.toNat, by omega⟩
        have hcn : c < n := by omega
        have hc6 : c < 6 := by omega
        obtain ⟨s2, a1, a2⟩ := whenR (d := 12) (x2 := y) (o := waT ft (sm t) n c) (fun l => waT_eq ft (sm t) n c l) hR hcn 100 0 s (by omega) (tryR_refl s)
        rw [bestW_z 0 (-1) _ 99] at a1
        rw [if_pos hy, if_pos (show (0 ≤ (c : Int) ∧ (c : Int) < (n : Int)) ∧ 0 ≤ y ∧ y ≤ 1 from ⟨hx, hy⟩), r3 hc6, r2 hc6, if_pos (inbN (by omega)), if_pos (inbN (by omega)), Int.toNat_natCast, Int.toNat_natCast, Int.toNat_natCast, YR_row hR hcn (by omega), YR_row hR hcn (by omega)]
        exact ⟨s2, a1, a2⟩
      · rw [if_neg hy, if_neg (show ¬ ((0 ≤ x ∧ x < (n : Int)) ∧ 0 ≤ y ∧ y ≤ 1) from fun z => hy z.2)]
        exact ⟨s, rfl, frI_refl s⟩
    · rw [if_neg hx, if_neg (show ¬ ((0 ≤ x ∧ x < (n : Int)) ∧ 0 ≤ y ∧ y ≤ 1) from fun z => hx z.1)]
      exact ⟨s, rfl, frI_refl s⟩
end PW
