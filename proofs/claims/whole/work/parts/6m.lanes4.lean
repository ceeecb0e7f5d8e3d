/-! LAW 23: lanes side by side -/
section PLs
variable {ft : Ft} {n : Nat} {v : Sem × Sem × Sem} {T : Nat → Nat → Int} {B : Nat → Int} {s : Sg} {d : Nat}
def laT (ft : Ft) (v : Sem × Sem × Sem) (n : Nat) (l set : Nat) : Int := lanB ft v false n ((l : Nat) : Int) set
def laB (ft : Ft) (v : Sem × Sem × Sem) (n : Nat) (w : Nat) : Int := wayB (laT ft v n) n w
def laA (n : Nat) (B : Nat → Int) (x : Int) : Int := if x = 0 then dgs (lwp n (mnF B (4 ^ n)).1.toNat) n else (mnF B (4 ^ n)).2
theorem wayB_rg (hTr : ∀ l set, 0 ≤ T l set ∧ T l set ≤ 10800) (w : Nat) : 0 ≤ wayB T n w := by
  have h : ∀ k, 0 ≤ sumN (fun l => T l (setN (lwp n w) n l)) k := by
    intro k
    induction k with
    | zero => exact Int.le_refl 0
    | succ k ih =>
      have := hTr k (setN (lwp n w) n k)
      rw [sumN]
      omega
  exact h 4
theorem laA_0 (hT : ∀ l set, lanB ft v false 0 ((l : Nat) : Int) set = T l set) (hB : ∀ w, wayB T 0 w = B w) (x : Int) : laA 0 B x = 0 := by
  have h0 : ∀ l set, T l set = 0 := fun l set => by rw [← hT, lanB_eq]; rfl
  have hb : B 0 = 0 := by
    rw [← hB]
    unfold wayB
    rw [show (fun l => T l (setN (lwp 0 0) 0 l)) = fun _ => 0 from funext (fun l => h0 _ _), sumN_zero]
  have e1 : mnF B (4 ^ 0) = (((0 : Nat) : Int), B 0) := if_pos (Or.inl rfl)
  unfold laA
  rw [e1]
  by_cases q : x = 0
  · rw [if_pos q]; rfl
  · rw [if_neg q]; exact hb
theorem lanesR {x : Int} (hT : ∀ l set, lanB ft v false n ((l : Nat) : Int) set = T l set) (hB : ∀ w, wayB T n w = B w) (hR : YR ft n v false s) (hx : 0 ≤ x ∧ x ≤ 1) : ∃ s', RUN (d + 48) mX9_lanes [vr 32 0, vi x] s = some (some (vi (laA n B x)), s') ∧ frI s s' := by
  have h6 := hR.2.1.1
  rw [qX9_lanes, in_ok, bI_s, b01, if_pos hx, hR.1.1]
  by_cases q0 : n = 0
  · subst q0
    rw [if_pos (show ((0 : Nat) : Int) = 0 from rfl), laA_0 hT hB]
    exact ⟨s, rfl, frI_refl s⟩
  rw [if_neg (by omega)]
  have hTr : ∀ l set, 0 ≤ T l set ∧ T l set ≤ 10800 := fun l set => by rw [← hT]; exact lanB_rg hR.2.1
  obtain ⟨z3, z4, z5, s1, a1, a2, a3, a4, a5⟩ := lnR3 (d := d) (x1 := x) (s0 := s) hT 4 0 UU UU UU s (by omega) hR (frI_refl s) (fun l hl => by omega) (fun l hl => by omega)
  rw [show EV (d + 48) mX9_lanes (24, [vr 32 0, vi x, vi 0, UU, UU, UU], [], s) = _ from a1, qX9_lanes_24, if_neg (by decide)]
  obtain ⟨s2, hs2, g1, g2, g3⟩ : ∃ s2, up (up s1 32 0 34 0) 32 0 35 0 = s2 ∧ frS s1 s2 ∧ s2 32 0 34 = 0 ∧ s2 32 0 35 = 0 := ⟨_, rfl, ⟨fun q a b => by rw [up_c a, up_c a], fun i a b => by rw [up_i b, up_i a]⟩, by rw [up_i (by decide), up_hit], up_hit _ _ _ _ _⟩
  obtain ⟨D, hD⟩ : ∃ D : Nat → Int, ∀ w, dgs (lwp n w) n = D w := ⟨_, fun _ => rfl⟩
  have hD1 : ∀ w, 1 ≤ D w := fun w => by
    obtain ⟨m, rfl⟩ : ∃ m, n = m + 1 := ⟨n - 1, by omega⟩
    have := dgs_rg (lwp_4 (m + 1) w) m
    rw [← hD, dgs]
    omega
  have hB0 : ∀ w, 0 ≤ B w := fun w => by rw [← hB]; exact wayB_rg hTr w
  obtain ⟨s3, b1, b2, b3⟩ := skR (d := d + 47 - n) (D := D) hTr hB hD h6 n 0 0 s2 (by omega) ⟨by rw [g1.2 9 (by decide) (by decide)]; exact a2.1.1, fun l hl => by rw [← hs2, up_c (by decide), up_c (by decide)]; exact a5 l hl, fun l h1 set h2 => by rw [g1.1 44 (by decide) (by decide)]; exact a4 l h1 set h2, by rw [Nat.zero_mul]; exact g2, by rw [Nat.zero_mul]; exact g3⟩
  rw [show d + 47 - n + n = d + 47 by omega] at b1
  rw [Nat.zero_add, Nat.one_mul] at b3
  obtain ⟨k, hk⟩ : ∃ k, 4 ^ n = k + 1 := ⟨4 ^ n - 1, by have : 0 < 4 ^ n := Nat.pow_pos (by decide); omega⟩
  have hm := (mr_mn hB0 hD1 k).2
  rw [← hk] at hm
  obtain ⟨_, _, _, c4, c5⟩ := b3
  rw [hm] at c4 c5
  rw [hs2, show RUN (d + 47) mX9_seeks [vr 32 0, vi 0, vi 0] s2 = _ from b1, bV_s]
  unfold laA
  refine ⟨s3, ?_, frI_tr a3 (frI_S (frS_tr g1 b2))⟩
  by_cases q : x = 0
  · rw [if_pos q, if_pos q, c4, hD]
  · rw [if_neg q, if_neg q, c5]
theorem p_lanes (x : Int) : PAIR mX8_lanes mX9_lanes [vi x] := by
  refine pair_ro (fun ft n sm _ t => vi (if 0 ≤ x ∧ x ≤ 1 then laA n (laB ft (sm t) n) x else -2)) (fun ft n sm tn t s h => ?_) (fun ft n sm tn t s h => ?_)
  · have hC := inv_YC h
    obtain ⟨B, hB⟩ : ∃ B, laB ft (sm t) n = B := ⟨_, rfl⟩
    obtain ⟨T, hT⟩ : ∃ T, laT ft (sm t) n = T := ⟨_, rfl⟩
    rw [hB, qX8_lanes]
    by_cases hx : 0 ≤ x ∧ x ≤ 1
    · obtain ⟨s', a1, a2, a3, a4⟩ := lanesC (d := 51) (T := T) (B := B) (fun l set => by rw [← hT]; rfl) (fun w => by rw [← hB, ← hT]; rfl) hC
      rw [if_pos hx, if_neg (by omega), if_neg (by omega), a1, bV_s, qX0_answer, a3, a4]
      unfold laA
      refine ⟨s', ?_, a2⟩
      by_cases q : x = 0
      · rw [if_pos q, if_pos q, bI_s]
      · rw [if_neg q, if_neg q, bI_s]
    · rw [if_neg hx]
      by_cases q : x < 0
      · rw [if_pos q]; exact ⟨s, rfl, frI_refl s⟩
      · rw [if_neg q, if_pos (by omega)]; exact ⟨s, rfl, frI_refl s⟩
  · have hR := inv_YR h
    obtain ⟨B, hB⟩ : ∃ B, laB ft (sm t) n = B := ⟨_, rfl⟩
    obtain ⟨T, hT⟩ : ∃ T, laT ft (sm t) n = T := ⟨_, rfl⟩
    rw [hB]
    by_cases hx : 0 ≤ x ∧ x ≤ 1
    · obtain ⟨s', a1, a2⟩ := lanesR (d := 12) (T := T) (B := B) (fun l set => by rw [← hT]; rfl) (fun w => by rw [← hB, ← hT]; rfl) hR hx
      rw [if_pos hx]
      exact ⟨s', a1, a2⟩
    · rw [if_neg hx, qX9_lanes, in_ok, bI_s, b01, if_neg hx]
      exact ⟨s, rfl, frI_refl s⟩
end PLs
