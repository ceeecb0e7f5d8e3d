/-! LAW 11: copy, film -/
section PA
variable {ft : Ft} {n : Nat} {sm : Nat → Sem × Sem × Sem} {tn t : Nat} {s s' : Sg} {d : Nat}
/-- the reference's copying: upwards -/
theorem cpA {x1 x2 x3 x4 : Int} {A B N : Nat} (hA : w32 (w32 (40 * x1) + x2) = (A : Int)) (hB : w32 (w32 (40 * x3) + x4) = (B : Int)) (hAN : A + N ≤ 160) (hBN : B + N ≤ 160) (hd : B ≤ A ∨ A + N ≤ B) : ∀ (j k : Nat) (z8 : PV) (s0 s : Sg), k + j = N → (∀ c, c ≠ 51 → s c = s0 c) → (∀ q, q < k → s 51 0 (B + q) = s0 51 0 (A + q)) → (∀ i, ¬ (B ≤ i ∧ i < B + k) → s 51 0 i = s0 51 0 i) → ∃ s', EV d mX9_copy (121, [vr 32 0, vi x1, vi x2, vi x3, vi x4, vi (N : Int), vi 0, vi (k : Int), z8], [], s) = some (some (vi (N : Int)), s') ∧ (∀ c, c ≠ 51 → s' c = s0 c) ∧ (∀ q, q < N → s' 51 0 (B + q) = s0 51 0 (A + q)) ∧ (∀ i, ¬ (B ≤ i ∧ i < B + N) → s' 51 0 i = s0 51 0 i) := by
  intro j
  induction j with
  | zero =>
    intro k z8 s0 s hk f1 f2 f3
    have hk : k = N := by omega
    subst hk
    rw [qX9_copy_121, if_neg (by omega)]
    exact ⟨s, rfl, f1, f2, f3⟩
  | succ j ih =>
    intro k z8 s0 s hk f1 f2 f3
    have eA : w32 ((A : Int) + (k : Int)) = ((A + k : Nat) : Int) := by rw [w32_id (by omega) (by omega)]; omega
    have eB : w32 ((B : Int) + (k : Int)) = ((B + k : Nat) : Int) := by rw [w32_id (by omega) (by omega)]; omega
    rw [qX9_copy_121, if_pos (by omega), if_pos i00, qX9_copy_145, hA, hB, eA, eB, if_pos (inbN (by omega)), if_pos (inbN (by omega)), Int.toNat_natCast, Int.toNat_natCast, w32_id (by omega) (by omega), show (k : Int) + 1 = ((k + 1 : Nat) : Int) by omega, f3 (A + k) (by omega)]
    refine ih (k + 1) _ s0 _ (by omega) (fun c hc => by rw [up_c hc]; exact f1 c hc) (fun q hq => ?_) (fun i hi => ?_)
    · by_cases e : q = k
      · rw [e, up_hit]
      · rw [up_i (by omega)]; exact f2 q (by omega)
    · rw [up_i (by omega)]; exact f3 i (by omega)
/-- downwards -/
theorem cpD {x1 x2 x3 x4 : Int} {A B N : Nat} (hA : w32 (w32 (40 * x1) + x2) = (A : Int)) (hB : w32 (w32 (40 * x3) + x4) = (B : Int)) (hAN : A + N ≤ 160) (hBN : B + N ≤ 160) (hd : A ≤ B) : ∀ (j k : Nat) (z8 : PV) (s0 s : Sg), k + j = N → (∀ c, c ≠ 51 → s c = s0 c) → (∀ q, N - k ≤ q → q < N → s 51 0 (B + q) = s0 51 0 (A + q)) → (∀ i, ¬ (B + (N - k) ≤ i ∧ i < B + N) → s 51 0 i = s0 51 0 i) → ∃ s', EV d mX9_copy (121, [vr 32 0, vi x1, vi x2, vi x3, vi x4, vi (N : Int), vi 1, vi (k : Int), z8], [], s) = some (some (vi (N : Int)), s') ∧ (∀ c, c ≠ 51 → s' c = s0 c) ∧ (∀ q, q < N → s' 51 0 (B + q) = s0 51 0 (A + q)) ∧ (∀ i, ¬ (B ≤ i ∧ i < B + N) → s' 51 0 i = s0 51 0 i) := by
  intro j
  induction j with
  | zero =>
    intro k z8 s0 s hk f1 f2 f3
    have hk : k = N := by omega
    subst hk
    rw [qX9_copy_121, if_neg (by omega)]
    exact ⟨s, rfl, f1, fun q hq => f2 q (by omega) hq, fun i hi => f3 i (by omega)⟩
  | succ j ih =>
    intro k z8 s0 s hk f1 f2 f3
    have eq : w32 (w32 ((N : Int) - 1) - (k : Int)) = ((N - 1 - k : Nat) : Int) := by rw [w32_id (x := (N : Int) - 1) (by omega) (by omega), w32_id (by omega) (by omega)]; omega
    have eA : w32 ((A : Int) + ((N - 1 - k : Nat) : Int)) = ((A + (N - 1 - k) : Nat) : Int) := by rw [w32_id (by omega) (by omega)]; omega
    have eB : w32 ((B : Int) + ((N - 1 - k : Nat) : Int)) = ((B + (N - 1 - k) : Nat) : Int) := by rw [w32_id (by omega) (by omega)]; omega
    rw [qX9_copy_121, if_pos (by omega), if_neg i10, eq, qX9_copy_145, hA, hB, eA, eB, if_pos (inbN (by omega)), if_pos (inbN (by omega)), Int.toNat_natCast, Int.toNat_natCast, w32_id (by omega) (by omega), show (k : Int) + 1 = ((k + 1 : Nat) : Int) by omega, f3 (A + (N - 1 - k)) (by omega)]
    refine ih (k + 1) _ s0 _ (by omega) (fun c hc => by rw [up_c hc]; exact f1 c hc) (fun q hq1 hq2 => ?_) (fun i hi => ?_)
    · by_cases e : q = N - 1 - k
      · rw [e, up_hit]
      · rw [up_i (by omega)]; exact f2 q (by omega) hq2
    · rw [up_i (by omega)]; exact f3 i (by omega)
theorem p_copy (x i y j m : Int) (hI : (-2147483648 ≤ i ∧ i < 2147483648) ∧ (-2147483648 ≤ j ∧ j < 2147483648) ∧ (-2147483648 ≤ m ∧ m < 2147483648)) : PAIR mX8_copy mX9_copy [vi x, vi i, vi y, vi j, vi m] := by
  intro s ⟨ft, n, sm, tn, t, h⟩
  have bad : ∀ r : Int, RUN 60 mX8_copy [vr 0 0, vi x, vi i, vi y, vi j, vi m] s = some (some (vi r), s) → RUN 60 mX9_copy [vr 32 0, vi x, vi i, vi y, vi j, vi m] s = some (some (vi r), s) → ∃ r s1 s2, RUN 60 mX8_copy [vr 0 0, vi x, vi i, vi y, vi j, vi m] s = some (some r, s1) ∧ RUN 60 mX9_copy [vr 32 0, vi x, vi i, vi y, vi j, vi m] s1 = some (some r, s2) ∧ INV s2 := fun r h1 h2 => ⟨vi r, s, s, h1, h2, ft, n, sm, tn, t, h⟩
  by_cases hx : 0 ≤ x ∧ x < 4
  · by_cases hy : 0 ≤ y ∧ y < 4
    · obtain ⟨a, rfl⟩ : ∃ a : Nat, x = (a : Int) := ⟨x.toNat, by omega⟩
      obtain ⟨b, rfl⟩ : ∃ b : Nat, y = (b : Int) := ⟨y.toNat, by omega⟩
      have ha : a < 4 := by omega
      have hb : b < 4 := by omega
      obtain ⟨q1, q2, q3, q4⟩ := h.2.2.2.2.1 a ha
      obtain ⟨u1, u2, u3, u4⟩ := h.2.2.2.2.1 b hb
      by_cases hma : s 30 a 1 = -1
      · refine bad (-11) ?_ ?_
        · rw [qX8_copy, isShC, bI_s, b01, if_pos hx, isShC, bI_s, b01, if_pos hy, if_pos (inbN ha), if_pos (inbN hb), Int.toNat_natCast, Int.toNat_natCast, missC, bI_s, b01, if_pos hma]
        · rw [qX9_copy, isShR, bI_s, b01, if_pos hx, isShR, bI_s, b01, if_pos hy, if_pos (inbN ha), Int.toNat_natCast, if_pos (q3 hma)]
      obtain ⟨p1, p2, p3, p4⟩ := q4 hma
      by_cases hmb : s 30 b 1 = -1
      · refine bad (-11) ?_ ?_
        · rw [qX8_copy, isShC, bI_s, b01, if_pos hx, isShC, bI_s, b01, if_pos hy, if_pos (inbN ha), if_pos (inbN hb), Int.toNat_natCast, Int.toNat_natCast, missC, bI_s, b01, if_neg hma, missC, bI_s, b01, if_pos hmb]
        · rw [qX9_copy, isShR, bI_s, b01, if_pos hx, isShR, bI_s, b01, if_pos hy, if_pos (inbN ha), Int.toNat_natCast, if_neg (by omega), if_pos (inbN hb), Int.toNat_natCast, if_pos (u3 hmb)]
      obtain ⟨v1, v2, v3, v4⟩ := u4 hmb
      have hc : ∀ R : Rs, (bI (RUN 59 mX8_isSheet [vi (a : Int)] s) (fun r1 s1 => R)) = R := fun R => by rw [isShC, bI_s]
      by_cases hso : s 30 a 1 = s 30 b 1
      · have hA9 : RUN 60 mX9_copy [vr 32 0, vi (a : Int), vi i, vi (b : Int), vi j, vi m] s = if m < 0 then some (some (vi (-12)), s) else if i < 0 then some (some (vi (-12)), s) else if j < 0 then some (some (vi (-12)), s) else if w32 (s 30 a 2 - m) < i then some (some (vi (-12)), s) else if w32 (s 30 b 2 - m) < j then some (some (vi (-12)), s) else if (a : Int) = (b : Int) then (if i < j then EV 60 mX9_copy (116, [vr 32 0, vi (a : Int), vi i, vi (b : Int), vi j, vi m, UU, UU, UU], [vi 1], s) else EV 60 mX9_copy (115, [vr 32 0, vi (a : Int), vi i, vi (b : Int), vi j, vi m, UU, UU, UU], [], s)) else EV 60 mX9_copy (115, [vr 32 0, vi (a : Int), vi i, vi (b : Int), vi j, vi m, UU, UU, UU], [], s) := by
          rw [qX9_copy, isShR, bI_s, b01, if_pos hx, isShR, bI_s, b01, if_pos hy, if_pos (inbN ha), Int.toNat_natCast, if_neg (show ¬ s 48 0 a = 0 by omega), if_pos (inbN hb), Int.toNat_natCast, if_neg (show ¬ s 48 0 b = 0 by omega), if_pos (inbN ha), if_pos (inbN hb), p2, v2, if_pos hso, if_pos (inbN ha), if_pos (inbN hb), p3, v3]
        have hA8 : RUN 60 mX8_copy [vr 0 0, vi (a : Int), vi i, vi (b : Int), vi j, vi m] s = if 0 ≤ i ∧ 0 ≤ m ∧ i + m ≤ s 30 a 2 then (if 0 ≤ j ∧ 0 ≤ m ∧ j + m ≤ s 30 b 2 then bV (RUN 59 mX6_putRun [vr 30 b, vi j, vr 30 a, vi i, vi m] s) (fun s9 => some (some (vi m), s9)) else some (some (vi (-12)), s)) else some (some (vi (-12)), s) := by
          rw [qX8_copy, isShC, bI_s, b01, if_pos hx, isShC, bI_s, b01, if_pos hy, if_pos (inbN ha), if_pos (inbN hb), Int.toNat_natCast, Int.toNat_natCast, missC, bI_s, b01, if_neg hma, missC, bI_s, b01, if_neg hmb, qX6_sort, bI_s, qX6_sort, bI_s, if_pos hso, runC q2, bI_s, b01]
          by_cases g1 : 0 ≤ i ∧ 0 ≤ m ∧ i + m ≤ s 30 a 2
          · rw [if_pos g1, if_pos g1, runC u2, bI_s, b01]
          · rw [if_neg g1, if_neg g1]
        by_cases hr : (0 ≤ i ∧ 0 ≤ m ∧ i + m ≤ s 30 a 2) ∧ (0 ≤ j ∧ 0 ≤ m ∧ j + m ≤ s 30 b 2)
        · obtain ⟨I, rfl⟩ : ∃ I : Nat, i = (I : Int) := ⟨i.toNat, by omega⟩
          obtain ⟨J, rfl⟩ : ∃ J : Nat, j = (J : Int) := ⟨j.toNat, by omega⟩
          obtain ⟨N, rfl⟩ : ∃ N : Nat, m = (N : Int) := ⟨m.toNat, by omega⟩
          have hp : RUN 59 mX6_putRun [vr 30 b, vi (J : Int), vr 30 a, vi (I : Int), vi (N : Int)] s = some (none, cpyS s 31 a 31 b I J N) := by
            rw [qX6_putRun, runC u2, bI_s, b01, if_pos hr.2, runC q2, bI_s, b01, if_pos hr.1, if_pos (by omega), Int.toNat_natCast, Int.toNat_natCast, Int.toNat_natCast]
          obtain ⟨s1, hs1, g31, gf, gj⟩ : ∃ s1, cpyS s 31 a 31 b I J N = s1 ∧ (∀ i', s1 31 b i' = if J ≤ i' ∧ i' < J + N then s 31 a (I + (i' - J)) else s 31 b i') ∧ (∀ c, c ≠ 31 → s1 c = s c) ∧ (∀ j', j' ≠ b → s1 31 j' = s 31 j') := by
            refine ⟨_, rfl, fun i' => ?_, fun c hc => ?_, fun j' hj' => ?_⟩
            · unfold cpyS
              by_cases g : J ≤ i' ∧ i' < J + N
              · rw [if_pos ⟨rfl, rfl, g⟩, if_pos g]
              · rw [if_neg (fun z => g z.2.2), if_neg g]
            · funext j' i'
              unfold cpyS
              rw [if_neg (fun z => hc z.1)]
            · funext i'
              unfold cpyS
              rw [if_neg (fun z => hj' z.2.1)]
          have f1 : frSC b s s1 := ⟨fun c _ q => gf c q, fun j' q => ⟨by rw [gf 30 (by decide)], gj j' q⟩⟩
          have eA : w32 (w32 (40 * (a : Int)) + (I : Int)) = ((40 * a + I : Nat) : Int) := by rw [w32_id (x := 40 * (a : Int)) (by omega) (by omega), w32_id (by omega) (by omega)]; omega
          have eB : w32 (w32 (40 * (b : Int)) + (J : Int)) = ((40 * b + J : Nat) : Int) := by rw [w32_id (x := 40 * (b : Int)) (by omega) (by omega), w32_id (by omega) (by omega)]; omega
          -- the reference's answer at s1
          have hA9' : ∃ s2, RUN 60 mX9_copy [vr 32 0, vi (a : Int), vi (I : Int), vi (b : Int), vi (J : Int), vi (N : Int)] s1 = some (some (vi (N : Int)), s2) ∧ (∀ c, c ≠ 51 → s2 c = s1 c) ∧ (∀ q, q < N → s2 51 0 (40 * b + J + q) = s1 51 0 (40 * a + I + q)) ∧ (∀ i, ¬ (40 * b + J ≤ i ∧ i < 40 * b + J + N) → s2 51 0 i = s1 51 0 i) := by
            have z48a : ¬ s1 48 0 a = 0 := by rw [gf 48 (by decide)]; omega
            have z48b : ¬ s1 48 0 b = 0 := by rw [gf 48 (by decide)]; omega
            have z49 : s1 49 0 a = s1 49 0 b := by rw [gf 49 (by decide), p2, v2]; exact hso
            rw [qX9_copy, isShR, bI_s, b01, if_pos hx, isShR, bI_s, b01, if_pos hy, if_pos (inbN ha), Int.toNat_natCast, if_neg z48a, if_pos (inbN hb), Int.toNat_natCast, if_neg z48b, if_pos (inbN ha), if_pos (inbN hb), if_pos z49, if_neg (show ¬ (N : Int) < 0 by omega), if_neg (show ¬ (I : Int) < 0 by omega), if_neg (show ¬ (J : Int) < 0 by omega), if_pos (inbN ha), gf 50 (by decide), p3, w32_id (by omega) (by omega), if_neg (show ¬ s 30 a 2 - (N : Int) < (I : Int) by omega), if_pos (inbN hb), v3, w32_id (by omega) (by omega), if_neg (show ¬ s 30 b 2 - (N : Int) < (J : Int) by omega)]
            by_cases g1 : (a : Int) = (b : Int)
            · rw [if_pos g1]
              by_cases g2 : (I : Int) < (J : Int)
              · rw [if_pos g2, qX9_copy_116]
                exact cpD eA eB (by omega) (by omega) (by omega) N 0 _ s1 s1 (by omega) (fun _ _ => rfl) (fun q h1 h2 => by omega) (fun _ _ => rfl)
              · rw [if_neg g2, qX9_copy_115, qX9_copy_116]
                exact cpA eA eB (by omega) (by omega) (by omega) N 0 _ s1 s1 (by omega) (fun _ _ => rfl) (fun q h1 => by omega) (fun _ _ => rfl)
            · rw [if_neg g1, qX9_copy_115, qX9_copy_116]
              exact cpA eA eB (by omega) (by omega) (by omega) N 0 _ s1 s1 (by omega) (fun _ _ => rfl) (fun q h1 => by omega) (fun _ _ => rfl)
          obtain ⟨s2, k1, k2, k3, k4⟩ := hA9'
          have f2 : frSR b s1 s2 := ⟨fun c _ _ _ q => k2 c q, fun i' _ => by rw [k2 48 (by decide), k2 49 (by decide), k2 50 (by decide)]; exact ⟨rfl, rfl, rfl⟩, fun i' hi' => k4 i' (by omega)⟩
          refine ⟨vi (N : Int), s1, s2, ?_, k1, ft, n, sm, tn, t, INV_sh hb h f1 f2 ?_⟩
          · rw [hA8, if_pos hr.1, if_pos hr.2, hp, bV_s, hs1]
          · unfold sh1
            rw [k2 30 (by decide), k2 31 (by decide), k2 48 (by decide), k2 49 (by decide), k2 50 (by decide), gf 30 (by decide), gf 48 (by decide), gf 49 (by decide), gf 50 (by decide)]
            refine ⟨u1, u2, u3, fun _ => ⟨v1, v2, v3, fun i' hi' => ?_⟩⟩
            rw [g31]
            by_cases g : J ≤ i' ∧ i' < J + N
            · have hk := k3 (i' - J) (by omega)
              rw [show 40 * b + J + (i' - J) = 40 * b + i' by omega] at hk
              rw [if_pos g, hk, gf 51 (by decide), show 40 * a + I + (i' - J) = 40 * a + (I + (i' - J)) by omega]
              exact p4 _ (by omega)
            · rw [if_neg g, k4 _ (by omega), gf 51 (by decide)]
              exact v4 i' hi'
        · refine bad (-12) ?_ ?_
          · rw [hA8]
            by_cases g1 : 0 ≤ i ∧ 0 ≤ m ∧ i + m ≤ s 30 a 2
            · rw [if_pos g1, if_neg (fun z => hr ⟨g1, z⟩)]
            · rw [if_neg g1]
          · rw [hA9]
            by_cases g1 : m < 0
            · rw [if_pos g1]
            rw [if_neg g1]
            by_cases g2 : i < 0
            · rw [if_pos g2]
            rw [if_neg g2]
            by_cases g3 : j < 0
            · rw [if_pos g3]
            rw [if_neg g3, w32_id (by omega) (by omega)]
            by_cases g4 : s 30 a 2 - m < i
            · rw [if_pos g4]
            rw [if_neg g4, w32_id (by omega) (by omega), if_pos (by omega)]
      · refine bad (-13) ?_ ?_
        · rw [qX8_copy, isShC, bI_s, b01, if_pos hx, isShC, bI_s, b01, if_pos hy, if_pos (inbN ha), if_pos (inbN hb), Int.toNat_natCast, Int.toNat_natCast, missC, bI_s, b01, if_neg hma, missC, bI_s, b01, if_neg hmb, qX6_sort, bI_s, qX6_sort, bI_s, if_neg hso]
        · rw [qX9_copy, isShR, bI_s, b01, if_pos hx, isShR, bI_s, b01, if_pos hy, if_pos (inbN ha), Int.toNat_natCast, if_neg (show ¬ s 48 0 a = 0 by omega), if_pos (inbN hb), Int.toNat_natCast, if_neg (show ¬ s 48 0 b = 0 by omega), if_pos (inbN ha), if_pos (inbN hb), p2, v2, if_neg hso]
    · refine bad (-2) ?_ ?_
      · rw [qX8_copy, isShC, bI_s, b01, if_pos hx, isShC, bI_s, b01, if_neg hy]
      · rw [qX9_copy, isShR, bI_s, b01, if_pos hx, isShR, bI_s, b01, if_neg hy]
  · refine bad (-2) ?_ ?_
    · rw [qX8_copy, isShC, bI_s, b01, if_neg hx]
    · rw [qX9_copy, isShR, bI_s, b01, if_neg hx]
end PA
