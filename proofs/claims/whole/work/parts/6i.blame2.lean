/-! LAW 19: blame: the sums, and the two side by side -/
section PB2
variable {ft : Ft} {n : Nat} {v : Sem × Sem × Sem} {T : Int} {O W : Nat → Int} {s0 s : Sg} {d c l : Nat}
theorem bl_A (h6 : n ≤ 6) (hc : c < n) {st : Nat → Int} {ak : Ak} : sumN (othS ft ak c l st) n = sumN (bsum ft ak (l : Int) (clr (setN (lnF ft) n l) c) st) n := by
  refine sumN_ext n (fun i hi => ?_)
  unfold othS bsum
  rw [(clr_ok c (by omega) _ (setN_64 h6)).2.2.2 i (by omega)]
  by_cases q : i ≠ c ∧ lnF ft i = l
  · rw [if_pos q, if_pos (by rw [Bool.and_eq_true]; exact ⟨setN_bit.mpr ⟨hi, q.2⟩, decide_eq_true q.1⟩)]
  · rw [if_neg q, if_neg (fun z => q (by rw [Bool.and_eq_true] at z; exact ⟨of_decide_eq_true z.2, (setN_bit.mp z.1).2⟩))]
theorem bl_B (hc : c < n) (hl : lnF ft c = l) {st : Nat → Int} {ak : Ak} : sumN (othS ft ak c l st) n + baI ft ak (l : Int) st c = sumN (bsum ft ak (l : Int) (setN (lnF ft) n l) st) n := by
  have e1 : sumN (fun i => if c = i then baI ft ak (l : Int) st i else 0) n = baI ft ak (l : Int) st c := by rw [sumN_one, if_pos hc]
  rw [← e1, ← sumN_add]
  refine sumN_ext n (fun i hi => ?_)
  unfold othS bsum
  by_cases q1 : c = i
  · subst q1
    rw [if_neg (fun z => z.1 rfl), if_pos rfl, if_pos (setN_bit.mpr ⟨hc, hl⟩)]; omega
  · rw [if_neg q1]
    by_cases q2 : lnF ft i = l
    · rw [if_pos ⟨fun z => q1 z.symm, q2⟩, if_pos (setN_bit.mpr ⟨hi, q2⟩)]; omega
    · rw [if_neg (fun z => q2 z.2), if_neg (fun z => q2 (setN_bit.mp z).2)]; omega
theorem bl_C (hok : ftOk ft n) (hc : c < n) (hl : lnF ft c = l) : totB ft v false n (lnF ft) - wot ft v n c = lanB ft v false n (l : Int) (setN (lnF ft) n l) - lanB ft v false n (l : Int) (clr (setN (lnF ft) n l) c) := by
  have h6 := hok.1
  have hl4 : l < 4 := by rw [← hl]; exact (lnF_4 hok hc).1
  have e1 : sumN (fun l' => if l = l' then lanB ft v false n (l' : Int) (setN (lnF ft) n l') - lanB ft v false n (l' : Int) (clr (setN (lnF ft) n l') c) else 0) 4 = lanB ft v false n (l : Int) (setN (lnF ft) n l) - lanB ft v false n (l : Int) (clr (setN (lnF ft) n l) c) := by rw [sumN_one, if_pos hl4]
  rw [← tot_eq (fun c hc => (lnF_4 hok hc).1), ← e1]
  have e2 : sumN (fun l' => lanB ft v false n (l' : Int) (setN (lnF ft) n l')) 4 = wot ft v n c + sumN (fun l' => if l = l' then lanB ft v false n (l' : Int) (setN (lnF ft) n l') - lanB ft v false n (l' : Int) (clr (setN (lnF ft) n l') c) else 0) 4 := by
    unfold wot
    rw [← sumN_add]
    refine sumN_ext 4 (fun i hi => ?_)
    by_cases q : l = i
    · rw [if_pos q]; omega
    · have hb : (setN (lnF ft) n i).testBit c = false := by
        refine Bool.eq_false_iff.mpr (fun z => q ?_)
        exact hl.symm.trans (setN_bit.mp z).2
      rw [if_neg q, (clr_ok c (by omega) _ (setN_64 h6)).2.2.1 hb]; omega
  omega
theorem lanB_eq (ft : Ft) (v : Sem × Sem × Sem) (eg : Bool) (n : Nat) (l : Int) (set : Nat) : lanB ft v eg n l set = sumN (bsum ft (akS v ft) l set (lanR ft v eg n l set).1) n := rfl
theorem blR (hT : totB ft v false n (lnF ft) = T) (hO : ∀ c, c < n → T - carB ft v false n (lnF ft) c = O c) (hW : ∀ c, c < n → wot ft v n c = W c) {x1 : Int} : ∀ (j x : Nat) (z7 z8 z9 z10 z11 : PV) (s : Sg), x + j = n → YR ft n v false s → frW s0 s → ∃ s', EV (d + 48) mX9_blame (29, [vr 32 0, vi x1, vi T, vi (blm T O W x).1, vi (blm T O W x).2.1, vi (blm T O W x).2.2, vi (x : Int), z7, z8, z9, z10, z11], [], s) = some (some (vi (if x1 = 0 then (blm T O W n).1 else (blm T O W n).2.2)), s') ∧ frW s0 s' := by
  intro j
  induction j with
  | zero =>
    intro x z7 z8 z9 z10 z11 s hx hR hf
    have hx : x = n := by omega
    subst hx
    rw [qX9_blame_29, hR.1.1, if_neg (by omega)]
    refine ⟨s, ?_, hf⟩
    by_cases q : x1 = 0
    · rw [if_pos q, if_pos q]
    · rw [if_neg q, if_neg q]
  | succ j ih =>
    intro x z7 z8 z9 z10 z11 s hx hR hf
    have h6 := hR.2.1.1
    have hok := hR.2.1
    have hxn : x < n := by omega
    have hx6 : x < 6 := by omega
    obtain ⟨l, hl⟩ : ∃ l, lnF ft x = l := ⟨_, rfl⟩
    obtain ⟨l4, le⟩ := lnF_4 hok hxn
    rw [hl] at l4 le
    have k6 := clr_ok x hx6 (setN (lnF ft) n l) (setN_64 h6)
    obtain ⟨s1, a1, a2, a3, a4, _⟩ := goesR (d := d + 1) (l := l) (set := setN (lnF ft) n l) (setN_64 h6) l4 hR
    have hR1 := YR_fr hR (frZ_G a2)
    obtain ⟨st1, hst1⟩ : ∃ st, (lanR ft v false n (l : Int) (setN (lnF ft) n l)).1 = st := ⟨_, rfl⟩
    have hw1 : okW ft n (setN (lnF ft) n l) st1 := by rw [← hst1]; exact lanR_w hok
    have s38 : ∀ i, i < n → lnF ft i = l → s1 38 0 i = st1 i := fun i hi he => by rw [(a3 i hi (setN_bit.mpr ⟨hi, he⟩)).1, hst1]
    have hB := bl_B (st := st1) (ak := akS v ft) hxn hl
    rw [← hst1, ← lanB_eq, hst1] at hB
    have ecb : carB ft v false n (lnF ft) x = baI ft (akS v ft) (l : Int) st1 x := by rw [carB_eq, carL_eq, hl, hst1]
    have hw1x := hw1 x hxn (setN_bit.mpr ⟨hxn, hl⟩)
    obtain ⟨s2, b1, b2⟩ := blR1 (d := d) (c := x) (l := l) (st := st1) (v := v) (x1 := x1) (x2 := T) (x3 := (blm T O W x).1) (x4 := (blm T O W x).2.1) (x5 := (blm T O W x).2.2) (x9 := 0) (z11 := z11) (fun i hi he _ => hw1 i hi (setN_bit.mpr ⟨hi, he⟩)) n 0 s1 (by omega) hR1 (fun i hi he _ => s38 i hi he)
    have hR2 := YR_fr hR1 (frZ_K b2)
    have e2x : s2 38 0 x = st1 x := by rw [b2.1 38 (by decide)]; exact s38 x hxn hl
    have eb2 := baI_st (ft := ft) (ak := akS v ft) (l := (l : Int)) e2x
    obtain ⟨s3, c1, c2⟩ := badOfR (d := d + 3) (l := (l : Int)) hR2 hxn (by rw [e2x]; exact ⟨hw1x.1, hw1x.2.1⟩) (by rw [eb2.2]; exact hw1x.2.2)
    rw [eb2.1, ← ecb] at c1
    have hR3 := YR_fr hR2 (frZ_K c2)
    obtain ⟨s4, d1, d2, d3, d4, _⟩ := goesR (d := d + 1) (l := l) (set := clr (setN (lnF ft) n l) x) k6.2.1 l4 hR3
    have hR4 := YR_fr hR3 (frZ_G d2)
    obtain ⟨st2, hst2⟩ : ∃ st, (lanR ft v false n (l : Int) (clr (setN (lnF ft) n l) x)).1 = st := ⟨_, rfl⟩
    have hw2 : okW ft n (clr (setN (lnF ft) n l) x) st2 := by rw [← hst2]; exact lanR_w hok
    have bit2 : ∀ i, i < n → lnF ft i = l → i ≠ x → (clr (setN (lnF ft) n l) x).testBit i = true := fun i hi he hne => by
      rw [k6.2.2.2 i (by omega), Bool.and_eq_true]
      exact ⟨setN_bit.mpr ⟨hi, he⟩, decide_eq_true hne⟩
    have hA := bl_A (st := st2) (ak := akS v ft) (ft := ft) (l := l) h6 hxn
    rw [← hst2, ← lanB_eq, hst2] at hA
    have hCC := bl_C (v := v) hok hxn hl
    have hOx := hO x hxn
    have hWx := hW x hxn
    rw [hT, hWx] at hCC
    obtain ⟨s5, e1, e2⟩ := blR2 (d := d) (c := x) (l := l) (st := st2) (v := v) (x1 := x1) (x2 := T) (x3 := (blm T O W x).1) (x4 := (blm T O W x).2.1) (x5 := (blm T O W x).2.2) (x8 := sumN (othS ft (akS v ft) x l st1) n) (x10 := carB ft v false n (lnF ft) x) (fun i hi he hne => hw2 i hi (bit2 i hi he hne)) n 0 s4 (by omega) hR4 (fun i hi he hne => by rw [(d3 i hi (bit2 i hi he hne)).1, hst2])
    have hR5 := YR_fr hR4 (frZ_K e2)
    have hf5 : frW s0 s5 := frW_tr hf (frW_tr (frW_tr (frW_G a2) (frW_K b2)) (frW_tr (frW_K c2) (frW_tr (frW_G d2) (frW_K e2))))
    have eD : sumN (othS ft (akS v ft) x l st1) n - sumN (othS ft (akS v ft) x l st2) n = O x - W x := by
      rw [ecb] at hOx
      omega
    have hTr := totB_rg (v := v) (eg := false) (ln := lnF ft) hok
    rw [hT] at hTr
    have hcr := carB_rg (v := v) (eg := false) (ln := lnF ft) hok hxn
    have hWr := wot_rg (v := v) (c := x) hok
    rw [hWx] at hWr
    rw [qX9_blame_29, hR.1.1, if_pos (by omega), r2 hx6, if_pos (inbN (by omega)), Int.toNat_natCast, YR_row hR hxn (by omega), ← le, setOfR hR, bI_s, a1, bV_s, show EV (d + 48) mX9_blame (72, [vr 32 0, vi x1, vi T, vi (blm T O W x).1, vi (blm T O W x).2.1, vi (blm T O W x).2.2, vi (x : Int), vi (l : Int), vi 0, vi 0, vi 0, z11], [], s1) = _ from b1, qX9_blame_72, hR2.1.1, if_neg (by omega), c1, bI_s, setOfR hR3, bI_s, k6.1, d1, bV_s, show EV (d + 48) mX9_blame (159, [vr 32 0, vi x1, vi T, vi (blm T O W x).1, vi (blm T O W x).2.1, vi (blm T O W x).2.2, vi (x : Int), vi (l : Int), vi (sumN (othS ft (akS v ft) x l st1) n), vi 0, vi (carB ft v false n (lnF ft) x), vi 0], [], s4) = _ from e1, qX9_blame_159, hR5.1.1, if_neg (by omega), eD, w32_id (x := O x - W x) (by omega) (by omega)]
    have ihB := ih (x + 1)
    rw [blm] at ihB
    by_cases q : (blm T O W x).2.1 < O x - W x
    · rw [if_pos q] at ihB
      rw [if_pos q, hOx, w32_id (x := O x) (by omega) (by omega), w32_id (x := O x - (O x - W x)) (by omega) (by omega), show O x - (O x - W x) = W x by omega, qX9_blame_243, w32_id (by omega) (by omega), show (x : Int) + 1 = ((x + 1 : Nat) : Int) by omega]
      exact ihB _ _ _ _ _ s5 (by omega) hR5 hf5
    · rw [if_neg q] at ihB
      rw [if_neg q, qX9_blame_243, w32_id (by omega) (by omega), show (x : Int) + 1 = ((x + 1 : Nat) : Int) by omega]
      exact ihB _ _ _ _ _ s5 (by omega) hR5 hf5
def blA (ft : Ft) (v : Sem × Sem × Sem) (n : Nat) : Int × Int × Int := blm (totB ft v false n (lnF ft)) (fun c => totB ft v false n (lnF ft) - carB ft v false n (lnF ft) c) (fun c => wot ft v n c) n
theorem blA_eq (hT : totB ft v false n (lnF ft) = T) (hO : (fun c => totB ft v false n (lnF ft) - carB ft v false n (lnF ft) c) = O) (hW : (fun c => wot ft v n c) = W) : blA ft v n = blm T O W n := by
  unfold blA
  rw [hW, hO, hT]
theorem p_blame (x : Int) : PAIR mX8_blame mX9_blame [vi x] := by
  refine pair_ro (fun ft n sm _ t => vi (if 0 ≤ x ∧ x ≤ 1 then (if x = 0 then (blA ft (sm t) n).1 else (blA ft (sm t) n).2.2) else -2)) (fun ft n sm tn t s h => ?_) (fun ft n sm tn t s h => ?_)
  · have hC := inv_YC h
    obtain ⟨T, hT⟩ : ∃ T, totB ft (sm t) false n (lnF ft) = T := ⟨_, rfl⟩
    obtain ⟨O, hO⟩ : ∃ O, (fun c => totB ft (sm t) false n (lnF ft) - carB ft (sm t) false n (lnF ft) c) = O := ⟨_, rfl⟩
    obtain ⟨W, hW⟩ : ∃ W, (fun c => wot ft (sm t) n c) = W := ⟨_, rfl⟩
    rw [blA_eq hT hO hW, qX8_blame]
    by_cases hx : 0 ≤ x ∧ x ≤ 1
    · obtain ⟨s', a1, a2, a3, a4⟩ := blameC (d := 50) (T := T) (O := O) (W := W) hC hT (fun c _ => by rw [← hO, ← hT]) (fun c _ => by rw [← hW])
      rw [if_pos hx, if_neg (by omega), if_neg (by omega), a1, bV_s, qX0_answer, a3, a4]
      refine ⟨s', ?_, a2⟩
      by_cases q : x = 0
      · rw [if_pos q, if_pos q, bI_s]
      · rw [if_neg q, if_neg q, bI_s]
    · rw [if_neg hx]
      by_cases q : x < 0
      · rw [if_pos q]; exact ⟨s, rfl, frI_refl s⟩
      · rw [if_neg q, if_pos (by omega)]; exact ⟨s, rfl, frI_refl s⟩
  · have hR := inv_YR h
    obtain ⟨T, hT⟩ : ∃ T, totB ft (sm t) false n (lnF ft) = T := ⟨_, rfl⟩
    obtain ⟨O, hO⟩ : ∃ O, (fun c => totB ft (sm t) false n (lnF ft) - carB ft (sm t) false n (lnF ft) c) = O := ⟨_, rfl⟩
    obtain ⟨W, hW⟩ : ∃ W, (fun c => wot ft (sm t) n c) = W := ⟨_, rfl⟩
    rw [blA_eq hT hO hW, qX9_blame, in_ok, bI_s, b01]
    by_cases hx : 0 ≤ x ∧ x ≤ 1
    · obtain ⟨s1, a1, a2, a3⟩ := badnessR (d := 11) hR
      rw [hT] at a1
      obtain ⟨s2, b1, b2⟩ := blR (d := 12) (s0 := s) (T := T) (O := O) (W := W) (x1 := x) hT (fun c _ => by rw [← hO, ← hT]) (fun c _ => by rw [← hW]) n 0 UU UU UU UU UU s1 (by omega) (YR_fr hR (frZ_W a2)) a2
      rw [if_pos hx, if_pos hx, a1, bI_s]
      exact ⟨s2, b1, frI_W b2⟩
    · rw [if_neg hx, if_neg hx]
      exact ⟨s, rfl, frI_refl s⟩
end PB2
