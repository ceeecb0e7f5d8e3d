/-! REF 4: all lanes; what becomes of each car; the badness of all -/
/-- what becomes of a car, lanes being told by ln -/
def carL (ft : Ft) (v : Sem × Sem × Sem) (eg : Bool) (n : Nat) (ln : Nat → Nat) (c : Nat) : LaS := lanR ft v eg n ((ln c : Nat) : Int) (setN ln n (ln c))
def carB (ft : Ft) (v : Sem × Sem × Sem) (eg : Bool) (n : Nat) (ln : Nat → Nat) (c : Nat) : Int := baI ft (akS v ft) ((ln c : Nat) : Int) (carL ft v eg n ln c).1 c
def totB (ft : Ft) (v : Sem × Sem × Sem) (eg : Bool) (n : Nat) (ln : Nat → Nat) : Int := sumN (carB ft v eg n ln) n
def totV (ft : Ft) (v : Sem × Sem × Sem) (eg : Bool) (n : Nat) (ln : Nat → Nat) : Int := sumN (fun l => lanV ft v eg n (l : Int) (setN ln n l)) 4
theorem carL_eq (ft : Ft) (v : Sem × Sem × Sem) (eg : Bool) (n : Nat) (ln : Nat → Nat) (c : Nat) : carL ft v eg n ln c = lanR ft v eg n ((ln c : Nat) : Int) (setN ln n (ln c)) := rfl
theorem carB_eq (ft : Ft) (v : Sem × Sem × Sem) (eg : Bool) (n : Nat) (ln : Nat → Nat) (c : Nat) : carB ft v eg n ln c = baI ft (akS v ft) ((ln c : Nat) : Int) (carL ft v eg n ln c).1 c := rfl
theorem sumN_add {f g : Nat → Int} : ∀ k, sumN (fun i => f i + g i) k = sumN f k + sumN g k
  | 0 => rfl
  | k + 1 => by
    rw [sumN, sumN, sumN, sumN_add k]
    omega
theorem sumN_zero : ∀ k, sumN (fun _ => 0) k = 0
  | 0 => rfl
  | k + 1 => by rw [sumN, sumN_zero k]; rfl
theorem sumN_swap {g : Nat → Nat → Int} {n : Nat} : ∀ k, sumN (fun l => sumN (g l) n) k = sumN (fun c => sumN (fun l => g l c) k) n
  | 0 => by
    show 0 = sumN (fun c => 0) n
    rw [sumN_zero]
  | k + 1 => by
    rw [sumN, sumN_swap k]
    rw [← sumN_add]
    rfl
theorem sumN_one {x : Nat → Int} {j : Nat} : ∀ k, sumN (fun l => if j = l then x l else 0) k = if j < k then x j else 0
  | 0 => by rw [if_neg (Nat.not_lt_zero j)]; rfl
  | k + 1 => by
    rw [sumN, sumN_one k]
    by_cases h1 : j < k
    · rw [if_pos h1, if_neg (by omega), if_pos (by omega)]; omega
    · rw [if_neg h1]
      by_cases h2 : j = k
      · subst h2
        rw [if_pos rfl, if_pos (Nat.lt_succ_self j)]; omega
      · rw [if_neg h2, if_neg (by omega)]; rfl
section RA
variable {ft : Ft} {n : Nat} {v : Sem × Sem × Sem} {eg : Bool} {s : Sg} {d : Nat} {ln : Nat → Nat}
theorem tot_eq (h4 : ∀ c, c < n → ln c < 4) : sumN (fun l => lanB ft v eg n (l : Int) (setN ln n l)) 4 = totB ft v eg n ln := by
  unfold lanB
  rw [sumN_swap]
  refine sumN_ext n (fun c hc => ?_)
  have e : (fun l : Nat => bsum ft (akS v ft) (l : Int) (setN ln n l) (lanR ft v eg n (l : Int) (setN ln n l)).1 c) = fun l : Nat => if ln c = l then baI ft (akS v ft) (l : Int) (lanR ft v eg n (l : Int) (setN ln n l)).1 c else 0 := by
    funext l
    unfold bsum
    by_cases q : ln c = l
    · rw [if_pos (setN_bit.mpr ⟨hc, q⟩), if_pos q]
    · rw [if_neg (fun x => q (setN_bit.mp x).2), if_neg q]
  rw [e, sumN_one, if_pos (h4 c hc)]
  rfl
theorem setN_64 {l : Nat} (h : n ≤ 6) : setN ln n l < 64 := msk_64 h
theorem carL_w {c : Nat} (hok : ftOk ft n) (hc : c < n) : -1 ≤ (carL ft v eg n ln c).1 c ∧ (carL ft v eg n ln c).1 c ≤ 200 ∧ 0 ≤ waI ft (carL ft v eg n ln c).1 c ∧ waI ft (carL ft v eg n ln c).1 c ≤ 200 := by
  rw [carL_eq]
  exact lanR_w (v := v) (eg := eg) (l := ((ln c : Nat) : Int)) (set := setN ln n (ln c)) hok c hc (setN_bit.mpr ⟨hc, rfl⟩)
theorem carB_rg {c : Nat} (hok : ftOk ft n) (hc : c < n) : 0 ≤ carB ft v eg n ln c ∧ carB ft v eg n ln c ≤ 1800 := by
  rw [carB_eq]
  exact baI_rg (carL_w hok hc).2.2
theorem totB_rg (hok : ftOk ft n) : 0 ≤ totB ft v eg n ln ∧ totB ft v eg n ln ≤ 10800 := by
  have h := sumN_rg (f := carB ft v eg n ln) n (fun i hi => carB_rg hok hi)
  have := hok.1
  unfold totB
  omega
/-- class: all has been played, lanes being told by ln -/
def outC (ft : Ft) (v : Sem × Sem × Sem) (eg : Bool) (n : Nat) (ln : Nat → Nat) (s : Sg) : Prop := s 13 0 13 = totV ft v eg n ln ∧ ∀ c, c < n → s 15 0 c = (carL ft v eg n ln c).1 c ∧ s 17 0 c = (carL ft v eg n ln c).2.1 c ∧ s 18 0 c = (carL ft v eg n ln c).2.2.1 c ∧ s 19 0 c = carB ft v eg n ln c
theorem playN (hy : YC ft n v eg s) (h4 : ∀ c, c < n → ln c < 4) (hm : mbr ln n s) : ∃ s', RUN (d + 7) mX7_playAll [vr 13 0] s = some (some (vi (totB ft v eg n ln)), s') ∧ frL s s' ∧ outC ft v eg n ln s' := by
  obtain ⟨s', a1, a2, a3, a4⟩ := playAllC (d := d) (ft := ft) (n := n) (v := v) (eg := eg) (sets := setN ln n) (fun l _ => setN_64 hy.2.1.1) (fun l l' c _ _ h1 h2 => (setN_bit.mp h1).2.symm.trans (setN_bit.mp h2).2) hy hm
  rw [tot_eq h4] at a1
  refine ⟨s', a1, a2, a3, fun c hc => ?_⟩
  have := a4 (ln c) c (h4 c hc) hc (setN_bit.mpr ⟨hc, rfl⟩)
  rw [carB_eq, carL_eq]
  exact this
/-- spread, then play -/
theorem nowC (hy : YC ft n v eg s) : ∃ s1 s', RUN (d + 7) mX7_spread [vr 13 0] s = some (none, s1) ∧ RUN (d + 7) mX7_playAll [vr 13 0] s1 = some (some (vi (totB ft v eg n (lnF ft))), s') ∧ YC ft n v eg s1 ∧ YC ft n v eg s' ∧ (∀ c, c ≠ 9 → c ≠ 10 → c ≠ 13 → c ≠ 14 → c ≠ 15 → c ≠ 16 → c ≠ 17 → c ≠ 18 → c ≠ 19 → c ≠ 20 → s' c = s c) ∧ s' 13 0 14 = s 13 0 14 ∧ outC ft v eg n (lnF ft) s' := by
  obtain ⟨s1, a1, a2, a3⟩ := spreadC (d := d + 6) hy
  have hy1 := YC_fr hy (frY_14 a3)
  obtain ⟨s', b1, b2, b3⟩ := playN (d := d) hy1 (fun c hc => (lnF_4 hy.2.1 hc).1) a2
  refine ⟨s1, s', a1, b1, hy1, YC_fr hy1 (frY_L b2), fun c q1 q2 q3 q4 q5 q6 q7 q8 q9 q10 => (b2.1 c q1 q2 q3 q5 q6 q7 q8 q9 q10).trans (a3 c q4), b2.2.trans (by rw [a3 13 (by decide)]), b3⟩
/-- reference: all has been gone through -/
def outR (ft : Ft) (v : Sem × Sem × Sem) (eg : Bool) (n : Nat) (ln : Nat → Nat) (s : Sg) : Prop := (∀ l, l < 4 → rowsTo ft (akS v ft) eg n l (bitS (setN ln n l)) cn0 200 s) ∧ ∀ c, c < n → s 38 0 c = (carL ft v eg n ln c).1 c ∧ s 39 0 c = (carL ft v eg n ln c).2.1 c ∧ s 40 0 c = (carL ft v eg n ln c).2.2.1 c
/-- what going through all lanes may change -/
def frW (s s' : Sg) : Prop := (∀ c, c ≠ 32 → c ≠ 38 → c ≠ 39 → c ≠ 40 → c ≠ 41 → c ≠ 42 → c ≠ 43 → s' c = s c) ∧ (∀ i, ¬ (10 ≤ i ∧ i ≤ 24) → s' 32 0 i = s 32 0 i)
theorem frW_refl (s : Sg) : frW s s := ⟨fun _ _ _ _ _ _ _ _ => rfl, fun _ _ => rfl⟩
theorem frW_tr {s1 s2 s3 : Sg} (h1 : frW s1 s2) (h2 : frW s2 s3) : frW s1 s3 := ⟨fun c a1 a2 a3 a4 a5 a6 a7 => (h2.1 c a1 a2 a3 a4 a5 a6 a7).trans (h1.1 c a1 a2 a3 a4 a5 a6 a7), fun i h => (h2.2 i h).trans (h1.2 i h)⟩
theorem frW_G {l : Nat} {s s' : Sg} (h : frG l s s') : frW s s' := ⟨h.1, h.2.1⟩
theorem frW_K {s s' : Sg} (h : frK s s') : frW s s' := ⟨fun c q _ _ _ _ _ _ => h.1 c q, h.2⟩
theorem frZ_W {s s' : Sg} (h : frW s s') : frZ s s' := ⟨fun c hc => h.1 c (by omega) (by omega) (by omega) (by omega) (by omega) (by omega) (by omega), fun i hi => h.2 i (by omega)⟩
theorem goesL : ∀ (j x : Nat) (s0 s : Sg), x + j = 4 → YR ft n v eg s → frW s0 s → (∀ l, l < x → rowsTo ft (akS v ft) eg n l (bitS (setN (lnF ft) n l)) cn0 200 s) → (∀ c, c < n → lnF ft c < x → s 38 0 c = (carL ft v eg n (lnF ft) c).1 c ∧ s 39 0 c = (carL ft v eg n (lnF ft) c).2.1 c ∧ s 40 0 c = (carL ft v eg n (lnF ft) c).2.2.1 c) → ∃ s', EV (d + 47) mX9_goesAll (2, [vr 32 0, vi (x : Int)], [], s) = some (none, s') ∧ frW s0 s' ∧ outR ft v eg n (lnF ft) s' := by
  intro j
  induction j with
  | zero =>
    intro x s0 s hx h hf hr hc
    have hx : x = 4 := by omega
    subst hx
    rw [qX9_goesAll_2, if_neg (by decide)]
    exact ⟨s, rfl, hf, hr, fun c h1 => hc c h1 (lnF_4 h.2.1 h1).1⟩
  | succ j ih =>
    intro x s0 s hx h hf hr hc
    obtain ⟨s1, a1, a2, a3, a4, a5⟩ := goesR (d := d) (l := x) (set := setN (lnF ft) n x) (setN_64 h.2.1.1) (by omega) h
    rw [qX9_goesAll_2, if_pos (by omega), setOfR h, bI_s, a1, bV_s, w32_id (by omega) (by omega), show (x : Int) + 1 = ((x + 1 : Nat) : Int) by omega]
    refine ih (x + 1) s0 s1 (by omega) (YR_fr h (frZ_G a2)) (frW_tr hf (frW_G a2)) (fun l hl => ?_) (fun c h1 h2 => ?_)
    · by_cases e : l = x
      · subst e; exact a5
      · intro m hm
        have := a2.2.2 (200 * l + m) (by omega)
        rw [this.1, this.2]
        exact hr l (by omega) m hm
    · by_cases e : lnF ft c = x
      · have := a3 c h1 (setN_bit.mpr ⟨h1, e⟩)
        rw [carL_eq, e]
        exact this
      · obtain ⟨o1, o2, o3⟩ := a4 c (fun q => e (setN_bit.mp q.2).2)
        rw [o1, o2, o3]
        exact hc c h1 (by omega)
theorem goesAllR (h : YR ft n v eg s) : ∃ s', RUN (d + 47) mX9_goesAll [vr 32 0] s = some (none, s') ∧ frW s s' ∧ outR ft v eg n (lnF ft) s' := by
  obtain ⟨s', a1, a2, a3⟩ := goesL (d := d) 4 0 s s (by omega) h (frW_refl s) (fun l hl => by omega) (fun c _ hc => by omega)
  rw [qX9_goesAll]
  exact ⟨s', a1, a2, a3⟩
theorem waitR {c : Nat} (h : YR ft n v eg s) (hc : c < n) (hr : -1 ≤ s 38 0 c ∧ s 38 0 c ≤ 200) : RUN d mX9_waitedOf [vr 32 0, vi (c : Int)] s = some (some (vi (waI ft (s 38 0) c)), s) := by
  have h6 := h.2.1.1
  have hc6 : c < 6 := by omega
  have hf := h.2.1.2 c hc
  rw [qX9_waitedOf, if_pos (inbN hc6), Int.toNat_natCast]
  unfold waI
  by_cases h1 : s 38 0 c = -1
  · rw [if_pos h1, if_pos h1, qX9_waitedOf_22, r3 hc6, if_pos (inbN (by omega)), Int.toNat_natCast, YR_row h hc (by omega), w32_id (by omega) (by omega)]
  · rw [if_neg h1, if_neg h1, if_pos (inbN hc6), qX9_waitedOf_22, r3 hc6, if_pos (inbN (by omega)), Int.toNat_natCast, YR_row h hc (by omega), w32_id (by omega) (by omega)]
theorem badOfR {c : Nat} {l : Int} (h : YR ft n v eg s) (hc : c < n) (hr : -1 ≤ s 38 0 c ∧ s 38 0 c ≤ 200) (hw : 0 ≤ waI ft (s 38 0) c ∧ waI ft (s 38 0) c ≤ 200) : ∃ s', RUN (d + 44) mX9_badOf [vr 32 0, vi (c : Int), vi l] s = some (some (vi (baI ft (akS v ft) l (s 38 0) c)), s') ∧ frK s s' := by
  have h6 := h.2.1.1
  have hc6 : c < 6 := by omega
  obtain ⟨s1, a1, a2⟩ := asksR (d := d) (k := 2) (l := l) (m := ft 3 c) (a := 0) h hc (by omega)
  have e38 : s1 38 = s 38 := a2.1 38 (by decide)
  have hba := baI_rg (ak := akS v ft) (l := l) hw
  have eV : askV 2 (akS v ft 2 c l (ft 3 c) 0) = mindI ft (akS v ft) c l := rfl
  refine ⟨s1, ?_, a2⟩
  rw [qX9_badOf, r3 hc6, if_pos (inbN (by omega)), Int.toNat_natCast, YR_row h hc (by omega), show RUN (d + 43) mX9_asks [vr 32 0, vi 2, vi (c : Int), vi l, vi (ft 3 c), vi 0] s = _ from a1, bI_s, waitR (YR_fr h (frZ_K a2)) hc (by rw [e38]; exact hr), bI_s, eV, e38]
  have eb : w32 (mindI ft (akS v ft) c l * waI ft (s 38 0) c) = baI ft (akS v ft) l (s 38 0) c := w32_id (by unfold baI at hba; omega) (by unfold baI at hba; omega)
  rw [eb]
theorem baI_st {ak : Ak} {l : Int} {st st' : Nat → Int} {c : Nat} (h : st c = st' c) : baI ft ak l st c = baI ft ak l st' c ∧ waI ft st c = waI ft st' c := by
  unfold baI waI
  rw [h]
  exact ⟨rfl, rfl⟩
theorem badL : ∀ (j x : Nat) (s0 s : Sg), x + j = n → YR ft n v eg s → frK s0 s → outR ft v eg n (lnF ft) s → ∃ s', EV (d + 45) mX9_badness (8, [vr 32 0, vi (sumN (carB ft v eg n (lnF ft)) x), vi (x : Int)], [], s) = some (some (vi (totB ft v eg n (lnF ft))), s') ∧ frK s0 s' := by
  intro j
  induction j with
  | zero =>
    intro x s0 s hx h hf ho
    have hx : x = n := by omega
    subst hx
    rw [qX9_badness_8, h.1.1, if_neg (by omega)]
    exact ⟨s, rfl, hf⟩
  | succ j ih =>
    intro x s0 s hx h hf ho
    have h6 := h.2.1.1
    have hx6 : x < 6 := by omega
    have hxn : x < n := by omega
    obtain ⟨w1, w2, w3, w4⟩ := carL_w (v := v) (eg := eg) (ln := lnF ft) h.2.1 hxn
    have es := (ho.2 x hxn).1
    have eb := baI_st (ft := ft) (ak := akS v ft) (l := ft 2 x) es
    obtain ⟨s1, a1, a2⟩ := badOfR (d := d) (l := ft 2 x) h hxn (by rw [es]; exact ⟨w1, w2⟩) (by rw [eb.2]; exact ⟨w3, w4⟩)
    have hs := sumN_rg (f := carB ft v eg n (lnF ft)) x (fun i hi => carB_rg h.2.1 (by omega))
    have hcb := carB_rg (v := v) (eg := eg) (ln := lnF ft) h.2.1 hxn
    have ec : baI ft (akS v ft) (ft 2 x) (s 38 0) x = carB ft v eg n (lnF ft) x := by
      rw [eb.1, carB_eq, (lnF_4 h.2.1 hxn).2]
    have esum : sumN (carB ft v eg n (lnF ft)) (x + 1) = sumN (carB ft v eg n (lnF ft)) x + carB ft v eg n (lnF ft) x := rfl
    rw [qX9_badness_8, h.1.1, if_pos (by omega), r2 hx6, if_pos (inbN (by omega)), Int.toNat_natCast, YR_row h hxn (by omega), a1, bI_s, ec, w32_id (by omega) (by omega), w32_id (by omega) (by omega), ← esum, show (x : Int) + 1 = ((x + 1 : Nat) : Int) by omega]
    have ho1 : outR ft v eg n (lnF ft) s1 := by
      refine ⟨fun l hl m hm => ?_, fun c hc => ?_⟩
      · rw [a2.1 42 (by decide), a2.1 43 (by decide)]; exact ho.1 l hl m hm
      · rw [a2.1 38 (by decide), a2.1 39 (by decide), a2.1 40 (by decide)]; exact ho.2 c hc
    exact ih (x + 1) s0 s1 (by omega) (YR_fr h (frZ_K a2)) (frK_tr hf a2) ho1
theorem outR_K {s s' : Sg} (ho : outR ft v eg n ln s) (h : frK s s') : outR ft v eg n ln s' := by
  refine ⟨fun l hl m hm => ?_, fun c hc => ?_⟩
  · rw [h.1 42 (by decide), h.1 43 (by decide)]; exact ho.1 l hl m hm
  · rw [h.1 38 (by decide), h.1 39 (by decide), h.1 40 (by decide)]; exact ho.2 c hc
theorem badnessR (h : YR ft n v eg s) : ∃ s', RUN (d + 48) mX9_badness [vr 32 0] s = some (some (vi (totB ft v eg n (lnF ft))), s') ∧ frW s s' ∧ outR ft v eg n (lnF ft) s' := by
  obtain ⟨s1, a1, a2, a3⟩ := goesAllR (d := d) h
  obtain ⟨s', b1, b2⟩ := badL (d := d + 3) n 0 s1 s1 (by omega) (YR_fr h (frZ_W a2)) (frK_refl s1) a3
  rw [qX9_badness, a1, bV_s]
  exact ⟨s', b1, frW_tr a2 (frW_K b2), outR_K a3 b2⟩
end RA
