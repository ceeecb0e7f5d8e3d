/-! LAW 12: film, text -/
section FB
variable {b : Nat → Int} {sz : Nat}
/-- faults lie within the text -/
def flP (b : Nat → Int) (sz : Nat) (f : Nat → PR) : Prop := ∀ p fl, p ≤ sz → f p = .inl fl → fl ≤ sz
theorem fl_chn {op : Int → Int} {sub : Nat → PR} (ho : opOk op) (hs : goodP b sz sub) (hf : flP b sz sub) : ∀ (k : Nat) (c : List Int) (v : Sem) (p fl : Nat), p ≤ sz → chn b sz op sub k c v p = .inl fl → fl ≤ sz := by
  intro k
  induction k with
  | zero => intro c v p fl hp h; rw [chn] at h; cases h
  | succ k ih =>
    intro c v p fl hp h
    rw [chn] at h
    by_cases hz : op (tkC b sz p) = 0
    · rw [if_pos hz] at h; cases h
    · rw [if_neg hz] at h
      cases hx : sub (tkE b sz p) with
      | inl f => rw [pb_l hx] at h; cases h; exact hf _ _ (tkE_le hp) hx
      | inr x =>
        obtain ⟨c2, v2, p2⟩ := x
        rw [pb_r hx] at h
        exact ih _ _ _ _ (hs _ _ _ _ (tkE_le hp) hx).1 h
theorem fl_lst {op : Int → Int} {sub : Nat → PR} (ho : opOk op) (hs : goodP b sz sub) (hf : flP b sz sub) : flP b sz (lstP b sz op sub) := by
  intro p fl hp h
  unfold lstP at h
  cases hx : sub p with
  | inl f => rw [pb_l hx] at h; cases h; exact hf _ _ hp hx
  | inr x =>
    obtain ⟨c2, v2, p2⟩ := x
    rw [pb_r hx] at h
    exact fl_chn ho hs hf _ _ _ _ _ (hs _ _ _ _ hp hx).1 h
theorem fl_or {nt : Nat → PR} (h : goodP b sz nt) (hf : flP b sz nt) : flP b sz (orP b sz nt) := fl_lst ok_or (good_lst ok_and h) (fl_lst ok_and h hf)
theorem fl_sum {one : Nat → PR} (h : goodP b sz one) (hf : flP b sz one) : flP b sz (sumP b sz one) := fl_lst ok_sum (good_lst ok_mul h) (fl_lst ok_mul h hf)
theorem fl_cmp {one : Nat → PR} (h : goodP b sz one) (hf : flP b sz one) : flP b sz (cmpP b sz one) := by
  intro p fl hp hx
  unfold cmpP at hx
  cases h1 : sumP b sz one p with
  | inl f => rw [pb_l h1] at hx; cases hx; exact fl_sum h hf _ _ hp h1
  | inr x =>
    obtain ⟨c1, v1, p1⟩ := x
    rw [pb_r h1] at hx
    have g1 := (good_sum h _ _ _ _ hp h1).1
    by_cases hc : tkC b sz p1 = 60 ∨ tkC b sz p1 = 61
    · rw [if_pos hc] at hx
      cases h2 : sumP b sz one (tkE b sz p1) with
      | inl f => rw [pb_l h2] at hx; cases hx; exact fl_sum h hf _ _ (tkE_le g1) h2
      | inr x =>
        obtain ⟨c2, v2, p2⟩ := x
        rw [pb_r h2] at hx; cases hx
    · rw [if_neg hc] at hx; cases hx
theorem fl_not {one : Nat → PR} {nt : Option (Nat → PR)} (h : goodP b sz one) (hf : flP b sz one) (hn : ∀ n, nt = some n → flP b sz n) : flP b sz (notP b sz one nt) := by
  intro p fl hp hx
  unfold notP at hx
  by_cases h11 : tkC b sz p = 11
  · rw [if_pos h11] at hx
    cases nt with
    | none => cases hx; exact tkB_le hp
    | some n =>
      have hx : pb (n (tkE b sz p)) _ = _ := hx
      cases h1 : n (tkE b sz p) with
      | inl f => rw [pb_l h1] at hx; cases hx; exact hn n rfl _ _ (tkE_le hp) h1
      | inr x =>
        obtain ⟨c1, v1, p1⟩ := x
        rw [pb_r h1] at hx; cases hx
  · rw [if_neg h11] at hx
    exact fl_cmp h hf _ _ hp hx
theorem fl_one {inner : Option ((Nat → PR) × (Nat → PR))} (hi : ∀ i, inner = some i → flP b sz i.1 ∧ goodP b sz i.2 ∧ flP b sz i.2) : flP b sz (oneP b sz inner) := by
  intro p fl hp hx
  unfold oneP at hx
  by_cases h12 : tkC b sz p = 12
  · rw [if_pos h12] at hx; cases hx
  rw [if_neg h12] at hx
  by_cases h5 : tkC b sz p ≤ 5
  · rw [if_pos h5] at hx; cases hx
  rw [if_neg h5] at hx
  by_cases h45 : tkC b sz p = 45
  · rw [if_pos h45] at hx
    cases inner with
    | none => cases hx; exact tkB_le hp
    | some i =>
      have hx : pb (i.1 (tkE b sz p)) _ = _ := hx
      cases h1 : i.1 (tkE b sz p) with
      | inl f => rw [pb_l h1] at hx; cases hx; exact (hi i rfl).1 _ _ (tkE_le hp) h1
      | inr x =>
        obtain ⟨c1, v1, p1⟩ := x
        rw [pb_r h1] at hx; cases hx
  rw [if_neg h45] at hx
  by_cases h40 : tkC b sz p = 40
  · rw [if_pos h40] at hx
    cases inner with
    | none => cases hx; exact tkB_le hp
    | some i =>
      have hx : pb (orP b sz i.2 (tkE b sz p)) _ = _ := hx
      cases h1 : orP b sz i.2 (tkE b sz p) with
      | inl f => rw [pb_l h1] at hx; cases hx; exact fl_or (hi i rfl).2.1 (hi i rfl).2.2 _ _ (tkE_le hp) h1
      | inr x =>
        obtain ⟨c1, v1, p1⟩ := x
        rw [pb_r h1] at hx
        by_cases h41 : tkC b sz p1 = 41
        · rw [if_pos h41] at hx; cases hx
        · rw [if_neg h41] at hx; cases hx; exact tkB_le (good_or (hi i rfl).2.1 _ _ _ _ (tkE_le hp) h1).1
  · rw [if_neg h40] at hx; cases hx; exact tkB_le hp
theorem fl_lvl : ∀ r, flP b sz (lvl b sz r).1 ∧ flP b sz (lvl b sz r).2
  | 0 => by
    have h1 : flP b sz (oneP b sz none) := fl_one (fun i h => by cases h)
    exact ⟨h1, fl_not (nt := none) (good_lvl 0).1 h1 (fun n h => by cases h)⟩
  | r + 1 => by
    have ih := fl_lvl r
    have h1 : flP b sz (oneP b sz (some (lvl b sz r))) := fl_one (fun i h => by cases h; exact ⟨ih.1, (good_lvl r).2, ih.2⟩)
    exact ⟨h1, fl_not (nt := some (lvl b sz r).2) (good_lvl (r + 1)).1 h1 (fun n h => by cases h; exact ih.2)⟩
theorem fl_prt {k : Int} {p : Nat} (hp : p ≤ sz) : (∀ fl, prtP b sz k p = .inl fl → fl ≤ sz) ∧ (∀ c v p', prtP b sz k p = .inr (c, v, p') → p' ≤ sz) := by
  unfold prtP
  by_cases hc : tkC b sz p = 6 + k
  · rw [if_pos hc]
    cases hx : orP b sz (lvl b sz 5).2 (tkE b sz p) with
    | inl f =>
      rw [pbl]
      exact ⟨fun fl h => (by cases h; exact fl_or (good_lvl 5).2 (fl_lvl 5).2 _ _ (tkE_le hp) hx), fun c v p' h => (by cases h)⟩
    | inr x =>
      obtain ⟨c, v, p1⟩ := x
      have g := (good_or (good_lvl 5).2 _ _ _ _ (tkE_le hp) hx).1
      rw [pbr]
      by_cases h59 : tkC b sz p1 = 59
      · rw [if_pos h59]
        exact ⟨fun fl h => (by cases h), fun c v p' h => (by cases h; exact tkE_le g)⟩
      · rw [if_neg h59]
        exact ⟨fun fl h => (by cases h; exact tkB_le g), fun c v p' h => (by cases h)⟩
  · rw [if_neg hc]
    exact ⟨fun fl h => (by cases h; exact tkB_le hp), fun c v p' h => (by cases h)⟩
theorem txt_le {fl : Nat} (h : txtP b sz = .inl fl) (hz : sz ≤ 160) : fl ≤ sz := by
  unfold txtP at h
  have P0 := fl_prt (b := b) (sz := sz) (k := 0) (p := 0) (Nat.zero_le _)
  cases h0 : prtP b sz 0 0 with
  | inl f => rw [h0, tbl] at h; cases h; exact P0.1 _ h0
  | inr x =>
    obtain ⟨c0, v0, p1⟩ := x
    rw [h0, tbr] at h
    have P1 := fl_prt (b := b) (sz := sz) (k := 1) (p := p1) (P0.2 _ _ _ h0)
    cases h1 : prtP b sz 1 p1 with
    | inl f => rw [h1, tbl] at h; cases h; exact P1.1 _ h1
    | inr x =>
      obtain ⟨c1, v1, p2⟩ := x
      rw [h1, tbr] at h
      have P2 := fl_prt (b := b) (sz := sz) (k := 2) (p := p2) (P1.2 _ _ _ h1)
      cases h2 : prtP b sz 2 p2 with
      | inl f => rw [h2, tbl] at h; cases h; exact P2.1 _ h2
      | inr x =>
        obtain ⟨c2, v2, p3⟩ := x
        rw [h2, tbr] at h
        by_cases h13 : tkC b sz p3 = 13
        · rw [if_pos h13] at h; cases h
        · rw [if_neg h13] at h; cases h; exact tkB_le (P2.2 _ _ _ h2)
end FB
section PB
variable {ft : Ft} {n : Nat} {sm : Nat → Sem × Sem × Sem} {tn t : Nat} {s s' : Sg} {d : Nat}
theorem lanR_off {v : Sem × Sem × Sem} {eg : Bool} {l : Int} {set c : Nat} (hc : c < n) (hb : set.testBit c = true) : -1 ≤ (lanR ft v eg n l set).2.1 c ∧ (lanR ft v eg n l set).2.1 c ≤ 199 := by
  have hh := hist_run (ak := akS v ft) (eg := eg) (l := l) (cn_hist (n := n) (S := bitS set) (ft := ft)) 200
  have eR : runI ft (akS v ft) eg n l (bitS set) cn0 200 = lanR ft v eg n l set := by unfold lanR resI; rfl
  rw [eR] at hh
  have h1 := hh.1 c hc hb
  unfold hcar at h1
  omega
theorem carL_off {v : Sem × Sem × Sem} {eg : Bool} {ln : Nat → Nat} {c : Nat} (hc : c < n) : -1 ≤ (carL ft v eg n ln c).2.1 c ∧ (carL ft v eg n ln c).2.1 c ≤ 199 := by
  rw [carL_eq]
  exact lanR_off hc (setN_bit.mpr ⟨hc, rfl⟩)
theorem wi2s_sm : ∀ m : Nat, m < 201 → wi2s ((m : Int) - 1) = (m : Int) - 1 := by decide +kernel
theorem wi2s_id {x : Int} (h : -1 ≤ x ∧ x ≤ 199) : wi2s x = x := by
  have := wi2s_sm (x + 1).toNat (by omega)
  rw [show (((x + 1).toNat : Nat) : Int) - 1 = x by omega] at this
  exact this
theorem filmC {z1 : PV} {j : Nat} {v : Sem × Sem × Sem} {O : Nat → Int} (hO : ∀ c, c < n → -1 ≤ O c ∧ O c ≤ 199) : ∀ (k x : Nat) (s0 s : Sg), x + k = n → YC ft n v false s → s 30 j 1 = 1 → s 30 j 2 = (n : Int) → (∀ c, c < n → s 17 0 c = O c) → (∀ c, c < x → s 31 j c = O c) → frSC j s0 s → ∃ s', EV (d + 2) mX8_film (46, [vr 0 0, z1, vr 30 j, vi (x : Int)], [], s) = some (some (vi (n : Int)), s') ∧ s' 30 j 1 = 1 ∧ s' 30 j 2 = (n : Int) ∧ (∀ c, c < n → s' 31 j c = O c) ∧ frSC j s0 s' := by
  intro k
  induction k with
  | zero =>
    intro x s0 s hx hC h1 h2 h17 h31 hf
    have hx : x = n := by omega
    subst hx
    rw [qX8_film_46, YC_size hC, bI_s, if_neg (by omega), YC_size hC, bI_s]
    exact ⟨s, rfl, h1, h2, h31, hf⟩
  | succ k ih =>
    intro x s0 s hx hC h1 h2 h17 h31 hf
    have h6 := hC.2.1.1
    have hxn : x < n := by omega
    rw [qX8_film_46, YC_size hC, bI_s, if_pos (by omega), offC hC hxn, bI_s, putC (by rw [h2]; omega) (by rw [h2]; omega), bI_s, Int.toNat_natCast, h1, h17 x hxn, w32_id (by omega) (by omega), show (x : Int) + 1 = ((x + 1 : Nat) : Int) by omega]
    have en : nrw 1 (O x) = O x := by unfold nrw; rw [if_neg (by decide), if_pos rfl]; exact wi2s_id (hO x hxn)
    rw [en]
    refine ih (x + 1) s0 _ (by omega) (YC_fr hC ⟨fun c hc => up_c (by omega), by rw [up_c (by decide)]⟩) (by rw [up_c (by decide)]; exact h1) (by rw [up_c (by decide)]; exact h2) (by rw [up_c (by decide)]; exact h17) (fun c hc => ?_) (frSC_tr hf ⟨fun c _ q => up_c q, fun j' q => ⟨by rw [up_c (by decide)], up_j q⟩⟩)
    by_cases e : c = x
    · rw [e, up_hit]
    · rw [up_i e]; exact h31 c (by omega)
theorem filmR {j : Nat} {O : Nat → Int} (hj : j < 4) (h6 : n ≤ 6) : ∀ (k x : Nat) (s0 s : Sg), x + k = n → s 32 0 9 = (n : Int) → (∀ c, c < n → s 39 0 c = O c) → (∀ c, c < x → s 51 0 (40 * j + c) = O c) → (∀ c, c ≠ 51 → s c = s0 c) → (∀ i, ¬ (40 * j ≤ i ∧ i < 40 * j + 40) → s 51 0 i = s0 51 0 i) → ∃ s', EV d mX9_film (27, [vr 32 0, vi (j : Int), vi (x : Int)], [], s) = some (some (vi (n : Int)), s') ∧ (∀ c, c < n → s' 51 0 (40 * j + c) = O c) ∧ (∀ c, c ≠ 51 → s' c = s0 c) ∧ (∀ i, ¬ (40 * j ≤ i ∧ i < 40 * j + 40) → s' 51 0 i = s0 51 0 i) := by
  intro k
  induction k with
  | zero =>
    intro x s0 s hx h9 h39 h51 f1 f2
    have hx : x = n := by omega
    subst hx
    rw [qX9_film_27, h9, if_neg (by omega)]
    exact ⟨s, rfl, h51, f1, f2⟩
  | succ k ih =>
    intro x s0 s hx h9 h39 h51 f1 f2
    have e : w32 (w32 (40 * (j : Int)) + (x : Int)) = ((40 * j + x : Nat) : Int) := by rw [w32_id (x := 40 * (j : Int)) (by omega) (by omega), w32_id (by omega) (by omega)]; omega
    rw [qX9_film_27, h9, if_pos (by omega), if_pos (inbN (by omega)), e, if_pos (inbN (by omega)), Int.toNat_natCast, Int.toNat_natCast, h39 x (by omega), w32_id (by omega) (by omega), show (x : Int) + 1 = ((x + 1 : Nat) : Int) by omega]
    refine ih (x + 1) s0 _ (by omega) (by rw [up_c (by decide)]; exact h9) (by rw [up_c (by decide)]; exact h39) (fun c hc => ?_) (fun c hc => by rw [up_c hc]; exact f1 c hc) (fun i hi => by rw [up_i (by omega)]; exact f2 i hi)
    by_cases ec : c = x
    · rw [ec, up_hit]
    · rw [up_i (by omega)]; exact h51 c (by omega)
theorem INV_sh' {j : Nat} {s2 : Sg} (h : INVp ft n sm tn t s) (fc : ∀ c, c = 1 ∨ c = 3 ∨ c = 4 ∨ c = 6 ∨ c = 8 ∨ c = 12 ∨ c = 26 ∨ c = 28 ∨ c = 33 ∨ c = 34 ∨ c = 35 ∨ c = 36 ∨ c = 37 ∨ c = 47 → s2 c = s c) (f11 : s2 11 0 2 = s 11 0 2) (f13 : s2 13 0 14 = s 13 0 14) (f32 : ∀ i, i = 3 ∨ i = 4 ∨ i = 6 ∨ i = 9 ∨ i = 25 ∨ i = 38 ∨ i = 39 → s2 32 0 i = s 32 0 i) (fj : ∀ j', j' ≠ j → s2 30 j' = s 30 j' ∧ s2 31 j' = s 31 j' ∧ s2 48 0 j' = s 48 0 j' ∧ s2 49 0 j' = s 49 0 j' ∧ s2 50 0 j' = s 50 0 j') (f51 : ∀ i, ¬ (40 * j ≤ i ∧ i < 40 * j + 40) → s2 51 0 i = s 51 0 i) (g : sh1 j s2) : INVp ft n sm tn t s2 := by
  obtain ⟨⟨i1, i2, i3⟩, i4, ⟨i5, i6⟩, i7, i8, i9⟩ := h
  refine ⟨⟨ftC_fr i1 (fc 1 (by omega)) (fc 3 (by omega)), ftRf_fr i2 (f32 9 (by omega)) (fc 36 (by omega)) (fc 37 (by omega)), i3⟩, txB_fr i4 (fc 4 (by omega)) (fc 6 (by omega)) (fc 8 (by omega)) (fc 33 (by omega)) (fc 34 (by omega)) (f32 3 (by omega)) (f32 4 (by omega)), ⟨f13.trans i5, (f32 25 (by omega)).trans i6⟩, tpB_fr i7 f11 (fc 12 (by omega)) (fc 35 (by omega)) (f32 6 (by omega)), fun j' hj' => ?_, kpB_fr i9 (Nat.le_refl _) (fc 26 (by omega)) (fc 28 (by omega)) (fc 47 (by omega)) (f32 38 (by omega)) (f32 39 (by omega))⟩
  by_cases e : j' = j
  · rw [e]; exact g
  · obtain ⟨q1, q2, q3, q4⟩ := i8 j' hj'
    obtain ⟨k1, k2, k3, k4, k5⟩ := fj j' e
    unfold sh1
    rw [k1, k2, k3, k4, k5]
    refine ⟨q1, q2, q3, fun hn => ?_⟩
    obtain ⟨p1, p2, p3, p4⟩ := q4 hn
    refine ⟨p1, p2, p3, fun i hi => ?_⟩
    rw [f51 _ (by omega)]
    exact p4 i hi
theorem p_film (x : Int) : PAIR mX8_film mX9_film [vi x] := by
  intro s ⟨ft, n, sm, tn, t, h⟩
  by_cases hx : 0 ≤ x ∧ x < 4
  · obtain ⟨j, rfl⟩ : ∃ j : Nat, x = (j : Int) := ⟨x.toNat, by omega⟩
    have hj : j < 4 := by omega
    have h6 := h.1.2.2.1
    obtain ⟨s1, s2, a1, a2, a3, a4, a5, a6, a7⟩ := nowC (d := 52) (inv_YC h)
    have hI2 := INV_fr h (frI_now a5 a6)
    obtain ⟨s3, b1, b2, b3, b4, b5⟩ := becC (d := 59) (s := s2) (j := j) (m := n) (so := 1) (by omega)
    have hC3 : YC ft n (sm t) false s3 := YC_fr a4 ⟨fun c hc => b5.1 c (by omega) (by omega), by rw [b5.1 13 (by decide) (by decide)]⟩
    obtain ⟨s4, c1, c2, c3, c4, c5⟩ := filmC (d := 58) (z1 := vi (j : Int)) (j := j) (O := fun c => (carL ft (sm t) false n (lnF ft) c).2.1 c) (fun c hc => carL_off hc) n 0 s2 s3 (by omega) hC3 b2 b3 (fun c hc => by rw [b5.1 17 (by decide) (by decide)]; exact (a7.2 c hc).2.1) (fun c hc => by omega) b5
    -- the reference
    have hR4 : YR ft n (sm t) false s4 := YR_fr (inv_YR hI2) ⟨fun c hc => c5.1 c (by omega) (by omega), fun i _ => by rw [c5.1 32 (by decide) (by decide)]⟩
    obtain ⟨s5, d1, d2, d3⟩ := goesAllR (d := 12) hR4
    have h95 : s5 32 0 9 = (n : Int) := (d2.2 9 (by omega)).trans hR4.1.1
    obtain ⟨s6, e1, e2, e3, e4, e5, e6⟩ := shR (d := 57) (s := s5) (j := j) (m := n) (so := 1) hj (by omega) (by omega)
    have e32 : s6 32 = s5 32 := e6.1 32 (by decide) (by decide) (by decide) (by decide)
    obtain ⟨s7, g1, g2, g3, g4⟩ := filmR (d := 60) (j := j) (O := fun c => (carL ft (sm t) false n (lnF ft) c).2.1 c) hj h6 n 0 s6 s6 (by omega) (by rw [e32]; exact h95) (fun c hc => by rw [e6.1 39 (by decide) (by decide) (by decide) (by decide)]; exact (d3.2 c hc).2.1) (fun c hc => by omega) (fun _ _ => rfl) (fun _ _ => rfl)
    have f67 : frSR j s6 s7 := ⟨fun c _ _ _ q => g3 c q, fun i' _ => by rw [g3 48 (by decide), g3 49 (by decide), g3 50 (by decide)]; exact ⟨rfl, rfl, rfl⟩, g4⟩
    have _hI5 : ∀ c, c = 30 ∨ c = 31 → s5 c = s4 c := fun c hc => d2.1 c (by omega) (by omega) (by omega) (by omega) (by omega) (by omega) (by omega)
    refine ⟨vi (n : Int), s4, s7, ?_, ?_, ft, n, sm, tn, t, ?_⟩
    · rw [qX8_film, isShC, bI_s, b01, if_pos hx, a1, bV_s, a2, bI_s, if_pos (inbN hj), YC_size a4, bI_s, Int.toNat_natCast, b1, bV_s]
      exact c1
    · rw [qX9_film, isShR, bI_s, b01, if_pos hx, d1, bV_s, h95, e1, bI_s]
      exact g1
    · have fW : ∀ c, c ≠ 32 → c ≠ 38 → c ≠ 39 → c ≠ 40 → c ≠ 41 → c ≠ 42 → c ≠ 43 → s5 c = s4 c := d2.1
      have hI := frI_now a5 a6
      refine INV_sh' (j := j) h (fun c hc => ?_) ?_ ?_ (fun i hi => ?_) (fun j' hj' => ?_) (fun i hi => ?_) ?_
      · rw [f67.1 c (by omega) (by omega) (by omega) (by omega), e6.1 c (by omega) (by omega) (by omega) (by omega), fW c (by omega) (by omega) (by omega) (by omega) (by omega) (by omega) (by omega), c5.1 c (by omega) (by omega), hI.1 c (by omega)]
      · rw [f67.1 11 (by decide) (by decide) (by decide) (by decide), e6.1 11 (by decide) (by decide) (by decide) (by decide), fW 11 (by decide) (by decide) (by decide) (by decide) (by decide) (by decide) (by decide), c5.1 11 (by decide) (by decide), hI.2.1]
      · rw [f67.1 13 (by decide) (by decide) (by decide) (by decide), e6.1 13 (by decide) (by decide) (by decide) (by decide), fW 13 (by decide) (by decide) (by decide) (by decide) (by decide) (by decide) (by decide), c5.1 13 (by decide) (by decide), hI.2.2.1]
      · rw [f67.1 32 (by decide) (by decide) (by decide) (by decide), e32, d2.2 i (by omega), c5.1 32 (by decide) (by decide), hI.2.2.2 i hi]
      · obtain ⟨m1, m2, m3⟩ := e6.2.1 j' hj'
        obtain ⟨l1, l2, l3⟩ := f67.2.1 j' hj'
        rw [f67.1 30 (by decide) (by decide) (by decide) (by decide), e6.1 30 (by decide) (by decide) (by decide) (by decide), f67.1 31 (by decide) (by decide) (by decide) (by decide), e6.1 31 (by decide) (by decide) (by decide) (by decide), fW 30 (by decide) (by decide) (by decide) (by decide) (by decide) (by decide) (by decide), fW 31 (by decide) (by decide) (by decide) (by decide) (by decide) (by decide) (by decide), (c5.2 j' hj').1, (c5.2 j' hj').2, hI.1 30 (by omega), hI.1 31 (by omega), l1, l2, l3, m1, m2, m3, fW 48 (by decide) (by decide) (by decide) (by decide) (by decide) (by decide) (by decide), fW 49 (by decide) (by decide) (by decide) (by decide) (by decide) (by decide) (by decide), fW 50 (by decide) (by decide) (by decide) (by decide) (by decide) (by decide) (by decide), c5.1 48 (by decide) (by decide), c5.1 49 (by decide) (by decide), c5.1 50 (by decide) (by decide), hI.1 48 (by omega), hI.1 49 (by omega), hI.1 50 (by omega)]
        exact ⟨rfl, rfl, rfl, rfl, rfl⟩
      · rw [f67.2.2 i hi, e6.2.2 i hi, fW 51 (by decide) (by decide) (by decide) (by decide) (by decide) (by decide) (by decide), c5.1 51 (by decide) (by decide), hI.1 51 (by omega)]
      · unfold sh1
        rw [f67.1 30 (by decide) (by decide) (by decide) (by decide), f67.1 31 (by decide) (by decide) (by decide) (by decide), e6.1 30 (by decide) (by decide) (by decide) (by decide), e6.1 31 (by decide) (by decide) (by decide) (by decide), fW 30 (by decide) (by decide) (by decide) (by decide) (by decide) (by decide) (by decide), fW 31 (by decide) (by decide) (by decide) (by decide) (by decide) (by decide) (by decide), g3 48 (by decide), g3 49 (by decide), g3 50 (by decide), c2, c3, e2, e3, e4]
        refine ⟨by decide, by omega, fun q => absurd q (by decide), fun _ => ⟨rfl, rfl, rfl, fun i hi => ?_⟩⟩
        rw [g2 i (by omega), c4 i (by omega)]
  · refine ⟨vi (-2), s, s, ?_, ?_, ft, n, sm, tn, t, h⟩
    · rw [qX8_film, isShC, bI_s, b01, if_neg hx]
    · rw [qX9_film, isShR, bI_s, b01, if_neg hx]
theorem stands_row {k : Nat} {v : Sem} (h : stands t k v s) (h6 : s' 6 t = s 6 t) (h8 : s' 8 t = s 8 t) : stands t k v s' := by
  obtain ⟨w, c, x1, x2, x3, x4, x5, x6⟩ := h
  exact ⟨w, c, by rw [h8]; exact x1, x2, fun i hi => by rw [h6]; exact x3 i hi, by rw [h6]; exact x4, x5, x6⟩
/-- the tape is laid among the texts -/
theorem layR {b : Nat → Int} {sz : Nat} (h6 : tn < 6) (hz : sz ≤ 160) : ∀ (j x : Nat) (s0 s : Sg), x + j = sz → s 32 0 6 = (sz : Int) → s 32 0 3 = (tn : Int) → (∀ i, i < sz → s 35 0 i = b i) → (∀ c, c ≠ 33 → s c = s0 c) → (∀ i, i < x → s 33 0 (160 * tn + i) = b i) → (∀ i, i < 160 * tn → s 33 0 i = s0 33 0 i) → ∃ s', EV (d + 1) mX9_text (14, [vr 32 0, vi (x : Int)], [], s) = EV (d + 1) mX9_text (14, [vr 32 0, vi (sz : Int)], [], s') ∧ (∀ c, c ≠ 33 → s' c = s0 c) ∧ (∀ i, i < sz → s' 33 0 (160 * tn + i) = b i) ∧ (∀ i, i < 160 * tn → s' 33 0 i = s0 33 0 i) := by
  intro j
  induction j with
  | zero =>
    intro x s0 s hx e6 e3 hb f1 f2 f3
    have hx : x = sz := by omega
    subst hx
    exact ⟨s, rfl, f1, f2, f3⟩
  | succ j ih =>
    intro x s0 s hx e6 e3 hb f1 f2 f3
    have e : w32 (w32 (160 * (tn : Int)) + (x : Int)) = ((160 * tn + x : Nat) : Int) := by rw [w32_id (x := 160 * (tn : Int)) (by omega) (by omega), w32_id (by omega) (by omega)]; omega
    rw [qX9_text_14, e6, if_pos (by omega), if_pos (inbN (by omega)), e3, e, if_pos (inbN (by omega)), Int.toNat_natCast, Int.toNat_natCast, hb x (by omega), w32_id (by omega) (by omega), show (x : Int) + 1 = ((x + 1 : Nat) : Int) by omega]
    refine ih (x + 1) s0 _ (by omega) (by rw [up_c (by decide)]; exact e6) (by rw [up_c (by decide)]; exact e3) (by rw [up_c (by decide)]; exact hb) (fun c hc => by rw [up_c hc]; exact f1 c hc) (fun i hi => ?_) (fun i hi => by rw [up_i (by omega)]; exact f3 i hi)
    by_cases ei : i = x
    · rw [ei, up_hit]
    · rw [up_i (by omega)]; exact f2 i (by omega)
theorem p_text : PAIR mX8_text mX9_text [] := by
  intro s ⟨ft, n, sm, tn, t, h⟩
  have h' := h
  obtain ⟨⟨i1, i2, i3⟩, ⟨x1, x2, x3, x4, x5, x6, x7, x8, x9⟩, ⟨i5, i6⟩, ⟨b, sz, t1, t2, t3, t4⟩, i8, i9⟩ := h
  by_cases hfull : tn = 6
  · refine ⟨vi (-4), s, s, ?_, ?_, ft, n, sm, tn, t, h'⟩
    · rw [qX8_text, qX5_isFull, x4, if_neg (by omega), bI_s, if_neg i10]
    · rw [qX9_text, x7, if_pos (by omega)]
  have htn : tn < 6 := by omega
  have hbyt : bytC b sz s := ⟨t2, t1, fun i hi => (t4 i hi).1, fun i hi => (t4 i hi).2.2⟩
  have hT := textC (d := 59) (t := tn) (by omega) hbyt x4 htn
  -- the reference up to its reading, from any store that has the tape
  have hRef : ∀ s1 : Sg, s1 32 = s 32 → s1 33 = s 33 → s1 34 = s 34 → s1 35 = s 35 → ∃ s2, RUN 60 mX9_text [vr 32 0] s1 = bI (RUN 59 mX9_read [vr 32 0, vi (tn : Int), vi 0] s2) (fun r1 s1 => if (s1 32 0 23) = 0 then (some (some (vi (w32 ((w32 ((s1 32 0 3) + 1)) - 1))), (up s1 32 0 3 (w32 ((s1 32 0 3) + 1))))) else (some (some (vi (w32 ((-100) - (s1 32 0 24)))), s1))) ∧ s2 34 0 tn = (sz : Int) ∧ (∀ i, i < sz → s2 33 0 (160 * tn + i) = b i) ∧ (∀ i, i < 160 * tn → s2 33 0 i = s1 33 0 i) ∧ (∀ i, i ≠ tn → s2 34 0 i = s1 34 0 i) ∧ s2 32 0 6 = 0 ∧ (∀ i, i ≠ 6 → s2 32 0 i = s1 32 0 i) ∧ (∀ c, c ≠ 32 → c ≠ 33 → c ≠ 34 → s2 c = s1 c) := by
    intro s1 e32 e33 e34 e35
    obtain ⟨s2, a1, a2, a3, a4⟩ := layR (d := 59) (b := b) (sz := sz) htn t1 sz 0 s1 s1 (by omega) (by rw [e32]; exact t3) (by rw [e32]; exact x7) (fun i hi => by rw [e35]; exact (t4 i hi).2.1) (fun _ _ => rfl) (fun i hi => by omega) (fun _ _ => rfl)
    have k32 : s2 32 = s1 32 := a2 32 (by decide)
    refine ⟨up (up s2 34 0 tn (sz : Int)) 32 0 6 0, ?_, ?_, fun i hi => ?_, fun i hi => ?_, fun i hi => ?_, up_hit _ _ _ _ _, fun i hi => ?_, fun c q1 q2 q3 => ?_⟩
    · rw [qX9_text, e32, x7, if_neg (by omega), show EV 60 mX9_text (14, [vr 32 0, vi 0], [], s1) = _ from a1, qX9_text_14, k32, e32, t3, if_neg (by omega), x7, if_pos (inbN htn), Int.toNat_natCast]
    · rw [up_c (by decide), up_hit]
    · rw [up_c (by decide), up_c (by decide)]; exact a3 i hi
    · rw [up_c (by decide), up_c (by decide)]; exact a4 i hi
    · rw [up_c (by decide), up_i hi, a2 34 (by decide)]
    · rw [up_i hi, up_c (by decide), k32]
    · rw [up_c q1, up_c q3, a2 c q2]
  cases hx : txtP b sz with
  | inl fl =>
    obtain ⟨s1, a1, a2, a3⟩ := hT.1 fl hx
    have ec : ∀ c, c ≠ 4 → c ≠ 6 → c ≠ 8 → c ≠ 11 → s1 c = s c := fun c q1 q2 q3 q4 => funext (fun j => funext (fun i => a3 c j i (fun z => q4 z.1) (fun z => q1 z.1) (fun z => q2 z.1) (fun z => q3 z.1)))
    obtain ⟨s2, hs2, g2, gf⟩ : ∃ s2, up s1 11 0 2 0 = s2 ∧ s2 11 0 2 = 0 ∧ (∀ c, c ≠ 11 → s2 c = s1 c) := ⟨_, rfl, up_hit _ _ _ _ _, fun c hc => up_c hc⟩
    obtain ⟨s3, b1, b2, b3, b4, b5, b6, b7, b8⟩ := hRef s2 (by rw [gf 32 (by decide), ec 32 (by decide) (by decide) (by decide) (by decide)]) (by rw [gf 33 (by decide), ec 33 (by decide) (by decide) (by decide) (by decide)]) (by rw [gf 34 (by decide), ec 34 (by decide) (by decide) (by decide) (by decide)]) (by rw [gf 35 (by decide), ec 35 (by decide) (by decide) (by decide) (by decide)])
    obtain ⟨r, s4, c1, c2, c3, c4⟩ := (readR (b := b) (sz := sz) (d := 59) (t := tn) (which := 0) (s := s3) (env := fun k => s3 32 0 (10 + k)) (by omega) htn b2 t1 b3 (fun i hi => (t4 i hi).2.2) (fun k _ => rfl)).1 fl hx
    have hfl : (fl : Int) ≤ 160 := by
      have := txt_le hx t1
      omega
    have fc : ∀ c, c ≠ 4 → c ≠ 6 → c ≠ 8 → c ≠ 11 → c ≠ 32 → c ≠ 33 → c ≠ 34 → s4 c = s c := fun c q1 q2 q3 q4 q5 q6 q7 => by
      have : s4 c = s3 c := funext (fun j => funext (fun i => c4 c j i (fun z => q5 z.1)))
      rw [this, b8 c q5 q6 q7, gf c q4, ec c q1 q2 q3 q4]
    have f32 : ∀ i, ¬ (16 ≤ i ∧ i ≤ 24) → i ≠ 6 → s4 32 0 i = s 32 0 i := fun i q1 q2 => by
      rw [c4 32 0 i (fun z => q1 z.2.2), b7 i q2, gf 32 (by decide), ec 32 (by decide) (by decide) (by decide) (by decide)]
    have e4 : s4 4 = s1 4 := by
      have : s4 4 = s3 4 := funext (fun j => funext (fun i => c4 4 j i (by omega)))
      rw [this, b8 4 (by decide) (by decide) (by decide), gf 4 (by decide)]
    have e68 : ∀ c, c = 6 ∨ c = 8 → s4 c = s1 c := fun c hc => by
      have : s4 c = s3 c := funext (fun j => funext (fun i => c4 c j i (by omega)))
      rw [this, b8 c (by omega) (by omega) (by omega), gf c (by omega)]
    refine ⟨vi (-100 - (fl : Int)), s2, s4, ?_, ?_, ft, n, sm, tn, t, ⟨⟨ftC_fr i1 (fc 1 (by decide) (by decide) (by decide) (by decide) (by decide) (by decide) (by decide)) (fc 3 (by decide) (by decide) (by decide) (by decide) (by decide) (by decide) (by decide)), ftRf_fr i2 (f32 9 (by omega) (by decide)) (fc 36 (by decide) (by decide) (by decide) (by decide) (by decide) (by decide) (by decide)) (fc 37 (by decide) (by decide) (by decide) (by decide) (by decide) (by decide) (by decide)), i3⟩, ⟨x1, x2, x3, ?_, ?_, ?_, ?_, ?_, ?_⟩, ⟨?_, ?_⟩, ⟨b, 0, by omega, ?_, ?_, fun i hi => by omega⟩, ?_, ?_⟩⟩
    · rw [qX8_text, qX5_isFull, x4, if_pos (by omega), bI_s, if_pos i00, a1, bI_s, qX4_empty, bV_s, hs2, if_neg (by omega), w32_id (by omega) (by omega)]
    · rw [b1, c1, bI_s, if_neg (by omega), c3, w32_id (by omega) (by omega)]
    · rw [e4]; exact a2
    · rw [e4, a3 4 0 5 (by omega) (by omega) (by omega) (by omega)]; exact x5
    · intro t' ht k hk
      refine stands_row (x6 t' ht k hk) ?_ ?_
      · rw [e68 6 (by omega)]
        exact funext (fun i => a3 6 t' i (by omega) (by omega) (by omega) (by omega))
      · rw [e68 8 (by omega)]
        exact funext (fun i => a3 8 t' i (by omega) (by omega) (by omega) (by omega))
    · rw [f32 3 (by omega) (by decide)]; exact x7
    · rw [f32 4 (by omega) (by decide)]; exact x8
    · intro t' ht
      obtain ⟨b', sz', y1, y2, y3, y4, y5⟩ := x9 t' ht
      have e33 : s4 33 = s3 33 := funext (fun j => funext (fun i => c4 33 j i (by omega)))
      have e34 : s4 34 = s3 34 := funext (fun j => funext (fun i => c4 34 j i (by omega)))
      refine ⟨b', sz', ?_, y2, fun i hi => ?_, y4, y5⟩
      · rw [e34, b5 t' (by omega), gf 34 (by decide), ec 34 (by decide) (by decide) (by decide) (by decide)]; exact y1
      · rw [e33, b4 _ (by omega), gf 33 (by decide), ec 33 (by decide) (by decide) (by decide) (by decide)]; exact y3 i hi
    · rw [fc 13 (by decide) (by decide) (by decide) (by decide) (by decide) (by decide) (by decide)]; exact i5
    · rw [f32 25 (by omega) (by decide)]; exact i6
    · have : s4 11 = s3 11 := funext (fun j => funext (fun i => c4 11 j i (by omega)))
      rw [this, b8 11 (by decide) (by decide) (by decide)]; exact g2
    · rw [c4 32 0 6 (by omega)]; exact b6
    · exact shB_fr i8 (fc 30 (by decide) (by decide) (by decide) (by decide) (by decide) (by decide) (by decide)) (fc 31 (by decide) (by decide) (by decide) (by decide) (by decide) (by decide) (by decide)) (fc 48 (by decide) (by decide) (by decide) (by decide) (by decide) (by decide) (by decide)) (fc 49 (by decide) (by decide) (by decide) (by decide) (by decide) (by decide) (by decide)) (fc 50 (by decide) (by decide) (by decide) (by decide) (by decide) (by decide) (by decide)) (fc 51 (by decide) (by decide) (by decide) (by decide) (by decide) (by decide) (by decide))
    · exact kpB_fr i9 (Nat.le_refl _) (fc 26 (by decide) (by decide) (by decide) (by decide) (by decide) (by decide) (by decide)) (fc 28 (by decide) (by decide) (by decide) (by decide) (by decide) (by decide) (by decide)) (fc 47 (by decide) (by decide) (by decide) (by decide) (by decide) (by decide) (by decide)) (f32 38 (by omega) (by decide)) (f32 39 (by omega) (by decide))
  | inr v =>
    obtain ⟨v0, v1, v2⟩ := v
    obtain ⟨s1, a1, a2, d0, d1, d2, a3⟩ := hT.2 v0 v1 v2 hx
    have ec : ∀ c, c ≠ 4 → c ≠ 6 → c ≠ 8 → c ≠ 11 → s1 c = s c := fun c q1 q2 q3 q4 => funext (fun j => funext (fun i => a3 c j i (fun z => q4 z.1) (fun z => q1 z.1) (fun z => q2 z.1) (fun z => q3 z.1)))
    obtain ⟨s2, hs2, g2, gf⟩ : ∃ s2, up s1 11 0 2 0 = s2 ∧ s2 11 0 2 = 0 ∧ (∀ c, c ≠ 11 → s2 c = s1 c) := ⟨_, rfl, up_hit _ _ _ _ _, fun c hc => up_c hc⟩
    obtain ⟨s3, b1, b2, b3, b4, b5, b6, b7, b8⟩ := hRef s2 (by rw [gf 32 (by decide), ec 32 (by decide) (by decide) (by decide) (by decide)]) (by rw [gf 33 (by decide), ec 33 (by decide) (by decide) (by decide) (by decide)]) (by rw [gf 34 (by decide), ec 34 (by decide) (by decide) (by decide) (by decide)]) (by rw [gf 35 (by decide), ec 35 (by decide) (by decide) (by decide) (by decide)])
    obtain ⟨s4', c1, c2, c4⟩ := (readR (b := b) (sz := sz) (d := 59) (t := tn) (which := 0) (s := s3) (env := fun k => s3 32 0 (10 + k)) (by omega) htn b2 t1 b3 (fun i hi => (t4 i hi).2.2) (fun k _ => rfl)).2 (v0, v1, v2) hx
    have h3' : s4' 32 0 3 = (tn : Int) := by rw [c4 32 0 3 (by omega), b7 3 (by decide), gf 32 (by decide), ec 32 (by decide) (by decide) (by decide) (by decide)]; exact x7
    obtain ⟨s4, hs4, k3, kf, kc⟩ : ∃ s4, up s4' 32 0 3 ((tn : Int) + 1) = s4 ∧ s4 32 0 3 = ((tn + 1 : Nat) : Int) ∧ (∀ i, i ≠ 3 → s4 32 0 i = s4' 32 0 i) ∧ (∀ c, c ≠ 32 → s4 c = s4' c) := ⟨_, rfl, by rw [up_hit]; omega, fun i hi => up_i hi, fun c hc => up_c hc⟩
    have e43 : ∀ c, c ≠ 32 → s4 c = s3 c := fun c hc => by
      have : s4' c = s3 c := funext (fun j => funext (fun i => c4 c j i (fun z => hc z.1)))
      rw [kc c hc, this]
    have fc : ∀ c, c ≠ 4 → c ≠ 6 → c ≠ 8 → c ≠ 11 → c ≠ 32 → c ≠ 33 → c ≠ 34 → s4 c = s c := fun c q1 q2 q3 q4 q5 q6 q7 => by
      rw [e43 c q5, b8 c q5 q6 q7, gf c q4, ec c q1 q2 q3 q4]
    have f32 : ∀ i, ¬ (16 ≤ i ∧ i ≤ 24) → i ≠ 6 → i ≠ 3 → s4 32 0 i = s 32 0 i := fun i q1 q2 q3 => by
      rw [kf i q3, c4 32 0 i (fun z => q1 z.2.2), b7 i q2, gf 32 (by decide), ec 32 (by decide) (by decide) (by decide) (by decide)]
    have e1 : ∀ c, c = 4 ∨ c = 6 ∨ c = 8 → s4 c = s1 c := fun c hc => by
      rw [e43 c (by omega), b8 c (by omega) (by omega) (by omega), gf c (by omega)]
    refine ⟨vi (tn : Int), s2, s4, ?_, ?_, ft, n, (fun t' => if t' = tn then (v0, v1, v2) else sm t'), tn + 1, t, ⟨⟨ftC_fr i1 (fc 1 (by decide) (by decide) (by decide) (by decide) (by decide) (by decide) (by decide)) (fc 3 (by decide) (by decide) (by decide) (by decide) (by decide) (by decide) (by decide)), ftRf_fr i2 (f32 9 (by omega) (by decide) (by decide)) (fc 36 (by decide) (by decide) (by decide) (by decide) (by decide) (by decide) (by decide)) (fc 37 (by decide) (by decide) (by decide) (by decide) (by decide) (by decide) (by decide)), i3⟩, ⟨by omega, by omega, by omega, ?_, ?_, ?_, k3, ?_, ?_⟩, ⟨?_, ?_⟩, ⟨b, 0, by omega, ?_, ?_, fun i hi => by omega⟩, ?_, ?_⟩⟩
    · rw [qX8_text, qX5_isFull, x4, if_pos (by omega), bI_s, if_pos i00, a1, bI_s, qX4_empty, bV_s, hs2, if_pos rfl, qX5_size, bI_s, gf 4 (by decide), a2, w32_id (by omega) (by omega), show (tn : Int) + 1 - 1 = (tn : Int) by omega]
    · rw [b1, c1, bI_s, if_pos c2, h3', w32_id (x := (tn : Int) + 1) (by omega) (by omega), w32_id (by omega) (by omega), hs4, show (tn : Int) + 1 - 1 = (tn : Int) by omega]
    · rw [e1 4 (by omega), a2]; omega
    · rw [e1 4 (by omega), a3 4 0 5 (by omega) (by omega) (by omega) (by omega)]; exact x5
    · intro t' ht k hk
      dsimp only
      by_cases et : t' = tn
      · subst et
        have hk' : k = 0 ∨ k = 1 ∨ k = 2 := by omega
        rw [if_pos rfl]
        rcases hk' with rfl | rfl | rfl
        · exact stands_row d0 (by rw [e1 6 (by omega)]) (by rw [e1 8 (by omega)])
        · exact stands_row d1 (by rw [e1 6 (by omega)]) (by rw [e1 8 (by omega)])
        · exact stands_row d2 (by rw [e1 6 (by omega)]) (by rw [e1 8 (by omega)])
      · rw [if_neg et]
        refine stands_row (x6 t' (by omega) k hk) ?_ ?_
        · rw [e1 6 (by omega)]
          exact funext (fun i => a3 6 t' i (by omega) (by omega) (by omega) (by omega))
        · rw [e1 8 (by omega)]
          exact funext (fun i => a3 8 t' i (by omega) (by omega) (by omega) (by omega))
    · rw [f32 4 (by omega) (by decide) (by decide)]; exact x8
    · intro t' ht
      dsimp only
      by_cases et : t' = tn
      · subst et
        rw [if_pos rfl]
        exact ⟨b, sz, by rw [e43 34 (by decide)]; exact b2, t1, fun i hi => by rw [e43 33 (by decide)]; exact b3 i hi, fun i hi => (t4 i hi).2.2, hx⟩
      · rw [if_neg et]
        obtain ⟨b', sz', y1, y2, y3, y4, y5⟩ := x9 t' (by omega)
        refine ⟨b', sz', ?_, y2, fun i hi => ?_, y4, y5⟩
        · rw [e43 34 (by decide), b5 t' et, gf 34 (by decide), ec 34 (by decide) (by decide) (by decide) (by decide)]; exact y1
        · rw [e43 33 (by decide), b4 _ (by omega), gf 33 (by decide), ec 33 (by decide) (by decide) (by decide) (by decide)]; exact y3 i hi
    · rw [fc 13 (by decide) (by decide) (by decide) (by decide) (by decide) (by decide) (by decide)]; exact i5
    · rw [f32 25 (by omega) (by decide) (by decide)]; exact i6
    · rw [e43 11 (by decide), b8 11 (by decide) (by decide) (by decide)]; exact g2
    · rw [kf 6 (by decide), c4 32 0 6 (by omega)]; exact b6
    · exact shB_fr i8 (fc 30 (by decide) (by decide) (by decide) (by decide) (by decide) (by decide) (by decide)) (fc 31 (by decide) (by decide) (by decide) (by decide) (by decide) (by decide) (by decide)) (fc 48 (by decide) (by decide) (by decide) (by decide) (by decide) (by decide) (by decide)) (fc 49 (by decide) (by decide) (by decide) (by decide) (by decide) (by decide) (by decide)) (fc 50 (by decide) (by decide) (by decide) (by decide) (by decide) (by decide) (by decide)) (fc 51 (by decide) (by decide) (by decide) (by decide) (by decide) (by decide) (by decide))
    · have hk9 : kpB n (tn + 1) s := by
        obtain ⟨k1, k2⟩ := i9
        refine ⟨k1, ?_⟩
        rcases k2 with k2 | ⟨kn, kr, y1, y2, y3, y4, y5, y6⟩
        · exact Or.inl k2
        · exact Or.inr ⟨kn, kr, y1, y2, y3, y4, by omega, y6⟩
      exact kpB_fr hk9 (Nat.le_refl _) (fc 26 (by decide) (by decide) (by decide) (by decide) (by decide) (by decide) (by decide)) (fc 28 (by decide) (by decide) (by decide) (by decide) (by decide) (by decide) (by decide)) (fc 47 (by decide) (by decide) (by decide) (by decide) (by decide) (by decide) (by decide)) (f32 38 (by omega) (by decide) (by decide)) (f32 39 (by omega) (by decide) (by decide))
end PB
