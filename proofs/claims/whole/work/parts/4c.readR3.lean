/-! PARSE 14: the reference: atoms, levels, parts, a text -/
section RR
variable {b : Nat → Int} {sz : Nat}
theorem atomR {o : Int} {K : Nat} {inner : Option ((Nat → PR) × (Nat → PR))} (hk : 3 ≤ K) (ho : 0 ≤ o ∧ o ≤ 5) (hn : (inner = none ∧ o = 5) ∨ ∃ i, inner = some i ∧ 0 ≤ o ∧ o < 5 ∧ goodP b sz i.1 ∧ goodP b sz i.2 ∧ okR b sz K mX9_atom (o + 1) i.1 ∧ okR b sz K mX9_either (o + 1) (orP b sz i.2)) : okR b sz (K + 1) mX9_atom o (oneP b sz inner) := by
  intro d p t env s hd hr hp
  obtain ⟨m, rfl⟩ : ∃ m, d = m + 3 + 1 := ⟨d - 4, by omega⟩
  have hnn : 0 ≤ tkC b sz p := tcF_nn
  have hw := wcode_rg b (tkB b sz p) (teF b sz (tkB b sz p))
  have hkind := tk_c b sz (tkB b sz p)
  have hC : tcF b sz (tkB b sz p) = tkC b sz p := rfl
  rw [hC] at hkind
  obtain ⟨k1, k2, k3, k4, k5⟩ := hr.2.1
  rw [qX9_atom, signR hr.2.1 hr.2.2.1 (by decide), bI_s, b01]
  unfold oneP
  by_cases h45 : tkC b sz p = 45
  · rw [if_neg (show ¬ tkC b sz p = 12 by omega), if_neg (show ¬ tkC b sz p ≤ 5 by omega), if_pos h45, if_pos h45]
    obtain ⟨O1, O2⟩ := opensR (d := m + 3) (by omega) hr hp (by omega) ho
    rcases hn with ⟨rfl, ho5⟩ | ⟨i, rfl, ho1, ho2, hg1, hg2, hn1, hn2⟩
    · obtain ⟨s1, a1, a2, a3, a4⟩ := O1 ho5
      rw [a1, bI_s, if_pos i00]
      exact okRX_l rfl a2 a3 a4
    · obtain ⟨s1, a1, a2, a3⟩ := O2 ho2
      rw [a1, bI_s, if_neg i10]
      have h1 := hn1 (m + 3) (tkE b sz p) t env s1 (by omega) a2 (tkE_le hp)
      show okRX b sz t o env (pb (i.1 (tkE b sz p)) _) _ s
      cases hx : i.1 (tkE b sz p) with
      | inl fl =>
        obtain ⟨r, s2, c1, c2, c3, c4⟩ := h1.1 fl hx
        rw [c1, bI_s, pbl]
        exact okRX_l rfl (by rw [up_i (by decide)]; exact c2) (by rw [up_i (by decide)]; exact c3) (frR_r (frR_tr a3 c4) (by omega))
      | inr x =>
        obtain ⟨c, v, p1⟩ := x
        obtain ⟨s2, c1, c2, c3⟩ := h1.2 c v p1 hx
        rw [c1, bI_s, pbr]
        exact okRX_r (by show _ = some (some (vi (un (-15) (v env))), _); rw [show un (-15) (v env) = w32 (-(v env)) from by unfold un; rw [if_pos rfl]]) (closeR c2 ho) (frR_r (frR_tr a3 c3) (by omega))
  rw [if_neg h45 (α := Rs), signR hr.2.1 hr.2.2.1 (by decide), bI_s, b01]
  by_cases h40 : tkC b sz p = 40
  · rw [if_neg (show ¬ tkC b sz p = 12 by omega), if_neg (show ¬ tkC b sz p ≤ 5 by omega), if_neg h45, if_pos h40, if_pos h40]
    obtain ⟨O1, O2⟩ := opensR (d := m + 3) (by omega) hr hp (by omega) ho
    rcases hn with ⟨rfl, ho5⟩ | ⟨i, rfl, ho1, ho2, hg1, hg2, hn1, hn2⟩
    · obtain ⟨s1, a1, a2, a3, a4⟩ := O1 ho5
      rw [a1, bI_s, if_pos i00]
      exact okRX_l rfl a2 a3 a4
    · obtain ⟨s1, a1, a2, a3⟩ := O2 ho2
      rw [a1, bI_s, if_neg i10]
      have h1 := hn2 (m + 3) (tkE b sz p) t env s1 (by omega) a2 (tkE_le hp)
      show okRX b sz t o env (pb (orP b sz i.2 (tkE b sz p)) _) _ s
      cases hx : orP b sz i.2 (tkE b sz p) with
      | inl fl =>
        obtain ⟨r, s2, c1, c2, c3, c4⟩ := h1.1 fl hx
        rw [c1, bI_s, signB c2, bI_s, if_pos i00, failB c2, bV_s, qX9_atom_71, if_neg (show ¬ s2 32 0 23 = 0 by omega), pbl]
        exact okRX_l rfl (by rw [up_i (by decide)]; exact c2) (by rw [up_i (by decide)]; exact c3) (frR_r (frR_tr a3 c4) (by omega))
      | inr x =>
        obtain ⟨c, v, p1⟩ := x
        obtain ⟨s2, c1, c2, c3⟩ := h1.2 c v p1 hx
        have gg := good_or hg2 _ _ _ _ (tkE_le hp) hx
        rw [c1, bI_s, signR c2.2.1 c2.2.2.1 (by decide), bI_s, b01, pbr]
        by_cases h41 : tkC b sz p1 = 41
        · obtain ⟨s3, e1, e2, e3⟩ := nextH (d := m + 3) (o' := 0) (by omega) (closeR c2 ho) gg.1 (by omega)
          rw [if_pos h41, if_pos h41, qX9_atom_71, if_pos c2.2.2.1, e1, bV_s]
          exact okRX_r rfl e2 (frR_tr (frR_r (frR_tr a3 c3) (by omega)) e3)
        · obtain ⟨s3, e1, e2, e3, e4⟩ := failR (d := m + 3) c2
          rw [if_neg h41, if_neg h41, e1, bV_s, qX9_atom_71, if_neg (show ¬ s3 32 0 23 = 0 by omega)]
          exact okRX_l rfl (by rw [up_i (by decide)]; exact e2) (by rw [up_i (by decide)]; exact e3) (frR_r (frR_tr (frR_tr a3 c3) e4) (by omega))
  rw [if_neg h40 (α := Rs), if_pos hr.2.2.1]
  by_cases h12 : tkC b sz p = 12
  · have e2 : tkF b sz (tkB b sz p) = 2 := by omega
    obtain ⟨s1, g1, g2, g3⟩ := nextH (d := m + 3) (o' := 0) (by omega) hr hp (by omega)
    have hN := tkN_nn h12 hp
    have hW : s 32 0 21 = tkN b sz p := k4 e2
    rw [if_pos h12, if_pos (show s 32 0 19 = 2 by omega), g1, bV_s, hW, wl2i_id (by omega) (by omega)]
    exact okRX_r rfl g2 g3
  rw [if_neg (show ¬ s 32 0 19 = 2 by omega), if_neg h12, qX9_atom_123, if_pos hr.2.2.1]
  by_cases h1 : s 32 0 19 = 1
  · rw [if_pos h1]
    obtain ⟨n1, n2⟩ := nameR (d := m + 3) (by omega) hr hp
    by_cases h5 : tkC b sz p ≤ 5
    · obtain ⟨s1, g1, g2, g3⟩ := nextH (d := m + 3) (o' := 0) (by omega) hr hp (by omega)
      rw [if_pos h5, n1 h5, bI_s, if_pos hr.2.2.1, g1, bV_s]
      exact okRX_r rfl g2 g3
    · obtain ⟨s1, a1, a2, a3, a4⟩ := n2 (by omega)
      rw [if_neg h5, if_neg h45, if_neg h40, a1, bI_s, if_neg (show ¬ s1 32 0 23 = 0 by omega)]
      exact okRX_l rfl a2 a3 a4
  · obtain ⟨s1, a1, a2, a3, a4⟩ := failR (d := m + 3) hr
    rw [if_neg h1, qX9_atom_157, a1, bV_s, if_neg (show ¬ tkC b sz p ≤ 5 by omega), if_neg h45, if_neg h40]
    exact okRX_l rfl a2 a3 a4
theorem lvlR : ∀ (r : Nat) (o : Int), r ≤ 5 → o = 5 - (r : Int) → okR b sz (4 + 6 * r) mX9_atom o (lvl b sz r).1 ∧ okR b sz (7 + 6 * r) mX9_not o (lvl b sz r).2 ∧ okR b sz (9 + 6 * r) mX9_either o (orP b sz (lvl b sz r).2)
  | 0, o, hr, ho => by
    have g1 : goodP b sz (oneP b sz none) := (good_lvl 0).1
    have g2 : goodP b sz (notP b sz (oneP b sz none) none) := (good_lvl 0).2
    have h1 : okR b sz 4 mX9_atom o (oneP b sz none) := atomR (K := 3) (by omega) (by omega) (Or.inl ⟨rfl, by omega⟩)
    have h2 := notR (nt := none) (by omega) (by omega) g1 (sumR (by omega) (good_lst ok_mul g1) (termR (by omega) g1 h1)) (Or.inl ⟨rfl, by omega⟩)
    exact ⟨h1, h2, orR (by omega) (good_lst ok_and g2) (andR (by omega) g2 h2)⟩
  | r + 1, o, hr, ho => by
    obtain ⟨i1, i2, i3⟩ := lvlR r (o + 1) (by omega) (by omega)
    obtain ⟨j1, j2⟩ := good_lvl (b := b) (sz := sz) r
    have g1 : goodP b sz (oneP b sz (some (lvl b sz r))) := (good_lvl (r + 1)).1
    have g2 : goodP b sz (notP b sz (oneP b sz (some (lvl b sz r))) (some (lvl b sz r).2)) := (good_lvl (r + 1)).2
    have h1 : okR b sz (9 + 6 * r + 1) mX9_atom o (oneP b sz (some (lvl b sz r))) := atomR (K := 9 + 6 * r) (by omega) (by omega) (Or.inr ⟨_, rfl, by omega, by omega, j1, j2, fun d p t w s hd => i1 d p t w s (by omega), i3⟩)
    have h2 := notR (nt := some (lvl b sz r).2) (by omega) (by omega) g1 (sumR (by omega) (good_lst ok_mul g1) (termR (by omega) g1 h1)) (Or.inr ⟨_, rfl, by omega, by omega, j2, fun d p t w s hd => i2 d p t w s (by omega)⟩)
    have h4 := orR (by omega) (good_lst ok_and g2) (andR (by omega) g2 h2)
    have e1 : 4 + 6 * (r + 1) = 9 + 6 * r + 1 := by omega
    refine ⟨by rw [e1]; exact h1, ?_, ?_⟩
    · have e2 : 7 + 6 * (r + 1) = 9 + 6 * r + 1 + 1 + 1 + 1 := by omega
      rw [e2]; exact h2
    · have e2 : 9 + 6 * (r + 1) = 9 + 6 * r + 1 + 1 + 1 + 1 + 1 + 1 := by omega
      rw [e2]; exact h4
theorem partR {d p t k : Nat} {env : Nat → Int} {s : Sg} {r : Int} (hd : 41 ≤ d) (hk : k < 3) (hr : rdy b sz t p 0 env s) (hp : p ≤ sz) (hrv : r = if tkC b sz p = 6 + (k : Int) then 1 else 0) : okRX b sz t 0 env (prtP b sz (k : Int) p) (RUN d mX9_part [vr 32 0, vi r] s) s ∧ (∀ c v p', prtP b sz (k : Int) p = .inr (c, v, p') → p' ≤ sz) := by
  obtain ⟨m, rfl⟩ : ∃ m, d = m + 1 := ⟨d - 1, by omega⟩
  rw [qX9_part, hrv, b01]
  unfold prtP
  by_cases hc : tkC b sz p = 6 + (k : Int)
  · rw [if_pos hc, if_pos hc, qX9_part_8, if_pos hr.2.2.1]
    obtain ⟨s1, g1, g2, g3⟩ := nextH (d := m) (o' := 0) (by omega) hr hp (by omega)
    rw [g1, bV_s, qX9_part_19, if_pos g2.2.2.1]
    have hor := (lvlR (b := b) (sz := sz) 5 0 (by omega) (by decide)).2.2
    have h1 := hor m (tkE b sz p) t env s1 (by omega) g2 (tkE_le hp)
    cases hx : orP b sz (lvl b sz 5).2 (tkE b sz p) with
    | inl fl =>
      obtain ⟨r, s2, a1, a2, a3, a4⟩ := h1.1 fl hx
      rw [a1, bI_s, qX9_part_34, signB a2, bI_s, if_pos i00, failB a2, bV_s, qX9_part_48, if_neg (show ¬ s2 32 0 23 = 0 by omega), pbl]
      exact ⟨okRX_l rfl a2 a3 (frR_tr g3 a4), fun c v p' h => by cases h⟩
    | inr x =>
      obtain ⟨c, v, p1⟩ := x
      obtain ⟨s2, a1, a2, a3⟩ := h1.2 c v p1 hx
      have gg := good_or (good_lvl 5).2 _ _ _ _ (tkE_le hp) hx
      rw [a1, bI_s, qX9_part_34, signR a2.2.1 a2.2.2.1 (by decide), bI_s, b01, pbr]
      by_cases h59 : tkC b sz p1 = 59
      · obtain ⟨s3, e1, e2, e3⟩ := nextH (d := m) (o' := 0) (by omega) a2 gg.1 (by omega)
        rw [if_pos h59, if_pos h59, qX9_part_48, if_pos a2.2.2.1, e1, bV_s]
        exact ⟨okRX_r rfl e2 (frR_tr g3 (frR_tr a3 e3)), fun c v p' h => by cases h; exact tkE_le gg.1⟩
      · obtain ⟨s3, e1, e2, e3, e4⟩ := failR (d := m) a2
        rw [if_neg h59, if_neg h59, e1, bV_s, qX9_part_48, if_neg (show ¬ s3 32 0 23 = 0 by omega)]
        exact ⟨okRX_l rfl e2 e3 (frR_tr g3 (frR_tr a3 e4)), fun c v p' h => by cases h⟩
  · obtain ⟨s3, e1, e2, e3, e4⟩ := failR (d := m) hr
    rw [if_neg hc, if_neg hc, e1, bV_s, qX9_part_8, if_neg (show ¬ s3 32 0 23 = 0 by omega), qX9_part_19, if_neg (show ¬ s3 32 0 23 = 0 by omega), qX9_part_34, signB e2, bI_s, if_pos i00, failB e2, bV_s, qX9_part_48, if_neg (show ¬ s3 32 0 23 = 0 by omega)]
    exact ⟨okRX_l rfl e2 e3 e4, fun c v p' h => by cases h⟩
/-- what read() may change -/
def frD (s s' : Sg) : Prop := ∀ c j i, ¬ (c = 32 ∧ j = 0 ∧ 16 ≤ i ∧ i ≤ 24) → s' c j i = s c j i
theorem frD_R {s s' : Sg} (h : frR s s') : frD s s' := fun c j i hn => h c j i (fun q => hn ⟨q.1, q.2.1, by omega⟩)
theorem frD_tr {s1 s2 s3 : Sg} (h1 : frD s1 s2) (h2 : frD s2 s3) : frD s1 s3 := fun c j i h => (h2 c j i h).trans (h1 c j i h)
def semN (v : Sem × Sem × Sem) (k : Int) : Sem := if k = 0 then v.1 else if k = 1 then v.2.1 else v.2.2
theorem readR {d t : Nat} {env : Nat → Int} {s : Sg} {which : Int} (hd : 42 ≤ d) (ht : t < 6) (hsz : s 34 0 t = (sz : Int)) (h160 : sz ≤ 160) (hby : ∀ i, i < sz → s 33 0 (160 * t + i) = b i) (hrg : ∀ i, i < sz → 0 ≤ b i ∧ b i ≤ 255) (henv : ∀ k, k < 6 → s 32 0 (10 + k) = env k) :
    (∀ fl, txtP b sz = .inl fl → ∃ r s', RUN d mX9_read [vr 32 0, vi (t : Int), vi which] s = some (some (vi r), s') ∧ s' 32 0 23 = 1 ∧ s' 32 0 24 = (fl : Int) ∧ frD s s') ∧
    (∀ v, txtP b sz = .inr v → ∃ s', RUN d mX9_read [vr 32 0, vi (t : Int), vi which] s = some (some (vi (semN v which env)), s') ∧ s' 32 0 23 = 0 ∧ frD s s') := by
  obtain ⟨m, rfl⟩ : ∃ m, d = m + 2 + 1 := ⟨d - 3, by omega⟩
  rw [qX9_read, if_pos (show inb (t : Int) 6 by constructor <;> omega), Int.toNat_natCast, hsz, w32_id (by omega) (by omega)]
  obtain ⟨s1, hs1, hb1, h18, h22, h23, he1, hf1⟩ : ∃ s1, up (up (up (up (up s 32 0 16 (160 * (t : Int))) 32 0 17 (sz : Int)) 32 0 18 0) 32 0 22 0) 32 0 23 0 = s1 ∧ bytR b sz t s1 ∧ s1 32 0 18 = ((0 : Nat) : Int) ∧ s1 32 0 22 = 0 ∧ s1 32 0 23 = 0 ∧ (∀ k, k < 6 → s1 32 0 (10 + k) = env k) ∧ frD s s1 := by
    have hfr : ∀ c j i, ¬ (c = 32 ∧ j = 0 ∧ 16 ≤ i ∧ i ≤ 24) → up (up (up (up (up s 32 0 16 (160 * (t : Int))) 32 0 17 (sz : Int)) 32 0 18 0) 32 0 22 0) 32 0 23 0 c j i = s c j i := by
      intro c j i hn
      rw [up_ap, if_neg (fun q => hn ⟨q.1, q.2.1, by omega⟩), up_ap, if_neg (fun q => hn ⟨q.1, q.2.1, by omega⟩), up_ap, if_neg (fun q => hn ⟨q.1, q.2.1, by omega⟩), up_ap, if_neg (fun q => hn ⟨q.1, q.2.1, by omega⟩), up_ap, if_neg (fun q => hn ⟨q.1, q.2.1, by omega⟩)]
    refine ⟨_, rfl, ⟨?_, ?_, h160, ht, fun i hi => (hfr _ _ _ (by omega)).trans (hby i hi), hrg⟩, ?_, ?_, up_hit _ _ _ _ _, fun k hk => (hfr _ _ _ (by omega)).trans (henv k hk), hfr⟩
    · rw [up_i (by decide), up_i (by decide), up_i (by decide), up_i (by decide), up_hit]; omega
    · rw [up_i (by decide), up_i (by decide), up_i (by decide), up_hit]
    · rw [up_i (by decide), up_i (by decide), up_hit]; rfl
    · rw [up_i (by decide), up_hit]
  obtain ⟨s2, g1, g2, g3⟩ := nextR (d := m + 1) hb1 h18 (Nat.zero_le _)
  have r2 : rdy b sz t 0 0 env s2 := ⟨bytR_fr hb1 g3, g2, (g3 32 0 23 (by omega)).trans h23, (g3 32 0 22 (by omega)).trans h22, fun k hk => (g3 32 0 _ (by omega)).trans (he1 k hk)⟩
  have f2 : frD s s2 := frD_tr hf1 (frD_R (frR_N g3))
  rw [hs1, g1, bV_s, word_6 r2.1 r2.2.1 r2.2.2.1 (Nat.zero_le _), bI_s]
  obtain ⟨P0, Q0⟩ := partR (d := m + 2) (k := 0) (by omega) (by omega) r2 (Nat.zero_le _) (r := if tkC b sz 0 = 6 then 1 else 0) rfl
  have e0 : prtP b sz ((0 : Nat) : Int) 0 = prtP b sz 0 0 := rfl
  rw [e0] at P0 Q0
  unfold txtP
  cases hx0 : prtP b sz 0 0 with
  | inl fl =>
    obtain ⟨r, s3, a1, a2, a3, a4⟩ := P0.1 fl hx0
    rw [a1, bI_s, if_neg (show ¬ s3 32 0 23 = 0 by omega), qX9_read_95, if_neg (show ¬ s3 32 0 23 = 0 by omega), qX9_read_129, if_neg (show ¬ s3 32 0 23 = 0 by omega), qX9_read_149, tbl]
    refine ⟨fun f hf => ?_, fun v hf => (by cases hf)⟩
    cases hf
    have f3 := frD_tr f2 (frD_R a4)
    by_cases w0 : which = 0
    · rw [if_pos w0]; exact ⟨_, s3, rfl, a2, a3, f3⟩
    · rw [if_neg w0]
      by_cases w1 : which = 1
      · rw [if_pos w1]; exact ⟨_, s3, rfl, a2, a3, f3⟩
      · rw [if_neg w1]; exact ⟨_, s3, rfl, a2, a3, f3⟩
  | inr x =>
    obtain ⟨c0, v0, p1⟩ := x
    obtain ⟨s3, a1, r3, a4⟩ := P0.2 c0 v0 p1 hx0
    have hp1 := Q0 c0 v0 p1 hx0
    have f3 := frD_tr f2 (frD_R a4)
    rw [a1, bI_s, if_pos r3.2.2.1, word_7 r3.1 r3.2.1 r3.2.2.1 hp1, bI_s, tbr]
    obtain ⟨P1, Q1⟩ := partR (d := m + 2) (k := 1) (by omega) (by omega) r3 hp1 (r := if tkC b sz p1 = 7 then 1 else 0) rfl
    have e1 : prtP b sz ((1 : Nat) : Int) p1 = prtP b sz 1 p1 := rfl
    rw [e1] at P1 Q1
    cases hx1 : prtP b sz 1 p1 with
    | inl fl =>
      obtain ⟨r, s4, b1, b2, b3, b4⟩ := P1.1 fl hx1
      rw [b1, bI_s, qX9_read_95, if_neg (show ¬ s4 32 0 23 = 0 by omega), qX9_read_129, if_neg (show ¬ s4 32 0 23 = 0 by omega), qX9_read_149, tbl]
      refine ⟨fun f hf => ?_, fun v hf => (by cases hf)⟩
      cases hf
      have f4 := frD_tr f3 (frD_R b4)
      by_cases w0 : which = 0
      · rw [if_pos w0]; exact ⟨_, s4, rfl, b2, b3, f4⟩
      · rw [if_neg w0]
        by_cases w1 : which = 1
        · rw [if_pos w1]; exact ⟨_, s4, rfl, b2, b3, f4⟩
        · rw [if_neg w1]; exact ⟨_, s4, rfl, b2, b3, f4⟩
    | inr x =>
      obtain ⟨c1, v1, p2⟩ := x
      obtain ⟨s4, b1, r4, b4⟩ := P1.2 c1 v1 p2 hx1
      have hp2 := Q1 c1 v1 p2 hx1
      have f4 := frD_tr f3 (frD_R b4)
      rw [b1, bI_s, qX9_read_95, if_pos r4.2.2.1, word_8 r4.1 r4.2.1 r4.2.2.1 hp2, bI_s, tbr]
      obtain ⟨P2, Q2⟩ := partR (d := m + 2) (k := 2) (by omega) (by omega) r4 hp2 (r := if tkC b sz p2 = 8 then 1 else 0) rfl
      have e2 : prtP b sz ((2 : Nat) : Int) p2 = prtP b sz 2 p2 := rfl
      rw [e2] at P2 Q2
      cases hx2 : prtP b sz 2 p2 with
      | inl fl =>
        obtain ⟨r, s5, c1', c2', c3', c4'⟩ := P2.1 fl hx2
        rw [c1', bI_s, qX9_read_129, if_neg (show ¬ s5 32 0 23 = 0 by omega), qX9_read_149, tbl]
        refine ⟨fun f hf => ?_, fun v hf => (by cases hf)⟩
        cases hf
        have f5 := frD_tr f4 (frD_R c4')
        by_cases w0 : which = 0
        · rw [if_pos w0]; exact ⟨_, s5, rfl, c2', c3', f5⟩
        · rw [if_neg w0]
          by_cases w1 : which = 1
          · rw [if_pos w1]; exact ⟨_, s5, rfl, c2', c3', f5⟩
          · rw [if_neg w1]; exact ⟨_, s5, rfl, c2', c3', f5⟩
      | inr x =>
        obtain ⟨c2, v2, p3⟩ := x
        obtain ⟨s5, c1', r5, c4'⟩ := P2.2 c2 v2 p3 hx2
        have hp3 := Q2 c2 v2 p3 hx2
        have f5 := frD_tr f4 (frD_R c4')
        rw [c1', bI_s, qX9_read_129, if_pos r5.2.2.1, tbr]
        have hkind := tk_c b sz (tkB b sz p3)
        have hw := wcode_rg b (tkB b sz p3) (teF b sz (tkB b sz p3))
        have hC : tcF b sz (tkB b sz p3) = tkC b sz p3 := rfl
        rw [hC] at hkind
        have hK : s5 32 0 19 = tkF b sz (tkB b sz p3) := r5.2.1.1
        by_cases h13 : tkC b sz p3 = 13
        · rw [if_pos (show s5 32 0 19 = 0 by omega), if_pos h13, qX9_read_149]
          refine ⟨fun f hf => (by cases hf), fun v hf => ?_⟩
          cases hf
          unfold semN
          by_cases w0 : which = 0
          · rw [if_pos w0, if_pos w0]; exact ⟨s5, rfl, r5.2.2.1, f5⟩
          · rw [if_neg w0, if_neg w0]
            by_cases w1 : which = 1
            · rw [if_pos w1, if_pos w1]; exact ⟨s5, rfl, r5.2.2.1, f5⟩
            · rw [if_neg w1, if_neg w1]; exact ⟨s5, rfl, r5.2.2.1, f5⟩
        · obtain ⟨s6, d1, d2, d3, d4⟩ := failR (d := m + 2) r5
          rw [if_neg (show ¬ s5 32 0 19 = 0 by omega), if_neg h13, d1, bV_s, qX9_read_149]
          have f6 := frD_tr f5 (frD_R d4)
          refine ⟨fun f hf => ?_, fun v hf => (by cases hf)⟩
          cases hf
          by_cases w0 : which = 0
          · rw [if_pos w0]; exact ⟨_, s6, rfl, d2, d3, f6⟩
          · rw [if_neg w0]
            by_cases w1 : which = 1
            · rw [if_pos w1]; exact ⟨_, s6, rfl, d2, d3, f6⟩
            · rw [if_neg w1]; exact ⟨_, s6, rfl, d2, d3, f6⟩
end RR
