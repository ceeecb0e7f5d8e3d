/-! PARSE 10: the class's readers: not, one, the levels, parts, the text -/
section CR
variable {b : Nat → Int} {sz : Nat}
/-- one more written behind what has been read -/
theorem wr1 {m t w p1 : Nat} {c : List Int} {v v' : Sem} {x : Int} {s s1 : Sg} {k : Sg → Rs} (hk : ∀ s, k s = some (some (vi 1), s)) (hm : 1 ≤ m) (hz : w + c.length < 160) (a2 : HC b sz p1 s1) (a3 : wrt t (w + c.length) s1) (a4 : cod t w c s1) (a5 : frC t w s s1) : okX b sz t w (.inr (c ++ [x], v', p1)) (bV (RUN m mX5_write [vr 4 0, vi x] s1) k) s := by
  obtain ⟨m', rfl⟩ : ∃ m', m = m' + 1 := ⟨m - 1, by omega⟩
  obtain ⟨s4, d1, d2, d3, d4, d5, d6⟩ := writeC (d := m') (x := x) a3 hz
  rw [d1, bV_s, hk]
  refine okX_r rfl (HC_of a2 d5) ?_ ?_ (frC_tr a5 d4 (by omega))
  · rw [List.length_append]
    exact d2
  · exact cod_app (cod_fr a4 d4 (Nat.le_refl _)) (cod_one d3)
theorem okX_mono {t w w' : Nat} {x : PR} {r : Rs} {s s1 : Sg} (hf : frC t w s s1) (h : okX b sz t w x r s1) : okX b sz t w x r s := ⟨fun fl hx => by
    obtain ⟨s', a1, a2, a3⟩ := h.1 fl hx
    exact ⟨s', a1, a2, frC_tr hf a3 (Nat.le_refl _)⟩, fun c v p' hx => by
    obtain ⟨s', a1, a2, a3, a4, a5⟩ := h.2 c v p' hx
    exact ⟨s', a1, a2, a3, a4, frC_tr hf a5 (Nat.le_refl _)⟩⟩
theorem okX_id {t w : Nat} {x : PR} {r : Rs} {s : Sg} (h : okX b sz t w x r s) : okX b sz t w x (bI r (fun r4 s4 => if 0 ≤ r4 ∧ r4 ≤ 1 then some (some (vi r4), s4) else none)) s := ⟨fun fl hx => by
    obtain ⟨s', a1, a2, a3⟩ := h.1 fl hx
    refine ⟨s', ?_, a2, a3⟩
    rw [a1, bI_s, if_pos (by decide)], fun c v p' hx => by
    obtain ⟨s', a1, a2⟩ := h.2 c v p' hx
    refine ⟨s', ?_, a2⟩
    rw [a1, bI_s, if_pos (by decide)]⟩
theorem readNotC {o : Int} {K : Nat} {one : Nat → PR} {nt : Option (Nat → PR)} (hk : 7 ≤ K) (hs : okC b sz K mX4_readComparison o (cmpP b sz one)) (hn : (nt = none ∧ o = 5) ∨ ∃ n, nt = some n ∧ 0 ≤ o ∧ o < 5 ∧ goodP b sz n ∧ okC b sz K mX4_readNot (o + 1) n) : okC b sz (K + 1) mX4_readNot o (notP b sz one nt) := by
  intro d p t w s hd hb hh hp hw hwt
  obtain ⟨m, rfl⟩ : ∃ m, d = m + 1 := ⟨d - 1, by omega⟩
  have h160 := hb.2.1
  rw [qX4_readNot, hh.1]
  unfold notP
  by_cases h11 : tkC b sz p = 11
  · rw [if_pos h11, if_pos h11]
    rcases hn with ⟨rfl, ho⟩ | ⟨n, rfl, ho1, ho2, hg, hn⟩
    · rw [if_neg (by omega)]
      exact okX_l rfl hh.2.1 (frC_refl s)
    · obtain ⟨s1, g1, g2, g3, g4, g5⟩ := stepH (d := m) (by omega) hb hh hp hw
      rw [if_pos ho2, g1, bV_s, w32_id (by omega) (by omega)]
      have hEB := tkEB hp (show tkC b sz p ≠ 13 by omega)
      have h1 := hn m (tkE b sz p) t w s1 (by omega) g3 g2 (tkE_le hp) g4 (by omega)
      show okX b sz t w (pb (n (tkE b sz p)) _) _ s
      cases hx : n (tkE b sz p) with
      | inl fl =>
        obtain ⟨s2, a1, a2, a3⟩ := h1.1 fl hx
        rw [a1, bI_s, if_pos i00, pbl]
        exact okX_l rfl a2 (frC_tr (frC_T g5) a3 (Nat.le_refl _))
      | inr x =>
        obtain ⟨c, v, p1⟩ := x
        obtain ⟨s2, a1, a2, a3, a4, a5⟩ := h1.2 c v p1 hx
        have gg := hg _ _ _ _ (tkE_le hp) hx
        have g1' := gg.2.1
        have g2' := tkB_le (b := b) gg.1
        rw [a1, bI_s, if_neg i10, pbr]
        exact wr1 (v := v) (fun s => rfl) (by omega) (by omega) a2 a3 a4 (frC_tr (frC_T g5) a5 (Nat.le_refl _))
  · rw [if_neg h11, if_neg h11]
    exact okX_id (hs m p t w s (by omega) hb hh hp hw hwt)
theorem readOneC {o : Int} {K : Nat} {inner : Option ((Nat → PR) × (Nat → PR))} (hk : 7 ≤ K) (hn : (inner = none ∧ o = 5) ∨ ∃ i, inner = some i ∧ 0 ≤ o ∧ o < 5 ∧ goodP b sz i.1 ∧ goodP b sz i.2 ∧ okC b sz K mX4_readOne (o + 1) i.1 ∧ okC b sz K mX4_readOr (o + 1) (orP b sz i.2)) : okC b sz (K + 2) mX4_readOne o (oneP b sz inner) := by
  intro d p t w s hd hb hh hp hw hwt
  obtain ⟨m, rfl⟩ : ∃ m, d = m + 1 + 1 := ⟨d - 2, by omega⟩
  have h160 := hb.2.1
  have hnn : 0 ≤ tkC b sz p := tcF_nn
  have hBz := tkB_le (b := b) hp
  rw [qX4_readOne, hh.1]
  unfold oneP
  by_cases h12 : tkC b sz p = 12
  · have hBE := tkE_gt hp (show tkC b sz p ≠ 13 by omega)
    have hEz := tkE_le (b := b) hp
    rw [if_pos h12, if_pos h12, hh.2.2.2 h12]
    obtain ⟨s4, d1, d2, d3, d4, d5, d6⟩ := writeC (d := m) (x := tkN b sz p) hw (by omega)
    obtain ⟨s1, g1, g2, g3, g4, g5⟩ := stepH (d := m + 1) (by omega) (bytC_C hb d4) (HC_of hh d5) hp d2
    rw [d1, bV_s, g1, bV_s]
    exact okX_r rfl g2 g4 (cod_fr (cod_one d3) (frC_T (w := w + 1) g5) (Nat.le_refl _)) (frC_tr d4 (frC_T (w := w + 1) g5) (by omega))
  rw [if_neg h12, if_neg h12]
  by_cases h5 : tkC b sz p ≤ 5
  · have hBE := tkE_gt hp (show tkC b sz p ≠ 13 by omega)
    have hEz := tkE_le (b := b) hp
    rw [if_pos h5, if_neg (show ¬ 5 < tkC b sz p by omega), w32_id (by omega) (by omega)]
    obtain ⟨s4, d1, d2, d3, d4, d5, d6⟩ := writeC (d := m) (x := -1 - tkC b sz p) hw (by omega)
    obtain ⟨s1, g1, g2, g3, g4, g5⟩ := stepH (d := m + 1) (by omega) (bytC_C hb d4) (HC_of hh d5) hp d2
    rw [d1, bV_s, g1, bV_s]
    exact okX_r rfl g2 g4 (cod_fr (cod_one d3) (frC_T (w := w + 1) g5) (Nat.le_refl _)) (frC_tr d4 (frC_T (w := w + 1) g5) (by omega))
  rw [if_pos (show 5 < tkC b sz p by omega), if_neg h5]
  by_cases h45 : tkC b sz p = 45
  · rw [if_pos h45, if_pos h45, qX4_readOne_71, hh.1, if_pos h45]
    rcases hn with ⟨rfl, ho⟩ | ⟨i, rfl, ho1, ho2, hg1, hg2, hn1, hn2⟩
    · rw [if_neg (by omega)]
      exact okX_l rfl hh.2.1 (frC_refl s)
    · obtain ⟨s1, g1, g2, g3, g4, g5⟩ := stepH (d := m + 1) (by omega) hb hh hp hw
      rw [if_pos ho2, qX4_readOne_92, g1, bV_s, if_neg i10, w32_id (by omega) (by omega)]
      have hEB := tkEB hp (show tkC b sz p ≠ 13 by omega)
      have h1 := hn1 m (tkE b sz p) t w s1 (by omega) g3 g2 (tkE_le hp) g4 (by omega)
      refine okX_id ?_
      show okX b sz t w (pb (i.1 (tkE b sz p)) _) _ s
      rw [qX4_readNegated]
      cases hx : i.1 (tkE b sz p) with
      | inl fl =>
        obtain ⟨s2, a1, a2, a3⟩ := h1.1 fl hx
        rw [a1, bI_s, if_pos i00, pbl]
        exact okX_l rfl a2 (frC_tr (frC_T g5) a3 (Nat.le_refl _))
      | inr x =>
        obtain ⟨c, v, p1⟩ := x
        obtain ⟨s2, a1, a2, a3, a4, a5⟩ := h1.2 c v p1 hx
        have gg := hg1 _ _ _ _ (tkE_le hp) hx
        have g1' := gg.2.1
        have g2' := tkB_le (b := b) gg.1
        rw [a1, bI_s, if_neg i10, pbr]
        exact wr1 (v := v) (fun s => rfl) (by omega) (by omega) a2 a3 a4 (frC_tr (frC_T g5) a5 (Nat.le_refl _))
  rw [if_neg h45, if_neg h45]
  by_cases h40 : tkC b sz p = 40
  · rw [if_pos h40, if_pos h40, qX4_readOne_71, hh.1, if_neg h45]
    rcases hn with ⟨rfl, ho⟩ | ⟨i, rfl, ho1, ho2, hg1, hg2, hn1, hn2⟩
    · rw [if_neg (by omega)]
      exact okX_l rfl hh.2.1 (frC_refl s)
    · obtain ⟨s1, g1, g2, g3, g4, g5⟩ := stepH (d := m + 1) (by omega) hb hh hp hw
      rw [if_pos ho2, qX4_readOne_92, g1, bV_s, if_pos i00, w32_id (by omega) (by omega)]
      have hEB := tkEB hp (show tkC b sz p ≠ 13 by omega)
      have h1 := hn2 m (tkE b sz p) t w s1 (by omega) g3 g2 (tkE_le hp) g4 (by omega)
      refine okX_id ?_
      show okX b sz t w (pb (orP b sz i.2 (tkE b sz p)) _) _ s
      rw [qX4_readEnclosed]
      cases hx : orP b sz i.2 (tkE b sz p) with
      | inl fl =>
        obtain ⟨s2, a1, a2, a3⟩ := h1.1 fl hx
        rw [a1, bI_s, if_pos i00, pbl]
        exact okX_l rfl a2 (frC_tr (frC_T g5) a3 (Nat.le_refl _))
      | inr x =>
        obtain ⟨c, v, p1⟩ := x
        obtain ⟨s2, a1, a2, a3, a4, a5⟩ := h1.2 c v p1 hx
        have gg := good_or hg2 _ _ _ _ (tkE_le hp) hx
        rw [a1, bI_s, if_neg i10, pbr, a2.1]
        have fS : frC t w s s2 := frC_tr (frC_T g5) a5 (Nat.le_refl _)
        by_cases h41 : tkC b sz p1 = 41
        · obtain ⟨s3, e1, e2, e3, e4, e5⟩ := stepH (d := m) (by omega) (bytC_C g3 a5) a2 gg.1 a3
          rw [if_pos h41, if_pos h41, e1, bV_s]
          exact okX_r rfl e2 e4 (cod_fr a4 (frC_T (w := w + c.length) e5) (Nat.le_refl _)) (frC_tr fS (frC_T (w := w + c.length) e5) (by omega))
        · rw [if_neg h41, if_neg h41]
          exact okX_l rfl a2.2.1 fS
  · rw [if_neg h40, if_neg h40]
    exact okX_l rfl hh.2.1 (frC_refl s)
theorem lvlC : ∀ (r : Nat) (o : Int), r ≤ 5 → o = 5 - (r : Int) → okC b sz (9 + 8 * r) mX4_readOne o (lvl b sz r).1 ∧ okC b sz (13 + 8 * r) mX4_readNot o (lvl b sz r).2 ∧ okC b sz (15 + 8 * r) mX4_readOr o (orP b sz (lvl b sz r).2)
  | 0, o, hr, ho => by
    have g1 : goodP b sz (oneP b sz none) := (good_lvl 0).1
    have g2 : goodP b sz (notP b sz (oneP b sz none) none) := (good_lvl 0).2
    have h1 : okC b sz 9 mX4_readOne o (oneP b sz none) := readOneC (K := 7) (by omega) (Or.inl ⟨rfl, by omega⟩)
    have h2 := readNotC (nt := none) (by omega) (readCmpC (by omega) g1 (readSumC (by omega) (good_lst ok_mul g1) (readTermC (by omega) g1 h1))) (Or.inl ⟨rfl, by omega⟩)
    exact ⟨h1, h2, readOrC (by omega) (good_lst ok_and g2) (readAndC (by omega) g2 h2)⟩
  | r + 1, o, hr, ho => by
    obtain ⟨i1, i2, i3⟩ := lvlC r (o + 1) (by omega) (by omega)
    obtain ⟨j1, j2⟩ := good_lvl (b := b) (sz := sz) r
    have g1 : goodP b sz (oneP b sz (some (lvl b sz r))) := (good_lvl (r + 1)).1
    have g2 : goodP b sz (notP b sz (oneP b sz (some (lvl b sz r))) (some (lvl b sz r).2)) := (good_lvl (r + 1)).2
    have h1 : okC b sz (15 + 8 * r + 2) mX4_readOne o (oneP b sz (some (lvl b sz r))) := readOneC (K := 15 + 8 * r) (by omega) (Or.inr ⟨_, rfl, by omega, by omega, j1, j2, fun d p t w s hd => i1 d p t w s (by omega), i3⟩)
    have h3 := readCmpC (by omega) g1 (readSumC (by omega) (good_lst ok_mul g1) (readTermC (by omega) g1 h1))
    have h2 := readNotC (nt := some (lvl b sz r).2) (by omega) h3 (Or.inr ⟨_, rfl, by omega, by omega, j2, fun d p t w s hd => i2 d p t w s (by omega)⟩)
    have h4 := readOrC (by omega) (good_lst ok_and g2) (readAndC (by omega) g2 h2)
    have e1 : 9 + 8 * (r + 1) = 15 + 8 * r + 2 := by omega
    refine ⟨by rw [e1]; exact h1, ?_, ?_⟩
    · have e2 : 13 + 8 * (r + 1) = 15 + 8 * r + 2 + 1 + 1 + 1 + 1 := by omega
      rw [e2]; exact h2
    · have e2 : 15 + 8 * (r + 1) = 15 + 8 * r + 2 + 1 + 1 + 1 + 1 + 1 + 1 := by omega
      rw [e2]; exact h4
end CR
