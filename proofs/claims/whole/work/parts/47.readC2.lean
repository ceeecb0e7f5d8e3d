/-! PARSE 9: the class's readers, one by one -/
theorem i10 : ¬ ((1 : Int) = 0) := by decide
theorem i00 : (0 : Int) = 0 := rfl
section CR
variable {b : Nat → Int} {sz : Nat}
theorem okX_l {t w fl : Nat} {s s' : Sg} {r : Rs} (hr : r = some (some (vi 0), s')) (h : s' 11 0 5 = (fl : Int)) (hf : frC t w s s') : okX b sz t w (.inl fl) r s := ⟨fun f h' => (by cases h'; exact ⟨s', hr, h, hf⟩), fun c v p' h' => (by cases h')⟩
theorem okX_r {t w p' : Nat} {c : List Int} {v : Sem} {s s' : Sg} {r : Rs} (hr : r = some (some (vi 1), s')) (hh : HC b sz p' s') (hw : wrt t (w + c.length) s') (hc : cod t w c s') (hf : frC t w s s') : okX b sz t w (.inr (c, v, p')) r s := ⟨fun f h' => (by cases h'), fun c v p' h' => (by cases h'; exact ⟨s', hr, hh, hw, hc, hf⟩)⟩
theorem wrt_C {t w : Nat} {s s' : Sg} (h : wrt t w s) (hf : frT s s') : wrt t w s' := ⟨(hf 4 0 4 (by omega)).trans h.1, h.2.1, (hf 4 0 6 (by omega)).trans h.2.2⟩
theorem readTermC {o : Int} {K : Nat} {f : Nat → PR} (hk : 7 ≤ K) (hg : goodP b sz f) (hs : okC b sz K mX4_readOne o f) : okC b sz (K + 1) mX4_readTerm o (lstP b sz opMul f) := by
  intro d p t w s hd hb hh hp hw hwt
  obtain ⟨m, rfl⟩ : ∃ m, d = m + 1 := ⟨d - 1, by omega⟩
  rw [qX4_readTerm]
  have h1 := hs m p t w s (by omega) hb hh hp hw hwt
  unfold lstP
  cases hx : f p with
  | inl fl =>
    obtain ⟨s1, a1, a2, a3⟩ := h1.1 fl hx
    rw [a1, bI_s, if_pos i00, pbl]
    exact okX_l rfl a2 a3
  | inr x =>
    obtain ⟨c, v, p1⟩ := x
    obtain ⟨s1, a1, a2, a3, a4, a5⟩ := h1.2 c v p1 hx
    rw [a1, bI_s, if_neg i10, pbr]
    refine chainC (d := m) (p0 := p) (w0 := w) (K := K) (M := mX4_readOne) (o := o) (fun _ i s => EV (m + 1) mX4_readTerm (12, [vr 11 0, vi o, vi (i : Int)], [], s)) ok_mul hg hs (by omega) (by omega) ?_ ?_ 160 0 c v p1 UU s s1 rfl (bytC_C hb a5) a2 (hg _ _ _ _ hp hx) hwt a3 a4 a5
    · intro z i s hi hop
      refine ⟨UU, ?_⟩
      unfold opMul at hop ⊢
      by_cases h : s 11 0 4 = 42
      · rw [qX4_readTerm_12, if_pos (by omega), if_pos h, if_pos h, w32_id (by omega) (by omega)]
        rfl
      · rw [if_neg h] at hop; exact absurd rfl hop
    · intro z i s hi
      rw [qX4_readTerm_12]
      by_cases h2 : i < 160
      · rw [if_pos (by omega)]
        have hop := hi.resolve_left (by omega)
        unfold opMul at hop
        by_cases h : s 11 0 4 = 42
        · rw [if_pos h] at hop; exact absurd hop (by decide)
        · rw [if_neg h]
      · rw [if_neg (by omega)]
theorem readAndC {o : Int} {K : Nat} {f : Nat → PR} (hk : 7 ≤ K) (hg : goodP b sz f) (hs : okC b sz K mX4_readNot o f) : okC b sz (K + 1) mX4_readAnd o (lstP b sz opAnd f) := by
  intro d p t w s hd hb hh hp hw hwt
  obtain ⟨m, rfl⟩ : ∃ m, d = m + 1 := ⟨d - 1, by omega⟩
  rw [qX4_readAnd]
  have h1 := hs m p t w s (by omega) hb hh hp hw hwt
  unfold lstP
  cases hx : f p with
  | inl fl =>
    obtain ⟨s1, a1, a2, a3⟩ := h1.1 fl hx
    rw [a1, bI_s, if_pos i00, pbl]
    exact okX_l rfl a2 a3
  | inr x =>
    obtain ⟨c, v, p1⟩ := x
    obtain ⟨s1, a1, a2, a3, a4, a5⟩ := h1.2 c v p1 hx
    rw [a1, bI_s, if_neg i10, pbr]
    refine chainC (d := m) (p0 := p) (w0 := w) (K := K) (M := mX4_readNot) (o := o) (fun _ i s => EV (m + 1) mX4_readAnd (12, [vr 11 0, vi o, vi (i : Int)], [], s)) ok_and hg hs (by omega) (by omega) ?_ ?_ 160 0 c v p1 UU s s1 rfl (bytC_C hb a5) a2 (hg _ _ _ _ hp hx) hwt a3 a4 a5
    · intro z i s hi hop
      refine ⟨UU, ?_⟩
      unfold opAnd at hop ⊢
      by_cases h : s 11 0 4 = 10
      · rw [qX4_readAnd_12, if_pos (by omega), if_pos h, if_pos h, w32_id (by omega) (by omega)]
        rfl
      · rw [if_neg h] at hop; exact absurd rfl hop
    · intro z i s hi
      rw [qX4_readAnd_12]
      by_cases h2 : i < 160
      · rw [if_pos (by omega)]
        have hop := hi.resolve_left (by omega)
        unfold opAnd at hop
        by_cases h : s 11 0 4 = 10
        · rw [if_pos h] at hop; exact absurd hop (by decide)
        · rw [if_neg h]
      · rw [if_neg (by omega)]
theorem readOrC {o : Int} {K : Nat} {f : Nat → PR} (hk : 7 ≤ K) (hg : goodP b sz f) (hs : okC b sz K mX4_readAnd o f) : okC b sz (K + 1) mX4_readOr o (lstP b sz opOr f) := by
  intro d p t w s hd hb hh hp hw hwt
  obtain ⟨m, rfl⟩ : ∃ m, d = m + 1 := ⟨d - 1, by omega⟩
  rw [qX4_readOr]
  have h1 := hs m p t w s (by omega) hb hh hp hw hwt
  unfold lstP
  cases hx : f p with
  | inl fl =>
    obtain ⟨s1, a1, a2, a3⟩ := h1.1 fl hx
    rw [a1, bI_s, if_pos i00, pbl]
    exact okX_l rfl a2 a3
  | inr x =>
    obtain ⟨c, v, p1⟩ := x
    obtain ⟨s1, a1, a2, a3, a4, a5⟩ := h1.2 c v p1 hx
    rw [a1, bI_s, if_neg i10, pbr]
    refine chainC (d := m) (p0 := p) (w0 := w) (K := K) (M := mX4_readAnd) (o := o) (fun _ i s => EV (m + 1) mX4_readOr (12, [vr 11 0, vi o, vi (i : Int)], [], s)) ok_or hg hs (by omega) (by omega) ?_ ?_ 160 0 c v p1 UU s s1 rfl (bytC_C hb a5) a2 (hg _ _ _ _ hp hx) hwt a3 a4 a5
    · intro z i s hi hop
      refine ⟨UU, ?_⟩
      unfold opOr at hop ⊢
      by_cases h : s 11 0 4 = 9
      · rw [qX4_readOr_12, if_pos (by omega), if_pos h, if_pos h, w32_id (by omega) (by omega)]
        rfl
      · rw [if_neg h] at hop; exact absurd rfl hop
    · intro z i s hi
      rw [qX4_readOr_12]
      by_cases h2 : i < 160
      · rw [if_pos (by omega)]
        have hop := hi.resolve_left (by omega)
        unfold opOr at hop
        by_cases h : s 11 0 4 = 9
        · rw [if_pos h] at hop; exact absurd hop (by decide)
        · rw [if_neg h]
      · rw [if_neg (by omega)]
theorem readSumC {o : Int} {K : Nat} {f : Nat → PR} (hk : 7 ≤ K) (hg : goodP b sz f) (hs : okC b sz K mX4_readTerm o f) : okC b sz (K + 1) mX4_readSum o (lstP b sz opSum f) := by
  intro d p t w s hd hb hh hp hw hwt
  obtain ⟨m, rfl⟩ : ∃ m, d = m + 1 := ⟨d - 1, by omega⟩
  rw [qX4_readSum]
  have h1 := hs m p t w s (by omega) hb hh hp hw hwt
  unfold lstP
  cases hx : f p with
  | inl fl =>
    obtain ⟨s1, a1, a2, a3⟩ := h1.1 fl hx
    rw [a1, bI_s, if_pos i00, pbl]
    exact okX_l rfl a2 a3
  | inr x =>
    obtain ⟨c, v, p1⟩ := x
    obtain ⟨s1, a1, a2, a3, a4, a5⟩ := h1.2 c v p1 hx
    rw [a1, bI_s, if_neg i10, pbr]
    refine chainC (d := m) (p0 := p) (w0 := w) (K := K) (M := mX4_readTerm) (o := o) (fun z i s => EV (m + 1) mX4_readSum (12, [vr 11 0, vi o, vi (i : Int), z], [], s)) ok_sum hg hs (by omega) (by omega) ?_ ?_ 160 0 c v p1 UU s s1 rfl (bytC_C hb a5) a2 (hg _ _ _ _ hp hx) hwt a3 a4 a5
    · intro z i s hi hop
      refine ⟨vi (s 11 0 4), ?_⟩
      unfold opSum at hop ⊢
      by_cases h : s 11 0 4 = 43
      · rw [qX4_readSum_12, if_pos (by omega), if_pos h, qX4_readSum_37]
        simp only [if_pos h, qX4_readSum_73]
        rw [w32_id (by omega) (by omega)]
        rfl
      · rw [if_neg h] at hop
        by_cases h' : s 11 0 4 = 45
        · rw [qX4_readSum_12, if_pos (by omega), if_neg h, if_pos h', qX4_readSum_37]
          simp only [if_neg h, if_pos h', qX4_readSum_73]
          rw [w32_id (by omega) (by omega)]
          rfl
        · rw [if_neg h'] at hop; exact absurd rfl hop
    · intro z i s hi
      rw [qX4_readSum_12]
      by_cases h2 : i < 160
      · rw [if_pos (by omega)]
        have hop := hi.resolve_left (by omega)
        unfold opSum at hop
        by_cases h : s 11 0 4 = 43
        · rw [if_pos h] at hop; exact absurd hop (by decide)
        · rw [if_neg h] at hop ⊢
          by_cases h' : s 11 0 4 = 45
          · rw [if_pos h'] at hop; exact absurd hop (by decide)
          · rw [if_neg h']
      · rw [if_neg (by omega)]
/-- two sums, one sign between them: written behind -/
theorem readCmpC {o : Int} {K : Nat} {one : Nat → PR} (hk : 7 ≤ K) (hg : goodP b sz one) (hs : okC b sz K mX4_readSum o (sumP b sz one)) : okC b sz (K + 1) mX4_readComparison o (cmpP b sz one) := by
  intro d p t w s hd hb hh hp hw hwt
  obtain ⟨m, rfl⟩ : ∃ m, d = m + 1 := ⟨d - 1, by omega⟩
  have h160 := hb.2.1
  rw [qX4_readComparison]
  have h1 := hs m p t w s (by omega) hb hh hp hw hwt
  have hgs := good_sum hg
  unfold cmpP
  cases hx : sumP b sz one p with
  | inl fl =>
    obtain ⟨s1, a1, a2, a3⟩ := h1.1 fl hx
    rw [a1, bI_s, if_pos i00, pbl]
    exact okX_l rfl a2 a3
  | inr x =>
    obtain ⟨c, v, p1⟩ := x
    obtain ⟨s1, a1, a2, a3, a4, a5⟩ := h1.2 c v p1 hx
    have g1 := hgs _ _ _ _ hp hx
    rw [a1, bI_s, if_neg i10, pbr]
    have hb1 := bytC_C hb a5
    have e4 := a2.1
    by_cases hc : tkC b sz p1 = 60 ∨ tkC b sz p1 = 61
    · rw [if_pos hc]
      have hgo : okX b sz t w (pb (sumP b sz one (tkE b sz p1)) (fun c2 v2 p2 => .inr (c ++ c2 ++ [if tkC b sz p1 = 60 then -10 else -11], fun env => jn (if tkC b sz p1 = 60 then -10 else -11) (v env) (v2 env), p2))) (EV (m + 1) mX4_readComparison (30, [vr 11 0, vi o, UU], [], s1)) s := by
        obtain ⟨s2, g1', g2', g3', g4', g5'⟩ := stepH (d := m) (by omega) hb1 a2 g1.1 a3
        have hl := g1.2.1
        have hEB := tkEB g1.1 (show tkC b sz p1 ≠ 13 by omega)
        rw [qX4_readComparison_30, g1', bV_s]
        have h2 := hs m (tkE b sz p1) t (w + c.length) s2 (by omega) g3' g2' (tkE_le g1.1) g4' (by omega)
        have fS : frC t w s s2 := frC_tr a5 (frC_T (w := w + c.length) g5') (by omega)
        cases hy : sumP b sz one (tkE b sz p1) with
        | inl fl =>
          obtain ⟨s3, b1, b2, b3⟩ := h2.1 fl hy
          rw [b1, bI_s, if_pos i00, pbl]
          exact okX_l rfl b2 (frC_tr fS b3 (by omega))
        | inr x =>
          obtain ⟨c2, v2, p2⟩ := x
          obtain ⟨s3, b1, b2, b3, b4, b5⟩ := h2.2 c2 v2 p2 hy
          have g2 := hgs _ _ _ _ (tkE_le g1.1) hy
          have hl2 := g2.2.1
          have hz2 := tkB_le (b := b) g2.1
          rw [b1, bI_s, if_neg i10, pbr, e4]
          have hfin : ∀ x : Int, okX b sz t w (.inr (c ++ c2 ++ [x], (fun env => jn (if tkC b sz p1 = 60 then -10 else -11) (v env) (v2 env)), p2)) (EV (m + 1) mX4_readComparison (66, [vr 11 0, vi o, vi (tkC b sz p1)], [vi x, vr 4 0], s3)) s := by
            intro x
            obtain ⟨m', rfl⟩ : ∃ m', m = m' + 1 := ⟨m - 1, by omega⟩
            obtain ⟨s4, d1, d2, d3, d4, d5, d6⟩ := writeC (d := m') (x := x) b3 (by omega)
            rw [qX4_readComparison_66, d1, bV_s]
            refine okX_r rfl (HC_of b2 d5) ?_ ?_ (frC_tr (frC_tr fS b5 (by omega)) d4 (by omega))
            · rw [List.length_append, List.length_append]
              show wrt t (w + (c.length + c2.length + 1)) s4
              rw [show w + (c.length + c2.length + 1) = w + c.length + c2.length + 1 by omega]
              exact d2
            · refine cod_app (cod_app ?_ ?_) ?_
              · exact cod_fr (cod_fr (cod_fr a4 (frC_T (w := w + c.length) (t := t) g5') (Nat.le_refl _)) b5 (Nat.le_refl _)) d4 (by omega)
              · exact cod_fr b4 d4 (Nat.le_refl _)
              · rw [List.length_append, ← Nat.add_assoc]
                exact cod_one d3
          by_cases h60 : tkC b sz p1 = 60
          · have := hfin (-10)
            simp only [if_pos h60] at this ⊢
            exact this
          · have := hfin (-11)
            simp only [if_neg h60] at this ⊢
            exact this
      rw [e4]
      by_cases h60 : tkC b sz p1 = 60
      · simp only [if_pos h60] at hgo ⊢
        exact hgo
      · have h61 := hc.resolve_left h60
        simp only [if_neg h60, if_pos h61] at hgo ⊢
        exact hgo
    · rw [if_neg hc, e4, if_neg (by omega), if_neg (by omega)]
      exact okX_r rfl a2 a3 a4 a5
end CR
