/-! PARSE 11: the class reads a part, a text -/
abbrev TX : Type := Nat ⊕ (Sem × Sem × Sem)
def tb (r : PR) (k : Sem → Nat → TX) : TX := match r with | .inl f => .inl f | .inr x => k x.2.1 x.2.2
theorem tbl {k : Sem → Nat → TX} {f : Nat} : tb (.inl f) k = .inl f := rfl
theorem tbr {k : Sem → Nat → TX} {c : List Int} {v : Sem} {p : Nat} : tb (.inr (c, v, p)) k = k v p := rfl
def txtP (b : Nat → Int) (sz : Nat) : TX := tb (prtP b sz 0 0) (fun v0 p1 => tb (prtP b sz 1 p1) (fun v1 p2 => tb (prtP b sz 2 p2) (fun v2 p3 => if tkC b sz p3 = 13 then .inr (v0, v1, v2) else .inl (tkB b sz p3))))
section CR
variable {b : Nat → Int} {sz : Nat}
/-- what reading a text may change -/
def frP (t w : Nat) (s s' : Sg) : Prop := ∀ c j i, ¬ (c = 11 ∧ j = 0 ∧ 3 ≤ i ∧ i ≤ 6) → ¬ (c = 4 ∧ j = 0 ∧ i = 6) → ¬ (c = 6 ∧ j = t ∧ w ≤ i) → ¬ (c = 8 ∧ j = t) → s' c j i = s c j i
theorem frP_refl {t w : Nat} (s : Sg) : frP t w s s := fun _ _ _ _ _ _ _ => rfl
theorem frP_C {t w : Nat} {s s' : Sg} (h : frC t w s s') : frP t w s s' := fun c j i a1 a2 a3 _ => h c j i a1 a2 a3
theorem frP_tr {t w w' : Nat} {s1 s2 s3 : Sg} (h1 : frP t w s1 s2) (h2 : frP t w' s2 s3) (hw : w ≤ w') : frP t w s1 s3 := fun c j i a1 a2 a3 a4 => (h2 c j i a1 a2 (fun q => a3 ⟨q.1, q.2.1, by omega⟩) a4).trans (h1 c j i a1 a2 a3 a4)
theorem bytC_P {t w : Nat} {s s' : Sg} (h : bytC b sz s) (hf : frP t w s s') : bytC b sz s' := ⟨(hf 11 0 2 (by omega) (by omega) (by omega) (by omega)).trans h.1, h.2.1, fun i hi => (hf 12 0 i (by omega) (by omega) (by omega) (by omega)).trans (h.2.2.1 i hi), h.2.2.2⟩
/-- part k of text t stands as code that says v -/
def stands (t k : Nat) (v : Sem) (s : Sg) : Prop := ∃ (w : Nat) (c : List Int), s 8 t k = (w : Int) ∧ w + c.length < 160 ∧ cod t w c s ∧ s 6 t (w + c.length) = -16 ∧ (∀ env st, exs env c st = v env :: st) ∧ (∀ x, x ∈ c → -16 < x)
theorem partC {d p t w k : Nat} {s : Sg} (hd : 57 ≤ d) (hk : k < 3) (hb : bytC b sz s) (hh : HC b sz p s) (hp : p ≤ sz) (hw : wrt t w s) (hwt : w ≤ tkB b sz p) :
    (∀ fl, prtP b sz (k : Int) p = .inl fl → ∃ s', RUN d mX4_readPart [vr 11 0, vi (k : Int)] s = some (some (vi 0), s') ∧ s' 11 0 5 = (fl : Int) ∧ frP t w s s') ∧
    (∀ c v p', prtP b sz (k : Int) p = .inr (c, v, p') → ∃ s' w', RUN d mX4_readPart [vr 11 0, vi (k : Int)] s = some (some (vi 1), s') ∧ p' ≤ sz ∧ w ≤ w' ∧ w' ≤ tkB b sz p' ∧ HC b sz p' s' ∧ wrt t w' s' ∧ stands t k v s' ∧ (∀ j, j ≠ k → s' 8 t j = s 8 t j) ∧ frP t w s s' ∧ (∀ i, w' ≤ i → True) ∧ (∀ s'', frP t w' s' s'' → s'' 8 t k = s' 8 t k → stands t k v s'')) := by
  obtain ⟨m, rfl⟩ : ∃ m, d = m + 1 + 1 := ⟨d - 2, by omega⟩
  have h160 := hb.2.1
  rw [qX4_readPart, hh.1, w32_id (by omega) (by omega)]
  unfold prtP
  by_cases hc : tkC b sz p = 6 + (k : Int)
  · obtain ⟨s1, g1, g2, g3, g4, g5⟩ := stepH (d := m + 1) (by omega) hb hh hp hw
    have hEB := tkEB hp (show tkC b sz p ≠ 13 by omega)
    obtain ⟨s2, hs2, q1, q2, q3, q4, q5⟩ : ∃ s2, RUN (m + 1) mX5_beginPart [vr 4 0, vi (k : Int)] s1 = some (none, s2) ∧ s2 8 t k = (w : Int) ∧ (∀ j, j ≠ k → s2 8 t j = s1 8 t j) ∧ (∀ c j i, ¬ (c = 8 ∧ j = t) → s2 c j i = s1 c j i) ∧ wrt t w s2 ∧ bytC b sz s2 := by
      obtain ⟨w1, w2, w3⟩ := g4
      rw [qX5_beginPart, qX5_isFull, w1, if_pos (by omega), bI_s, if_pos i00, if_neg (by omega), if_pos (by omega), w1, if_pos (show inb (t : Int) 6 by constructor <;> omega), if_pos (show inb (k : Int) 3 by constructor <;> omega), w3, Int.toNat_natCast, Int.toNat_natCast]
      have hfr : ∀ c j i, ¬ (c = 8 ∧ j = t) → up s1 8 t k (w : Int) c j i = s1 c j i := fun c j i h => by
        rw [up_ap, if_neg (fun q => h ⟨q.1, q.2.1⟩)]
      refine ⟨_, rfl, up_hit _ _ _ _ _, fun j hj => up_i hj, hfr, ⟨?_, w2, ?_⟩, ?_⟩
      · rw [hfr _ _ _ (by omega)]; exact w1
      · rw [hfr _ _ _ (by omega)]; exact w3
      · exact ⟨(hfr _ _ _ (by omega)).trans g3.1, g3.2.1, fun i hi => (hfr _ _ _ (by omega)).trans (g3.2.2.1 i hi), g3.2.2.2⟩
    have hh2 : HC b sz (tkE b sz p) s2 := HC_of g2 (fun i => q3 11 0 i (by omega))
    have f2 : frP t w s s2 := fun c j i a1 a2 a3 a4 => (q3 c j i a4).trans (g5 c j i a1)
    rw [if_pos hc, if_pos hc, g1, bV_s, hs2, bV_s]
    have hor := (lvlC (b := b) (sz := sz) 5 0 (by omega) (by decide)).2.2
    have h1 := hor (m + 1) (tkE b sz p) t w s2 (by omega) q5 hh2 (tkE_le hp) q4 (by omega)
    cases hx : orP b sz (lvl b sz 5).2 (tkE b sz p) with
    | inl fl =>
      obtain ⟨s3, a1, a2, a3⟩ := h1.1 fl hx
      rw [a1, bI_s, if_pos i00, pbl]
      refine ⟨fun f hf => ?_, fun c v p' hf => (by cases hf)⟩
      cases hf
      exact ⟨s3, rfl, a2, frP_tr f2 (frP_C a3) (Nat.le_refl _)⟩
    | inr x =>
      obtain ⟨c, v, p1⟩ := x
      obtain ⟨s3, a1, a2, a3, a4, a5⟩ := h1.2 c v p1 hx
      have gg := good_or (good_lvl 5).2 _ _ _ _ (tkE_le hp) hx
      have gz := tkB_le (b := b) gg.1
      have gl := gg.2.1
      rw [a1, bI_s, if_neg i10, pbr, a2.1]
      have f3 : frP t w s s3 := frP_tr f2 (frP_C a5) (Nat.le_refl _)
      by_cases h59 : tkC b sz p1 = 59
      · obtain ⟨s4, e1, e2, e3, e4, e5⟩ := stepH (d := m + 1) (by omega) (bytC_C q5 a5) a2 gg.1 a3
        have hEB1 := tkEB gg.1 (show tkC b sz p1 ≠ 13 by omega)
        have hzz := tkB_le (b := b) (tkE_le (b := b) gg.1)
        obtain ⟨s5, d1, d2, d3, d4, d5, d6⟩ := writeC (d := m) (x := -16) e4 (by omega)
        rw [if_pos h59, if_pos h59, e1, bV_s, d1, bV_s]
        refine ⟨fun f hf => (by cases hf), fun c' v' p' hf => ?_⟩
        cases hf
        have f4 : frC t (w + c.length) s3 s4 := frC_T e5
        have c4 : cod t w c s4 := cod_fr a4 f4 (Nat.le_refl _)
        have c5 : cod t w c s5 := cod_fr c4 d4 (Nat.le_refl _)
        have k8 : s5 8 t k = (w : Int) := (d4 8 t k (by omega) (by omega) (by omega)).trans ((f4 8 t k (by omega) (by omega) (by omega)).trans ((a5 8 t k (by omega) (by omega) (by omega)).trans q1))
        refine ⟨s5, w + c.length + 1, rfl, tkE_le gg.1, by omega, by omega, HC_of e2 d5, d2, ⟨w, c, k8, by omega, c5, d3, gg.2.2.2.1, gg.2.2.2.2⟩, ?_, frP_tr f3 (frP_C (frC_tr f4 d4 (Nat.le_refl _))) (by omega), fun _ _ => trivial, ?_⟩
        · intro j hj
          rw [d4 8 t j (by omega) (by omega) (by omega), f4 8 t j (by omega) (by omega) (by omega), a5 8 t j (by omega) (by omega) (by omega), q2 j hj]
          exact g5 8 t j (by omega)
        · intro s6 hf6 hk6
          refine ⟨w, c, hk6.trans k8, by omega, ?_, (hf6 6 t _ (by omega) (by omega) (by omega) (by omega)).trans d3, gg.2.2.2.1, gg.2.2.2.2⟩
          intro i hi
          exact (hf6 6 t _ (by omega) (by omega) (by omega) (by omega)).trans (c5 i hi)
      · rw [if_neg h59, if_neg h59]
        refine ⟨fun f hf => ?_, fun c v p' hf => (by cases hf)⟩
        cases hf
        exact ⟨s3, rfl, a2.2.1, f3⟩
  · rw [if_neg hc, if_neg hc]
    refine ⟨fun f hf => ?_, fun c v p' hf => (by cases hf)⟩
    cases hf
    exact ⟨s, rfl, hh.2.1, frP_refl s⟩
/-- what readText leaves as it was -/
def frX (t : Nat) (s s' : Sg) : Prop := ∀ c j i, ¬ (c = 11 ∧ j = 0 ∧ 3 ≤ i ∧ i ≤ 6) → ¬ (c = 4 ∧ j = 0 ∧ (i = 6 ∨ i = 4)) → ¬ (c = 6 ∧ j = t) → ¬ (c = 8 ∧ j = t) → s' c j i = s c j i
theorem frX_P {t w : Nat} {s s' : Sg} (h : frP t w s s') : frX t s s' := fun c j i a1 a2 a3 a4 => h c j i a1 (fun q => a2 ⟨q.1, q.2.1, Or.inl q.2.2⟩) (fun q => a3 ⟨q.1, q.2.1⟩) a4
theorem frX_tr {t : Nat} {s1 s2 s3 : Sg} (h1 : frX t s1 s2) (h2 : frX t s2 s3) : frX t s1 s3 := fun c j i a1 a2 a3 a4 => (h2 c j i a1 a2 a3 a4).trans (h1 c j i a1 a2 a3 a4)
theorem textC {d t : Nat} {s : Sg} (hd : 58 ≤ d) (hb : bytC b sz s) (ht : s 4 0 4 = (t : Int)) (h6 : t < 6) :
    (∀ fl, txtP b sz = .inl fl → ∃ s', RUN d mX4_readText [vr 11 0] s = some (some (vi (fl : Int)), s') ∧ s' 4 0 4 = (t : Int) ∧ frX t s s') ∧
    (∀ v0 v1 v2, txtP b sz = .inr (v0, v1, v2) → ∃ s', RUN d mX4_readText [vr 11 0] s = some (some (vi (-1)), s') ∧ s' 4 0 4 = (t : Int) + 1 ∧ stands t 0 v0 s' ∧ stands t 1 v1 s' ∧ stands t 2 v2 s' ∧ frX t s s') := by
  obtain ⟨m, rfl⟩ : ∃ m, d = m + 7 + 1 := ⟨d - 8, by omega⟩
  have h160 := hb.2.1
  rw [qX4_readText, qX5_beginText, bV_s]
  obtain ⟨s1, hs1, hb1, hn1, hw1, hf1⟩ : ∃ s1, up (up s 11 0 3 0) 4 0 6 0 = s1 ∧ bytC b sz s1 ∧ s1 11 0 3 = ((0 : Nat) : Int) ∧ wrt t 0 s1 ∧ frX t s s1 := by
    refine ⟨_, rfl, ?_, ?_, ⟨?_, h6, up_hit _ _ _ _ _⟩, ?_⟩
    · refine ⟨?_, hb.2.1, fun i hi => ?_, hb.2.2.2⟩
      · rw [up_ap, if_neg (by omega), up_ap, if_neg (by omega)]; exact hb.1
      · rw [up_ap, if_neg (by omega), up_ap, if_neg (by omega)]; exact hb.2.2.1 i hi
    · rw [up_ap, if_neg (by omega), up_hit]; rfl
    · rw [up_i (by decide), up_ap, if_neg (by omega)]; exact ht
    · intro c j i a1 a2 a3 a4
      rw [up_ap, if_neg (fun q => a2 ⟨q.1, q.2.1, Or.inl q.2.2⟩), up_ap, if_neg (fun q => a1 ⟨q.1, q.2.1, by omega⟩)]
  obtain ⟨s2, g1, g2, g3⟩ := stepC (d := m) hb1 hn1 (Nat.zero_le _)
  have hb2 := bytC_fr hb1 g3
  have hw2 : wrt t 0 s2 := wrt_C hw1 g3
  have f2 : frX t s s2 := frX_tr hf1 (fun c j i a1 _ _ _ => g3 c j i a1)
  rw [hs1, g1, bV_s, qX4_readText_18, if_pos (by decide)]
  unfold txtP
  have P0 := partC (d := m + 7) (k := 0) (by omega) (by omega) hb2 g2 (Nat.zero_le _) hw2 (Nat.zero_le _)
  have e0 : prtP b sz ((0 : Nat) : Int) 0 = prtP b sz 0 0 := rfl
  rw [e0] at P0
  have z0 : RUN (m + 7) mX4_readPart [vr 11 0, vi 0] s2 = RUN (m + 7) mX4_readPart [vr 11 0, vi ((0 : Nat) : Int)] s2 := rfl
  rw [z0]
  cases hx0 : prtP b sz 0 0 with
  | inl fl =>
    obtain ⟨s3, a1, a2, a3⟩ := P0.1 fl hx0
    rw [a1, bI_s, if_pos i00, tbl, a2]
    refine ⟨fun f hf => ?_, fun v0 v1 v2 hf => (by cases hf)⟩
    cases hf
    refine ⟨s3, rfl, ?_, frX_tr f2 (frX_P a3)⟩
    exact (a3 4 0 4 (by omega) (by omega) (by omega) (by omega)).trans hw2.1
  | inr x =>
    obtain ⟨c0, v0, p1⟩ := x
    obtain ⟨s3, w3, a1, hp1, aw, awB, ah, aw3, ast, a8, af, _, akeep⟩ := P0.2 c0 v0 p1 hx0
    have hb3 := bytC_P hb2 af
    rw [a1, bI_s, if_neg i10, tbr, show w32 (0 + 1) = 1 from rfl, qX4_readText_18, if_pos (by decide)]
    have f3 : frX t s s3 := frX_tr f2 (frX_P af)
    have P1 := partC (d := m + 7) (k := 1) (by omega) (by omega) hb3 ah hp1 aw3 awB
    have e1 : prtP b sz ((1 : Nat) : Int) p1 = prtP b sz 1 p1 := rfl
    rw [e1] at P1
    have z1 : RUN (m + 7) mX4_readPart [vr 11 0, vi 1] s3 = RUN (m + 7) mX4_readPart [vr 11 0, vi ((1 : Nat) : Int)] s3 := rfl
    rw [z1]
    cases hx1 : prtP b sz 1 p1 with
    | inl fl =>
      obtain ⟨s4, b1, b2, b3⟩ := P1.1 fl hx1
      rw [b1, bI_s, if_pos i00, tbl, b2]
      refine ⟨fun f hf => ?_, fun v0 v1 v2 hf => (by cases hf)⟩
      cases hf
      refine ⟨s4, rfl, ?_, frX_tr f3 (frX_P b3)⟩
      exact (b3 4 0 4 (by omega) (by omega) (by omega) (by omega)).trans aw3.1
    | inr x =>
      obtain ⟨c1, v1, p2⟩ := x
      obtain ⟨s4, w4, b1, hp2, bw, bwB, bh, bw4, bst, b8, bf, _, bkeep⟩ := P1.2 c1 v1 p2 hx1
      have hb4 := bytC_P hb3 bf
      rw [b1, bI_s, if_neg i10, tbr, show w32 (1 + 1) = 2 from rfl, qX4_readText_18, if_pos (by decide)]
      have f4 : frX t s s4 := frX_tr f3 (frX_P bf)
      have st04 : stands t 0 v0 s4 := akeep s4 bf (b8 0 (by decide))
      have P2 := partC (d := m + 7) (k := 2) (by omega) (by omega) hb4 bh hp2 bw4 bwB
      have e2 : prtP b sz ((2 : Nat) : Int) p2 = prtP b sz 2 p2 := rfl
      rw [e2] at P2
      have z2 : RUN (m + 7) mX4_readPart [vr 11 0, vi 2] s4 = RUN (m + 7) mX4_readPart [vr 11 0, vi ((2 : Nat) : Int)] s4 := rfl
      rw [z2]
      cases hx2 : prtP b sz 2 p2 with
      | inl fl =>
        obtain ⟨s5, c1', c2', c3'⟩ := P2.1 fl hx2
        rw [c1', bI_s, if_pos i00, tbl, c2']
        refine ⟨fun f hf => ?_, fun v0 v1 v2 hf => (by cases hf)⟩
        cases hf
        refine ⟨s5, rfl, ?_, frX_tr f4 (frX_P c3')⟩
        exact (c3' 4 0 4 (by omega) (by omega) (by omega) (by omega)).trans bw4.1
      | inr x =>
        obtain ⟨c2, v2, p3⟩ := x
        obtain ⟨s5, w5, c1', hp3, cw, cwB, ch, cw5, cst, c8, cf, _, ckeep⟩ := P2.2 c2 v2 p3 hx2
        rw [c1', bI_s, if_neg i10, tbr, show w32 (2 + 1) = 3 from rfl, qX4_readText_18, if_neg (show ¬ (3 : Int) < 3 by decide), ch.1]
        have f5 : frX t s s5 := frX_tr f4 (frX_P cf)
        have st05 : stands t 0 v0 s5 := by
          refine akeep s5 (frP_tr bf cf bw) ?_
          rw [c8 0 (by decide), b8 0 (by decide)]
        have st15 : stands t 1 v1 s5 := bkeep s5 cf (c8 1 (by decide))
        by_cases h13 : tkC b sz p3 = 13
        · rw [if_pos h13, if_pos h13, qX5_endText, qX5_isFull, cw5.1, if_pos (by omega), bI_s, if_pos i00, bV_s, cw5.1, w32_id (by omega) (by omega)]
          refine ⟨fun f hf => (by cases hf), fun v0' v1' v2' hf => ?_⟩
          cases hf
          have hfr : ∀ c j i, ¬ (c = 4 ∧ i = 4) → up s5 4 0 4 ((t : Int) + 1) c j i = s5 c j i := fun c j i h => by
            rw [up_ap, if_neg (fun q => h ⟨q.1, q.2.2⟩)]
          have hst : ∀ k v, stands t k v s5 → stands t k v (up s5 4 0 4 ((t : Int) + 1)) := by
            intro k v ⟨w, c, x1, x2, x3, x4, x5, x6⟩
            exact ⟨w, c, (hfr _ _ _ (by omega)).trans x1, x2, fun i hi => (hfr _ _ _ (by omega)).trans (x3 i hi), (hfr _ _ _ (by omega)).trans x4, x5, x6⟩
          refine ⟨_, rfl, up_hit _ _ _ _ _, hst _ _ st05, hst _ _ st15, hst _ _ cst, ?_⟩
          intro c j i a1 a2 a3 a4
          by_cases hz : j = 0
          · rw [hfr c j i (fun q => a2 ⟨q.1, hz, Or.inr q.2⟩)]
            exact f5 c j i a1 a2 a3 a4
          · rw [up_ap, if_neg (fun q => hz q.2.1)]
            exact f5 c j i a1 a2 a3 a4
        · rw [if_neg h13, if_neg h13, ch.2.1]
          refine ⟨fun f hf => ?_, fun v0 v1 v2 hf => (by cases hf)⟩
          cases hf
          refine ⟨s5, rfl, cw5.1, f5⟩
end CR
