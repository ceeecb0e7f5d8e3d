/-! PARSE 8: the class reads by the grammar -/
theorem pbl {k : List Int → Sem → Nat → PR} {f : Nat} : pb (.inl f) k = .inl f := rfl
theorem pbr {k : List Int → Sem → Nat → PR} {c : List Int} {v : Sem} {p : Nat} : pb (.inr (c, v, p)) k = k c v p := rfl
section CR
variable {b : Nat → Int} {sz : Nat}
/-- what reading may change: the token, the code of text t from w on, how much is written -/
def frC (t w : Nat) (s s' : Sg) : Prop := ∀ c j i, ¬ (c = 11 ∧ j = 0 ∧ 3 ≤ i ∧ i ≤ 6) → ¬ (c = 4 ∧ j = 0 ∧ i = 6) → ¬ (c = 6 ∧ j = t ∧ w ≤ i) → s' c j i = s c j i
theorem frC_refl {t w : Nat} (s : Sg) : frC t w s s := fun _ _ _ _ _ _ => rfl
theorem frC_tr {t w w' : Nat} {s1 s2 s3 : Sg} (h1 : frC t w s1 s2) (h2 : frC t w' s2 s3) (hw : w ≤ w') : frC t w s1 s3 := fun c j i a1 a2 a3 => (h2 c j i a1 a2 (fun q => a3 ⟨q.1, q.2.1, by omega⟩)).trans (h1 c j i a1 a2 a3)
theorem frC_T {t w : Nat} {s s' : Sg} (h : frT s s') : frC t w s s' := fun c j i a1 _ _ => h c j i a1
theorem bytC_C {t w : Nat} {s s' : Sg} (h : bytC b sz s) (hf : frC t w s s') : bytC b sz s' := ⟨(hf 11 0 2 (by omega) (by omega) (by omega)).trans h.1, h.2.1, fun i hi => (hf 12 0 i (by omega) (by omega) (by omega)).trans (h.2.2.1 i hi), h.2.2.2⟩
/-- the writer at hand: text t, w steps written -/
def wrt (t w : Nat) (s : Sg) : Prop := s 4 0 4 = (t : Int) ∧ t < 6 ∧ s 4 0 6 = (w : Int)
theorem writeC {d t w : Nat} {x : Int} {s : Sg} (h : wrt t w s) (hw : w < 160) : ∃ s', RUN (d + 1) mX5_write [vr 4 0, vi x] s = some (none, s') ∧ wrt t (w + 1) s' ∧ s' 6 t w = x ∧ frC t w s s' ∧ (∀ i, s' 11 0 i = s 11 0 i) ∧ (∀ i, i ≠ w → s' 6 t i = s 6 t i) := by
  obtain ⟨h1, h2, h3⟩ := h
  rw [qX5_write, qX5_isFull, h1, if_pos (by omega), bI_s, if_pos rfl, h3, if_pos (by omega), h1, if_pos (show inb (t : Int) 6 by constructor <;> omega), if_pos (show inb (w : Int) 160 by constructor <;> omega), Int.toNat_natCast, Int.toNat_natCast, w32_id (by omega) (by omega)]
  refine ⟨_, rfl, ⟨?_, h2, ?_⟩, up_hit _ _ _ _ _, ?_, ?_, ?_⟩
  · rw [up_ap, if_neg (by omega), up_i (by decide)]; exact h1
  · rw [up_ap, if_neg (by omega), up_hit]; omega
  · intro c j i a1 a2 a3
    rw [up_ap, if_neg (fun q => a3 ⟨q.1, q.2.1, by omega⟩), up_ap, if_neg (fun q => a2 ⟨q.1, q.2.1, q.2.2⟩)]
  · intro i
    rw [up_ap, if_neg (by omega), up_ap, if_neg (by omega)]
  · intro i hi
    rw [up_ap, if_neg (fun q => hi q.2.2), up_ap, if_neg (by omega)]
/-- code c stands from w on -/
def cod (t w : Nat) (c : List Int) (s : Sg) : Prop := ∀ i, i < c.length → s 6 t (w + i) = c.getD i 0
theorem cod_fr {t w w' : Nat} {c : List Int} {s s' : Sg} (h : cod t w c s) (hf : frC t w' s s') (hw : w + c.length ≤ w') : cod t w c s' := fun i hi => (hf 6 t (w + i) (by omega) (by omega) (by omega)).trans (h i hi)
theorem cod_app {t w : Nat} {c c' : List Int} {s : Sg} (h : cod t w c s) (h' : cod t (w + c.length) c' s) : cod t w (c ++ c') s := fun i hi => by
  rw [List.length_append] at hi
  by_cases q : i < c.length
  · rw [h i q, List.getD_eq_getElem?_getD, List.getD_eq_getElem?_getD, List.getElem?_append_left q]
  · have := h' (i - c.length) (by omega)
    rw [show w + c.length + (i - c.length) = w + i by omega] at this
    rw [this, List.getD_eq_getElem?_getD, List.getD_eq_getElem?_getD, List.getElem?_append_right (by omega)]
theorem cod_one {t w : Nat} {x : Int} {s : Sg} (h : s 6 t w = x) : cod t w [x] s := fun i hi => by
  have hi : i < 1 := hi
  have e : i = 0 := by omega
  subst e
  exact h
theorem cod_nil {t w : Nat} {s : Sg} : cod t w [] s := fun i hi => absurd hi (Nat.not_lt_zero i)
theorem HC_of {p : Nat} {s s' : Sg} (h : HC b sz p s) (he : ∀ i, s' 11 0 i = s 11 0 i) : HC b sz p s' := ⟨(he 4).trans h.1, (he 5).trans h.2.1, (he 3).trans h.2.2.1, fun q => (he 6).trans (h.2.2.2 q)⟩
/-- a method of the reader keeps to the grammar's f -/
def endL (t w fl : Nat) (r : Rs) (s : Sg) : Prop := ∃ s', r = some (some (vi 0), s') ∧ s' 11 0 5 = (fl : Int) ∧ frC t w s s'
def endR (b : Nat → Int) (sz t w : Nat) (c : List Int) (p' : Nat) (r : Rs) (s : Sg) : Prop := ∃ s', r = some (some (vi 1), s') ∧ HC b sz p' s' ∧ wrt t (w + c.length) s' ∧ cod t w c s' ∧ frC t w s s'
def okX (b : Nat → Int) (sz t w : Nat) (x : PR) (r : Rs) (s : Sg) : Prop := (∀ fl, x = .inl fl → endL t w fl r s) ∧ (∀ c v p', x = .inr (c, v, p') → endR b sz t w c p' r s)
def okC (b : Nat → Int) (sz K : Nat) (M : Md) (o : Int) (f : Nat → PR) : Prop := ∀ d p t w s, K ≤ d → bytC b sz s → HC b sz p s → p ≤ sz → wrt t w s → w ≤ tkB b sz p → okX b sz t w (f p) (RUN d M [vr 11 0, vi o] s) s
theorem stepH {d t w p : Nat} {s : Sg} (hd : 7 ≤ d) (hb : bytC b sz s) (hh : HC b sz p s) (hp : p ≤ sz) (hw : wrt t w s) : ∃ s', RUN d mX4_step [vr 11 0] s = some (none, s') ∧ HC b sz (tkE b sz p) s' ∧ bytC b sz s' ∧ wrt t w s' ∧ frT s s' := by
  obtain ⟨k, rfl⟩ : ∃ k, d = k + 7 := ⟨d - 7, by omega⟩
  obtain ⟨s', h1, h2, h3⟩ := stepC (d := k) hb hh.2.2.1 (tkE_le hp)
  exact ⟨s', h1, h2, bytC_fr hb h3, ⟨(h3 4 0 4 (by omega)).trans hw.1, hw.2.1, (h3 4 0 6 (by omega)).trans hw.2.2⟩, h3⟩
theorem chainC {op : Int → Int} {sub : Nat → PR} {o : Int} {K d t w0 p0 : Nat} {M : Md} (E : PV → Nat → Sg → Rs) (ho : opOk op) (hg : goodP b sz sub) (hs : okC b sz K M o sub) (hK : K ≤ d) (hd : 7 ≤ d)
    (hE : ∀ z i s, i < 160 → op (s 11 0 4) ≠ 0 → ∃ z', E z i s = bV (RUN d mX4_step [vr 11 0] s) (fun s1 => bI (RUN d M [vr 11 0, vi o] s1) (fun r2 s2 => if r2 = 0 then some (some (vi 0), s2) else bV (RUN d mX5_write [vr 4 0, vi (op (s 11 0 4))] s2) (fun s3 => E z' (i + 1) s3))))
    (hE0 : ∀ z i s, (160 ≤ i ∨ op (s 11 0 4) = 0) → E z i s = some (some (vi 1), s)) :
    ∀ (k i : Nat) (c : List Int) (v : Sem) (p : Nat) (z : PV) (s0 s : Sg), i + k = 160 → bytC b sz s → HC b sz p s → good1 b sz p0 c v p → w0 ≤ tkB b sz p0 → wrt t (w0 + c.length) s → cod t w0 c s → frC t w0 s0 s → okX b sz t w0 (chn b sz op sub k c v p) (E z i s) s0 := by
  intro k
  induction k with
  | zero =>
    intro i c v p z s0 s hi hb hh hgd hw0 hw hc hf
    rw [hE0 z i s (Or.inl (by omega)), chn]
    refine ⟨fun fl h => (by cases h), fun c' v' p' h => ?_⟩
    cases h
    exact ⟨s, rfl, hh, hw, hc, hf⟩
  | succ k ih =>
    intro i c v p z s0 s hi hb hh hgd hw0 hw hc hf
    have hp : p ≤ sz := hgd.1
    have h160 := hb.2.1
    rw [chn]
    by_cases hz : op (tkC b sz p) = 0
    · rw [if_pos hz, hE0 z i s (Or.inr (by rw [hh.1]; exact hz))]
      refine ⟨fun fl h => (by cases h), fun c' v' p' h => ?_⟩
      cases h
      exact ⟨s, rfl, hh, hw, hc, hf⟩
    · rw [if_neg hz]
      obtain ⟨z', hE'⟩ := hE z i s (by omega) (by rw [hh.1]; exact hz)
      obtain ⟨o1, o2, o3, o4⟩ := (ho (tkC b sz p)).resolve_left hz
      have hEB := tkEB hp o4
      obtain ⟨s1, g1, g2, g3, g4, g5⟩ := stepH hd hb hh hp hw
      rw [hE', g1, bV_s, hh.1]
      have hlen := hgd.2.1
      have hsub := hs d (tkE b sz p) t (w0 + c.length) s1 hK g3 g2 (tkE_le hp) g4 (by omega)
      cases hx : sub (tkE b sz p) with
      | inl f =>
        obtain ⟨s2, a1, a2, a3⟩ := hsub.1 f hx
        rw [pbl, a1, bI_s, if_pos rfl]
        refine ⟨fun fl h => ?_, fun c' v' p' h => (by cases h)⟩
        cases h
        exact ⟨s2, rfl, a2, frC_tr hf (frC_tr (frC_T (w := w0 + c.length) g5) a3 (Nat.le_refl _)) (by omega)⟩
      | inr x =>
        obtain ⟨c2, v2, p2⟩ := x
        obtain ⟨s2, a1, a2, a3, a4, a5⟩ := hsub.2 c2 v2 p2 hx
        have gg := good_bin (o := op (tkC b sz p)) hp o4 hgd (hg _ _ _ _ (tkE_le hp) hx) o1 o2 o3
        have gl := gg.2.1
        have gz := tkB_le (b := b) gg.1
        rw [List.length_append, List.length_append] at gl
        have gl : tkB b sz p0 + (c.length + c2.length + 1) ≤ tkB b sz p2 := gl
        obtain ⟨m, rfl⟩ : ∃ m, d = m + 1 := ⟨d - 1, by omega⟩
        obtain ⟨s3, e1, e2, e3, e4, e5, e6⟩ := writeC (d := m) (x := op (tkC b sz p)) a3 (by omega)
        rw [pbr, a1, bI_s, if_neg (by decide), e1, bV_s]
        have f1 : frC t w0 s0 s2 := frC_tr hf (frC_tr (frC_T (w := w0 + c.length) g5) a5 (Nat.le_refl _)) (by omega)
        have f2 : frC t w0 s0 s3 := frC_tr f1 e4 (by omega)
        have hb3 : bytC b sz s3 := bytC_C (bytC_C g3 a5) e4
        refine ih (i + 1) _ _ _ z' s0 s3 (by omega) hb3 (HC_of a2 e5) gg hw0 ?_ ?_ f2
        · rw [List.length_append, List.length_append]
          show wrt t (w0 + (c.length + c2.length + 1)) s3
          rw [show w0 + (c.length + c2.length + 1) = w0 + c.length + c2.length + 1 by omega]
          exact e2
        · refine cod_app (cod_app ?_ ?_) ?_
          · exact cod_fr (cod_fr (cod_fr hc (frC_T (w := w0 + c.length) (t := t) g5) (Nat.le_refl _)) a5 (Nat.le_refl _)) e4 (by omega)
          · exact cod_fr a4 e4 (Nat.le_refl _)
          · rw [List.length_append, ← Nat.add_assoc]
            exact cod_one e3
end CR
