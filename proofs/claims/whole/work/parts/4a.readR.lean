/-! PARSE 12: the reference reads by the grammar -/
section RR
variable {b : Nat → Int} {sz : Nat}
def frR (s s' : Sg) : Prop := ∀ c j i, ¬ (c = 32 ∧ j = 0 ∧ 18 ≤ i ∧ i ≤ 24) → s' c j i = s c j i
theorem frR_refl (s : Sg) : frR s s := fun _ _ _ _ => rfl
theorem frR_tr {s1 s2 s3 : Sg} (h1 : frR s1 s2) (h2 : frR s2 s3) : frR s1 s3 := fun c j i h => (h2 c j i h).trans (h1 c j i h)
theorem frR_N {s s' : Sg} (h : frN s s') : frR s s' := fun c j i hn => h c j i (fun q => hn ⟨q.1, q.2.1, by omega⟩)
theorem frR_r {s s' : Sg} {k : Nat} {v : Int} (h : frR s s') (hk : 18 ≤ k ∧ k ≤ 24) : frR s (up s' 32 0 k v) := fun c j i hn => by
  rw [up_ap, if_neg (fun q => hn ⟨q.1, q.2.1, by omega⟩)]
  exact h c j i hn
theorem bytR_R {t : Nat} {s s' : Sg} (h : bytR b sz t s) (hf : frR s s') : bytR b sz t s' := ⟨(hf 32 0 16 (by omega)).trans h.1, (hf 32 0 17 (by omega)).trans h.2.1, h.2.2.1, h.2.2.2.1, fun i hi => (hf 33 0 _ (by omega)).trans (h.2.2.2.2.1 i hi), h.2.2.2.2.2⟩
def rdy (b : Nat → Int) (sz t p : Nat) (o : Int) (env : Nat → Int) (s : Sg) : Prop := bytR b sz t s ∧ HR b sz p s ∧ s 32 0 23 = 0 ∧ s 32 0 22 = o ∧ ∀ k, k < 6 → s 32 0 (10 + k) = env k
def okRX (b : Nat → Int) (sz t : Nat) (o : Int) (env : Nat → Int) (x : PR) (r : Rs) (s0 : Sg) : Prop := (∀ fl, x = .inl fl → ∃ v s', r = some (some (vi v), s') ∧ s' 32 0 23 = 1 ∧ s' 32 0 24 = (fl : Int) ∧ frR s0 s') ∧ (∀ c v p', x = .inr (c, v, p') → ∃ s', r = some (some (vi (v env)), s') ∧ rdy b sz t p' o env s' ∧ frR s0 s')
def okR (b : Nat → Int) (sz K : Nat) (M : Md) (o : Int) (f : Nat → PR) : Prop := ∀ d p t env s, K ≤ d → rdy b sz t p o env s → p ≤ sz → okRX b sz t o env (f p) (RUN d M [vr 32 0] s) s
theorem okRX_l {t fl : Nat} {o v : Int} {env : Nat → Int} {r : Rs} {s0 s' : Sg} (hr : r = some (some (vi v), s')) (h1 : s' 32 0 23 = 1) (h2 : s' 32 0 24 = (fl : Int)) (hf : frR s0 s') : okRX b sz t o env (.inl fl) r s0 := ⟨fun f h => (by cases h; exact ⟨v, s', hr, h1, h2, hf⟩), fun c v p' h => (by cases h)⟩
theorem okRX_r {t p' : Nat} {o : Int} {env : Nat → Int} {c : List Int} {v : Sem} {r : Rs} {s0 s' : Sg} (hr : r = some (some (vi (v env)), s')) (h1 : rdy b sz t p' o env s') (hf : frR s0 s') : okRX b sz t o env (.inr (c, v, p')) r s0 := ⟨fun f h => (by cases h), fun c v p' h => (by cases h; exact ⟨s', hr, h1, hf⟩)⟩
theorem nextH {d t p : Nat} {o o' : Int} {env : Nat → Int} {s : Sg} (hd : 1 ≤ d) (hr : rdy b sz t p o env s) (hp : p ≤ sz) (h14 : tkC b sz p ≠ 14) : ∃ s', RUN d mX9_next [vr 32 0] s = some (none, s') ∧ rdy b sz t (tkE b sz p) o env s' ∧ frR s s' := by
  obtain ⟨m, rfl⟩ : ∃ m, d = m + 1 := ⟨d - 1, by omega⟩
  obtain ⟨h1, h2, h3, h4, h5⟩ := hr
  have hk : tkF b sz (tkB b sz p) ≠ 4 := by
    intro h
    rcases tk_c b sz (tkB b sz p) with q | q | q | q | q
    · omega
    · omega
    · omega
    · omega
    · exact h14 q.2
  obtain ⟨s', g1, g2, g3⟩ := nextR (d := m) h1 (h2.2.2.1 hk) (tkE_le hp)
  refine ⟨s', g1, ⟨bytR_fr h1 g3, g2, (g3 32 0 23 (by omega)).trans h3, (g3 32 0 22 (by omega)).trans h4, fun k hk => (g3 32 0 _ (by omega)).trans (h5 k hk)⟩, frR_N g3⟩
theorem bV_ext {o : Rs} {k k' : Sg → Rs} (h : ∀ s, k s = k' s) : bV o k = bV o k' := by rw [show k = k' from funext h]
theorem bI_ext {o : Rs} {k k' : Int → Sg → Rs} (h : ∀ r s, k r s = k' r s) : bI o k = bI o k' := by rw [show k = k' from funext (fun r => funext (h r))]
theorem chainR {Z : Type} {op : Int → Int} {sub : Nat → PR} {o : Int} {K d t p0 : Nat} {M : Md} {env : Nat → Int} (E : Z → Int → Sg → Rs) (ho : opOk op) (h14 : op 14 = 0) (hg : goodP b sz sub) (hs : okR b sz K M o sub) (hK : K ≤ d) (hd : 1 ≤ d)
    (hE : ∀ z x s p, rdy b sz t p o env s → p ≤ sz → op (tkC b sz p) ≠ 0 → ∃ z' : Int → Z, E z x s = bV (RUN d mX9_next [vr 32 0] s) (fun s2 => bI (RUN d M [vr 32 0] s2) (fun r3 s3 => E (z' r3) (jn (op (tkC b sz p)) x r3) s3)))
    (hE0 : ∀ z x s p, rdy b sz t p o env s → p ≤ sz → op (tkC b sz p) = 0 → E z x s = some (some (vi x), s))
    (hB : ∀ z x s, s 32 0 23 = 1 → E z x s = some (some (vi x), s)) :
    ∀ (k : Nat) (c : List Int) (v : Sem) (p : Nat) (z : Z) (s0 s : Sg), rdy b sz t p o env s → good1 b sz p0 c v p → sz < k + tkB b sz p → frR s0 s → okRX b sz t o env (chn b sz op sub k c v p) (E z (v env) s) s0 := by
  intro k
  induction k with
  | zero =>
    intro c v p z s0 s hr hgd hk hf
    have := tkB_le (b := b) hgd.1
    omega
  | succ k ih =>
    intro c v p z s0 s hr hgd hk hf
    have hp : p ≤ sz := hgd.1
    rw [chn]
    by_cases hz : op (tkC b sz p) = 0
    · rw [if_pos hz, hE0 z _ s p hr hp hz]
      exact okRX_r rfl hr hf
    · rw [if_neg hz]
      obtain ⟨z', hE'⟩ := hE z (v env) s p hr hp hz
      obtain ⟨o1, o2, o3, o4⟩ := (ho (tkC b sz p)).resolve_left hz
      have hEB := tkEB hp o4
      obtain ⟨s1, g1, g2, g3⟩ := nextH (o' := o) hd hr hp (fun q => hz (by rw [q]; exact h14))
      rw [hE', g1, bV_s]
      have hsub := hs d (tkE b sz p) t env s1 hK g2 (tkE_le hp)
      cases hx : sub (tkE b sz p) with
      | inl f =>
        obtain ⟨r, s2, a1, a2, a3, a4⟩ := hsub.1 f hx
        rw [pbl, a1, bI_s, hB _ _ _ a2]
        exact okRX_l rfl a2 a3 (frR_tr hf (frR_tr g3 a4))
      | inr x =>
        obtain ⟨c2, v2, p2⟩ := x
        obtain ⟨s2, a1, a2, a3⟩ := hsub.2 c2 v2 p2 hx
        have hg2 := hg _ _ _ _ (tkE_le hp) hx
        have gg := good_bin (o := op (tkC b sz p)) hp o4 hgd hg2 o1 o2 o3
        have g22 := hg2.2.2.1
        rw [pbr, a1, bI_s]
        exact ih _ _ p2 _ s0 s2 a2 gg (by omega) (frR_tr hf (frR_tr g3 a3))
theorem lstR {Z : Type} {op : Int → Int} {f : Nat → PR} {o : Int} {K : Nat} {M M' : Md} (E : Nat → Z → Int → Sg → Rs) (z0 : Z) (ho : opOk op) (h14 : op 14 = 0) (hk : 1 ≤ K) (hg : goodP b sz f) (hs : okR b sz K M o f)
    (hM : ∀ d s, RUN (d + 1) M' [vr 32 0] s = bI (RUN d M [vr 32 0] s) (fun r1 s1 => E d z0 r1 s1))
    (hE : ∀ d, K ≤ d → ∀ t env z x s p, rdy b sz t p o env s → p ≤ sz → op (tkC b sz p) ≠ 0 → ∃ z' : Int → Z, E d z x s = bV (RUN d mX9_next [vr 32 0] s) (fun s2 => bI (RUN d M [vr 32 0] s2) (fun r3 s3 => E d (z' r3) (jn (op (tkC b sz p)) x r3) s3)))
    (hE0 : ∀ d, K ≤ d → ∀ t env z x s p, rdy b sz t p o env s → p ≤ sz → op (tkC b sz p) = 0 → E d z x s = some (some (vi x), s))
    (hB : ∀ d, K ≤ d → ∀ z x s, s 32 0 23 = 1 → E d z x s = some (some (vi x), s)) : okR b sz (K + 1) M' o (lstP b sz op f) := by
  intro d p t env s hd hr hp
  obtain ⟨m, rfl⟩ : ∃ m, d = m + 1 := ⟨d - 1, by omega⟩
  have h160 := hr.1.2.2.1
  rw [hM]
  have h1 := hs m p t env s (by omega) hr hp
  unfold lstP
  cases hx : f p with
  | inl fl =>
    obtain ⟨r, s1, a1, a2, a3, a4⟩ := h1.1 fl hx
    rw [a1, bI_s, hB m (by omega) _ _ _ a2, pbl]
    exact okRX_l rfl a2 a3 a4
  | inr x =>
    obtain ⟨c, v, p1⟩ := x
    obtain ⟨s1, a1, a2, a3⟩ := h1.2 c v p1 hx
    have gg := hg _ _ _ _ hp hx
    have g3 := gg.2.2.1
    rw [a1, bI_s, pbr]
    exact chainR (d := m) (p0 := p) (E m) ho h14 hg hs (by omega) (by omega) (hE m (by omega) t env) (hE0 m (by omega) t env) (hB m (by omega)) 160 c v p1 z0 s s1 a2 gg (by omega) a3
theorem worthR {t p : Nat} {o : Int} {env : Nat → Int} {s : Sg} (h : rdy b sz t p o env s) (hc : 40 ≤ tkC b sz p) : s 32 0 21 = tkC b sz p := by
  have h2 := h.2.1
  unfold HR at h2
  unfold tkC at hc ⊢
  have hw := wcode_rg b (tkB b sz p) (teF b sz (tkB b sz p))
  rcases tk_c b sz (tkB b sz p) with q | q | q | q | q
  · omega
  · omega
  · omega
  · exact h2.2.2.2.2 q.1
  · omega
/-- terms -/
theorem termR {o : Int} {K : Nat} {f : Nat → PR} (hk : 2 ≤ K) (hg : goodP b sz f) (hs : okR b sz K mX9_atom o f) : okR b sz (K + 1) mX9_term o (lstP b sz opMul f) := by
  refine lstR (Z := Nat) (M := mX9_atom) (fun d _ x s => EV (d + 1) mX9_term (5, [vr 32 0, vi x], [], s)) 0 ok_mul (by decide) (by omega) hg hs (fun d s => qX9_term d s) ?_ ?_ ?_
  · intro d hd t env z x s p hr hp hop
    refine ⟨fun _ => 0, ?_⟩
    unfold opMul at hop ⊢
    by_cases h : tkC b sz p = 42
    · rw [qX9_term_5, signR hr.2.1 hr.2.2.1 (by decide), bI_s, b01]
      simp only [if_pos h]
      rfl
    · rw [if_neg h] at hop; exact absurd rfl hop
  · intro d hd t env z x s p hr hp hop
    unfold opMul at hop
    by_cases h : tkC b sz p = 42
    · rw [if_pos h] at hop; exact absurd hop (by decide)
    · rw [qX9_term_5, signR hr.2.1 hr.2.2.1 (by decide), bI_s, b01, if_neg h]
  · intro d hd z x s hb
    rw [qX9_term_5, signB hb, bI_s, if_pos i00]
theorem sumR {o : Int} {K : Nat} {f : Nat → PR} (hk : 2 ≤ K) (hg : goodP b sz f) (hs : okR b sz K mX9_term o f) : okR b sz (K + 1) mX9_added o (lstP b sz opSum f) := by
  refine lstR (Z := PV × PV) (M := mX9_term) (fun d z x s => EV (d + 1) mX9_added (5, [vr 32 0, vi x, z.1, z.2], [], s)) (UU, UU) ok_sum (by decide) (by omega) hg hs (fun d s => qX9_added d s) ?_ ?_ ?_
  · intro d hd t env z x s p hr hp hop
    unfold opSum at hop ⊢
    by_cases h : tkC b sz p = 43
    · refine ⟨fun r => (vi 1, vi r), ?_⟩
      rw [qX9_added_5, signR hr.2.1 hr.2.2.1 (by decide), bI_s, b01, if_pos h, qX9_added_23, worthR hr (by omega), if_pos ((lcmp_eq _ _).mpr h), qX9_added_39]
      simp only [if_neg i10, if_pos h, qX9_added_62]
      rfl
    · rw [if_neg h] at hop
      by_cases h' : tkC b sz p = 45
      · refine ⟨fun r => (vi 0, vi r), ?_⟩
        rw [qX9_added_5, signR hr.2.1 hr.2.2.1 (by decide), bI_s, b01, if_neg h, signR hr.2.1 hr.2.2.1 (by decide), bI_s, b01, if_pos h', qX9_added_23, worthR hr (by omega), if_neg (fun q => h ((lcmp_eq _ _).mp q)), qX9_added_39]
        simp only [if_pos i00, if_neg h, if_pos h', qX9_added_62]
        rfl
      · rw [if_neg h'] at hop; exact absurd rfl hop
  · intro d hd t env z x s p hr hp hop
    unfold opSum at hop
    by_cases h : tkC b sz p = 43
    · rw [if_pos h] at hop; exact absurd hop (by decide)
    · rw [if_neg h] at hop
      by_cases h' : tkC b sz p = 45
      · rw [if_pos h'] at hop; exact absurd hop (by decide)
      · rw [qX9_added_5, signR hr.2.1 hr.2.2.1 (by decide), bI_s, b01, if_neg h, signR hr.2.1 hr.2.2.1 (by decide), bI_s, b01, if_neg h']
  · intro d hd z x s hb
    rw [qX9_added_5, signB hb, bI_s, if_pos i00, signB hb, bI_s, if_pos i00]
theorem andR {o : Int} {K : Nat} {f : Nat → PR} (hk : 2 ≤ K) (hg : goodP b sz f) (hs : okR b sz K mX9_not o f) : okR b sz (K + 1) mX9_both o (lstP b sz opAnd f) := by
  refine lstR (Z := PV) (M := mX9_not) (fun d z x s => EV (d + 1) mX9_both (5, [vr 32 0, vi x, z], [], s)) UU ok_and (by decide) (by omega) hg hs (fun d s => qX9_both d s) ?_ ?_ ?_
  · intro d hd t env z x s p hr hp hop
    obtain ⟨e, rfl⟩ : ∃ e, d = e + 2 := ⟨d - 2, by omega⟩
    refine ⟨fun r => vi r, ?_⟩
    unfold opAnd at hop ⊢
    by_cases h : tkC b sz p = 10
    · rw [qX9_both_5, word_10 hr.1 hr.2.1 hr.2.2.1 hp, bI_s, b01, if_pos h]
      refine bV_ext (fun s1 => bI_ext (fun r s2 => ?_))
      rw [if_pos h]
      by_cases hx : x = 0
      · rw [if_pos hx, qX9_both_44, qX9_both_45, show jn (-8) x r = 0 from by unfold jn; simp [hx]]
      · rw [if_neg hx]
        by_cases hy : r = 0
        · rw [if_pos hy, qX9_both_44, qX9_both_45, show jn (-8) x r = 0 from by unfold jn; simp [hy]]
        · rw [if_neg hy, qX9_both_45, show jn (-8) x r = 1 from by unfold jn; simp [hx, hy]]
    · rw [if_neg h] at hop; exact absurd rfl hop
  · intro d hd t env z x s p hr hp hop
    obtain ⟨e, rfl⟩ : ∃ e, d = e + 2 := ⟨d - 2, by omega⟩
    unfold opAnd at hop
    by_cases h : tkC b sz p = 10
    · rw [if_pos h] at hop; exact absurd hop (by decide)
    · rw [qX9_both_5, word_10 hr.1 hr.2.1 hr.2.2.1 hp, bI_s, b01, if_neg h]
  · intro d hd z x s hb
    obtain ⟨e, rfl⟩ : ∃ e, d = e + 2 := ⟨d - 2, by omega⟩
    rw [qX9_both_5, wordN (Or.inl hb), bI_s, if_pos i00]
theorem orR {o : Int} {K : Nat} {f : Nat → PR} (hk : 2 ≤ K) (hg : goodP b sz f) (hs : okR b sz K mX9_both o f) : okR b sz (K + 1) mX9_either o (lstP b sz opOr f) := by
  refine lstR (Z := PV) (M := mX9_both) (fun d z x s => EV (d + 1) mX9_either (5, [vr 32 0, vi x, z], [], s)) UU ok_or (by decide) (by omega) hg hs (fun d s => qX9_either d s) ?_ ?_ ?_
  · intro d hd t env z x s p hr hp hop
    obtain ⟨e, rfl⟩ : ∃ e, d = e + 2 := ⟨d - 2, by omega⟩
    refine ⟨fun r => vi r, ?_⟩
    unfold opOr at hop ⊢
    by_cases h : tkC b sz p = 9
    · rw [qX9_either_5, word_9 hr.1 hr.2.1 hr.2.2.1 hp, bI_s, b01, if_pos h]
      refine bV_ext (fun s1 => bI_ext (fun r s2 => ?_))
      rw [if_pos h]
      by_cases hx : x = 0
      · rw [if_pos hx]
        by_cases hy : r = 0
        · rw [if_pos hy, qX9_either_44, show jn (-7) x r = 0 from by unfold jn; simp [hx, hy]]
        · rw [if_neg hy, qX9_either_39, qX9_either_44, show jn (-7) x r = 1 from by unfold jn; simp [hx, hy]]
      · rw [if_neg hx, qX9_either_39, qX9_either_44, show jn (-7) x r = 1 from by unfold jn; simp [hx]]
    · rw [if_neg h] at hop; exact absurd rfl hop
  · intro d hd t env z x s p hr hp hop
    obtain ⟨e, rfl⟩ : ∃ e, d = e + 2 := ⟨d - 2, by omega⟩
    unfold opOr at hop
    by_cases h : tkC b sz p = 9
    · rw [if_pos h] at hop; exact absurd hop (by decide)
    · rw [qX9_either_5, word_9 hr.1 hr.2.1 hr.2.2.1 hp, bI_s, b01, if_neg h]
  · intro d hd z x s hb
    obtain ⟨e, rfl⟩ : ∃ e, d = e + 2 := ⟨d - 2, by omega⟩
    rw [qX9_either_5, wordN (Or.inl hb), bI_s, if_pos i00]
end RR
