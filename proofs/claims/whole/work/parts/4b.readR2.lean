/-! PARSE 13: the reference: not, atoms, the levels -/
section RR
variable {b : Nat → Int} {sz : Nat}
theorem failR {d p t : Nat} {o : Int} {env : Nat → Int} {s : Sg} (hr : rdy b sz t p o env s) : ∃ s', RUN d mX9_fail [vr 32 0] s = some (none, s') ∧ s' 32 0 23 = 1 ∧ s' 32 0 24 = ((tkB b sz p : Nat) : Int) ∧ frR s s' := by
  rw [qX9_fail, if_pos hr.2.2.1]
  refine ⟨_, rfl, ?_, ?_, frR_r (frR_r (frR_refl s) (by omega)) (by omega)⟩
  · rw [up_i (by decide), up_hit]
  · rw [up_hit]; exact hr.2.1.2.1
theorem failB {d : Nat} {s : Sg} (h : s 32 0 23 = 1) : RUN d mX9_fail [vr 32 0] s = some (none, s) := by
  rw [qX9_fail, if_neg (by omega)]
theorem rdy_o {t p : Nat} {o o' : Int} {env : Nat → Int} {s : Sg} (h : rdy b sz t p o env s) : rdy b sz t p o' env (up s 32 0 22 o') := by
  have hf : frR s (up s 32 0 22 o') := frR_r (frR_refl s) (by omega)
  obtain ⟨h1, ⟨a1, a2, a3, a4, a5⟩, h3, h4, h5⟩ := h
  refine ⟨bytR_R h1 hf, ⟨?_, ?_, ?_, ?_, ?_⟩, ?_, up_hit _ _ _ _ _, fun k hk => ?_⟩
  · rw [up_i (by decide)]; exact a1
  · rw [up_i (by decide)]; exact a2
  · rw [up_i (by decide)]; exact a3
  · rw [up_i (by decide)]; exact a4
  · rw [up_i (by decide)]; exact a5
  · rw [up_i (by decide)]; exact h3
  · rw [up_i (by omega)]; exact h5 k hk
/-- one more is open -/
theorem opensR {d t p : Nat} {o : Int} {env : Nat → Int} {s : Sg} (hd : 2 ≤ d) (hr : rdy b sz t p o env s) (hp : p ≤ sz) (h14 : tkC b sz p ≠ 14) (ho : 0 ≤ o ∧ o ≤ 5) :
    (o = 5 → ∃ s', RUN d mX9_opens [vr 32 0] s = some (some (vi 0), s') ∧ s' 32 0 23 = 1 ∧ s' 32 0 24 = ((tkB b sz p : Nat) : Int) ∧ frR s s') ∧
    (o < 5 → ∃ s', RUN d mX9_opens [vr 32 0] s = some (some (vi 1), s') ∧ rdy b sz t (tkE b sz p) (o + 1) env s' ∧ frR s s') := by
  obtain ⟨m, rfl⟩ : ∃ m, d = m + 1 := ⟨d - 1, by omega⟩
  rw [qX9_opens, hr.2.2.2.1]
  constructor
  · intro h5
    obtain ⟨s', a1, a2, a3, a4⟩ := failR (d := m) hr
    rw [if_pos h5, a1, bV_s]
    exact ⟨s', rfl, a2, a3, a4⟩
  · intro h5
    rw [if_neg (by omega), w32_id (by omega) (by omega)]
    obtain ⟨s', a1, a2, a3⟩ := nextH (d := m) (o' := 0) (by omega) (rdy_o (o' := o + 1) hr) hp h14
    rw [a1, bV_s]
    exact ⟨s', rfl, a2, frR_tr (frR_r (frR_refl s) (by omega)) a3⟩
/-- one closes -/
theorem closeR {t p : Nat} {o : Int} {env : Nat → Int} {s : Sg} (hr : rdy b sz t p (o + 1) env s) (ho : 0 ≤ o ∧ o ≤ 5) : rdy b sz t p o env (up s 32 0 22 (w32 (s 32 0 22 - 1))) := by
  rw [hr.2.2.2.1, w32_id (by omega) (by omega), show o + 1 - 1 = o by omega]
  exact rdy_o hr
theorem notR {o : Int} {K : Nat} {one : Nat → PR} {nt : Option (Nat → PR)} (hk : 2 ≤ K) (ho : 0 ≤ o ∧ o ≤ 5) (hg : goodP b sz one) (hs : okR b sz K mX9_added o (sumP b sz one)) (hn : (nt = none ∧ o = 5) ∨ ∃ n, nt = some n ∧ 0 ≤ o ∧ o < 5 ∧ goodP b sz n ∧ okR b sz K mX9_not (o + 1) n) : okR b sz (K + 1) mX9_not o (notP b sz one nt) := by
  intro d p t env s hd hr hp
  obtain ⟨m, rfl⟩ : ∃ m, d = m + 2 + 1 := ⟨d - 3, by omega⟩
  rw [qX9_not, word_11 hr.1 hr.2.1 hr.2.2.1 hp, bI_s, b01]
  unfold notP
  by_cases h11 : tkC b sz p = 11
  · rw [if_pos h11, if_pos h11]
    obtain ⟨O1, O2⟩ := opensR (d := m + 2) (by omega) hr hp (by omega) ho
    rcases hn with ⟨rfl, ho5⟩ | ⟨n, rfl, ho1, ho2, hg', hn⟩
    · obtain ⟨s1, a1, a2, a3, a4⟩ := O1 ho5
      rw [a1, bI_s, if_pos i00]
      exact okRX_l rfl a2 a3 a4
    · obtain ⟨s1, a1, a2, a3⟩ := O2 ho2
      rw [a1, bI_s, if_neg i10]
      have h1 := hn (m + 2) (tkE b sz p) t env s1 (by omega) a2 (tkE_le hp)
      show okRX b sz t o env (pb (n (tkE b sz p)) _) _ s
      cases hx : n (tkE b sz p) with
      | inl fl =>
        obtain ⟨r, s2, c1, c2, c3, c4⟩ := h1.1 fl hx
        have e1 : up s2 32 0 22 (w32 (s2 32 0 22 - 1)) 32 0 23 = 1 := by rw [up_i (by decide)]; exact c2
        have e2 : up s2 32 0 22 (w32 (s2 32 0 22 - 1)) 32 0 24 = (fl : Int) := by rw [up_i (by decide)]; exact c3
        have e3 : frR s (up s2 32 0 22 (w32 (s2 32 0 22 - 1))) := frR_r (frR_tr a3 c4) (by omega)
        rw [c1, bI_s, pbl]
        by_cases hr0 : r = 0
        · rw [if_pos hr0]
          exact okRX_l rfl e1 e2 e3
        · rw [if_neg hr0]
          exact okRX_l rfl e1 e2 e3
      | inr x =>
        obtain ⟨c, v, p1⟩ := x
        obtain ⟨s2, c1, c2, c3⟩ := h1.2 c v p1 hx
        rw [c1, bI_s, pbr]
        by_cases hr0 : v env = 0
        · rw [if_pos hr0]
          exact okRX_r (by show _ = some (some (vi (un (-9) (v env))), _); rw [show un (-9) (v env) = 1 from by unfold un; simp [hr0]]) (closeR c2 ho) (frR_r (frR_tr a3 c3) (by omega))
        · rw [if_neg hr0]
          exact okRX_r (by show _ = some (some (vi (un (-9) (v env))), _); rw [show un (-9) (v env) = 0 from by unfold un; simp [hr0]]) (closeR c2 ho) (frR_r (frR_tr a3 c3) (by omega))
  · rw [if_neg h11, if_neg h11]
    have h1 := hs (m + 2) p t env s (by omega) hr hp
    unfold cmpP
    cases hx : sumP b sz one p with
    | inl fl =>
      obtain ⟨r, s1, a1, a2, a3, a4⟩ := h1.1 fl hx
      rw [a1, bI_s, signB a2, bI_s, if_pos i00, signB a2, bI_s, if_pos i00, pbl]
      exact okRX_l rfl a2 a3 a4
    | inr x =>
      obtain ⟨c, v, p1⟩ := x
      obtain ⟨s1, a1, a2, a3⟩ := h1.2 c v p1 hx
      have gg := good_sum hg _ _ _ _ hp hx
      rw [a1, bI_s, signR a2.2.1 a2.2.2.1 (by decide), bI_s, b01, pbr]
      by_cases hc : tkC b sz p1 = 60 ∨ tkC b sz p1 = 61
      · have hgo : okRX b sz t o env (pb (sumP b sz one (tkE b sz p1)) (fun c2 v2 p2 => .inr (c ++ c2 ++ [if tkC b sz p1 = 60 then -10 else -11], fun env => jn (if tkC b sz p1 = 60 then -10 else -11) (v env) (v2 env), p2))) (EV (m + 2 + 1) mX9_not (77, [vr 32 0, vi (v env), UU, UU], [], s1)) s := by
          obtain ⟨s2, g1, g2, g3⟩ := nextH (d := m + 2) (o' := 0) (by omega) a2 gg.1 (by omega)
          have h2 := hs (m + 2) (tkE b sz p1) t env s2 (by omega) g2 (tkE_le gg.1)
          rw [qX9_not_77, worthR a2 (by omega)]
          have hgo2 : ∀ y : Int, (y = if tkC b sz p1 = 60 then 1 else 0) → okRX b sz t o env (pb (sumP b sz one (tkE b sz p1)) (fun c2 v2 p2 => .inr (c ++ c2 ++ [if tkC b sz p1 = 60 then -10 else -11], fun env => jn (if tkC b sz p1 = 60 then -10 else -11) (v env) (v2 env), p2))) (EV (m + 2 + 1) mX9_not (93, [vr 32 0, vi (v env), UU, UU], [vi y], s1)) s := by
            intro y hy
            rw [qX9_not_93, g1, bV_s]
            cases hy2 : sumP b sz one (tkE b sz p1) with
            | inl fl =>
              obtain ⟨r, s3, c1, c2, c3, c4⟩ := h2.1 fl hy2
              rw [c1, bI_s, pbl]
              have e3 : frR s s3 := frR_tr a3 (frR_tr g3 c4)
              by_cases y0 : y = 0
              · rw [if_pos y0]
                by_cases q : v env = r
                · rw [if_pos q]; exact okRX_l rfl c2 c3 e3
                · rw [if_neg q]; exact okRX_l rfl c2 c3 e3
              · rw [if_neg y0]
                by_cases q : v env < r
                · rw [if_pos q]; exact okRX_l rfl c2 c3 e3
                · rw [if_neg q]; exact okRX_l rfl c2 c3 e3
            | inr x =>
              obtain ⟨c2, v2, p2⟩ := x
              obtain ⟨s3, c1, c2', c3⟩ := h2.2 c2 v2 p2 hy2
              rw [c1, bI_s, pbr]
              have e3 : frR s s3 := frR_tr a3 (frR_tr g3 c3)
              by_cases h60 : tkC b sz p1 = 60
              · rw [if_pos h60] at hy
                simp only [if_pos h60]
                rw [if_neg (show ¬ y = 0 by omega)]
                by_cases q : v env < v2 env
                · rw [if_pos q]
                  exact okRX_r (by show _ = some (some (vi (jn (-10) (v env) (v2 env))), _); rw [show jn (-10) (v env) (v2 env) = 1 from by unfold jn; simp [q]]) c2' e3
                · rw [if_neg q]
                  exact okRX_r (by show _ = some (some (vi (jn (-10) (v env) (v2 env))), _); rw [show jn (-10) (v env) (v2 env) = 0 from by unfold jn; simp [q]]) c2' e3
              · rw [if_neg h60] at hy
                simp only [if_neg h60]
                rw [if_pos hy]
                by_cases q : v env = v2 env
                · rw [if_pos q]
                  exact okRX_r (by show _ = some (some (vi (jn (-11) (v env) (v2 env))), _); rw [show jn (-11) (v env) (v2 env) = 1 from by unfold jn; simp [q]]) c2' e3
                · rw [if_neg q]
                  exact okRX_r (by show _ = some (some (vi (jn (-11) (v env) (v2 env))), _); rw [show jn (-11) (v env) (v2 env) = 0 from by unfold jn; simp [q]]) c2' e3
          by_cases h60 : tkC b sz p1 = 60
          · rw [if_pos ((lcmp_eq _ _).mpr h60)]
            exact hgo2 1 (by rw [if_pos h60])
          · rw [if_neg (fun q => h60 ((lcmp_eq _ _).mp q))]
            exact hgo2 0 (by rw [if_neg h60])
        rw [if_pos hc]
        by_cases h60 : tkC b sz p1 = 60
        · rw [if_pos h60 (α := Rs)]
          exact hgo
        · rw [if_neg h60 (α := Rs), signR a2.2.1 a2.2.2.1 (by decide), bI_s, b01, if_pos (hc.resolve_left h60)]
          exact hgo
      · rw [if_neg hc, if_neg (show ¬ tkC b sz p1 = 60 by omega), signR a2.2.1 a2.2.2.1 (by decide), bI_s, b01, if_neg (show ¬ tkC b sz p1 = 61 by omega)]
        exact okRX_r rfl a2 a3
/-- a name -/
theorem nameR {d t p : Nat} {o : Int} {env : Nat → Int} {s : Sg} (hd : 3 ≤ d) (hr : rdy b sz t p o env s) (hp : p ≤ sz) : (tkC b sz p ≤ 5 → RUN d mX9_name [vr 32 0] s = some (some (vi (env (tkC b sz p).toNat)), s)) ∧ (5 < tkC b sz p → ∃ s', RUN d mX9_name [vr 32 0] s = some (some (vi 0), s') ∧ s' 32 0 23 = 1 ∧ s' 32 0 24 = ((tkB b sz p : Nat) : Int) ∧ frR s s') := by
  obtain ⟨m, rfl⟩ : ∃ m, d = m + 2 + 1 := ⟨d - 3, by omega⟩
  have hnn : 0 ≤ tkC b sz p := tcF_nn
  have he := hr.2.2.2.2
  rw [qX9_name, word_0 hr.1 hr.2.1 hr.2.2.1 hp, bI_s, b01]
  by_cases h0 : tkC b sz p = 0
  · rw [if_pos h0, h0]
    exact ⟨fun _ => by rw [he 0 (by omega)]; rfl, fun h => by omega⟩
  rw [if_neg h0, word_1 hr.1 hr.2.1 hr.2.2.1 hp, bI_s, b01]
  by_cases h1 : tkC b sz p = 1
  · rw [if_pos h1, h1]
    exact ⟨fun _ => by rw [he 1 (by omega)]; rfl, fun h => by omega⟩
  rw [if_neg h1, word_2 hr.1 hr.2.1 hr.2.2.1 hp, bI_s, b01]
  by_cases h2 : tkC b sz p = 2
  · rw [if_pos h2, h2]
    exact ⟨fun _ => by rw [he 2 (by omega)]; rfl, fun h => by omega⟩
  rw [if_neg h2, word_3 hr.1 hr.2.1 hr.2.2.1 hp, bI_s, b01]
  by_cases h3 : tkC b sz p = 3
  · rw [if_pos h3, h3]
    exact ⟨fun _ => by rw [he 3 (by omega)]; rfl, fun h => by omega⟩
  rw [if_neg h3, word_4 hr.1 hr.2.1 hr.2.2.1 hp, bI_s, b01]
  by_cases h4 : tkC b sz p = 4
  · rw [if_pos h4, h4]
    exact ⟨fun _ => by rw [he 4 (by omega)]; rfl, fun h => by omega⟩
  rw [if_neg h4, word_5 hr.1 hr.2.1 hr.2.2.1 hp, bI_s, b01]
  by_cases h5 : tkC b sz p = 5
  · rw [if_pos h5, h5]
    exact ⟨fun _ => by rw [he 5 (by omega)]; rfl, fun h => by omega⟩
  rw [if_neg h5]
  obtain ⟨s', a1, a2, a3, a4⟩ := failR (d := m + 2) hr
  rw [a1, bV_s]
  exact ⟨fun h => by omega, fun _ => ⟨s', rfl, a2, a3, a4⟩⟩
end RR
