/-! PARSE 15: the class asks the rule: the code is run -/
section AK
theorem joinC {d : Nat} {x a y : Int} {s : Sg} : RUN d mX5_joined [vi x, vi a, vi y] s = some (some (vi (jn x a y)), s) := by
  rw [qX5_joined]
  unfold jn
  by_cases h1 : x = -13
  · rw [if_pos h1, if_pos h1]
  rw [if_neg h1, if_neg h1]
  by_cases h2 : x = -12
  · rw [if_pos h2, if_pos h2]
  rw [if_neg h2, if_neg h2]
  by_cases h3 : x = -11
  · rw [if_pos h3, if_pos h3]
    by_cases q : a = y
    · rw [if_pos q, if_pos q]
    · rw [if_neg q, if_neg q]
  rw [if_neg h3, if_neg h3]
  by_cases h4 : x = -10
  · rw [if_pos h4, if_pos h4]
    by_cases q : a < y
    · rw [if_pos q, if_pos q]
    · rw [if_neg q, if_neg q]
  rw [if_neg h4, if_neg h4]
  by_cases h5 : x = -9
  · rw [if_pos h5, if_pos h5]
  rw [if_neg h5, if_neg h5]
  by_cases h6 : x = -8
  · rw [if_pos h6, if_pos h6]
    by_cases q : a = 0
    · rw [if_pos q, if_pos q]
    · rw [if_neg q, if_neg q]
      by_cases q2 : y = 0
      · rw [if_pos q2, if_pos q2]
      · rw [if_neg q2, if_neg q2]
  rw [if_neg h6, if_neg h6]
  by_cases h7 : x = -7
  · rw [if_pos h7, if_pos h7]
    by_cases q : a = 0
    · rw [if_pos q, if_pos q]
      by_cases q2 : y = 0
      · rw [if_pos q2, if_pos q2]
      · rw [if_neg q2, if_neg q2]
    · rw [if_neg q, if_neg q]
  rw [if_neg h7, if_neg h7]
def stk (st : List Int) (s : Sg) : Prop := ∀ k, k < st.length → s 9 0 (st.length - 1 - k) = st.getD k 0
/-- groups 9 and 10 alone change -/
def frA (s s' : Sg) : Prop := ∀ c, c ≠ 9 → c ≠ 10 → s' c = s c
theorem frA_tr {s1 s2 s3 : Sg} (h1 : frA s1 s2) (h2 : frA s2 s3) : frA s1 s3 := fun c a b => (h2 c a b).trans (h1 c a b)
theorem stk_push {st : List Int} {s : Sg} {x : Int} (h : stk st s) : stk (x :: st) (up s 9 0 st.length x) := fun k hk => by
  have hk : k < st.length + 1 := hk
  cases k with
  | zero =>
    show up s 9 0 st.length x 9 0 (st.length + 1 - 1 - 0) = x
    rw [show st.length + 1 - 1 - 0 = st.length by omega, up_hit]
  | succ k =>
    show up s 9 0 st.length x 9 0 (st.length + 1 - 1 - (k + 1)) = st.getD k 0
    rw [up_i (by omega), ← h k (by omega), show st.length + 1 - 1 - (k + 1) = st.length - 1 - k by omega]
theorem stk_top {a : Int} {st : List Int} {s : Sg} (h : stk (a :: st) s) : s 9 0 st.length = a := by
  have := h 0 (Nat.succ_pos _)
  exact this
theorem stk_pop {a : Int} {st : List Int} {s : Sg} (h : stk (a :: st) s) : stk st s := fun k hk => by
  have := h (k + 1) (Nat.succ_lt_succ hk)
  have e : (a :: st).length - 1 - (k + 1) = st.length - 1 - k := by
    show st.length + 1 - 1 - (k + 1) = _
    omega
  rw [e] at this
  exact this
theorem stk_set {a x : Int} {st : List Int} {s : Sg} (h : stk (a :: st) s) : stk (x :: st) (up s 9 0 st.length x) := stk_push (stk_pop h)
theorem askL {d t : Nat} {env : Nat → Int} {z1 z2 z3 z4 z5 z6 : PV} : ∀ (c st : List Int) (i : Nat) (z10 z11 : PV) (s : Sg) (w : Int) (r : List Int), (∀ q, q < c.length → s 6 t (i + q) = c.getD q 0) → s 6 t (i + c.length) = -16 → i + c.length < 160 → (∀ x, x ∈ c → -16 < x) → st.length ≤ i → stk st s → (∀ k, k < 6 → s 10 0 k = env k) → exs env c st = w :: r → ∃ s', EV (d + 1) mX5_ask (116, [vr 4 0, z1, z2, z3, z4, z5, z6, vr 6 t, vi (st.length : Int), vi (i : Int), z10, z11], [], s) = some (some (vi w), s') ∧ frA s s' := by
  intro c
  induction c with
  | nil =>
    intro st i z10 z11 s w r h1 h2 h3 h4 h5 h6 h7 h8
    have h2 : s 6 t i = -16 := h2
    have h3 : i < 160 := h3
    rw [exs_nil] at h8
    subst h8
    have htop := stk_top h6
    have h5 : r.length + 1 ≤ i := h5
    have e : (((w :: r).length : Nat) : Int) = (r.length : Int) + 1 := rfl
    rw [qX5_ask_116, if_neg (by omega), if_pos (by omega), if_pos (show inb (i : Int) 160 by constructor <;> omega), Int.toNat_natCast, if_pos h2, qX5_ask_306, e, if_neg (by omega), w32_id (by omega) (by omega), show (r.length : Int) + 1 - 1 = (r.length : Int) by omega, if_pos (show inb (r.length : Int) 160 by constructor <;> omega), Int.toNat_natCast, htop]
    exact ⟨s, rfl, fun _ _ _ => rfl⟩
  | cons x c ih =>
    intro st i z10 z11 s w r h1 h2 h3 h4 h5 h6 h7 h8
    have h3 : i + (c.length + 1) < 160 := h3
    have hx : s 6 t i = x := h1 0 (Nat.succ_pos _)
    have hx16 := h4 x List.mem_cons_self
    have h1' : ∀ s' : Sg, s' 6 = s 6 → ∀ q, q < c.length → s' 6 t (i + 1 + q) = c.getD q 0 := fun s' hs q hq => by
      rw [hs, show i + 1 + q = i + (q + 1) by omega]
      exact h1 (q + 1) (Nat.succ_lt_succ hq)
    have h2' : ∀ s' : Sg, s' 6 = s 6 → s' 6 t (i + 1 + c.length) = -16 := fun s' hs => by
      rw [hs, show i + 1 + c.length = i + (c.length + 1) by omega]
      exact h2
    have h4' : ∀ y, y ∈ c → -16 < y := fun y hy => h4 y (List.mem_cons_of_mem _ hy)
    rw [exs_cons] at h8
    rw [qX5_ask_116, if_neg (by omega), if_pos (by omega), if_pos (show inb (i : Int) 160 by constructor <;> omega), Int.toNat_natCast, hx, if_neg (by omega), if_pos (show inb (i : Int) 160 by constructor <;> omega)]
    have hi1 : (i : Int) + 1 = ((i + 1 : Nat) : Int) := by omega
    by_cases hp : 0 ≤ x
    · have e8 : exst env x st = x :: st := by unfold exst; rw [if_pos hp]
      rw [e8] at h8
      obtain ⟨s', a1, a2⟩ := ih (x :: st) (i + 1) (vi x) z11 (up s 9 0 st.length x) w r (h1' _ (up_c (by decide))) (h2' _ (up_c (by decide))) (by omega) h4' (by show st.length + 1 ≤ _; omega) (stk_push h6) (fun k hk => by rw [up_c (by decide)]; exact h7 k hk) h8
      refine ⟨s', ?_, frA_tr (fun c0 q1 q2 => up_c q1) a2⟩
      rw [if_neg (by omega), if_pos (by omega), if_neg (by omega), qX5_ask_191, if_pos (show inb (st.length : Int) 160 by constructor <;> omega), Int.toNat_natCast, qX5_ask_300, w32_id (by omega) (by omega), w32_id (by omega) (by omega), hi1]
      exact a1
    · by_cases h6n : -6 ≤ x
      · have e8 : exst env x st = env (-1 - x).toNat :: st := by unfold exst; rw [if_neg hp, if_pos h6n]
        rw [e8] at h8
        obtain ⟨s', a1, a2⟩ := ih (env (-1 - x).toNat :: st) (i + 1) (vi x) z11 (up s 9 0 st.length (env (-1 - x).toNat)) w r (h1' _ (up_c (by decide))) (h2' _ (up_c (by decide))) (by omega) h4' (by show st.length + 1 ≤ _; omega) (stk_push h6) (fun k hk => by rw [up_c (by decide)]; exact h7 k hk) h8
        refine ⟨s', ?_, frA_tr (fun c0 q1 q2 => up_c q1) a2⟩
        rw [if_neg (by omega), if_pos (by omega), if_pos (by omega), w32_id (x := -1 - x) (by omega) (by omega), if_pos (show inb (-1 - x) 6 by constructor <;> omega), h7 _ (by omega), qX5_ask_191, if_pos (show inb (st.length : Int) 160 by constructor <;> omega), Int.toNat_natCast, qX5_ask_300, w32_id (by omega) (by omega), w32_id (by omega) (by omega), hi1]
        exact a1
      · rw [if_pos (by omega)]
        by_cases hu : x = -9 ∨ x = -15
        · have hgo : ∃ s', EV (d + 1) mX5_ask (209, [vr 4 0, z1, z2, z3, z4, z5, z6, vr 6 t, vi (st.length : Int), vi (i : Int), vi x, z11], [], s) = some (some (vi w), s') ∧ frA s s' := by
            cases st with
            | nil =>
              have e8 : exst env x [] = [] := by unfold exst; rw [if_neg hp, if_neg h6n, if_pos hu]
              rw [e8] at h8
              obtain ⟨s', a1, a2⟩ := ih [] (i + 1) (vi x) z11 s w r (h1' _ rfl) (h2' _ rfl) (by omega) h4' (Nat.zero_le _) h6 h7 h8
              refine ⟨s', ?_, a2⟩
              rw [qX5_ask_209, if_pos (show (([] : List Int).length : Int) < 1 by decide), qX5_ask_300, w32_id (by omega) (by omega), hi1]
              exact a1
            | cons a st =>
              have e8 : exst env x (a :: st) = un x a :: st := by unfold exst; rw [if_neg hp, if_neg h6n, if_pos hu]
              rw [e8] at h8
              have h5 : st.length + 1 ≤ i := h5
              have htop := stk_top h6
              obtain ⟨s', a1, a2⟩ := ih (un x a :: st) (i + 1) (vi x) (vi a) (up s 9 0 st.length (un x a)) w r (h1' _ (up_c (by decide))) (h2' _ (up_c (by decide))) (by omega) h4' (by show st.length + 1 ≤ _; omega) (stk_set h6) (fun k hk => by rw [up_c (by decide)]; exact h7 k hk) h8
              refine ⟨s', ?_, frA_tr (fun c0 q1 q2 => up_c q1) a2⟩
              have e : (((a :: st).length : Nat) : Int) = (st.length : Int) + 1 := rfl
              have hfin : ∀ y : Int, y = un x a → EV (d + 1) mX5_ask (257, [vr 4 0, z1, z2, z3, z4, z5, z6, vr 6 t, vi ((st.length : Int) + 1), vi (i : Int), vi x, vi a], [vi y, vi (st.length : Int), vr 9 0], s) = some (some (vi w), s') := by
                intro y hy
                rw [qX5_ask_257, if_pos (show inb (st.length : Int) 160 by constructor <;> omega), Int.toNat_natCast, qX5_ask_300, w32_id (by omega) (by omega), hi1, hy]
                exact a1
              rw [qX5_ask_209, e, if_neg (by omega), w32_id (x := (st.length : Int) + 1 - 1) (by omega) (by omega), show (st.length : Int) + 1 - 1 = (st.length : Int) by omega, if_pos (show inb (st.length : Int) 160 by constructor <;> omega), Int.toNat_natCast, htop]
              unfold un at hfin
              by_cases h15 : x = -15
              · rw [if_pos h15, hfin _ (by rw [if_pos h15])]
              · rw [if_neg h15]
                by_cases ha : a = 0
                · rw [if_pos ha, hfin _ (by rw [if_neg h15, if_pos ha])]
                · rw [if_neg ha, hfin _ (by rw [if_neg h15, if_neg ha])]
          by_cases h9 : x = -9
          · rw [if_pos h9]; exact hgo
          · rw [if_neg h9, if_pos (hu.resolve_left h9)]; exact hgo
        · rw [if_neg (fun q => hu (Or.inl q)), if_neg (fun q => hu (Or.inr q))]
          have hshort : st.length < 2 → exst env x st = st := by
            intro hl
            unfold exst
            rw [if_neg hp, if_neg h6n, if_neg hu]
            match st, hl with
            | [], _ => rfl
            | [_], _ => rfl
          by_cases hl : st.length < 2
          · rw [hshort hl] at h8
            obtain ⟨s', a1, a2⟩ := ih st (i + 1) (vi x) z11 s w r (h1' _ rfl) (h2' _ rfl) (by omega) h4' (by omega) h6 h7 h8
            refine ⟨s', ?_, a2⟩
            rw [if_pos (by omega), qX5_ask_300, w32_id (by omega) (by omega), hi1]
            exact a1
          · rcases st with _ | ⟨y, st⟩
            · exact absurd (show ([] : List Int).length < 2 by decide) hl
            rcases st with _ | ⟨a, st⟩
            · exact absurd (show [y].length < 2 from Nat.lt_succ_self 1) hl
            have h5 : st.length + 1 + 1 ≤ i := h5
            have e8 : exst env x (y :: a :: st) = jn x a y :: st := by unfold exst; rw [if_neg hp, if_neg h6n, if_neg hu]
            rw [e8] at h8
            have ht1 : s 9 0 (st.length + 1) = y := stk_top h6
            have ht2 : s 9 0 st.length = a := stk_top (stk_pop h6)
            obtain ⟨s', a1, a2⟩ := ih (jn x a y :: st) (i + 1) (vi x) z11 (up s 9 0 st.length (jn x a y)) w r (h1' _ (up_c (by decide))) (h2' _ (up_c (by decide))) (by omega) h4' (by show st.length + 1 ≤ _; omega) (stk_set (stk_pop h6)) (fun k hk => by rw [up_c (by decide)]; exact h7 k hk) h8
            refine ⟨s', ?_, frA_tr (fun c0 q1 q2 => up_c q1) a2⟩
            have e : (((y :: a :: st).length : Nat) : Int) = (st.length : Int) + 2 := rfl
            rw [e, if_neg (by omega), w32_id (x := (st.length : Int) + 2 + -1) (by omega) (by omega), w32_id (x := (st.length : Int) + 2 + -1 - 1) (by omega) (by omega), show (st.length : Int) + 2 + -1 - 1 = (st.length : Int) by omega, show (st.length : Int) + 2 + -1 = ((st.length + 1 : Nat) : Int) by omega, if_pos (show inb (st.length : Int) 160 by constructor <;> omega), if_pos (show inb ((st.length + 1 : Nat) : Int) 160 by constructor <;> omega), Int.toNat_natCast, Int.toNat_natCast, ht1, ht2, joinC, bI_s, if_pos (show inb (st.length : Int) 160 by constructor <;> omega), qX5_ask_300, w32_id (by omega) (by omega), hi1]
            exact a1
end AK
def envI (ft : Ft) (c : Nat) (l m a : Int) (k : Nat) : Int := if k = 0 then ft 1 c else if k = 1 then l else if k = 2 then m else if k = 3 then ft 0 c else if k = 4 then a else ft 4 c
theorem askC {d t k c : Nat} {l m a : Int} {v : Sem} {s : Sg} (hk : k < 3) (ht : s 4 0 5 = (t : Int)) (htn : (t : Int) < s 4 0 4) (h6 : t < 6) (hst : stands t k v s) (hc : (c : Int) < s 1 0 1) (hc6 : s 1 0 1 ≤ 6) : ∃ s', RUN (d + 1) mX5_ask [vr 4 0, vi (k : Int), vr 1 0, vi (c : Int), vi l, vi m, vi a] s = some (some (vi (v (envI (s 3) c l m a))), s') ∧ frA s s' := by
  have hcx : (0 : Int) ≤ (c : Int) ∧ (c : Int) < s 1 0 1 := ⟨by omega, hc⟩
  rw [qX5_ask, tell_ok (by omega) hcx hc6, bI_s, Int.toNat_natCast]
  obtain ⟨s1, hs1, f1, n10, n11, n12⟩ : ∃ s1, up (up (up s 10 0 0 (s 3 (Int.toNat 1) c)) 10 0 1 l) 10 0 2 m = s1 ∧ frA s s1 ∧ s1 10 0 0 = s 3 1 c ∧ s1 10 0 1 = l ∧ s1 10 0 2 = m := by
    refine ⟨_, rfl, fun c' h1 h2 => ?_, ?_, ?_, ?_⟩
    · rw [up_c h2, up_c h2, up_c h2]
    · rw [up_i (by decide), up_i (by decide), up_hit]; rfl
    · rw [up_i (by decide), up_hit]
    · rw [up_hit]
  have g1 : s1 1 = s 1 := f1 1 (by decide) (by decide)
  have g3 : s1 3 = s 3 := f1 3 (by decide) (by decide)
  rw [hs1, tell_ok (by omega) (by rw [g1]; exact hcx) (by rw [g1]; exact hc6), bI_s, Int.toNat_natCast, g3]
  obtain ⟨s2, hs2, f2, m0, m1, m2, m3, m4⟩ : ∃ s2, up (up s1 10 0 3 (s 3 (Int.toNat 0) c)) 10 0 4 a = s2 ∧ frA s s2 ∧ s2 10 0 0 = s 3 1 c ∧ s2 10 0 1 = l ∧ s2 10 0 2 = m ∧ s2 10 0 3 = s 3 0 c ∧ s2 10 0 4 = a := by
    refine ⟨_, rfl, fun c' h1 h2 => ?_, ?_, ?_, ?_, ?_, ?_⟩
    · rw [up_c h2, up_c h2]; exact f1 c' h1 h2
    · rw [up_i (by decide), up_i (by decide)]; exact n10
    · rw [up_i (by decide), up_i (by decide)]; exact n11
    · rw [up_i (by decide), up_i (by decide)]; exact n12
    · rw [up_i (by decide), up_hit]; rfl
    · rw [up_hit]
  have k1 : s2 1 = s 1 := f2 1 (by decide) (by decide)
  have k3 : s2 3 = s 3 := f2 3 (by decide) (by decide)
  have k4 : s2 4 = s 4 := f2 4 (by decide) (by decide)
  have k8 : s2 8 = s 8 := f2 8 (by decide) (by decide)
  have k6 : s2 6 = s 6 := f2 6 (by decide) (by decide)
  rw [hs2, tell_ok (by omega) (by rw [k1]; exact hcx) (by rw [k1]; exact hc6), bI_s, Int.toNat_natCast, k3, k4, k8, ht, if_neg (by omega), if_pos htn, if_neg (by omega), if_pos (by omega), if_pos (show inb (t : Int) 6 by constructor <;> omega), if_pos (show inb (t : Int) 6 by constructor <;> omega), if_pos (show inb (k : Int) 3 by constructor <;> omega), Int.toNat_natCast, Int.toNat_natCast]
  obtain ⟨w, cd, x1, x2, x3, x4, x5, x6⟩ := hst
  rw [x1]
  have hA := askL (d := d) (t := t) (env := envI (s 3) c l m a) (z1 := vi (k : Int)) (z2 := vr 1 0) (z3 := vi (c : Int)) (z4 := vi l) (z5 := vi m) (z6 := vi a) cd [] w UU UU (up s2 10 0 5 (s 3 (Int.toNat 4) c)) (v (envI (s 3) c l m a)) []
    (fun q hq => by rw [up_c (by decide), k6]; exact x3 q hq) (by rw [up_c (by decide), k6]; exact x4) x2 x6 (Nat.zero_le _) (fun k hk => absurd hk (Nat.not_lt_zero k))
    (fun q hq => by
      have hq : q = 0 ∨ q = 1 ∨ q = 2 ∨ q = 3 ∨ q = 4 ∨ q = 5 := by omega
      unfold envI
      rcases hq with rfl | rfl | rfl | rfl | rfl | rfl
      · rw [up_i (by decide), m0, if_pos rfl]
      · rw [up_i (by decide), m1, if_neg (by decide), if_pos rfl]
      · rw [up_i (by decide), m2, if_neg (by decide), if_neg (by decide), if_pos rfl]
      · rw [up_i (by decide), m3, if_neg (by decide), if_neg (by decide), if_neg (by decide), if_pos rfl]
      · rw [up_i (by decide), m4, if_neg (by decide), if_neg (by decide), if_neg (by decide), if_neg (by decide), if_pos rfl]
      · rw [up_hit, if_neg (by decide), if_neg (by decide), if_neg (by decide), if_neg (by decide), if_neg (by decide)]; rfl)
    (x5 _ _)
  obtain ⟨s', a1, a2⟩ := hA
  exact ⟨s', a1, frA_tr f2 (frA_tr (fun c' h1 h2 => up_c h2) a2)⟩
