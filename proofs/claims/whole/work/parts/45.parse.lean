/-! PARSE 7: the texts' grammar, as it is to be: code and what it says -/
abbrev Sem : Type := (Nat → Int) → Int
abbrev PR : Type := Nat ⊕ (List Int × Sem × Nat)
def jn (o a b : Int) : Int := if o = -13 then w32 (a - b) else if o = -12 then w32 (a + b) else if o = -11 then (if a = b then 1 else 0) else if o = -10 then (if a < b then 1 else 0) else if o = -9 then w32 (a * b) else if o = -8 then (if a = 0 then 0 else if b = 0 then 0 else 1) else if o = -7 then (if a = 0 then (if b = 0 then 0 else 1) else 1) else w32 (a * b)
def un (o a : Int) : Int := if o = -15 then w32 (-a) else if a = 0 then 1 else 0
def exst (env : Nat → Int) (x : Int) (st : List Int) : List Int := if 0 ≤ x then x :: st else if -6 ≤ x then env (-1 - x).toNat :: st else if x = -9 ∨ x = -15 then (match st with | a :: r => un x a :: r | [] => []) else (match st with | y :: a :: r => jn x a y :: r | st => st)
def exs (env : Nat → Int) : List Int → List Int → List Int
  | [], st => st
  | x :: c, st => exs env c (exst env x st)
theorem exs_nil (env : Nat → Int) (st : List Int) : exs env [] st = st := rfl
theorem exs_cons (env : Nat → Int) (x : Int) (c st : List Int) : exs env (x :: c) st = exs env c (exst env x st) := rfl
theorem exs_app (env : Nat → Int) : ∀ (c c' st : List Int), exs env (c ++ c') st = exs env c' (exs env c st)
  | [], _, _ => rfl
  | x :: c, c', st => by
    show exs env (x :: (c ++ c')) st = _
    rw [exs_cons, exs_cons, exs_app env c c']
def pb (r : PR) (k : List Int → Sem → Nat → PR) : PR := match r with | .inl f => .inl f | .inr x => k x.1 x.2.1 x.2.2
theorem pb_l {r : PR} {k : List Int → Sem → Nat → PR} {f : Nat} (h : r = .inl f) : pb r k = .inl f := by rw [h]; rfl
theorem pb_r {r : PR} {k : List Int → Sem → Nat → PR} {c : List Int} {v : Sem} {p : Nat} (h : r = .inr (c, v, p)) : pb r k = k c v p := by rw [h]; rfl
section GR
variable (b : Nat → Int) (sz : Nat)
def chn (op : Int → Int) (sub : Nat → PR) : Nat → List Int → Sem → Nat → PR
  | 0, c, v, p => .inr (c, v, p)
  | k + 1, c, v, p => if op (tkC b sz p) = 0 then .inr (c, v, p) else pb (sub (tkE b sz p)) (fun c2 v2 p2 => chn op sub k (c ++ c2 ++ [op (tkC b sz p)]) (fun env => jn (op (tkC b sz p)) (v env) (v2 env)) p2)
def opOr (x : Int) : Int := if x = 9 then -7 else 0
def opAnd (x : Int) : Int := if x = 10 then -8 else 0
def opMul (x : Int) : Int := if x = 42 then -14 else 0
def opSum (x : Int) : Int := if x = 43 then -12 else if x = 45 then -13 else 0
def lstP (op : Int → Int) (sub : Nat → PR) (p : Nat) : PR := pb (sub p) (fun c v p' => chn b sz op sub 160 c v p')
def sumP (one : Nat → PR) : Nat → PR := lstP b sz opSum (lstP b sz opMul one)
def cmpP (one : Nat → PR) (p : Nat) : PR := pb (sumP b sz one p) (fun c v p' => if tkC b sz p' = 60 ∨ tkC b sz p' = 61 then pb (sumP b sz one (tkE b sz p')) (fun c2 v2 p2 => .inr (c ++ c2 ++ [if tkC b sz p' = 60 then -10 else -11], fun env => jn (if tkC b sz p' = 60 then -10 else -11) (v env) (v2 env), p2)) else .inr (c, v, p'))
def notP (one : Nat → PR) (nt : Option (Nat → PR)) (p : Nat) : PR := if tkC b sz p = 11 then (match nt with | none => .inl (tkB b sz p) | some n => pb (n (tkE b sz p)) (fun c v p' => .inr (c ++ [-9], fun env => un (-9) (v env), p'))) else cmpP b sz one p
def orP (nt : Nat → PR) : Nat → PR := lstP b sz opOr (lstP b sz opAnd nt)
def oneP (inner : Option ((Nat → PR) × (Nat → PR))) (p : Nat) : PR :=
  if tkC b sz p = 12 then .inr ([tkN b sz p], fun _ => tkN b sz p, tkE b sz p)
  else if tkC b sz p ≤ 5 then .inr ([-1 - tkC b sz p], fun env => env (tkC b sz p).toNat, tkE b sz p)
  else if tkC b sz p = 45 then (match inner with | none => .inl (tkB b sz p) | some i => pb (i.1 (tkE b sz p)) (fun c v p' => .inr (c ++ [-15], fun env => un (-15) (v env), p')))
  else if tkC b sz p = 40 then (match inner with | none => .inl (tkB b sz p) | some i => pb (orP b sz i.2 (tkE b sz p)) (fun c v p' => if tkC b sz p' = 41 then .inr (c, v, tkE b sz p') else .inl (tkB b sz p')))
  else .inl (tkB b sz p)
def lvl : Nat → (Nat → PR) × (Nat → PR)
  | 0 => (oneP b sz none, notP b sz (oneP b sz none) none)
  | r + 1 => (oneP b sz (some (lvl r)), notP b sz (oneP b sz (some (lvl r))) (some (lvl r).2))
def prtP (k : Int) (p : Nat) : PR := if tkC b sz p = 6 + k then pb (orP b sz (lvl b sz 5).2 (tkE b sz p)) (fun c v p' => if tkC b sz p' = 59 then .inr (c ++ [-16], v, tkE b sz p') else .inl (tkB b sz p')) else .inl (tkB b sz p)
end GR
section GD
variable {b : Nat → Int} {sz : Nat}
theorem te_rg {q : Nat} (h : q ≤ sz) : teF b sz q ≤ sz ∧ (tcF b sz q ≠ 13 → q < teF b sz q) := by
  unfold teF tcF
  by_cases hq : q < sz
  · rw [if_neg (show ¬ ¬ q < sz from fun h => h hq), if_neg (show ¬ ¬ q < sz from fun h => h hq)]
    by_cases hl : ltr (b q) = true
    · rw [if_pos hl]
      refine ⟨scan_le h, fun _ => ?_⟩
      rw [scan_in hq hl]
      exact scan_ge
    · rw [if_neg hl]
      by_cases hd : dgt (b q) = true
      · rw [if_pos hd]
        refine ⟨scan_le h, fun _ => ?_⟩
        rw [scan_in hq hd]
        exact scan_ge
      · rw [if_neg hd]
        exact ⟨by omega, fun _ => by omega⟩
  · rw [if_pos hq, if_pos hq]
    exact ⟨h, fun h => absurd rfl h⟩
theorem tkB_ge {p : Nat} : p ≤ tkB b sz p := scan_ge
theorem tkB_le {p : Nat} (h : p ≤ sz) : tkB b sz p ≤ sz := scan_le h
theorem tkE_le {p : Nat} (h : p ≤ sz) : tkE b sz p ≤ sz := (te_rg (tkB_le h)).1
theorem tkE_gt {p : Nat} (h : p ≤ sz) (hc : tkC b sz p ≠ 13) : tkB b sz p < tkE b sz p := (te_rg (tkB_le h)).2 hc
theorem tkEB {p : Nat} (h : p ≤ sz) (hc : tkC b sz p ≠ 13) : tkB b sz p < tkB b sz (tkE b sz p) := Nat.lt_of_lt_of_le (tkE_gt h hc) tkB_ge
def good1 (b : Nat → Int) (sz p : Nat) (c : List Int) (v : Sem) (p' : Nat) : Prop := p' ≤ sz ∧ tkB b sz p + c.length ≤ tkB b sz p' ∧ tkB b sz p < tkB b sz p' ∧ (∀ env st, exs env c st = v env :: st) ∧ (∀ x, x ∈ c → -16 < x)
def goodP (b : Nat → Int) (sz : Nat) (f : Nat → PR) : Prop := ∀ p c v p', p ≤ sz → f p = .inr (c, v, p') → good1 b sz p c v p'
def opOk (op : Int → Int) : Prop := ∀ x, op x = 0 ∨ (op x < -6 ∧ op x ≠ -9 ∧ -15 < op x ∧ x ≠ 13)
theorem exs_bin {env : Nat → Int} {o a y : Int} {st : List Int} (h1 : o < -6) (h2 : o ≠ -9) (h3 : -15 < o) : exs env [o] (y :: a :: st) = jn o a y :: st := by
  rw [exs_cons, exs_nil, exst, if_neg (by omega), if_neg (by omega), if_neg (by omega)]
theorem good_bin {p p1 p2 : Nat} {c c2 : List Int} {v v2 : Sem} {o : Int} (hp1 : p1 ≤ sz) (h13 : tkC b sz p1 ≠ 13) (h1 : good1 b sz p c v p1) (h2 : good1 b sz (tkE b sz p1) c2 v2 p2) (o1 : o < -6) (o2 : o ≠ -9) (o3 : -15 < o) : good1 b sz p (c ++ c2 ++ [o]) (fun env => jn o (v env) (v2 env)) p2 := by
  obtain ⟨a1, a2, a3, a4, a5⟩ := h1
  obtain ⟨c1, c2', c3, c4, c5⟩ := h2
  have hh := tkEB hp1 h13
  refine ⟨c1, ?_, by omega, fun env st => ?_, fun x hx => ?_⟩
  · rw [List.length_append, List.length_append]
    show _ + (_ + _ + 1) ≤ _
    omega
  · rw [exs_app, exs_app, a4, c4, exs_bin o1 o2 o3]
  · rw [List.mem_append, List.mem_append, List.mem_singleton] at hx
    rcases hx with (hx | hx) | hx
    · exact a5 x hx
    · exact c5 x hx
    · omega
theorem good_chn {op : Int → Int} {sub : Nat → PR} (ho : opOk op) (hs : goodP b sz sub) {p0 : Nat} : ∀ (k : Nat) (c : List Int) (v : Sem) (p : Nat) (c' : List Int) (v' : Sem) (p' : Nat), good1 b sz p0 c v p → chn b sz op sub k c v p = .inr (c', v', p') → good1 b sz p0 c' v' p' := by
  intro k
  induction k with
  | zero =>
    intro c v p c' v' p' h1 h2
    rw [chn] at h2
    cases h2
    exact h1
  | succ k ih =>
    intro c v p c' v' p' h1 h2
    rw [chn] at h2
    by_cases hz : op (tkC b sz p) = 0
    · rw [if_pos hz] at h2
      cases h2
      exact h1
    · rw [if_neg hz] at h2
      have hp : p ≤ sz := h1.1
      obtain ⟨o1, o2, o3, o4⟩ := (ho (tkC b sz p)).resolve_left hz
      cases hsub : sub (tkE b sz p) with
      | inl f => rw [pb_l hsub] at h2; cases h2
      | inr x =>
        obtain ⟨c2, v2, p2⟩ := x
        rw [pb_r hsub] at h2
        exact ih _ _ _ _ _ _ (good_bin hp o4 h1 (hs _ _ _ _ (tkE_le hp) hsub) o1 o2 o3) h2
theorem good_lst {op : Int → Int} {sub : Nat → PR} (ho : opOk op) (hs : goodP b sz sub) : goodP b sz (lstP b sz op sub) := by
  intro p c v p' hp h
  unfold lstP at h
  cases hsub : sub p with
  | inl f => rw [pb_l hsub] at h; cases h
  | inr x =>
    obtain ⟨c2, v2, p2⟩ := x
    rw [pb_r hsub] at h
    exact good_chn ho hs _ _ _ _ _ _ _ (hs _ _ _ _ hp hsub) h
theorem ok_or : opOk opOr := fun x => by
  unfold opOr
  by_cases h : x = 9
  · rw [if_pos h]; omega
  · rw [if_neg h]; omega
theorem ok_and : opOk opAnd := fun x => by
  unfold opAnd
  by_cases h : x = 10
  · rw [if_pos h]; omega
  · rw [if_neg h]; omega
theorem ok_mul : opOk opMul := fun x => by
  unfold opMul
  by_cases h : x = 42
  · rw [if_pos h]; omega
  · rw [if_neg h]; omega
theorem ok_sum : opOk opSum := fun x => by
  unfold opSum
  by_cases h : x = 43
  · rw [if_pos h]; omega
  · rw [if_neg h]
    by_cases h : x = 45
    · rw [if_pos h]; omega
    · rw [if_neg h]; omega
theorem good_sum {one : Nat → PR} (h : goodP b sz one) : goodP b sz (sumP b sz one) := good_lst ok_sum (good_lst ok_mul h)
theorem good_or {nt : Nat → PR} (h : goodP b sz nt) : goodP b sz (orP b sz nt) := good_lst ok_or (good_lst ok_and h)
theorem good_cmp {one : Nat → PR} (h : goodP b sz one) : goodP b sz (cmpP b sz one) := by
  intro p c v p' hp hx
  unfold cmpP at hx
  cases h1 : sumP b sz one p with
  | inl f => rw [pb_l h1] at hx; cases hx
  | inr x =>
    obtain ⟨c1, v1, p1⟩ := x
    rw [pb_r h1] at hx
    have g1 := good_sum h _ _ _ _ hp h1
    by_cases hc : tkC b sz p1 = 60 ∨ tkC b sz p1 = 61
    · rw [if_pos hc] at hx
      cases h2 : sumP b sz one (tkE b sz p1) with
      | inl f => rw [pb_l h2] at hx; cases hx
      | inr x =>
        obtain ⟨c2, v2, p2⟩ := x
        rw [pb_r h2] at hx
        have g2 := good_sum h _ _ _ _ (tkE_le g1.1) h2
        cases hx
        by_cases h60 : tkC b sz p1 = 60
        · rw [if_pos h60]
          exact good_bin g1.1 (by omega) g1 g2 (by decide) (by decide) (by decide)
        · rw [if_neg h60]
          exact good_bin g1.1 (by omega) g1 g2 (by decide) (by decide) (by decide)
    · rw [if_neg hc] at hx
      cases hx
      exact g1
theorem good_un {p p' : Nat} {c : List Int} {v : Sem} {o : Int} (hp : p ≤ sz) (h13 : tkC b sz p ≠ 13) (h : good1 b sz (tkE b sz p) c v p') (ho : o = -9 ∨ o = -15) : good1 b sz p (c ++ [o]) (fun env => un o (v env)) p' := by
  obtain ⟨a1, a2, a3, a4, a5⟩ := h
  have hh := tkEB hp h13
  refine ⟨a1, ?_, by omega, fun env st => ?_, fun x hx => ?_⟩
  · rw [List.length_append]
    show _ + (_ + 1) ≤ _
    omega
  · rw [exs_app, a4, exs_cons, exs_nil, exst, if_neg (by omega), if_neg (by omega), if_pos ho]
  · rw [List.mem_append, List.mem_singleton] at hx
    rcases hx with hx | hx
    · exact a5 x hx
    · omega
theorem good_not {one : Nat → PR} {nt : Option (Nat → PR)} (h : goodP b sz one) (hn : ∀ n, nt = some n → goodP b sz n) : goodP b sz (notP b sz one nt) := by
  intro p c v p' hp hx
  unfold notP at hx
  by_cases h11 : tkC b sz p = 11
  · rw [if_pos h11] at hx
    cases nt with
    | none => cases hx
    | some n =>
      have hx : pb (n (tkE b sz p)) _ = _ := hx
      cases h1 : n (tkE b sz p) with
      | inl f => rw [pb_l h1] at hx; cases hx
      | inr x =>
        obtain ⟨c1, v1, p1⟩ := x
        rw [pb_r h1] at hx
        cases hx
        exact good_un hp (by omega) (hn n rfl _ _ _ _ (tkE_le hp) h1) (Or.inl rfl)
  · rw [if_neg h11] at hx
    exact good_cmp h _ _ _ _ hp hx
theorem tkN_nn {p : Nat} (h : tkC b sz p = 12) (hp : p ≤ sz) : 0 ≤ tkN b sz p ∧ tkN b sz p ≤ 9999 := by
  unfold tkC at h
  unfold tkN
  have hq := tkB_le (b := b) hp
  generalize tkB b sz p = q at h hq ⊢
  unfold tnF
  unfold tcF at h
  by_cases h1 : q < sz
  · rw [if_neg (show ¬ ¬ q < sz from fun h => h h1)] at h
    by_cases hl : ltr (b q) = true
    · rw [if_pos hl] at h
      exact absurd h (wcode_rg b q _).2.2.1
    · rw [if_neg hl] at h
      by_cases hd : dgt (b q) = true
      · rw [if_pos hd] at h
        by_cases h4 : 4 < scan dgt b sz q - q
        · rw [if_pos h4] at h; exact absurd h (by decide)
        · have := numv_rg (b := b) (q := q) (k := scan dgt b sz q - q) (by omega) (fun i hi => dgt_rg (scan_all (P := dgt) (b := b) (sz := sz) (p := q) (by omega) (by omega)))
          exact ⟨this.1, this.2.1⟩
      · rw [if_neg hd] at h
        by_cases hs : sgn (b q) = true
        · rw [if_pos hs] at h
          unfold sgn at hs
          rw [decide_eq_true_eq] at hs
          omega
        · rw [if_neg hs] at h; exact absurd h (by decide)
  · rw [if_pos h1] at h; exact absurd h (by decide)
theorem tcF_nn {q : Nat} : 0 ≤ tcF b sz q := by
  have hw := wcode_rg b q (teF b sz q)
  rcases tk_c b sz q with h | h | h | h | h
  · omega
  · rw [h.2.2.1]; exact hw.1
  · omega
  · omega
  · omega
theorem good_one {inner : Option ((Nat → PR) × (Nat → PR))} (hi : ∀ i, inner = some i → goodP b sz i.1 ∧ goodP b sz i.2) : goodP b sz (oneP b sz inner) := by
  intro p c v p' hp hx
  unfold oneP at hx
  have hnn : 0 ≤ tkC b sz p := tcF_nn
  by_cases h12 : tkC b sz p = 12
  · rw [if_pos h12] at hx
    cases hx
    have hN := tkN_nn h12 hp
    have := tkEB hp (show tkC b sz p ≠ 13 by omega)
    refine ⟨tkE_le hp, by show _ + 1 ≤ _; omega, this, fun env st => ?_, fun x hx => ?_⟩
    · rw [exs_cons, exs_nil]; unfold exst; rw [if_pos hN.1]
    · rw [List.mem_singleton] at hx; omega
  rw [if_neg h12] at hx
  by_cases h5 : tkC b sz p ≤ 5
  · rw [if_pos h5] at hx
    cases hx
    have := tkEB hp (show tkC b sz p ≠ 13 by omega)
    refine ⟨tkE_le hp, by show _ + 1 ≤ _; omega, this, fun env st => ?_, fun x hx => ?_⟩
    · rw [exs_cons, exs_nil]; unfold exst; rw [if_neg (by omega), if_pos (by omega), show -1 - (-1 - tkC b sz p) = tkC b sz p by omega]
    · rw [List.mem_singleton] at hx; omega
  rw [if_neg h5] at hx
  by_cases h45 : tkC b sz p = 45
  · rw [if_pos h45] at hx
    cases inner with
    | none => cases hx
    | some i =>
      have hx : pb (i.1 (tkE b sz p)) _ = _ := hx
      cases h1 : i.1 (tkE b sz p) with
      | inl f => rw [pb_l h1] at hx; cases hx
      | inr x =>
        obtain ⟨c1, v1, p1⟩ := x
        rw [pb_r h1] at hx
        cases hx
        exact good_un hp (by omega) ((hi i rfl).1 _ _ _ _ (tkE_le hp) h1) (Or.inr rfl)
  rw [if_neg h45] at hx
  by_cases h40 : tkC b sz p = 40
  · rw [if_pos h40] at hx
    cases inner with
    | none => cases hx
    | some i =>
      have hx : pb (orP b sz i.2 (tkE b sz p)) _ = _ := hx
      cases h1 : orP b sz i.2 (tkE b sz p) with
      | inl f => rw [pb_l h1] at hx; cases hx
      | inr x =>
        obtain ⟨c1, v1, p1⟩ := x
        rw [pb_r h1] at hx
        have g := good_or (hi i rfl).2 _ _ _ _ (tkE_le hp) h1
        by_cases h41 : tkC b sz p1 = 41
        · rw [if_pos h41] at hx
          cases hx
          have e1 := tkEB hp (show tkC b sz p ≠ 13 by omega)
          have e2 := tkEB g.1 (show tkC b sz p1 ≠ 13 by omega)
          obtain ⟨a1, a2, a3, a4, a5⟩ := g
          exact ⟨tkE_le a1, by omega, by omega, a4, a5⟩
        · rw [if_neg h41] at hx; cases hx
  · rw [if_neg h40] at hx; cases hx
theorem good_lvl : ∀ r, goodP b sz (lvl b sz r).1 ∧ goodP b sz (lvl b sz r).2
  | 0 => by
    have h1 : goodP b sz (oneP b sz none) := good_one (fun i h => by cases h)
    exact ⟨h1, good_not (nt := none) h1 (fun n h => by cases h)⟩
  | r + 1 => by
    have ih := good_lvl r
    have h1 : goodP b sz (oneP b sz (some (lvl b sz r))) := good_one (fun i h => by cases h; exact ih)
    exact ⟨h1, good_not (nt := some (lvl b sz r).2) h1 (fun n h => by cases h; exact ih.2)⟩
end GD
