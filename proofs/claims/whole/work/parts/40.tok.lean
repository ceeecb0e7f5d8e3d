/-! PARSE 1: bytes to tokens, as they are to be -/
section TK
variable {P : Int → Bool} {b : Nat → Int} {sz p : Nat}
def scn (P : Int → Bool) (b : Nat → Int) (sz : Nat) : Nat → Nat → Nat
  | 0, p => p
  | k + 1, p => if p < sz ∧ P (b p) = true then scn P b sz k (p + 1) else p
def scan (P : Int → Bool) (b : Nat → Int) (sz p : Nat) : Nat := scn P b sz (sz - p) p
theorem scan_in (h : p < sz) (hp : P (b p) = true) : scan P b sz p = scan P b sz (p + 1) := by
  unfold scan
  have e : sz - p = (sz - (p + 1)) + 1 := by omega
  rw [e, scn, if_pos ⟨h, hp⟩]
theorem scan_out (h : ¬ (p < sz ∧ P (b p) = true)) : scan P b sz p = p := by
  unfold scan
  cases hk : sz - p with
  | zero => rfl
  | succ k => rw [scn, if_neg h]
theorem scan_fact : ∀ (k p : Nat), sz - p = k → p ≤ scan P b sz p ∧ (p ≤ sz → scan P b sz p ≤ sz) ∧ ¬ (scan P b sz p < sz ∧ P (b (scan P b sz p)) = true) ∧ (∀ i, p ≤ i → i < scan P b sz p → P (b i) = true) := by
  intro k
  induction k with
  | zero =>
    intro p hk
    rw [scan_out (by omega)]
    exact ⟨Nat.le_refl _, fun h => h, by omega, fun i h1 h2 => by omega⟩
  | succ k ih =>
    intro p hk
    by_cases hp : P (b p) = true
    · rw [scan_in (by omega) hp]
      obtain ⟨h1, h2, h3, h4⟩ := ih (p + 1) (by omega)
      refine ⟨by omega, fun h => h2 (by omega), h3, fun i hi1 hi2 => ?_⟩
      by_cases e : i = p
      · rw [e]; exact hp
      · exact h4 i (by omega) hi2
    · rw [scan_out (fun q => hp q.2)]
      exact ⟨Nat.le_refl _, fun h => h, fun q => hp q.2, fun i h1 h2 => by omega⟩
theorem scan_ge : p ≤ scan P b sz p := (scan_fact _ p rfl).1
theorem scan_le (h : p ≤ sz) : scan P b sz p ≤ sz := (scan_fact _ p rfl).2.1 h
theorem scan_stop : ¬ (scan P b sz p < sz ∧ P (b (scan P b sz p)) = true) := (scan_fact _ p rfl).2.2.1
theorem scan_all {i : Nat} (h1 : p ≤ i) (h2 : i < scan P b sz p) : P (b i) = true := (scan_fact _ p rfl).2.2.2 i h1 h2
end TK
def blk (x : Int) : Bool := decide (x = 32 ∨ x = 10)
def ltr (x : Int) : Bool := decide (97 ≤ x ∧ x ≤ 122)
def dgt (x : Int) : Bool := decide (48 ≤ x ∧ x ≤ 57)
def sgn (x : Int) : Bool := decide (x = 40 ∨ x = 41 ∨ x = 59 ∨ x = 43 ∨ x = 45 ∨ x = 42 ∨ x = 60 ∨ x = 61)
/-- letters of the words' list from place k on are those of the bytes from place p on -/
def wlq (b : Nat → Int) : Nat → Nat → Nat → Bool
  | _, _, 0 => true
  | p, k, n + 1 => decide (sv 59 k = b p) && wlq b (p + 1) (k + 1) n
/-- the word from q to e is that of the list from f to t -/
def wm (b : Nat → Int) (q e f t : Nat) : Bool := decide (e - q = t - f) && wlq b q f (t - f)
def wlp (m : Nat → Nat → Bool) : Nat → Nat → Nat → Nat → Int → Int
  | 0, _, _, _, tok => tok
  | k + 1, i, word, f, tok => if sv 59 i = 32 then wlp m k (i + 1) (word + 1) (i + 1) (if m f i = true then (word : Int) else tok) else wlp m k (i + 1) word f tok
def wcode (b : Nat → Int) (q e : Nat) : Int := wlp (wm b q e) 65 0 0 0 14
theorem wcode_eq (b : Nat → Int) (q e : Nat) : wcode b q e = if wm b q e 61 64 = true then 11 else if wm b q e 57 60 = true then 10 else if wm b q e 54 56 = true then 9 else if wm b q e 48 53 = true then 8 else if wm b q e 39 47 = true then 7 else if wm b q e 33 38 = true then 6 else if wm b q e 29 32 = true then 5 else if wm b q e 23 28 = true then 4 else if wm b q e 16 22 = true then 3 else if wm b q e 9 15 = true then 2 else if wm b q e 4 8 = true then 1 else if wm b q e 0 3 = true then 0 else 14 := rfl
theorem ite_all {α : Type} {P : α → Prop} {p : Prop} [Decidable p] {a c : α} (h1 : p → P a) (h2 : P c) : P (if p then a else c) := by
  by_cases h : p
  · rw [if_pos h]; exact h1 h
  · rw [if_neg h]; exact h2
theorem wcode_rg (b : Nat → Int) (q e : Nat) : 0 ≤ wcode b q e ∧ wcode b q e ≤ 14 ∧ wcode b q e ≠ 12 ∧ wcode b q e ≠ 13 := by
  rw [wcode_eq]
  exact ite_all (P := fun x : Int => 0 ≤ x ∧ x ≤ 14 ∧ x ≠ 12 ∧ x ≠ 13) (fun _ => by decide) (ite_all (P := fun x : Int => 0 ≤ x ∧ x ≤ 14 ∧ x ≠ 12 ∧ x ≠ 13) (fun _ => by decide) (ite_all (P := fun x : Int => 0 ≤ x ∧ x ≤ 14 ∧ x ≠ 12 ∧ x ≠ 13) (fun _ => by decide) (ite_all (P := fun x : Int => 0 ≤ x ∧ x ≤ 14 ∧ x ≠ 12 ∧ x ≠ 13) (fun _ => by decide) (ite_all (P := fun x : Int => 0 ≤ x ∧ x ≤ 14 ∧ x ≠ 12 ∧ x ≠ 13) (fun _ => by decide) (ite_all (P := fun x : Int => 0 ≤ x ∧ x ≤ 14 ∧ x ≠ 12 ∧ x ≠ 13) (fun _ => by decide) (ite_all (P := fun x : Int => 0 ≤ x ∧ x ≤ 14 ∧ x ≠ 12 ∧ x ≠ 13) (fun _ => by decide) (ite_all (P := fun x : Int => 0 ≤ x ∧ x ≤ 14 ∧ x ≠ 12 ∧ x ≠ 13) (fun _ => by decide) (ite_all (P := fun x : Int => 0 ≤ x ∧ x ≤ 14 ∧ x ≠ 12 ∧ x ≠ 13) (fun _ => by decide) (ite_all (P := fun x : Int => 0 ≤ x ∧ x ≤ 14 ∧ x ≠ 12 ∧ x ≠ 13) (fun _ => by decide) (ite_all (P := fun x : Int => 0 ≤ x ∧ x ≤ 14 ∧ x ≠ 12 ∧ x ≠ 13) (fun _ => by decide) (ite_all (P := fun x : Int => 0 ≤ x ∧ x ≤ 14 ∧ x ≠ 12 ∧ x ≠ 13) (fun _ => by decide) ((by decide)))))))))))))
theorem wlq_get {b : Nat → Int} : ∀ (n p k : Nat), wlq b p k n = true → ∀ i, i < n → b (p + i) = sv 59 (k + i)
  | 0, _, _, _, i, h => absurd h (Nat.not_lt_zero i)
  | n + 1, p, k, h, i, hi => by
    rw [wlq, Bool.and_eq_true, decide_eq_true_eq] at h
    cases i with
    | zero => exact h.1.symm
    | succ i =>
      have := wlq_get n (p + 1) (k + 1) h.2 i (by omega)
      rw [show p + (i + 1) = p + 1 + i by omega, show k + (i + 1) = k + 1 + i by omega]
      exact this
theorem wm_dj {b : Nat → Int} {q e f t f' t' : Nat} (hd : ¬ (t - f = t' - f' ∧ ∀ i, i < t - f → sv 59 (f + i) = sv 59 (f' + i))) (h : wm b q e f t = true) : wm b q e f' t' = false := by
  cases hx : wm b q e f' t' with
  | false => rfl
  | true =>
    exfalso
    unfold wm at h hx
    rw [Bool.and_eq_true, decide_eq_true_eq] at h hx
    refine hd ⟨by omega, fun i hi => ?_⟩
    have h1 := wlq_get _ _ _ h.2 i hi
    have h2 := wlq_get _ _ _ hx.2 i (by omega)
    rw [← h1, ← h2]
/-- digits' worth -/
def numv (b : Nat → Int) (q : Nat) : Nat → Int
  | 0 => 0
  | k + 1 => 10 * numv b q k + b (q + k) - 48
def tkB (b : Nat → Int) (sz p : Nat) : Nat := scan blk b sz p
def tcF (b : Nat → Int) (sz q : Nat) : Int := if ¬ q < sz then 13 else if ltr (b q) = true then wcode b q (scan ltr b sz q) else if dgt (b q) = true then (if 4 < scan dgt b sz q - q then 14 else 12) else if sgn (b q) = true then b q else 14
def teF (b : Nat → Int) (sz q : Nat) : Nat := if ¬ q < sz then q else if ltr (b q) = true then scan ltr b sz q else if dgt (b q) = true then scan dgt b sz q else q + 1
def tkC (b : Nat → Int) (sz p : Nat) : Int := tcF b sz (tkB b sz p)
def tkE (b : Nat → Int) (sz p : Nat) : Nat := teF b sz (tkB b sz p)
def tnF (b : Nat → Int) (sz q : Nat) : Int := numv b q (scan dgt b sz q - q)
def tkN (b : Nat → Int) (sz p : Nat) : Int := tnF b sz (tkB b sz p)
theorem wc_0 (b : Nat → Int) (q e : Nat) : wcode b q e = 0 ↔ wm b q e 0 3 = true := by
  rw [wcode_eq]
  constructor
  · intro hx
    cases h : wm b q e 0 3 with
    | true => rfl
    | false => exact absurd hx (ite_all (P := fun x : Int => x ≠ 0) (fun _ => by decide) (ite_all (P := fun x : Int => x ≠ 0) (fun _ => by decide) (ite_all (P := fun x : Int => x ≠ 0) (fun _ => by decide) (ite_all (P := fun x : Int => x ≠ 0) (fun _ => by decide) (ite_all (P := fun x : Int => x ≠ 0) (fun _ => by decide) (ite_all (P := fun x : Int => x ≠ 0) (fun _ => by decide) (ite_all (P := fun x : Int => x ≠ 0) (fun _ => by decide) (ite_all (P := fun x : Int => x ≠ 0) (fun _ => by decide) (ite_all (P := fun x : Int => x ≠ 0) (fun _ => by decide) (ite_all (P := fun x : Int => x ≠ 0) (fun _ => by decide) (ite_all (P := fun x : Int => x ≠ 0) (fun _ => by decide) (ite_all (P := fun x : Int => x ≠ 0) (fun hp => absurd hp (by rw [h]; decide)) (by decide)))))))))))))
  · intro h
    simp only [h, wm_dj (f' := 4) (t' := 8) (by decide) h, wm_dj (f' := 9) (t' := 15) (by decide) h, wm_dj (f' := 16) (t' := 22) (by decide) h, wm_dj (f' := 23) (t' := 28) (by decide) h, wm_dj (f' := 29) (t' := 32) (by decide) h, wm_dj (f' := 33) (t' := 38) (by decide) h, wm_dj (f' := 39) (t' := 47) (by decide) h, wm_dj (f' := 48) (t' := 53) (by decide) h, wm_dj (f' := 54) (t' := 56) (by decide) h, wm_dj (f' := 57) (t' := 60) (by decide) h, wm_dj (f' := 61) (t' := 64) (by decide) h, if_true, if_false, Bool.false_eq_true]
theorem wc_1 (b : Nat → Int) (q e : Nat) : wcode b q e = 1 ↔ wm b q e 4 8 = true := by
  rw [wcode_eq]
  constructor
  · intro hx
    cases h : wm b q e 4 8 with
    | true => rfl
    | false => exact absurd hx (ite_all (P := fun x : Int => x ≠ 1) (fun _ => by decide) (ite_all (P := fun x : Int => x ≠ 1) (fun _ => by decide) (ite_all (P := fun x : Int => x ≠ 1) (fun _ => by decide) (ite_all (P := fun x : Int => x ≠ 1) (fun _ => by decide) (ite_all (P := fun x : Int => x ≠ 1) (fun _ => by decide) (ite_all (P := fun x : Int => x ≠ 1) (fun _ => by decide) (ite_all (P := fun x : Int => x ≠ 1) (fun _ => by decide) (ite_all (P := fun x : Int => x ≠ 1) (fun _ => by decide) (ite_all (P := fun x : Int => x ≠ 1) (fun _ => by decide) (ite_all (P := fun x : Int => x ≠ 1) (fun _ => by decide) (ite_all (P := fun x : Int => x ≠ 1) (fun hp => absurd hp (by rw [h]; decide)) (ite_all (P := fun x : Int => x ≠ 1) (fun _ => by decide) (by decide)))))))))))))
  · intro h
    simp only [h, wm_dj (f' := 0) (t' := 3) (by decide) h, wm_dj (f' := 9) (t' := 15) (by decide) h, wm_dj (f' := 16) (t' := 22) (by decide) h, wm_dj (f' := 23) (t' := 28) (by decide) h, wm_dj (f' := 29) (t' := 32) (by decide) h, wm_dj (f' := 33) (t' := 38) (by decide) h, wm_dj (f' := 39) (t' := 47) (by decide) h, wm_dj (f' := 48) (t' := 53) (by decide) h, wm_dj (f' := 54) (t' := 56) (by decide) h, wm_dj (f' := 57) (t' := 60) (by decide) h, wm_dj (f' := 61) (t' := 64) (by decide) h, if_true, if_false, Bool.false_eq_true]
theorem wc_2 (b : Nat → Int) (q e : Nat) : wcode b q e = 2 ↔ wm b q e 9 15 = true := by
  rw [wcode_eq]
  constructor
  · intro hx
    cases h : wm b q e 9 15 with
    | true => rfl
    | false => exact absurd hx (ite_all (P := fun x : Int => x ≠ 2) (fun _ => by decide) (ite_all (P := fun x : Int => x ≠ 2) (fun _ => by decide) (ite_all (P := fun x : Int => x ≠ 2) (fun _ => by decide) (ite_all (P := fun x : Int => x ≠ 2) (fun _ => by decide) (ite_all (P := fun x : Int => x ≠ 2) (fun _ => by decide) (ite_all (P := fun x : Int => x ≠ 2) (fun _ => by decide) (ite_all (P := fun x : Int => x ≠ 2) (fun _ => by decide) (ite_all (P := fun x : Int => x ≠ 2) (fun _ => by decide) (ite_all (P := fun x : Int => x ≠ 2) (fun _ => by decide) (ite_all (P := fun x : Int => x ≠ 2) (fun hp => absurd hp (by rw [h]; decide)) (ite_all (P := fun x : Int => x ≠ 2) (fun _ => by decide) (ite_all (P := fun x : Int => x ≠ 2) (fun _ => by decide) (by decide)))))))))))))
  · intro h
    simp only [h, wm_dj (f' := 0) (t' := 3) (by decide) h, wm_dj (f' := 4) (t' := 8) (by decide) h, wm_dj (f' := 16) (t' := 22) (by decide) h, wm_dj (f' := 23) (t' := 28) (by decide) h, wm_dj (f' := 29) (t' := 32) (by decide) h, wm_dj (f' := 33) (t' := 38) (by decide) h, wm_dj (f' := 39) (t' := 47) (by decide) h, wm_dj (f' := 48) (t' := 53) (by decide) h, wm_dj (f' := 54) (t' := 56) (by decide) h, wm_dj (f' := 57) (t' := 60) (by decide) h, wm_dj (f' := 61) (t' := 64) (by decide) h, if_true, if_false, Bool.false_eq_true]
theorem wc_3 (b : Nat → Int) (q e : Nat) : wcode b q e = 3 ↔ wm b q e 16 22 = true := by
  rw [wcode_eq]
  constructor
  · intro hx
    cases h : wm b q e 16 22 with
    | true => rfl
    | false => exact absurd hx (ite_all (P := fun x : Int => x ≠ 3) (fun _ => by decide) (ite_all (P := fun x : Int => x ≠ 3) (fun _ => by decide) (ite_all (P := fun x : Int => x ≠ 3) (fun _ => by decide) (ite_all (P := fun x : Int => x ≠ 3) (fun _ => by decide) (ite_all (P := fun x : Int => x ≠ 3) (fun _ => by decide) (ite_all (P := fun x : Int => x ≠ 3) (fun _ => by decide) (ite_all (P := fun x : Int => x ≠ 3) (fun _ => by decide) (ite_all (P := fun x : Int => x ≠ 3) (fun _ => by decide) (ite_all (P := fun x : Int => x ≠ 3) (fun hp => absurd hp (by rw [h]; decide)) (ite_all (P := fun x : Int => x ≠ 3) (fun _ => by decide) (ite_all (P := fun x : Int => x ≠ 3) (fun _ => by decide) (ite_all (P := fun x : Int => x ≠ 3) (fun _ => by decide) (by decide)))))))))))))
  · intro h
    simp only [h, wm_dj (f' := 0) (t' := 3) (by decide) h, wm_dj (f' := 4) (t' := 8) (by decide) h, wm_dj (f' := 9) (t' := 15) (by decide) h, wm_dj (f' := 23) (t' := 28) (by decide) h, wm_dj (f' := 29) (t' := 32) (by decide) h, wm_dj (f' := 33) (t' := 38) (by decide) h, wm_dj (f' := 39) (t' := 47) (by decide) h, wm_dj (f' := 48) (t' := 53) (by decide) h, wm_dj (f' := 54) (t' := 56) (by decide) h, wm_dj (f' := 57) (t' := 60) (by decide) h, wm_dj (f' := 61) (t' := 64) (by decide) h, if_true, if_false, Bool.false_eq_true]
theorem wc_4 (b : Nat → Int) (q e : Nat) : wcode b q e = 4 ↔ wm b q e 23 28 = true := by
  rw [wcode_eq]
  constructor
  · intro hx
    cases h : wm b q e 23 28 with
    | true => rfl
    | false => exact absurd hx (ite_all (P := fun x : Int => x ≠ 4) (fun _ => by decide) (ite_all (P := fun x : Int => x ≠ 4) (fun _ => by decide) (ite_all (P := fun x : Int => x ≠ 4) (fun _ => by decide) (ite_all (P := fun x : Int => x ≠ 4) (fun _ => by decide) (ite_all (P := fun x : Int => x ≠ 4) (fun _ => by decide) (ite_all (P := fun x : Int => x ≠ 4) (fun _ => by decide) (ite_all (P := fun x : Int => x ≠ 4) (fun _ => by decide) (ite_all (P := fun x : Int => x ≠ 4) (fun hp => absurd hp (by rw [h]; decide)) (ite_all (P := fun x : Int => x ≠ 4) (fun _ => by decide) (ite_all (P := fun x : Int => x ≠ 4) (fun _ => by decide) (ite_all (P := fun x : Int => x ≠ 4) (fun _ => by decide) (ite_all (P := fun x : Int => x ≠ 4) (fun _ => by decide) (by decide)))))))))))))
  · intro h
    simp only [h, wm_dj (f' := 0) (t' := 3) (by decide) h, wm_dj (f' := 4) (t' := 8) (by decide) h, wm_dj (f' := 9) (t' := 15) (by decide) h, wm_dj (f' := 16) (t' := 22) (by decide) h, wm_dj (f' := 29) (t' := 32) (by decide) h, wm_dj (f' := 33) (t' := 38) (by decide) h, wm_dj (f' := 39) (t' := 47) (by decide) h, wm_dj (f' := 48) (t' := 53) (by decide) h, wm_dj (f' := 54) (t' := 56) (by decide) h, wm_dj (f' := 57) (t' := 60) (by decide) h, wm_dj (f' := 61) (t' := 64) (by decide) h, if_true, if_false, Bool.false_eq_true]
theorem wc_5 (b : Nat → Int) (q e : Nat) : wcode b q e = 5 ↔ wm b q e 29 32 = true := by
  rw [wcode_eq]
  constructor
  · intro hx
    cases h : wm b q e 29 32 with
    | true => rfl
    | false => exact absurd hx (ite_all (P := fun x : Int => x ≠ 5) (fun _ => by decide) (ite_all (P := fun x : Int => x ≠ 5) (fun _ => by decide) (ite_all (P := fun x : Int => x ≠ 5) (fun _ => by decide) (ite_all (P := fun x : Int => x ≠ 5) (fun _ => by decide) (ite_all (P := fun x : Int => x ≠ 5) (fun _ => by decide) (ite_all (P := fun x : Int => x ≠ 5) (fun _ => by decide) (ite_all (P := fun x : Int => x ≠ 5) (fun hp => absurd hp (by rw [h]; decide)) (ite_all (P := fun x : Int => x ≠ 5) (fun _ => by decide) (ite_all (P := fun x : Int => x ≠ 5) (fun _ => by decide) (ite_all (P := fun x : Int => x ≠ 5) (fun _ => by decide) (ite_all (P := fun x : Int => x ≠ 5) (fun _ => by decide) (ite_all (P := fun x : Int => x ≠ 5) (fun _ => by decide) (by decide)))))))))))))
  · intro h
    simp only [h, wm_dj (f' := 0) (t' := 3) (by decide) h, wm_dj (f' := 4) (t' := 8) (by decide) h, wm_dj (f' := 9) (t' := 15) (by decide) h, wm_dj (f' := 16) (t' := 22) (by decide) h, wm_dj (f' := 23) (t' := 28) (by decide) h, wm_dj (f' := 33) (t' := 38) (by decide) h, wm_dj (f' := 39) (t' := 47) (by decide) h, wm_dj (f' := 48) (t' := 53) (by decide) h, wm_dj (f' := 54) (t' := 56) (by decide) h, wm_dj (f' := 57) (t' := 60) (by decide) h, wm_dj (f' := 61) (t' := 64) (by decide) h, if_true, if_false, Bool.false_eq_true]
theorem wc_6 (b : Nat → Int) (q e : Nat) : wcode b q e = 6 ↔ wm b q e 33 38 = true := by
  rw [wcode_eq]
  constructor
  · intro hx
    cases h : wm b q e 33 38 with
    | true => rfl
    | false => exact absurd hx (ite_all (P := fun x : Int => x ≠ 6) (fun _ => by decide) (ite_all (P := fun x : Int => x ≠ 6) (fun _ => by decide) (ite_all (P := fun x : Int => x ≠ 6) (fun _ => by decide) (ite_all (P := fun x : Int => x ≠ 6) (fun _ => by decide) (ite_all (P := fun x : Int => x ≠ 6) (fun _ => by decide) (ite_all (P := fun x : Int => x ≠ 6) (fun hp => absurd hp (by rw [h]; decide)) (ite_all (P := fun x : Int => x ≠ 6) (fun _ => by decide) (ite_all (P := fun x : Int => x ≠ 6) (fun _ => by decide) (ite_all (P := fun x : Int => x ≠ 6) (fun _ => by decide) (ite_all (P := fun x : Int => x ≠ 6) (fun _ => by decide) (ite_all (P := fun x : Int => x ≠ 6) (fun _ => by decide) (ite_all (P := fun x : Int => x ≠ 6) (fun _ => by decide) (by decide)))))))))))))
  · intro h
    simp only [h, wm_dj (f' := 0) (t' := 3) (by decide) h, wm_dj (f' := 4) (t' := 8) (by decide) h, wm_dj (f' := 9) (t' := 15) (by decide) h, wm_dj (f' := 16) (t' := 22) (by decide) h, wm_dj (f' := 23) (t' := 28) (by decide) h, wm_dj (f' := 29) (t' := 32) (by decide) h, wm_dj (f' := 39) (t' := 47) (by decide) h, wm_dj (f' := 48) (t' := 53) (by decide) h, wm_dj (f' := 54) (t' := 56) (by decide) h, wm_dj (f' := 57) (t' := 60) (by decide) h, wm_dj (f' := 61) (t' := 64) (by decide) h, if_true, if_false, Bool.false_eq_true]
theorem wc_7 (b : Nat → Int) (q e : Nat) : wcode b q e = 7 ↔ wm b q e 39 47 = true := by
  rw [wcode_eq]
  constructor
  · intro hx
    cases h : wm b q e 39 47 with
    | true => rfl
    | false => exact absurd hx (ite_all (P := fun x : Int => x ≠ 7) (fun _ => by decide) (ite_all (P := fun x : Int => x ≠ 7) (fun _ => by decide) (ite_all (P := fun x : Int => x ≠ 7) (fun _ => by decide) (ite_all (P := fun x : Int => x ≠ 7) (fun _ => by decide) (ite_all (P := fun x : Int => x ≠ 7) (fun hp => absurd hp (by rw [h]; decide)) (ite_all (P := fun x : Int => x ≠ 7) (fun _ => by decide) (ite_all (P := fun x : Int => x ≠ 7) (fun _ => by decide) (ite_all (P := fun x : Int => x ≠ 7) (fun _ => by decide) (ite_all (P := fun x : Int => x ≠ 7) (fun _ => by decide) (ite_all (P := fun x : Int => x ≠ 7) (fun _ => by decide) (ite_all (P := fun x : Int => x ≠ 7) (fun _ => by decide) (ite_all (P := fun x : Int => x ≠ 7) (fun _ => by decide) (by decide)))))))))))))
  · intro h
    simp only [h, wm_dj (f' := 0) (t' := 3) (by decide) h, wm_dj (f' := 4) (t' := 8) (by decide) h, wm_dj (f' := 9) (t' := 15) (by decide) h, wm_dj (f' := 16) (t' := 22) (by decide) h, wm_dj (f' := 23) (t' := 28) (by decide) h, wm_dj (f' := 29) (t' := 32) (by decide) h, wm_dj (f' := 33) (t' := 38) (by decide) h, wm_dj (f' := 48) (t' := 53) (by decide) h, wm_dj (f' := 54) (t' := 56) (by decide) h, wm_dj (f' := 57) (t' := 60) (by decide) h, wm_dj (f' := 61) (t' := 64) (by decide) h, if_true, if_false, Bool.false_eq_true]
theorem wc_8 (b : Nat → Int) (q e : Nat) : wcode b q e = 8 ↔ wm b q e 48 53 = true := by
  rw [wcode_eq]
  constructor
  · intro hx
    cases h : wm b q e 48 53 with
    | true => rfl
    | false => exact absurd hx (ite_all (P := fun x : Int => x ≠ 8) (fun _ => by decide) (ite_all (P := fun x : Int => x ≠ 8) (fun _ => by decide) (ite_all (P := fun x : Int => x ≠ 8) (fun _ => by decide) (ite_all (P := fun x : Int => x ≠ 8) (fun hp => absurd hp (by rw [h]; decide)) (ite_all (P := fun x : Int => x ≠ 8) (fun _ => by decide) (ite_all (P := fun x : Int => x ≠ 8) (fun _ => by decide) (ite_all (P := fun x : Int => x ≠ 8) (fun _ => by decide) (ite_all (P := fun x : Int => x ≠ 8) (fun _ => by decide) (ite_all (P := fun x : Int => x ≠ 8) (fun _ => by decide) (ite_all (P := fun x : Int => x ≠ 8) (fun _ => by decide) (ite_all (P := fun x : Int => x ≠ 8) (fun _ => by decide) (ite_all (P := fun x : Int => x ≠ 8) (fun _ => by decide) (by decide)))))))))))))
  · intro h
    simp only [h, wm_dj (f' := 0) (t' := 3) (by decide) h, wm_dj (f' := 4) (t' := 8) (by decide) h, wm_dj (f' := 9) (t' := 15) (by decide) h, wm_dj (f' := 16) (t' := 22) (by decide) h, wm_dj (f' := 23) (t' := 28) (by decide) h, wm_dj (f' := 29) (t' := 32) (by decide) h, wm_dj (f' := 33) (t' := 38) (by decide) h, wm_dj (f' := 39) (t' := 47) (by decide) h, wm_dj (f' := 54) (t' := 56) (by decide) h, wm_dj (f' := 57) (t' := 60) (by decide) h, wm_dj (f' := 61) (t' := 64) (by decide) h, if_true, if_false, Bool.false_eq_true]
theorem wc_9 (b : Nat → Int) (q e : Nat) : wcode b q e = 9 ↔ wm b q e 54 56 = true := by
  rw [wcode_eq]
  constructor
  · intro hx
    cases h : wm b q e 54 56 with
    | true => rfl
    | false => exact absurd hx (ite_all (P := fun x : Int => x ≠ 9) (fun _ => by decide) (ite_all (P := fun x : Int => x ≠ 9) (fun _ => by decide) (ite_all (P := fun x : Int => x ≠ 9) (fun hp => absurd hp (by rw [h]; decide)) (ite_all (P := fun x : Int => x ≠ 9) (fun _ => by decide) (ite_all (P := fun x : Int => x ≠ 9) (fun _ => by decide) (ite_all (P := fun x : Int => x ≠ 9) (fun _ => by decide) (ite_all (P := fun x : Int => x ≠ 9) (fun _ => by decide) (ite_all (P := fun x : Int => x ≠ 9) (fun _ => by decide) (ite_all (P := fun x : Int => x ≠ 9) (fun _ => by decide) (ite_all (P := fun x : Int => x ≠ 9) (fun _ => by decide) (ite_all (P := fun x : Int => x ≠ 9) (fun _ => by decide) (ite_all (P := fun x : Int => x ≠ 9) (fun _ => by decide) (by decide)))))))))))))
  · intro h
    simp only [h, wm_dj (f' := 0) (t' := 3) (by decide) h, wm_dj (f' := 4) (t' := 8) (by decide) h, wm_dj (f' := 9) (t' := 15) (by decide) h, wm_dj (f' := 16) (t' := 22) (by decide) h, wm_dj (f' := 23) (t' := 28) (by decide) h, wm_dj (f' := 29) (t' := 32) (by decide) h, wm_dj (f' := 33) (t' := 38) (by decide) h, wm_dj (f' := 39) (t' := 47) (by decide) h, wm_dj (f' := 48) (t' := 53) (by decide) h, wm_dj (f' := 57) (t' := 60) (by decide) h, wm_dj (f' := 61) (t' := 64) (by decide) h, if_true, if_false, Bool.false_eq_true]
theorem wc_10 (b : Nat → Int) (q e : Nat) : wcode b q e = 10 ↔ wm b q e 57 60 = true := by
  rw [wcode_eq]
  constructor
  · intro hx
    cases h : wm b q e 57 60 with
    | true => rfl
    | false => exact absurd hx (ite_all (P := fun x : Int => x ≠ 10) (fun _ => by decide) (ite_all (P := fun x : Int => x ≠ 10) (fun hp => absurd hp (by rw [h]; decide)) (ite_all (P := fun x : Int => x ≠ 10) (fun _ => by decide) (ite_all (P := fun x : Int => x ≠ 10) (fun _ => by decide) (ite_all (P := fun x : Int => x ≠ 10) (fun _ => by decide) (ite_all (P := fun x : Int => x ≠ 10) (fun _ => by decide) (ite_all (P := fun x : Int => x ≠ 10) (fun _ => by decide) (ite_all (P := fun x : Int => x ≠ 10) (fun _ => by decide) (ite_all (P := fun x : Int => x ≠ 10) (fun _ => by decide) (ite_all (P := fun x : Int => x ≠ 10) (fun _ => by decide) (ite_all (P := fun x : Int => x ≠ 10) (fun _ => by decide) (ite_all (P := fun x : Int => x ≠ 10) (fun _ => by decide) (by decide)))))))))))))
  · intro h
    simp only [h, wm_dj (f' := 0) (t' := 3) (by decide) h, wm_dj (f' := 4) (t' := 8) (by decide) h, wm_dj (f' := 9) (t' := 15) (by decide) h, wm_dj (f' := 16) (t' := 22) (by decide) h, wm_dj (f' := 23) (t' := 28) (by decide) h, wm_dj (f' := 29) (t' := 32) (by decide) h, wm_dj (f' := 33) (t' := 38) (by decide) h, wm_dj (f' := 39) (t' := 47) (by decide) h, wm_dj (f' := 48) (t' := 53) (by decide) h, wm_dj (f' := 54) (t' := 56) (by decide) h, wm_dj (f' := 61) (t' := 64) (by decide) h, if_true, if_false, Bool.false_eq_true]
theorem wc_11 (b : Nat → Int) (q e : Nat) : wcode b q e = 11 ↔ wm b q e 61 64 = true := by
  rw [wcode_eq]
  constructor
  · intro hx
    cases h : wm b q e 61 64 with
    | true => rfl
    | false => exact absurd hx (ite_all (P := fun x : Int => x ≠ 11) (fun hp => absurd hp (by rw [h]; decide)) (ite_all (P := fun x : Int => x ≠ 11) (fun _ => by decide) (ite_all (P := fun x : Int => x ≠ 11) (fun _ => by decide) (ite_all (P := fun x : Int => x ≠ 11) (fun _ => by decide) (ite_all (P := fun x : Int => x ≠ 11) (fun _ => by decide) (ite_all (P := fun x : Int => x ≠ 11) (fun _ => by decide) (ite_all (P := fun x : Int => x ≠ 11) (fun _ => by decide) (ite_all (P := fun x : Int => x ≠ 11) (fun _ => by decide) (ite_all (P := fun x : Int => x ≠ 11) (fun _ => by decide) (ite_all (P := fun x : Int => x ≠ 11) (fun _ => by decide) (ite_all (P := fun x : Int => x ≠ 11) (fun _ => by decide) (ite_all (P := fun x : Int => x ≠ 11) (fun _ => by decide) (by decide)))))))))))))
  · intro h
    simp only [h, wm_dj (f' := 0) (t' := 3) (by decide) h, wm_dj (f' := 4) (t' := 8) (by decide) h, wm_dj (f' := 9) (t' := 15) (by decide) h, wm_dj (f' := 16) (t' := 22) (by decide) h, wm_dj (f' := 23) (t' := 28) (by decide) h, wm_dj (f' := 29) (t' := 32) (by decide) h, wm_dj (f' := 33) (t' := 38) (by decide) h, wm_dj (f' := 39) (t' := 47) (by decide) h, wm_dj (f' := 48) (t' := 53) (by decide) h, wm_dj (f' := 54) (t' := 56) (by decide) h, wm_dj (f' := 57) (t' := 60) (by decide) h, if_true, if_false, Bool.false_eq_true]
