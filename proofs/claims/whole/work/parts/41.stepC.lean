/-! PARSE 2: the class's tokens -/
section CS
variable {b : Nat → Int} {sz p q e : Nat} {s : Sg} {d : Nat}
def bytC (b : Nat → Int) (sz : Nat) (s : Sg) : Prop := s 11 0 2 = (sz : Int) ∧ sz ≤ 160 ∧ (∀ i, i < sz → s 12 0 i = b i) ∧ (∀ i, i < sz → 0 ≤ b i ∧ b i ≤ 255)
def frT (s s' : Sg) : Prop := ∀ c j i, ¬ (c = 11 ∧ j = 0 ∧ 3 ≤ i ∧ i ≤ 6) → s' c j i = s c j i
theorem frT_refl (s : Sg) : frT s s := fun _ _ _ _ => rfl
theorem frT_trans {s1 s2 s3 : Sg} (h1 : frT s1 s2) (h2 : frT s2 s3) : frT s1 s3 := fun c j i h => (h2 c j i h).trans (h1 c j i h)
theorem frT_up {k : Nat} {v : Int} (s : Sg) (h : 3 ≤ k ∧ k ≤ 6) : frT s (up s 11 0 k v) := fun c j i hn => by
  rw [up_ap, if_neg (fun q => hn ⟨q.1, q.2.1, by omega⟩)]
theorem bytC_fr {s' : Sg} (h : bytC b sz s) (hf : frT s s') : bytC b sz s' := ⟨(hf 11 0 2 (by omega)).trans h.1, h.2.1, fun i hi => (hf 12 0 i (by omega)).trans (h.2.2.1 i hi), h.2.2.2⟩
theorem bytC_up {k : Nat} {v : Int} (h : bytC b sz s) (hk : 3 ≤ k ∧ k ≤ 6) : bytC b sz (up s 11 0 k v) := bytC_fr h (frT_up s hk)
theorem letC_ok (hx : q < 160) : RUN d mX4_isLetter [vr 11 0, vi (q : Int)] s = some (some (vi (if ltr (s 12 0 q) = true then 1 else 0)), s) := by
  rw [qX4_isLetter, Int.toNat_natCast, if_pos (show inb (q : Int) 160 by constructor <;> omega)]
  unfold ltr
  simp only [decide_eq_true_eq]
  by_cases h1 : s 12 0 q < 97
  · rw [if_pos h1, if_neg (by omega)]
  · rw [if_neg h1, if_pos (show inb (q : Int) 160 by constructor <;> omega)]
    by_cases h2 : 122 < s 12 0 q
    · rw [if_pos h2, if_neg (by omega)]
    · rw [if_neg h2, if_pos (by omega)]
theorem digC_ok (hx : q < 160) : RUN d mX4_isDigit [vr 11 0, vi (q : Int)] s = some (some (vi (if dgt (s 12 0 q) = true then 1 else 0)), s) := by
  rw [qX4_isDigit, Int.toNat_natCast, if_pos (show inb (q : Int) 160 by constructor <;> omega)]
  unfold dgt
  simp only [decide_eq_true_eq]
  by_cases h1 : s 12 0 q < 48
  · rw [if_pos h1, if_neg (by omega)]
  · rw [if_neg h1, if_pos (show inb (q : Int) 160 by constructor <;> omega)]
    by_cases h2 : 57 < s 12 0 q
    · rw [if_pos h2, if_neg (by omega)]
    · rw [if_neg h2, if_pos (by omega)]
theorem up_eq {c j i : Nat} {v : Int} (h : s c j i = v) : up s c j i v = s := by rw [← h]; exact up_same s c j i
theorem skipC : ∀ (k p : Nat) (s : Sg), sz - p = k → bytC b sz s → s 11 0 3 = (p : Int) → p ≤ sz → EV d mX4_step (0, [vr 11 0], [], s) = EV d mX4_step (52, [vr 11 0], [], up s 11 0 3 ((scan blk b sz p : Nat) : Int)) := by
  intro k
  induction k with
  | zero =>
    intro p s hk hb hp hz
    rw [qX4_step_0, if_neg (show ¬ s 11 0 3 < s 11 0 2 by rw [hp, hb.1]; omega), scan_out (by omega), up_eq hp]
  | succ k ih =>
    intro p s hk hb hp hz
    have hlt : p < sz := by omega
    have h160 := hb.2.1
    rw [qX4_step_0, if_pos (show s 11 0 3 < s 11 0 2 by rw [hp, hb.1]; omega), hp, Int.toNat_natCast, if_pos (show inb (p : Int) 160 by constructor <;> omega), hb.2.2.1 p hlt]
    have hgo : blk (b p) = true → EV d mX4_step (39, [vr 11 0], [], s) = EV d mX4_step (52, [vr 11 0], [], up s 11 0 3 ((scan blk b sz p : Nat) : Int)) := by
      intro hbl
      rw [qX4_step_39, hp, w32_id (by omega) (by omega), ih (p + 1) _ (by omega) (bytC_up hb (by omega)) (by rw [up_ap, if_pos ⟨rfl, rfl, rfl⟩]; omega) (by omega), up_up, scan_in hlt hbl]
    by_cases h1 : b p = 32
    · rw [if_pos h1, hgo (by unfold blk; rw [decide_eq_true_eq]; exact Or.inl h1)]
    · rw [if_neg h1, if_pos (show inb (p : Int) 160 by constructor <;> omega)]
      by_cases h2 : b p = 10
      · rw [if_pos h2, hgo (by unfold blk; rw [decide_eq_true_eq]; exact Or.inr h2)]
      · rw [if_neg h2, scan_out (fun q => by have := q.2; unfold blk at this; rw [decide_eq_true_eq] at this; omega), up_eq hp]
theorem lettersC {z1 z2 z3 : PV} : ∀ (k p : Nat) (s : Sg), sz - p = k → bytC b sz s → s 11 0 3 = (p : Int) → p ≤ sz → EV (d + 1) mX4_stepWord (0, [vr 11 0, z1, z2, z3], [], s) = EV (d + 1) mX4_stepWord (35, [vr 11 0, z1, z2, z3], [], up s 11 0 3 ((scan ltr b sz p : Nat) : Int)) := by
  intro k
  induction k with
  | zero =>
    intro p s hk hb hp hz
    rw [qX4_stepWord_0, if_neg (show ¬ s 11 0 3 < s 11 0 2 by rw [hp, hb.1]; omega), scan_out (by omega), up_eq hp]
  | succ k ih =>
    intro p s hk hb hp hz
    have hlt : p < sz := by omega
    have h160 := hb.2.1
    rw [qX4_stepWord_0, if_pos (show s 11 0 3 < s 11 0 2 by rw [hp, hb.1]; omega), hp, letC_ok (by omega), bI_s, hb.2.2.1 p hlt]
    by_cases h1 : ltr (b p) = true
    · rw [if_pos h1, if_neg (by decide), hp, w32_id (by omega) (by omega), ih (p + 1) _ (by omega) (bytC_up hb (by omega)) (by rw [up_ap, if_pos ⟨rfl, rfl, rfl⟩]; omega) (by omega), up_up, scan_in hlt h1]
    · rw [if_neg h1, if_pos rfl, scan_out (fun q => h1 q.2), up_eq hp]
theorem ch59 : ∀ k : Nat, k < 65 → wi2c (wand (sv 59 k) 255) = sv 59 k ∧ 0 ≤ sv 59 k ∧ sv 59 k ≤ 65535 := by decide +kernel
theorem charC_ok {k : Nat} (hk : k < 65) : RUN (d + 4) mJ0_charAt_5068e [vr 56 0, vi (k : Int)] s = some (some (vi (sv 59 k)), s) := by
  obtain ⟨h1, h2, h3⟩ := ch59 k hk
  rw [qJ0_charAt_5068ev, qJ0_isLatin1_aae02vv, bI_s, if_neg (by decide), qJ1_charAt_3b067v, qJ0_checkIndex_df160, qJ3_checkIndex_8e157, if_neg (by omega), if_pos (by omega), bI_s, bV_s, Int.toNat_natCast, h1, if_pos (show inb (k : Int) 65 by constructor <;> omega), if_pos ⟨h2, h3⟩, bI_s, if_pos ⟨h2, h3⟩]
theorem len56 : RUN (d + 1) mJ0_length_8abf5 [vr 56 0] s = some (some (vi 65), s) := by
  rw [qJ0_length_8abf5vv, qJ0_coder_7d493vv, bI_s]
  rfl
theorem spellC {f t : Nat} (hft : f ≤ t) (ht : t ≤ 65) (hb : bytC b sz s) (hq : s 11 0 5 = (q : Int)) (hqs : q + (t - f) ≤ sz) : ∀ (n k : Nat), t - k = n → f ≤ k → k ≤ t → EV (d + 5) mX4_isSpelled (19, [vr 11 0, vi (f : Int), vi (t : Int), vi (k : Int)], [], s) = some (some (vi (if wlq b (q + (k - f)) k (t - k) = true then 1 else 0)), s) := by
  intro n
  have h160 := hb.2.1
  induction n with
  | zero =>
    intro k hn h1 h2
    rw [qX4_isSpelled_19, if_neg (by omega), hn]
    rfl
  | succ n ih =>
    intro k hn h1 h2
    have e1 : w32 (w32 ((q : Int) + (k : Int)) - (f : Int)) = ((q + (k - f) : Nat) : Int) := by rw [w32_id (x := (q : Int) + (k : Int)) (by omega) (by omega), w32_id (by omega) (by omega)]; omega
    rw [qX4_isSpelled_19, if_pos (by omega), charC_ok (by omega), bI_s, hq, e1, Int.toNat_natCast, if_pos (show inb ((q + (k - f) : Nat) : Int) 160 by constructor <;> omega), hb.2.2.1 _ (by omega), hn, wlq]
    by_cases hx : sv 59 k = b (q + (k - f))
    · rw [if_pos hx, w32_id (by omega) (by omega), show (k : Int) + 1 = ((k + 1 : Nat) : Int) by omega, ih (k + 1) (by omega) (by omega) (by omega), decide_eq_true hx, Bool.true_and, show q + (k + 1 - f) = q + (k - f) + 1 by omega, show t - (k + 1) = n by omega]
    · rw [if_neg hx, decide_eq_false hx, Bool.false_and]
      rfl
theorem isSpC {f t : Nat} (hft : f ≤ t) (ht : t ≤ 65) (hb : bytC b sz s) (hq : s 11 0 5 = (q : Int)) (he : s 11 0 3 = (e : Int)) (hqe : q ≤ e) (hez : e ≤ sz) : RUN (d + 5) mX4_isSpelled [vr 11 0, vi (f : Int), vi (t : Int)] s = some (some (vi (if wm b q e f t = true then 1 else 0)), s) := by
  have h160 := hb.2.1
  rw [qX4_isSpelled, hq, he, w32_id (by omega) (by omega), w32_id (by omega) (by omega)]
  unfold wm
  by_cases h : (e : Int) - (q : Int) = (t : Int) - (f : Int)
  · rw [if_pos h, spellC hft ht hb hq (by omega) (t - f) f rfl (Nat.le_refl _) hft, decide_eq_true (show e - q = t - f by omega), Bool.true_and, Nat.sub_self, Nat.add_zero]
  · rw [if_neg h, decide_eq_false (show ¬ (e - q = t - f) by omega), Bool.false_and]
    rfl
theorem words47 (hqe : q ≤ e) (hez : e ≤ sz) : ∀ (k i word f : Nat) (tok : Int) (s : Sg), i + k = 65 → f ≤ i → word ≤ i → bytC b sz s → s 11 0 5 = (q : Int) → s 11 0 3 = (e : Int) → s 11 0 4 = tok → EV (d + 6) mX4_stepWord (47, [vr 11 0, vi (word : Int), vi (f : Int), vi (i : Int)], [], s) = some (none, up s 11 0 4 (wlp (wm b q e) k i word f tok)) := by
  intro k
  induction k with
  | zero =>
    intro i word f tok s hk hf hw hb hq he ht
    rw [qX4_stepWord_47, len56, bI_s, if_neg (by omega), wlp, up_eq ht]
  | succ k ih =>
    intro i word f tok s hk hf hw hb hq he ht
    rw [qX4_stepWord_47, len56, bI_s, if_pos (by omega), charC_ok (by omega), bI_s, wlp]
    by_cases h32 : sv 59 i = 32
    · rw [if_pos h32, if_pos h32, isSpC hf (by omega) hb hq he hqe hez, bI_s]
      by_cases hm : wm b q e f i = true
      · rw [if_pos hm, if_pos hm, if_neg (by decide), qX4_stepWord_81, qX4_stepWord_88, w32_id (by omega) (by omega), w32_id (by omega) (by omega), show (word : Int) + 1 = ((word + 1 : Nat) : Int) by omega, show (i : Int) + 1 = ((i + 1 : Nat) : Int) by omega, ih (i + 1) (word + 1) (i + 1) (word : Int) (up s 11 0 4 (word : Int)) (by omega) (by omega) (by omega) (bytC_up hb (by omega)) hq he (by rw [up_ap, if_pos ⟨rfl, rfl, rfl⟩]), up_up]
      · rw [if_neg hm, if_neg hm, if_pos rfl, qX4_stepWord_81, qX4_stepWord_88, w32_id (by omega) (by omega), w32_id (by omega) (by omega), show (word : Int) + 1 = ((word + 1 : Nat) : Int) by omega, show (i : Int) + 1 = ((i + 1 : Nat) : Int) by omega, ih (i + 1) (word + 1) (i + 1) tok _ (by omega) (by omega) (by omega) hb hq he ht]
    · rw [if_neg h32, if_neg h32, qX4_stepWord_88, w32_id (by omega) (by omega), show (i : Int) + 1 = ((i + 1 : Nat) : Int) by omega, ih (i + 1) word f tok _ (by omega) (by omega) (by omega) hb hq he ht]
theorem stepWordC (hb : bytC b sz s) (hq : s 11 0 5 = (q : Int)) (hp : s 11 0 3 = (q : Int)) (hz : q ≤ sz) : RUN (d + 6) mX4_stepWord [vr 11 0] s = some (none, up (up s 11 0 3 ((scan ltr b sz q : Nat) : Int)) 11 0 4 (wcode b q (scan ltr b sz q))) := by
  rw [qX4_stepWord, lettersC _ q s rfl hb hp hz, qX4_stepWord_35]
  have h := words47 (d := d) (b := b) (sz := sz) (q := q) (e := scan ltr b sz q) scan_ge (scan_le hz) 65 0 0 0 14 (up (up s 11 0 3 ((scan ltr b sz q : Nat) : Int)) 11 0 4 14) (by omega) (by omega) (by omega) (bytC_up (bytC_up hb (by omega)) (by omega)) hq rfl rfl
  rw [up_up] at h
  exact h
end CS
