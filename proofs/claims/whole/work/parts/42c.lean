/-! PARSE 3: the class's step -/
section CS
variable {b : Nat → Int} {sz p q e : Nat} {s : Sg} {d : Nat}
theorem up_hit (s : Sg) (c j i : Nat) (v : Int) : up s c j i v c j i = v := if_pos ⟨rfl, rfl, rfl⟩
theorem up_i {s : Sg} {c j i i' : Nat} {v : Int} (h : i' ≠ i) : up s c j i v c j i' = s c j i' := if_neg (fun q => h q.2.2)
theorem frT_r {s s' : Sg} {k : Nat} {v : Int} (h : frT s s') (hk : 3 ≤ k ∧ k ≤ 6) : frT s (up s' 11 0 k v) := frT_trans h (frT_up s' hk)
def HC (b : Nat → Int) (sz p : Nat) (s : Sg) : Prop := s 11 0 4 = tkC b sz p ∧ s 11 0 5 = ((tkB b sz p : Nat) : Int) ∧ s 11 0 3 = ((tkE b sz p : Nat) : Int) ∧ (tkC b sz p = 12 → s 11 0 6 = tkN b sz p)
theorem stepC (hb : bytC b sz s) (hp : s 11 0 3 = (p : Int)) (hz : p ≤ sz) : ∃ s', RUN (d + 7) mX4_step [vr 11 0] s = some (none, s') ∧ HC b sz p s' ∧ frT s s' := by
  have h160 := hb.2.1
  rw [qX4_step, skipC _ p s rfl hb hp hz]
  have hbl : tkB b sz p ≤ sz := scan_le (P := blk) (b := b) hz
  show ∃ s', EV (d + 7) mX4_step (52, [vr 11 0], [], up s 11 0 3 ((tkB b sz p : Nat) : Int)) = some (none, s') ∧ HC b sz p s' ∧ frT s s'
  have hHC : ∀ s', (s' 11 0 4 = tcF b sz (tkB b sz p) ∧ s' 11 0 5 = ((tkB b sz p : Nat) : Int) ∧ s' 11 0 3 = ((teF b sz (tkB b sz p) : Nat) : Int) ∧ (tcF b sz (tkB b sz p) = 12 → s' 11 0 6 = tnF b sz (tkB b sz p))) → HC b sz p s' := fun s' h => h
  generalize tkB b sz p = q at hbl hHC ⊢
  rw [qX4_step_52]
  have e3 : up s 11 0 3 (q : Int) 11 0 3 = (q : Int) := rfl
  have e2 : up s 11 0 3 (q : Int) 11 0 2 = (sz : Int) := hb.1
  rw [e3, e2]
  by_cases hq : q < sz
  · have hbq := hb.2.2.2 q hq
    rw [if_pos (show (q : Int) < (sz : Int) by omega)]
    obtain ⟨s1, hs1, hb1, h13, h15, hf1⟩ : ∃ s1, up (up s 11 0 3 (q : Int)) 11 0 5 (q : Int) = s1 ∧ bytC b sz s1 ∧ s1 11 0 3 = (q : Int) ∧ s1 11 0 5 = (q : Int) ∧ frT s s1 := ⟨_, rfl, bytC_up (bytC_up hb (by omega)) (by omega), rfl, rfl, frT_r (frT_r (frT_refl _) (by omega)) (by omega)⟩
    rw [hs1, letC_ok (by omega), bI_s, hb1.2.2.1 q hq]
    clear hs1 e3 e2
    by_cases hl : ltr (b q) = true
    · rw [if_pos hl, if_neg (by decide), stepWordC hb1 h15 h13 hbl, bV_s]
      refine ⟨_, rfl, hHC _ ⟨?_, ?_, ?_, ?_⟩, frT_r (frT_r hf1 (by omega)) (by omega)⟩
      · rw [up_hit]
        unfold tcF
        rw [if_neg (show ¬ ¬ q < sz from fun h => h hq), if_pos hl]
      · rw [up_i (by decide), up_i (by decide)]; exact h15
      · rw [up_i (by decide), up_hit]
        unfold teF
        rw [if_neg (show ¬ ¬ q < sz from fun h => h hq), if_pos hl]
      · intro h
        unfold tcF at h
        rw [if_neg (show ¬ ¬ q < sz from fun h => h hq), if_pos hl] at h
        exact absurd h (wcode_rg b q _).2.2.1
    · rw [if_neg hl, if_pos rfl, h13, digC_ok (by omega), bI_s, hb1.2.2.1 q hq]
      by_cases hd : dgt (b q) = true
      · obtain ⟨v, hv1, hv2⟩ := stepNumC (d := d + 5) hb1 h15 h13 hbl
        rw [if_pos hd, if_neg (by decide), hv2, bV_s]
        refine ⟨_, rfl, hHC _ ⟨?_, ?_, ?_, ?_⟩, frT_r (frT_r (frT_r hf1 (by omega)) (by omega)) (by omega)⟩
        · rw [up_hit]
          unfold tcF
          rw [if_neg (show ¬ ¬ q < sz from fun h => h hq), if_neg hl, if_pos hd]
        · rw [up_i (by decide), up_i (by decide), up_i (by decide)]; exact h15
        · rw [up_i (by decide), up_hit]
          unfold teF
          rw [if_neg (show ¬ ¬ q < sz from fun h => h hq), if_neg hl, if_pos hd]
        · intro h
          unfold tcF at h
          rw [if_neg (show ¬ ¬ q < sz from fun h => h hq), if_neg hl, if_pos hd] at h
          rw [up_i (by decide), up_i (by decide), up_hit]
          refine hv1 ?_
          split at h <;> omega
      · rw [if_neg hd, if_pos rfl, h13, Int.toNat_natCast, if_pos (show inb (q : Int) 160 by constructor <;> omega), hb1.2.2.1 q hq]
        obtain ⟨r, hr1, hr2⟩ := idxC (d := d + 1) (s := s1) hbq
        rw [hr1, bI_s]
        have e4 : teF b sz q = q + 1 := by
          unfold teF
          rw [if_neg (show ¬ ¬ q < sz from fun h => h hq), if_neg hl, if_neg hd]
        by_cases hs : sgn (b q) = true
        · rw [if_neg (fun h => (hr2.mp h) hs), h13, if_pos (show inb (q : Int) 160 by constructor <;> omega), Int.toNat_natCast, hb1.2.2.1 q hq, qX4_step_149, h13, w32_id (by omega) (by omega)]
          refine ⟨_, rfl, hHC _ ⟨?_, ?_, ?_, ?_⟩, frT_r (frT_r hf1 (by omega)) (by omega)⟩
          · rw [up_i (by decide), up_hit]
            unfold tcF
            rw [if_neg (show ¬ ¬ q < sz from fun h => h hq), if_neg hl, if_neg hd, if_pos hs]
          · rw [up_i (by decide), up_i (by decide)]; exact h15
          · rw [up_hit, e4]; omega
          · intro h
            unfold tcF at h
            rw [if_neg (show ¬ ¬ q < sz from fun h => h hq), if_neg hl, if_neg hd, if_pos hs] at h
            unfold sgn at hs
            rw [decide_eq_true_eq] at hs
            omega
        · rw [if_pos (hr2.mpr hs), qX4_step_149, h13, w32_id (by omega) (by omega)]
          refine ⟨_, rfl, hHC _ ⟨?_, ?_, ?_, ?_⟩, frT_r (frT_r hf1 (by omega)) (by omega)⟩
          · rw [up_i (by decide), up_hit]
            unfold tcF
            rw [if_neg (show ¬ ¬ q < sz from fun h => h hq), if_neg hl, if_neg hd, if_neg hs]
          · rw [up_i (by decide), up_i (by decide)]; exact h15
          · rw [up_hit, e4]; omega
          · intro h
            unfold tcF at h
            rw [if_neg (show ¬ ¬ q < sz from fun h => h hq), if_neg hl, if_neg hd, if_neg hs] at h
            exact absurd h (by decide)
  · rw [if_neg (show ¬ (q : Int) < (sz : Int) by omega)]
    refine ⟨_, rfl, hHC _ ⟨?_, ?_, ?_, ?_⟩, frT_r (frT_r (frT_r (frT_refl _) (by omega)) (by omega)) (by omega)⟩
    · rw [up_hit]
      unfold tcF
      rw [if_pos hq]
    · rw [up_i (by decide), up_hit]
    · rw [up_i (by decide), up_i (by decide), up_hit]
      unfold teF
      rw [if_pos hq]
    · intro h
      unfold tcF at h
      rw [if_pos hq] at h
      exact absurd h (by decide)
end CS
