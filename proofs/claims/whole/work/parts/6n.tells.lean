/-! LAW 24: tells -/
def offF (ft : Ft) (v : Sem × Sem × Sem) (n : Nat) (c : Nat) : Int := pj2 (carL ft v false n (lnF ft) c) c
theorem offF_eq (ft : Ft) (v : Sem × Sem × Sem) (n : Nat) (c : Nat) : offF ft v n c = (carL ft v false n (lnF ft) c).2.1 c := by rw [← pj2_eq]; rfl
def unN (O I : Nat → Int) (n : Nat) : Nat := msk (fun c => decide (O c ≠ I c)) n
theorem unN_s {O I : Nat → Int} {k : Nat} : unN O I (k + 1) = if O k = I k then unN O I k else unN O I k + 2 ^ k := by
  unfold unN
  rw [msk]
  by_cases q : O k = I k
  · rw [if_pos q, if_neg (by simp [q]), Nat.add_zero]
  · rw [if_neg q, if_pos (by simp [q])]
theorem wor_z : ∀ c : Nat, c < 6 → ∀ x : Nat, x < 64 → wor (x : Int) (wshl 0 (c : Int)) = (x : Int) := by decide +kernel
def cntP (P : Nat → Bool) : Nat → Int
  | 0 => 0
  | k + 1 => if P k = true then cntP P k + 1 else cntP P k
def bitP (P : Nat → Bool) : Nat → Int
  | 0 => 0
  | k + 1 => if P k = true then wor (bitP P k) (wshl 1 (k : Int)) else bitP P k
def fstP (P : Nat → Bool) : Nat → Int
  | 0 => -1
  | k + 1 => if P k = true ∧ cntP P k = 0 then (k : Int) else fstP P k
theorem cntP_rg {P : Nat → Bool} : ∀ k : Nat, 0 ≤ cntP P k ∧ cntP P k ≤ (k : Int)
  | 0 => by rw [cntP]; omega
  | k + 1 => by
    have := cntP_rg (P := P) k
    rw [cntP]
    by_cases q : P k = true
    · rw [if_pos q]; omega
    · rw [if_neg q]; omega
theorem fst_cnt {P : Nat → Bool} : ∀ k : Nat, fstP P k = -1 ↔ cntP P k = 0
  | 0 => by rw [fstP, cntP]; omega
  | k + 1 => by
    have ih := fst_cnt (P := P) k
    have := cntP_rg (P := P) k
    rw [fstP, cntP]
    by_cases q : P k = true
    · rw [if_pos q]
      by_cases q2 : cntP P k = 0
      · rw [if_pos ⟨q, q2⟩]; omega
      · rw [if_neg (fun z => q2 z.2)]; omega
    · rw [if_neg q, if_neg (fun z => q z.1)]; exact ih
def ansP (w : Int) (P : Nat → Bool) (k : Nat) : Int := if w < 50 then bitP P k else if w < 60 then cntP P k else fstP P k
section PT
variable {ft : Ft} {n : Nat} {v : Sem × Sem × Sem} {O I : Nat → Int} {P : Nat → Bool} {s0 s : Sg} {d j : Nat}
theorem othL (hC : YC ft n v false s) (hO : ∀ c, c < n → s 17 0 c = O c) (hI : ∀ i, i < n → s 31 j i = I i) (hz : s 30 j 2 = (n : Int)) : ∀ (m k : Nat), k + m = n → EV (d + 1) mX7_otherwise (4, [vr 13 0, vr 30 j, vi ((unN O I k : Nat) : Int), vi (k : Int)], [], s) = some (some (vi ((unN O I n : Nat) : Int)), s)
  | 0, k, hk => by
    have hk : k = n := by omega
    subst hk
    rw [qX7_otherwise_4, YC_size hC, bI_s, if_neg (by omega)]
  | m + 1, k, hk => by
    have h6 := hC.2.1.1
    have hlt : unN O I k < 2 ^ k := msk_lt _ k
    have ih := othL hC hO hI hz m (k + 1) (by omega)
    rw [unN_s] at ih
    rw [qX7_otherwise_4, YC_size hC, bI_s, if_pos (by omega), if_pos (inbN (by omega)), itemC (by omega) (by omega), bI_s, Int.toNat_natCast, hO k (by omega), hI k (by omega)]
    by_cases q : O k = I k
    · rw [if_pos q] at ih
      rw [if_pos q, qX7_otherwise_35, w32_id (by omega) (by omega), show (k : Int) + 1 = ((k + 1 : Nat) : Int) by omega]
      exact ih
    · rw [if_neg q] at ih
      rw [if_neg q, wor_add k (by omega) _ hlt, qX7_otherwise_35, w32_id (by omega) (by omega), show (k : Int) + 1 = ((k + 1 : Nat) : Int) by omega]
      exact ih
theorem othC (hC : YC ft n v false s) (hO : ∀ c, c < n → s 17 0 c = O c) (hI : ∀ i, i < n → s 31 j i = I i) (hz : s 30 j 2 = (n : Int)) : RUN (d + 1) mX7_otherwise [vr 13 0, vr 30 j] s = some (some (vi ((unN O I n : Nat) : Int)), s) := by
  rw [qX7_otherwise]
  exact othL hC hO hI hz n 0 (by omega)
theorem unlL (h9 : s 32 0 9 = (n : Int)) (h6 : n ≤ 6) (hj : j < 4) (hO : ∀ c, c < n → s 39 0 c = O c) (hI : ∀ i, i < n → s 51 0 (40 * j + i) = I i) : ∀ (m k : Nat), k + m = n → EV d mX9_unlike (8, [vr 32 0, vi (j : Int), vi ((unN O I k : Nat) : Int), vi (k : Int)], [], s) = some (some (vi ((unN O I n : Nat) : Int)), s)
  | 0, k, hk => by
    have hk : k = n := by omega
    subst hk
    rw [qX9_unlike_8, h9, if_neg (by omega)]
  | m + 1, k, hk => by
    have hlt : unN O I k < 2 ^ k := msk_lt _ k
    have hp := p64 (n := k) (by omega)
    have ih := unlL h9 h6 hj hO hI m (k + 1) (by omega)
    rw [unN_s] at ih
    rw [qX9_unlike_8, h9, if_pos (by omega), if_pos (inbN (by omega)), w32_id (x := 40 * (j : Int)) (by omega) (by omega), w32_id (x := 40 * (j : Int) + (k : Int)) (by omega) (by omega), show 40 * (j : Int) + (k : Int) = ((40 * j + k : Nat) : Int) by omega, if_pos (inbN (by omega)), Int.toNat_natCast, Int.toNat_natCast, hO k (by omega), hI k (by omega)]
    by_cases q : O k = I k
    · rw [if_pos q] at ih
      rw [if_pos q, qX9_unlike_42, wor_z k (by omega) _ (by omega), w32_id (by omega) (by omega), show (k : Int) + 1 = ((k + 1 : Nat) : Int) by omega]
      exact ih
    · rw [if_neg q] at ih
      rw [if_neg q, qX9_unlike_42, wor_add k (by omega) _ hlt, w32_id (by omega) (by omega), show (k : Int) + 1 = ((k + 1 : Nat) : Int) by omega]
      exact ih
theorem unlR (hR : YR ft n v false s) (hj : j < 4) (hI : ∀ i, i < n → s 51 0 (40 * j + i) = I i) : ∃ s', RUN (d + 48) mX9_unlike [vr 32 0, vi (j : Int)] s = some (some (vi ((unN (offF ft v n) I n : Nat) : Int)), s') ∧ frW s s' := by
  obtain ⟨s1, a1, a2, a3⟩ := goesAllR (d := d) hR
  have hR1 := YR_fr hR (frZ_W a2)
  have e51 : s1 51 = s 51 := a2.1 51 (by decide) (by decide) (by decide) (by decide) (by decide) (by decide) (by decide)
  have h := unlL (d := d + 48) (O := offF ft v n) (I := I) hR1.1.1 hR.2.1.1 hj (fun c hc => by rw [(a3.2 c hc).2.1, offF_eq]) (fun i hi => by rw [e51]; exact hI i hi) n 0 (by omega)
  rw [qX9_unlike, a1, bV_s]
  exact ⟨s1, h, a2⟩
/-- the reference tries one after another -/
theorem tlR {x5 w c f : Int} {top : Nat} {L : Int → Sg → Sg} {J : Sg → Prop} {fv : Nat → Ft} {vv : Nat → Sem × Sem × Sem} (htop : top < 100) (hj : j < 4) (hL : ∀ x s, RUN (d + 48) mX9_lays [vr 32 0, vi f, vi c, vi x] s = some (none, L x s)) (hY : ∀ (k : Nat) s, k ≤ top → J s → YR (fv k) n (vv k) false (L (k : Int) s)) (hJ : ∀ (k : Nat) s s1, J s → frW (L (k : Int) s) s1 → J s1) (hE : ∀ s, J s → frI s0 (L x5 s)) (hI : ∀ (k : Nat) s, J s → ∀ i, i < n → L (k : Int) s 51 0 (40 * j + i) = I i) (hP : ∀ k, k ≤ top → decide (unN (offF (fv k) (vv k) n) I n = 0) = P k) : ∀ (m k : Nat) (b : Int) (s : Sg), k + m = top + 1 → (w < 50 → b = bitP P k) → J s → ∃ s', EV (d + 49) mX9_tells (228, [vr 32 0, vi (j : Int), vi w, vi c, vi f, vi x5, vi (top : Int), vi b, vi (cntP P k), vi (fstP P k), vi (k : Int)], [], s) = some (some (vi (ansP w P (top + 1))), s') ∧ frI s0 s' := by
  intro m
  induction m with
  | zero =>
    intro k b s hk hb hs
    have hk : k = top + 1 := by omega
    subst hk
    rw [qX9_tells_228, if_pos (by omega), hL, bV_s]
    refine ⟨L x5 s, ?_, hE s hs⟩
    unfold ansP
    by_cases q1 : w < 50
    · rw [if_pos q1, if_pos q1, hb q1]
    · rw [if_neg q1, if_neg q1]
      by_cases q2 : w < 60
      · rw [if_pos q2, if_pos q2]
      · rw [if_neg q2, if_neg q2]
  | succ m ih =>
    intro k b s hk hb hs
    obtain ⟨s1, a1, a2⟩ := unlR (d := d) (j := j) (I := I) (hY k s (by omega) hs) hj (hI k s hs)
    have hp := hP k (by omega)
    have hs1 := hJ k s s1 hs a2
    have hc := cntP_rg (P := P) k
    have hfc := fst_cnt (P := P) k
    rw [qX9_tells_228, if_neg (by omega), hL, bV_s, a1, bI_s]
    have ihB := ih (k + 1)
    rw [cntP, fstP, bitP] at ihB
    by_cases q : unN (offF (fv k) (vv k) n) I n = 0
    · have hpk : P k = true := by rw [← hp]; exact decide_eq_true q
      rw [if_pos hpk, if_pos hpk] at ihB
      rw [if_pos (by omega)]
      have go : ∀ y0 : Int, (w < 50 → y0 = wshl 1 (k : Int)) → ∃ s', EV (d + 49) mX9_tells (268, [vr 32 0, vi (j : Int), vi w, vi c, vi f, vi x5, vi (top : Int), vi b, vi (cntP P k), vi (fstP P k), vi (k : Int)], [vi y0, vi b], s1) = some (some (vi (ansP w P (top + 1))), s') ∧ frI s0 s' := by
        intro y0 hy
        rw [qX9_tells_268, w32_id (x := cntP P k + 1) (by omega) (by omega)]
        by_cases q2 : cntP P k = 0
        · rw [if_pos ⟨hpk, q2⟩] at ihB
          rw [if_pos (hfc.mpr q2), qX9_tells_287, qX9_tells_289, w32_id (by omega) (by omega), show (k : Int) + 1 = ((k + 1 : Nat) : Int) by omega]
          exact ihB _ s1 (by omega) (fun z => by rw [hb z, hy z]) hs1
        · rw [if_neg (fun z => q2 z.2)] at ihB
          rw [if_neg (fun z => q2 (hfc.mp z)), qX9_tells_287, qX9_tells_289, w32_id (by omega) (by omega), show (k : Int) + 1 = ((k + 1 : Nat) : Int) by omega]
          exact ihB _ s1 (by omega) (fun z => by rw [hb z, hy z]) hs1
      by_cases q3 : w < 50
      · rw [if_pos q3]; exact go _ (fun _ => rfl)
      · rw [if_neg q3]; exact go _ (fun z => absurd z q3)
    · have hpk : ¬ P k = true := by rw [← hp]; exact fun z => q (of_decide_eq_true z)
      rw [if_neg hpk, if_neg hpk, if_neg (fun z => hpk z.1)] at ihB
      rw [if_neg (by omega), qX9_tells_289, w32_id (by omega) (by omega), show (k : Int) + 1 = ((k + 1 : Nat) : Int) by omega]
      exact ihB b s1 (by omega) hb hs1
/-- the class: a feature -/
theorem tlC {c f top : Nat} {kd : Int} (hj : (s0 30 j 2 = (n : Int)) ∧ ∀ i, i < n → s0 31 j i = I i) (hC : YC ft n v false s0) (hf : f < 6) (hc : c < n) (htop : sv 52 f = (top : Int)) (ht100 : top < 100) (hP : ∀ k : Nat, k ≤ top → decide (unN (offF (fset ft f c (k : Int)) v n) I n = 0) = P k) : ∀ (m k : Nat) (s : Sg), k + m = top + 1 → tryC f c s0 s → ∃ s', EV (d + 9) mX8_likely (31, [vr 0 0, vr 30 j, vi kd, vi (c : Int), vi (f : Int), vi (ft f c), vi (bitP P k), vi (cntP P k), vi (fstP P k), vi (k : Int)], [], s) = some (some (vi (if kd = 6 then fstP P (top + 1) else if kd = 5 then cntP P (top + 1) else bitP P (top + 1))), s') ∧ frI s0 s' := by
  have e3 : s0 3 f c = ft f c := hC.1.2 c hc f hf
  intro m
  induction m with
  | zero =>
    intro k s hk ht
    have hk : k = top + 1 := by omega
    subst hk
    obtain ⟨r, hr⟩ := tryC_put (d := d + 7) (x := ft f c) hC ht hf hc
    rw [qX8_likely_31, if_pos (inbN hf), Int.toNat_natCast, htop, if_pos (by omega), hr, bI_s]
    refine ⟨up s 3 f c (ft f c), ?_, by rw [← e3]; exact tryC_end ht⟩
    by_cases q1 : kd = 6
    · rw [if_pos q1, if_pos q1]
    · rw [if_neg q1, if_neg q1]
      by_cases q2 : kd = 5
      · rw [if_pos q2, if_pos q2]
      · rw [if_neg q2, if_neg q2]
  | succ m ih =>
    intro k s hk ht
    obtain ⟨r, hr⟩ := tryC_put (d := d + 7) (x := (k : Int)) hC ht hf hc
    obtain ⟨s2, s3, a1, a2, a3, a4, a5, a6, _⟩ := tryC_go (d := d + 1) (x := (k : Int)) hC ht ⟨by omega, by rw [htop]; omega⟩
    have e30 : s3 30 = s0 30 := a5.2.1 30 (by decide) (by decide) (by decide) (by decide) (by decide) (by decide) (by decide) (by decide) (by decide) (by decide) (by decide) (by decide)
    have e31 : s3 31 = s0 31 := a5.2.1 31 (by decide) (by decide) (by decide) (by decide) (by decide) (by decide) (by decide) (by decide) (by decide) (by decide) (by decide) (by decide)
    have ho := othC (d := d + 7) (j := j) (I := I) (O := offF (fset ft f c (k : Int)) v n) a3 (fun c' hc' => by rw [(a4.2 c' hc').2.1, offF_eq]) (fun i hi => by rw [e31]; exact hj.2 i hi) (by rw [e30]; exact hj.1)
    have hp := hP k (by omega)
    have hcr := cntP_rg (P := P) k
    rw [qX8_likely_31, if_pos (inbN hf), Int.toNat_natCast, htop, if_neg (by omega), hr, bI_s, a1, bV_s, a2, bI_s, ho, bI_s]
    have ihB := ih (k + 1)
    rw [cntP, fstP, bitP] at ihB
    by_cases q : unN (offF (fset ft f c (k : Int)) v n) I n = 0
    · have hpk : P k = true := by rw [← hp]; exact decide_eq_true q
      rw [if_pos hpk, if_pos hpk] at ihB
      rw [if_pos (by omega)]
      by_cases q2 : cntP P k = 0
      · rw [if_pos ⟨hpk, q2⟩] at ihB
        rw [if_pos q2, qX8_likely_102, qX8_likely_107, w32_id (by omega) (by omega), w32_id (by omega) (by omega), show (k : Int) + 1 = ((k + 1 : Nat) : Int) by omega]
        exact ihB s3 (by omega) a5
      · rw [if_neg (fun z => q2 z.2)] at ihB
        rw [if_neg q2, qX8_likely_102, qX8_likely_107, w32_id (by omega) (by omega), w32_id (by omega) (by omega), show (k : Int) + 1 = ((k + 1 : Nat) : Int) by omega]
        exact ihB s3 (by omega) a5
    · have hpk : ¬ P k = true := by rw [← hp]; exact fun z => q (of_decide_eq_true z)
      rw [if_neg hpk, if_neg hpk, if_neg (fun z => hpk z.1)] at ihB
      rw [if_neg (by omega), qX8_likely_107, w32_id (by omega) (by omega), show (k : Int) + 1 = ((k + 1 : Nat) : Int) by omega]
      exact ihB s3 (by omega) a5
end PT
