/-! THE MACHINE IS SOUND, 2: what the tables say of its links -/
def RO : Nat → String := fun o => match o with
  | 0 => RX0
  | 1 => RX1
  | 2 => RX2
  | 3 => RX3
  | 4 => RX4
  | 5 => RX5
  | 6 => RX6
  | 7 => RX7
  | 8 => RX8
  | 9 => RX9
  | 20 => RJ0
  | 21 => RJ1
  | 22 => RJ2
  | 23 => RJ3
  | 29 => RJ9
  | 31 => RJ11
  | _ => ""
def TF : Nat → u_T := fun o => match o with
  | 0 => TX0
  | 1 => TX1
  | 2 => TX2
  | 3 => TX3
  | 4 => TX4
  | 5 => TX5
  | 6 => TX6
  | 7 => TX7
  | 8 => TX8
  | 9 => TX9
  | _ => fun _ => ("", "", "", false)
def tyF : Nat → Nat → FieldType := fun o => match o with
  | 0 => tyX0
  | 1 => tyX1
  | 2 => tyX2
  | 3 => tyX3
  | 4 => tyX4
  | 5 => tyX5
  | 6 => tyX6
  | 7 => tyX7
  | 8 => tyX8
  | 9 => tyX9
  | _ => fun _ => .int
def scl : List vw_C := [(RX0, TX0, 7), (RX1, TX1, 2), (RX2, TX2, 3), (RX6, TX6, 3), (RX4, TX4, 7), (RX5, TX5, 7), (RX6, TX6, 3), (RX7, TX7, 15), (RX8, TX8, 7), (RX9, TX9, 44)]
def nF (ci : Nat) : Nat := (fkT.getD ci []).length
def gws : List Cond := lw_tbl.filter goodWord
theorem gws_at {w : Cond} {i : Nat} (h : lw_tbl[i]? = some w) (hg : goodWord w = true) : w ∈ gws := List.mem_filter.mpr ⟨List.mem_of_getElem? h, hg⟩
theorem gws_good {w : Cond} (h : w ∈ gws) : (w.onTables && w.keeps) = true ∨ ∃ ty, w = .arrayClass ty := good_of_word (List.mem_filter.mp h).2
theorem look_mem {α : Type} : ∀ {l : List (Nat × α)} {i : Nat} {v : α}, l.lookup i = some v → (i, v) ∈ l
  | [], i, v, h => by cases h
  | (k, w) :: l, i, v, h => by
    rw [List.lookup_cons] at h
    cases hb : (i == k) with
    | true =>
      rw [hb] at h
      rw [eq_of_beq hb, ← Option.some.inj h]
      exact List.mem_cons_self
    | false =>
      rw [hb] at h
      exact List.mem_cons_of_mem _ (look_mem h)
def chk (i : Nat) (w : Cond) : Bool := decide (lw_tbl[i]? = some w) && goodWord w
theorem chk_ok {i : Nat} {w : Cond} (h : chk i w = true) : w ∈ gws := by
  unfold chk at h
  rw [Bool.and_eq_true, decide_eq_true_eq] at h
  exact gws_at h.1 h.2
def fpT_ : Unit := ()
def fpT : Nat → List (Nat × Nat) := fun o => match o with
  | 0 => [(11, 228), (16, 229), (20, 230), (23, 226), (27, 227), (31, 231), (35, 232)]
  | 1 => [(11, 102), (16, 103)]
  | 2 => [(11, 255), (16, 256), (30, 257)]
  | 4 => [(9, 146), (15, 145), (19, 147), (37, 148), (51, 150), (54, 149), (88, 151)]
  | 5 => [(11, 117), (16, 118), (19, 119), (23, 120), (26, 121), (30, 122), (37, 123)]
  | 6 => [(9, 272), (15, 273), (19, 274)]
  | 7 => [(9, 175), (15, 176), (18, 177), (21, 178), (24, 179), (27, 180), (30, 181), (33, 173), (37, 174), (59, 187), (63, 186), (70, 184), (73, 185), (86, 183), (89, 182)]
  | 8 => [(10, 492), (19, 493), (28, 494), (37, 495), (46, 496), (53, 498), (59, 497)]
  | 9 => [(13, 960), (17, 961), (20, 964), (23, 966), (26, 967), (29, 985), (32, 986), (35, 987), (38, 988), (41, 989), (44, 990), (47, 991), (50, 992), (53, 995), (56, 996), (59, 997), (62, 999), (66, 1000), (69, 1001), (72, 1002), (79, 962), (82, 968), (99, 963), (131, 965), (134, 976), (137, 975), (140, 977), (146, 979), (149, 978), (160, 980), (164, 982), (168, 983), (174, 981), (187, 969), (190, 970), (193, 971), (196, 972), (199, 973), (202, 974), (250, 984), (287, 993), (290, 994), (319, 998)]
  | 20 => [(9, 1378), (15, 1379)]
  | _ => []
def fp (o i : Nat) : Nat := ((fpT o).lookup i).getD 0
def flC (o : Nat) (q : Nat × Nat × Nat) : Bool := match Nat.blt q.2.1 10 with
  | true => chk (fp o q.1) (.fieldLink (RO o) q.1 (TF q.2.1 q.2.2).1 (TF q.2.1 q.2.2).2.1 (TF q.2.1 q.2.2).2.2.1) && Nat.blt q.2.2 (nF q.2.1)
  | false => Nat.beq q.2.1 20 && ((Nat.beq q.2.2 0 && chk (fp o q.1) (.fieldLink (RO o) q.1 "java/lang/String" "value" "[B")) || (Nat.beq q.2.2 1 && chk (fp o q.1) (.fieldLink (RO o) q.1 "java/lang/String" "coder" "B")))
set_option maxRecDepth 100000 in
theorem ft_chk : ∀ o, o < 32 → ∀ q ∈ ftlT o, flC o q = true := by decide +kernel
theorem ftlT_hi {o : Nat} (h : 32 ≤ o) : ftlT o = [] := by
  unfold ftlT
  split <;> first | rfl | omega
theorem ftl_ok {o i ci k : Nat} (h : ftl o i = some (ci, k)) : flC o (i, ci, k) = true := by
  have hm := look_mem h
  rcases Nat.lt_or_ge o 32 with q | q
  · exact ft_chk o q _ hm
  · rw [ftlT_hi q] at hm; cases hm
theorem ftl_own {o i ci k : Nat} (h : ftl o i = some (ci, k)) (hc : ci < 10) : Cond.fieldLink (RO o) i (TF ci k).1 (TF ci k).2.1 (TF ci k).2.2.1 ∈ gws ∧ k < nF ci := by
  have h1 := ftl_ok h
  unfold flC at h1
  dsimp only at h1
  rw [show Nat.blt ci 10 = true from Nat.ble_eq_true_of_le hc] at h1
  dsimp only at h1
  rw [Bool.and_eq_true] at h1
  exact ⟨chk_ok h1.1, Nat.le_of_ble_eq_true h1.2⟩
theorem ftl_str {o i ci k : Nat} (h : ftl o i = some (ci, k)) (hc : ¬ ci < 10) : ci = 20 ∧ ((k = 0 ∧ Cond.fieldLink (RO o) i "java/lang/String" "value" "[B" ∈ gws) ∨ (k = 1 ∧ Cond.fieldLink (RO o) i "java/lang/String" "coder" "B" ∈ gws)) := by
  have h1 := ftl_ok h
  unfold flC at h1
  dsimp only at h1
  rw [show Nat.blt ci 10 = false from by cases hb : Nat.blt ci 10 with | false => rfl | true => exact absurd (Nat.le_of_ble_eq_true hb) hc] at h1
  dsimp only at h1
  rw [Bool.and_eq_true, Bool.or_eq_true, Bool.and_eq_true, Bool.and_eq_true] at h1
  refine ⟨Nat.eq_of_beq_eq_true h1.1, h1.2.elim (fun q => Or.inl ⟨Nat.eq_of_beq_eq_true q.1, chk_ok q.2⟩) (fun q => Or.inr ⟨Nat.eq_of_beq_eq_true q.1, chk_ok q.2⟩)⟩
def lpT : Nat → List (Nat × Nat) := fun o => match o with
  | 0 => [(0, 233), (1, 235), (2, 237), (3, 239), (4, 241), (5, 243), (6, 245)]
  | 1 => [(0, 104), (1, 106)]
  | 2 => [(0, 258), (1, 260), (2, 262)]
  | 4 => [(0, 152), (1, 154), (2, 156), (3, 158), (4, 160), (5, 162), (6, 164)]
  | 5 => [(0, 124), (1, 126), (2, 128), (3, 130), (4, 132), (5, 134), (6, 136)]
  | 6 => [(0, 275), (1, 277), (2, 279)]
  | 7 => [(0, 188), (1, 190), (2, 192), (3, 194), (4, 196), (5, 198), (6, 200), (7, 202), (8, 204), (9, 206), (10, 208), (11, 210), (12, 212), (13, 214), (14, 216)]
  | 8 => [(0, 499), (1, 501), (2, 503), (3, 505), (4, 507), (5, 509), (6, 511)]
  | 9 => [(0, 1003), (1, 1005), (2, 1007), (3, 1009), (4, 1011), (5, 1013), (6, 1015), (7, 1017), (8, 1019), (9, 1021), (10, 1023), (11, 1025), (12, 1027), (13, 1029), (14, 1031), (15, 1033), (16, 1035), (17, 1037), (18, 1039), (19, 1041), (20, 1043), (21, 1045), (22, 1047), (23, 1049), (24, 1051), (25, 1053), (26, 1055), (27, 1057), (28, 1059), (29, 1061), (30, 1063), (31, 1065), (32, 1067), (33, 1069), (34, 1071), (35, 1073), (36, 1075), (37, 1077), (38, 1079), (39, 1081), (40, 1083), (41, 1085), (42, 1087), (43, 1089)]
  | _ => []
def lp (o i : Nat) : Nat := ((lpT o).lookup i).getD 0
set_option maxRecDepth 100000 in
theorem lay_chk : ∀ ci, ci < 10 → ∀ k, k < nF ci → chk (lp ci k) (u_lay (RO ci) (TF ci) k) = true := by decide +kernel
theorem lay_ok {ci : Nat} (h : ci < 10) : ∀ w ∈ u_ws (RO ci) (TF ci) (nF ci), w ∈ gws := by
  intro w hw
  obtain ⟨k, hk, rfl⟩ := List.mem_map.mp hw
  exact chk_ok (lay_chk ci h k (List.mem_range.mp hk))
/-- Kinds (3) is never made: no word tells of its kind, so its place in scl holds another class -/
theorem scl_at : ∀ ci, ci < 10 → ci ≠ 3 → scl[ci]? = some (RO ci, TF ci, nF ci)
  | 0, _, _ => rfl | 1, _, _ => rfl | 2, _, _ => rfl | 3, _, h => absurd rfl h | 4, _, _ => rfl | 5, _, _ => rfl | 6, _, _ => rfl | 7, _, _ => rfl | 8, _, _ => rfl | 9, _, _ => rfl
  | n + 10, h, _ => absurd h (by omega)
theorem ne3 {ci k : Nat} (h : k < nF ci) : ci ≠ 3 := fun z => by subst z; exact absurd h (Nat.not_lt_zero _)
theorem kd_ne13 (a : Nat) : kd a ≠ 13 := by
  rcases Nat.lt_or_ge a 62 with h | h
  · exact (show ∀ a, a < 62 → kd a ≠ 13 by decide +kernel) a h
  · unfold kd
    rw [List.getD_eq_getElem?_getD, List.getElem?_eq_none (show kdT.length ≤ a from h)]
    decide
theorem ty_ok : ∀ ci, ci < 10 → ∀ k, k < nF ci → parseFieldDescriptor (TF ci k).2.2.1 = some (tyF ci k) := by decide +kernel
theorem nm_ok : ∀ ci, ci < 10 → ∀ a, a < nF ci → ∀ b, b < nF ci → a ≠ b → (TF ci a).2.1 ≠ (TF ci b).2.1
  | 0, _ => nmX0 | 1, _ => nmX1 | 2, _ => nmX2 | 3, _ => nmX3 | 4, _ => nmX4 | 5, _ => nmX5 | 6, _ => nmX6 | 7, _ => nmX7 | 8, _ => nmX8 | 9, _ => nmX9
  | n + 10, h => absurd h (by omega)
def fkB (ci k : Nat) : Bool := match fk ci k with
  | 0 => !(TF ci k).2.2.2 && decide (tyF ci k = .int)
  | 1 => Nat.beq ci 9 && (!(TF ci k).2.2.2 && decide (tyF ci k = .long))
  | 2 => !(TF ci k).2.2.2 && decide (tyF ci k = .boolean)
  | _ => true
theorem fk_ty : ∀ ci, ci < 10 → ∀ k, k < nF ci → fkB ci k = true := by decide +kernel
def cpT : Nat → List (Nat × Nat) := fun o => match o with
  | 7 => [(58, 866)]
  | 9 => [(311, 1337)]
  | _ => []
def clT : Nat → List (Nat × Nat) := fun o => match o with
  | 8 => [(210, 871)]
  | 9 => [(89, 1097), (102, 1112), (104, 1113), (106, 1114), (108, 1119), (129, 1217), (152, 1148), (154, 1149), (156, 1150), (158, 1151), (225, 1204), (233, 1205), (276, 1258), (299, 1310), (315, 1342), (317, 1343), (322, 1327), (324, 1328), (326, 1369)]
  | _ => []
def cp (o i : Nat) : Nat := ((cpT o).lookup i).getD 0
def clp (o i : Nat) : Nat := ((clT o).lookup i).getD 0
def r32b (n : Int) : Bool := decide (-2147483648 ≤ n ∧ n < 2147483648)
def r64b (n : Int) : Bool := decide (-9223372036854775808 ≤ n ∧ n < 9223372036854775808)
theorem lc_chk : ∀ o, o < 32 → ∀ q ∈ lclT o, (chk (cp o q.1) (.constant (RO o) q.1 (Int32.ofInt q.2)) && r32b q.2) = true := by decide +kernel
theorem ll_chk : ∀ o, o < 32 → ∀ q ∈ lllT o, (chk (clp o q.1) (.constantLong (RO o) q.1 (Int64.ofInt q.2)) && r64b q.2) = true := by decide +kernel
theorem lclT_hi {o : Nat} (h : 32 ≤ o) : lclT o = [] := by
  unfold lclT
  split <;> first | rfl | omega
theorem lllT_hi {o : Nat} (h : 32 ≤ o) : lllT o = [] := by
  unfold lllT
  split <;> first | rfl | omega
theorem lcl_ok {o i : Nat} {n : Int} (h : lcl o i = some n) : Cond.constant (RO o) i (Int32.ofInt n) ∈ gws ∧ -2147483648 ≤ n ∧ n < 2147483648 := by
  have hm := look_mem h
  rcases Nat.lt_or_ge o 32 with q | q
  · have h1 := lc_chk o q _ hm
    rw [Bool.and_eq_true] at h1
    exact ⟨chk_ok h1.1, of_decide_eq_true h1.2⟩
  · rw [lclT_hi q] at hm; cases hm
theorem lll_ok {o i : Nat} {n : Int} (h : lll o i = some n) : Cond.constantLong (RO o) i (Int64.ofInt n) ∈ gws ∧ -9223372036854775808 ≤ n ∧ n < 9223372036854775808 := by
  have hm := look_mem h
  rcases Nat.lt_or_ge o 32 with q | q
  · have h1 := ll_chk o q _ hm
    rw [Bool.and_eq_true] at h1
    exact ⟨chk_ok h1.1, of_decide_eq_true h1.2⟩
  · rw [lllT_hi q] at hm; cases hm
theorem tb_in : (∀ w ∈ tables_1_1, w ∈ lw_tbl) ∧ (∀ w ∈ tables_1_2, w ∈ lw_tbl) ∧ (∀ w ∈ tables_1_3, w ∈ lw_tbl) ∧ (∀ w ∈ tables_1_4, w ∈ lw_tbl) ∧ (∀ w ∈ tables_1_5, w ∈ lw_tbl) ∧ (∀ w ∈ tables_1_6, w ∈ lw_tbl) := by
  refine ⟨?_, ?_, ?_, ?_, ?_, ?_⟩ <;> intro w hw <;> refine List.mem_append.mpr (Or.inr ?_) <;> unfold tables_1 <;> simp only [List.mem_append, hw, true_or, or_true]
theorem gws_1 {w : Cond} (i : Nat) (h : tables_1_1[i]? = some w) (hg : goodWord w = true) : w ∈ gws := List.mem_filter.mpr ⟨tb_in.1 _ (List.mem_of_getElem? h), hg⟩
theorem gws_2 {w : Cond} (i : Nat) (h : tables_1_2[i]? = some w) (hg : goodWord w = true) : w ∈ gws := List.mem_filter.mpr ⟨tb_in.2.1 _ (List.mem_of_getElem? h), hg⟩
theorem gws_3 {w : Cond} (i : Nat) (h : tables_1_3[i]? = some w) (hg : goodWord w = true) : w ∈ gws := List.mem_filter.mpr ⟨tb_in.2.2.1 _ (List.mem_of_getElem? h), hg⟩
theorem gws_4 {w : Cond} (i : Nat) (h : tables_1_4[i]? = some w) (hg : goodWord w = true) : w ∈ gws := List.mem_filter.mpr ⟨tb_in.2.2.2.1 _ (List.mem_of_getElem? h), hg⟩
theorem gws_5 {w : Cond} (i : Nat) (h : tables_1_5[i]? = some w) (hg : goodWord w = true) : w ∈ gws := List.mem_filter.mpr ⟨tb_in.2.2.2.2.1 _ (List.mem_of_getElem? h), hg⟩
theorem gws_6 {w : Cond} (i : Nat) (h : tables_1_6[i]? = some w) (hg : goodWord w = true) : w ∈ gws := List.mem_filter.mpr ⟨tb_in.2.2.2.2.2 _ (List.mem_of_getElem? h), hg⟩
/-- a good method: its words; whether it is static, how it answers, how many parameters -/
def gM (M : Md) : Prop := Cond.code M.2.1 M.2.2.1 M.2.2.2.1 M.2.2.2.2 ∈ gws ∧ M.2.1.cls = RO M.1 ∧ plainName M.2.1.cls = true ∧ M.2.2.2.1 ≤ 60 ∧ Cond.initialized (RO M.1) ∈ gws
def gR (M : Md) (rk : Nat) : Prop := rk = (match M.2.2.2.2 with | none => 0 | some .long => 2 | some _ => 1)
abbrev gN (M : Md) (n : Nat) : Prop := (parseMethodDescriptor M.2.1.desc).map (fun d => d.parameters.length) = some n
def gV (M : Md) : Prop := gM M ∧ Cond.instanceMethod M.2.1 ∈ gws ∧ Cond.selects (RO M.1) M.2.1 M.2.1 ∈ gws
def gT (M : Md) : Prop := gM M ∧ Cond.static M.2.1 ∈ gws
set_option maxRecDepth 100000
theorem gi_8 : Cond.initialized (RO 8) ∈ gws := gws_1 1 (by decide +kernel) (by decide +kernel)
theorem gi_0 : Cond.initialized (RO 0) ∈ gws := gws_1 6 (by decide +kernel) (by decide +kernel)
theorem gi_1 : Cond.initialized (RO 1) ∈ gws := gws_1 2 (by decide +kernel) (by decide +kernel)
theorem gi_2 : Cond.initialized (RO 2) ∈ gws := gws_1 7 (by decide +kernel) (by decide +kernel)
theorem gi_3 : Cond.initialized (RO 3) ∈ gws := gws_1 16 (by decide +kernel) (by decide +kernel)
theorem gi_4 : Cond.initialized (RO 4) ∈ gws := gws_1 4 (by decide +kernel) (by decide +kernel)
theorem gi_5 : Cond.initialized (RO 5) ∈ gws := gws_1 3 (by decide +kernel) (by decide +kernel)
theorem gi_6 : Cond.initialized (RO 6) ∈ gws := gws_1 8 (by decide +kernel) (by decide +kernel)
theorem gi_7 : Cond.initialized (RO 7) ∈ gws := gws_1 5 (by decide +kernel) (by decide +kernel)
theorem gi_9 : Cond.initialized (RO 9) ∈ gws := gws_1 15 (by decide +kernel) (by decide +kernel)
theorem gi_20 : Cond.initialized (RO 20) ∈ gws := gws_1 9 (by decide +kernel) (by decide +kernel)
theorem gi_21 : Cond.initialized (RO 21) ∈ gws := gws_1 10 (by decide +kernel) (by decide +kernel)
theorem gi_23 : Cond.initialized (RO 23) ∈ gws := gws_1 11 (by decide +kernel) (by decide +kernel)
theorem gmX0_answer : gM mX0_answer := ⟨gws_3 189 rfl (by decide +kernel), rfl, by decide +kernel, Nat.le_of_ble_eq_true rfl, gi_0⟩
theorem gvX0_answer : gV mX0_answer := ⟨gmX0_answer, gws_3 187 (by decide +kernel) (by decide +kernel), gws_3 188 (by decide +kernel) (by decide +kernel)⟩
theorem gmX0_seekLane : gM mX0_seekLane := ⟨gws_3 180 rfl (by decide +kernel), rfl, by decide +kernel, Nat.le_of_ble_eq_true rfl, gi_0⟩
theorem gvX0_seekLane : gV mX0_seekLane := ⟨gmX0_seekLane, gws_3 178 (by decide +kernel) (by decide +kernel), gws_3 179 (by decide +kernel) (by decide +kernel)⟩
theorem gmX0_seekLanes : gM mX0_seekLanes := ⟨gws_3 197 rfl (by decide +kernel), rfl, by decide +kernel, Nat.le_of_ble_eq_true rfl, gi_0⟩
theorem gvX0_seekLanes : gV mX0_seekLanes := ⟨gmX0_seekLanes, gws_3 195 (by decide +kernel) (by decide +kernel), gws_3 196 (by decide +kernel) (by decide +kernel)⟩
theorem gmX0_seekMinute : gM mX0_seekMinute := ⟨gws_3 223 rfl (by decide +kernel), rfl, by decide +kernel, Nat.le_of_ble_eq_true rfl, gi_0⟩
theorem gvX0_seekMinute : gV mX0_seekMinute := ⟨gmX0_seekMinute, gws_3 221 (by decide +kernel) (by decide +kernel), gws_3 222 (by decide +kernel) (by decide +kernel)⟩
theorem gmX0_seekBlame : gM mX0_seekBlame := ⟨gws_4 1 rfl (by decide +kernel), rfl, by decide +kernel, Nat.le_of_ble_eq_true rfl, gi_0⟩
theorem gvX0_seekBlame : gV mX0_seekBlame := ⟨gmX0_seekBlame, gws_3 239 (by decide +kernel) (by decide +kernel), gws_4 0 (by decide +kernel) (by decide +kernel)⟩
theorem gmX0_commonDivisor : gM mX0_commonDivisor := ⟨gws_4 86 rfl (by decide +kernel), rfl, by decide +kernel, Nat.le_of_ble_eq_true rfl, gi_0⟩
theorem gtX0_commonDivisor : gT mX0_commonDivisor := ⟨gmX0_commonDivisor, gws_4 85 (by decide +kernel) (by decide +kernel)⟩
theorem gmX0_fillLaneBadness : gM mX0_fillLaneBadness := ⟨gws_3 201 rfl (by decide +kernel), rfl, by decide +kernel, Nat.le_of_ble_eq_true rfl, gi_0⟩
theorem gvX0_fillLaneBadness : gV mX0_fillLaneBadness := ⟨gmX0_fillLaneBadness, gws_3 200 (by decide +kernel) (by decide +kernel), chk_ok (i := 23) (by decide +kernel)⟩
theorem gmX0_badnessOfWay : gM mX0_badnessOfWay := ⟨gws_3 207 rfl (by decide +kernel), rfl, by decide +kernel, Nat.le_of_ble_eq_true rfl, gi_0⟩
theorem gvX0_badnessOfWay : gV mX0_badnessOfWay := ⟨gmX0_badnessOfWay, gws_3 206 (by decide +kernel) (by decide +kernel), chk_ok (i := 24) (by decide +kernel)⟩
theorem gmX0_laneInWay : gM mX0_laneInWay := ⟨gws_3 211 rfl (by decide +kernel), rfl, by decide +kernel, Nat.le_of_ble_eq_true rfl, gi_0⟩
theorem gvX0_laneInWay : gV mX0_laneInWay := ⟨gmX0_laneInWay, gws_3 210 (by decide +kernel) (by decide +kernel), chk_ok (i := 25) (by decide +kernel)⟩
theorem gmX0_digits : gM mX0_digits := ⟨gws_3 215 rfl (by decide +kernel), rfl, by decide +kernel, Nat.le_of_ble_eq_true rfl, gi_0⟩
theorem gvX0_digits : gV mX0_digits := ⟨gmX0_digits, gws_3 214 (by decide +kernel) (by decide +kernel), chk_ok (i := 26) (by decide +kernel)⟩
theorem gmX1_size : gM mX1_size := ⟨gws_3 92 rfl (by decide +kernel), rfl, by decide +kernel, Nat.le_of_ble_eq_true rfl, gi_1⟩
theorem gvX1_size : gV mX1_size := ⟨gmX1_size, gws_3 90 (by decide +kernel) (by decide +kernel), gws_3 91 (by decide +kernel) (by decide +kernel)⟩
theorem gmX1_has : gM mX1_has := ⟨gws_2 214 rfl (by decide +kernel), rfl, by decide +kernel, Nat.le_of_ble_eq_true rfl, gi_1⟩
theorem gvX1_has : gV mX1_has := ⟨gmX1_has, gws_2 212 (by decide +kernel) (by decide +kernel), gws_2 213 (by decide +kernel) (by decide +kernel)⟩
theorem gmX1_tell : gM mX1_tell := ⟨gws_2 224 rfl (by decide +kernel), rfl, by decide +kernel, Nat.le_of_ble_eq_true rfl, gi_1⟩
theorem gvX1_tell : gV mX1_tell := ⟨gmX1_tell, gws_2 222 (by decide +kernel) (by decide +kernel), gws_2 223 (by decide +kernel) (by decide +kernel)⟩
theorem gmX1_put : gM mX1_put := ⟨gws_2 220 rfl (by decide +kernel), rfl, by decide +kernel, Nat.le_of_ble_eq_true rfl, gi_1⟩
theorem gvX1_put : gV mX1_put := ⟨gmX1_put, gws_2 218 (by decide +kernel) (by decide +kernel), gws_2 219 (by decide +kernel) (by decide +kernel)⟩
theorem gmX1_welcome : gM mX1_welcome := ⟨gws_2 233 rfl (by decide +kernel), rfl, by decide +kernel, Nat.le_of_ble_eq_true rfl, gi_1⟩
theorem gvX1_welcome : gV mX1_welcome := ⟨gmX1_welcome, gws_2 231 (by decide +kernel) (by decide +kernel), gws_2 232 (by decide +kernel) (by decide +kernel)⟩
theorem gmX1_sendAwayFrom : gM mX1_sendAwayFrom := ⟨gws_4 113 rfl (by decide +kernel), rfl, by decide +kernel, Nat.le_of_ble_eq_true rfl, gi_1⟩
theorem gvX1_sendAwayFrom : gV mX1_sendAwayFrom := ⟨gmX1_sendAwayFrom, gws_4 111 (by decide +kernel) (by decide +kernel), gws_4 112 (by decide +kernel) (by decide +kernel)⟩
theorem gmX1_isOne : gM mX1_isOne := ⟨gws_2 236 rfl (by decide +kernel), rfl, by decide +kernel, Nat.le_of_ble_eq_true rfl, gi_1⟩
theorem gtX1_isOne : gT mX1_isOne := ⟨gmX1_isOne, gws_2 235 (by decide +kernel) (by decide +kernel)⟩
theorem gmX2_isTaken : gM mX2_isTaken := ⟨gws_4 105 rfl (by decide +kernel), rfl, by decide +kernel, Nat.le_of_ble_eq_true rfl, gi_2⟩
theorem gvX2_isTaken : gV mX2_isTaken := ⟨gmX2_isTaken, gws_4 103 (by decide +kernel) (by decide +kernel), gws_4 104 (by decide +kernel) (by decide +kernel)⟩
theorem gmX2_take : gM mX2_take := ⟨gws_4 94 rfl (by decide +kernel), rfl, by decide +kernel, Nat.le_of_ble_eq_true rfl, gi_2⟩
theorem gvX2_take : gV mX2_take := ⟨gmX2_take, gws_4 92 (by decide +kernel) (by decide +kernel), gws_4 93 (by decide +kernel) (by decide +kernel)⟩
theorem gmX2_layBack : gM mX2_layBack := ⟨gws_4 109 rfl (by decide +kernel), rfl, by decide +kernel, Nat.le_of_ble_eq_true rfl, gi_2⟩
theorem gvX2_layBack : gV mX2_layBack := ⟨gmX2_layBack, gws_4 107 (by decide +kernel) (by decide +kernel), gws_4 108 (by decide +kernel) (by decide +kernel)⟩
theorem gmX3_minutes : gM mX3_minutes := ⟨gws_3 41 rfl (by decide +kernel), rfl, by decide +kernel, Nat.le_of_ble_eq_true rfl, gi_3⟩
theorem gtX3_minutes : gT mX3_minutes := ⟨gmX3_minutes, gws_3 40 (by decide +kernel) (by decide +kernel)⟩
theorem gmX3_fits : gM mX3_fits := ⟨gws_3 11 rfl (by decide +kernel), rfl, by decide +kernel, Nat.le_of_ble_eq_true rfl, gi_3⟩
theorem gtX3_fits : gT mX3_fits := ⟨gmX3_fits, gws_3 10 (by decide +kernel) (by decide +kernel)⟩
theorem gmX3_drawsForward : gM mX3_drawsForward := ⟨gws_3 29 rfl (by decide +kernel), rfl, by decide +kernel, Nat.le_of_ble_eq_true rfl, gi_3⟩
theorem gtX3_drawsForward : gT mX3_drawsForward := ⟨gmX3_drawsForward, gws_3 28 (by decide +kernel) (by decide +kernel)⟩
theorem gmX3_isLong : gM mX3_isLong := ⟨gws_3 14 rfl (by decide +kernel), rfl, by decide +kernel, Nat.le_of_ble_eq_true rfl, gi_3⟩
theorem gtX3_isLong : gT mX3_isLong := ⟨gmX3_isLong, gws_3 13 (by decide +kernel) (by decide +kernel)⟩
theorem gmX3_isUnder : gM mX3_isUnder := ⟨gws_4 159 rfl (by decide +kernel), rfl, by decide +kernel, Nat.le_of_ble_eq_true rfl, gi_3⟩
theorem gtX3_isUnder : gT mX3_isUnder := ⟨gmX3_isUnder, gws_4 158 (by decide +kernel) (by decide +kernel)⟩
theorem gmX4_size : gM mX4_size := ⟨gws_3 54 rfl (by decide +kernel), rfl, by decide +kernel, Nat.le_of_ble_eq_true rfl, gi_4⟩
theorem gvX4_size : gV mX4_size := ⟨gmX4_size, gws_3 52 (by decide +kernel) (by decide +kernel), gws_3 53 (by decide +kernel) (by decide +kernel)⟩
theorem gmX4_empty : gM mX4_empty := ⟨gws_2 183 rfl (by decide +kernel), rfl, by decide +kernel, Nat.le_of_ble_eq_true rfl, gi_4⟩
theorem gvX4_empty : gV mX4_empty := ⟨gmX4_empty, gws_2 181 (by decide +kernel) (by decide +kernel), gws_2 182 (by decide +kernel) (by decide +kernel)⟩
theorem gmX4_add : gM mX4_add := ⟨gws_2 30 rfl (by decide +kernel), rfl, by decide +kernel, Nat.le_of_ble_eq_true rfl, gi_4⟩
theorem gvX4_add : gV mX4_add := ⟨gmX4_add, gws_2 28 (by decide +kernel) (by decide +kernel), gws_2 29 (by decide +kernel) (by decide +kernel)⟩
theorem gmX4_lay : gM mX4_lay := ⟨gws_1 218 rfl (by decide +kernel), rfl, by decide +kernel, Nat.le_of_ble_eq_true rfl, gi_4⟩
theorem gvX4_lay : gV mX4_lay := ⟨gmX4_lay, gws_1 216 (by decide +kernel) (by decide +kernel), gws_1 217 (by decide +kernel) (by decide +kernel)⟩
theorem gmX4_readText : gM mX4_readText := ⟨gws_2 34 rfl (by decide +kernel), rfl, by decide +kernel, Nat.le_of_ble_eq_true rfl, gi_4⟩
theorem gvX4_readText : gV mX4_readText := ⟨gmX4_readText, gws_2 32 (by decide +kernel) (by decide +kernel), gws_2 33 (by decide +kernel) (by decide +kernel)⟩
theorem gmX4_readPart : gM mX4_readPart := ⟨gws_2 127 rfl (by decide +kernel), rfl, by decide +kernel, Nat.le_of_ble_eq_true rfl, gi_4⟩
theorem gvX4_readPart : gV mX4_readPart := ⟨gmX4_readPart, gws_2 126 (by decide +kernel) (by decide +kernel), chk_ok (i := 6) (by decide +kernel)⟩
theorem gmX4_readOr : gM mX4_readOr := ⟨gws_2 139 rfl (by decide +kernel), rfl, by decide +kernel, Nat.le_of_ble_eq_true rfl, gi_4⟩
theorem gvX4_readOr : gV mX4_readOr := ⟨gmX4_readOr, gws_2 138 (by decide +kernel) (by decide +kernel), chk_ok (i := 7) (by decide +kernel)⟩
theorem gmX4_readAnd : gM mX4_readAnd := ⟨gws_2 143 rfl (by decide +kernel), rfl, by decide +kernel, Nat.le_of_ble_eq_true rfl, gi_4⟩
theorem gvX4_readAnd : gV mX4_readAnd := ⟨gmX4_readAnd, gws_2 142 (by decide +kernel) (by decide +kernel), chk_ok (i := 8) (by decide +kernel)⟩
theorem gmX4_readNot : gM mX4_readNot := ⟨gws_2 147 rfl (by decide +kernel), rfl, by decide +kernel, Nat.le_of_ble_eq_true rfl, gi_4⟩
theorem gvX4_readNot : gV mX4_readNot := ⟨gmX4_readNot, gws_2 146 (by decide +kernel) (by decide +kernel), chk_ok (i := 9) (by decide +kernel)⟩
theorem gmX4_readComparison : gM mX4_readComparison := ⟨gws_2 151 rfl (by decide +kernel), rfl, by decide +kernel, Nat.le_of_ble_eq_true rfl, gi_4⟩
theorem gvX4_readComparison : gV mX4_readComparison := ⟨gmX4_readComparison, gws_2 150 (by decide +kernel) (by decide +kernel), chk_ok (i := 10) (by decide +kernel)⟩
theorem gmX4_readSum : gM mX4_readSum := ⟨gws_2 155 rfl (by decide +kernel), rfl, by decide +kernel, Nat.le_of_ble_eq_true rfl, gi_4⟩
theorem gvX4_readSum : gV mX4_readSum := ⟨gmX4_readSum, gws_2 154 (by decide +kernel) (by decide +kernel), chk_ok (i := 11) (by decide +kernel)⟩
theorem gmX4_readTerm : gM mX4_readTerm := ⟨gws_2 159 rfl (by decide +kernel), rfl, by decide +kernel, Nat.le_of_ble_eq_true rfl, gi_4⟩
theorem gvX4_readTerm : gV mX4_readTerm := ⟨gmX4_readTerm, gws_2 158 (by decide +kernel) (by decide +kernel), chk_ok (i := 12) (by decide +kernel)⟩
theorem gmX4_readOne : gM mX4_readOne := ⟨gws_2 163 rfl (by decide +kernel), rfl, by decide +kernel, Nat.le_of_ble_eq_true rfl, gi_4⟩
theorem gvX4_readOne : gV mX4_readOne := ⟨gmX4_readOne, gws_2 162 (by decide +kernel) (by decide +kernel), chk_ok (i := 13) (by decide +kernel)⟩
theorem gmX4_readNegated : gM mX4_readNegated := ⟨gws_2 171 rfl (by decide +kernel), rfl, by decide +kernel, Nat.le_of_ble_eq_true rfl, gi_4⟩
theorem gvX4_readNegated : gV mX4_readNegated := ⟨gmX4_readNegated, gws_2 170 (by decide +kernel) (by decide +kernel), chk_ok (i := 14) (by decide +kernel)⟩
theorem gmX4_readEnclosed : gM mX4_readEnclosed := ⟨gws_2 175 rfl (by decide +kernel), rfl, by decide +kernel, Nat.le_of_ble_eq_true rfl, gi_4⟩
theorem gvX4_readEnclosed : gV mX4_readEnclosed := ⟨gmX4_readEnclosed, gws_2 174 (by decide +kernel) (by decide +kernel), chk_ok (i := 15) (by decide +kernel)⟩
theorem gmX4_step : gM mX4_step := ⟨gws_2 42 rfl (by decide +kernel), rfl, by decide +kernel, Nat.le_of_ble_eq_true rfl, gi_4⟩
theorem gvX4_step : gV mX4_step := ⟨gmX4_step, gws_2 41 (by decide +kernel) (by decide +kernel), chk_ok (i := 0) (by decide +kernel)⟩
theorem gmX4_stepWord : gM mX4_stepWord := ⟨gws_2 50 rfl (by decide +kernel), rfl, by decide +kernel, Nat.le_of_ble_eq_true rfl, gi_4⟩
theorem gvX4_stepWord : gV mX4_stepWord := ⟨gmX4_stepWord, gws_2 49 (by decide +kernel) (by decide +kernel), chk_ok (i := 2) (by decide +kernel)⟩
theorem gmX4_isSpelled : gM mX4_isSpelled := ⟨gws_2 55 rfl (by decide +kernel), rfl, by decide +kernel, Nat.le_of_ble_eq_true rfl, gi_4⟩
theorem gvX4_isSpelled : gV mX4_isSpelled := ⟨gmX4_isSpelled, gws_2 54 (by decide +kernel) (by decide +kernel), chk_ok (i := 3) (by decide +kernel)⟩
theorem gmX4_stepNumeral : gM mX4_stepNumeral := ⟨gws_2 63 rfl (by decide +kernel), rfl, by decide +kernel, Nat.le_of_ble_eq_true rfl, gi_4⟩
theorem gvX4_stepNumeral : gV mX4_stepNumeral := ⟨gmX4_stepNumeral, gws_2 62 (by decide +kernel) (by decide +kernel), chk_ok (i := 5) (by decide +kernel)⟩
theorem gmX4_isLetter : gM mX4_isLetter := ⟨gws_2 46 rfl (by decide +kernel), rfl, by decide +kernel, Nat.le_of_ble_eq_true rfl, gi_4⟩
theorem gvX4_isLetter : gV mX4_isLetter := ⟨gmX4_isLetter, gws_2 45 (by decide +kernel) (by decide +kernel), chk_ok (i := 1) (by decide +kernel)⟩
theorem gmX4_isDigit : gM mX4_isDigit := ⟨gws_2 59 rfl (by decide +kernel), rfl, by decide +kernel, Nat.le_of_ble_eq_true rfl, gi_4⟩
theorem gvX4_isDigit : gV mX4_isDigit := ⟨gmX4_isDigit, gws_2 58 (by decide +kernel) (by decide +kernel), chk_ok (i := 4) (by decide +kernel)⟩
theorem gmX5_size : gM mX5_size := ⟨gws_3 63 rfl (by decide +kernel), rfl, by decide +kernel, Nat.le_of_ble_eq_true rfl, gi_5⟩
theorem gvX5_size : gV mX5_size := ⟨gmX5_size, gws_3 61 (by decide +kernel) (by decide +kernel), gws_3 62 (by decide +kernel) (by decide +kernel)⟩
theorem gmX5_isFull : gM mX5_isFull := ⟨gws_2 135 rfl (by decide +kernel), rfl, by decide +kernel, Nat.le_of_ble_eq_true rfl, gi_5⟩
theorem gvX5_isFull : gV mX5_isFull := ⟨gmX5_isFull, gws_2 133 (by decide +kernel) (by decide +kernel), gws_2 134 (by decide +kernel) (by decide +kernel)⟩
theorem gmX5_has : gM mX5_has := ⟨gws_3 71 rfl (by decide +kernel), rfl, by decide +kernel, Nat.le_of_ble_eq_true rfl, gi_5⟩
theorem gvX5_has : gV mX5_has := ⟨gmX5_has, gws_3 69 (by decide +kernel) (by decide +kernel), gws_3 70 (by decide +kernel) (by decide +kernel)⟩
theorem gmX5_chosen : gM mX5_chosen := ⟨gws_4 51 rfl (by decide +kernel), rfl, by decide +kernel, Nat.le_of_ble_eq_true rfl, gi_5⟩
theorem gvX5_chosen : gV mX5_chosen := ⟨gmX5_chosen, gws_4 49 (by decide +kernel) (by decide +kernel), gws_4 50 (by decide +kernel) (by decide +kernel)⟩
theorem gmX5_choose : gM mX5_choose := ⟨gws_3 75 rfl (by decide +kernel), rfl, by decide +kernel, Nat.le_of_ble_eq_true rfl, gi_5⟩
theorem gvX5_choose : gV mX5_choose := ⟨gmX5_choose, gws_3 73 (by decide +kernel) (by decide +kernel), gws_3 74 (by decide +kernel) (by decide +kernel)⟩
theorem gmX5_beginText : gM mX5_beginText := ⟨gws_2 38 rfl (by decide +kernel), rfl, by decide +kernel, Nat.le_of_ble_eq_true rfl, gi_5⟩
theorem gvX5_beginText : gV mX5_beginText := ⟨gmX5_beginText, gws_2 36 (by decide +kernel) (by decide +kernel), gws_2 37 (by decide +kernel) (by decide +kernel)⟩
theorem gmX5_beginPart : gM mX5_beginPart := ⟨gws_2 131 rfl (by decide +kernel), rfl, by decide +kernel, Nat.le_of_ble_eq_true rfl, gi_5⟩
theorem gvX5_beginPart : gV mX5_beginPart := ⟨gmX5_beginPart, gws_2 129 (by decide +kernel) (by decide +kernel), gws_2 130 (by decide +kernel) (by decide +kernel)⟩
theorem gmX5_write : gM mX5_write := ⟨gws_2 167 rfl (by decide +kernel), rfl, by decide +kernel, Nat.le_of_ble_eq_true rfl, gi_5⟩
theorem gvX5_write : gV mX5_write := ⟨gmX5_write, gws_2 165 (by decide +kernel) (by decide +kernel), gws_2 166 (by decide +kernel) (by decide +kernel)⟩
theorem gmX5_endText : gM mX5_endText := ⟨gws_2 179 rfl (by decide +kernel), rfl, by decide +kernel, Nat.le_of_ble_eq_true rfl, gi_5⟩
theorem gvX5_endText : gV mX5_endText := ⟨gmX5_endText, gws_2 177 (by decide +kernel) (by decide +kernel), gws_2 178 (by decide +kernel) (by decide +kernel)⟩
theorem gmX5_ask : gM mX5_ask := ⟨gws_3 22 rfl (by decide +kernel), rfl, by decide +kernel, Nat.le_of_ble_eq_true rfl, gi_5⟩
theorem gvX5_ask : gV mX5_ask := ⟨gmX5_ask, gws_3 20 (by decide +kernel) (by decide +kernel), gws_3 21 (by decide +kernel) (by decide +kernel)⟩
theorem gmX5_joined : gM mX5_joined := ⟨gws_3 26 rfl (by decide +kernel), rfl, by decide +kernel, Nat.le_of_ble_eq_true rfl, gi_5⟩
theorem gtX5_joined : gT mX5_joined := ⟨gmX5_joined, gws_3 25 (by decide +kernel) (by decide +kernel)⟩
theorem gmX6_size : gM mX6_size := ⟨gws_4 24 rfl (by decide +kernel), rfl, by decide +kernel, Nat.le_of_ble_eq_true rfl, gi_6⟩
theorem gvX6_size : gV mX6_size := ⟨gmX6_size, gws_4 22 (by decide +kernel) (by decide +kernel), gws_4 23 (by decide +kernel) (by decide +kernel)⟩
theorem gmX6_sort : gM mX6_sort := ⟨gws_4 135 rfl (by decide +kernel), rfl, by decide +kernel, Nat.le_of_ble_eq_true rfl, gi_6⟩
theorem gvX6_sort : gV mX6_sort := ⟨gmX6_sort, gws_4 133 (by decide +kernel) (by decide +kernel), gws_4 134 (by decide +kernel) (by decide +kernel)⟩
theorem gmX6_isMissing : gM mX6_isMissing := ⟨gws_4 20 rfl (by decide +kernel), rfl, by decide +kernel, Nat.le_of_ble_eq_true rfl, gi_6⟩
theorem gvX6_isMissing : gV mX6_isMissing := ⟨gmX6_isMissing, gws_4 18 (by decide +kernel) (by decide +kernel), gws_4 19 (by decide +kernel) (by decide +kernel)⟩
theorem gmX6_become : gM mX6_become := ⟨gws_4 59 rfl (by decide +kernel), rfl, by decide +kernel, Nat.le_of_ble_eq_true rfl, gi_6⟩
theorem gvX6_become : gV mX6_become := ⟨gmX6_become, gws_4 57 (by decide +kernel) (by decide +kernel), gws_4 58 (by decide +kernel) (by decide +kernel)⟩
theorem gmX6_hasRun : gM mX6_hasRun := ⟨gws_4 139 rfl (by decide +kernel), rfl, by decide +kernel, Nat.le_of_ble_eq_true rfl, gi_6⟩
theorem gvX6_hasRun : gV mX6_hasRun := ⟨gmX6_hasRun, gws_4 137 (by decide +kernel) (by decide +kernel), gws_4 138 (by decide +kernel) (by decide +kernel)⟩
theorem gmX6_item : gM mX6_item := ⟨gws_4 39 rfl (by decide +kernel), rfl, by decide +kernel, Nat.le_of_ble_eq_true rfl, gi_6⟩
theorem gvX6_item : gV mX6_item := ⟨gmX6_item, gws_4 37 (by decide +kernel) (by decide +kernel), gws_4 38 (by decide +kernel) (by decide +kernel)⟩
theorem gmX6_put : gM mX6_put := ⟨gws_4 65 rfl (by decide +kernel), rfl, by decide +kernel, Nat.le_of_ble_eq_true rfl, gi_6⟩
theorem gvX6_put : gV mX6_put := ⟨gmX6_put, gws_4 63 (by decide +kernel) (by decide +kernel), gws_4 64 (by decide +kernel) (by decide +kernel)⟩
theorem gmX6_putRun : gM mX6_putRun := ⟨gws_4 143 rfl (by decide +kernel), rfl, by decide +kernel, Nat.le_of_ble_eq_true rfl, gi_6⟩
theorem gvX6_putRun : gV mX6_putRun := ⟨gmX6_putRun, gws_4 141 (by decide +kernel) (by decide +kernel), gws_4 142 (by decide +kernel) (by decide +kernel)⟩
theorem gmX6_narrow : gM mX6_narrow := ⟨gws_4 69 rfl (by decide +kernel), rfl, by decide +kernel, Nat.le_of_ble_eq_true rfl, gi_6⟩
theorem gvX6_narrow : gV mX6_narrow := ⟨gmX6_narrow, gws_4 68 (by decide +kernel) (by decide +kernel), chk_ok (i := 30) (by decide +kernel)⟩
theorem gmX7_spread : gM mX7_spread := ⟨gws_3 84 rfl (by decide +kernel), rfl, by decide +kernel, Nat.le_of_ble_eq_true rfl, gi_7⟩
theorem gvX7_spread : gV mX7_spread := ⟨gmX7_spread, gws_3 82 (by decide +kernel) (by decide +kernel), gws_3 83 (by decide +kernel) (by decide +kernel)⟩
theorem gmX7_spreadBySeed : gM mX7_spreadBySeed := ⟨gws_4 77 rfl (by decide +kernel), rfl, by decide +kernel, Nat.le_of_ble_eq_true rfl, gi_7⟩
theorem gvX7_spreadBySeed : gV mX7_spreadBySeed := ⟨gmX7_spreadBySeed, gws_4 75 (by decide +kernel) (by decide +kernel), gws_4 76 (by decide +kernel) (by decide +kernel)⟩
theorem gmX7_leaveOut : gM mX7_leaveOut := ⟨gws_4 9 rfl (by decide +kernel), rfl, by decide +kernel, Nat.le_of_ble_eq_true rfl, gi_7⟩
theorem gvX7_leaveOut : gV mX7_leaveOut := ⟨gmX7_leaveOut, gws_4 7 (by decide +kernel) (by decide +kernel), gws_4 8 (by decide +kernel) (by decide +kernel)⟩
theorem gmX7_sendAllForward : gM mX7_sendAllForward := ⟨gws_3 233 rfl (by decide +kernel), rfl, by decide +kernel, Nat.le_of_ble_eq_true rfl, gi_7⟩
theorem gvX7_sendAllForward : gV mX7_sendAllForward := ⟨gmX7_sendAllForward, gws_3 231 (by decide +kernel) (by decide +kernel), gws_3 232 (by decide +kernel) (by decide +kernel)⟩
theorem gmX7_playAll : gM mX7_playAll := ⟨gws_3 100 rfl (by decide +kernel), rfl, by decide +kernel, Nat.le_of_ble_eq_true rfl, gi_7⟩
theorem gvX7_playAll : gV mX7_playAll := ⟨gmX7_playAll, gws_3 98 (by decide +kernel) (by decide +kernel), gws_3 99 (by decide +kernel) (by decide +kernel)⟩
theorem gmX7_playLane : gM mX7_playLane := ⟨gws_3 104 rfl (by decide +kernel), rfl, by decide +kernel, Nat.le_of_ble_eq_true rfl, gi_7⟩
theorem gvX7_playLane : gV mX7_playLane := ⟨gmX7_playLane, gws_3 102 (by decide +kernel) (by decide +kernel), gws_3 103 (by decide +kernel) (by decide +kernel)⟩
theorem gmX7_starts : gM mX7_starts := ⟨gws_3 137 rfl (by decide +kernel), rfl, by decide +kernel, Nat.le_of_ble_eq_true rfl, gi_7⟩
theorem gvX7_starts : gV mX7_starts := ⟨gmX7_starts, gws_3 135 (by decide +kernel) (by decide +kernel), gws_3 136 (by decide +kernel) (by decide +kernel)⟩
theorem gmX7_off : gM mX7_off := ⟨gws_3 143 rfl (by decide +kernel), rfl, by decide +kernel, Nat.le_of_ble_eq_true rfl, gi_7⟩
theorem gvX7_off : gV mX7_off := ⟨gmX7_off, gws_3 141 (by decide +kernel) (by decide +kernel), gws_3 142 (by decide +kernel) (by decide +kernel)⟩
theorem gmX7_place : gM mX7_place := ⟨gws_3 148 rfl (by decide +kernel), rfl, by decide +kernel, Nat.le_of_ble_eq_true rfl, gi_7⟩
theorem gvX7_place : gV mX7_place := ⟨gmX7_place, gws_3 146 (by decide +kernel) (by decide +kernel), gws_3 147 (by decide +kernel) (by decide +kernel)⟩
theorem gmX7_waited : gM mX7_waited := ⟨gws_3 133 rfl (by decide +kernel), rfl, by decide +kernel, Nat.le_of_ble_eq_true rfl, gi_7⟩
theorem gvX7_waited : gV mX7_waited := ⟨gmX7_waited, gws_3 131 (by decide +kernel) (by decide +kernel), gws_3 132 (by decide +kernel) (by decide +kernel)⟩
theorem gmX7_share : gM mX7_share := ⟨gws_4 5 rfl (by decide +kernel), rfl, by decide +kernel, Nat.le_of_ble_eq_true rfl, gi_7⟩
theorem gvX7_share : gV mX7_share := ⟨gmX7_share, gws_4 3 (by decide +kernel) (by decide +kernel), gws_4 4 (by decide +kernel) (by decide +kernel)⟩
theorem gmX7_inVain : gM mX7_inVain := ⟨gws_3 164 rfl (by decide +kernel), rfl, by decide +kernel, Nat.le_of_ble_eq_true rfl, gi_7⟩
theorem gvX7_inVain : gV mX7_inVain := ⟨gmX7_inVain, gws_3 162 (by decide +kernel) (by decide +kernel), gws_3 163 (by decide +kernel) (by decide +kernel)⟩
theorem gmX7_whoIsAt : gM mX7_whoIsAt := ⟨gws_3 156 rfl (by decide +kernel), rfl, by decide +kernel, Nat.le_of_ble_eq_true rfl, gi_7⟩
theorem gvX7_whoIsAt : gV mX7_whoIsAt := ⟨gmX7_whoIsAt, gws_3 154 (by decide +kernel) (by decide +kernel), gws_3 155 (by decide +kernel) (by decide +kernel)⟩
theorem gmX7_lastOff : gM mX7_lastOff := ⟨gws_3 168 rfl (by decide +kernel), rfl, by decide +kernel, Nat.le_of_ble_eq_true rfl, gi_7⟩
theorem gvX7_lastOff : gV mX7_lastOff := ⟨gmX7_lastOff, gws_3 166 (by decide +kernel) (by decide +kernel), gws_3 167 (by decide +kernel) (by decide +kernel)⟩
theorem gmX7_outOfOrder : gM mX7_outOfOrder := ⟨gws_3 172 rfl (by decide +kernel), rfl, by decide +kernel, Nat.le_of_ble_eq_true rfl, gi_7⟩
theorem gvX7_outOfOrder : gV mX7_outOfOrder := ⟨gmX7_outOfOrder, gws_3 170 (by decide +kernel) (by decide +kernel), gws_3 171 (by decide +kernel) (by decide +kernel)⟩
theorem gmX7_otherwise : gM mX7_otherwise := ⟨gws_4 35 rfl (by decide +kernel), rfl, by decide +kernel, Nat.le_of_ble_eq_true rfl, gi_7⟩
theorem gvX7_otherwise : gV mX7_otherwise := ⟨gmX7_otherwise, gws_4 33 (by decide +kernel) (by decide +kernel), gws_4 34 (by decide +kernel) (by decide +kernel)⟩
theorem gmX7_fits : gM mX7_fits := ⟨gws_3 7 rfl (by decide +kernel), rfl, by decide +kernel, Nat.le_of_ble_eq_true rfl, gi_7⟩
theorem gvX7_fits : gV mX7_fits := ⟨gmX7_fits, gws_3 5 (by decide +kernel) (by decide +kernel), gws_3 6 (by decide +kernel) (by decide +kernel)⟩
theorem gmX7_drawsForward : gM mX7_drawsForward := ⟨gws_3 18 rfl (by decide +kernel), rfl, by decide +kernel, Nat.le_of_ble_eq_true rfl, gi_7⟩
theorem gvX7_drawsForward : gV mX7_drawsForward := ⟨gmX7_drawsForward, gws_3 16 (by decide +kernel) (by decide +kernel), gws_3 17 (by decide +kernel) (by decide +kernel)⟩
theorem gmX7_takes : gM mX7_takes := ⟨gws_3 33 rfl (by decide +kernel), rfl, by decide +kernel, Nat.le_of_ble_eq_true rfl, gi_7⟩
theorem gvX7_takes : gV mX7_takes := ⟨gmX7_takes, gws_3 31 (by decide +kernel) (by decide +kernel), gws_3 32 (by decide +kernel) (by decide +kernel)⟩
theorem gmX7_minds : gM mX7_minds := ⟨gws_3 45 rfl (by decide +kernel), rfl, by decide +kernel, Nat.le_of_ble_eq_true rfl, gi_7⟩
theorem gvX7_minds : gV mX7_minds := ⟨gmX7_minds, gws_3 43 (by decide +kernel) (by decide +kernel), gws_3 44 (by decide +kernel) (by decide +kernel)⟩
theorem gmX7_clearLanes : gM mX7_clearLanes := ⟨gws_3 88 rfl (by decide +kernel), rfl, by decide +kernel, Nat.le_of_ble_eq_true rfl, gi_7⟩
theorem gvX7_clearLanes : gV mX7_clearLanes := ⟨gmX7_clearLanes, gws_3 87 (by decide +kernel) (by decide +kernel), chk_ok (i := 16) (by decide +kernel)⟩
theorem gmX7_join : gM mX7_join := ⟨gws_3 96 rfl (by decide +kernel), rfl, by decide +kernel, Nat.le_of_ble_eq_true rfl, gi_7⟩
theorem gvX7_join : gV mX7_join := ⟨gmX7_join, gws_3 95 (by decide +kernel) (by decide +kernel), chk_ok (i := 17) (by decide +kernel)⟩
theorem gmX7_comesBefore : gM mX7_comesBefore := ⟨gws_3 113 rfl (by decide +kernel), rfl, by decide +kernel, Nat.le_of_ble_eq_true rfl, gi_7⟩
theorem gvX7_comesBefore : gV mX7_comesBefore := ⟨gmX7_comesBefore, gws_3 112 (by decide +kernel) (by decide +kernel), chk_ok (i := 19) (by decide +kernel)⟩
theorem gmX7_lineUp : gM mX7_lineUp := ⟨gws_3 108 rfl (by decide +kernel), rfl, by decide +kernel, Nat.le_of_ble_eq_true rfl, gi_7⟩
theorem gvX7_lineUp : gV mX7_lineUp := ⟨gmX7_lineUp, gws_3 107 (by decide +kernel) (by decide +kernel), chk_ok (i := 18) (by decide +kernel)⟩
theorem gmX7_leave : gM mX7_leave := ⟨gws_3 117 rfl (by decide +kernel), rfl, by decide +kernel, Nat.le_of_ble_eq_true rfl, gi_7⟩
theorem gvX7_leave : gV mX7_leave := ⟨gmX7_leave, gws_3 116 (by decide +kernel) (by decide +kernel), chk_ok (i := 20) (by decide +kernel)⟩
theorem gmX7_driveUp : gM mX7_driveUp := ⟨gws_3 121 rfl (by decide +kernel), rfl, by decide +kernel, Nat.le_of_ble_eq_true rfl, gi_7⟩
theorem gvX7_driveUp : gV mX7_driveUp := ⟨gmX7_driveUp, gws_3 120 (by decide +kernel) (by decide +kernel), chk_ok (i := 21) (by decide +kernel)⟩
theorem gmX7_badness : gM mX7_badness := ⟨gws_3 128 rfl (by decide +kernel), rfl, by decide +kernel, Nat.le_of_ble_eq_true rfl, gi_7⟩
theorem gvX7_badness : gV mX7_badness := ⟨gmX7_badness, gws_3 127 (by decide +kernel) (by decide +kernel), chk_ok (i := 22) (by decide +kernel)⟩
theorem gmX7_within : gM mX7_within := ⟨gws_3 36 rfl (by decide +kernel), rfl, by decide +kernel, Nat.le_of_ble_eq_true rfl, gi_7⟩
theorem gtX7_within : gT mX7_within := ⟨gmX7_within, gws_3 35 (by decide +kernel) (by decide +kernel)⟩
theorem gmX8_set : gM mX8_set := ⟨gws_2 210 rfl (by decide +kernel), rfl, by decide +kernel, Nat.le_of_ble_eq_true rfl, gi_8⟩
theorem gvX8_set : gV mX8_set := ⟨gmX8_set, gws_2 208 (by decide +kernel) (by decide +kernel), gws_2 209 (by decide +kernel) (by decide +kernel)⟩
theorem gmX8_car : gM mX8_car := ⟨gws_2 229 rfl (by decide +kernel), rfl, by decide +kernel, Nat.le_of_ble_eq_true rfl, gi_8⟩
theorem gvX8_car : gV mX8_car := ⟨gmX8_car, gws_2 227 (by decide +kernel) (by decide +kernel), gws_2 228 (by decide +kernel) (by decide +kernel)⟩
theorem gmX8_told : gM mX8_told := ⟨gws_3 2 rfl (by decide +kernel), rfl, by decide +kernel, Nat.le_of_ble_eq_true rfl, gi_8⟩
theorem gvX8_told : gV mX8_told := ⟨gmX8_told, gws_3 0 (by decide +kernel) (by decide +kernel), gws_3 1 (by decide +kernel) (by decide +kernel)⟩
theorem gmX8_feed : gM mX8_feed := ⟨gws_3 49 rfl (by decide +kernel), rfl, by decide +kernel, Nat.le_of_ble_eq_true rfl, gi_8⟩
theorem gvX8_feed : gV mX8_feed := ⟨gmX8_feed, gws_3 47 (by decide +kernel) (by decide +kernel), gws_3 48 (by decide +kernel) (by decide +kernel)⟩
theorem gmX8_text : gM mX8_text := ⟨gws_3 58 rfl (by decide +kernel), rfl, by decide +kernel, Nat.le_of_ble_eq_true rfl, gi_8⟩
theorem gvX8_text : gV mX8_text := ⟨gmX8_text, gws_3 56 (by decide +kernel) (by decide +kernel), gws_3 57 (by decide +kernel) (by decide +kernel)⟩
theorem gmX8_force : gM mX8_force := ⟨gws_3 67 rfl (by decide +kernel), rfl, by decide +kernel, Nat.le_of_ble_eq_true rfl, gi_8⟩
theorem gvX8_force : gV mX8_force := ⟨gmX8_force, gws_3 65 (by decide +kernel) (by decide +kernel), gws_3 66 (by decide +kernel) (by decide +kernel)⟩
theorem gmX8_times : gM mX8_times := ⟨gws_3 80 rfl (by decide +kernel), rfl, by decide +kernel, Nat.le_of_ble_eq_true rfl, gi_8⟩
theorem gvX8_times : gV mX8_times := ⟨gmX8_times, gws_3 78 (by decide +kernel) (by decide +kernel), gws_3 79 (by decide +kernel) (by decide +kernel)⟩
theorem gmX8_pump : gM mX8_pump := ⟨gws_3 152 rfl (by decide +kernel), rfl, by decide +kernel, Nat.le_of_ble_eq_true rfl, gi_8⟩
theorem gvX8_pump : gV mX8_pump := ⟨gmX8_pump, gws_3 150 (by decide +kernel) (by decide +kernel), gws_3 151 (by decide +kernel) (by decide +kernel)⟩
theorem gmX8_all : gM mX8_all := ⟨gws_3 160 rfl (by decide +kernel), rfl, by decide +kernel, Nat.le_of_ble_eq_true rfl, gi_8⟩
theorem gvX8_all : gV mX8_all := ⟨gmX8_all, gws_3 158 (by decide +kernel) (by decide +kernel), gws_3 159 (by decide +kernel) (by decide +kernel)⟩
theorem gmX8_lane : gM mX8_lane := ⟨gws_3 176 rfl (by decide +kernel), rfl, by decide +kernel, Nat.le_of_ble_eq_true rfl, gi_8⟩
theorem gvX8_lane : gV mX8_lane := ⟨gmX8_lane, gws_3 174 (by decide +kernel) (by decide +kernel), gws_3 175 (by decide +kernel) (by decide +kernel)⟩
theorem gmX8_lanes : gM mX8_lanes := ⟨gws_3 193 rfl (by decide +kernel), rfl, by decide +kernel, Nat.le_of_ble_eq_true rfl, gi_8⟩
theorem gvX8_lanes : gV mX8_lanes := ⟨gmX8_lanes, gws_3 191 (by decide +kernel) (by decide +kernel), gws_3 192 (by decide +kernel) (by decide +kernel)⟩
theorem gmX8_when : gM mX8_when := ⟨gws_3 219 rfl (by decide +kernel), rfl, by decide +kernel, Nat.le_of_ble_eq_true rfl, gi_8⟩
theorem gvX8_when : gV mX8_when := ⟨gmX8_when, gws_3 217 (by decide +kernel) (by decide +kernel), gws_3 218 (by decide +kernel) (by decide +kernel)⟩
theorem gmX8_forward : gM mX8_forward := ⟨gws_3 229 rfl (by decide +kernel), rfl, by decide +kernel, Nat.le_of_ble_eq_true rfl, gi_8⟩
theorem gvX8_forward : gV mX8_forward := ⟨gmX8_forward, gws_3 227 (by decide +kernel) (by decide +kernel), gws_3 228 (by decide +kernel) (by decide +kernel)⟩
theorem gmX8_blame : gM mX8_blame := ⟨gws_3 237 rfl (by decide +kernel), rfl, by decide +kernel, Nat.le_of_ble_eq_true rfl, gi_8⟩
theorem gvX8_blame : gV mX8_blame := ⟨gmX8_blame, gws_3 235 (by decide +kernel) (by decide +kernel), gws_3 236 (by decide +kernel) (by decide +kernel)⟩
theorem gmX8_tells : gM mX8_tells := ⟨gws_4 13 rfl (by decide +kernel), rfl, by decide +kernel, Nat.le_of_ble_eq_true rfl, gi_8⟩
theorem gvX8_tells : gV mX8_tells := ⟨gmX8_tells, gws_4 11 (by decide +kernel) (by decide +kernel), gws_4 12 (by decide +kernel) (by decide +kernel)⟩
theorem gmX8_film : gM mX8_film := ⟨gws_4 55 rfl (by decide +kernel), rfl, by decide +kernel, Nat.le_of_ble_eq_true rfl, gi_8⟩
theorem gvX8_film : gV mX8_film := ⟨gmX8_film, gws_4 53 (by decide +kernel) (by decide +kernel), gws_4 54 (by decide +kernel) (by decide +kernel)⟩
theorem gmX8_drawn : gM mX8_drawn := ⟨gws_4 73 rfl (by decide +kernel), rfl, by decide +kernel, Nat.le_of_ble_eq_true rfl, gi_8⟩
theorem gvX8_drawn : gV mX8_drawn := ⟨gmX8_drawn, gws_4 71 (by decide +kernel) (by decide +kernel), gws_4 72 (by decide +kernel) (by decide +kernel)⟩
theorem gmX8_chance : gM mX8_chance := ⟨gws_4 82 rfl (by decide +kernel), rfl, by decide +kernel, Nat.le_of_ble_eq_true rfl, gi_8⟩
theorem gvX8_chance : gV mX8_chance := ⟨gmX8_chance, gws_4 80 (by decide +kernel) (by decide +kernel), gws_4 81 (by decide +kernel) (by decide +kernel)⟩
theorem gmX8_image : gM mX8_image := ⟨gws_4 90 rfl (by decide +kernel), rfl, by decide +kernel, Nat.le_of_ble_eq_true rfl, gi_8⟩
theorem gvX8_image : gV mX8_image := ⟨gmX8_image, gws_4 88 (by decide +kernel) (by decide +kernel), gws_4 89 (by decide +kernel) (by decide +kernel)⟩
theorem gmX8_back : gM mX8_back := ⟨gws_4 101 rfl (by decide +kernel), rfl, by decide +kernel, Nat.le_of_ble_eq_true rfl, gi_8⟩
theorem gvX8_back : gV mX8_back := ⟨gmX8_back, gws_4 99 (by decide +kernel) (by decide +kernel), gws_4 100 (by decide +kernel) (by decide +kernel)⟩
theorem gmX8_count : gM mX8_count := ⟨gws_4 119 rfl (by decide +kernel), rfl, by decide +kernel, Nat.le_of_ble_eq_true rfl, gi_8⟩
theorem gvX8_count : gV mX8_count := ⟨gmX8_count, gws_4 117 (by decide +kernel) (by decide +kernel), gws_4 118 (by decide +kernel) (by decide +kernel)⟩
theorem gmX8_sheet : gM mX8_sheet := ⟨gws_4 123 rfl (by decide +kernel), rfl, by decide +kernel, Nat.le_of_ble_eq_true rfl, gi_8⟩
theorem gvX8_sheet : gV mX8_sheet := ⟨gmX8_sheet, gws_4 121 (by decide +kernel) (by decide +kernel), gws_4 122 (by decide +kernel) (by decide +kernel)⟩
theorem gmX8_cell : gM mX8_cell := ⟨gws_4 127 rfl (by decide +kernel), rfl, by decide +kernel, Nat.le_of_ble_eq_true rfl, gi_8⟩
theorem gvX8_cell : gV mX8_cell := ⟨gmX8_cell, gws_4 125 (by decide +kernel) (by decide +kernel), gws_4 126 (by decide +kernel) (by decide +kernel)⟩
theorem gmX8_copy : gM mX8_copy := ⟨gws_4 131 rfl (by decide +kernel), rfl, by decide +kernel, Nat.le_of_ble_eq_true rfl, gi_8⟩
theorem gvX8_copy : gV mX8_copy := ⟨gmX8_copy, gws_4 129 (by decide +kernel) (by decide +kernel), gws_4 130 (by decide +kernel) (by decide +kernel)⟩
theorem gmX8_cars : gM mX8_cars := ⟨gws_4 151 rfl (by decide +kernel), rfl, by decide +kernel, Nat.le_of_ble_eq_true rfl, gi_8⟩
theorem gvX8_cars : gV mX8_cars := ⟨gmX8_cars, gws_4 149 (by decide +kernel) (by decide +kernel), gws_4 150 (by decide +kernel) (by decide +kernel)⟩
theorem gmX8_taken : gM mX8_taken := ⟨gws_4 156 rfl (by decide +kernel), rfl, by decide +kernel, Nat.le_of_ble_eq_true rfl, gi_8⟩
theorem gvX8_taken : gV mX8_taken := ⟨gmX8_taken, gws_4 154 (by decide +kernel) (by decide +kernel), gws_4 155 (by decide +kernel) (by decide +kernel)⟩
theorem gmX8_isSheet : gM mX8_isSheet := ⟨gws_4 16 rfl (by decide +kernel), rfl, by decide +kernel, Nat.le_of_ble_eq_true rfl, gi_8⟩
theorem gtX8_isSheet : gT mX8_isSheet := ⟨gmX8_isSheet, gws_4 15 (by decide +kernel) (by decide +kernel)⟩
theorem gmX8_otherwiseNow : gM mX8_otherwiseNow := ⟨gws_4 43 rfl (by decide +kernel), rfl, by decide +kernel, Nat.le_of_ble_eq_true rfl, gi_8⟩
theorem gvX8_otherwiseNow : gV mX8_otherwiseNow := ⟨gmX8_otherwiseNow, gws_4 42 (by decide +kernel) (by decide +kernel), chk_ok (i := 28) (by decide +kernel)⟩
theorem gmX8_likelyTexts : gM mX8_likelyTexts := ⟨gws_4 47 rfl (by decide +kernel), rfl, by decide +kernel, Nat.le_of_ble_eq_true rfl, gi_8⟩
theorem gvX8_likelyTexts : gV mX8_likelyTexts := ⟨gmX8_likelyTexts, gws_4 46 (by decide +kernel) (by decide +kernel), chk_ok (i := 29) (by decide +kernel)⟩
theorem gmX8_likely : gM mX8_likely := ⟨gws_4 29 rfl (by decide +kernel), rfl, by decide +kernel, Nat.le_of_ble_eq_true rfl, gi_8⟩
theorem gvX8_likely : gV mX8_likely := ⟨gmX8_likely, gws_4 28 (by decide +kernel) (by decide +kernel), chk_ok (i := 27) (by decide +kernel)⟩
theorem gmX9_in : gM mX9_in := ⟨gws_5 72 rfl (by decide +kernel), rfl, by decide +kernel, Nat.le_of_ble_eq_true rfl, gi_9⟩
theorem gtX9_in : gT mX9_in := ⟨gmX9_in, gws_5 71 (by decide +kernel) (by decide +kernel)⟩
theorem gmX9_within : gM mX9_within := ⟨gws_5 180 rfl (by decide +kernel), rfl, by decide +kernel, Nat.le_of_ble_eq_true rfl, gi_9⟩
theorem gtX9_within : gT mX9_within := ⟨gmX9_within, gws_5 179 (by decide +kernel) (by decide +kernel)⟩
theorem gmX9_spell : gM mX9_spell := ⟨gws_4 171 rfl (by decide +kernel), rfl, by decide +kernel, Nat.le_of_ble_eq_true rfl, gi_9⟩
theorem gvX9_spell : gV mX9_spell := ⟨gmX9_spell, gws_4 170 (by decide +kernel) (by decide +kernel), chk_ok (i := 31) (by decide +kernel)⟩
theorem gmX9_isCar : gM mX9_isCar := ⟨gws_5 76 rfl (by decide +kernel), rfl, by decide +kernel, Nat.le_of_ble_eq_true rfl, gi_9⟩
theorem gvX9_isCar : gV mX9_isCar := ⟨gmX9_isCar, gws_5 75 (by decide +kernel) (by decide +kernel), chk_ok (i := 32) (by decide +kernel)⟩
theorem gmX9_mostOf : gM mX9_mostOf := ⟨gws_5 79 rfl (by decide +kernel), rfl, by decide +kernel, Nat.le_of_ble_eq_true rfl, gi_9⟩
theorem gtX9_mostOf : gT mX9_mostOf := ⟨gmX9_mostOf, gws_5 78 (by decide +kernel) (by decide +kernel)⟩
theorem gmX9_set : gM mX9_set := ⟨gws_5 68 rfl (by decide +kernel), rfl, by decide +kernel, Nat.le_of_ble_eq_true rfl, gi_9⟩
theorem gvX9_set : gV mX9_set := ⟨gmX9_set, gws_5 66 (by decide +kernel) (by decide +kernel), gws_5 67 (by decide +kernel) (by decide +kernel)⟩
theorem gmX9_lays : gM mX9_lays := ⟨gws_6 50 rfl (by decide +kernel), rfl, by decide +kernel, Nat.le_of_ble_eq_true rfl, gi_9⟩
theorem gvX9_lays : gV mX9_lays := ⟨gmX9_lays, gws_6 49 (by decide +kernel) (by decide +kernel), chk_ok (i := 66) (by decide +kernel)⟩
theorem gmX9_car : gM mX9_car := ⟨gws_5 83 rfl (by decide +kernel), rfl, by decide +kernel, Nat.le_of_ble_eq_true rfl, gi_9⟩
theorem gvX9_car : gV mX9_car := ⟨gmX9_car, gws_5 81 (by decide +kernel) (by decide +kernel), gws_5 82 (by decide +kernel) (by decide +kernel)⟩
theorem gmX9_told : gM mX9_told := ⟨gws_5 90 rfl (by decide +kernel), rfl, by decide +kernel, Nat.le_of_ble_eq_true rfl, gi_9⟩
theorem gvX9_told : gV mX9_told := ⟨gmX9_told, gws_5 88 (by decide +kernel) (by decide +kernel), gws_5 89 (by decide +kernel) (by decide +kernel)⟩
theorem gmX9_feed : gM mX9_feed := ⟨gws_5 188 rfl (by decide +kernel), rfl, by decide +kernel, Nat.le_of_ble_eq_true rfl, gi_9⟩
theorem gvX9_feed : gV mX9_feed := ⟨gmX9_feed, gws_5 186 (by decide +kernel) (by decide +kernel), gws_5 187 (by decide +kernel) (by decide +kernel)⟩
theorem gmX9_byteAt : gM mX9_byteAt := ⟨gws_5 119 rfl (by decide +kernel), rfl, by decide +kernel, Nat.le_of_ble_eq_true rfl, gi_9⟩
theorem gvX9_byteAt : gV mX9_byteAt := ⟨gmX9_byteAt, gws_5 118 (by decide +kernel) (by decide +kernel), chk_ok (i := 39) (by decide +kernel)⟩
theorem gmX9_next : gM mX9_next := ⟨gws_5 115 rfl (by decide +kernel), rfl, by decide +kernel, Nat.le_of_ble_eq_true rfl, gi_9⟩
theorem gvX9_next : gV mX9_next := ⟨gmX9_next, gws_5 114 (by decide +kernel) (by decide +kernel), chk_ok (i := 38) (by decide +kernel)⟩
theorem gmX9_fail : gM mX9_fail := ⟨gws_5 139 rfl (by decide +kernel), rfl, by decide +kernel, Nat.le_of_ble_eq_true rfl, gi_9⟩
theorem gvX9_fail : gV mX9_fail := ⟨gmX9_fail, gws_5 138 (by decide +kernel) (by decide +kernel), chk_ok (i := 43) (by decide +kernel)⟩
theorem gmX9_isLetter : gM mX9_isLetter := ⟨gws_5 131 rfl (by decide +kernel), rfl, by decide +kernel, Nat.le_of_ble_eq_true rfl, gi_9⟩
theorem gvX9_isLetter : gV mX9_isLetter := ⟨gmX9_isLetter, gws_5 130 (by decide +kernel) (by decide +kernel), chk_ok (i := 41) (by decide +kernel)⟩
theorem gmX9_isWord : gM mX9_isWord := ⟨gws_5 127 rfl (by decide +kernel), rfl, by decide +kernel, Nat.le_of_ble_eq_true rfl, gi_9⟩
theorem gvX9_isWord : gV mX9_isWord := ⟨gmX9_isWord, gws_5 126 (by decide +kernel) (by decide +kernel), chk_ok (i := 40) (by decide +kernel)⟩
theorem gmX9_isSign : gM mX9_isSign := ⟨gws_5 171 rfl (by decide +kernel), rfl, by decide +kernel, Nat.le_of_ble_eq_true rfl, gi_9⟩
theorem gvX9_isSign : gV mX9_isSign := ⟨gmX9_isSign, gws_5 170 (by decide +kernel) (by decide +kernel), chk_ok (i := 51) (by decide +kernel)⟩
theorem gmX9_opens : gM mX9_opens := ⟨gws_5 155 rfl (by decide +kernel), rfl, by decide +kernel, Nat.le_of_ble_eq_true rfl, gi_9⟩
theorem gvX9_opens : gV mX9_opens := ⟨gmX9_opens, gws_5 154 (by decide +kernel) (by decide +kernel), chk_ok (i := 47) (by decide +kernel)⟩
theorem gmX9_name : gM mX9_name := ⟨gws_5 175 rfl (by decide +kernel), rfl, by decide +kernel, Nat.le_of_ble_eq_true rfl, gi_9⟩
theorem gvX9_name : gV mX9_name := ⟨gmX9_name, gws_5 174 (by decide +kernel) (by decide +kernel), chk_ok (i := 52) (by decide +kernel)⟩
theorem gmX9_atom : gM mX9_atom := ⟨gws_5 167 rfl (by decide +kernel), rfl, by decide +kernel, Nat.le_of_ble_eq_true rfl, gi_9⟩
theorem gvX9_atom : gV mX9_atom := ⟨gmX9_atom, gws_5 166 (by decide +kernel) (by decide +kernel), chk_ok (i := 50) (by decide +kernel)⟩
theorem gmX9_term : gM mX9_term := ⟨gws_5 163 rfl (by decide +kernel), rfl, by decide +kernel, Nat.le_of_ble_eq_true rfl, gi_9⟩
theorem gvX9_term : gV mX9_term := ⟨gmX9_term, gws_5 162 (by decide +kernel) (by decide +kernel), chk_ok (i := 49) (by decide +kernel)⟩
theorem gmX9_added : gM mX9_added := ⟨gws_5 159 rfl (by decide +kernel), rfl, by decide +kernel, Nat.le_of_ble_eq_true rfl, gi_9⟩
theorem gvX9_added : gV mX9_added := ⟨gmX9_added, gws_5 158 (by decide +kernel) (by decide +kernel), chk_ok (i := 48) (by decide +kernel)⟩
theorem gmX9_not : gM mX9_not := ⟨gws_5 151 rfl (by decide +kernel), rfl, by decide +kernel, Nat.le_of_ble_eq_true rfl, gi_9⟩
theorem gvX9_not : gV mX9_not := ⟨gmX9_not, gws_5 150 (by decide +kernel) (by decide +kernel), chk_ok (i := 46) (by decide +kernel)⟩
theorem gmX9_both : gM mX9_both := ⟨gws_5 147 rfl (by decide +kernel), rfl, by decide +kernel, Nat.le_of_ble_eq_true rfl, gi_9⟩
theorem gvX9_both : gV mX9_both := ⟨gmX9_both, gws_5 146 (by decide +kernel) (by decide +kernel), chk_ok (i := 45) (by decide +kernel)⟩
theorem gmX9_either : gM mX9_either := ⟨gws_5 143 rfl (by decide +kernel), rfl, by decide +kernel, Nat.le_of_ble_eq_true rfl, gi_9⟩
theorem gvX9_either : gV mX9_either := ⟨gmX9_either, gws_5 142 (by decide +kernel) (by decide +kernel), chk_ok (i := 44) (by decide +kernel)⟩
theorem gmX9_part : gM mX9_part := ⟨gws_5 135 rfl (by decide +kernel), rfl, by decide +kernel, Nat.le_of_ble_eq_true rfl, gi_9⟩
theorem gvX9_part : gV mX9_part := ⟨gmX9_part, gws_5 134 (by decide +kernel) (by decide +kernel), chk_ok (i := 42) (by decide +kernel)⟩
theorem gmX9_read : gM mX9_read := ⟨gws_5 111 rfl (by decide +kernel), rfl, by decide +kernel, Nat.le_of_ble_eq_true rfl, gi_9⟩
theorem gvX9_read : gV mX9_read := ⟨gmX9_read, gws_5 110 (by decide +kernel) (by decide +kernel), chk_ok (i := 37) (by decide +kernel)⟩
theorem gmX9_text : gM mX9_text := ⟨gws_5 193 rfl (by decide +kernel), rfl, by decide +kernel, Nat.le_of_ble_eq_true rfl, gi_9⟩
theorem gvX9_text : gV mX9_text := ⟨gmX9_text, gws_5 191 (by decide +kernel) (by decide +kernel), gws_5 192 (by decide +kernel) (by decide +kernel)⟩
theorem gmX9_force : gM mX9_force := ⟨gws_5 197 rfl (by decide +kernel), rfl, by decide +kernel, Nat.le_of_ble_eq_true rfl, gi_9⟩
theorem gvX9_force : gV mX9_force := ⟨gmX9_force, gws_5 195 (by decide +kernel) (by decide +kernel), gws_5 196 (by decide +kernel) (by decide +kernel)⟩
theorem gmX9_asks : gM mX9_asks := ⟨gws_5 107 rfl (by decide +kernel), rfl, by decide +kernel, Nat.le_of_ble_eq_true rfl, gi_9⟩
theorem gvX9_asks : gV mX9_asks := ⟨gmX9_asks, gws_5 106 (by decide +kernel) (by decide +kernel), chk_ok (i := 36) (by decide +kernel)⟩
theorem gmX9_fits : gM mX9_fits := ⟨gws_5 95 rfl (by decide +kernel), rfl, by decide +kernel, Nat.le_of_ble_eq_true rfl, gi_9⟩
theorem gvX9_fits : gV mX9_fits := ⟨gmX9_fits, gws_5 94 (by decide +kernel) (by decide +kernel), chk_ok (i := 33) (by decide +kernel)⟩
theorem gmX9_isLong : gM mX9_isLong := ⟨gws_5 99 rfl (by decide +kernel), rfl, by decide +kernel, Nat.le_of_ble_eq_true rfl, gi_9⟩
theorem gvX9_isLong : gV mX9_isLong := ⟨gmX9_isLong, gws_5 98 (by decide +kernel) (by decide +kernel), chk_ok (i := 34) (by decide +kernel)⟩
theorem gmX9_draws : gM mX9_draws := ⟨gws_5 103 rfl (by decide +kernel), rfl, by decide +kernel, Nat.le_of_ble_eq_true rfl, gi_9⟩
theorem gvX9_draws : gV mX9_draws := ⟨gmX9_draws, gws_5 102 (by decide +kernel) (by decide +kernel), chk_ok (i := 35) (by decide +kernel)⟩
theorem gmX9_takesOf : gM mX9_takesOf := ⟨gws_5 184 rfl (by decide +kernel), rfl, by decide +kernel, Nat.le_of_ble_eq_true rfl, gi_9⟩
theorem gvX9_takesOf : gV mX9_takesOf := ⟨gmX9_takesOf, gws_5 183 (by decide +kernel) (by decide +kernel), chk_ok (i := 53) (by decide +kernel)⟩
theorem gmX9_nextOf : gM mX9_nextOf := ⟨gws_5 217 rfl (by decide +kernel), rfl, by decide +kernel, Nat.le_of_ble_eq_true rfl, gi_9⟩
theorem gvX9_nextOf : gV mX9_nextOf := ⟨gmX9_nextOf, gws_5 216 (by decide +kernel) (by decide +kernel), chk_ok (i := 57) (by decide +kernel)⟩
theorem gmX9_begins : gM mX9_begins := ⟨gws_5 221 rfl (by decide +kernel), rfl, by decide +kernel, Nat.le_of_ble_eq_true rfl, gi_9⟩
theorem gvX9_begins : gV mX9_begins := ⟨gmX9_begins, gws_5 220 (by decide +kernel) (by decide +kernel), chk_ok (i := 58) (by decide +kernel)⟩
theorem gmX9_goes : gM mX9_goes := ⟨gws_5 213 rfl (by decide +kernel), rfl, by decide +kernel, Nat.le_of_ble_eq_true rfl, gi_9⟩
theorem gvX9_goes : gV mX9_goes := ⟨gmX9_goes, gws_5 212 (by decide +kernel) (by decide +kernel), chk_ok (i := 56) (by decide +kernel)⟩
theorem gmX9_setOf : gM mX9_setOf := ⟨gws_5 209 rfl (by decide +kernel), rfl, by decide +kernel, Nat.le_of_ble_eq_true rfl, gi_9⟩
theorem gvX9_setOf : gV mX9_setOf := ⟨gmX9_setOf, gws_5 208 (by decide +kernel) (by decide +kernel), chk_ok (i := 55) (by decide +kernel)⟩
theorem gmX9_goesAll : gM mX9_goesAll := ⟨gws_5 205 rfl (by decide +kernel), rfl, by decide +kernel, Nat.le_of_ble_eq_true rfl, gi_9⟩
theorem gvX9_goesAll : gV mX9_goesAll := ⟨gmX9_goesAll, gws_5 204 (by decide +kernel) (by decide +kernel), chk_ok (i := 54) (by decide +kernel)⟩
theorem gmX9_waitedOf : gM mX9_waitedOf := ⟨gws_5 225 rfl (by decide +kernel), rfl, by decide +kernel, Nat.le_of_ble_eq_true rfl, gi_9⟩
theorem gvX9_waitedOf : gV mX9_waitedOf := ⟨gmX9_waitedOf, gws_5 224 (by decide +kernel) (by decide +kernel), chk_ok (i := 59) (by decide +kernel)⟩
theorem gmX9_badOf : gM mX9_badOf := ⟨gws_6 2 rfl (by decide +kernel), rfl, by decide +kernel, Nat.le_of_ble_eq_true rfl, gi_9⟩
theorem gvX9_badOf : gV mX9_badOf := ⟨gmX9_badOf, gws_6 1 (by decide +kernel) (by decide +kernel), chk_ok (i := 61) (by decide +kernel)⟩
theorem gmX9_badness : gM mX9_badness := ⟨gws_5 238 rfl (by decide +kernel), rfl, by decide +kernel, Nat.le_of_ble_eq_true rfl, gi_9⟩
theorem gvX9_badness : gV mX9_badness := ⟨gmX9_badness, gws_5 237 (by decide +kernel) (by decide +kernel), chk_ok (i := 60) (by decide +kernel)⟩
theorem gmX9_times : gM mX9_times := ⟨gws_5 201 rfl (by decide +kernel), rfl, by decide +kernel, Nat.le_of_ble_eq_true rfl, gi_9⟩
theorem gvX9_times : gV mX9_times := ⟨gmX9_times, gws_5 199 (by decide +kernel) (by decide +kernel), gws_5 200 (by decide +kernel) (by decide +kernel)⟩
theorem gmX9_pump : gM mX9_pump := ⟨gws_5 229 rfl (by decide +kernel), rfl, by decide +kernel, Nat.le_of_ble_eq_true rfl, gi_9⟩
theorem gvX9_pump : gV mX9_pump := ⟨gmX9_pump, gws_5 227 (by decide +kernel) (by decide +kernel), gws_5 228 (by decide +kernel) (by decide +kernel)⟩
theorem gmX9_lastOff : gM mX9_lastOff := ⟨gws_6 6 rfl (by decide +kernel), rfl, by decide +kernel, Nat.le_of_ble_eq_true rfl, gi_9⟩
theorem gvX9_lastOff : gV mX9_lastOff := ⟨gmX9_lastOff, gws_6 5 (by decide +kernel) (by decide +kernel), chk_ok (i := 62) (by decide +kernel)⟩
theorem gmX9_isAhead : gM mX9_isAhead := ⟨gws_6 10 rfl (by decide +kernel), rfl, by decide +kernel, Nat.le_of_ble_eq_true rfl, gi_9⟩
theorem gvX9_isAhead : gV mX9_isAhead := ⟨gmX9_isAhead, gws_6 9 (by decide +kernel) (by decide +kernel), chk_ok (i := 63) (by decide +kernel)⟩
theorem gmX9_all : gM mX9_all := ⟨gws_5 234 rfl (by decide +kernel), rfl, by decide +kernel, Nat.le_of_ble_eq_true rfl, gi_9⟩
theorem gvX9_all : gV mX9_all := ⟨gmX9_all, gws_5 232 (by decide +kernel) (by decide +kernel), gws_5 233 (by decide +kernel) (by decide +kernel)⟩
theorem gmX9_lane : gM mX9_lane := ⟨gws_6 14 rfl (by decide +kernel), rfl, by decide +kernel, Nat.le_of_ble_eq_true rfl, gi_9⟩
theorem gvX9_lane : gV mX9_lane := ⟨gmX9_lane, gws_6 12 (by decide +kernel) (by decide +kernel), gws_6 13 (by decide +kernel) (by decide +kernel)⟩
theorem gmX9_seeks : gM mX9_seeks := ⟨gws_6 22 rfl (by decide +kernel), rfl, by decide +kernel, Nat.le_of_ble_eq_true rfl, gi_9⟩
theorem gvX9_seeks : gV mX9_seeks := ⟨gmX9_seeks, gws_6 21 (by decide +kernel) (by decide +kernel), chk_ok (i := 64) (by decide +kernel)⟩
theorem gmX9_lanes : gM mX9_lanes := ⟨gws_6 18 rfl (by decide +kernel), rfl, by decide +kernel, Nat.le_of_ble_eq_true rfl, gi_9⟩
theorem gvX9_lanes : gV mX9_lanes := ⟨gmX9_lanes, gws_6 16 (by decide +kernel) (by decide +kernel), gws_6 17 (by decide +kernel) (by decide +kernel)⟩
theorem gmX9_when : gM mX9_when := ⟨gws_6 26 rfl (by decide +kernel), rfl, by decide +kernel, Nat.le_of_ble_eq_true rfl, gi_9⟩
theorem gvX9_when : gV mX9_when := ⟨gmX9_when, gws_6 24 (by decide +kernel) (by decide +kernel), gws_6 25 (by decide +kernel) (by decide +kernel)⟩
theorem gmX9_forward : gM mX9_forward := ⟨gws_6 30 rfl (by decide +kernel), rfl, by decide +kernel, Nat.le_of_ble_eq_true rfl, gi_9⟩
theorem gvX9_forward : gV mX9_forward := ⟨gmX9_forward, gws_6 28 (by decide +kernel) (by decide +kernel), gws_6 29 (by decide +kernel) (by decide +kernel)⟩
theorem gmX9_blame : gM mX9_blame := ⟨gws_6 34 rfl (by decide +kernel), rfl, by decide +kernel, Nat.le_of_ble_eq_true rfl, gi_9⟩
theorem gvX9_blame : gV mX9_blame := ⟨gmX9_blame, gws_6 32 (by decide +kernel) (by decide +kernel), gws_6 33 (by decide +kernel) (by decide +kernel)⟩
theorem gmX9_unlike : gM mX9_unlike := ⟨gws_6 46 rfl (by decide +kernel), rfl, by decide +kernel, Nat.le_of_ble_eq_true rfl, gi_9⟩
theorem gvX9_unlike : gV mX9_unlike := ⟨gmX9_unlike, gws_6 45 (by decide +kernel) (by decide +kernel), chk_ok (i := 65) (by decide +kernel)⟩
theorem gmX9_tells : gM mX9_tells := ⟨gws_6 38 rfl (by decide +kernel), rfl, by decide +kernel, Nat.le_of_ble_eq_true rfl, gi_9⟩
theorem gvX9_tells : gV mX9_tells := ⟨gmX9_tells, gws_6 36 (by decide +kernel) (by decide +kernel), gws_6 37 (by decide +kernel) (by decide +kernel)⟩
theorem gmX9_film : gM mX9_film := ⟨gws_6 54 rfl (by decide +kernel), rfl, by decide +kernel, Nat.le_of_ble_eq_true rfl, gi_9⟩
theorem gvX9_film : gV mX9_film := ⟨gmX9_film, gws_6 52 (by decide +kernel) (by decide +kernel), gws_6 53 (by decide +kernel) (by decide +kernel)⟩
theorem gmX9_drives : gM mX9_drives := ⟨gws_6 68 rfl (by decide +kernel), rfl, by decide +kernel, Nat.le_of_ble_eq_true rfl, gi_9⟩
theorem gvX9_drives : gV mX9_drives := ⟨gmX9_drives, gws_6 67 (by decide +kernel) (by decide +kernel), chk_ok (i := 67) (by decide +kernel)⟩
theorem gmX9_drawn : gM mX9_drawn := ⟨gws_6 64 rfl (by decide +kernel), rfl, by decide +kernel, Nat.le_of_ble_eq_true rfl, gi_9⟩
theorem gvX9_drawn : gV mX9_drawn := ⟨gmX9_drawn, gws_6 62 (by decide +kernel) (by decide +kernel), gws_6 63 (by decide +kernel) (by decide +kernel)⟩
theorem gmX9_chance : gM mX9_chance := ⟨gws_6 73 rfl (by decide +kernel), rfl, by decide +kernel, Nat.le_of_ble_eq_true rfl, gi_9⟩
theorem gvX9_chance : gV mX9_chance := ⟨gmX9_chance, gws_6 71 (by decide +kernel) (by decide +kernel), gws_6 72 (by decide +kernel) (by decide +kernel)⟩
theorem gmX9_image : gM mX9_image := ⟨gws_6 79 rfl (by decide +kernel), rfl, by decide +kernel, Nat.le_of_ble_eq_true rfl, gi_9⟩
theorem gvX9_image : gV mX9_image := ⟨gmX9_image, gws_6 77 (by decide +kernel) (by decide +kernel), gws_6 78 (by decide +kernel) (by decide +kernel)⟩
theorem gmX9_back : gM mX9_back := ⟨gws_6 83 rfl (by decide +kernel), rfl, by decide +kernel, Nat.le_of_ble_eq_true rfl, gi_9⟩
theorem gvX9_back : gV mX9_back := ⟨gmX9_back, gws_6 81 (by decide +kernel) (by decide +kernel), gws_6 82 (by decide +kernel) (by decide +kernel)⟩
theorem gmX9_count : gM mX9_count := ⟨gws_6 87 rfl (by decide +kernel), rfl, by decide +kernel, Nat.le_of_ble_eq_true rfl, gi_9⟩
theorem gvX9_count : gV mX9_count := ⟨gmX9_count, gws_6 85 (by decide +kernel) (by decide +kernel), gws_6 86 (by decide +kernel) (by decide +kernel)⟩
theorem gmX9_isSheet : gM mX9_isSheet := ⟨gws_6 41 rfl (by decide +kernel), rfl, by decide +kernel, Nat.le_of_ble_eq_true rfl, gi_9⟩
theorem gtX9_isSheet : gT mX9_isSheet := ⟨gmX9_isSheet, gws_6 40 (by decide +kernel) (by decide +kernel)⟩
theorem gmX9_sheet : gM mX9_sheet := ⟨gws_6 58 rfl (by decide +kernel), rfl, by decide +kernel, Nat.le_of_ble_eq_true rfl, gi_9⟩
theorem gvX9_sheet : gV mX9_sheet := ⟨gmX9_sheet, gws_6 56 (by decide +kernel) (by decide +kernel), gws_6 57 (by decide +kernel) (by decide +kernel)⟩
theorem gmX9_cell : gM mX9_cell := ⟨gws_6 92 rfl (by decide +kernel), rfl, by decide +kernel, Nat.le_of_ble_eq_true rfl, gi_9⟩
theorem gvX9_cell : gV mX9_cell := ⟨gmX9_cell, gws_6 90 (by decide +kernel) (by decide +kernel), gws_6 91 (by decide +kernel) (by decide +kernel)⟩
theorem gmX9_copy : gM mX9_copy := ⟨gws_6 96 rfl (by decide +kernel), rfl, by decide +kernel, Nat.le_of_ble_eq_true rfl, gi_9⟩
theorem gvX9_copy : gV mX9_copy := ⟨gmX9_copy, gws_6 94 (by decide +kernel) (by decide +kernel), gws_6 95 (by decide +kernel) (by decide +kernel)⟩
theorem gmX9_cars : gM mX9_cars := ⟨gws_6 100 rfl (by decide +kernel), rfl, by decide +kernel, Nat.le_of_ble_eq_true rfl, gi_9⟩
theorem gvX9_cars : gV mX9_cars := ⟨gmX9_cars, gws_6 98 (by decide +kernel) (by decide +kernel), gws_6 99 (by decide +kernel) (by decide +kernel)⟩
theorem gmX9_over : gM mX9_over := ⟨gws_6 109 rfl (by decide +kernel), rfl, by decide +kernel, Nat.le_of_ble_eq_true rfl, gi_9⟩
theorem gtX9_over : gT mX9_over := ⟨gmX9_over, gws_6 108 (by decide +kernel) (by decide +kernel)⟩
theorem gmX9_taken : gM mX9_taken := ⟨gws_6 106 rfl (by decide +kernel), rfl, by decide +kernel, Nat.le_of_ble_eq_true rfl, gi_9⟩
theorem gvX9_taken : gV mX9_taken := ⟨gmX9_taken, gws_6 104 (by decide +kernel) (by decide +kernel), gws_6 105 (by decide +kernel) (by decide +kernel)⟩
theorem gmJ0_length_8abf5 : gM mJ0_length_8abf5 := ⟨gws_1 222 rfl (by decide +kernel), rfl, by decide +kernel, Nat.le_of_ble_eq_true rfl, gi_20⟩
theorem gvJ0_length_8abf5 : gV mJ0_length_8abf5 := ⟨gmJ0_length_8abf5, gws_1 220 (by decide +kernel) (by decide +kernel), gws_1 221 (by decide +kernel) (by decide +kernel)⟩
theorem gmJ0_charAt_5068e : gM mJ0_charAt_5068e := ⟨gws_1 232 rfl (by decide +kernel), rfl, by decide +kernel, Nat.le_of_ble_eq_true rfl, gi_20⟩
theorem gvJ0_charAt_5068e : gV mJ0_charAt_5068e := ⟨gmJ0_charAt_5068e, gws_1 230 (by decide +kernel) (by decide +kernel), gws_1 231 (by decide +kernel) (by decide +kernel)⟩
theorem gmJ0_indexOf_0f7a4 : gM mJ0_indexOf_0f7a4 := ⟨gws_2 68 rfl (by decide +kernel), rfl, by decide +kernel, Nat.le_of_ble_eq_true rfl, gi_20⟩
theorem gvJ0_indexOf_0f7a4 : gV mJ0_indexOf_0f7a4 := ⟨gmJ0_indexOf_0f7a4, gws_2 66 (by decide +kernel) (by decide +kernel), gws_2 67 (by decide +kernel) (by decide +kernel)⟩
theorem gmJ0_indexOf_7cf53 : gM mJ0_indexOf_7cf53 := ⟨gws_2 72 rfl (by decide +kernel), rfl, by decide +kernel, Nat.le_of_ble_eq_true rfl, gi_20⟩
theorem gvJ0_indexOf_7cf53 : gV mJ0_indexOf_7cf53 := ⟨gmJ0_indexOf_7cf53, gws_2 70 (by decide +kernel) (by decide +kernel), gws_2 71 (by decide +kernel) (by decide +kernel)⟩
theorem gmJ0_coder_7d493 : gM mJ0_coder_7d493 := ⟨gws_1 226 rfl (by decide +kernel), rfl, by decide +kernel, Nat.le_of_ble_eq_true rfl, gi_20⟩
theorem gvJ0_coder_7d493 : gV mJ0_coder_7d493 := ⟨gmJ0_coder_7d493, gws_1 224 (by decide +kernel) (by decide +kernel), gws_1 225 (by decide +kernel) (by decide +kernel)⟩
theorem gmJ0_isLatin1_aae02 : gM mJ0_isLatin1_aae02 := ⟨gws_1 236 rfl (by decide +kernel), rfl, by decide +kernel, Nat.le_of_ble_eq_true rfl, gi_20⟩
theorem gvJ0_isLatin1_aae02 : gV mJ0_isLatin1_aae02 := ⟨gmJ0_isLatin1_aae02, gws_1 234 (by decide +kernel) (by decide +kernel), gws_1 235 (by decide +kernel) (by decide +kernel)⟩
theorem gmJ0_checkIndex_df160 : gM mJ0_checkIndex_df160 := ⟨gws_2 2 rfl (by decide +kernel), rfl, by decide +kernel, Nat.le_of_ble_eq_true rfl, gi_20⟩
theorem gtJ0_checkIndex_df160 : gT mJ0_checkIndex_df160 := ⟨gmJ0_checkIndex_df160, gws_2 1 (by decide +kernel) (by decide +kernel)⟩
theorem gmJ0_checkBoundsBeginEnd_23922 : gM mJ0_checkBoundsBeginEnd_23922 := ⟨gws_2 103 rfl (by decide +kernel), rfl, by decide +kernel, Nat.le_of_ble_eq_true rfl, gi_20⟩
theorem gtJ0_checkBoundsBeginEnd_23922 : gT mJ0_checkBoundsBeginEnd_23922 := ⟨gmJ0_checkBoundsBeginEnd_23922, gws_2 102 (by decide +kernel) (by decide +kernel)⟩
theorem gmJ1_charAt_3b067 : gM mJ1_charAt_3b067 := ⟨gws_1 239 rfl (by decide +kernel), rfl, by decide +kernel, Nat.le_of_ble_eq_true rfl, gi_21⟩
theorem gtJ1_charAt_3b067 : gT mJ1_charAt_3b067 := ⟨gmJ1_charAt_3b067, gws_1 238 (by decide +kernel) (by decide +kernel)⟩
theorem gmJ1_canEncode_9a6ad : gM mJ1_canEncode_9a6ad := ⟨gws_2 79 rfl (by decide +kernel), rfl, by decide +kernel, Nat.le_of_ble_eq_true rfl, gi_21⟩
theorem gtJ1_canEncode_9a6ad : gT mJ1_canEncode_9a6ad := ⟨gmJ1_canEncode_9a6ad, gws_2 78 (by decide +kernel) (by decide +kernel)⟩
theorem gmJ1_indexOf_4cfef : gM mJ1_indexOf_4cfef := ⟨gws_2 76 rfl (by decide +kernel), rfl, by decide +kernel, Nat.le_of_ble_eq_true rfl, gi_21⟩
theorem gtJ1_indexOf_4cfef : gT mJ1_indexOf_4cfef := ⟨gmJ1_indexOf_4cfef, gws_2 75 (by decide +kernel) (by decide +kernel)⟩
theorem gmJ1_indexOfChar_4cfef : gM mJ1_indexOfChar_4cfef := ⟨gws_2 88 rfl (by decide +kernel), rfl, by decide +kernel, Nat.le_of_ble_eq_true rfl, gi_21⟩
theorem gtJ1_indexOfChar_4cfef : gT mJ1_indexOfChar_4cfef := ⟨gmJ1_indexOfChar_4cfef, gws_2 87 (by decide +kernel) (by decide +kernel)⟩
theorem gmJ3_checkIndex_8e157 : gM mJ3_checkIndex_8e157 := ⟨gws_2 7 rfl (by decide +kernel), rfl, by decide +kernel, Nat.le_of_ble_eq_true rfl, gi_23⟩
theorem gtJ3_checkIndex_8e157 : gT mJ3_checkIndex_8e157 := ⟨gmJ3_checkIndex_8e157, gws_2 6 (by decide +kernel) (by decide +kernel)⟩
theorem gmJ3_checkFromToIndex_8c36e : gM mJ3_checkFromToIndex_8c36e := ⟨gws_2 106 rfl (by decide +kernel), rfl, by decide +kernel, Nat.le_of_ble_eq_true rfl, gi_23⟩
theorem gtJ3_checkFromToIndex_8c36e : gT mJ3_checkFromToIndex_8c36e := ⟨gmJ3_checkFromToIndex_8c36e, gws_2 105 (by decide +kernel) (by decide +kernel)⟩
def mlP (o : Nat) (q : Nat × Nat × Nat × Nat × Md) : Prop := match q with
  | (i, v, rk, n, M) => Cond.methodLink (RO o) i M.2.1 ∈ gws ∧ gR M rk ∧ gN M n ∧ (if v = 0 then gV M else v = 1 ∧ gT M)
theorem ml_0_38 : mlP 0 (38, 0, 1, 2, mX1_tell) := ⟨gws_3 181 (by decide +kernel) (by decide +kernel), rfl, by decide +kernel, gvX1_tell⟩
theorem ml_0_44 : mlP 0 (44, 0, 1, 3, mX1_put) := ⟨gws_3 182 (by decide +kernel) (by decide +kernel), rfl, by decide +kernel, gvX1_put⟩
theorem ml_0_48 : mlP 0 (48, 0, 0, 0, mX7_spread) := ⟨gws_3 183 (by decide +kernel) (by decide +kernel), rfl, by decide +kernel, gvX7_spread⟩
theorem ml_0_53 : mlP 0 (53, 0, 1, 0, mX7_playAll) := ⟨gws_3 184 (by decide +kernel) (by decide +kernel), rfl, by decide +kernel, gvX7_playAll⟩
theorem ml_0_57 : mlP 0 (57, 0, 1, 1, mX7_off) := ⟨gws_3 185 (by decide +kernel) (by decide +kernel), rfl, by decide +kernel, gvX7_off⟩
theorem ml_0_61 : mlP 0 (61, 0, 0, 0, mX0_fillLaneBadness) := ⟨gws_3 198 (by decide +kernel) (by decide +kernel), rfl, by decide +kernel, gvX0_fillLaneBadness⟩
theorem ml_0_64 : mlP 0 (64, 0, 1, 0, mX1_size) := ⟨gws_3 202 (by decide +kernel) (by decide +kernel), rfl, by decide +kernel, gvX1_size⟩
theorem ml_0_67 : mlP 0 (67, 0, 1, 1, mX0_badnessOfWay) := ⟨gws_3 204 (by decide +kernel) (by decide +kernel), rfl, by decide +kernel, gvX0_badnessOfWay⟩
theorem ml_0_70 : mlP 0 (70, 0, 1, 1, mX0_digits) := ⟨gws_3 212 (by decide +kernel) (by decide +kernel), rfl, by decide +kernel, gvX0_digits⟩
theorem ml_0_76 : mlP 0 (76, 0, 1, 1, mX7_waited) := ⟨gws_3 225 (by decide +kernel) (by decide +kernel), rfl, by decide +kernel, gvX7_waited⟩
theorem ml_0_79 : mlP 0 (79, 0, 1, 1, mX7_share) := ⟨gws_4 2 (by decide +kernel) (by decide +kernel), rfl, by decide +kernel, gvX7_share⟩
theorem ml_0_82 : mlP 0 (82, 0, 0, 1, mX7_leaveOut) := ⟨gws_4 6 (by decide +kernel) (by decide +kernel), rfl, by decide +kernel, gvX7_leaveOut⟩
theorem ml_0_86 : mlP 0 (86, 0, 1, 2, mX7_playLane) := ⟨gws_3 203 (by decide +kernel) (by decide +kernel), rfl, by decide +kernel, gvX7_playLane⟩
theorem ml_0_89 : mlP 0 (89, 0, 1, 2, mX0_laneInWay) := ⟨gws_3 208 (by decide +kernel) (by decide +kernel), rfl, by decide +kernel, gvX0_laneInWay⟩
theorem ml_0 : ∀ q ∈ mtlT 0, mlP 0 q := List.forall_mem_cons.mpr ⟨ml_0_38, List.forall_mem_cons.mpr ⟨ml_0_44, List.forall_mem_cons.mpr ⟨ml_0_48, List.forall_mem_cons.mpr ⟨ml_0_53, List.forall_mem_cons.mpr ⟨ml_0_57, List.forall_mem_cons.mpr ⟨ml_0_61, List.forall_mem_cons.mpr ⟨ml_0_64, List.forall_mem_cons.mpr ⟨ml_0_67, List.forall_mem_cons.mpr ⟨ml_0_70, List.forall_mem_cons.mpr ⟨ml_0_76, List.forall_mem_cons.mpr ⟨ml_0_79, List.forall_mem_cons.mpr ⟨ml_0_82, List.forall_mem_cons.mpr ⟨ml_0_86, List.forall_mem_cons.mpr ⟨ml_0_89, fun _ h => absurd h List.not_mem_nil⟩⟩⟩⟩⟩⟩⟩⟩⟩⟩⟩⟩⟩⟩
theorem ml_1_20 : mlP 1 (20, 0, 1, 2, mX1_tell) := ⟨gws_2 221 (by decide +kernel) (by decide +kernel), rfl, by decide +kernel, gvX1_tell⟩
theorem ml_1_24 : mlP 1 (24, 0, 1, 1, mX1_has) := ⟨gws_2 225 (by decide +kernel) (by decide +kernel), rfl, by decide +kernel, gvX1_has⟩
theorem ml_1_28 : mlP 1 (28, 1, 1, 2, mX1_isOne) := ⟨gws_2 234 (by decide +kernel) (by decide +kernel), rfl, by decide +kernel, ⟨rfl, gtX1_isOne⟩⟩
theorem ml_1_32 : mlP 1 (32, 0, 1, 3, mX1_put) := ⟨gws_2 238 (by decide +kernel) (by decide +kernel), rfl, by decide +kernel, gvX1_put⟩
theorem ml_1 : ∀ q ∈ mtlT 1, mlP 1 q := List.forall_mem_cons.mpr ⟨ml_1_20, List.forall_mem_cons.mpr ⟨ml_1_24, List.forall_mem_cons.mpr ⟨ml_1_28, List.forall_mem_cons.mpr ⟨ml_1_32, fun _ h => absurd h List.not_mem_nil⟩⟩⟩⟩
theorem ml_2_20 : mlP 2 (20, 0, 1, 0, mX1_size) := ⟨gws_4 95 (by decide +kernel) (by decide +kernel), rfl, by decide +kernel, gvX1_size⟩
theorem ml_2_25 : mlP 2 (25, 0, 1, 0, mX5_chosen) := ⟨gws_4 96 (by decide +kernel) (by decide +kernel), rfl, by decide +kernel, gvX5_chosen⟩
theorem ml_2_33 : mlP 2 (33, 0, 1, 2, mX1_tell) := ⟨gws_4 97 (by decide +kernel) (by decide +kernel), rfl, by decide +kernel, gvX1_tell⟩
theorem ml_2_37 : mlP 2 (37, 0, 0, 1, mX1_sendAwayFrom) := ⟨gws_4 110 (by decide +kernel) (by decide +kernel), rfl, by decide +kernel, gvX1_sendAwayFrom⟩
theorem ml_2_41 : mlP 2 (41, 0, 1, 1, mX5_choose) := ⟨gws_4 114 (by decide +kernel) (by decide +kernel), rfl, by decide +kernel, gvX5_choose⟩
theorem ml_2_45 : mlP 2 (45, 0, 1, 3, mX1_put) := ⟨gws_4 115 (by decide +kernel) (by decide +kernel), rfl, by decide +kernel, gvX1_put⟩
theorem ml_2 : ∀ q ∈ mtlT 2, mlP 2 q := List.forall_mem_cons.mpr ⟨ml_2_20, List.forall_mem_cons.mpr ⟨ml_2_25, List.forall_mem_cons.mpr ⟨ml_2_33, List.forall_mem_cons.mpr ⟨ml_2_37, List.forall_mem_cons.mpr ⟨ml_2_41, List.forall_mem_cons.mpr ⟨ml_2_45, fun _ h => absurd h List.not_mem_nil⟩⟩⟩⟩⟩⟩
theorem ml_4_23 : mlP 4 (23, 0, 1, 0, mJ0_length_8abf5) := ⟨gws_1 219 (by decide +kernel) (by decide +kernel), rfl, by decide +kernel, gvJ0_length_8abf5⟩
theorem ml_4_29 : mlP 4 (29, 0, 1, 1, mJ0_charAt_5068e) := ⟨gws_1 229 (by decide +kernel) (by decide +kernel), rfl, by decide +kernel, gvJ0_charAt_5068e⟩
theorem ml_4_33 : mlP 4 (33, 0, 1, 1, mX4_add) := ⟨gws_2 27 (by decide +kernel) (by decide +kernel), rfl, by decide +kernel, gvX4_add⟩
theorem ml_4_40 : mlP 4 (40, 0, 0, 0, mX5_beginText) := ⟨gws_2 35 (by decide +kernel) (by decide +kernel), rfl, by decide +kernel, gvX5_beginText⟩
theorem ml_4_45 : mlP 4 (45, 0, 0, 0, mX4_step) := ⟨gws_2 39 (by decide +kernel) (by decide +kernel), rfl, by decide +kernel, gvX4_step⟩
theorem ml_4_48 : mlP 4 (48, 0, 1, 1, mX4_readPart) := ⟨gws_2 124 (by decide +kernel) (by decide +kernel), rfl, by decide +kernel, gvX4_readPart⟩
theorem ml_4_57 : mlP 4 (57, 0, 0, 0, mX5_endText) := ⟨gws_2 176 (by decide +kernel) (by decide +kernel), rfl, by decide +kernel, gvX5_endText⟩
theorem ml_4_60 : mlP 4 (60, 0, 0, 1, mX5_beginPart) := ⟨gws_2 128 (by decide +kernel) (by decide +kernel), rfl, by decide +kernel, gvX5_beginPart⟩
theorem ml_4_64 : mlP 4 (64, 0, 1, 1, mX4_readOr) := ⟨gws_2 136 (by decide +kernel) (by decide +kernel), rfl, by decide +kernel, gvX4_readOr⟩
theorem ml_4_67 : mlP 4 (67, 0, 0, 1, mX5_write) := ⟨gws_2 164 (by decide +kernel) (by decide +kernel), rfl, by decide +kernel, gvX5_write⟩
theorem ml_4_70 : mlP 4 (70, 0, 1, 1, mX4_readAnd) := ⟨gws_2 140 (by decide +kernel) (by decide +kernel), rfl, by decide +kernel, gvX4_readAnd⟩
theorem ml_4_73 : mlP 4 (73, 0, 1, 1, mX4_readNot) := ⟨gws_2 144 (by decide +kernel) (by decide +kernel), rfl, by decide +kernel, gvX4_readNot⟩
theorem ml_4_76 : mlP 4 (76, 0, 1, 1, mX4_readComparison) := ⟨gws_2 148 (by decide +kernel) (by decide +kernel), rfl, by decide +kernel, gvX4_readComparison⟩
theorem ml_4_79 : mlP 4 (79, 0, 1, 1, mX4_readSum) := ⟨gws_2 152 (by decide +kernel) (by decide +kernel), rfl, by decide +kernel, gvX4_readSum⟩
theorem ml_4_82 : mlP 4 (82, 0, 1, 1, mX4_readTerm) := ⟨gws_2 156 (by decide +kernel) (by decide +kernel), rfl, by decide +kernel, gvX4_readTerm⟩
theorem ml_4_85 : mlP 4 (85, 0, 1, 1, mX4_readOne) := ⟨gws_2 160 (by decide +kernel) (by decide +kernel), rfl, by decide +kernel, gvX4_readOne⟩
theorem ml_4_91 : mlP 4 (91, 0, 1, 1, mX4_readNegated) := ⟨gws_2 168 (by decide +kernel) (by decide +kernel), rfl, by decide +kernel, gvX4_readNegated⟩
theorem ml_4_94 : mlP 4 (94, 0, 1, 1, mX4_readEnclosed) := ⟨gws_2 172 (by decide +kernel) (by decide +kernel), rfl, by decide +kernel, gvX4_readEnclosed⟩
theorem ml_4_97 : mlP 4 (97, 0, 1, 1, mX4_isLetter) := ⟨gws_2 43 (by decide +kernel) (by decide +kernel), rfl, by decide +kernel, gvX4_isLetter⟩
theorem ml_4_100 : mlP 4 (100, 0, 0, 0, mX4_stepWord) := ⟨gws_2 47 (by decide +kernel) (by decide +kernel), rfl, by decide +kernel, gvX4_stepWord⟩
theorem ml_4_103 : mlP 4 (103, 0, 1, 1, mX4_isDigit) := ⟨gws_2 56 (by decide +kernel) (by decide +kernel), rfl, by decide +kernel, gvX4_isDigit⟩
theorem ml_4_106 : mlP 4 (106, 0, 0, 0, mX4_stepNumeral) := ⟨gws_2 60 (by decide +kernel) (by decide +kernel), rfl, by decide +kernel, gvX4_stepNumeral⟩
theorem ml_4_111 : mlP 4 (111, 0, 1, 1, mJ0_indexOf_0f7a4) := ⟨gws_2 65 (by decide +kernel) (by decide +kernel), rfl, by decide +kernel, gvJ0_indexOf_0f7a4⟩
theorem ml_4_117 : mlP 4 (117, 0, 1, 2, mX4_isSpelled) := ⟨gws_2 52 (by decide +kernel) (by decide +kernel), rfl, by decide +kernel, gvX4_isSpelled⟩
theorem ml_4 : ∀ q ∈ mtlT 4, mlP 4 q := List.forall_mem_cons.mpr ⟨ml_4_23, List.forall_mem_cons.mpr ⟨ml_4_29, List.forall_mem_cons.mpr ⟨ml_4_33, List.forall_mem_cons.mpr ⟨ml_4_40, List.forall_mem_cons.mpr ⟨ml_4_45, List.forall_mem_cons.mpr ⟨ml_4_48, List.forall_mem_cons.mpr ⟨ml_4_57, List.forall_mem_cons.mpr ⟨ml_4_60, List.forall_mem_cons.mpr ⟨ml_4_64, List.forall_mem_cons.mpr ⟨ml_4_67, List.forall_mem_cons.mpr ⟨ml_4_70, List.forall_mem_cons.mpr ⟨ml_4_73, List.forall_mem_cons.mpr ⟨ml_4_76, List.forall_mem_cons.mpr ⟨ml_4_79, List.forall_mem_cons.mpr ⟨ml_4_82, List.forall_mem_cons.mpr ⟨ml_4_85, List.forall_mem_cons.mpr ⟨ml_4_91, List.forall_mem_cons.mpr ⟨ml_4_94, List.forall_mem_cons.mpr ⟨ml_4_97, List.forall_mem_cons.mpr ⟨ml_4_100, List.forall_mem_cons.mpr ⟨ml_4_103, List.forall_mem_cons.mpr ⟨ml_4_106, List.forall_mem_cons.mpr ⟨ml_4_111, List.forall_mem_cons.mpr ⟨ml_4_117, fun _ h => absurd h List.not_mem_nil⟩⟩⟩⟩⟩⟩⟩⟩⟩⟩⟩⟩⟩⟩⟩⟩⟩⟩⟩⟩⟩⟩⟩⟩
theorem ml_5_33 : mlP 5 (33, 0, 1, 1, mX5_has) := ⟨gws_3 76 (by decide +kernel) (by decide +kernel), rfl, by decide +kernel, gvX5_has⟩
theorem ml_5_40 : mlP 5 (40, 0, 1, 0, mX5_isFull) := ⟨gws_2 132 (by decide +kernel) (by decide +kernel), rfl, by decide +kernel, gvX5_isFull⟩
theorem ml_5_44 : mlP 5 (44, 0, 1, 2, mX1_tell) := ⟨gws_3 23 (by decide +kernel) (by decide +kernel), rfl, by decide +kernel, gvX1_tell⟩
theorem ml_5_50 : mlP 5 (50, 1, 1, 3, mX5_joined) := ⟨gws_3 24 (by decide +kernel) (by decide +kernel), rfl, by decide +kernel, ⟨rfl, gtX5_joined⟩⟩
theorem ml_5 : ∀ q ∈ mtlT 5, mlP 5 q := List.forall_mem_cons.mpr ⟨ml_5_33, List.forall_mem_cons.mpr ⟨ml_5_40, List.forall_mem_cons.mpr ⟨ml_5_44, List.forall_mem_cons.mpr ⟨ml_5_50, fun _ h => absurd h List.not_mem_nil⟩⟩⟩⟩
theorem ml_6_31 : mlP 6 (31, 0, 1, 1, mX6_narrow) := ⟨gws_4 66 (by decide +kernel) (by decide +kernel), rfl, by decide +kernel, gvX6_narrow⟩
theorem ml_6_35 : mlP 6 (35, 0, 1, 2, mX6_hasRun) := ⟨gws_4 144 (by decide +kernel) (by decide +kernel), rfl, by decide +kernel, gvX6_hasRun⟩
theorem ml_6 : ∀ q ∈ mtlT 6, mlP 6 q := List.forall_mem_cons.mpr ⟨ml_6_31, List.forall_mem_cons.mpr ⟨ml_6_35, fun _ h => absurd h List.not_mem_nil⟩⟩
theorem ml_7_41 : mlP 7 (41, 0, 0, 0, mX7_clearLanes) := ⟨gws_3 85 (by decide +kernel) (by decide +kernel), rfl, by decide +kernel, gvX7_clearLanes⟩
theorem ml_7_44 : mlP 7 (44, 0, 1, 0, mX1_size) := ⟨gws_3 89 (by decide +kernel) (by decide +kernel), rfl, by decide +kernel, gvX1_size⟩
theorem ml_7_50 : mlP 7 (50, 0, 1, 2, mX1_tell) := ⟨gws_3 8 (by decide +kernel) (by decide +kernel), rfl, by decide +kernel, gvX1_tell⟩
theorem ml_7_54 : mlP 7 (54, 0, 0, 2, mX7_join) := ⟨gws_3 93 (by decide +kernel) (by decide +kernel), rfl, by decide +kernel, gvX7_join⟩
theorem ml_7_67 : mlP 7 (67, 0, 1, 2, mX7_playLane) := ⟨gws_3 101 (by decide +kernel) (by decide +kernel), rfl, by decide +kernel, gvX7_playLane⟩
theorem ml_7_76 : mlP 7 (76, 0, 0, 2, mX7_lineUp) := ⟨gws_3 105 (by decide +kernel) (by decide +kernel), rfl, by decide +kernel, gvX7_lineUp⟩
theorem ml_7_79 : mlP 7 (79, 0, 0, 1, mX7_leave) := ⟨gws_3 114 (by decide +kernel) (by decide +kernel), rfl, by decide +kernel, gvX7_leave⟩
theorem ml_7_83 : mlP 7 (83, 0, 0, 2, mX7_driveUp) := ⟨gws_3 118 (by decide +kernel) (by decide +kernel), rfl, by decide +kernel, gvX7_driveUp⟩
theorem ml_7_92 : mlP 7 (92, 0, 1, 2, mX7_badness) := ⟨gws_3 125 (by decide +kernel) (by decide +kernel), rfl, by decide +kernel, gvX7_badness⟩
theorem ml_7_95 : mlP 7 (95, 0, 1, 1, mX1_has) := ⟨gws_3 138 (by decide +kernel) (by decide +kernel), rfl, by decide +kernel, gvX1_has⟩
theorem ml_7_99 : mlP 7 (99, 0, 1, 1, mX7_starts) := ⟨gws_3 134 (by decide +kernel) (by decide +kernel), rfl, by decide +kernel, gvX7_starts⟩
theorem ml_7_107 : mlP 7 (107, 0, 1, 2, mX7_comesBefore) := ⟨gws_3 110 (by decide +kernel) (by decide +kernel), rfl, by decide +kernel, gvX7_comesBefore⟩
theorem ml_7_111 : mlP 7 (111, 0, 1, 1, mX6_item) := ⟨gws_4 36 (by decide +kernel) (by decide +kernel), rfl, by decide +kernel, gvX6_item⟩
theorem ml_7_116 : mlP 7 (116, 1, 1, 3, mX3_fits) := ⟨gws_3 9 (by decide +kernel) (by decide +kernel), rfl, by decide +kernel, ⟨rfl, gtX3_fits⟩⟩
theorem ml_7_122 : mlP 7 (122, 0, 1, 6, mX5_ask) := ⟨gws_3 19 (by decide +kernel) (by decide +kernel), rfl, by decide +kernel, gvX5_ask⟩
theorem ml_7_128 : mlP 7 (128, 1, 1, 3, mX3_drawsForward) := ⟨gws_3 27 (by decide +kernel) (by decide +kernel), rfl, by decide +kernel, ⟨rfl, gtX3_drawsForward⟩⟩
theorem ml_7_132 : mlP 7 (132, 1, 1, 2, mX7_within) := ⟨gws_3 34 (by decide +kernel) (by decide +kernel), rfl, by decide +kernel, ⟨rfl, gtX7_within⟩⟩
theorem ml_7_135 : mlP 7 (135, 1, 1, 3, mX3_minutes) := ⟨gws_3 39 (by decide +kernel) (by decide +kernel), rfl, by decide +kernel, ⟨rfl, gtX3_minutes⟩⟩
theorem ml_7_139 : mlP 7 (139, 0, 1, 2, mX7_fits) := ⟨gws_3 109 (by decide +kernel) (by decide +kernel), rfl, by decide +kernel, gvX7_fits⟩
theorem ml_7_141 : mlP 7 (141, 1, 1, 1, mX3_isLong) := ⟨gws_3 122 (by decide +kernel) (by decide +kernel), rfl, by decide +kernel, ⟨rfl, gtX3_isLong⟩⟩
theorem ml_7_144 : mlP 7 (144, 0, 1, 4, mX7_takes) := ⟨gws_3 123 (by decide +kernel) (by decide +kernel), rfl, by decide +kernel, gvX7_takes⟩
theorem ml_7_148 : mlP 7 (148, 0, 1, 3, mX7_drawsForward) := ⟨gws_3 124 (by decide +kernel) (by decide +kernel), rfl, by decide +kernel, gvX7_drawsForward⟩
theorem ml_7_150 : mlP 7 (150, 0, 1, 2, mX7_minds) := ⟨gws_3 129 (by decide +kernel) (by decide +kernel), rfl, by decide +kernel, gvX7_minds⟩
theorem ml_7_153 : mlP 7 (153, 0, 1, 1, mX7_waited) := ⟨gws_3 130 (by decide +kernel) (by decide +kernel), rfl, by decide +kernel, gvX7_waited⟩
theorem ml_7 : ∀ q ∈ mtlT 7, mlP 7 q := List.forall_mem_cons.mpr ⟨ml_7_41, List.forall_mem_cons.mpr ⟨ml_7_44, List.forall_mem_cons.mpr ⟨ml_7_50, List.forall_mem_cons.mpr ⟨ml_7_54, List.forall_mem_cons.mpr ⟨ml_7_67, List.forall_mem_cons.mpr ⟨ml_7_76, List.forall_mem_cons.mpr ⟨ml_7_79, List.forall_mem_cons.mpr ⟨ml_7_83, List.forall_mem_cons.mpr ⟨ml_7_92, List.forall_mem_cons.mpr ⟨ml_7_95, List.forall_mem_cons.mpr ⟨ml_7_99, List.forall_mem_cons.mpr ⟨ml_7_107, List.forall_mem_cons.mpr ⟨ml_7_111, List.forall_mem_cons.mpr ⟨ml_7_116, List.forall_mem_cons.mpr ⟨ml_7_122, List.forall_mem_cons.mpr ⟨ml_7_128, List.forall_mem_cons.mpr ⟨ml_7_132, List.forall_mem_cons.mpr ⟨ml_7_135, List.forall_mem_cons.mpr ⟨ml_7_139, List.forall_mem_cons.mpr ⟨ml_7_141, List.forall_mem_cons.mpr ⟨ml_7_144, List.forall_mem_cons.mpr ⟨ml_7_148, List.forall_mem_cons.mpr ⟨ml_7_150, List.forall_mem_cons.mpr ⟨ml_7_153, fun _ h => absurd h List.not_mem_nil⟩⟩⟩⟩⟩⟩⟩⟩⟩⟩⟩⟩⟩⟩⟩⟩⟩⟩⟩⟩⟩⟩⟩⟩
theorem ml_8_66 : mlP 8 (66, 0, 0, 1, mX4_lay) := ⟨gws_1 215 (by decide +kernel) (by decide +kernel), rfl, by decide +kernel, gvX4_lay⟩
theorem ml_8_70 : mlP 8 (70, 0, 1, 0, mX4_readText) := ⟨gws_2 31 (by decide +kernel) (by decide +kernel), rfl, by decide +kernel, gvX4_readText⟩
theorem ml_8_74 : mlP 8 (74, 0, 0, 0, mX4_empty) := ⟨gws_2 180 (by decide +kernel) (by decide +kernel), rfl, by decide +kernel, gvX4_empty⟩
theorem ml_8_77 : mlP 8 (77, 0, 1, 1, mX1_has) := ⟨gws_2 211 (by decide +kernel) (by decide +kernel), rfl, by decide +kernel, gvX1_has⟩
theorem ml_8_85 : mlP 8 (85, 0, 1, 3, mX1_put) := ⟨gws_2 217 (by decide +kernel) (by decide +kernel), rfl, by decide +kernel, gvX1_put⟩
theorem ml_8_89 : mlP 8 (89, 0, 1, 3, mX1_welcome) := ⟨gws_2 230 (by decide +kernel) (by decide +kernel), rfl, by decide +kernel, gvX1_welcome⟩
theorem ml_8_92 : mlP 8 (92, 0, 1, 2, mX1_tell) := ⟨gws_3 3 (by decide +kernel) (by decide +kernel), rfl, by decide +kernel, gvX1_tell⟩
theorem ml_8_96 : mlP 8 (96, 0, 1, 2, mX7_fits) := ⟨gws_3 4 (by decide +kernel) (by decide +kernel), rfl, by decide +kernel, gvX7_fits⟩
theorem ml_8_100 : mlP 8 (100, 1, 1, 1, mX3_isLong) := ⟨gws_3 12 (by decide +kernel) (by decide +kernel), rfl, by decide +kernel, ⟨rfl, gtX3_isLong⟩⟩
theorem ml_8_105 : mlP 8 (105, 0, 1, 3, mX7_drawsForward) := ⟨gws_3 15 (by decide +kernel) (by decide +kernel), rfl, by decide +kernel, gvX7_drawsForward⟩
theorem ml_8_109 : mlP 8 (109, 0, 1, 4, mX7_takes) := ⟨gws_3 30 (by decide +kernel) (by decide +kernel), rfl, by decide +kernel, gvX7_takes⟩
theorem ml_8_113 : mlP 8 (113, 0, 1, 2, mX7_minds) := ⟨gws_3 42 (by decide +kernel) (by decide +kernel), rfl, by decide +kernel, gvX7_minds⟩
theorem ml_8_116 : mlP 8 (116, 0, 1, 1, mX4_add) := ⟨gws_3 50 (by decide +kernel) (by decide +kernel), rfl, by decide +kernel, gvX4_add⟩
theorem ml_8_119 : mlP 8 (119, 0, 1, 0, mX4_size) := ⟨gws_3 51 (by decide +kernel) (by decide +kernel), rfl, by decide +kernel, gvX4_size⟩
theorem ml_8_122 : mlP 8 (122, 0, 1, 0, mX5_isFull) := ⟨gws_3 59 (by decide +kernel) (by decide +kernel), rfl, by decide +kernel, gvX5_isFull⟩
theorem ml_8_126 : mlP 8 (126, 0, 1, 0, mX5_size) := ⟨gws_3 60 (by decide +kernel) (by decide +kernel), rfl, by decide +kernel, gvX5_size⟩
theorem ml_8_127 : mlP 8 (127, 0, 1, 1, mX5_has) := ⟨gws_3 68 (by decide +kernel) (by decide +kernel), rfl, by decide +kernel, gvX5_has⟩
theorem ml_8_128 : mlP 8 (128, 0, 1, 1, mX5_choose) := ⟨gws_3 72 (by decide +kernel) (by decide +kernel), rfl, by decide +kernel, gvX5_choose⟩
theorem ml_8_132 : mlP 8 (132, 0, 0, 0, mX7_spread) := ⟨gws_3 81 (by decide +kernel) (by decide +kernel), rfl, by decide +kernel, gvX7_spread⟩
theorem ml_8_135 : mlP 8 (135, 0, 1, 0, mX7_playAll) := ⟨gws_3 97 (by decide +kernel) (by decide +kernel), rfl, by decide +kernel, gvX7_playAll⟩
theorem ml_8_138 : mlP 8 (138, 0, 1, 1, mX7_starts) := ⟨gws_3 139 (by decide +kernel) (by decide +kernel), rfl, by decide +kernel, gvX7_starts⟩
theorem ml_8_141 : mlP 8 (141, 0, 1, 1, mX7_off) := ⟨gws_3 140 (by decide +kernel) (by decide +kernel), rfl, by decide +kernel, gvX7_off⟩
theorem ml_8_144 : mlP 8 (144, 0, 1, 1, mX7_waited) := ⟨gws_3 144 (by decide +kernel) (by decide +kernel), rfl, by decide +kernel, gvX7_waited⟩
theorem ml_8_147 : mlP 8 (147, 0, 1, 1, mX7_place) := ⟨gws_3 145 (by decide +kernel) (by decide +kernel), rfl, by decide +kernel, gvX7_place⟩
theorem ml_8_150 : mlP 8 (150, 0, 1, 3, mX7_whoIsAt) := ⟨gws_3 153 (by decide +kernel) (by decide +kernel), rfl, by decide +kernel, gvX7_whoIsAt⟩
theorem ml_8_153 : mlP 8 (153, 0, 1, 0, mX7_inVain) := ⟨gws_3 161 (by decide +kernel) (by decide +kernel), rfl, by decide +kernel, gvX7_inVain⟩
theorem ml_8_156 : mlP 8 (156, 0, 1, 0, mX7_lastOff) := ⟨gws_3 165 (by decide +kernel) (by decide +kernel), rfl, by decide +kernel, gvX7_lastOff⟩
theorem ml_8_159 : mlP 8 (159, 0, 1, 0, mX7_outOfOrder) := ⟨gws_3 169 (by decide +kernel) (by decide +kernel), rfl, by decide +kernel, gvX7_outOfOrder⟩
theorem ml_8_162 : mlP 8 (162, 0, 0, 1, mX0_seekLane) := ⟨gws_3 177 (by decide +kernel) (by decide +kernel), rfl, by decide +kernel, gvX0_seekLane⟩
theorem ml_8_166 : mlP 8 (166, 0, 1, 1, mX0_answer) := ⟨gws_3 186 (by decide +kernel) (by decide +kernel), rfl, by decide +kernel, gvX0_answer⟩
theorem ml_8_169 : mlP 8 (169, 0, 0, 0, mX0_seekLanes) := ⟨gws_3 194 (by decide +kernel) (by decide +kernel), rfl, by decide +kernel, gvX0_seekLanes⟩
theorem ml_8_172 : mlP 8 (172, 0, 0, 1, mX0_seekMinute) := ⟨gws_3 220 (by decide +kernel) (by decide +kernel), rfl, by decide +kernel, gvX0_seekMinute⟩
theorem ml_8_175 : mlP 8 (175, 0, 0, 1, mX7_sendAllForward) := ⟨gws_3 230 (by decide +kernel) (by decide +kernel), rfl, by decide +kernel, gvX7_sendAllForward⟩
theorem ml_8_179 : mlP 8 (179, 0, 0, 0, mX0_seekBlame) := ⟨gws_3 238 (by decide +kernel) (by decide +kernel), rfl, by decide +kernel, gvX0_seekBlame⟩
theorem ml_8_182 : mlP 8 (182, 1, 1, 1, mX8_isSheet) := ⟨gws_4 14 (by decide +kernel) (by decide +kernel), rfl, by decide +kernel, ⟨rfl, gtX8_isSheet⟩⟩
theorem ml_8_185 : mlP 8 (185, 0, 1, 0, mX6_isMissing) := ⟨gws_4 17 (by decide +kernel) (by decide +kernel), rfl, by decide +kernel, gvX6_isMissing⟩
theorem ml_8_188 : mlP 8 (188, 0, 1, 0, mX6_size) := ⟨gws_4 21 (by decide +kernel) (by decide +kernel), rfl, by decide +kernel, gvX6_size⟩
theorem ml_8_189 : mlP 8 (189, 0, 1, 0, mX1_size) := ⟨gws_4 25 (by decide +kernel) (by decide +kernel), rfl, by decide +kernel, gvX1_size⟩
theorem ml_8_190 : mlP 8 (190, 0, 1, 3, mX8_likely) := ⟨gws_4 26 (by decide +kernel) (by decide +kernel), rfl, by decide +kernel, gvX8_likely⟩
theorem ml_8_194 : mlP 8 (194, 0, 1, 1, mX8_otherwiseNow) := ⟨gws_4 40 (by decide +kernel) (by decide +kernel), rfl, by decide +kernel, gvX8_otherwiseNow⟩
theorem ml_8_198 : mlP 8 (198, 0, 1, 1, mX8_likelyTexts) := ⟨gws_4 44 (by decide +kernel) (by decide +kernel), rfl, by decide +kernel, gvX8_likelyTexts⟩
theorem ml_8_201 : mlP 8 (201, 0, 0, 2, mX6_become) := ⟨gws_4 56 (by decide +kernel) (by decide +kernel), rfl, by decide +kernel, gvX6_become⟩
theorem ml_8_205 : mlP 8 (205, 0, 1, 2, mX6_put) := ⟨gws_4 62 (by decide +kernel) (by decide +kernel), rfl, by decide +kernel, gvX6_put⟩
theorem ml_8_207 : mlP 8 (207, 0, 0, 1, mX7_spreadBySeed) := ⟨gws_4 74 (by decide +kernel) (by decide +kernel), rfl, by decide +kernel, gvX7_spreadBySeed⟩
theorem ml_8_212 : mlP 8 (212, 1, 1, 2, mX0_commonDivisor) := ⟨gws_4 84 (by decide +kernel) (by decide +kernel), rfl, by decide +kernel, ⟨rfl, gtX0_commonDivisor⟩⟩
theorem ml_8_215 : mlP 8 (215, 0, 0, 2, mX2_take) := ⟨gws_4 91 (by decide +kernel) (by decide +kernel), rfl, by decide +kernel, gvX2_take⟩
theorem ml_8_218 : mlP 8 (218, 0, 1, 0, mX2_isTaken) := ⟨gws_4 102 (by decide +kernel) (by decide +kernel), rfl, by decide +kernel, gvX2_isTaken⟩
theorem ml_8_221 : mlP 8 (221, 0, 0, 2, mX2_layBack) := ⟨gws_4 106 (by decide +kernel) (by decide +kernel), rfl, by decide +kernel, gvX2_layBack⟩
theorem ml_8_224 : mlP 8 (224, 0, 1, 0, mX5_chosen) := ⟨gws_4 48 (by decide +kernel) (by decide +kernel), rfl, by decide +kernel, gvX5_chosen⟩
theorem ml_8_227 : mlP 8 (227, 0, 1, 0, mX6_sort) := ⟨gws_4 132 (by decide +kernel) (by decide +kernel), rfl, by decide +kernel, gvX6_sort⟩
theorem ml_8_230 : mlP 8 (230, 0, 1, 2, mX6_hasRun) := ⟨gws_4 136 (by decide +kernel) (by decide +kernel), rfl, by decide +kernel, gvX6_hasRun⟩
theorem ml_8_233 : mlP 8 (233, 0, 0, 4, mX6_putRun) := ⟨gws_4 140 (by decide +kernel) (by decide +kernel), rfl, by decide +kernel, gvX6_putRun⟩
theorem ml_8_237 : mlP 8 (237, 0, 1, 1, mX6_item) := ⟨gws_4 152 (by decide +kernel) (by decide +kernel), rfl, by decide +kernel, gvX6_item⟩
theorem ml_8_240 : mlP 8 (240, 1, 1, 2, mX3_isUnder) := ⟨gws_4 157 (by decide +kernel) (by decide +kernel), rfl, by decide +kernel, ⟨rfl, gtX3_isUnder⟩⟩
theorem ml_8_243 : mlP 8 (243, 0, 1, 1, mX7_otherwise) := ⟨gws_4 32 (by decide +kernel) (by decide +kernel), rfl, by decide +kernel, gvX7_otherwise⟩
theorem ml_8 : ∀ q ∈ mtlT 8, mlP 8 q := List.forall_mem_cons.mpr ⟨ml_8_66, List.forall_mem_cons.mpr ⟨ml_8_70, List.forall_mem_cons.mpr ⟨ml_8_74, List.forall_mem_cons.mpr ⟨ml_8_77, List.forall_mem_cons.mpr ⟨ml_8_85, List.forall_mem_cons.mpr ⟨ml_8_89, List.forall_mem_cons.mpr ⟨ml_8_92, List.forall_mem_cons.mpr ⟨ml_8_96, List.forall_mem_cons.mpr ⟨ml_8_100, List.forall_mem_cons.mpr ⟨ml_8_105, List.forall_mem_cons.mpr ⟨ml_8_109, List.forall_mem_cons.mpr ⟨ml_8_113, List.forall_mem_cons.mpr ⟨ml_8_116, List.forall_mem_cons.mpr ⟨ml_8_119, List.forall_mem_cons.mpr ⟨ml_8_122, List.forall_mem_cons.mpr ⟨ml_8_126, List.forall_mem_cons.mpr ⟨ml_8_127, List.forall_mem_cons.mpr ⟨ml_8_128, List.forall_mem_cons.mpr ⟨ml_8_132, List.forall_mem_cons.mpr ⟨ml_8_135, List.forall_mem_cons.mpr ⟨ml_8_138, List.forall_mem_cons.mpr ⟨ml_8_141, List.forall_mem_cons.mpr ⟨ml_8_144, List.forall_mem_cons.mpr ⟨ml_8_147, List.forall_mem_cons.mpr ⟨ml_8_150, List.forall_mem_cons.mpr ⟨ml_8_153, List.forall_mem_cons.mpr ⟨ml_8_156, List.forall_mem_cons.mpr ⟨ml_8_159, List.forall_mem_cons.mpr ⟨ml_8_162, List.forall_mem_cons.mpr ⟨ml_8_166, List.forall_mem_cons.mpr ⟨ml_8_169, List.forall_mem_cons.mpr ⟨ml_8_172, List.forall_mem_cons.mpr ⟨ml_8_175, List.forall_mem_cons.mpr ⟨ml_8_179, List.forall_mem_cons.mpr ⟨ml_8_182, List.forall_mem_cons.mpr ⟨ml_8_185, List.forall_mem_cons.mpr ⟨ml_8_188, List.forall_mem_cons.mpr ⟨ml_8_189, List.forall_mem_cons.mpr ⟨ml_8_190, List.forall_mem_cons.mpr ⟨ml_8_194, List.forall_mem_cons.mpr ⟨ml_8_198, List.forall_mem_cons.mpr ⟨ml_8_201, List.forall_mem_cons.mpr ⟨ml_8_205, List.forall_mem_cons.mpr ⟨ml_8_207, List.forall_mem_cons.mpr ⟨ml_8_212, List.forall_mem_cons.mpr ⟨ml_8_215, List.forall_mem_cons.mpr ⟨ml_8_218, List.forall_mem_cons.mpr ⟨ml_8_221, List.forall_mem_cons.mpr ⟨ml_8_224, List.forall_mem_cons.mpr ⟨ml_8_227, List.forall_mem_cons.mpr ⟨ml_8_230, List.forall_mem_cons.mpr ⟨ml_8_233, List.forall_mem_cons.mpr ⟨ml_8_237, List.forall_mem_cons.mpr ⟨ml_8_240, List.forall_mem_cons.mpr ⟨ml_8_243, fun _ h => absurd h List.not_mem_nil⟩⟩⟩⟩⟩⟩⟩⟩⟩⟩⟩⟩⟩⟩⟩⟩⟩⟩⟩⟩⟩⟩⟩⟩⟩⟩⟩⟩⟩⟩⟩⟩⟩⟩⟩⟩⟩⟩⟩⟩⟩⟩⟩⟩⟩⟩⟩⟩⟩⟩⟩⟩⟩⟩⟩
theorem ml_9_75 : mlP 9 (75, 0, 0, 9, mX9_spell) := ⟨gws_4 168 (by decide +kernel) (by decide +kernel), rfl, by decide +kernel, gvX9_spell⟩
theorem ml_9_85 : mlP 9 (85, 1, 1, 3, mX9_in) := ⟨gws_5 70 (by decide +kernel) (by decide +kernel), rfl, by decide +kernel, ⟨rfl, gtX9_in⟩⟩
theorem ml_9_91 : mlP 9 (91, 0, 1, 1, mX9_isCar) := ⟨gws_5 73 (by decide +kernel) (by decide +kernel), rfl, by decide +kernel, gvX9_isCar⟩
theorem ml_9_95 : mlP 9 (95, 1, 1, 1, mX9_mostOf) := ⟨gws_5 77 (by decide +kernel) (by decide +kernel), rfl, by decide +kernel, ⟨rfl, gtX9_mostOf⟩⟩
theorem ml_9_110 : mlP 9 (110, 0, 1, 2, mX9_fits) := ⟨gws_5 92 (by decide +kernel) (by decide +kernel), rfl, by decide +kernel, gvX9_fits⟩
theorem ml_9_114 : mlP 9 (114, 0, 1, 1, mX9_isLong) := ⟨gws_5 96 (by decide +kernel) (by decide +kernel), rfl, by decide +kernel, gvX9_isLong⟩
theorem ml_9_117 : mlP 9 (117, 0, 1, 4, mX9_draws) := ⟨gws_5 100 (by decide +kernel) (by decide +kernel), rfl, by decide +kernel, gvX9_draws⟩
theorem ml_9_121 : mlP 9 (121, 0, 1, 4, mX9_takesOf) := ⟨gws_5 181 (by decide +kernel) (by decide +kernel), rfl, by decide +kernel, gvX9_takesOf⟩
theorem ml_9_125 : mlP 9 (125, 0, 1, 5, mX9_asks) := ⟨gws_5 104 (by decide +kernel) (by decide +kernel), rfl, by decide +kernel, gvX9_asks⟩
theorem ml_9_143 : mlP 9 (143, 0, 1, 1, mX9_byteAt) := ⟨gws_5 116 (by decide +kernel) (by decide +kernel), rfl, by decide +kernel, gvX9_byteAt⟩
theorem ml_9_171 : mlP 9 (171, 0, 1, 2, mX9_isLetter) := ⟨gws_5 128 (by decide +kernel) (by decide +kernel), rfl, by decide +kernel, gvX9_isLetter⟩
theorem ml_9_177 : mlP 9 (177, 0, 0, 0, mX9_fail) := ⟨gws_5 136 (by decide +kernel) (by decide +kernel), rfl, by decide +kernel, gvX9_fail⟩
theorem ml_9_180 : mlP 9 (180, 0, 0, 0, mX9_next) := ⟨gws_5 112 (by decide +kernel) (by decide +kernel), rfl, by decide +kernel, gvX9_next⟩
theorem ml_9_183 : mlP 9 (183, 0, 1, 8, mX9_isWord) := ⟨gws_5 124 (by decide +kernel) (by decide +kernel), rfl, by decide +kernel, gvX9_isWord⟩
theorem ml_9_205 : mlP 9 (205, 0, 1, 1, mX9_isSign) := ⟨gws_5 168 (by decide +kernel) (by decide +kernel), rfl, by decide +kernel, gvX9_isSign⟩
theorem ml_9_208 : mlP 9 (208, 0, 1, 0, mX9_opens) := ⟨gws_5 152 (by decide +kernel) (by decide +kernel), rfl, by decide +kernel, gvX9_opens⟩
theorem ml_9_212 : mlP 9 (212, 0, 1, 0, mX9_atom) := ⟨gws_5 164 (by decide +kernel) (by decide +kernel), rfl, by decide +kernel, gvX9_atom⟩
theorem ml_9_216 : mlP 9 (216, 0, 1, 0, mX9_either) := ⟨gws_5 140 (by decide +kernel) (by decide +kernel), rfl, by decide +kernel, gvX9_either⟩
theorem ml_9_219 : mlP 9 (219, 0, 1, 0, mX9_name) := ⟨gws_5 172 (by decide +kernel) (by decide +kernel), rfl, by decide +kernel, gvX9_name⟩
theorem ml_9_222 : mlP 9 (222, 0, 1, 0, mX9_term) := ⟨gws_5 160 (by decide +kernel) (by decide +kernel), rfl, by decide +kernel, gvX9_term⟩
theorem ml_9_227 : mlP 9 (227, 0, 1, 0, mX9_not) := ⟨gws_5 148 (by decide +kernel) (by decide +kernel), rfl, by decide +kernel, gvX9_not⟩
theorem ml_9_230 : mlP 9 (230, 0, 1, 0, mX9_added) := ⟨gws_5 156 (by decide +kernel) (by decide +kernel), rfl, by decide +kernel, gvX9_added⟩
theorem ml_9_235 : mlP 9 (235, 0, 1, 0, mX9_both) := ⟨gws_5 144 (by decide +kernel) (by decide +kernel), rfl, by decide +kernel, gvX9_both⟩
theorem ml_9_238 : mlP 9 (238, 0, 1, 1, mX9_part) := ⟨gws_5 132 (by decide +kernel) (by decide +kernel), rfl, by decide +kernel, gvX9_part⟩
theorem ml_9_242 : mlP 9 (242, 0, 1, 2, mX9_read) := ⟨gws_5 108 (by decide +kernel) (by decide +kernel), rfl, by decide +kernel, gvX9_read⟩
theorem ml_9_246 : mlP 9 (246, 1, 1, 3, mX9_within) := ⟨gws_5 178 (by decide +kernel) (by decide +kernel), rfl, by decide +kernel, ⟨rfl, gtX9_within⟩⟩
theorem ml_9_253 : mlP 9 (253, 0, 1, 3, mX9_nextOf) := ⟨gws_5 214 (by decide +kernel) (by decide +kernel), rfl, by decide +kernel, gvX9_nextOf⟩
theorem ml_9_256 : mlP 9 (256, 0, 0, 5, mX9_begins) := ⟨gws_5 218 (by decide +kernel) (by decide +kernel), rfl, by decide +kernel, gvX9_begins⟩
theorem ml_9_260 : mlP 9 (260, 0, 1, 1, mX9_setOf) := ⟨gws_5 206 (by decide +kernel) (by decide +kernel), rfl, by decide +kernel, gvX9_setOf⟩
theorem ml_9_263 : mlP 9 (263, 0, 0, 2, mX9_goes) := ⟨gws_5 210 (by decide +kernel) (by decide +kernel), rfl, by decide +kernel, gvX9_goes⟩
theorem ml_9_267 : mlP 9 (267, 0, 1, 1, mX9_waitedOf) := ⟨gws_5 222 (by decide +kernel) (by decide +kernel), rfl, by decide +kernel, gvX9_waitedOf⟩
theorem ml_9_270 : mlP 9 (270, 0, 0, 0, mX9_goesAll) := ⟨gws_5 202 (by decide +kernel) (by decide +kernel), rfl, by decide +kernel, gvX9_goesAll⟩
theorem ml_9_273 : mlP 9 (273, 0, 1, 2, mX9_badOf) := ⟨gws_5 239 (by decide +kernel) (by decide +kernel), rfl, by decide +kernel, gvX9_badOf⟩
theorem ml_9_278 : mlP 9 (278, 0, 1, 0, mX9_badness) := ⟨gws_5 235 (by decide +kernel) (by decide +kernel), rfl, by decide +kernel, gvX9_badness⟩
theorem ml_9_281 : mlP 9 (281, 0, 1, 0, mX9_lastOff) := ⟨gws_6 3 (by decide +kernel) (by decide +kernel), rfl, by decide +kernel, gvX9_lastOff⟩
theorem ml_9_284 : mlP 9 (284, 0, 1, 2, mX9_isAhead) := ⟨gws_6 7 (by decide +kernel) (by decide +kernel), rfl, by decide +kernel, gvX9_isAhead⟩
theorem ml_9_293 : mlP 9 (293, 0, 0, 2, mX9_seeks) := ⟨gws_6 19 (by decide +kernel) (by decide +kernel), rfl, by decide +kernel, gvX9_seeks⟩
theorem ml_9_296 : mlP 9 (296, 1, 1, 1, mX9_isSheet) := ⟨gws_6 39 (by decide +kernel) (by decide +kernel), rfl, by decide +kernel, ⟨rfl, gtX9_isSheet⟩⟩
theorem ml_9_301 : mlP 9 (301, 0, 1, 1, mX9_unlike) := ⟨gws_6 43 (by decide +kernel) (by decide +kernel), rfl, by decide +kernel, gvX9_unlike⟩
theorem ml_9_304 : mlP 9 (304, 0, 0, 3, mX9_lays) := ⟨gws_6 47 (by decide +kernel) (by decide +kernel), rfl, by decide +kernel, gvX9_lays⟩
theorem ml_9_308 : mlP 9 (308, 0, 1, 3, mX9_sheet) := ⟨gws_6 55 (by decide +kernel) (by decide +kernel), rfl, by decide +kernel, gvX9_sheet⟩
theorem ml_9_312 : mlP 9 (312, 0, 1, 1, mX9_drives) := ⟨gws_6 65 (by decide +kernel) (by decide +kernel), rfl, by decide +kernel, gvX9_drives⟩
theorem ml_9_328 : mlP 9 (328, 0, 1, 3, mX9_car) := ⟨gws_6 102 (by decide +kernel) (by decide +kernel), rfl, by decide +kernel, gvX9_car⟩
theorem ml_9_331 : mlP 9 (331, 1, 1, 1, mX9_over) := ⟨gws_6 107 (by decide +kernel) (by decide +kernel), rfl, by decide +kernel, ⟨rfl, gtX9_over⟩⟩
theorem ml_9 : ∀ q ∈ mtlT 9, mlP 9 q := List.forall_mem_cons.mpr ⟨ml_9_75, List.forall_mem_cons.mpr ⟨ml_9_85, List.forall_mem_cons.mpr ⟨ml_9_91, List.forall_mem_cons.mpr ⟨ml_9_95, List.forall_mem_cons.mpr ⟨ml_9_110, List.forall_mem_cons.mpr ⟨ml_9_114, List.forall_mem_cons.mpr ⟨ml_9_117, List.forall_mem_cons.mpr ⟨ml_9_121, List.forall_mem_cons.mpr ⟨ml_9_125, List.forall_mem_cons.mpr ⟨ml_9_143, List.forall_mem_cons.mpr ⟨ml_9_171, List.forall_mem_cons.mpr ⟨ml_9_177, List.forall_mem_cons.mpr ⟨ml_9_180, List.forall_mem_cons.mpr ⟨ml_9_183, List.forall_mem_cons.mpr ⟨ml_9_205, List.forall_mem_cons.mpr ⟨ml_9_208, List.forall_mem_cons.mpr ⟨ml_9_212, List.forall_mem_cons.mpr ⟨ml_9_216, List.forall_mem_cons.mpr ⟨ml_9_219, List.forall_mem_cons.mpr ⟨ml_9_222, List.forall_mem_cons.mpr ⟨ml_9_227, List.forall_mem_cons.mpr ⟨ml_9_230, List.forall_mem_cons.mpr ⟨ml_9_235, List.forall_mem_cons.mpr ⟨ml_9_238, List.forall_mem_cons.mpr ⟨ml_9_242, List.forall_mem_cons.mpr ⟨ml_9_246, List.forall_mem_cons.mpr ⟨ml_9_253, List.forall_mem_cons.mpr ⟨ml_9_256, List.forall_mem_cons.mpr ⟨ml_9_260, List.forall_mem_cons.mpr ⟨ml_9_263, List.forall_mem_cons.mpr ⟨ml_9_267, List.forall_mem_cons.mpr ⟨ml_9_270, List.forall_mem_cons.mpr ⟨ml_9_273, List.forall_mem_cons.mpr ⟨ml_9_278, List.forall_mem_cons.mpr ⟨ml_9_281, List.forall_mem_cons.mpr ⟨ml_9_284, List.forall_mem_cons.mpr ⟨ml_9_293, List.forall_mem_cons.mpr ⟨ml_9_296, List.forall_mem_cons.mpr ⟨ml_9_301, List.forall_mem_cons.mpr ⟨ml_9_304, List.forall_mem_cons.mpr ⟨ml_9_308, List.forall_mem_cons.mpr ⟨ml_9_312, List.forall_mem_cons.mpr ⟨ml_9_328, List.forall_mem_cons.mpr ⟨ml_9_331, fun _ h => absurd h List.not_mem_nil⟩⟩⟩⟩⟩⟩⟩⟩⟩⟩⟩⟩⟩⟩⟩⟩⟩⟩⟩⟩⟩⟩⟩⟩⟩⟩⟩⟩⟩⟩⟩⟩⟩⟩⟩⟩⟩⟩⟩⟩⟩⟩⟩⟩
theorem ml_20_335 : mlP 20 (335, 0, 1, 0, mJ0_coder_7d493) := ⟨gws_1 223 (by decide +kernel) (by decide +kernel), rfl, by decide +kernel, gvJ0_coder_7d493⟩
theorem ml_20_492 : mlP 20 (492, 0, 1, 0, mJ0_isLatin1_aae02) := ⟨gws_1 233 (by decide +kernel) (by decide +kernel), rfl, by decide +kernel, gvJ0_isLatin1_aae02⟩
theorem ml_20_495 : mlP 20 (495, 1, 1, 2, mJ1_charAt_3b067) := ⟨gws_1 237 (by decide +kernel) (by decide +kernel), rfl, by decide +kernel, ⟨rfl, gtJ1_charAt_3b067⟩⟩
theorem ml_20_505 : mlP 20 (505, 0, 1, 0, mJ0_length_8abf5) := ⟨gws_2 73 (by decide +kernel) (by decide +kernel), rfl, by decide +kernel, gvJ0_length_8abf5⟩
theorem ml_20_633 : mlP 20 (633, 0, 1, 2, mJ0_indexOf_7cf53) := ⟨gws_2 69 (by decide +kernel) (by decide +kernel), rfl, by decide +kernel, gvJ0_indexOf_7cf53⟩
theorem ml_20_637 : mlP 20 (637, 1, 1, 4, mJ1_indexOf_4cfef) := ⟨gws_2 74 (by decide +kernel) (by decide +kernel), rfl, by decide +kernel, ⟨rfl, gtJ1_indexOf_4cfef⟩⟩
theorem ml_20_1059 : mlP 20 (1059, 1, 1, 3, mJ3_checkIndex_8e157) := ⟨gws_2 5 (by decide +kernel) (by decide +kernel), rfl, by decide +kernel, ⟨rfl, gtJ3_checkIndex_8e157⟩⟩
theorem ml_20_1062 : mlP 20 (1062, 1, 1, 4, mJ3_checkFromToIndex_8c36e) := ⟨gws_2 104 (by decide +kernel) (by decide +kernel), rfl, by decide +kernel, ⟨rfl, gtJ3_checkFromToIndex_8c36e⟩⟩
theorem ml_20 : ∀ q ∈ mtlT 20, mlP 20 q := List.forall_mem_cons.mpr ⟨ml_20_335, List.forall_mem_cons.mpr ⟨ml_20_492, List.forall_mem_cons.mpr ⟨ml_20_495, List.forall_mem_cons.mpr ⟨ml_20_505, List.forall_mem_cons.mpr ⟨ml_20_633, List.forall_mem_cons.mpr ⟨ml_20_637, List.forall_mem_cons.mpr ⟨ml_20_1059, List.forall_mem_cons.mpr ⟨ml_20_1062, fun _ h => absurd h List.not_mem_nil⟩⟩⟩⟩⟩⟩⟩⟩
theorem ml_21_9 : mlP 21 (9, 1, 0, 2, mJ0_checkIndex_df160) := ⟨gws_2 0 (by decide +kernel) (by decide +kernel), rfl, by decide +kernel, ⟨rfl, gtJ0_checkIndex_df160⟩⟩
theorem ml_21_88 : mlP 21 (88, 1, 1, 1, mJ1_canEncode_9a6ad) := ⟨gws_2 77 (by decide +kernel) (by decide +kernel), rfl, by decide +kernel, ⟨rfl, gtJ1_canEncode_9a6ad⟩⟩
theorem ml_21_95 : mlP 21 (95, 1, 1, 4, mJ1_indexOfChar_4cfef) := ⟨gws_2 86 (by decide +kernel) (by decide +kernel), rfl, by decide +kernel, ⟨rfl, gtJ1_indexOfChar_4cfef⟩⟩
theorem ml_21 : ∀ q ∈ mtlT 21, mlP 21 q := List.forall_mem_cons.mpr ⟨ml_21_9, List.forall_mem_cons.mpr ⟨ml_21_88, List.forall_mem_cons.mpr ⟨ml_21_95, fun _ h => absurd h List.not_mem_nil⟩⟩⟩
theorem ml_22_241 : mlP 22 (241, 1, 0, 3, mJ0_checkBoundsBeginEnd_23922) := ⟨gws_2 101 (by decide +kernel) (by decide +kernel), rfl, by decide +kernel, ⟨rfl, gtJ0_checkBoundsBeginEnd_23922⟩⟩
theorem ml_22_414 : mlP 22 (414, 1, 0, 2, mJ0_checkIndex_df160) := ⟨gws_2 17 (by decide +kernel) (by decide +kernel), rfl, by decide +kernel, ⟨rfl, gtJ0_checkIndex_df160⟩⟩
theorem ml_22 : ∀ q ∈ mtlT 22, mlP 22 q := List.forall_mem_cons.mpr ⟨ml_22_241, List.forall_mem_cons.mpr ⟨ml_22_414, fun _ h => absurd h List.not_mem_nil⟩⟩
theorem mtl_ok {o i v rk n : Nat} {M : Md} (h : mtl o i = some (v, rk, n, M)) : mlP o (i, v, rk, n, M) := by
  have hm := look_mem h
  by_cases h0 : o = 0 ∨ o = 1 ∨ o = 2 ∨ o = 4 ∨ o = 5 ∨ o = 6 ∨ o = 7 ∨ o = 8 ∨ o = 9 ∨ o = 20 ∨ o = 21 ∨ o = 22
  · rcases h0 with rfl | rfl | rfl | rfl | rfl | rfl | rfl | rfl | rfl | rfl | rfl | rfl
    · exact ml_0 _ hm
    · exact ml_1 _ hm
    · exact ml_2 _ hm
    · exact ml_4 _ hm
    · exact ml_5 _ hm
    · exact ml_6 _ hm
    · exact ml_7 _ hm
    · exact ml_8 _ hm
    · exact ml_9 _ hm
    · exact ml_20 _ hm
    · exact ml_21 _ hm
    · exact ml_22 _ hm
  · exfalso
    have e : mtlT o = [] := by
      unfold mtlT
      split <;> first | rfl | (exfalso; apply h0; decide)
    rw [e] at hm
    cases hm
