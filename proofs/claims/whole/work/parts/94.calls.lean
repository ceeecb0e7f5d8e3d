/-! CONSTRUCTORS 4: new, a nest mate's constructor, the machine's methods called, one map of addresses out of several -/
section NN
variable {p : Program} {l : Launch} {e : Env} {R : Room} {s : State} {m : MethodId} {args : Array Value} {below : List Frame} {meth : Method} {c : Code} {H : Heap} {locs : List Loc} {cells slt : Nat} {Q : State → Prop}
variable {cc : ByteArray} {pc : Nat} {ls : Array Slot} {rest : List Value} {dC : Nat → ClassId} {dI : Nat → Nat → Nat} {A : Nat → Prop} {a : Nat} {ws : va_W} {H0 : Heap} {Aa : Nat → ClassId} {tys : List (ClassId × FieldType)}
theorem nw_new {own : String} {ci idx : Nat} {fs : List Value} (hexec : p.tables.exec = Jvm.exec) (hb : c.code = cc) (hgs : ∀ w ∈ gws, w.before args s = true) (hown : s.vm.findClass own = some m.cls) (hK : va_K (dC, dI) scl tys s) (hP : va_P (dC, dI) scl ws H) (hD : va_D A ws) (hS : va_S A H0 H locs) (hA : ∀ q, H0.size ≤ q → A q)
    (hci : ci < 10) (hc3 : ci ≠ 3) (hcl : Cond.classLink own idx (RO ci) ∈ gws) (hinst : Cond.instantiable (RO ci) (nF ci) ∈ gws) (hini : Cond.initialized (RO ci) ∈ gws) (hfs : (List.range (nF ci)).all (fun j => decide (defaultValue (tyF ci j) = vp_V fs j)) = true) (hcells : cells + 1 ≤ R.cells) (hslots : slt + nF ci ≤ R.slots) (hdg : decode cc pc = .ok (.new idx, 3))
    (kk : ∀ (q : Nat) (H1 : Heap), va_P (dC, dI) scl (ws ++ [(q, .inr (ci, fs))]) H1 → va_D A (ws ++ [(q, .inr (ci, fs))]) → va_S A H0 H1 locs → W p l e R s m args below meth c H1 locs (cells + 1) (slt + nF ci) Q (F0 m (pc + 3) ls (.ref q :: rest))) : W p l e R s m args below meth c H locs cells slt Q (F0 m pc ls rest) :=
  va_new (ci := ci) (fs := fs) (C := RO ci) (T := TF ci) (N := nF ci) hexec hb hgs (lay_ok hci) (tyF ci) (ty_ok ci hci) hown (hgs _ hcl) (hgs _ hinst) (hgs _ hini) hK hP hD hS hA (scl_at ci hci hc3) (fun j hj => of_decide_eq_true (List.all_eq_true.mp hfs j (List.mem_range.mpr hj))) hcells hslots hdg kk
theorem mk_callN {own host : String} {y : MethodName} {bytes : ByteArray} {maxL ci n nL mc ms q index : Nat} {fs As : List Value} {post : (Nat → Nat → Nat) → Prop} {prs : List (Nat × Nat)} (hexec : p.tables.exec = Jvm.exec) (hb : c.code = cc) (hml : c.maxLocals = nL) (hown : s.vm.findClass own = some m.cls) (hgs : ∀ w ∈ gws, w.before args s = true)
    (hK : va_K (dC, dI) scl (tyS Aa) s) (hov : ovA Aa s) (hP : va_P (dC, dI) scl (ws ++ [(q, .inr (ci, fs))]) H) (hD : va_D A (ws ++ [(q, .inr (ci, fs))])) (hS : va_S A H0 H locs) (hA : ∀ q, H0.size ≤ q → A q)
    (hM : CT l dC dI Aa y bytes maxL ci fs As post prs mc ms q H.size) (hcode : Cond.code y bytes maxL none ∈ gws) (hini : Cond.initialized y.cls ∈ gws) (hlink : va_Nw (.methodLinkNest own index y host) s) (hins : Cond.instanceMethod y ∈ gws) (hy : y.name = "<init>")
    (hd : y.cls ≠ "java/lang/invoke/MethodHandle" ∧ y.cls ≠ "java/lang/invoke/VarHandle" ∧ (parseMethodDescriptor y.desc).map (fun d => d.parameters.length) = some n) (hR : 3 ≤ R.frames ∧ 8 + (maxL + 11) + 64 ≤ R.locals) (hf : cells + mc ≤ R.cells ∧ slt + ms ≤ R.slots) (hls : ls.size = nL) (hn : As.length = n) (hrest : (rest.map fun v => v.category).sum ≤ 8) (hdg : decode cc pc = .ok (.invokespecial index, 3))
    (kk : ∀ (u : Nat → Nat → Nat) (H1 : Heap) (locs1 : List Loc), post u → va_P (dC, dI) scl (ws ++ wl u Aa prs sg0) H1 → va_D A (ws ++ wl u Aa prs sg0) → va_S A H0 H1 locs1 → W p l e R s m args below meth c H1 locs1 (cells + mc) (slt + ms) Q (F0 m (pc + 3) ls rest)) :
    W p l e R s m args below meth c H locs cells slt Q (F0 m pc ls (As.reverse ++ .ref q :: rest)) := by
  have hF : ∀ x, va_A [(q, .inr (ci, fs))] H.size x → A x := by
    intro x hx
    rcases hx with ⟨k, e9, h⟩ | h
    · have h9 := List.mem_of_getElem? h
      exact (vD_iff.mp (vD_r hD)).2 _ h9
    · exact hA x (Nat.le_trans hS.1 h)
  have hG : GoodIn gws (Cond.code y bytes maxL none :: gws) := fun w hw => by
    have hm : w ∈ gws := by
      rcases List.mem_cons.mp hw with rfl | h
      · exact hcode
      · exact h
    exact ⟨hm, gws_good hm⟩
  refine va_callv (va_runIN (As := As) (rest := rest) (nL := nL) (Ts := gws) (own := own) (host := host) ⟨hexec, hb, hml, hown, hgs⟩ hM ⟨va_cnB n hgs hG rfl rfl rfl hlink (hgs _ hini) hd hR, hy, hgs _ hins⟩ ⟨cblind, fun U hU hW => ⟨rfl, by rw [hU], by rw [hU]; exact vP_r hP, va_K.moved hW.alike hK, hov.moved hW.alike, (vD_r hD).weaken (fun _ _ _ _ => trivial)⟩⟩ rfl hn hls rfl (lv_room hrest) hdg hf) hS (fun x _ h => hF x h) hF (fun u t H1 locs1 ht hvm hw hB hz1 hk1 hS1 => ?_)
  obtain ⟨hP1, hD1⟩ := hB
  rw [ht] at hP1
  obtain ⟨hP2, hD2⟩ := v_join hP hD hk1 hF hP1 hD1
  exact kk u H1 locs1 hw hP2 hD2 hS1
end NN
section RM
variable {p : Program} {l : Launch} {e : Env} {R : Room} {s : State} {m : MethodId} {args : Array Value} {below : List Frame} {meth : Method} {c : Code} {H : Heap} {locs : List Loc} {cells slt : Nat} {Q : State → Prop}
variable {cc : ByteArray} {pc : Nat} {la : Array Slot} {rest : List Value} {dC : Nat → ClassId} {dI : Nat → Nat → Nat} {ad : Nat → Nat → Nat} {nz : Value} {Aa : Nat → ClassId} {tys : List (ClassId × FieldType)} {prs : List (Nat × Nat)} {A : Nat → Prop}
theorem rm_run {own : String} {M : Md} {idx n nL a0 j0 : Nat} {as : List PV} {σ σ' : Sg} {r : Option PV} (hexec : p.tables.exec = Jvm.exec) (hb : c.code = cc) (hml : c.maxLocals = nL) (hown : s.vm.findClass own = some m.cls) (hgs : ∀ w ∈ gws, w.before args s = true)
    (hK : va_K (dC, dI) scl tys s) (hz : nz.category = 1) (hpo : prsOk prs) (hto : tysOk Aa tys prs) (hP : va_P (dC, dI) scl (wl ad Aa prs σ) H) (hD : va_D A (wl ad Aa prs σ)) (hSF : SF ad nz A s s.heap) (hS : va_S A s.heap H locs) (hA : ∀ q, s.heap.size ≤ q → A q)
    (hV : gV M) (hlink : Cond.methodLink own idx M.2.1 ∈ gws) (hgn : gN M n) (hrun : RUN 60 M (vr a0 j0 :: as) σ = some (r, σ')) (hm : (a0, j0) ∈ prs) (hkd : kd a0 = 10 + M.1) (hT : okT prs as) (hσ : okS σ) (hn : as.length = n) (hsl : (slots (vr a0 j0 :: as)).length ≤ M.2.2.2.1)
    (hR : 62 ≤ R.frames ∧ 6200 ≤ R.locals) (hc : cells ≤ R.cells ∧ slt ≤ R.slots) (hls : la.size = nL) (hrest : (rest.map fun v => v.category).sum ≤ 8) (hdg : decode cc pc = .ok (.invokevirtual idx, 3)) :
    va_Run p l e R s m args below meth c H locs cells slt 0 0 (F0 m pc la ((as.map (kc ad nz)).reverse ++ .ref (ad a0 j0) :: rest)) rest (Qcx dC dI ad Aa prs r σ' (va_A (wl ad Aa prs σ) H.size) (Value.ref (ad a0 j0) :: as.map (kc ad nz)).toArray) (va_A (wl ad Aa prs σ) H.size) := by
  obtain ⟨hgM, hins, hsel⟩ := hV
  have hp9 := hpo.2 a0 j0 hm
  have hkc : kc ad nz (vr a0 j0) = .ref (ad a0 j0) := kc_r (by omega)
  have hD0 := wl_D (fun _ _ _ => 0) hD
  have hM := run_met (l := l) (dC := dC) (dI := dI) (ad := ad) (nz := nz) (Aa := Aa) (tys := tys) (prs := prs) hz hpo hto hgM hrun (okT.cons (Or.inl hm) hT) hσ hsl H.size
  have hm60 := hgM.2.2.2.1
  refine va_runV (C := RO M.1) (nL := nL) (Ts := gws) (own := own) ⟨hexec, hb, hml, hown, hgs⟩ hM
    (cwV n hgs (good_ws hgM (fun w hw => by
      simp only [List.mem_cons, List.not_mem_nil, or_false] at hw
      rcases hw with rfl | rfl | rfl | rfl
      · exact hlink
      · exact hins
      · exact hsel
      · exact hgM.2.2.2.2)) rfl rfl rfl ⟨hgM.2.1, by rw [hgM.2.1]; exact (RO_mh _).1, by rw [hgM.2.1]; exact (RO_mh _).2, hgn⟩ ⟨hR.1, by show 8 + (M.2.2.2.1 + 11) + 100 * (60 + 1) ≤ R.locals; omega⟩)
    ⟨blind, ?_, fun U hU hWm => ?_⟩ rfl (by rw [List.length_map]; exact hn) hls rfl (lv_room hrest) hdg hc
  · obtain ⟨qq, hqq⟩ := cell_at hm
    exact va_recv (cl := scl) hK hP (scl_at M.1 (by omega) (fun z => kd_ne13 a0 (by omega))) (q0 := qq) (by rw [wl_get hqq, enc_obj (by omega), show kd a0 - 10 = M.1 by omega])
  · have h9 := pcx_at (as := vr a0 j0 :: as) (nz := nz) hK hD0 hSF hA hP hS U hU hWm
    rw [List.map_cons, hkc] at h9
    exact h9
end RM
theorem wl_app (ad : Nat → Nat → Nat) (Aa : Nat → ClassId) (p q : List (Nat × Nat)) (σ : Sg) : wl ad Aa (p ++ q) σ = wl ad Aa p σ ++ wl ad Aa q σ := List.map_append
/-- the addresses that a cell speaks of -/
def nd1 (q : Nat × Nat) : List (Nat × Nat) := q :: (match kd q.1 with
  | 0 => []
  | 1 => []
  | 2 => (List.range (ln q.1)).map (fun i => (rf q.1 0, i))
  | 3 => (List.range (ln q.1)).map (fun i => (rf q.1 0, i))
  | k => ((List.range (nF (k - 10))).filter (fun i => fk (k - 10) i == 3)).map (fun i => (rf q.1 i, q.2)))
def nd (prs : List (Nat × Nat)) : List (Nat × Nat) := prs.flatMap nd1
theorem enc_cg {ad ad' : Nat → Nat → Nat} {Aa : Nat → ClassId} {σ : Sg} {c j : Nat} (h : ∀ q ∈ nd1 (c, j), ad q.1 q.2 = ad' q.1 q.2) : enc ad Aa σ c j = enc ad' Aa σ c j := by
  unfold nd1 at h
  dsimp only at h
  have h := (List.forall_mem_cons.mp h).2
  unfold enc
  generalize kd c = k at h ⊢
  split
  · rfl
  · rfl
  · have hf : (fun i => if i < ln c then some (ad (rf c 0) i) else none) = (fun i => if i < ln c then some (ad' (rf c 0) i) else none) := by
      funext i
      by_cases hi : i < ln c
      · have h9 : ad (rf c 0) i = ad' (rf c 0) i := h (rf c 0, i) (List.mem_map.mpr ⟨i, List.mem_range.mpr hi, rfl⟩)
        rw [if_pos hi, if_pos hi, h9]
      · rw [if_neg hi, if_neg hi]
    rw [hf]
  · have hf : (fun i => if i < ln c then some (ad (rf c 0) i) else none) = (fun i => if i < ln c then some (ad' (rf c 0) i) else none) := by
      funext i
      by_cases hi : i < ln c
      · have h9 : ad (rf c 0) i = ad' (rf c 0) i := h (rf c 0, i) (List.mem_map.mpr ⟨i, List.mem_range.mpr hi, rfl⟩)
        rw [if_pos hi, if_pos hi, h9]
      · rw [if_neg hi, if_neg hi]
    rw [hf]
  · rename_i k0 n0 n1 n2 n3
    have h9 : ∀ i, i < nF (k - 10) → fk (k - 10) i = 3 → ad (rf c i) j = ad' (rf c i) j := by
      intro i hi hf
      refine h (rf c i, j) ?_
      split
      · exact absurd rfl n0
      · exact absurd rfl n1
      · exact absurd rfl n2
      · exact absurd rfl n3
      · exact List.mem_map.mpr ⟨i, List.mem_filter.mpr ⟨List.mem_range.mpr hi, by rw [hf]; rfl⟩, rfl⟩
    congr 2
    refine List.map_congr_left (fun i hi => ?_)
    have hi := List.mem_range.mp hi
    unfold fV
    split
    · rfl
    · rename_i hf
      rw [h9 i hi hf]
    · rfl
theorem wl_cg {ad ad' : Nat → Nat → Nat} {Aa : Nat → ClassId} {σ : Sg} {prs : List (Nat × Nat)} (h : ∀ q ∈ nd prs, ad q.1 q.2 = ad' q.1 q.2) : wl ad Aa prs σ = wl ad' Aa prs σ := by
  refine List.map_congr_left (fun q hq => ?_)
  have h1 : ∀ x ∈ nd1 q, ad x.1 x.2 = ad' x.1 x.2 := fun x hx => h x (List.mem_flatMap.mpr ⟨q, hq, hx⟩)
  rw [h1 q List.mem_cons_self, enc_cg (c := q.1) (j := q.2) h1]
