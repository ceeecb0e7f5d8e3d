/-! CONSTRUCTORS 2: contracts of constructors, fields put, constructors called -/
def cPre (dC : Nat → ClassId) (dI : Nat → Nat → Nat) (Aa : Nat → ClassId) (ci : Nat) (fs As : List Value) (h0 sz : Nat) : Array Value → State → Prop :=
  va_Pc (.ref h0 :: As) (fun U => U.heap.size = sz ∧ va_P (dC, dI) scl [(h0, .inr (ci, fs))] U.heap ∧ va_K (dC, dI) scl (tyS Aa) U ∧ ovA Aa U ∧ va_D (fun _ => True) [(h0, .inr (ci, fs))])
def cPost (dC : Nat → ClassId) (dI : Nat → Nat → Nat) (Aa : Nat → ClassId) (post : (Nat → Nat → Nat) → Prop) (prs : List (Nat × Nat)) (A : Nat → Prop) : Array Value → State → Outcome → State → Prop :=
  va_Qv post (fun u t => va_P (dC, dI) scl (wl u Aa prs sg0) t.heap ∧ va_D A (wl u Aa prs sg0)) A
/-- the contract of a constructor: from a raw object to the cells prs of the store sg0 -/
def CT (l : Launch) (dC : Nat → ClassId) (dI : Nat → Nat → Nat) (Aa : Nat → ClassId) (y : MethodName) (bytes : ByteArray) (maxL ci : Nat) (fs As : List Value) (post : (Nat → Nat → Nat) → Prop) (prs : List (Nat × Nat)) (mc ms h0 sz : Nat) : Prop :=
  Met l y (Cond.code y bytes maxL none :: gws) ({ frames := 2, cells := mc, slots := ms, locals := 64 }) (cPre dC dI Aa ci fs As h0 sz) (cPost dC dI Aa post prs (va_A [(h0, .inr (ci, fs))] sz)) mc ms (va_A [(h0, .inr (ci, fs))] sz)
section NC
variable {p : Program} {l : Launch} {e : Env} {R : Room} {s : State} {m : MethodId} {args : Array Value} {below : List Frame} {meth : Method} {c : Code} {H : Heap} {locs : List Loc} {cells slots : Nat} {Q : State → Prop}
variable {cc : ByteArray} {pc : Nat} {ls : Array Slot} {rest : List Value} {dC : Nat → ClassId} {dI : Nat → Nat → Nat} {A : Nat → Prop} {a : Nat} {ws : va_W} {H0 : Heap} {Aa : Nat → ClassId} {tys : List (ClassId × FieldType)}
theorem nw_put {o k idx : Nat} {fs : List Value} {v : Value} (hexec : p.tables.exec = Jvm.exec) (hb : c.code = cc) (hgs : ∀ w ∈ gws, w.before args s = true) (hown : s.vm.findClass (RO o) = some m.cls) (hin2 : meth.name = "<init>") (hK : va_K (dC, dI) scl tys s) (hP : va_P (dC, dI) scl ((a, .inr (o, fs)) :: ws) H) (hD : va_D A ((a, .inr (o, fs)) :: ws)) (hS : va_S A H0 H locs)
    (ho : o < 10) (hf : ftl o idx = some (o, k)) (hdecl : (TF o k).1 = RO o) (hn : narrow (tyF o k) v = v) (hfit : fits (tyF o k) v = true) (hl : k < fs.length) (hdg : decode cc pc = .ok (.putfield idx, 3))
    (kk : ∀ (H1 : Heap) (locs1 : List Loc), va_P (dC, dI) scl ((a, .inr (o, fs.set k v)) :: ws) H1 → va_D A ((a, .inr (o, fs.set k v)) :: ws) → va_S A H0 H1 locs1 → W p l e R s m args below meth c H1 locs1 cells slots Q (F0 m (pc + 3) ls rest)) :
    W p l e R s m args below meth c H locs cells slots Q (F0 m pc ls (v :: .ref a :: rest)) := by
  obtain ⟨hlk, hkn⟩ := ftl_own hf ho
  cases hfin : (TF o k).2.2.2 with
  | true => exact va_putF (D := (dC, dI)) (own := RO o) (ref := (TF o k).1) (ci := o) (v := v) (ty := tyF o k) (C := RO o) (T := TF o) (N := nF o) hexec hb hgs (lay_ok ho) (tyF o) (ty_ok o ho) (nm_ok o ho) hown hK hP hD hS 0 rfl (scl_at o ho (ne3 hkn)) k hkn (hgs _ hlk) (fun _ h9 => h9) hfin hin2 hdecl (ty_ok o ho k hkn) hn hfit hl hdg kk
  | false => exact va_put (D := (dC, dI)) (own := RO o) (ref := (TF o k).1) (ci := o) (v := v) (ty := tyF o k) (C := RO o) (T := TF o) (N := nF o) hexec hb hgs (lay_ok ho) (tyF o) (ty_ok o ho) (nm_ok o ho) hown hK hP hD hS 0 rfl (scl_at o ho (ne3 hkn)) k hkn (hgs _ hlk) (fun _ h9 => h9) hfin (ty_ok o ho k hkn) hn hfit hl hdg kk
theorem cblind {ci : Nat} {fs As : List Value} {h0 sz : Nat} : FrameBlind (cPre dC dI Aa ci fs As h0 sz) := by
  intro a U g mk h
  obtain ⟨z0, z1, z2, z3, z4, z5⟩ := h
  exact ⟨z0, z1, z2, va_K.moved (u := U) (U := U.calling g mk a) (Vm.Alike.refl U.vm) z3, ovA.moved (u := U) (U := U.calling g mk a) (Vm.Alike.refl U.vm) z4, z5⟩
theorem mk_call {own : String} {y : MethodName} {bytes : ByteArray} {maxL ci n nL mc ms q index : Nat} {fs As : List Value} {post : (Nat → Nat → Nat) → Prop} {prs : List (Nat × Nat)} (hexec : p.tables.exec = Jvm.exec) (hb : c.code = cc) (hml : c.maxLocals = nL) (hown : s.vm.findClass own = some m.cls) (hgs : ∀ w ∈ gws, w.before args s = true)
    (hK : va_K (dC, dI) scl (tyS Aa) s) (hov : ovA Aa s) (hP : va_P (dC, dI) scl (ws ++ [(q, .inr (ci, fs))]) H) (hD : va_D A (ws ++ [(q, .inr (ci, fs))])) (hS : va_S A H0 H locs) (hA : ∀ q, H0.size ≤ q → A q)
    (hM : CT l dC dI Aa y bytes maxL ci fs As post prs mc ms q H.size) (hcode : Cond.code y bytes maxL none ∈ gws) (hini : Cond.initialized y.cls ∈ gws) (hlink : Cond.methodLink own index y ∈ gws) (hins : Cond.instanceMethod y ∈ gws) (hy : y.name = "<init>")
    (hd : y.cls ≠ "java/lang/invoke/MethodHandle" ∧ y.cls ≠ "java/lang/invoke/VarHandle" ∧ (parseMethodDescriptor y.desc).map (fun d => d.parameters.length) = some n) (hR : 3 ≤ R.frames ∧ 8 + (maxL + 11) + 64 ≤ R.locals) (hf : cells + mc ≤ R.cells ∧ slots + ms ≤ R.slots) (hls : ls.size = nL) (hn : As.length = n) (hrest : (rest.map fun v => v.category).sum ≤ 8) (hdg : decode cc pc = .ok (.invokespecial index, 3))
    (kk : ∀ (u : Nat → Nat → Nat) (H1 : Heap) (locs1 : List Loc), post u → va_P (dC, dI) scl (ws ++ wl u Aa prs sg0) H1 → va_D A (ws ++ wl u Aa prs sg0) → va_S A H0 H1 locs1 → W p l e R s m args below meth c H1 locs1 (cells + mc) (slots + ms) Q (F0 m (pc + 3) ls rest)) :
    W p l e R s m args below meth c H locs cells slots Q (F0 m pc ls (As.reverse ++ .ref q :: rest)) := by
  have hF : ∀ x, va_A [(q, .inr (ci, fs))] H.size x → A x := by
    intro x hx
    rcases hx with ⟨k, e9, h⟩ | h
    · have h9 := List.mem_of_getElem? h
      exact (vD_iff.mp (vD_r hD)).2 _ h9
    · exact hA x (Nat.le_trans hS.1 h)
  have hG : GoodIn gws (Cond.code y bytes maxL none :: gws) := fun w hw => by
    have hm : w ∈ gws := by
      rcases List.mem_cons.mp hw with rfl | h
      · exact hcode
      · exact h
    exact ⟨hm, gws_good hm⟩
  refine va_callv (va_runI (As := As) (rest := rest) (nL := nL) (Ts := gws) (own := own) ⟨hexec, hb, hml, hown, hgs⟩ hM (cwI n hgs hG rfl rfl rfl (hgs _ hini) (hgs _ hlink) (hgs _ hins) hy hd hR) ⟨cblind, fun U hU hW => ⟨rfl, by rw [hU], by rw [hU]; exact vP_r hP, va_K.moved hW.alike hK, hov.moved hW.alike, (vD_r hD).weaken (fun _ _ _ _ => trivial)⟩⟩ rfl hn hls rfl (lv_room hrest) hdg hf) hS (fun x _ h => hF x h) hF (fun u t H1 locs1 ht hvm hw hB hz1 hk1 hS1 => ?_)
  obtain ⟨hP1, hD1⟩ := hB
  rw [ht] at hP1
  obtain ⟨hP2, hD2⟩ := v_join hP hD hk1 hF hP1 hD1
  exact kk u H1 locs1 hw hP2 hD2 hS1
end NC
