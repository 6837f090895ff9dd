/-! Calls of the class's and the reference's methods from the law. -/
theorem kl_met {l : Launch} {sh : kt_Sh} {y : MethodName} {cc : ByteArray} {nL lev mc ms sz : Nat} {rt : Option FieldType} {F : kt_F} {D : va_G} {cA : Nat → ClassId} {as : Nat → Nat} {av : List Value} {σ σ' : kt_S} {r : Option Value} (hM : kt_MT l sh y cc nL rt lev mc ms F) (hF : F av σ = some (r, σ')) (hr : kt_isX r = none) : Met l y (Cond.code y cc nL rt :: kt_G) (kt_rm lev mc ms) (va_Pc (av.map (kt_c as)) (fun U => U.heap.size = sz ∧ kt_B sh D cA as σ U)) (kt_Q sh mc false D cA as r σ' sz) mc ms (kt_A false sh as sz) := by
  intro p e ha hc hk s m args below hf happ hP hK
  obtain ⟨n, o, h1, h2, h3, h4, L, h5, h6⟩ := hM D cA as av σ σ' r sz hF p e ha hc hk s m args below hf happ hP hK
  have h7 := h4.1
  unfold kt_end at h7
  rw [hr] at h7
  exact ⟨n, o, h1, h2, h3, h4, L, ⟨⟨_, h7⟩, h5⟩, h6⟩
section KL
variable {p : Program} {l : Launch} {e : Env} {R : Room} {s : State} {m : MethodId} {args : Array Value} {below : List Frame} {meth : Method} {c : Code} {H : Heap} {locs : List Loc} {cells slots : Nat} {Q : State → Prop}
variable {cc : ByteArray} {pc : Nat} {ls : Array Slot} {rest : List Value} {D : va_G} {cA : Nat → ClassId} {as : Nat → Nat} {A : Nat → Prop} {H0 : Heap} {sh : kt_Sh} {σ σ' : kt_S} {r : Option Value}
theorem kl_go {fr : Bool} {mc ms : Nat} {st0 : List Value} {a : Array Value} (hr : va_Run p l e R s m args below meth c H locs cells slots mc ms (F0 m pc ls st0) rest (kt_Q sh mc fr D cA as r σ' H.size a) (kt_A fr sh as H.size)) (hnx : kt_isX r = none) (hS : va_S A H0 H locs) (hA : ∀ q, kt_A false sh as H.size q → A q)
    (kk : ∀ (H1 : Heap) (locs1 : List Loc), va_P D vwCl (kt_w sh as cA σ') H1 → H.size ≤ H1.size → (∀ q : Nat, q < H.size → ¬ kt_A false sh as H.size q → H1[q]? = H[q]?) → va_S A H0 H1 locs1 → W p l e R s m args below meth c H1 locs1 (cells + mc) (slots + ms) Q (F0 m (pc + 3) ls ((r.map (kt_c as)).toList ++ rest))) : W p l e R s m args below meth c H locs cells slots Q (F0 m pc ls st0) := by
  intro T hT X
  obtain ⟨v, st₀, t, T', L, h0, X', hL, e1, e2, ⟨hv, hp, hz, hk⟩, st⟩ := hr T hT X
  unfold kt_end at hv
  rw [hnx] at hv
  have hv := Outcome.returned.inj hv
  subst hv
  rw [h0] at hz hk
  obtain ⟨t2, a1, b1⟩ := kk T'.heap (locs ++ L) (by rw [e1]; exact hp) (by rw [e1]; exact hz) (fun q h1 h2 => by rw [e1]; exact hk q h1 (fun z => h2 (kt_A_up q z))) ⟨Nat.le_trans hS.1 (by rw [e1]; exact hz), fun q h1 h2 => by
      rw [e1, hk q (Nat.lt_of_lt_of_le h1 hS.1) (fun z => h2 (hA q (kt_A_up q z)))]
      exact hS.2.1 q h1 h2, fun q hq => by
      rcases List.mem_append.mp hq with h | h
      · exact hS.2.2 q h
      · exact hA _ (kt_A_up _ (hL q h))⟩ T' rfl X'
  exact ⟨t2, st t2 a1, b1⟩
/-- a call on the object at place 0, of a method that returns -/
theorem kl_V {C : String} {T : u_T} {N ci idx n maxL lev mc ms nL : Nat} {fr : Bool} {y : MethodName} {bytes : ByteArray} {rt : Option FieldType} {own : String} {av : List Value} {fs : List Nat} {free : Addr → Prop}
    (hM : Met l y (Cond.code y bytes maxL rt :: kt_G) (kt_rm lev mc ms) (va_Pc ((.ref 0 :: av).map (kt_c as)) (fun U => U.heap.size = H.size ∧ kt_B sh D cA as σ U)) (kt_Q sh mc fr D cA as r σ' H.size) mc ms (kt_A fr sh as H.size)) (hnx : kt_isX r = none) (hY : kt_YV C y bytes maxL rt n) (hc : vwCl[ci]? = some (C, T, N)) (h0 : sh[0]? = some (3, ci, fs)) (hx : p.tables.exec = Jvm.exec) (hb : c.code = cc) (hml : c.maxLocals = nL) (hls : ls.size = nL) (hown : s.vm.findClass own = some m.cls) (hts : ∀ w ∈ kt_G, w.before args s = true) (hlink : (Cond.methodLink own idx y).before args s = true) (hav : av.length = n) (hR : lev + 1 ≤ R.frames ∧ 8 + (maxL + 11) + 80 * lev ≤ R.locals) (hcat : (rest.map fun v => v.category).sum ≤ 8) (hdg : decode cc pc = .ok (.invokevirtual idx, 3)) (hf : cells + mc ≤ R.cells ∧ slots + ms ≤ R.slots)
    (hKU : ∀ U : State, U.heap = H → s.WarmedH U.vm → kt_K sh D cA as U) (hK : va_K D vwCl (kt_tys cA) s) (hP : va_P D vwCl (kt_w sh as cA σ) H) (hS : va_S A H0 H locs) (hA : ∀ q, kt_A false sh as H.size q → A q)
    (kk : ∀ (H1 : Heap) (locs1 : List Loc), va_P D vwCl (kt_w sh as cA σ') H1 → H.size ≤ H1.size → (∀ q : Nat, q < H.size → ¬ kt_A false sh as H.size q → H1[q]? = H[q]?) → va_S A H0 H1 locs1 → W p l e R s m args below meth c H1 locs1 (cells + mc) (slots + ms) Q (F0 m (pc + 3) ls ((r.map (kt_c as)).toList ++ rest))) : W p l e R s m args below meth c H locs cells slots Q (F0 m pc ls ((av.map (kt_c as)).reverse ++ .ref (as 0) :: rest)) := by
  obtain ⟨y1, y2, y3, y4, y5, y6, y7⟩ := hY
  have hPc := va_recv (q0 := 0) hK hP hc (kt_w_get h0)
  exact kl_go (va_runV (C := C) (b := as 0) (As := av.map (kt_c as)) (rest := rest) (nL := nL) (n := n) ⟨hx, hb, hml, hown, hts⟩ hM ⟨⟨rfl, rfl, hR.1, hR.2, kt_pay hts y4, List.mem_cons_self, hts _ y4, hts _ y3, y5, kt_npar y6, hlink⟩, hts _ y1, hts _ y2⟩ ⟨kt_Pc_blind, hPc, fun U hU hW => ⟨rfl, by rw [hU], hKU U hU hW, by rw [hU]; exact hP⟩⟩ rfl (by rw [List.length_map]; exact hav) hls rfl (lv_room hcat) hdg hf) hnx hS hA kk
/-- 'invokevirtual' of a method that throws -/
theorem kl_callVT {T : State} (X : Stand p l e R s m args below meth c T locs cells slots) (hexec : p.tables.exec = Jvm.exec) {own C : String} {index : Nat} {y : MethodName} {bytes : ByteArray} {maxL lev : Nat} {ret : Option FieldType} {Pc : Array Value → State → Prop} {Qc : Array Value → State → Outcome → State → Prop}
    (hM : MetFree l y (headSpec (Cond.code y bytes maxL ret :: kt_G) (kt_rm lev 1 6)) Pc (fun _ _ _ _ _ => True) (fun a st o t => Qc a st o t ∧ ∃ L, (st.WarmedH t.vm ∧ st.sameButNew ({ t with vm := st.vm } : State) L 1 6) ∧ ∀ q ∈ L, A q.base)) (hthr : ∀ a st o t, Qc a st o t → ∃ x, o = .threw x)
    (hown : s.vm.findClass own = some m.cls) (hts : ∀ w ∈ kt_G, w.before args s = true) (hlink : (Cond.methodLink own index y).before args s = true) (hinst : Cond.instanceMethod y ∈ kt_G) (hsel : Cond.selects C y y ∈ kt_G) (hini : Cond.initialized y.cls ∈ kt_G)
    (hcode : Cond.code y bytes maxL ret ∈ kt_G) (hy : y.cls ≠ "java/lang/invoke/MethodHandle" ∧ y.cls ≠ "java/lang/invoke/VarHandle") (hR : lev + 1 ≤ R.frames ∧ 8 + (maxL + 11) + 80 * lev ≤ R.locals) (hf : cells + 1 ≤ R.cells ∧ slots + 6 ≤ R.slots)
    {b : Addr} {cellB : Cell} (hcell : T.heap[b]? = some cellB) (hobj : cellB.vm.isStatics = false) (hcls : s.vm.findClass C = some cellB.cls)
    {g : JFrame} (hg : g.method = m) (hsize : g.locals.size = c.maxLocals) {argsL rest : List Value} (hlen : ∀ sig, parseMethodDescriptor y.desc = some sig → argsL.length = sig.parameters.length)
    (hstack : g.stack = argsL.reverse ++ .ref b :: rest) (hW : 2 * g.monitorRoom + (rest.map fun v => v.category).sum ≤ 8) (hdg : decode c.code g.pc = .ok (.invokevirtual index, 3))
    (hpre : ∀ (vm₁ : Vm) (f : JFrame) (mk : MethodId), s.WarmedH vm₁ → Pc (Value.ref b :: argsL).toArray ((T.setVm vm₁).calling f mk (Value.ref b :: argsL).toArray)) :
    ∃ (v : Addr) (vm₁ : Vm) (f : JFrame) (mk : MethodId) (t T' : State) (L : List Loc), s.WarmedH vm₁ ∧ Stand p l e R s m args below meth c T' (locs ++ L) (cells + 1) (slots + 6) ∧ T'.heap = t.heap ∧ Qc (Value.ref b :: argsL).toArray ((T.setVm vm₁).calling f mk (Value.ref b :: argsL).toArray) (.threw v) t ∧ (∀ q ∈ L, A q.base) ∧
      Steps p.tables e below (T.setTop g) ((T'.setTop { g with stack := rest }).pushFrame (.throwing v)) := by
  obtain ⟨mk, methM, hnamed, hmethM, hstM, habM⟩ := Cond.instanceMethod_spec (hts _ hinst)
  obtain ⟨methM', cM, hmethM', hcM, -, hlM, -, -, -, hsigM⟩ := Cond.code_spec hnamed (hts _ hcode)
  cases hmethM.symm.trans hmethM'
  obtain ⟨c2, r2, m2, q1, q2, q3, q4, kP, hkP, hkPi⟩ := Cond.selects_spec (hts _ hsel)
  cases hcls.symm.trans q1
  cases (State.methodFound?_of_named hnamed hy).symm.trans q2
  cases hnamed.symm.trans q3
  have hselP : selectMethod e.platform s.vm cellB.cls mk = .method mk := by rw [Launch.admits_selectMethod X.admits]; exact q4
  obtain ⟨vm₁, X₁, hstep₁⟩ := X.invokevirtual hexec hown hlink hnamed hmethM hstM hkP hkPi hy (a := b) (cell := cellB) hcell
    (fun z h => by rw [h] at hobj; cases hobj) hselP hmethM habM hkP hkPi (g := g) hg (argsL := argsL) (rest := rest) (hlen _ hsigM) hstack hdg
  have hws := kt_pay hts hcode
  have hn1 := X₁.named hnamed
  obtain ⟨k1, hk1, -⟩ := className_of_methodNamed hn1
  have hini1 : (Cond.initialized y.cls).before (Value.ref b :: argsL).toArray (T.setVm vm₁) = true := word_at X₁.warmed (good_of_word (kt_G_good _ hini)) (hts _ hini)
  have hi1 : k1.init = .initialized := Cond.initialized_spec (findClass_of_methodNamed hn1) hk1 hini1
  obtain ⟨meth1, c1, hm1, hc1, -, hl1, -, -, -, -⟩ := Cond.code_spec hn1 (hws _ List.mem_cons_self (Value.ref b :: argsL).toArray (T.setVm vm₁) X₁.warmed)
  have hAt : At (T.setVm vm₁) ({ g with stack := rest } : JFrame).method c below := by
    show At (T.setVm vm₁) g.method c below
    rw [hg]
    exact X₁.here
  have hroom : ((T.setVm vm₁).calling { g with stack := rest } mk (Value.ref b :: argsL).toArray).hasRoom e.platform (headSpec (Cond.code y bytes maxL ret :: kt_G) (kt_rm lev 1 6)).room = true := by
    refine X₁.room_calling (g := { g with stack := rest }) (R' := kt_rm lev 1 6) hsize hm1 hc1 hR.1 ?_ hf.1 hf.2
    rw [hl1]
    show 2 * g.monitorRoom + (rest.map fun v => v.category).sum + (maxL + 11) + 80 * lev ≤ R.locals
    have := hR.2
    omega
  have happ := Spec.appliesLoose_calling (S := headSpec (Cond.code y bytes maxL ret :: kt_G) (kt_rm lev 1 6)) hAt hdg hn1 hk1 hi1 hroom (atoms_intro fun w hw => hws w hw _ _ X₁.warmed)
  obtain ⟨g₀, hfr0⟩ := X₁.frames_eq
  have hfr : ((T.setVm vm₁).setTop { g with stack := rest }).frames = .java { g with stack := rest } :: below := by
    rw [State.frames_setTop' _ X₁.here.top, hfr0]
    rfl
  obtain ⟨o, t, hsteps, -, hend, hq, L, ⟨hWt, hsame⟩, hL⟩ := Steps.callFree hM p X.admits X.cas X.clock (acts := []) (mid := [.java { g with stack := rest }]) (below := below) hfr happ (hpre vm₁ _ mk X₁.warmed) trivial
  obtain ⟨v, rfl⟩ := hthr _ _ _ _ hq
  rw [hfr] at hend
  obtain ⟨T', X', -, -, ht⟩ := X₁.outOfThrown (g := { g with stack := rest }) hg hend hWt hsame
  refine ⟨v, vm₁, { g with stack := rest }, mk, t, T', L, X₁.warmed, X', ?_, hq, hL, ?_⟩
  · rw [ht, Stand.throwing_heap]
  · rw [← ht]
    exact hstep₁ _ fun acts => by rw [doInvoke_state]; exact hsteps
end KL
