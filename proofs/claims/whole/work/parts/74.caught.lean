/-! A call that throws, and the catch behind it. -/
theorem kl_isX (n : Nat) : kt_isX (some (.ref (1000 + n))) = some n := by
  unfold kt_isX
  dsimp only
  rw [if_pos (Nat.le_add_right _ _), Nat.add_sub_cancel_left]
section KLX
variable {p : Program} {l : Launch} {e : Env} {R : Room} {s : State} {m : MethodId} {args : Array Value} {below : List Frame} {meth : Method} {c : Code} {H : Heap} {locs : List Loc} {cells slots : Nat} {Q : State → Prop}
variable {cc : ByteArray} {pc : Nat} {ls : Array Slot} {rest : List Value} {D : va_G} {cA : Nat → ClassId} {as : Nat → Nat} {A : Nat → Prop} {H0 : Heap} {sh : kt_Sh} {σ σ' : kt_S}
theorem kl_VX {C : String} {T : u_T} {N ci idx n np maxL lev nL : Nat} {y : MethodName} {bytes : ByteArray} {rt : Option FieldType} {own : String} {av : List Value} {fs : List Nat} {F : kt_F} {es : List ExceptionTableEntry} {js : List Nat} {k0 : Nat} {x0 : ExceptionTableEntry}
    (hM : kt_MT l sh y bytes maxL rt lev 1 6 F) (hF : F (.ref 0 :: av) σ = some (some (.ref (1000 + n)), σ')) (hY : kt_YV C y bytes maxL rt np) (hc : vwCl[ci]? = some (C, T, N)) (h0 : sh[0]? = some (3, ci, fs)) (hx : p.tables.exec = Jvm.exec) (hb : c.code = cc) (hml : c.maxLocals = nL) (hls : ls.size = nL) (hown : s.vm.findClass own = some m.cls) (hts : ∀ w ∈ kt_G, w.before args s = true) (hlink : (Cond.methodLink own idx y).before args s = true) (hav : av.length = np) (hR : lev + 1 ≤ R.frames ∧ 8 + (maxL + 11) + 80 * lev ≤ R.locals) (hcat : (rest.map fun v => v.category).sum ≤ 8) (hdg : decode cc pc = .ok (.invokevirtual idx, 3)) (hf : cells + 1 ≤ R.cells ∧ slots + 6 ≤ R.slots)
    (hKU : ∀ U : State, U.heap = H → s.WarmedH U.vm → kt_K sh D cA as U) (hK : va_K D vwCl (kt_tys cA) s) (hP : va_P D vwCl (kt_w sh as cA σ) H) (hS : va_S A H0 H locs) (hA : ∀ q, kt_A false sh as H.size q → A q)
    (hExc : kl_Exc s) (htab : c.exceptionTable.toList = es) (hall : ∀ (k : Nat) (x : ExceptionTableEntry), es[k]? = some x → covers x pc = true ∧ x.catchType ≠ 0 ∧ ∃ j E, js[k]? = some j ∧ kt_exs[j]? = some E ∧ (Cond.classLink own x.catchType E).before args s = true) (hx0 : es[k0]? = some x0) (hj0 : js[k0]? = some n) (hlt : ∀ k, k < k0 → ¬ js[k]? = some n)
    (kk : ∀ (a : Nat) (H1 : Heap) (locs1 : List Loc), va_P D vwCl (kt_w sh as cA σ') H1 → H.size ≤ H1.size → (∀ q : Nat, q < H.size → ¬ kt_A false sh as H.size q → H1[q]? = H[q]?) → va_S A H0 H1 locs1 → W p l e R s m args below meth c H1 locs1 (cells + 1) (slots + 6) Q (F0 m x0.handlerPc ls [.ref a])) : W p l e R s m args below meth c H locs cells slots Q (F0 m pc ls ((av.map (kt_c as)).reverse ++ .ref (as 0) :: rest)) := by
  obtain ⟨y1, y2, y3, y4, y5, y6, y7⟩ := hY
  obtain ⟨cellB, hcB, hoB, hclB⟩ := va_recv (q0 := 0) hK hP hc (kt_w_get h0)
  intro T hT X
  obtain ⟨v, vm₁, f, mk, t, B1, L, hW₁, X', e1, hq, hL, st⟩ := kl_callVT (A := kt_A false sh as H.size) (C := C) X hx (hM D cA as (.ref 0 :: av) σ σ' _ H.size hF) (fun a st o t hq => by
      have h3 := hq.1
      unfold kt_end at h3
      rw [kl_isX] at h3
      obtain ⟨_, x, h4, _⟩ := h3
      exact ⟨x, h4⟩) hown hts hlink y1 y2 y3 y4 y5 hR hf (by rw [hT]; exact hcB) hoB hclB (g := F0 m pc ls ((av.map (kt_c as)).reverse ++ .ref (as 0) :: rest)) rfl (hls.trans hml.symm) (argsL := av.map (kt_c as)) (rest := rest) (fun sig h => by rw [List.length_map, hav]; exact kt_npar y6 sig h) rfl (lv_room hcat) (by rw [hb]; exact hdg)
    (fun vm₁ f mk hW₁ => kt_Pc_blind _ _ _ _ ⟨rfl, by show T.heap.size = H.size; rw [hT], hKU (T.setVm vm₁) hT hW₁, by show va_P D vwCl _ T.heap; rw [hT]; exact hP⟩)
  obtain ⟨hend, hPt, hz, hk⟩ := hq
  unfold kt_end at hend
  rw [kl_isX] at hend
  obtain ⟨_, a, ha, _, ce, E, hE1, hE2, hE3, hE4⟩ := hend
  cases ha
  have hz : H.size ≤ t.heap.size := by
    have h : T.heap.size ≤ t.heap.size := hz
    rw [hT] at h
    exact h
  have hk : ∀ q : Nat, q < H.size → ¬ kt_A false sh as H.size q → t.heap[q]? = H[q]? := fun q h1 h2 => by
    have h : t.heap[q]? = T.heap[q]? := hk q (by show q < T.heap.size; rw [hT]; exact h1) h2
    rw [hT] at h
    exact h
  have hcE : s.vm.findClass E = some ce.cls := by
    have h : vm₁.findClass E = some ce.cls := hE4
    rw [hW₁.alike.findClass] at h
    exact h
  have hobj : ∀ k, ce.vm ≠ .statics k := fun k h => by
    rw [hE3] at h
    cases h
  have hpl : e.platform.magicAccessors = ({} : Platform).magicAccessors := by rw [X.admits.platform]
  have hTh : ((B1.setTop { F0 m pc ls ((av.map (kt_c as)).reverse ++ .ref (as 0) :: rest) with stack := rest }).pushFrame (.throwing v)).heap[v]? = some ce := by
    rw [Stand.throwing_heap, e1]
    exact hE2
  obtain ⟨vm', hW', hfind⟩ := kl_search (f := { F0 m pc ls ((av.map (kt_c as)).reverse ++ .ref (as 0) :: rest) with stack := rest }) (a := v) hpl hown hE1 hobj hcE hExc es js ((B1.setTop { F0 m pc ls ((av.map (kt_c as)).reverse ++ .ref (as 0) :: rest) with stack := rest }).pushFrame (.throwing v)) (by rw [Stand.throwing_vm]; exact X'.warmed) hTh hall k0 x0 hx0 hj0 hlt
  obtain ⟨t2, a1, b1⟩ := kk v t.heap (locs ++ L) hPt hz hk ⟨Nat.le_trans hS.1 hz, fun q h1 h2 => by
      rw [hk q (Nat.lt_of_lt_of_le h1 hS.1) (fun z => h2 (hA q z))]
      exact hS.2.1 q h1 h2, fun q hq => by
      rcases List.mem_append.mp hq with h | h
      · exact hS.2.2 q h
      · exact hA _ (hL q h)⟩ (B1.setVm vm') e1 (X'.noted hW')
  refine ⟨t2, st.trans (kl_caught (vm' := vm') X'.here (fun Q E d acts => ?_) a1), b1⟩
  rw [W.findHandler_eq (meth := meth) (code := c) (by rw [Stand.throwing_vm]; exact X'.method') X'.code, htab]
  exact hfind Q E d acts
end KLX
