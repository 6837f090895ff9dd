/-! Constructors: their words, rows that make arrays of a known class, the call of a constructor. -/
abbrev kb_B_init : ByteArray := prog_2_method_1_code
def ky_B_init : MethodName := ⟨RX0, "<init>", "(I)V"⟩
abbrev kb_P_init : ByteArray := prog_3_method_1_code
def ky_P_init : MethodName := ⟨RX1, "<init>", "(I)V"⟩
abbrev kb_R_init : ByteArray := prog_4_method_1_code
def ky_R_init : MethodName := ⟨RX2, "<init>", "()V"⟩
abbrev kb_G_init : ByteArray := prog_5_method_1_code
def ky_G_init : MethodName := ⟨RX3, "<init>", "()V"⟩
abbrev kb_S_init : ByteArray := prog_6_method_1_code
def ky_S_init : MethodName := ⟨RX4, "<init>", "()V"⟩
abbrev kb_T_init : ByteArray := prog_7_method_1_code
def ky_T_init : MethodName := ⟨RX5, "<init>", "()V"⟩
abbrev kb_K_init : ByteArray := prog_1_method_1_code
def ky_K_init : MethodName := ⟨RX6, "<init>", "()V"⟩
abbrev kb_M_init : ByteArray := prog_9_method_1_code
def ky_M_init : MethodName := ⟨RX7, "<init>", "()V"⟩
def kt_GI0 : List Cond := [.instanceMethod objectInit, .code objectInit ⟨#[0xb1]⟩ 1 none, .arrayClass .int, .arrayClass .boolean, .arrayClass .long,
  .code ky_B_init kb_B_init 2 none, .instanceMethod ky_B_init, .initialized RX0, .instantiable RX0 3, .methodLink RX0 3 objectInit, .fieldLink RX0 9 "KeyToken$Bytes" "cells" "[I",
  .code ky_P_init kb_P_init 2 none, .instanceMethod ky_P_init, .initialized RX1, .instantiable RX1 7, .methodLink RX1 3 objectInit, .fieldLink RX1 11 "KeyToken$RelyingParty" "keys" "[I", .fieldLink RX1 15 "KeyToken$RelyingParty" "users" "[I", .fieldLink RX1 18 "KeyToken$RelyingParty" "lasts" "[I", .fieldLink RX1 21 "KeyToken$RelyingParty" "number" "I",
  .code ky_R_init kb_R_init 1 none, .instanceMethod ky_R_init, .initialized RX2, .instantiable RX2 7, .methodLink RX2 3 objectInit, .classLink RX2 9 RX0, .methodLink RX2 13 ky_B_init, .fieldLink RX2 16 "KeyToken$Request" "input" "LKeyToken$Bytes;", .fieldLink RX2 20 "KeyToken$Request" "kinds" "[I", .fieldLink RX2 24 "KeyToken$Request" "numbers" "[I", .fieldLink RX2 27 "KeyToken$Request" "ends" "[I",
  .code ky_G_init kb_G_init 1 none, .instanceMethod ky_G_init, .initialized RX3, .instantiable RX3 2, .methodLink RX3 3 objectInit, .fieldLink RX3 11 "KeyToken$Signatures" "fields" "[I",
  .code ky_S_init kb_S_init 1 none, .instanceMethod ky_S_init, .initialized RX4, .instantiable RX4 3, .methodLink RX4 1 objectInit, .fieldLink RX4 9 "KeyToken$Store" "cells" "[I", .fieldLink RX4 13 "KeyToken$Store" "writesUntilCut" "I", .methodLink RX4 17 ky_A_fill,
  .code ky_T_init kb_T_init 1 none, .instanceMethod ky_T_init, .initialized RX5, .instantiable RX5 15, .methodLink RX5 3 objectInit, .classLink RX5 9 RX4, .methodLink RX5 11 ky_S_init, .fieldLink RX5 12 "KeyToken$Token" "store" "LKeyToken$Store;", .classLink RX5 18 RX3, .fieldLink RX5 21 "KeyToken$Token" "signatures" "LKeyToken$Signatures;", .classLink RX5 25 RX2, .fieldLink RX5 28 "KeyToken$Token" "request" "LKeyToken$Request;", .classLink RX5 32 RX0, .methodLink RX5 34 ky_B_init, .fieldLink RX5 37 "KeyToken$Token" "output" "LKeyToken$Bytes;", .fieldLink RX5 41 "KeyToken$Token" "nextNames" "[I", .fieldLink RX5 45 "KeyToken$Token" "powered" "Z",
  .code ky_K_init kb_K_init 2 none, .instanceMethod ky_K_init, .initialized RX6, .instantiable RX6 3, .methodLink RX6 1 objectInit, .classLink RX6 7 RX5, .fieldLink RX6 10 "KeyToken" "token" "LKeyToken$Token;", .classLink RX6 16 RX1, .fieldLink RX6 18 "KeyToken" "parties" "[LKeyToken$RelyingParty;", .methodLink RX6 22 ky_P_init,
  .code ky_M_init kb_M_init 2 none, .instanceMethod ky_M_init, .initialized RX7, .instantiable RX7 40, .methodLink RX7 1 objectInit, .fieldLink RX7 7 "KeyTokenModel" "cells" "[I", .fieldLink RX7 13 "KeyTokenModel" "cutAt" "I", .fieldLink RX7 17 "KeyTokenModel" "power" "Z", .fieldLink RX7 21 "KeyTokenModel" "input" "[I", .fieldLink RX7 24 "KeyTokenModel" "output" "[I", .fieldLink RX7 27 "KeyTokenModel" "nexts" "[I", .fieldLink RX7 30 "KeyTokenModel" "signed" "[I", .fieldLink RX7 33 "KeyTokenModel" "isMap" "[Z", .fieldLink RX7 37 "KeyTokenModel" "more" "[I", .fieldLink RX7 40 "KeyTokenModel" "before" "[I", .fieldLink RX7 43 "KeyTokenModel" "wantsKey" "[Z", .fieldLink RX7 46 "KeyTokenModel" "key" "[I", .fieldLink RX7 49 "KeyTokenModel" "kind" "[I", .fieldLink RX7 52 "KeyTokenModel" "value" "[I", .fieldLink RX7 55 "KeyTokenModel" "place" "[I", .fieldLink RX7 58 "KeyTokenModel" "numbers" "[Z", .fieldLink RX7 61 "KeyTokenModel" "registered" "[I", .fieldLink RX7 64 "KeyTokenModel" "registrations" "[I", .fieldLink RX7 67 "KeyTokenModel" "opened" "[I", .fieldLink RX7 70 "KeyTokenModel" "wanted" "[I"]
def kt_GI : List Cond := kt_GI0 ++ kt_G
theorem kt_GI0_all : kt_GI0.all goodWord = true := by decide +kernel
theorem kt_GI_good : ∀ w ∈ kt_GI, goodWord w = true := fun w h => by
  rcases List.mem_append.mp h with h | h
  · exact List.all_eq_true.mp kt_GI0_all w h
  · exact kt_G_good w h
theorem kt_GI_l {w : Cond} (h : w ∈ kt_GI0) : w ∈ kt_GI := List.mem_append_left _ h
theorem kt_GI_r {w : Cond} (h : w ∈ kt_G) : w ∈ kt_GI := List.mem_append_right _ h
/-- links between nest mates that constructors use, and the class of the parties' array -/
def kt_NI : List Cond := [.methodLinkNest RX5 20 ky_G_init "KeyToken", .methodLinkNest RX5 27 ky_R_init "KeyToken", .methodLinkNest RX6 9 ky_T_init "KeyToken"]
def kx_X (U : State) : Prop := (∀ w ∈ kt_NI, va_Nw w U) ∧ va_AO RX1 U
theorem kt_NI_all : kt_NI.all kt_nest = true := by decide +kernel
theorem kx_X.warm {s U : State} (h : kx_X s) (hW : s.WarmedH U.vm) : kx_X U := ⟨fun w hw => kt_Nw_warm (List.all_eq_true.mp kt_NI_all w hw) hW (h.1 w hw), va_AO.moved hW.alike h.2⟩
theorem kx_X.blind {U : State} (g : JFrame) (mk : MethodId) (a : Array Value) (h : kx_X U) : kx_X (U.calling g mk a) := ⟨fun w hw => va_Nw.same (u := U) (U := U.calling g mk a) (kt_nest_tab (List.all_eq_true.mp kt_NI_all w hw)) rfl (h.1 w hw), va_AO.moved (u := U) (U := U.calling g mk a) (Vm.Alike.refl U.vm) h.2⟩
theorem kx_pay {y : MethodName} {bytes : ByteArray} {maxL : Nat} {rt : Option FieldType} {s : State} {args : Array Value} (hts : ∀ w ∈ kt_GI, w.before args s = true) (h5 : Cond.code y bytes maxL rt ∈ kt_GI) : ∀ w ∈ Cond.code y bytes maxL rt :: kt_GI, ∀ (a' : Array Value) (U : State), s.WarmedH U.vm → w.before a' U = true := by
  intro w hw a' U hW
  have hw' : w ∈ kt_GI := by
    rcases List.mem_cons.mp hw with rfl | h
    · exact h5
    · exact h
  exact word_at hW (good_of_word (kt_GI_good w hw')) (hts w hw')
section KX
variable {p : Program} {l : Launch} {e : Env} {R : Room} {s : State} {m : MethodId} {args : Array Value} {below : List Frame} {meth : Method} {c : Code} {H : Heap} {locs : List Loc} {cells slots : Nat} {Q : State → Prop}
variable {cc : ByteArray} {pc : Nat} {ls : Array Slot} {rest : List Value} {D : va_G} {cA : Nat → ClassId} {ws : va_W} {A : Nat → Prop} {H0 : Heap}
theorem kx_newI (hexec : p.tables.exec = Jvm.exec) (hb : c.code = cc) (harr : (Cond.arrayClass .int).before args s = true) (hK : va_K D vwCl (kt_tys cA) s) (hP : va_P D vwCl ws H) (hD : va_D A ws) (hS : va_S A H0 H locs) (hA : ∀ q, H0.size ≤ q → A q) {n : Int32} {N : Nat} (hn : ¬ n < 0) (hN : n.toNatClampNeg = N) (hN2 : N ≤ 1000) (hcells : cells + 1 ≤ R.cells) (hslots : slots + N ≤ R.slots) (hdg : decode cc pc = .ok (.newarray .int, 2))
    (kk : ∀ (q : Nat) (H1 : Heap), va_P D vwCl (ws ++ [(q, .inl (cA 0, N, .inl (fun _ => 0)))]) H1 → va_D A (ws ++ [(q, .inl (cA 0, N, .inl (fun _ => 0)))]) → va_S A H0 H1 locs → W p l e R s m args below meth c H1 locs (cells + 1) (slots + N) Q (F0 m (pc + 2) ls (.ref q :: rest))) : W p l e R s m args below meth c H locs cells slots Q (F0 m pc ls (.int n :: rest)) := by
  refine va_newa (atype := .int) (ty := .int) (a0 := (N, .inl (fun _ => 0))) hexec hb harr rfl hK hP hD hS hA (fun c0 => rfl) hn hN (by show N * 4 ≤ 536870912; omega) hcells hslots hdg (fun q c0 H1 hK1 hP1 hD1 hS1 => ?_)
  have h1 : s.vm.findClass ("[" ++ FieldType.int.toString) = some c0 := (hK1.2 3 (c0, .int) rfl).2
  have h2 : s.vm.findClass ("[" ++ FieldType.int.toString) = some (cA 0) := (hK.2 0 (cA 0, .int) rfl).2
  have hc : c0 = cA 0 := Option.some.inj (h1.symm.trans h2)
  subst hc
  exact kk q H1 hP1 hD1 hS1
theorem kx_newZ (hexec : p.tables.exec = Jvm.exec) (hb : c.code = cc) (harr : (Cond.arrayClass .boolean).before args s = true) (hK : va_K D vwCl (kt_tys cA) s) (hP : va_P D vwCl ws H) (hD : va_D A ws) (hS : va_S A H0 H locs) (hA : ∀ q, H0.size ≤ q → A q) {n : Int32} {N : Nat} (hn : ¬ n < 0) (hN : n.toNatClampNeg = N) (hN2 : N ≤ 1000) (hcells : cells + 1 ≤ R.cells) (hslots : slots + N ≤ R.slots) (hdg : decode cc pc = .ok (.newarray .boolean, 2))
    (kk : ∀ (q : Nat) (H1 : Heap), va_P D vwCl (ws ++ [(q, .inl (cA 1, N, .inl (fun _ => 0)))]) H1 → va_D A (ws ++ [(q, .inl (cA 1, N, .inl (fun _ => 0)))]) → va_S A H0 H1 locs → W p l e R s m args below meth c H1 locs (cells + 1) (slots + N) Q (F0 m (pc + 2) ls (.ref q :: rest))) : W p l e R s m args below meth c H locs cells slots Q (F0 m pc ls (.int n :: rest)) := by
  refine va_newa (atype := .boolean) (ty := .boolean) (a0 := (N, .inl (fun _ => 0))) hexec hb harr rfl hK hP hD hS hA (fun c0 => rfl) hn hN (by show N * 1 ≤ 536870912; omega) hcells hslots hdg (fun q c0 H1 hK1 hP1 hD1 hS1 => ?_)
  have h1 : s.vm.findClass ("[" ++ FieldType.boolean.toString) = some c0 := (hK1.2 3 (c0, .boolean) rfl).2
  have h2 : s.vm.findClass ("[" ++ FieldType.boolean.toString) = some (cA 1) := (hK.2 1 (cA 1, .boolean) rfl).2
  have hc : c0 = cA 1 := Option.some.inj (h1.symm.trans h2)
  subst hc
  exact kk q H1 hP1 hD1 hS1
/-- cells before a call, and what the call has made of one of them -/
theorem kx_join {pre w1 : va_W} {q : Nat} {e0 : va_E} {H1 : Heap} (hP : va_P D vwCl (pre ++ [(q, e0)]) H) (hD : va_D A (pre ++ [(q, e0)])) (hA : ∀ x, H.size ≤ x → A x) (hk : ∀ x : Nat, x < H.size → ¬ va_A [(q, e0)] H.size x → H1[x]? = H[x]?) (hP1 : va_P D vwCl w1 H1) (hD1 : va_D (va_A [(q, e0)] H.size) w1) : va_P D vwCl (pre ++ w1) H1 ∧ va_D A (pre ++ w1) := by
  have hq : A q := hD.2 pre.length (q, e0) (by rw [List.getElem?_append_right (Nat.le_refl _), Nat.sub_self]; rfl)
  have hne : ∀ (k : Nat) (x : Nat × va_E), pre[k]? = some x → x.1 < H.size ∧ ¬ x.1 = q := fun k x hx => by
    have hkl : k < pre.length := (List.getElem?_eq_some_iff.mp hx).1
    have hx' : (pre ++ [(q, e0)])[k]? = some x := by rw [List.getElem?_append_left hkl]; exact hx
    refine ⟨(hP k x hx').lt, fun z => ?_⟩
    have := hD.1 k pre.length x (q, e0) hx' (by rw [List.getElem?_append_right (Nat.le_refl _), Nat.sub_self]; rfl) z
    omega
  have hA1 : ∀ x, va_A [(q, e0)] H.size x → x = q ∨ H.size ≤ x := fun x hx => by
    rcases hx with ⟨k, e1, hk1⟩ | hx
    · have hz : k < 1 := (List.getElem?_eq_some_iff.mp hk1).1
      rw [show k = 0 by omega] at hk1
      cases hk1
      exact Or.inl rfl
    · exact Or.inr hx
  constructor
  · refine va_P.app (fun k x hx => ?_) hP1
    have hkl : k < pre.length := (List.getElem?_eq_some_iff.mp hx).1
    have hx' : (pre ++ [(q, e0)])[k]? = some x := by rw [List.getElem?_append_left hkl]; exact hx
    obtain ⟨h1, h2⟩ := hne k x hx
    refine (hP k x hx').kept (hk x.1 h1 (fun z => ?_))
    rcases hA1 _ z with z | z
    · exact h2 z
    · omega
  · have side : ∀ (k : Nat) (x : Nat × va_E), (pre ++ w1)[k]? = some x → (k < pre.length ∧ pre[k]? = some x) ∨ (pre.length ≤ k ∧ w1[k - pre.length]? = some x) := fun k x hx => by
      by_cases hkl : k < pre.length
      · rw [List.getElem?_append_left hkl] at hx
        exact Or.inl ⟨hkl, hx⟩
      · rw [List.getElem?_append_right (by omega)] at hx
        exact Or.inr ⟨by omega, hx⟩
    refine ⟨fun i j x y hx hy hxy => ?_, fun k x hx => ?_⟩
    · rcases side i x hx with ⟨a1, a2⟩ | ⟨a1, a2⟩ <;> rcases side j y hy with ⟨b1, b2⟩ | ⟨b1, b2⟩
      · exact hD.1 i j x y (by rw [List.getElem?_append_left a1]; exact a2) (by rw [List.getElem?_append_left b1]; exact b2) hxy
      · exfalso
        obtain ⟨h1, h2⟩ := hne i x a2
        rcases hA1 _ (hD1.2 _ y b2) with z | z
        · exact h2 (hxy.trans z)
        · omega
      · exfalso
        obtain ⟨h1, h2⟩ := hne j y b2
        rcases hA1 _ (hD1.2 _ x a2) with z | z
        · exact h2 (hxy.symm.trans z)
        · omega
      · have := hD1.1 _ _ x y a2 b2 hxy
        omega
    · rcases side k x hx with ⟨a1, a2⟩ | ⟨a1, a2⟩
      · exact hD.2 k x (by rw [List.getElem?_append_left a1]; exact a2)
      · rcases hA1 _ (hD1.2 _ x a2) with z | z
        · rw [z]
          exact hq
        · exact hA _ z
/-- the contract of a constructor -/
def kx_C (l : Launch) (y : MethodName) (bytes : ByteArray) (nL lev mc ms ci : Nat) (av fs0 : List Value) (wsOf : Nat → (Nat → Nat) → (Nat → ClassId) → va_W) : Prop :=
  ∀ (D : va_G) (cA : Nat → ClassId) (h0 sz : Nat), Met l y (Cond.code y bytes nL none :: kt_GI) (kt_rm lev mc ms) (va_Pc (.ref h0 :: av) (fun U => U.heap.size = sz ∧ va_P D vwCl [(h0, .inr (ci, fs0))] U.heap ∧ va_K D vwCl (kt_tys cA) U ∧ kx_X U))
    (va_Qv (fun _ : Nat → Nat => True) (fun u t => va_P D vwCl (wsOf h0 u cA) t.heap ∧ va_D (va_A [(h0, .inr (ci, fs0))] sz) (wsOf h0 u cA)) (va_A [(h0, .inr (ci, fs0))] sz)) mc ms (va_A [(h0, .inr (ci, fs0))] sz)
def kx_Y (y : MethodName) (bytes : ByteArray) (nL n : Nat) : Prop := y.name = "<init>" ∧ Cond.instanceMethod y ∈ kt_GI ∧ Cond.initialized y.cls ∈ kt_GI ∧ Cond.code y bytes nL none ∈ kt_GI ∧ (y.cls ≠ "java/lang/invoke/MethodHandle" ∧ y.cls ≠ "java/lang/invoke/VarHandle") ∧ (parseMethodDescriptor y.desc).map (fun d => d.parameters.length) = some n
theorem kx_blind {D : va_G} {cA : Nat → ClassId} {h0 ci sz : Nat} {av fs0 : List Value} : FrameBlind (va_Pc (.ref h0 :: av) (fun U => U.heap.size = sz ∧ va_P D vwCl [(h0, .inr (ci, fs0))] U.heap ∧ va_K D vwCl (kt_tys cA) U ∧ kx_X U)) := by
  rintro a U g mk ⟨q0, q1, q2, q3, q4⟩
  exact ⟨q0, q1, q2, va_K.moved (u := U) (U := U.calling g mk a) (Vm.Alike.refl U.vm) q3, q4.blind g mk a⟩
theorem kx_run {own : String} {y : MethodName} {bytes : ByteArray} {nL maxL lev mc ms n ci idx q : Nat} {av fs0 : List Value} {wsOf : Nat → (Nat → Nat) → (Nat → ClassId) → va_W} {pre : va_W}
    (hr : va_Run p l e R s m args below meth c H locs cells slots mc ms (F0 m pc ls (av.reverse ++ .ref q :: rest)) rest (va_Qv (fun _ : Nat → Nat => True) (fun u t => va_P D vwCl (wsOf q u cA) t.heap ∧ va_D (va_A [(q, .inr (ci, fs0))] H.size) (wsOf q u cA)) (va_A [(q, .inr (ci, fs0))] H.size) (Value.ref q :: av).toArray) (va_A [(q, .inr (ci, fs0))] H.size))
    (hP : va_P D vwCl (pre ++ [(q, .inr (ci, fs0))]) H) (hD : va_D A (pre ++ [(q, .inr (ci, fs0))])) (hS : va_S A H0 H locs) (hA : ∀ q, H0.size ≤ q → A q)
    (kk : ∀ (u : Nat → Nat) (H1 : Heap) (locs1 : List Loc), va_P D vwCl (pre ++ wsOf q u cA) H1 → va_D A (pre ++ wsOf q u cA) → va_S A H0 H1 locs1 → W p l e R s m args below meth c H1 locs1 (cells + mc) (slots + ms) Q (F0 m (pc + 3) ls rest)) : W p l e R s m args below meth c H locs cells slots Q (F0 m pc ls (av.reverse ++ .ref q :: rest)) := by
  have hq : A q := hD.2 pre.length (q, .inr (ci, fs0)) (by rw [List.getElem?_append_right (Nat.le_refl _), Nat.sub_self]; rfl)
  have hAx : ∀ x, H.size ≤ x → A x := fun x hx => hA x (Nat.le_trans hS.1 hx)
  have hF : ∀ x, va_A [(q, .inr (ci, fs0))] H.size x → A x := fun x hx => by
    rcases hx with ⟨k, e1, hk1⟩ | hx
    · have hz : k < 1 := (List.getElem?_eq_some_iff.mp hk1).1
      rw [show k = 0 by omega] at hk1
      cases hk1
      exact hq
    · exact hAx x hx
  refine va_callv hr hS (fun x _ hx => hF x hx) hF (fun u t H1 locs1 ht hvm _ hB hz1 hk1 hS1 => ?_)
  obtain ⟨hP1, hD1⟩ := hB
  rw [ht] at hP1
  obtain ⟨hP2, hD2⟩ := kx_join hP hD hAx hk1 hP1 hD1
  exact kk u H1 locs1 hP2 hD2 hS1
theorem kx_call {own : String} {y : MethodName} {bytes : ByteArray} {nL maxL lev mc ms n ci idx q : Nat} {av fs0 : List Value} {wsOf : Nat → (Nat → Nat) → (Nat → ClassId) → va_W} {pre : va_W} (hC : kx_C l y bytes maxL lev mc ms ci av fs0 wsOf) (hY : kx_Y y bytes maxL n) (hx : p.tables.exec = Jvm.exec) (hb : c.code = cc) (hml : c.maxLocals = nL) (hls : ls.size = nL) (hown : s.vm.findClass own = some m.cls) (hts : ∀ w ∈ kt_GI, w.before args s = true) (hlink : Cond.methodLink own idx y ∈ kt_GI) (hav : av.length = n) (hR : lev + 1 ≤ R.frames ∧ 8 + (maxL + 11) + 80 * lev ≤ R.locals) (hcat : (rest.map fun v => v.category).sum ≤ 8) (hdg : decode cc pc = .ok (.invokespecial idx, 3)) (hf : cells + mc ≤ R.cells ∧ slots + ms ≤ R.slots)
    (hK : va_K D vwCl (kt_tys cA) s) (hX : kx_X s) (hP : va_P D vwCl (pre ++ [(q, .inr (ci, fs0))]) H) (hD : va_D A (pre ++ [(q, .inr (ci, fs0))])) (hS : va_S A H0 H locs) (hA : ∀ q, H0.size ≤ q → A q)
    (kk : ∀ (u : Nat → Nat) (H1 : Heap) (locs1 : List Loc), va_P D vwCl (pre ++ wsOf q u cA) H1 → va_D A (pre ++ wsOf q u cA) → va_S A H0 H1 locs1 → W p l e R s m args below meth c H1 locs1 (cells + mc) (slots + ms) Q (F0 m (pc + 3) ls rest)) : W p l e R s m args below meth c H locs cells slots Q (F0 m pc ls (av.reverse ++ .ref q :: rest)) := by
  obtain ⟨y1, y2, y3, y4, y5, y6⟩ := hY
  have hPq : va_P D vwCl [(q, .inr (ci, fs0))] H := fun k x hx => by
    have hz : k < 1 := (List.getElem?_eq_some_iff.mp hx).1
    rw [show k = 0 by omega] at hx
    cases hx
    exact hP pre.length _ (by rw [List.getElem?_append_right (Nat.le_refl _), Nat.sub_self]; rfl)
  refine kx_run (own := own) (y := y) (bytes := bytes) (nL := nL) (maxL := maxL) (lev := lev) (n := n) (idx := idx) (va_runI (As := av) (rest := rest) (nL := nL) (n := n) ⟨hx, hb, hml, hown, hts⟩ (hC D cA q H.size) ⟨⟨rfl, rfl, hR.1, hR.2, kx_pay hts y4, List.mem_cons_self, hts _ y4, hts _ y3, y5, kt_npar y6, hts _ hlink⟩, y1, hts _ y2⟩ ⟨kx_blind, fun U hU hW => ⟨rfl, by rw [hU], by rw [hU]; exact hPq, va_K.moved hW.alike hK, hX.warm hW⟩⟩ rfl hav hls rfl (lv_room hcat) hdg hf) hP hD hS hA kk
theorem kx_callN {own host : String} {y : MethodName} {bytes : ByteArray} {nL maxL lev mc ms n ci idx q : Nat} {av fs0 : List Value} {wsOf : Nat → (Nat → Nat) → (Nat → ClassId) → va_W} {pre : va_W} (hC : kx_C l y bytes maxL lev mc ms ci av fs0 wsOf) (hY : kx_Y y bytes maxL n) (hx : p.tables.exec = Jvm.exec) (hb : c.code = cc) (hml : c.maxLocals = nL) (hls : ls.size = nL) (hown : s.vm.findClass own = some m.cls) (hts : ∀ w ∈ kt_GI, w.before args s = true) (hlink : Cond.methodLinkNest own idx y host ∈ kt_NI) (hav : av.length = n) (hR : lev + 1 ≤ R.frames ∧ 8 + (maxL + 11) + 80 * lev ≤ R.locals) (hcat : (rest.map fun v => v.category).sum ≤ 8) (hdg : decode cc pc = .ok (.invokespecial idx, 3)) (hf : cells + mc ≤ R.cells ∧ slots + ms ≤ R.slots)
    (hK : va_K D vwCl (kt_tys cA) s) (hX : kx_X s) (hP : va_P D vwCl (pre ++ [(q, .inr (ci, fs0))]) H) (hD : va_D A (pre ++ [(q, .inr (ci, fs0))])) (hS : va_S A H0 H locs) (hA : ∀ q, H0.size ≤ q → A q)
    (kk : ∀ (u : Nat → Nat) (H1 : Heap) (locs1 : List Loc), va_P D vwCl (pre ++ wsOf q u cA) H1 → va_D A (pre ++ wsOf q u cA) → va_S A H0 H1 locs1 → W p l e R s m args below meth c H1 locs1 (cells + mc) (slots + ms) Q (F0 m (pc + 3) ls rest)) : W p l e R s m args below meth c H locs cells slots Q (F0 m pc ls (av.reverse ++ .ref q :: rest)) := by
  obtain ⟨y1, y2, y3, y4, y5, y6⟩ := hY
  have hPq : va_P D vwCl [(q, .inr (ci, fs0))] H := fun k x hx => by
    have hz : k < 1 := (List.getElem?_eq_some_iff.mp hx).1
    rw [show k = 0 by omega] at hx
    cases hx
    exact hP pre.length _ (by rw [List.getElem?_append_right (Nat.le_refl _), Nat.sub_self]; rfl)
  have hl := va_Nw.use (A := args) rfl (hX.1 _ hlink)
  refine kx_run (own := own) (y := y) (bytes := bytes) (nL := nL) (maxL := maxL) (lev := lev) (n := n) (idx := idx) (va_runIN (host := host) (As := av) (rest := rest) (nL := nL) (n := n) ⟨hx, hb, hml, hown, hts⟩ (hC D cA q H.size) ⟨⟨⟨rfl, rfl, hR.1, hR.2, kx_pay hts y4, List.mem_cons_self⟩, hts _ y4, hts _ y3, y5, kt_npar y6, hl⟩, y1, hts _ y2⟩ ⟨kx_blind, fun U hU hW => ⟨rfl, by rw [hU], by rw [hU]; exact hPq, va_K.moved hW.alike hK, hX.warm hW⟩⟩ rfl hav hls rfl (lv_room hcat) hdg hf) hP hD hS hA kk
end KX
