/-! The law: its words; a call of a method that has handlers. -/
def RL : String := "KeyTokenLaw"
def ky_L_feed : MethodName := ⟨RL, "feed", "(LKeyToken;JI)I"⟩
abbrev kb_L_feed : ByteArray := method_3_code
def ky_L_send : MethodName := ⟨RL, "send", "(LKeyToken;[J)I"⟩
abbrev kb_L_send : ByteArray := method_4_code
def ky_L_take : MethodName := ⟨RL, "take", "(LKeyToken;[J)I"⟩
abbrev kb_L_take : ByteArray := method_5_code
def ky_L_open : MethodName := ⟨RL, "open", "(LKeyToken;II[J)I"⟩
abbrev kb_L_open : ByteArray := method_6_code
def ky_L_ceremony : MethodName := ⟨RL, "ceremony", "(LKeyToken;IIZI[J)I"⟩
abbrev kb_L_ceremony : ByteArray := method_7_code
def ky_L_offer : MethodName := ⟨RL, "offer", "(LKeyToken;IIII[J)I"⟩
abbrev kb_L_offer : ByteArray := method_8_code
def ky_L_signature : MethodName := ⟨RL, "signature", "(LKeyToken;II[J)I"⟩
abbrev kb_L_signature : ByteArray := method_9_code
def kl_W : List Cond := [.initialized RL,
  .classLink RL 8 "KeyToken",
  .methodLink RL 44 ky_K_init,
  .methodLink RL 48 ky_K_press,
  .methodLink RL 68 ky_K_waiting,
  .methodLink RL 75 ky_K_power,
  .methodLink RL 80 ky_K_cut,
  .methodLink RL 100 ky_K_party,
  .methodLink RL 104 ky_K_cell,
  .methodLink RL 108 ky_K_look,
  .methodLink RL 55 ky_L_feed,
  .static ky_L_feed,
  .codeWith ky_L_feed kb_L_feed 5 (some .int) [(0, 6, 9, 13), (0, 6, 13, 15)],
  .classLink RL 13 "java/lang/IllegalStateException",
  .classLink RL 15 "java/lang/IllegalArgumentException",
  .methodLink RL 7 ky_K_feed,
  .methodLink RL 64 ky_L_send,
  .static ky_L_send,
  .codeWith ky_L_send kb_L_send 3 (some .int) [(0, 8, 11, 13)],
  .methodLink RL 17 ky_K_send,
  .methodLink RL 72 ky_L_take,
  .static ky_L_take,
  .codeWith ky_L_take kb_L_take 3 (some .int) [(0, 7, 10, 25)],
  .classLink RL 25 "java/util/NoSuchElementException",
  .methodLink RL 21 ky_K_take,
  .methodLink RL 85 ky_L_open,
  .static ky_L_open,
  .codeWith ky_L_open kb_L_open 5 (some .int) [(0, 10, 13, 31)],
  .classLink RL 31 "java/lang/IndexOutOfBoundsException",
  .methodLink RL 27 ky_K_open,
  .methodLink RL 89 ky_L_ceremony,
  .static ky_L_ceremony,
  .codeWith ky_L_ceremony kb_L_ceremony 7 (some .int) [(0, 14, 17, 31), (0, 14, 21, 13)],
  .methodLink RL 33 ky_K_ceremony,
  .methodLink RL 93 ky_L_offer,
  .static ky_L_offer,
  .codeWith ky_L_offer kb_L_offer 7 (some .int) [(0, 14, 17, 31), (0, 14, 21, 25), (0, 14, 25, 13)],
  .methodLink RL 37 ky_K_offer,
  .methodLink RL 97 ky_L_signature,
  .static ky_L_signature,
  .codeWith ky_L_signature kb_L_signature 5 (some .int) [(0, 10, 13, 25)],
  .methodLink RL 41 ky_K_signature,
  .classLink RL 45 "KeyTokenModel",
  .methodLink RL 47 ky_M_init,
  .methodLink RL 61 ky_M_thrown,
  .methodLink RL 52 ky_M_press,
  .methodLink RL 60 ky_M_feed,
  .methodLink RL 67 ky_M_send,
  .methodLink RL 71 ky_M_waiting,
  .methodLink RL 74 ky_M_take,
  .methodLink RL 79 ky_M_power,
  .methodLink RL 84 ky_M_cut,
  .methodLink RL 88 ky_M_open,
  .methodLink RL 92 ky_M_ceremony,
  .methodLink RL 96 ky_M_offer,
  .methodLink RL 99 ky_M_signature,
  .methodLink RL 103 ky_M_party,
  .methodLink RL 107 ky_M_cell,
  .methodLink RL 112 ky_M_look,
  .constantLong RL 53 4294967295]
def kl_G : List Cond := kl_W ++ kt_GI
theorem kl_W_all : kl_W.all goodWord = true := by decide +kernel
theorem kl_G_good : ∀ w ∈ kl_G, goodWord w = true := fun w h => by
  rcases List.mem_append.mp h with h | h
  · exact List.all_eq_true.mp kl_W_all w h
  · exact kt_GI_good w h
theorem kl_w (i : Nat) {w : Cond} (h : kl_W[i]? = some w) : w ∈ kl_G := List.mem_append_left _ (List.mem_of_getElem? h)
theorem kl_G_I {w : Cond} (h : w ∈ kt_GI) : w ∈ kl_G := List.mem_append_right _ h
theorem kl_G_r {w : Cond} (h : w ∈ kt_G) : w ∈ kl_G := kl_G_I (kt_GI_r h)
theorem kl_pay {s : State} {args : Array Value} (hts : ∀ w ∈ kl_G, w.before args s = true) : ∀ w ∈ kl_G, ∀ (a' : Array Value) (U : State), s.WarmedH U.vm → w.before a' U = true := fun w hw a' U hW => word_at hW (good_of_word (kl_G_good w hw)) (hts w hw)
/-- which exceptions a method may throw -/
def kX {α : Type} (S : Nat → Prop) (o : Option ((Nat ⊕ α) × kt_S)) : Prop := ∀ (e : Nat) (σ' : kt_S), o = some (Sum.inl e, σ') → S e
theorem kX_ite {α : Type} {S : Nat → Prop} {c : Prop} [Decidable c] {a b : Option ((Nat ⊕ α) × kt_S)} (ha : kX S a) (hb : kX S b) : kX S (if c then a else b) := by
  split
  · exact ha
  · exact hb
theorem kX_bind {α β : Type} {S : Nat → Prop} {o : Option β} {f : β → Option ((Nat ⊕ α) × kt_S)} (h : ∀ x, kX S (f x)) : kX S (Option.bind o f) := by
  cases o with
  | none => intro e σ' z; cases z
  | some x => exact h x
theorem kX_none {α : Type} {S : Nat → Prop} : kX (α := α) S none := fun e σ' z => by cases z
theorem kX_inr {α : Type} {S : Nat → Prop} {v : α} {σ : kt_S} : kX S (some (Sum.inr v, σ)) := fun e σ' z => by cases z
theorem kX_inl {α : Type} {S : Nat → Prop} {n : Nat} {σ : kt_S} (h : S n) : kX (α := α) S (some (Sum.inl n, σ)) := fun e σ' z => by cases z; exact h
section KLS
variable {p : Program} {l : Launch} {e : Env} {R : Room} {s : State} {m : MethodId} {args : Array Value} {below : List Frame} {meth : Method} {c : Code} {H : Heap} {locs : List Loc} {cells slots : Nat} {Q : State → Prop}
theorem kl_back {y : MethodName} {rm : Room} {Pc : Array Value → State → Prop} {Qc : Array Value → State → Outcome → State → Prop} {mc ms : Nat} {free : Addr → Prop} {bytes : ByteArray} {maxL : Nat} {ret : Option FieldType} {hs : List (Nat × Nat × Nat × Nat)}
    (hM : Met l y kl_G rm Pc Qc mc ms free) (hblind : FrameBlind Pc) (hrc : rm.cells = mc) (hrs : rm.slots = ms) (hframes : rm.frames + 1 ≤ R.frames) (hlocals : 8 + (maxL + 11) + rm.locals ≤ R.locals)
    (hts : ∀ w ∈ kl_G, w.before args s = true) (hcode : Cond.codeWith y bytes maxL ret hs ∈ kl_G) (hinit : Cond.initialized y.cls ∈ kl_G) :
    Back l R p e below s args y 3 8 (PreOf R mc ms Pc) (PostOf Qc mc ms free) := by
  have hws := kl_pay hts
  refine Back.of_freeWith (handlers := hs) (S := headSpec kl_G rm) (P := Pc) (K := fun _ _ _ _ _ => True) (Q := fun a st o t => Qc a st o t ∧ ∃ L, FrameEnd st o t L mc ms ∧ ∀ q ∈ L, free q.base) (bytes := bytes) (maxL := maxL) (ret := ret)
    (E := fun a st o t L k n => k = mc ∧ n = ms ∧ ∀ q ∈ L, free q.base) hM hframes hlocals ?_ ?_ (fun _ _ _ _ _ _ _ _ _ => trivial) ?_ ?_
  · intro m meth c A a X hp
    exact ⟨atoms_intro fun w hw => hws w hw _ _ X.warmed, hws _ hcode _ _ X.warmed, hws _ hinit _ _ X.warmed, by rw [show (headSpec kl_G rm).room.cells = mc from hrc]; exact hp.1, by rw [show (headSpec kl_G rm).room.slots = ms from hrs]; exact hp.2.1⟩
  · intro m meth c A a g mk X hp
    exact hblind _ _ _ _ hp.2.2
  · intro a st o t ⟨hq, L, hF, hL⟩
    exact ⟨L, mc, ms, hF, rfl, rfl, hL⟩
  · intro m meth c A a g mk v t L k n X hp hq hF ⟨e1, e2, hL⟩
    subst e1; subst e2
    exact ⟨g, mk, t, L, rfl, rfl, hq.1, rfl, hL, rfl, rfl⟩
theorem kl_callS {T : State} (X : Stand p l e R s m args below meth c T locs cells slots) (hexec : p.tables.exec = Jvm.exec) {own : String} {index : Nat} {y : MethodName} {bytes : ByteArray} {maxL : Nat} {ret : Option FieldType} {hs : List (Nat × Nat × Nat × Nat)}
    (hown : s.vm.findClass own = some m.cls) (hlink : (Cond.methodLink own index y).before args s = true) (hstat : (Cond.static y).before args s = true) (hinit : (Cond.initialized y.cls).before args s = true)
    (hcode : (Cond.codeWith y bytes maxL ret hs).before args s = true) (hy : y.cls ≠ "java/lang/invoke/MethodHandle" ∧ y.cls ≠ "java/lang/invoke/VarHandle")
    {W : Nat} {Pre : Pt → Array Value → Prop} {Post : Pt → Array Value → Option Value → Pt → Prop} (hK : Back l R p e below s args y 3 W Pre Post)
    {g : JFrame} (hg : g.method = m) (hsize : g.locals.size = c.maxLocals) {argsL rest : List Value} (hlen : ∀ sig, parseMethodDescriptor y.desc = some sig → argsL.length = sig.parameters.length)
    (hstack : g.stack = argsL.reverse ++ rest) (hW : 2 * g.monitorRoom + (rest.map fun v => v.category).sum ≤ W) (hdg : decode c.code g.pc = .ok (.invokestatic index, 3))
    (hpre : ∀ vm₁, s.WarmedH vm₁ → Pre ⟨T.setVm vm₁, locs, cells, slots⟩ argsL.toArray) :
    ∃ (v : Option Value) (vm₁ : Vm) (B : Pt), s.WarmedH vm₁ ∧ Stand p l e R s m args below meth c B.U B.locs B.cells B.slots ∧ Post ⟨T.setVm vm₁, locs, cells, slots⟩ argsL.toArray v B ∧
      ∀ target, Steps p.tables e below (B.U.setTop { g with pc := g.pc + 3, stack := v.toList ++ rest }) target → Steps p.tables e below (T.setTop g) target := by
  obtain ⟨mk, methM, cM, hnamed, hmethM, -, -, -, -, -, -, hsigM⟩ := Cond.codeWith_spec hcode
  have hstatic : methM.isStatic = true := Cond.static_spec hnamed hmethM hstat
  obtain ⟨kP, hkP, -⟩ := className_of_methodNamed hnamed
  have hinitP : kP.init = .initialized := Cond.initialized_spec (findClass_of_methodNamed hnamed) hkP hinit
  obtain ⟨vm₁, X₁, hstep₁⟩ := X.invokestatic hexec hown hlink hnamed hmethM hstatic hkP hinitP hy (g := g) hg (argsL := argsL) (rest := rest) (hlen _ hsigM) hstack hdg
  obtain ⟨v, B, X', hpost, hsteps⟩ := hK m meth c ⟨T.setVm vm₁, locs, cells, slots⟩ { g with stack := rest } (.invokestatic index) mk argsL.toArray X₁ hg hsize hdg hW (X₁.named hnamed) (hpre vm₁ X₁.warmed)
  exact ⟨v, vm₁, B, X₁.warmed, X', hpost, fun target h => hstep₁ _ fun acts => by rw [doInvoke_state]; exact hsteps.trans h⟩
theorem kl_runS {y : MethodName} {bytes cc : ByteArray} {maxL nL mc ms n index : Nat} {ret : Option FieldType} {rm : Room} {Pc : Array Value → State → Prop} {Qc : Array Value → State → Outcome → State → Prop} {free : Addr → Prop} {own : String} {As rest : List Value} {g : JFrame} {hs : List (Nat × Nat × Nat × Nat)}
    (hx : p.tables.exec = Jvm.exec) (hb : c.code = cc) (hml : c.maxLocals = nL) (hown : s.vm.findClass own = some m.cls) (hts : ∀ w ∈ kl_G, w.before args s = true) (hM : Met l y kl_G rm Pc Qc mc ms free)
    (hrm : rm.cells = mc ∧ rm.slots = ms ∧ rm.frames + 1 ≤ R.frames ∧ 8 + (maxL + 11) + rm.locals ≤ R.locals) (hcw : Cond.codeWith y bytes maxL ret hs ∈ kl_G) (hini : Cond.initialized y.cls ∈ kl_G) (hst : Cond.static y ∈ kl_G) (hlink : Cond.methodLink own index y ∈ kl_G) (hy : y.cls ≠ "java/lang/invoke/MethodHandle" ∧ y.cls ≠ "java/lang/invoke/VarHandle") (hnp : (parseMethodDescriptor y.desc).map (fun d => d.parameters.length) = some n)
    (hp : PreS s H Pc As) (hg : g.method = m) (hn : As.length = n) (hsize : g.locals.size = nL) (hstack : g.stack = As.reverse ++ rest) (hW : 2 * g.monitorRoom + (rest.map fun v => v.category).sum ≤ 8) (hdg : decode cc g.pc = .ok (.invokestatic index, 3)) (hf : cells + mc ≤ R.cells ∧ slots + ms ≤ R.slots) :
    va_Run p l e R s m args below meth c H locs cells slots mc ms g rest (Qc As.toArray) (free) := by
  have hK : Back l R p e below s args y 3 8 (PreOf R mc ms Pc) (PostOf Qc mc ms free) := kl_back hM hp.1 hrm.1 hrm.2.1 hrm.2.2.1 hrm.2.2.2 hts hcw hini
  intro T hT X
  obtain ⟨v, vm₁, ⟨U', l2, c2, s2⟩, hW₁, X', ⟨g', mk, t, L, e1, e2, hq, h1, hL, h2, h3⟩, st⟩ := kl_callS X hx (bytes := bytes) (maxL := maxL) (ret := ret) hown (hts _ hlink) (hts _ hst) (hts _ hini) (hts _ hcw) hy hK hg (hsize.trans hml.symm) (argsL := As) (rest := rest) (fun sig h => hn.trans (kt_npar hnp sig h)) hstack hW (by rw [hb]; exact hdg)
    (fun vm₁ hW₁ => ⟨hf.1, hf.2, hp.2 (T.setVm vm₁) hT hW₁⟩)
  dsimp only [Pt.U, Pt.locs, Pt.cells, Pt.slots] at X' e1 e2 h1 h2 h3 st
  subst h1; subst h2; subst h3
  exact ⟨v, (T.setVm vm₁).calling g' mk As.toArray, t, U', L, hT, X', hL, e1, e2, hq, st⟩
end KLS
