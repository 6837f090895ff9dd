/-! A catch whose class may not have been resolved yet. -/
theorem kl_go_cold {E : CtlPost} {e : Env} {d : Bool} {acts : List Action} {s : State} {f : JFrame} {a : Addr} {Q : Handler → Pre} {x : ExceptionTableEntry} {t : List ExceptionTableEntry} {c : ClassId} {cell : Cell} {vm' : Vm} (hx : covers x f.pc = true) (h0 : x.catchType ≠ 0)
    (hg : (Jvm.resolveClass f.method.cls x.catchType).Gives e.toSetting s.vm (.ok c) vm') (hsz : vm'.classes.size ≤ s.vm.classes.size) (hcell : s.heap[a]? = some cell) (hobj : ∀ k, cell.vm ≠ .statics k) (hk : ∃ k, vm'.classes[cell.cls]? = some k) (hc : ∃ k, vm'.classes[c]? = some k) :
    wp (findHandler.go f a (x :: t)) Q E e d acts s ↔ if vm'.assignable cell.cls c = true then Q (.found x.handlerPc) d acts (s.setVm vm') else wp (findHandler.go f a t) Q E e d acts (s.setVm vm') := by
  simp only [covers] at hx
  obtain ⟨ha, ht⟩ := hg.op (op := VmOp.resolveClass f.method.cls x.catchType) rfl
  cases hfit : vm'.assignable cell.cls c <;>
    simp [findHandler.go, hx, h0, ha, ht, hsz, hcell, hobj, hk, hc, hfit, VmOp.dirties, VmOp.acts]
def kl_Finds (e : Env) (s : State) (f : JFrame) (a : Addr) (h : Handler) (vm' : Vm) : Prop :=
  ∀ (Q : Handler → Pre) (E : CtlPost) (d : Bool) (acts : List Action), wp (findHandler f a) Q E e d acts s ↔ Q h d acts (s.setVm vm')
theorem kl_catch {e : Env} {s : State} {a : Addr} {f : JFrame} {r : List Frame} {pc : Nat} {vm' : Vm} (hfind : kl_Finds e s f a (.found pc) vm') :
    (stepThrowing e s a (.java f :: r)).Is ((s.setVm vm').setFrames (.java { f with pc := pc, stack := [.ref a] } :: r)) [] := by
  simp only [stepThrowing, searchFrame, vmDo]
  generalize hr : Sem.go _ e false [] s = res
  obtain ⟨as, rfl, ha⟩ := Sem.eq_ok_of hr (a := Handler.found pc) (s' := s.setVm vm') (acts' := []) (by simp [hfind _ _ _ _])
  exact ⟨rfl, ha⟩
theorem kl_caught {tb : Tables} {e : Env} {s target : State} {g : JFrame} {c : Code} {below : List Frame} {a : Addr} {vm' : Vm} (h : At s g.method c below) {pc : Nat} (hfind : kl_Finds e ((s.setTop g).pushFrame (.throwing a)) g a (.found pc) vm')
    (hrest : Steps tb e below ((s.setVm vm').setTop { g with pc := pc, stack := [.ref a] }) target) :
    Steps tb e below ((s.setTop g).pushFrame (.throwing a)) target := by
  obtain ⟨hgo, hw⟩ := h.throwing a
  refine Steps.head hgo hw ?_
  rw [stepThread_throwing (frames_entered h.top _), (kl_catch (s := (s.setTop g).pushFrame (.throwing a)) hfind).1]
  obtain ⟨g₀, hg⟩ := Option.isSome_iff_exists.mp h.top
  obtain ⟨r, hr⟩ := State.topJava?_eq_some.mp hg
  have hr' : (s.setVm vm').frames = .java g₀ :: r := hr
  rw [State.pushFrame, State.setTop_of_frames _ hr, State.setFrames_setFrames]
  rw [State.setTop_of_frames _ hr'] at hrest
  rw [hr]
  show Steps tb e below (((s.setVm vm').setFrames _).setFrames _) target
  rw [State.setFrames_setFrames]
  exact hrest
/-- none of the exceptions is one of another class -/
def kl_Exc (U : State) : Prop := ∀ (i j : Nat) (A B : String), kt_exs[i]? = some A → kt_exs[j]? = some B → ¬ i = j → ∀ a b, U.vm.findClass A = some a → U.vm.findClass B = some b → U.vm.assignable a b = false
theorem kl_Exc.moved {u U : State} (hvm : u.vm.Alike U.vm) (h : kl_Exc u) : kl_Exc U := fun i j A B hA hB hij a b ha hb => by
  rw [hvm.findClass] at ha hb
  rw [hvm.assignable]
  exact h i j A B hA hB hij a b ha hb
theorem kl_asg_self (vm : Vm) (c : ClassId) : vm.assignable c c = true := by
  show vm.assignableAux (255 + 1) c c = true
  rw [Vm.assignableAux, Bool.or_eq_true, beq_iff_eq]
  exact Or.inl rfl
theorem kl_search {e : Env} {s : State} {f : JFrame} {a : Addr} {args : Array Value} {own : String} (hpl : e.platform.magicAccessors = ({} : Platform).magicAccessors) (hown : s.vm.findClass own = some f.method.cls) {n : Nat} {E0 : String} (hE : kt_exs[n]? = some E0) {cell : Cell} (hobj : ∀ k, cell.vm ≠ .statics k) (hcls : s.vm.findClass E0 = some cell.cls) (hX : kl_Exc s) :
    ∀ (es : List ExceptionTableEntry) (js : List Nat) (T : State), s.WarmedH T.vm → T.heap[a]? = some cell → (∀ (k : Nat) (x : ExceptionTableEntry), es[k]? = some x → covers x f.pc = true ∧ x.catchType ≠ 0 ∧ ∃ j E, js[k]? = some j ∧ kt_exs[j]? = some E ∧ (Cond.classLink own x.catchType E).before args s = true) → ∀ (k0 : Nat) (x0 : ExceptionTableEntry), es[k0]? = some x0 → js[k0]? = some n → (∀ k, k < k0 → ¬ js[k]? = some n) →
      ∃ vm', s.WarmedH vm' ∧ ∀ (Q : Handler → Pre) (E : CtlPost) (d : Bool) (acts : List Action), wp (findHandler.go f a es) Q E e d acts T ↔ Q (.found x0.handlerPc) d acts (T.setVm vm') := by
  intro es
  induction es with
  | nil =>
    intro js T hW hcell hall k0 x0 hx0
    cases k0 <;> cases hx0
  | cons x t ih =>
    intro js T hW hcell hall k0 x0 hx0 hj0 hlt
    obtain ⟨h1, h2, j, E, h3, h4, h5⟩ := hall 0 x rfl
    obtain ⟨c', hc', hcl⟩ := Cond.classLink_spec hown h5 e.platform hpl
    obtain ⟨dk, _, _, kt, hd, _, _, _, _, hkt, _, hopen⟩ := hcl.here
    have hcl₀ := hW.classLinks hcl
    have hW' : s.WarmedH (T.vm.noted f.method.cls x.catchType (.cls c')) := hW.noted hd hopen (State.rightAt_cls hcl)
    obtain ⟨ks, hks⟩ := Vm.classAt_of_findClass hcls
    obtain ⟨ks', hks', -⟩ := hW'.alike.2.2 _ _ hks
    obtain ⟨kt', hkt', -⟩ := hW'.alike.2.2 _ _ hkt
    have hgo := fun (Q : Handler → Pre) (E : CtlPost) (d : Bool) (acts : List Action) => kl_go_cold (E := E) (d := d) (acts := acts) (Q := Q) (t := t) h1 h2 (resolveClass_links e.toSetting hcl₀) (by no_record) hcell hobj ⟨ks', hks'⟩ ⟨kt', hkt'⟩
    cases k0 with
    | zero =>
      cases hx0
      rw [hj0] at h3
      cases h3
      rw [hE] at h4
      cases h4
      have hcc : c' = cell.cls := Option.some.inj (hc'.symm.trans hcls)
      refine ⟨_, hW', fun Q E d acts => ?_⟩
      rw [hgo Q E d acts, if_pos (by rw [hcc]; exact kl_asg_self _ _)]
    | succ k0 =>
      have hjn : ¬ n = j := fun z => hlt 0 (by omega) (by rw [h3, z])
      have hno : (T.vm.noted f.method.cls x.catchType (.cls c')).assignable cell.cls c' = false := by
        rw [hW'.alike.assignable]
        exact hX n j E0 E hE h4 hjn _ _ hcls hc'
      obtain ⟨vm', g1, g2⟩ := ih (js.drop 1) (T.setVm (T.vm.noted f.method.cls x.catchType (.cls c'))) hW' hcell (fun k y hy => by
        have := hall (k + 1) y hy
        rw [List.getElem?_drop, show 1 + k = k + 1 by omega]
        exact this) k0 x0 hx0 (by rw [List.getElem?_drop, show 1 + k0 = k0 + 1 by omega]; exact hj0) (fun k hk => by
        rw [List.getElem?_drop, show 1 + k = k + 1 by omega]
        exact hlt (k + 1) (by omega))
      refine ⟨vm', g1, fun Q E d acts => ?_⟩
      rw [hgo Q E d acts, if_neg (by rw [hno]; decide)]
      exact g2 Q E d acts
