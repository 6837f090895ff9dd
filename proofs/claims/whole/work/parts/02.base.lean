/-! Base, first half: the state as numbers by place and index; its cells in the heap; locals. -/
abbrev kt_Sh : Type := List (Nat × Nat × List Nat)
abbrev kt_S : Type := Nat → Nat → Int32
abbrev kt_Fr : Type := List (Option Value)
abbrev kt_D : Type := kt_Fr → List Value → kt_S → Option (Option Value × kt_S)
abbrev kt_F : Type := List Value → kt_S → Option (Option Value × kt_S)
def kt_up (σ : kt_S) (p k : Nat) (v : Int32) : kt_S := fun q => if q = p then upd (σ p) k v else σ q
theorem kt_up_self (σ : kt_S) (p k : Nat) (v : Int32) : kt_up σ p k v p = upd (σ p) k v := if_pos rfl
theorem kt_up_ne (σ : kt_S) {p q : Nat} (k : Nat) (v : Int32) (h : ¬ q = p) : kt_up σ p k v q = σ q := if_neg h
def kt_c (as : Nat → Nat) (v : Value) : Value := match v with
  | .ref k => .ref (as k)
  | .int x => .int x
  | .long x => .long x
  | .float x => .float x
  | .double x => .double x
  | .null => .null
  | .retAddr x => .retAddr x
theorem kt_c_cat (as : Nat → Nat) (v : Value) : (kt_c as v).category = v.category := by cases v <;> rfl
theorem kt_c_cats (as : Nat → Nat) (st : List Value) : ((st.map (kt_c as)).map fun v => v.category).sum = (st.map fun v => v.category).sum := by
  rw [List.map_map]
  congr 1
  apply List.map_congr_left
  intro v _
  exact kt_c_cat as v
/-- a field's value: kinds 0 (int), 1 (boolean), q + 2 (the object at place q) -/
def kt_fv (as : Nat → Nat) (f : Nat → Int32) (k fk : Nat) : Value := if fk ≤ 1 then .int (f k) else .ref (as (fk - 2))
/-- a place's cell: kinds 0 (int array), 1 (boolean array), 2 (array of references), else an object -/
def kt_e (as : Nat → Nat) (cA : Nat → ClassId) (f : Nat → Int32) (z : Nat × Nat × List Nat) : va_E :=
  if z.1 = 0 then .inl (cA 0, z.2.1, .inl f)
  else if z.1 = 1 then .inl (cA 1, z.2.1, .inl f)
  else if z.1 = 2 then .inl (cA 2, z.2.1, .inr (.inr (.inr (.inr (fun i => (z.2.2[i]?).map as)))))
  else .inr (z.2.1, z.2.2.mapIdx (kt_fv as f))
def kt_w (sh : kt_Sh) (as : Nat → Nat) (cA : Nat → ClassId) (σ : kt_S) : va_W := sh.mapIdx (fun p z => (as p, kt_e as cA (σ p) z))
theorem kt_w_get {sh : kt_Sh} {as : Nat → Nat} {cA : Nat → ClassId} {σ : kt_S} {p : Nat} {z : Nat × Nat × List Nat} (h : sh[p]? = some z) : (kt_w sh as cA σ)[p]? = some (as p, kt_e as cA (σ p) z) := by
  simp [kt_w, List.getElem?_mapIdx, h]
theorem kt_w_inv {sh : kt_Sh} {as : Nat → Nat} {cA : Nat → ClassId} {σ : kt_S} {p : Nat} {q : Nat × va_E} (h : (kt_w sh as cA σ)[p]? = some q) : p < sh.length ∧ q.1 = as p := by
  have h1 : p < (kt_w sh as cA σ).length := (List.getElem?_eq_some_iff.mp h).1
  have h2 : p < sh.length := by simpa [kt_w] using h1
  have h3 := kt_w_get (as := as) (cA := cA) (σ := σ) (List.getElem?_eq_getElem h2)
  rw [h3] at h
  cases h
  exact ⟨h2, rfl⟩
theorem kt_w_set {sh : kt_Sh} {as : Nat → Nat} {cA : Nat → ClassId} {σ : kt_S} {p k : Nat} {v : Int32} {z : Nat × Nat × List Nat} {e : va_E} (h : sh[p]? = some z) (he : kt_e as cA (upd (σ p) k v) z = e) : (kt_w sh as cA σ).set p (as p, e) = kt_w sh as cA (kt_up σ p k v) := by
  apply List.ext_getElem?
  intro i
  by_cases hi : i = p
  · subst hi
    have hl : i < (kt_w sh as cA σ).length := by
      have := (List.getElem?_eq_some_iff.mp h).1
      simpa [kt_w] using this
    rw [List.getElem?_set_self hl, kt_w_get h, kt_up_self, he]
  · rw [List.getElem?_set_ne (Ne.symm hi)]
    simp only [kt_w, List.getElem?_mapIdx]
    rw [kt_up_ne σ k v hi]
/-- which cells may change: the places', and those that are new; where the flag is true: none -/
def kt_A (b : Bool) (sh : kt_Sh) (as : Nat → Nat) (sz : Nat) : Nat → Prop := fun q => b = false ∧ ((∃ k, k < sh.length ∧ as k = q) ∨ sz ≤ q)
def kt_inj (sh : kt_Sh) (as : Nat → Nat) : Prop := ∀ i j, i < sh.length → j < sh.length → as i = as j → i = j
theorem kt_D_of {sh : kt_Sh} {as : Nat → Nat} {cA : Nat → ClassId} {σ : kt_S} {sz : Nat} (hi : kt_inj sh as) : va_D (kt_A false sh as sz) (kt_w sh as cA σ) := by
  refine ⟨fun i j p q h1 h2 h3 => ?_, fun k q hk => ?_⟩
  · obtain ⟨a1, a2⟩ := kt_w_inv h1
    obtain ⟨b1, b2⟩ := kt_w_inv h2
    exact hi i j a1 b1 (by rw [← a2, ← b2]; exact h3)
  · obtain ⟨a1, a2⟩ := kt_w_inv hk
    exact ⟨rfl, Or.inl ⟨k, a1, a2.symm⟩⟩
theorem kt_A_le {b : Bool} {sh : kt_Sh} {as : Nat → Nat} {sz sz' : Nat} (h : sz ≤ sz') : ∀ q, kt_A b sh as sz' q → kt_A b sh as sz q := by
  rintro q ⟨h0, h1 | h1⟩
  · exact ⟨h0, Or.inl h1⟩
  · exact ⟨h0, Or.inr (Nat.le_trans h h1)⟩
theorem kt_A_up {b : Bool} {sh : kt_Sh} {as : Nat → Nat} {sz : Nat} : ∀ q, kt_A b sh as sz q → kt_A false sh as sz q := fun _ h => ⟨rfl, h.2⟩
theorem kt_A_to {b b' : Bool} {sh : kt_Sh} {as : Nat → Nat} {sz : Nat} (hb : b' = true → b = true) : ∀ q, kt_A b sh as sz q → kt_A b' sh as sz q := by
  rintro q ⟨h0, h1⟩
  refine ⟨?_, h1⟩
  cases b' with
  | false => rfl
  | true => rw [hb rfl] at h0; cases h0
theorem kt_S_to {b b' : Bool} {sh : kt_Sh} {as : Nat → Nat} {H0 H : Heap} {locs : List Loc} (hb : b' = true → b = true) (h : va_S (kt_A b sh as H0.size) H0 H locs) : va_S (kt_A b' sh as H0.size) H0 H locs :=
  ⟨h.1, fun q h1 h2 => h.2.1 q h1 (fun z => h2 (kt_A_to hb q z)), fun q hq => kt_A_to hb _ (h.2.2 q hq)⟩
theorem kt_S_up {b : Bool} {sh : kt_Sh} {as : Nat → Nat} {H0 H : Heap} {locs : List Loc} (h : va_S (kt_A b sh as H0.size) H0 H locs) : va_S (kt_A false sh as H0.size) H0 H locs := kt_S_to (fun z => by cases z) h
/-! the locals -/
def kt_lh (as : Nat → Nat) (ls : Array Slot) (nL : Nat) (L : kt_Fr) : Prop := L.length = nL ∧ ls.size = nL ∧ lv_wf ls ∧ ∀ (k : Nat) (v : Value), L[k]? = some (some v) → ls[k]? = some (.val (kt_c as v))
def kt_lv (as : Nat → Nat) (L : kt_Fr) : List (Nat × Value) := (List.range L.length).filterMap (fun k => (L[k]?.join).map (fun v => (k, kt_c as v)))
theorem kt_lv_mem {as : Nat → Nat} {L : kt_Fr} {q : Nat × Value} : q ∈ kt_lv as L ↔ ∃ v, L[q.1]? = some (some v) ∧ q.2 = kt_c as v := by
  unfold kt_lv
  rw [List.mem_filterMap]
  constructor
  · rintro ⟨k, -, h⟩
    cases hk : L[k]? with
    | none => rw [hk] at h; cases h
    | some o =>
      cases o with
      | none => rw [hk] at h; cases h
      | some v => rw [hk] at h; cases h; exact ⟨v, hk, rfl⟩
  · rintro ⟨v, h1, h2⟩
    refine ⟨q.1, List.mem_range.mpr (List.getElem?_eq_some_iff.mp h1).1, ?_⟩
    rw [h1]
    obtain ⟨a, b⟩ := q
    subst h2
    rfl
theorem kt_lh.has {as : Nat → Nat} {ls : Array Slot} {nL : Nat} {L : kt_Fr} (h : kt_lh as ls nL L) : lv_has ls nL (kt_lv as L) := by
  refine ⟨h.2.1, h.2.2.1, fun q hq => ?_⟩
  obtain ⟨v, h1, h2⟩ := kt_lv_mem.mp hq
  rw [h2]
  exact h.2.2.2 _ _ h1
def kt_kill (L : kt_Fr) (i : Nat) : kt_Fr := match i with
  | 0 => L
  | j + 1 => match L[j]? with
    | some (some (.long _)) => L.set j none
    | some (some (.double _)) => L.set j none
    | _ => L
def kt_st1 (L : kt_Fr) (i : Nat) (v : Value) : kt_Fr := (kt_kill L i).set i (some v)
def kt_st2 (L : kt_Fr) (i : Nat) (v : Value) : kt_Fr := ((kt_kill L i).set i (some v)).set (i + 1) none
theorem kt_kill_len (L : kt_Fr) (i : Nat) : (kt_kill L i).length = L.length := by
  unfold kt_kill
  split
  · rfl
  · split <;> simp
theorem kt_set_none {L : kt_Fr} {j k : Nat} {w : Value} (h : (L.set j none)[k]? = some (some w)) : ¬ k = j ∧ L[k]? = some (some w) := by
  by_cases hk : k = j
  · subst hk
    rw [List.getElem?_set] at h
    simp at h
  · rw [List.getElem?_set_ne (Ne.symm hk)] at h
    exact ⟨hk, h⟩
theorem kt_kill_get {L : kt_Fr} {i k : Nat} {w : Value} (h : (kt_kill L i)[k]? = some (some w)) : L[k]? = some (some w) ∧ ¬ (k + 1 = i ∧ w.category = 2) := by
  unfold kt_kill at h
  split at h
  · exact ⟨h, fun q => by omega⟩
  · next j =>
    split at h
    · next hj => obtain ⟨h1, h2⟩ := kt_set_none h; exact ⟨h2, fun q => h1 (by omega)⟩
    · next hj => obtain ⟨h1, h2⟩ := kt_set_none h; exact ⟨h2, fun q => h1 (by omega)⟩
    · next n1 n2 =>
      refine ⟨h, fun q => ?_⟩
      have hkj : k = j := by omega
      subst hkj
      cases w with
      | long x => exact n1 x h
      | double x => exact n2 x h
      | int x => exact absurd q.2 (by intro z; cases z)
      | float x => exact absurd q.2 (by intro z; cases z)
      | null => exact absurd q.2 (by decide)
      | ref x => exact absurd q.2 (by intro z; cases z)
      | retAddr x => exact absurd q.2 (by intro z; cases z)
theorem kt_lh.st1 {as : Nat → Nat} {ls ls' : Array Slot} {nL i : Nat} {L : kt_Fr} {v : Value} (h : kt_lh as ls nL L) (h' : lv_has ls' nL ((i, kt_c as v) :: (kt_lv as L).filter (fun q => !(q.1 == i) && !(q.1 + 1 == i && q.2.category == 2)))) : kt_lh as ls' nL (kt_st1 L i v) := by
  refine ⟨by simp [kt_st1, kt_kill_len, h.1], h'.1, h'.2.1, fun k w hk => ?_⟩
  unfold kt_st1 at hk
  by_cases hki : k = i
  · subst hki
    have hw : w = v := by
      rw [List.getElem?_set] at hk
      simp only [if_true] at hk
      split at hk
      · cases hk; rfl
      · cases hk
    subst hw
    exact h'.2.2 (k, kt_c as w) List.mem_cons_self
  · rw [List.getElem?_set_ne (Ne.symm hki)] at hk
    obtain ⟨h1, h2⟩ := kt_kill_get hk
    refine h'.2.2 (k, kt_c as w) (List.mem_cons_of_mem _ (List.mem_filter.mpr ⟨kt_lv_mem.mpr ⟨w, h1, rfl⟩, ?_⟩))
    simp only [Bool.and_eq_true, Bool.not_eq_true', beq_eq_false_iff_ne, ne_eq, Bool.and_eq_false_iff]
    refine ⟨hki, ?_⟩
    by_cases hz : k + 1 = i
    · exact Or.inr (fun q => h2 ⟨hz, by rw [← kt_c_cat as]; exact q⟩)
    · exact Or.inl hz
theorem kt_lh.st2 {as : Nat → Nat} {ls ls' : Array Slot} {nL i : Nat} {L : kt_Fr} {v : Value} (h : kt_lh as ls nL L) (h' : lv_has ls' nL ((i, kt_c as v) :: (kt_lv as L).filter (fun q => !(q.1 == i) && (!(q.1 == i + 1) && !(q.1 + 1 == i && q.2.category == 2))))) : kt_lh as ls' nL (kt_st2 L i v) := by
  refine ⟨by simp [kt_st2, kt_kill_len, h.1], h'.1, h'.2.1, fun k w hk => ?_⟩
  unfold kt_st2 at hk
  obtain ⟨hk1, hk⟩ := kt_set_none hk
  by_cases hki : k = i
  · subst hki
    have hw : w = v := by
      rw [List.getElem?_set] at hk
      simp only [if_true] at hk
      split at hk
      · cases hk; rfl
      · cases hk
    subst hw
    exact h'.2.2 (k, kt_c as w) List.mem_cons_self
  · rw [List.getElem?_set_ne (Ne.symm hki)] at hk
    obtain ⟨h1, h2⟩ := kt_kill_get hk
    refine h'.2.2 (k, kt_c as w) (List.mem_cons_of_mem _ (List.mem_filter.mpr ⟨kt_lv_mem.mpr ⟨w, h1, rfl⟩, ?_⟩))
    simp only [Bool.and_eq_true, Bool.not_eq_true', beq_eq_false_iff_ne, ne_eq, Bool.and_eq_false_iff]
    refine ⟨hki, hk1, ?_⟩
    by_cases hz : k + 1 = i
    · exact Or.inr (fun q => h2 ⟨hz, by rw [← kt_c_cat as]; exact q⟩)
    · exact Or.inl hz
/-! the locals with which a method begins -/
def kt_sl (av : List Value) : kt_Fr := av.flatMap fun v => if v.category = 2 then [some v, none] else [some v]
theorem kt_sl_len (as : Nat → Nat) (av : List Value) : (lg_sl (av.map (kt_c as))).length = (kt_sl av).length := by
  induction av with
  | nil => rfl
  | cons v t ih =>
    simp only [lg_sl, kt_sl, List.map_cons, List.flatMap_cons, List.length_append, kt_c_cat] at ih ⊢
    rw [ih]
    split <;> rfl
theorem kt_sl_get (as : Nat → Nat) (av : List Value) : ∀ (k : Nat) (v : Value), (kt_sl av)[k]? = some (some v) → (lg_sl (av.map (kt_c as)))[k]? = some (.val (kt_c as v)) := by
  induction av with
  | nil => intro k v h; simp [kt_sl] at h
  | cons u t ih =>
    intro k v h
    simp only [lg_sl, kt_sl, List.map_cons, List.flatMap_cons, kt_c_cat] at ih h ⊢
    by_cases hc : u.category = 2
    · simp only [hc, if_true] at h ⊢
      match k, h with
      | 0, h => simp at h; subst h; simp
      | 1, h => simp at h
      | k + 2, h => simp at h; simpa using ih k v h
    · simp only [hc, if_false] at h ⊢
      match k, h with
      | 0, h => simp at h; subst h; simp
      | k + 1, h => simp at h; simpa using ih k v h
def kt_in (nL : Nat) (av : List Value) : kt_Fr := kt_sl av ++ List.replicate (nL - (kt_sl av).length) none
def kt_run (nL : Nat) (d : kt_D) : kt_F := fun av σ => if (kt_sl av).length ≤ nL then d (kt_in nL av) [] σ else none
theorem kt_entry (as : Nat → Nat) (av : List Value) {nL : Nat} (h : (kt_sl av).length ≤ nL) : kt_lh as ((lg_sl (av.map (kt_c as)) ++ List.replicate (nL - (lg_sl (av.map (kt_c as))).length) Slot.unset).toArray) nL (kt_in nL av) := by
  have h0 := kt_sl_len as av
  have hl := lv_entry (av.map (kt_c as)) (n := nL) (by rw [h0]; exact h)
  refine ⟨by simp [kt_in]; omega, hl.1, hl.2.1, fun k v hk => ?_⟩
  unfold kt_in at hk
  by_cases hk1 : k < (kt_sl av).length
  · rw [List.getElem?_append_left hk1] at hk
    have h1 := kt_sl_get as av k v hk
    rw [List.getElem?_toArray, List.getElem?_append_left (by rw [h0]; exact hk1)]
    exact h1
  · rw [List.getElem?_append_right (by omega)] at hk
    rw [List.getElem?_replicate] at hk
    split at hk <;> cases hk
/-! Base, second half: what a point of a method's code means; its soundness, an instruction a row. -/
def kt_tys (cA : Nat → ClassId) : List (ClassId × FieldType) := [(cA 0, .int), (cA 1, .boolean), (cA 2, .object "KeyToken$RelyingParty")]
/-- the static arrays of Request, at places from 100 on -/
def kt_sts : List (String × List Int32) := [("MAKE_KINDS", [-1, 0, 3, 0, -1, 4, -1, -1, 0]), ("MAKE_WANTED", [1, 2, 3]), ("ASSERT_KINDS", [-1, 3, 0, 4, -1, -1, 0]), ("ASSERT_WANTED", [1, 2]), ("PIN_KINDS", [-1, 0, 3, 3]), ("PIN_WANTED", [1])]
def kt_St (as : Nat → Nat) (A : Nat → Prop) (U : State) : Prop := ∀ (k : Nat) (q : String × List Int32), kt_sts[k]? = some q → va_Z "KeyToken$Request" q.1 "[I" (.ref (as (100 + k))) A U U.heap ∧ va_T .int (as (100 + k)) q.2.length (fun j => .int (q.2.getD j 0)) A U U.heap
theorem kt_N_all : kt_N.all kt_nest = true := by decide +kernel
theorem kt_N_nest : ∀ w ∈ kt_N, kt_nest w = true := fun w h => List.all_eq_true.mp kt_N_all w h
theorem kt_Nw_warm {w : Cond} (hw : kt_nest w = true) {s U : State} (hW : s.WarmedH U.vm) (h : va_Nw w s) : va_Nw w U := by
  unfold kt_nest at hw
  split at hw
  · exact va_Nw.warmF hW h
  · exact va_Nw.warmM hW h
  · exact va_Nw.warmD hW h
  · exact va_Nw.warmC hW h
  · cases hw
theorem kt_nest_tab {w : Cond} (hw : kt_nest w = true) : w.onTables = true := by
  unfold kt_nest at hw
  split at hw
  · rfl
  · rfl
  · rfl
  · rfl
  · cases hw
/-- a static of Throwable that holds a reference or null -/
def kt_Th (n d : String) (A : Nat → Prop) (U : State) : Prop := ∃ (c : ClassId) (k : Class) (i : Nat) (f : Field) (a : Nat) (cell : Cell) (v : Value), U.vm.findClass "java/lang/Throwable" = some c ∧ U.fieldFound? "java/lang/Throwable" n d = some (c, k, i, f) ∧ f.isStatic = true ∧ k.statics = some a ∧ k.staticTypes[f.slot]? = some f.type ∧ U.heap[a]? = some cell ∧ cell.vm.isStatics = true ∧ cell.cls = c ∧ cell.slots[f.slot]? = some v ∧ v.isRef = true ∧ ¬ A a
/-- the texts of the class: entry, text -/
def kt_strs : List (Nat × String) := [(34, "no power"), (57, "not 1 to 8 bytes, or no room"), (74, "no output is left"), (102, "no such party or user"), (114, "no such party or origin"), (116, "no power or no open challenge"), (142, "no such party or field"), (148, "no such signature"), (150, "no challenge is open"), (152, "no such signature or field")]
def kt_X (A : Nat → Prop) (U : State) : Prop := (∀ (k : Nat) (q : Nat × String), kt_strs[k]? = some q → ∃ a, vk_R "KeyToken" q.1 q.2 a U) ∧ kt_Th "UNASSIGNED_STACK" Bundle.steD A U ∧ kt_Th "SUPPRESSED_SENTINEL" Bundle.listD A U
theorem kt_Th.moved {n d : String} {A B : Nat → Prop} {u U : State} (hvm : u.vm.Alike U.vm) (hH : ∀ a : Nat, a < u.heap.size → ¬ A a → U.heap[a]? = u.heap[a]?) (hAB : ∀ q, B q → A q) (h : kt_Th n d A u) : kt_Th n d B U := by
  obtain ⟨c, k, i, f, a, cell, v, h1, h2, h3, h4, h5, h6, h7, h8, h9, h10, h11⟩ := h
  obtain ⟨k', hi', he⟩ := State.fieldFound?_setVm hvm h2
  exact ⟨c, k', i, f, a, cell, v, by rw [hvm.findClass]; exact h1, hi', h3, by rw [he]; exact h4, by rw [he]; exact h5, by rw [hH a (Array.getElem?_eq_some_iff.mp h6).1 h11]; exact h6, h7, h8, h9, h10, fun z => h11 (hAB a z)⟩
theorem kt_X.moved {A B : Nat → Prop} {u U : State} (hW : u.WarmedH U.vm) (hH : ∀ a : Nat, a < u.heap.size → ¬ A a → U.heap[a]? = u.heap[a]?) (hAB : ∀ q, B q → A q) (h : kt_X A u) : kt_X B U := by
  obtain ⟨h1, h2, h3⟩ := h
  refine ⟨fun k q hk => ?_, h2.moved hW.alike hH hAB, h3.moved hW.alike hH hAB⟩
  obtain ⟨a, ha⟩ := h1 k q hk
  exact ⟨a, ha.warm hW⟩
/-- what stays over a method's run: the classes, the links between nest mates, the places apart, the static arrays -/
def kt_K (sh : kt_Sh) (D : va_G) (cA : Nat → ClassId) (as : Nat → Nat) (U : State) : Prop :=
  va_K D vwCl (kt_tys cA) U ∧ (∀ w ∈ kt_N, va_Nw w U) ∧ kt_inj sh as ∧ kt_St as (kt_A false sh as U.heap.size) U ∧ kt_X (kt_A false sh as U.heap.size) U
def kt_B (sh : kt_Sh) (D : va_G) (cA : Nat → ClassId) (as : Nat → Nat) (σ : kt_S) (U : State) : Prop := kt_K sh D cA as U ∧ va_P D vwCl (kt_w sh as cA σ) U.heap
theorem kt_K.to {fl : Bool} {sh : kt_Sh} {D : va_G} {cA : Nat → ClassId} {as : Nat → Nat} {s U : State} {locs : List Loc} (h : kt_K sh D cA as s) (hW : s.WarmedH U.vm) (hS0 : va_S (kt_A fl sh as s.heap.size) s.heap U.heap locs) : kt_K sh D cA as U := by
  obtain ⟨h1, h2, h3, h4, h5⟩ := h
  have hS := kt_S_up hS0
  refine ⟨va_K.moved hW.alike h1, fun w hw => kt_Nw_warm (kt_N_nest w hw) hW (h2 w hw), h3, fun k q hk => ?_, h5.moved hW hS.2.1 (kt_A_le hS.1)⟩
  obtain ⟨a, b⟩ := h4 k q hk
  exact ⟨((a.kept hS.2.1).moved hW.alike).narrow (kt_A_le hS.1), ((b.kept hS.2.1).moved hW.alike).narrow (kt_A_le hS.1)⟩
theorem kt_B.blind {sh : kt_Sh} {D : va_G} {cA : Nat → ClassId} {as : Nat → Nat} {σ : kt_S} {U : State} (g : JFrame) (mk : MethodId) (a : Array Value) (h : kt_B sh D cA as σ U) : kt_B sh D cA as σ (U.calling g mk a) := by
  obtain ⟨⟨h1, h2, h3, h4, h5, h6, h7⟩, h8⟩ := h
  refine ⟨⟨va_K.moved (u := U) (U := U.calling g mk a) (Vm.Alike.refl U.vm) h1, fun w hw => va_Nw.same (u := U) (U := U.calling g mk a) (kt_nest_tab (kt_N_nest w hw)) rfl (h2 w hw), h3, fun k q hk => ?_, fun k q hk => ?_, kt_Th.moved (u := U) (U := U.calling g mk a) (Vm.Alike.refl U.vm) (fun _ _ _ => rfl) (fun _ z => z) h6, kt_Th.moved (u := U) (U := U.calling g mk a) (Vm.Alike.refl U.vm) (fun _ _ _ => rfl) (fun _ z => z) h7⟩, h8⟩
  · obtain ⟨a1, b1⟩ := h4 k q hk
    exact ⟨va_Z.moved (u := U) (U := U.calling g mk a) (Vm.Alike.refl U.vm) a1, va_T.moved (u := U) (U := U.calling g mk a) (Vm.Alike.refl U.vm) b1⟩
  · obtain ⟨a1, b1⟩ := h5 k q hk
    exact ⟨a1, vk_R.same (u := U) (U := U.calling g mk a) rfl b1⟩
/-- a method's end -/
def kt_exs : List String := ["java/lang/IllegalStateException", "java/lang/IllegalArgumentException", "java/util/NoSuchElementException", "java/lang/IndexOutOfBoundsException"]
/-- an answer that stands for a throw: a place from 1000 on -/
def kt_isX (r : Option Value) : Option Nat := match r with
  | some (.ref n) => if 1000 ≤ n then some (n - 1000) else none
  | _ => none
def kt_exc (n a : Nat) (st t : State) : Prop := st.heap.size ≤ a ∧ ∃ (ce : Cell) (E : String), kt_exs[n]? = some E ∧ t.heap[a]? = some ce ∧ ce.vm = .none ∧ st.vm.findClass E = some ce.cls
def kt_end (mc : Nat) (as : Nat → Nat) (r : Option Value) (o : Outcome) (st t : State) : Prop := match kt_isX r with
  | none => o = .returned (r.map (kt_c as))
  | some n => 0 < mc ∧ ∃ a, o = .threw a ∧ kt_exc n a st t
theorem kt_end_zero {as : Nat → Nat} {r : Option Value} {o : Outcome} {st t : State} (h : kt_end 0 as r o st t) : o = .returned (r.map (kt_c as)) := by
  unfold kt_end at h
  split at h
  · exact h
  · exact absurd h.1 (Nat.lt_irrefl 0)
def kt_Q (sh : kt_Sh) (mc : Nat) (fr : Bool) (D : va_G) (cA : Nat → ClassId) (as : Nat → Nat) (r : Option Value) (σ : kt_S) (sz : Nat) : Array Value → State → Outcome → State → Prop := fun _ st o t =>
  kt_end mc as r o st t ∧ va_P D vwCl (kt_w sh as cA σ) t.heap ∧ va_F (kt_A fr sh as sz) st t
def kt_rm (lev mc ms : Nat) : Room := { frames := lev, cells := mc, slots := ms, locals := 80 * lev }
/-- a method's contract: where its pure meaning F answers, it answers so; where fr is true it writes nothing -/
def kt_M (l : Launch) (sh : kt_Sh) (y : MethodName) (cc : ByteArray) (nL : Nat) (ret : Option FieldType) (lev : Nat) (fr : Bool) (F : kt_F) : Prop :=
  ∀ (D : va_G) (cA : Nat → ClassId) (as : Nat → Nat) (av : List Value) (σ σ' : kt_S) (r : Option Value) (sz : Nat), F av σ = some (r, σ') →
    Met l y (Cond.code y cc nL ret :: kt_G) (kt_rm lev 0 0) (va_Pc (av.map (kt_c as)) (fun U => U.heap.size = sz ∧ kt_B sh D cA as σ U)) (kt_Q sh 0 fr D cA as r σ' sz) 0 0 (kt_A fr sh as sz)
/-- the end of a walk, of a method that returns or throws -/
def kt_MQ (below : List Frame) (Qc : Array Value → State → Outcome → State → Prop) (a : Array Value) (s : State) (mc ms : Nat) (free : Addr → Prop) : State → Prop := fun t =>
  ∃ o, t.status = .running ∧ Ended t below o ∧ Qc a s o t ∧ ∃ L, (s.WarmedH t.vm ∧ s.sameButNew ({ t with vm := s.vm } : State) L mc ms) ∧ ∀ q ∈ L, free q.base
/-- the contract of a method that may throw -/
def kt_MT (l : Launch) (sh : kt_Sh) (y : MethodName) (cc : ByteArray) (nL : Nat) (ret : Option FieldType) (lev mc ms : Nat) (F : kt_F) : Prop :=
  ∀ (D : va_G) (cA : Nat → ClassId) (as : Nat → Nat) (av : List Value) (σ σ' : kt_S) (r : Option Value) (sz : Nat), F av σ = some (r, σ') →
    MetFree l y (headSpec (Cond.code y cc nL ret :: kt_G) (kt_rm lev mc ms)) (va_Pc (av.map (kt_c as)) (fun U => U.heap.size = sz ∧ kt_B sh D cA as σ U)) (fun _ _ _ _ _ => True) (fun a st o t => kt_Q sh mc false D cA as r σ' sz a st o t ∧ ∃ L, (st.WarmedH t.vm ∧ st.sameButNew ({ t with vm := st.vm } : State) L mc ms) ∧ ∀ q ∈ L, kt_A false sh as sz q.base)
/-- the places' cells are no statics -/
def kt_pl (sh : kt_Sh) (as : Nat → Nat) (s : State) : Prop := ∀ (k : Nat), k < sh.length → as k < s.heap.size ∧ ∀ (cell : Cell), s.heap[as k]? = some cell → cell.vm.isStatics = false
/-- one activation -/
def kt_Act (sh : kt_Sh) (cc : ByteArray) (nL : Nat) (own : String) (ret : Option FieldType) (p : Program) (s : State) (m : MethodId) (args : Array Value) (meth : Method) (c : Code) (D : va_G) (cA : Nat → ClassId) (as : Nat → Nat) : Prop :=
  p.tables.exec = Jvm.exec ∧ c.code = cc ∧ c.maxLocals = nL ∧ meth.sig.returnType = ret ∧ (meth.locks = false ∧ c.exceptionTable.isEmpty = true ∧ kt_pl sh as s) ∧ (∀ w ∈ kt_G, w.before args s = true) ∧ s.vm.findClass own = some m.cls ∧ kt_K sh D cA as s
/-- soundness of a pure meaning d at a point pc of a method's code; hz: nothing has been written so far; fr: nothing is written at all -/
def kt_Snd (l : Launch) (sh : kt_Sh) (cc : ByteArray) (nL : Nat) (own : String) (ret : Option FieldType) (lev mc ms : Nat) (hz fr : Bool) (pc : Nat) (d : kt_D) : Prop :=
  ∀ (p : Program) (e : Env) (s : State) (m : MethodId) (args : Array Value) (below : List Frame) (meth : Method) (c : Code) (D : va_G) (cA : Nat → ClassId) (as : Nat → Nat), kt_Act sh cc nL own ret p s m args meth c D cA as →
  ∀ (H : Heap) (locs : List Loc) (ls : Array Slot) (L : kt_Fr) (st : List Value) (σ : kt_S) (r : Option Value) (σ' : kt_S), d L st σ = some (r, σ') → kt_lh as ls nL L → va_P D vwCl (kt_w sh as cA σ) H → va_S (kt_A hz sh as s.heap.size) s.heap H locs →
    W p l e (kt_rm lev mc ms) s m args below meth c H locs 0 0 (kt_MQ below (kt_Q sh mc fr D cA as r σ' s.heap.size) args s mc ms (kt_A fr sh as s.heap.size)) (F0 m pc ls (st.map (kt_c as)))
theorem kt_mono {p : Program} {l : Launch} {e : Env} {R : Room} {s : State} {m : MethodId} {args : Array Value} {below : List Frame} {meth : Method} {c : Code} {H : Heap} {locs : List Loc} {cells slots : Nat} {Q Q' : State → Prop} {g : JFrame} (hQ : ∀ t, Q t → Q' t) (k : W p l e R s m args below meth c H locs cells slots Q g) : W p l e R s m args below meth c H locs cells slots Q' g := by
  intro T hT X
  obtain ⟨t, a, b⟩ := k T hT X
  exact ⟨t, a, hQ t b⟩
theorem kt_ofMQ {below : List Frame} {Qc : Array Value → State → Outcome → State → Prop} {a : Array Value} {s : State} {mc ms : Nat} {free : Addr → Prop} (t : State) (h : MQ below Qc a s mc ms free t) : kt_MQ below Qc a s mc ms free t := by
  obtain ⟨o, h1, h2, h3, L, ⟨-, h4, h5⟩, h6⟩ := h
  exact ⟨o, h1, h2, h3, L, ⟨h4, h5⟩, h6⟩
theorem kt_pl_of {sh : kt_Sh} {D : va_G} {cA : Nat → ClassId} {as : Nat → Nat} {σ : kt_S} {s : State} (hP : va_P D vwCl (kt_w sh as cA σ) s.heap) : kt_pl sh as s := by
  intro k hk
  have h := hP k _ (kt_w_get (List.getElem?_eq_getElem hk))
  refine ⟨h.lt, fun cell hc => ?_⟩
  generalize kt_e as cA (σ k) sh[k] = e at h
  cases e with
  | inl x =>
    have h : s.heap[as k]? = some (vp_cell x.1 x.2) := h
    rw [hc] at h
    rw [Option.some.inj h]
    obtain ⟨c0, n, f | f | f | f | f⟩ := x <;> rfl
  | inr x =>
    obtain ⟨r, -, c1, q1, -, q3, -⟩ := h
    have q1 : s.heap[as k]? = some c1 := q1
    rw [hc] at q1
    rw [Option.some.inj q1, q3]
    rfl
section KTM
variable {l : Launch} {sh : kt_Sh} {cc : ByteArray} {nL : Nat} {own : String} {ret : Option FieldType} {lev mc ms : Nat} {hz fr : Bool} {pc : Nat} {d d1 d2 : kt_D}
theorem kt_method {y : MethodName} (hy : plainName y.cls = true) (hown : y.cls = own) (hS : kt_Snd l sh cc nL own ret lev 0 0 fr fr 0 d) : kt_M l sh y cc nL ret lev fr (kt_run nL d) := by
  intro D cA as av σ σ' r sz hF
  unfold kt_run at hF
  split at hF
  · next hlen =>
    refine Met.ofW (cc := cc) (maxL := nL) (ret := ret) hy rfl ?_
    intro p e s m args below meth c s₁ B hml hv
    obtain ⟨rfl, hsz, hK, hP⟩ := hv
    have hts := atoms_spec (ws := Cond.code y cc nL ret :: kt_G) B.pre
    have ho : s.vm.findClass own = some m.cls := by rw [← hown]; exact findClass_of_methodNamed B.named
    subst hsz
    rw [lg_entry_eq]
    refine kt_mono ?_ (hS p e s m _ below meth c D cA as ⟨B.exec, B.bytes, hml, B.returns, ⟨B.notSynchronized, B.noHandlers (hts _ List.mem_cons_self), kt_pl_of hP⟩, fun w hw => hts w (List.mem_cons_of_mem _ hw), ho, hK⟩ s.heap [] _ _ [] σ r σ' hF (kt_entry as av hlen) hP va_S.rf)
    rintro t ⟨o, h1, h2, h3, L, ⟨h4, h5⟩, h6⟩
    exact ⟨o, h1, h2, h3, L, ⟨⟨_, kt_end_zero h3.1⟩, h4, h5⟩, h6⟩
  · cases hF
theorem kt_methodT {y : MethodName} (hy : plainName y.cls = true) (hown : y.cls = own) (hS : kt_Snd l sh cc nL own ret lev mc ms true false 0 d) : kt_MT l sh y cc nL ret lev mc ms (kt_run nL d) := by
  intro D cA as av σ σ' r sz hF
  unfold kt_run at hF
  split at hF
  · next hlen =>
    refine MetFree.of_bodyS (code := cc) (maxLocals := nL) (ret := ret) hy ?_ ?_
    · intro args s m h hn
      obtain ⟨meth, c, h1, h2, h3, h4, h5, h6, -, -⟩ := Cond.code_spec hn (atoms_spec (ws := Cond.code y cc nL ret :: kt_G) h _ List.mem_cons_self)
      exact ⟨meth, c, h1, h2, h3, h4, h5, h6⟩
    · intro p e s m args below meth c s₁ B hml hv _
      obtain ⟨rfl, hsz, hK, hP⟩ := hv
      have hts := atoms_spec (ws := Cond.code y cc nL ret :: kt_G) B.pre
      have ho : s.vm.findClass own = some m.cls := by rw [← hown]; exact findClass_of_methodNamed B.named
      subst hsz
      have hh0 : s₁.heap = s.heap := by rw [B.state]; rfl
      rw [lg_entry_eq]
      obtain ⟨t, a1, o, b1, b2, b3, b4⟩ := hS p e s m _ below meth c D cA as ⟨B.exec, B.bytes, hml, B.returns, ⟨B.notSynchronized, B.noHandlers (hts _ List.mem_cons_self), kt_pl_of hP⟩, fun w hw => hts w (List.mem_cons_of_mem _ hw), ho, hK⟩ s.heap [] _ _ [] σ r σ' hF (kt_entry as av hlen) hP va_S.rf s₁ hh0 (Stand.of_body B)
      exact ⟨t, o, a1, b1, b2, b3, b4⟩
  · cases hF
theorem sd_hist (h0 : kt_Snd l sh cc nL own ret lev mc ms false fr pc d) : kt_Snd l sh cc nL own ret lev mc ms hz fr pc d := by
  intro p e s m args below meth c D cA as ha H locs ls L st σ r σ' h hl hP hS
  exact h0 p e s m args below meth c D cA as ha H locs ls L st σ r σ' h hl hP (kt_S_up hS)
theorem sd_fail : kt_Snd l sh cc nL own ret lev mc ms hz fr pc (fun _ _ _ => none) := by
  intro p e s m args below meth c D cA as ha H locs ls L st σ r σ' h
  cases h
/-! constants and locals -/
def ki_push (v : Value) (d : kt_D) : kt_D := fun L st σ => d L (v :: st) σ
theorem sd_iconst {n : Int} {v : Int32} (hd : decode cc pc = .ok (.iconst n, 1)) (hv : Int32.ofInt n = v) (k : kt_Snd l sh cc nL own ret lev mc ms hz fr (pc + 1) d) : kt_Snd l sh cc nL own ret lev mc ms hz fr pc (ki_push (.int v) d) := by
  intro p e s m args below meth c D cA as ha H locs ls L st σ r σ' h hl hP hS
  exact lv_iconst ha.1 ha.2.1 hd hv (k p e s m args below meth c D cA as ha H locs ls L _ σ r σ' h hl hP hS)
theorem sd_bipush {n : Int} {v : Int32} (hd : decode cc pc = .ok (.bipush n, 2)) (hv : (Int8.ofInt n).toInt32 = v) (k : kt_Snd l sh cc nL own ret lev mc ms hz fr (pc + 2) d) : kt_Snd l sh cc nL own ret lev mc ms hz fr pc (ki_push (.int v) d) := by
  intro p e s m args below meth c D cA as ha H locs ls L st σ r σ' h hl hP hS
  exact lv_bipush ha.1 ha.2.1 hd hv (k p e s m args below meth c D cA as ha H locs ls L _ σ r σ' h hl hP hS)
theorem sd_sipush {n : Int} {v : Int32} (hd : decode cc pc = .ok (.sipush n, 3)) (hv : (Int16.ofInt n).toInt32 = v) (k : kt_Snd l sh cc nL own ret lev mc ms hz fr (pc + 3) d) : kt_Snd l sh cc nL own ret lev mc ms hz fr pc (ki_push (.int v) d) := by
  intro p e s m args below meth c D cA as ha H locs ls L st σ r σ' h hl hP hS
  exact lv_sipush ha.1 ha.2.1 hd hv (k p e s m args below meth c D cA as ha H locs ls L _ σ r σ' h hl hP hS)
theorem sd_ldc {idx : Nat} {v : Int32} (hd : decode cc pc = .ok (.ldc idx, 2)) (hw : Cond.constant own idx v ∈ kt_G) (k : kt_Snd l sh cc nL own ret lev mc ms hz fr (pc + 2) d) : kt_Snd l sh cc nL own ret lev mc ms hz fr pc (ki_push (.int v) d) := by
  intro p e s m args below meth c D cA as ha H locs ls L st σ r σ' h hl hP hS
  exact lv_ldc ha.1 ha.2.1 ha.2.2.2.2.2.2.1 (ha.2.2.2.2.2.1 _ hw) hd (k p e s m args below meth c D cA as ha H locs ls L _ σ r σ' h hl hP hS)
theorem sd_lconst {n : Fin 2} {v : Int64} (hd : decode cc pc = .ok (.lconst n, 1)) (hv : Int64.ofNat (n : Nat) = v) (k : kt_Snd l sh cc nL own ret lev mc ms hz fr (pc + 1) d) : kt_Snd l sh cc nL own ret lev mc ms hz fr pc (ki_push (.long v) d) := by
  intro p e s m args below meth c D cA as ha H locs ls L st σ r σ' h hl hP hS
  exact lv_lconst ha.1 ha.2.1 hd hv (k p e s m args below meth c D cA as ha H locs ls L _ σ r σ' h hl hP hS)
theorem sd_ldc2 {idx : Nat} {v : Int64} (hd : decode cc pc = .ok (.ldc2_w idx, 3)) (hw : Cond.constantLong own idx v ∈ kt_G) (k : kt_Snd l sh cc nL own ret lev mc ms hz fr (pc + 3) d) : kt_Snd l sh cc nL own ret lev mc ms hz fr pc (ki_push (.long v) d) := by
  intro p e s m args below meth c D cA as ha H locs ls L st σ r σ' h hl hP hS
  exact lv_ldc2 ha.1 ha.2.1 ha.2.2.2.2.2.2.1 (ha.2.2.2.2.2.1 _ hw) hd (k p e s m args below meth c D cA as ha H locs ls L _ σ r σ' h hl hP hS)
theorem sd_null (hd : decode cc pc = .ok (.aconst_null, 1)) (k : kt_Snd l sh cc nL own ret lev mc ms hz fr (pc + 1) d) : kt_Snd l sh cc nL own ret lev mc ms hz fr pc (ki_push .null d) := by
  intro p e s m args below meth c D cA as ha H locs ls L st σ r σ' h hl hP hS
  exact lv_null ha.1 ha.2.1 hd (k p e s m args below meth c D cA as ha H locs ls L _ σ r σ' h hl hP hS)
def ki_iload (i : Nat) (d : kt_D) : kt_D := fun L st σ => match L[i]? with
  | some (some (.int x)) => d L (.int x :: st) σ
  | _ => none
def ki_lload (i : Nat) (d : kt_D) : kt_D := fun L st σ => match L[i]? with
  | some (some (.long x)) => d L (.long x :: st) σ
  | _ => none
def ki_aload (i : Nat) (d : kt_D) : kt_D := fun L st σ => match L[i]? with
  | some (some (.ref x)) => d L (.ref x :: st) σ
  | some (some .null) => d L (.null :: st) σ
  | _ => none
theorem sd_iload {i : Nat} (hd : decode cc pc = .ok (.iload i, 2)) (k : kt_Snd l sh cc nL own ret lev mc ms hz fr (pc + 2) d) : kt_Snd l sh cc nL own ret lev mc ms hz fr pc (ki_iload i d) := by
  intro p e s m args below meth c D cA as ha H locs ls L st σ r σ' h hl hP hS
  unfold ki_iload at h
  split at h
  · next x hx => exact lv_iload ha.1 ha.2.1 hd (hl.2.2.2 _ _ hx) (k p e s m args below meth c D cA as ha H locs ls L _ σ r σ' h hl hP hS)
  · cases h
theorem sd_iload_n {j : Fin 4} {i : Nat} (hd : decode cc pc = .ok (.iload_n j, 1)) (hi : (j : Nat) = i) (k : kt_Snd l sh cc nL own ret lev mc ms hz fr (pc + 1) d) : kt_Snd l sh cc nL own ret lev mc ms hz fr pc (ki_iload i d) := by
  intro p e s m args below meth c D cA as ha H locs ls L st σ r σ' h hl hP hS
  unfold ki_iload at h
  split at h
  · next x hx => exact lv_iload_n ha.1 ha.2.1 hd hi (hl.2.2.2 _ _ hx) (k p e s m args below meth c D cA as ha H locs ls L _ σ r σ' h hl hP hS)
  · cases h
theorem sd_lload {i : Nat} (hd : decode cc pc = .ok (.lload i, 2)) (k : kt_Snd l sh cc nL own ret lev mc ms hz fr (pc + 2) d) : kt_Snd l sh cc nL own ret lev mc ms hz fr pc (ki_lload i d) := by
  intro p e s m args below meth c D cA as ha H locs ls L st σ r σ' h hl hP hS
  unfold ki_lload at h
  split at h
  · next x hx => exact lv_lload ha.1 ha.2.1 hd (hl.2.2.2 _ _ hx) (k p e s m args below meth c D cA as ha H locs ls L _ σ r σ' h hl hP hS)
  · cases h
theorem sd_lload_n {j : Fin 4} {i : Nat} (hd : decode cc pc = .ok (.lload_n j, 1)) (hi : (j : Nat) = i) (k : kt_Snd l sh cc nL own ret lev mc ms hz fr (pc + 1) d) : kt_Snd l sh cc nL own ret lev mc ms hz fr pc (ki_lload i d) := by
  intro p e s m args below meth c D cA as ha H locs ls L st σ r σ' h hl hP hS
  unfold ki_lload at h
  split at h
  · next x hx => exact lv_lload_n ha.1 ha.2.1 hd hi (hl.2.2.2 _ _ hx) (k p e s m args below meth c D cA as ha H locs ls L _ σ r σ' h hl hP hS)
  · cases h
theorem sd_aload {i : Nat} (hd : decode cc pc = .ok (.aload i, 2)) (k : kt_Snd l sh cc nL own ret lev mc ms hz fr (pc + 2) d) : kt_Snd l sh cc nL own ret lev mc ms hz fr pc (ki_aload i d) := by
  intro p e s m args below meth c D cA as ha H locs ls L st σ r σ' h hl hP hS
  unfold ki_aload at h
  split at h
  · next x hx => exact lv_aload ha.1 ha.2.1 hd (hl.2.2.2 _ _ hx) (k p e s m args below meth c D cA as ha H locs ls L _ σ r σ' h hl hP hS)
  · next hx => exact lv_aloadN ha.1 ha.2.1 hd (hl.2.2.2 _ _ hx) (k p e s m args below meth c D cA as ha H locs ls L _ σ r σ' h hl hP hS)
  · cases h
theorem sd_aload_n {j : Fin 4} {i : Nat} (hd : decode cc pc = .ok (.aload_n j, 1)) (hi : (j : Nat) = i) (k : kt_Snd l sh cc nL own ret lev mc ms hz fr (pc + 1) d) : kt_Snd l sh cc nL own ret lev mc ms hz fr pc (ki_aload i d) := by
  intro p e s m args below meth c D cA as ha H locs ls L st σ r σ' h hl hP hS
  unfold ki_aload at h
  split at h
  · next x hx => exact lv_aload_n ha.1 ha.2.1 hd hi (hl.2.2.2 _ _ hx) (k p e s m args below meth c D cA as ha H locs ls L _ σ r σ' h hl hP hS)
  · next hx => exact lv_aload_nN ha.1 ha.2.1 hd hi (hl.2.2.2 _ _ hx) (k p e s m args below meth c D cA as ha H locs ls L _ σ r σ' h hl hP hS)
  · cases h
def ki_istore (i : Nat) (d : kt_D) : kt_D := fun L st σ => match st with
  | .int x :: r => d (kt_st1 L i (.int x)) r σ
  | _ => none
def ki_lstore (i : Nat) (d : kt_D) : kt_D := fun L st σ => match st with
  | .long x :: r => d (kt_st2 L i (.long x)) r σ
  | _ => none
def ki_astore (i : Nat) (d : kt_D) : kt_D := fun L st σ => match st with
  | .ref x :: r => d (kt_st1 L i (.ref x)) r σ
  | .null :: r => d (kt_st1 L i .null) r σ
  | _ => none
theorem sd_istore {i : Nat} (hd : decode cc pc = .ok (.istore i, 2)) (hn : i < nL) (k : kt_Snd l sh cc nL own ret lev mc ms hz fr (pc + 2) d) : kt_Snd l sh cc nL own ret lev mc ms hz fr pc (ki_istore i d) := by
  intro p e s m args below meth c D cA as ha H locs ls L st σ r σ' h hl hP hS
  unfold ki_istore at h
  split at h
  · next x r0 => exact lv_istore (x := x) ha.1 ha.2.1 hd hl.has hn rfl (fun ls' h' => k p e s m args below meth c D cA as ha H locs ls' _ _ σ r σ' h (hl.st1 (v := .int x) h') hP hS)
  · cases h
theorem sd_istore_n {j : Fin 4} {i : Nat} (hd : decode cc pc = .ok (.istore_n j, 1)) (hi : (j : Nat) = i) (hn : i < nL) (k : kt_Snd l sh cc nL own ret lev mc ms hz fr (pc + 1) d) : kt_Snd l sh cc nL own ret lev mc ms hz fr pc (ki_istore i d) := by
  intro p e s m args below meth c D cA as ha H locs ls L st σ r σ' h hl hP hS
  unfold ki_istore at h
  split at h
  · next x r0 => exact lv_istore_n (x := x) ha.1 ha.2.1 hd hi hl.has hn rfl (fun ls' h' => k p e s m args below meth c D cA as ha H locs ls' _ _ σ r σ' h (hl.st1 (v := .int x) h') hP hS)
  · cases h
theorem sd_lstore {i : Nat} (hd : decode cc pc = .ok (.lstore i, 2)) (hn : i + 1 < nL) (k : kt_Snd l sh cc nL own ret lev mc ms hz fr (pc + 2) d) : kt_Snd l sh cc nL own ret lev mc ms hz fr pc (ki_lstore i d) := by
  intro p e s m args below meth c D cA as ha H locs ls L st σ r σ' h hl hP hS
  unfold ki_lstore at h
  split at h
  · next x r0 => exact lv_lstore (x := x) ha.1 ha.2.1 hd hl.has hn rfl (fun ls' h' => k p e s m args below meth c D cA as ha H locs ls' _ _ σ r σ' h (hl.st2 (v := .long x) h') hP hS)
  · cases h
theorem sd_lstore_n {j : Fin 4} {i : Nat} (hd : decode cc pc = .ok (.lstore_n j, 1)) (hi : (j : Nat) = i) (hn : i + 1 < nL) (k : kt_Snd l sh cc nL own ret lev mc ms hz fr (pc + 1) d) : kt_Snd l sh cc nL own ret lev mc ms hz fr pc (ki_lstore i d) := by
  intro p e s m args below meth c D cA as ha H locs ls L st σ r σ' h hl hP hS
  unfold ki_lstore at h
  split at h
  · next x r0 => exact lv_lstore_n (x := x) ha.1 ha.2.1 hd hi hl.has hn rfl (fun ls' h' => k p e s m args below meth c D cA as ha H locs ls' _ _ σ r σ' h (hl.st2 (v := .long x) h') hP hS)
  · cases h
theorem sd_astore {i : Nat} (hd : decode cc pc = .ok (.astore i, 2)) (hn : i < nL) (k : kt_Snd l sh cc nL own ret lev mc ms hz fr (pc + 2) d) : kt_Snd l sh cc nL own ret lev mc ms hz fr pc (ki_astore i d) := by
  intro p e s m args below meth c D cA as ha H locs ls L st σ r σ' h hl hP hS
  unfold ki_astore at h
  split at h
  · next x r0 => exact lv_astore (x := as x) ha.1 ha.2.1 hd hl.has hn rfl (fun ls' h' => k p e s m args below meth c D cA as ha H locs ls' _ _ σ r σ' h (hl.st1 (v := .ref x) h') hP hS)
  · next r0 => exact lv_astoreN ha.1 ha.2.1 hd hl.has hn rfl (fun ls' h' => k p e s m args below meth c D cA as ha H locs ls' _ _ σ r σ' h (hl.st1 (v := .null) h') hP hS)
  · cases h
theorem sd_astore_n {j : Fin 4} {i : Nat} (hd : decode cc pc = .ok (.astore_n j, 1)) (hi : (j : Nat) = i) (hn : i < nL) (k : kt_Snd l sh cc nL own ret lev mc ms hz fr (pc + 1) d) : kt_Snd l sh cc nL own ret lev mc ms hz fr pc (ki_astore i d) := by
  intro p e s m args below meth c D cA as ha H locs ls L st σ r σ' h hl hP hS
  unfold ki_astore at h
  split at h
  · next x r0 => exact lv_astore_n (x := as x) ha.1 ha.2.1 hd hi hl.has hn rfl (fun ls' h' => k p e s m args below meth c D cA as ha H locs ls' _ _ σ r σ' h (hl.st1 (v := .ref x) h') hP hS)
  · next r0 => exact lv_astore_nN ha.1 ha.2.1 hd hi hl.has hn rfl (fun ls' h' => k p e s m args below meth c D cA as ha H locs ls' _ _ σ r σ' h (hl.st1 (v := .null) h') hP hS)
  · cases h
def ki_iinc (i : Nat) (v : Int32) (d : kt_D) : kt_D := fun L st σ => match L[i]? with
  | some (some (.int x)) => d (kt_st1 L i (.int (x + v))) st σ
  | _ => none
theorem sd_iinc {i : Nat} {n : Int} {v : Int32} (hd : decode cc pc = .ok (.iinc i n, 3)) (hv : Int32.ofInt n = v) (hn : i < nL) (k : kt_Snd l sh cc nL own ret lev mc ms hz fr (pc + 3) d) : kt_Snd l sh cc nL own ret lev mc ms hz fr pc (ki_iinc i v d) := by
  intro p e s m args below meth c D cA as ha H locs ls L st σ r σ' h hl hP hS
  unfold ki_iinc at h
  split at h
  · next x hx =>
    subst hv
    have hm : (i, Value.int x) ∈ kt_lv as L := kt_lv_mem.mpr ⟨.int x, hx, rfl⟩
    obtain ⟨q, hq⟩ := List.getElem?_of_mem hm
    exact lv_iinc (k := q) (x := x) ha.1 ha.2.1 hd hl.has hq rfl hn rfl (fun ls' h' => k p e s m args below meth c D cA as ha H locs ls' _ _ σ r σ' h (hl.st1 (v := .int (x + Int32.ofInt n)) h') hP hS)
  · cases h
def ki_drop (i : Nat) (d : kt_D) : kt_D := fun L st σ => d (L.set i none) st σ
theorem kt_lh.drop {as : Nat → Nat} {ls : Array Slot} {L : kt_Fr} (h : kt_lh as ls nL L) (i : Nat) : kt_lh as ls nL (L.set i none) :=
  ⟨by rw [List.length_set]; exact h.1, h.2.1, h.2.2.1, fun k v hk => h.2.2.2 k v (kt_set_none hk).2⟩
theorem sd_drop {k : Nat} (h0 : kt_Snd l sh cc nL own ret lev mc ms hz fr pc d) : kt_Snd l sh cc nL own ret lev mc ms hz fr pc (ki_drop k d) := by
  intro p e s m args below meth c D cA as ha H locs ls L st σ r σ' h hl hP hS
  exact h0 p e s m args below meth c D cA as ha H locs ls _ st σ r σ' h (hl.drop k) hP hS
end KTM
/-! arithmetic, stack, branches -/
section KTA
variable {l : Launch} {sh : kt_Sh} {cc : ByteArray} {nL : Nat} {own : String} {ret : Option FieldType} {lev mc ms : Nat} {hz fr : Bool} {pc : Nat} {d d1 d2 : kt_D}
def ki_iadd (d : kt_D) : kt_D := fun L st σ => match st with
  | .int y :: .int x :: r => d L (.int (x + y) :: r) σ
  | _ => none
theorem sd_iadd (hd : decode cc pc = .ok (.iadd, 1)) (k : kt_Snd l sh cc nL own ret lev mc ms hz fr (pc + 1) d) : kt_Snd l sh cc nL own ret lev mc ms hz fr pc (ki_iadd d) := by
  intro p e s m args below meth c D cA as ha H locs ls L st σ r σ' h hl hP hS
  unfold ki_iadd at h
  split at h
  · next y x r0 => exact lv_iadd ha.1 ha.2.1 hd (k p e s m args below meth c D cA as ha H locs ls L _ σ r σ' h hl hP hS)
  · cases h
def ki_isub (d : kt_D) : kt_D := fun L st σ => match st with
  | .int y :: .int x :: r => d L (.int (x - y) :: r) σ
  | _ => none
theorem sd_isub (hd : decode cc pc = .ok (.isub, 1)) (k : kt_Snd l sh cc nL own ret lev mc ms hz fr (pc + 1) d) : kt_Snd l sh cc nL own ret lev mc ms hz fr pc (ki_isub d) := by
  intro p e s m args below meth c D cA as ha H locs ls L st σ r σ' h hl hP hS
  unfold ki_isub at h
  split at h
  · next y x r0 => exact lv_isub ha.1 ha.2.1 hd (k p e s m args below meth c D cA as ha H locs ls L _ σ r σ' h hl hP hS)
  · cases h
def ki_imul (d : kt_D) : kt_D := fun L st σ => match st with
  | .int y :: .int x :: r => d L (.int (x * y) :: r) σ
  | _ => none
theorem sd_imul (hd : decode cc pc = .ok (.imul, 1)) (k : kt_Snd l sh cc nL own ret lev mc ms hz fr (pc + 1) d) : kt_Snd l sh cc nL own ret lev mc ms hz fr pc (ki_imul d) := by
  intro p e s m args below meth c D cA as ha H locs ls L st σ r σ' h hl hP hS
  unfold ki_imul at h
  split at h
  · next y x r0 => exact lv_imul ha.1 ha.2.1 hd (k p e s m args below meth c D cA as ha H locs ls L _ σ r σ' h hl hP hS)
  · cases h
def ki_iand (d : kt_D) : kt_D := fun L st σ => match st with
  | .int y :: .int x :: r => d L (.int (x &&& y) :: r) σ
  | _ => none
theorem sd_iand (hd : decode cc pc = .ok (.iand, 1)) (k : kt_Snd l sh cc nL own ret lev mc ms hz fr (pc + 1) d) : kt_Snd l sh cc nL own ret lev mc ms hz fr pc (ki_iand d) := by
  intro p e s m args below meth c D cA as ha H locs ls L st σ r σ' h hl hP hS
  unfold ki_iand at h
  split at h
  · next y x r0 => exact lv_iand ha.1 ha.2.1 hd (k p e s m args below meth c D cA as ha H locs ls L _ σ r σ' h hl hP hS)
  · cases h
def ki_ior (d : kt_D) : kt_D := fun L st σ => match st with
  | .int y :: .int x :: r => d L (.int (x ||| y) :: r) σ
  | _ => none
theorem sd_ior (hd : decode cc pc = .ok (.ior, 1)) (k : kt_Snd l sh cc nL own ret lev mc ms hz fr (pc + 1) d) : kt_Snd l sh cc nL own ret lev mc ms hz fr pc (ki_ior d) := by
  intro p e s m args below meth c D cA as ha H locs ls L st σ r σ' h hl hP hS
  unfold ki_ior at h
  split at h
  · next y x r0 => exact lv_ior ha.1 ha.2.1 hd (k p e s m args below meth c D cA as ha H locs ls L _ σ r σ' h hl hP hS)
  · cases h
def ki_ixor (d : kt_D) : kt_D := fun L st σ => match st with
  | .int y :: .int x :: r => d L (.int (x ^^^ y) :: r) σ
  | _ => none
theorem sd_ixor (hd : decode cc pc = .ok (.ixor, 1)) (k : kt_Snd l sh cc nL own ret lev mc ms hz fr (pc + 1) d) : kt_Snd l sh cc nL own ret lev mc ms hz fr pc (ki_ixor d) := by
  intro p e s m args below meth c D cA as ha H locs ls L st σ r σ' h hl hP hS
  unfold ki_ixor at h
  split at h
  · next y x r0 => exact lv_ixor ha.1 ha.2.1 hd (k p e s m args below meth c D cA as ha H locs ls L _ σ r σ' h hl hP hS)
  · cases h
def ki_idiv (d : kt_D) : kt_D := fun L st σ => match st with
  | .int y :: .int x :: r => if y = 0 then none else d L (.int (x / y) :: r) σ
  | _ => none
theorem sd_idiv (hd : decode cc pc = .ok (.idiv, 1)) (k : kt_Snd l sh cc nL own ret lev mc ms hz fr (pc + 1) d) : kt_Snd l sh cc nL own ret lev mc ms hz fr pc (ki_idiv d) := by
  intro p e s m args below meth c D cA as ha H locs ls L st σ r σ' h hl hP hS
  unfold ki_idiv at h
  split at h
  · next y x r0 =>
    split at h
    · cases h
    · next hg => exact lv_idiv ha.1 ha.2.1 hd hg (k p e s m args below meth c D cA as ha H locs ls L _ σ r σ' h hl hP hS)
  · cases h
def ki_irem (d : kt_D) : kt_D := fun L st σ => match st with
  | .int y :: .int x :: r => if y = 0 then none else d L (.int (x - x / y * y) :: r) σ
  | _ => none
theorem sd_irem (hd : decode cc pc = .ok (.irem, 1)) (k : kt_Snd l sh cc nL own ret lev mc ms hz fr (pc + 1) d) : kt_Snd l sh cc nL own ret lev mc ms hz fr pc (ki_irem d) := by
  intro p e s m args below meth c D cA as ha H locs ls L st σ r σ' h hl hP hS
  unfold ki_irem at h
  split at h
  · next y x r0 =>
    split at h
    · cases h
    · next hg => exact lv_irem ha.1 ha.2.1 hd hg (k p e s m args below meth c D cA as ha H locs ls L _ σ r σ' h hl hP hS)
  · cases h
def ki_ishl (d : kt_D) : kt_D := fun L st σ => match st with
  | .int y :: .int x :: r => d L (.int (x <<< (y &&& 31)) :: r) σ
  | _ => none
theorem sd_ishl (hd : decode cc pc = .ok (.ishl, 1)) (k : kt_Snd l sh cc nL own ret lev mc ms hz fr (pc + 1) d) : kt_Snd l sh cc nL own ret lev mc ms hz fr pc (ki_ishl d) := by
  intro p e s m args below meth c D cA as ha H locs ls L st σ r σ' h hl hP hS
  unfold ki_ishl at h
  split at h
  · next y x r0 => exact lv_ishl ha.1 ha.2.1 hd (k p e s m args below meth c D cA as ha H locs ls L _ σ r σ' h hl hP hS)
  · cases h
def ki_ishr (d : kt_D) : kt_D := fun L st σ => match st with
  | .int y :: .int x :: r => d L (.int (x >>> (y &&& 31)) :: r) σ
  | _ => none
theorem sd_ishr (hd : decode cc pc = .ok (.ishr, 1)) (k : kt_Snd l sh cc nL own ret lev mc ms hz fr (pc + 1) d) : kt_Snd l sh cc nL own ret lev mc ms hz fr pc (ki_ishr d) := by
  intro p e s m args below meth c D cA as ha H locs ls L st σ r σ' h hl hP hS
  unfold ki_ishr at h
  split at h
  · next y x r0 => exact lv_ishr ha.1 ha.2.1 hd (k p e s m args below meth c D cA as ha H locs ls L _ σ r σ' h hl hP hS)
  · cases h
def ki_land (d : kt_D) : kt_D := fun L st σ => match st with
  | .long y :: .long x :: r => d L (.long (x &&& y) :: r) σ
  | _ => none
theorem sd_land (hd : decode cc pc = .ok (.land, 1)) (k : kt_Snd l sh cc nL own ret lev mc ms hz fr (pc + 1) d) : kt_Snd l sh cc nL own ret lev mc ms hz fr pc (ki_land d) := by
  intro p e s m args below meth c D cA as ha H locs ls L st σ r σ' h hl hP hS
  unfold ki_land at h
  split at h
  · next y x r0 => exact lv_land ha.1 ha.2.1 hd (k p e s m args below meth c D cA as ha H locs ls L _ σ r σ' h hl hP hS)
  · cases h
def ki_lor (d : kt_D) : kt_D := fun L st σ => match st with
  | .long y :: .long x :: r => d L (.long (x ||| y) :: r) σ
  | _ => none
theorem sd_lor (hd : decode cc pc = .ok (.lor, 1)) (k : kt_Snd l sh cc nL own ret lev mc ms hz fr (pc + 1) d) : kt_Snd l sh cc nL own ret lev mc ms hz fr pc (ki_lor d) := by
  intro p e s m args below meth c D cA as ha H locs ls L st σ r σ' h hl hP hS
  unfold ki_lor at h
  split at h
  · next y x r0 => exact lv_lor ha.1 ha.2.1 hd (k p e s m args below meth c D cA as ha H locs ls L _ σ r σ' h hl hP hS)
  · cases h
def ki_lshl (d : kt_D) : kt_D := fun L st σ => match st with
  | .int y :: .long x :: r => d L (.long (x <<< (y.toInt64 &&& 63)) :: r) σ
  | _ => none
theorem sd_lshl (hd : decode cc pc = .ok (.lshl, 1)) (k : kt_Snd l sh cc nL own ret lev mc ms hz fr (pc + 1) d) : kt_Snd l sh cc nL own ret lev mc ms hz fr pc (ki_lshl d) := by
  intro p e s m args below meth c D cA as ha H locs ls L st σ r σ' h hl hP hS
  unfold ki_lshl at h
  split at h
  · next y x r0 => exact lv_lshl ha.1 ha.2.1 hd rfl (k p e s m args below meth c D cA as ha H locs ls L _ σ r σ' h hl hP hS)
  · cases h
def ki_lshr (d : kt_D) : kt_D := fun L st σ => match st with
  | .int y :: .long x :: r => d L (.long (x >>> (y.toInt64 &&& 63)) :: r) σ
  | _ => none
theorem sd_lshr (hd : decode cc pc = .ok (.lshr, 1)) (k : kt_Snd l sh cc nL own ret lev mc ms hz fr (pc + 1) d) : kt_Snd l sh cc nL own ret lev mc ms hz fr pc (ki_lshr d) := by
  intro p e s m args below meth c D cA as ha H locs ls L st σ r σ' h hl hP hS
  unfold ki_lshr at h
  split at h
  · next y x r0 => exact lv_lshr ha.1 ha.2.1 hd rfl (k p e s m args below meth c D cA as ha H locs ls L _ σ r σ' h hl hP hS)
  · cases h
def ki_lcmp (d : kt_D) : kt_D := fun L st σ => match st with
  | .long y :: .long x :: r => d L (.int (lg_cmp x y) :: r) σ
  | _ => none
theorem sd_lcmp (hd : decode cc pc = .ok (.lcmp, 1)) (k : kt_Snd l sh cc nL own ret lev mc ms hz fr (pc + 1) d) : kt_Snd l sh cc nL own ret lev mc ms hz fr pc (ki_lcmp d) := by
  intro p e s m args below meth c D cA as ha H locs ls L st σ r σ' h hl hP hS
  unfold ki_lcmp at h
  split at h
  · next y x r0 => exact W.lcmp ha.1 ha.2.1 hd (k p e s m args below meth c D cA as ha H locs ls L _ σ r σ' h hl hP hS)
  · cases h
def ki_i2l (d : kt_D) : kt_D := fun L st σ => match st with
  | .int x :: r => d L (.long (x.toInt64) :: r) σ
  | _ => none
theorem sd_i2l (hd : decode cc pc = .ok (.i2l, 1)) (k : kt_Snd l sh cc nL own ret lev mc ms hz fr (pc + 1) d) : kt_Snd l sh cc nL own ret lev mc ms hz fr pc (ki_i2l d) := by
  intro p e s m args below meth c D cA as ha H locs ls L st σ r σ' h hl hP hS
  unfold ki_i2l at h
  split at h
  · next x r0 => exact lv_i2l ha.1 ha.2.1 hd rfl (k p e s m args below meth c D cA as ha H locs ls L _ σ r σ' h hl hP hS)
  · cases h
def ki_l2i (d : kt_D) : kt_D := fun L st σ => match st with
  | .long x :: r => d L (.int (x.toInt32) :: r) σ
  | _ => none
theorem sd_l2i (hd : decode cc pc = .ok (.l2i, 1)) (k : kt_Snd l sh cc nL own ret lev mc ms hz fr (pc + 1) d) : kt_Snd l sh cc nL own ret lev mc ms hz fr pc (ki_l2i d) := by
  intro p e s m args below meth c D cA as ha H locs ls L st σ r σ' h hl hP hS
  unfold ki_l2i at h
  split at h
  · next x r0 => exact lv_l2i ha.1 ha.2.1 hd rfl (k p e s m args below meth c D cA as ha H locs ls L _ σ r σ' h hl hP hS)
  · cases h
def ki_dup (d : kt_D) : kt_D := fun L st σ => match st with
  | v :: r => if v.category = 1 then d L (v :: v :: r) σ else none
  | _ => none
theorem sd_dup (hd : decode cc pc = .ok (.dup, 1)) (k : kt_Snd l sh cc nL own ret lev mc ms hz fr (pc + 1) d) : kt_Snd l sh cc nL own ret lev mc ms hz fr pc (ki_dup d) := by
  intro p e s m args below meth c D cA as ha H locs ls L st σ r σ' h hl hP hS
  unfold ki_dup at h
  split at h
  · next v r0 =>
    split at h
    · next hc => exact lv_dup ha.1 ha.2.1 hd (by rw [kt_c_cat]; exact hc) (k p e s m args below meth c D cA as ha H locs ls L _ σ r σ' h hl hP hS)
    · cases h
  · cases h
def ki_pop (d : kt_D) : kt_D := fun L st σ => match st with
  | v :: r => if v.category = 1 then d L r σ else none
  | _ => none
theorem sd_pop (hd : decode cc pc = .ok (.pop, 1)) (k : kt_Snd l sh cc nL own ret lev mc ms hz fr (pc + 1) d) : kt_Snd l sh cc nL own ret lev mc ms hz fr pc (ki_pop d) := by
  intro p e s m args below meth c D cA as ha H locs ls L st σ r σ' h hl hP hS
  unfold ki_pop at h
  split at h
  · next v r0 =>
    split at h
    · next hc => exact lv_pop (va := kt_c as v) ha.1 ha.2.1 hd (by rw [kt_c_cat]; exact hc) (k p e s m args below meth c D cA as ha H locs ls L _ σ r σ' h hl hP hS)
    · cases h
  · cases h
def ki_dup2 (d : kt_D) : kt_D := fun L st σ => match st with
  | v :: w :: r => if v.category = 1 ∧ w.category = 1 then d L (v :: w :: v :: w :: r) σ else none
  | _ => none
theorem sd_dup2 (hd : decode cc pc = .ok (.dup2, 1)) (k : kt_Snd l sh cc nL own ret lev mc ms hz fr (pc + 1) d) : kt_Snd l sh cc nL own ret lev mc ms hz fr pc (ki_dup2 d) := by
  intro p e s m args below meth c D cA as ha H locs ls L st σ r σ' h hl hP hS
  unfold ki_dup2 at h
  split at h
  · next v w r0 =>
    split at h
    · next hc => exact lv_dup2_11 ha.1 ha.2.1 hd (by rw [kt_c_cat]; exact hc.1) (by rw [kt_c_cat]; exact hc.2) (k p e s m args below meth c D cA as ha H locs ls L _ σ r σ' h hl hP hS)
    · cases h
  · cases h
def ki_if_eq (d1 d2 : kt_D) : kt_D := fun L st σ => match st with
  | .int x :: r => if x = 0 then d1 L r σ else d2 L r σ
  | _ => none
theorem sd_if_eq {off : Int} {tgt : Nat} (hd : decode cc pc = .ok (.ifCond .eq off, 3)) (ht : (pc : Int) + off = (tgt : Int)) (k1 : kt_Snd l sh cc nL own ret lev mc ms hz fr tgt d1) (k2 : kt_Snd l sh cc nL own ret lev mc ms hz fr (pc + 3) d2) : kt_Snd l sh cc nL own ret lev mc ms hz fr pc (ki_if_eq d1 d2) := by
  intro p e s m args below meth c D cA as ha H locs ls L st σ r σ' h hl hP hS
  unfold ki_if_eq at h
  split at h
  · next x r0 =>
    split at h
    · next hg => exact lv_if_eq ha.1 ha.2.1 hd ht (fun _ => k1 p e s m args below meth c D cA as ha H locs ls L _ σ r σ' h hl hP hS) (fun q => absurd hg q)
    · next hg => exact lv_if_eq ha.1 ha.2.1 hd ht (fun q => absurd q hg) (fun _ => k2 p e s m args below meth c D cA as ha H locs ls L _ σ r σ' h hl hP hS)
  · cases h
def ki_icmp_eq (d1 d2 : kt_D) : kt_D := fun L st σ => match st with
  | .int y :: .int x :: r => if x = y then d1 L r σ else d2 L r σ
  | _ => none
theorem sd_icmp_eq {off : Int} {tgt : Nat} (hd : decode cc pc = .ok (.if_icmp .eq off, 3)) (ht : (pc : Int) + off = (tgt : Int)) (k1 : kt_Snd l sh cc nL own ret lev mc ms hz fr tgt d1) (k2 : kt_Snd l sh cc nL own ret lev mc ms hz fr (pc + 3) d2) : kt_Snd l sh cc nL own ret lev mc ms hz fr pc (ki_icmp_eq d1 d2) := by
  intro p e s m args below meth c D cA as ha H locs ls L st σ r σ' h hl hP hS
  unfold ki_icmp_eq at h
  split at h
  · next y x r0 =>
    split at h
    · next hg => exact lv_icmp_eq ha.1 ha.2.1 hd ht (fun _ => k1 p e s m args below meth c D cA as ha H locs ls L _ σ r σ' h hl hP hS) (fun q => absurd hg q)
    · next hg => exact lv_icmp_eq ha.1 ha.2.1 hd ht (fun q => absurd q hg) (fun _ => k2 p e s m args below meth c D cA as ha H locs ls L _ σ r σ' h hl hP hS)
  · cases h
def ki_if_ne (d1 d2 : kt_D) : kt_D := fun L st σ => match st with
  | .int x :: r => if x = 0 then d2 L r σ else d1 L r σ
  | _ => none
theorem sd_if_ne {off : Int} {tgt : Nat} (hd : decode cc pc = .ok (.ifCond .ne off, 3)) (ht : (pc : Int) + off = (tgt : Int)) (k1 : kt_Snd l sh cc nL own ret lev mc ms hz fr tgt d1) (k2 : kt_Snd l sh cc nL own ret lev mc ms hz fr (pc + 3) d2) : kt_Snd l sh cc nL own ret lev mc ms hz fr pc (ki_if_ne d1 d2) := by
  intro p e s m args below meth c D cA as ha H locs ls L st σ r σ' h hl hP hS
  unfold ki_if_ne at h
  split at h
  · next x r0 =>
    split at h
    · next hg => exact lv_if_ne ha.1 ha.2.1 hd ht (fun q => absurd hg q) (fun _ => k2 p e s m args below meth c D cA as ha H locs ls L _ σ r σ' h hl hP hS)
    · next hg => exact lv_if_ne ha.1 ha.2.1 hd ht (fun _ => k1 p e s m args below meth c D cA as ha H locs ls L _ σ r σ' h hl hP hS) (fun q => absurd q hg)
  · cases h
def ki_icmp_ne (d1 d2 : kt_D) : kt_D := fun L st σ => match st with
  | .int y :: .int x :: r => if x = y then d2 L r σ else d1 L r σ
  | _ => none
theorem sd_icmp_ne {off : Int} {tgt : Nat} (hd : decode cc pc = .ok (.if_icmp .ne off, 3)) (ht : (pc : Int) + off = (tgt : Int)) (k1 : kt_Snd l sh cc nL own ret lev mc ms hz fr tgt d1) (k2 : kt_Snd l sh cc nL own ret lev mc ms hz fr (pc + 3) d2) : kt_Snd l sh cc nL own ret lev mc ms hz fr pc (ki_icmp_ne d1 d2) := by
  intro p e s m args below meth c D cA as ha H locs ls L st σ r σ' h hl hP hS
  unfold ki_icmp_ne at h
  split at h
  · next y x r0 =>
    split at h
    · next hg => exact lv_icmp_ne ha.1 ha.2.1 hd ht (fun q => absurd hg q) (fun _ => k2 p e s m args below meth c D cA as ha H locs ls L _ σ r σ' h hl hP hS)
    · next hg => exact lv_icmp_ne ha.1 ha.2.1 hd ht (fun _ => k1 p e s m args below meth c D cA as ha H locs ls L _ σ r σ' h hl hP hS) (fun q => absurd q hg)
  · cases h
def ki_if_lt (d1 d2 : kt_D) : kt_D := fun L st σ => match st with
  | .int x :: r => if x < 0 then d1 L r σ else d2 L r σ
  | _ => none
theorem sd_if_lt {off : Int} {tgt : Nat} (hd : decode cc pc = .ok (.ifCond .lt off, 3)) (ht : (pc : Int) + off = (tgt : Int)) (k1 : kt_Snd l sh cc nL own ret lev mc ms hz fr tgt d1) (k2 : kt_Snd l sh cc nL own ret lev mc ms hz fr (pc + 3) d2) : kt_Snd l sh cc nL own ret lev mc ms hz fr pc (ki_if_lt d1 d2) := by
  intro p e s m args below meth c D cA as ha H locs ls L st σ r σ' h hl hP hS
  unfold ki_if_lt at h
  split at h
  · next x r0 =>
    split at h
    · next hg => exact lv_if_lt ha.1 ha.2.1 hd ht (fun _ => k1 p e s m args below meth c D cA as ha H locs ls L _ σ r σ' h hl hP hS) (fun q => absurd hg q)
    · next hg => exact lv_if_lt ha.1 ha.2.1 hd ht (fun q => absurd q hg) (fun _ => k2 p e s m args below meth c D cA as ha H locs ls L _ σ r σ' h hl hP hS)
  · cases h
def ki_icmp_lt (d1 d2 : kt_D) : kt_D := fun L st σ => match st with
  | .int y :: .int x :: r => if x < y then d1 L r σ else d2 L r σ
  | _ => none
theorem sd_icmp_lt {off : Int} {tgt : Nat} (hd : decode cc pc = .ok (.if_icmp .lt off, 3)) (ht : (pc : Int) + off = (tgt : Int)) (k1 : kt_Snd l sh cc nL own ret lev mc ms hz fr tgt d1) (k2 : kt_Snd l sh cc nL own ret lev mc ms hz fr (pc + 3) d2) : kt_Snd l sh cc nL own ret lev mc ms hz fr pc (ki_icmp_lt d1 d2) := by
  intro p e s m args below meth c D cA as ha H locs ls L st σ r σ' h hl hP hS
  unfold ki_icmp_lt at h
  split at h
  · next y x r0 =>
    split at h
    · next hg => exact lv_icmp_lt ha.1 ha.2.1 hd ht (fun _ => k1 p e s m args below meth c D cA as ha H locs ls L _ σ r σ' h hl hP hS) (fun q => absurd hg q)
    · next hg => exact lv_icmp_lt ha.1 ha.2.1 hd ht (fun q => absurd q hg) (fun _ => k2 p e s m args below meth c D cA as ha H locs ls L _ σ r σ' h hl hP hS)
  · cases h
def ki_if_ge (d1 d2 : kt_D) : kt_D := fun L st σ => match st with
  | .int x :: r => if 0 ≤ x then d1 L r σ else d2 L r σ
  | _ => none
theorem sd_if_ge {off : Int} {tgt : Nat} (hd : decode cc pc = .ok (.ifCond .ge off, 3)) (ht : (pc : Int) + off = (tgt : Int)) (k1 : kt_Snd l sh cc nL own ret lev mc ms hz fr tgt d1) (k2 : kt_Snd l sh cc nL own ret lev mc ms hz fr (pc + 3) d2) : kt_Snd l sh cc nL own ret lev mc ms hz fr pc (ki_if_ge d1 d2) := by
  intro p e s m args below meth c D cA as ha H locs ls L st σ r σ' h hl hP hS
  unfold ki_if_ge at h
  split at h
  · next x r0 =>
    split at h
    · next hg => exact lv_if_ge ha.1 ha.2.1 hd ht (fun _ => k1 p e s m args below meth c D cA as ha H locs ls L _ σ r σ' h hl hP hS) (fun q => absurd hg q)
    · next hg => exact lv_if_ge ha.1 ha.2.1 hd ht (fun q => absurd q hg) (fun _ => k2 p e s m args below meth c D cA as ha H locs ls L _ σ r σ' h hl hP hS)
  · cases h
def ki_icmp_ge (d1 d2 : kt_D) : kt_D := fun L st σ => match st with
  | .int y :: .int x :: r => if y ≤ x then d1 L r σ else d2 L r σ
  | _ => none
theorem sd_icmp_ge {off : Int} {tgt : Nat} (hd : decode cc pc = .ok (.if_icmp .ge off, 3)) (ht : (pc : Int) + off = (tgt : Int)) (k1 : kt_Snd l sh cc nL own ret lev mc ms hz fr tgt d1) (k2 : kt_Snd l sh cc nL own ret lev mc ms hz fr (pc + 3) d2) : kt_Snd l sh cc nL own ret lev mc ms hz fr pc (ki_icmp_ge d1 d2) := by
  intro p e s m args below meth c D cA as ha H locs ls L st σ r σ' h hl hP hS
  unfold ki_icmp_ge at h
  split at h
  · next y x r0 =>
    split at h
    · next hg => exact lv_icmp_ge ha.1 ha.2.1 hd ht (fun _ => k1 p e s m args below meth c D cA as ha H locs ls L _ σ r σ' h hl hP hS) (fun q => absurd hg q)
    · next hg => exact lv_icmp_ge ha.1 ha.2.1 hd ht (fun q => absurd q hg) (fun _ => k2 p e s m args below meth c D cA as ha H locs ls L _ σ r σ' h hl hP hS)
  · cases h
def ki_if_gt (d1 d2 : kt_D) : kt_D := fun L st σ => match st with
  | .int x :: r => if 0 < x then d1 L r σ else d2 L r σ
  | _ => none
theorem sd_if_gt {off : Int} {tgt : Nat} (hd : decode cc pc = .ok (.ifCond .gt off, 3)) (ht : (pc : Int) + off = (tgt : Int)) (k1 : kt_Snd l sh cc nL own ret lev mc ms hz fr tgt d1) (k2 : kt_Snd l sh cc nL own ret lev mc ms hz fr (pc + 3) d2) : kt_Snd l sh cc nL own ret lev mc ms hz fr pc (ki_if_gt d1 d2) := by
  intro p e s m args below meth c D cA as ha H locs ls L st σ r σ' h hl hP hS
  unfold ki_if_gt at h
  split at h
  · next x r0 =>
    split at h
    · next hg => exact lv_if_gt ha.1 ha.2.1 hd ht (fun _ => k1 p e s m args below meth c D cA as ha H locs ls L _ σ r σ' h hl hP hS) (fun q => absurd hg q)
    · next hg => exact lv_if_gt ha.1 ha.2.1 hd ht (fun q => absurd q hg) (fun _ => k2 p e s m args below meth c D cA as ha H locs ls L _ σ r σ' h hl hP hS)
  · cases h
def ki_icmp_gt (d1 d2 : kt_D) : kt_D := fun L st σ => match st with
  | .int y :: .int x :: r => if y < x then d1 L r σ else d2 L r σ
  | _ => none
theorem sd_icmp_gt {off : Int} {tgt : Nat} (hd : decode cc pc = .ok (.if_icmp .gt off, 3)) (ht : (pc : Int) + off = (tgt : Int)) (k1 : kt_Snd l sh cc nL own ret lev mc ms hz fr tgt d1) (k2 : kt_Snd l sh cc nL own ret lev mc ms hz fr (pc + 3) d2) : kt_Snd l sh cc nL own ret lev mc ms hz fr pc (ki_icmp_gt d1 d2) := by
  intro p e s m args below meth c D cA as ha H locs ls L st σ r σ' h hl hP hS
  unfold ki_icmp_gt at h
  split at h
  · next y x r0 =>
    split at h
    · next hg => exact lv_icmp_gt ha.1 ha.2.1 hd ht (fun _ => k1 p e s m args below meth c D cA as ha H locs ls L _ σ r σ' h hl hP hS) (fun q => absurd hg q)
    · next hg => exact lv_icmp_gt ha.1 ha.2.1 hd ht (fun q => absurd q hg) (fun _ => k2 p e s m args below meth c D cA as ha H locs ls L _ σ r σ' h hl hP hS)
  · cases h
def ki_if_le (d1 d2 : kt_D) : kt_D := fun L st σ => match st with
  | .int x :: r => if x ≤ 0 then d1 L r σ else d2 L r σ
  | _ => none
theorem sd_if_le {off : Int} {tgt : Nat} (hd : decode cc pc = .ok (.ifCond .le off, 3)) (ht : (pc : Int) + off = (tgt : Int)) (k1 : kt_Snd l sh cc nL own ret lev mc ms hz fr tgt d1) (k2 : kt_Snd l sh cc nL own ret lev mc ms hz fr (pc + 3) d2) : kt_Snd l sh cc nL own ret lev mc ms hz fr pc (ki_if_le d1 d2) := by
  intro p e s m args below meth c D cA as ha H locs ls L st σ r σ' h hl hP hS
  unfold ki_if_le at h
  split at h
  · next x r0 =>
    split at h
    · next hg => exact lv_if_le ha.1 ha.2.1 hd ht (fun _ => k1 p e s m args below meth c D cA as ha H locs ls L _ σ r σ' h hl hP hS) (fun q => absurd hg q)
    · next hg => exact lv_if_le ha.1 ha.2.1 hd ht (fun q => absurd q hg) (fun _ => k2 p e s m args below meth c D cA as ha H locs ls L _ σ r σ' h hl hP hS)
  · cases h
def ki_icmp_le (d1 d2 : kt_D) : kt_D := fun L st σ => match st with
  | .int y :: .int x :: r => if x ≤ y then d1 L r σ else d2 L r σ
  | _ => none
theorem sd_icmp_le {off : Int} {tgt : Nat} (hd : decode cc pc = .ok (.if_icmp .le off, 3)) (ht : (pc : Int) + off = (tgt : Int)) (k1 : kt_Snd l sh cc nL own ret lev mc ms hz fr tgt d1) (k2 : kt_Snd l sh cc nL own ret lev mc ms hz fr (pc + 3) d2) : kt_Snd l sh cc nL own ret lev mc ms hz fr pc (ki_icmp_le d1 d2) := by
  intro p e s m args below meth c D cA as ha H locs ls L st σ r σ' h hl hP hS
  unfold ki_icmp_le at h
  split at h
  · next y x r0 =>
    split at h
    · next hg => exact lv_icmp_le ha.1 ha.2.1 hd ht (fun _ => k1 p e s m args below meth c D cA as ha H locs ls L _ σ r σ' h hl hP hS) (fun q => absurd hg q)
    · next hg => exact lv_icmp_le ha.1 ha.2.1 hd ht (fun q => absurd q hg) (fun _ => k2 p e s m args below meth c D cA as ha H locs ls L _ σ r σ' h hl hP hS)
  · cases h
theorem sd_goto {off : Int} {tgt : Nat} (hd : decode cc pc = .ok (.goto off, 3)) (ht : (pc : Int) + off = (tgt : Int)) (k : kt_Snd l sh cc nL own ret lev mc ms hz fr tgt d) : kt_Snd l sh cc nL own ret lev mc ms hz fr pc d := by
  intro p e s m args below meth c D cA as ha H locs ls L st σ r σ' h hl hP hS
  exact lv_goto ha.1 ha.2.1 hd ht (k p e s m args below meth c D cA as ha H locs ls L _ σ r σ' h hl hP hS)
def ki_ifnull (d1 d2 : kt_D) : kt_D := fun L st σ => match st with
  | .ref _ :: r => d2 L r σ
  | .null :: r => d1 L r σ
  | _ => none
theorem sd_ifnull {off : Int} {tgt : Nat} (hd : decode cc pc = .ok (.ifnull off, 3)) (ht : (pc : Int) + off = (tgt : Int)) (k1 : kt_Snd l sh cc nL own ret lev mc ms hz fr tgt d1) (k2 : kt_Snd l sh cc nL own ret lev mc ms hz fr (pc + 3) d2) : kt_Snd l sh cc nL own ret lev mc ms hz fr pc (ki_ifnull d1 d2) := by
  intro p e s m args below meth c D cA as ha H locs ls L st σ r σ' h hl hP hS
  unfold ki_ifnull at h
  split at h
  · next q0 r0 => exact lv_ifnull ha.1 ha.2.1 hd (k2 p e s m args below meth c D cA as ha H locs ls L _ σ r σ' h hl hP hS)
  · next r0 => exact lv_ifnullN ha.1 ha.2.1 hd ht (k1 p e s m args below meth c D cA as ha H locs ls L _ σ r σ' h hl hP hS)
  · cases h
def ki_ifnonnull (d1 d2 : kt_D) : kt_D := fun L st σ => match st with
  | .ref _ :: r => d1 L r σ
  | .null :: r => d2 L r σ
  | _ => none
theorem sd_ifnonnull {off : Int} {tgt : Nat} (hd : decode cc pc = .ok (.ifnonnull off, 3)) (ht : (pc : Int) + off = (tgt : Int)) (k1 : kt_Snd l sh cc nL own ret lev mc ms hz fr tgt d1) (k2 : kt_Snd l sh cc nL own ret lev mc ms hz fr (pc + 3) d2) : kt_Snd l sh cc nL own ret lev mc ms hz fr pc (ki_ifnonnull d1 d2) := by
  intro p e s m args below meth c D cA as ha H locs ls L st σ r σ' h hl hP hS
  unfold ki_ifnonnull at h
  split at h
  · next q0 r0 => exact lv_ifnonnull ha.1 ha.2.1 hd ht (k1 p e s m args below meth c D cA as ha H locs ls L _ σ r σ' h hl hP hS)
  · next r0 => exact lv_ifnonnullN ha.1 ha.2.1 hd (k2 p e s m args below meth c D cA as ha H locs ls L _ σ r σ' h hl hP hS)
  · cases h
def kt_sel {α : Type} (xs : List (Option α)) (i : Nat) : Option α := (xs[i]?).getD none
theorem kt_sel_some {α : Type} {xs : List (Option α)} {i : Nat} {v : α} (h : kt_sel xs i = some v) : xs[i]? = some (some v) := by
  unfold kt_sel at h
  cases hx : xs[i]? with
  | none => rw [hx] at h; cases h
  | some o => rw [hx] at h; exact congrArg some h
def ki_tsw (lo hi : Int) (ds : List kt_D) (d : kt_D) : kt_D := fun L st σ => match st with
  | .int x :: r => if x.toInt < lo ∨ hi < x.toInt then d L r σ else kt_sel (ds.map fun d0 => d0 L r σ) (x.toInt - lo).toNat
  | _ => none
def kt_sw (l : Launch) (sh : kt_Sh) (cc : ByteArray) (nL : Nat) (own : String) (ret : Option FieldType) (lev mc ms : Nat) (hz fr : Bool) (pc : Nat) (offs : List Int) (ds : List kt_D) : Prop := match offs, ds with
  | [], [] => True
  | o :: os, d0 :: ds => (∃ tgt : Nat, (pc : Int) + o = (tgt : Int) ∧ kt_Snd l sh cc nL own ret lev mc ms hz fr tgt d0) ∧ kt_sw l sh cc nL own ret lev mc ms hz fr pc os ds
  | _, _ => False
theorem kt_sw_get : ∀ {offs : List Int} {ds : List kt_D}, kt_sw l sh cc nL own ret lev mc ms hz fr pc offs ds → ∀ {k : Nat} {d0 : kt_D}, ds[k]? = some d0 → ∃ (o : Int) (tgt : Nat), offs[k]? = some o ∧ (pc : Int) + o = (tgt : Int) ∧ kt_Snd l sh cc nL own ret lev mc ms hz fr tgt d0
  | [], [], _, k, d0, h => by simp at h
  | [], _ :: _, h0, _, _, _ => by simp [kt_sw] at h0
  | _ :: _, [], h0, _, _, _ => by simp [kt_sw] at h0
  | o :: os, d1 :: ds, h0, k, d0, h => by
    simp only [kt_sw] at h0
    obtain ⟨⟨tgt, h1, h2⟩, h3⟩ := h0
    cases k with
    | zero => simp at h; subst h; exact ⟨o, tgt, by simp, h1, h2⟩
    | succ k => simp at h; simpa using kt_sw_get h3 h
theorem sd_tsw {dflt lo hi : Int} {offs : Array Int} {len : Nat} {tgt : Nat} {ds : List kt_D} (hd : decode cc pc = .ok (.tableswitch dflt lo hi offs, len)) (ht : (pc : Int) + dflt = (tgt : Int)) (k : kt_Snd l sh cc nL own ret lev mc ms hz fr tgt d) (hs : kt_sw l sh cc nL own ret lev mc ms hz fr pc offs.toList ds) : kt_Snd l sh cc nL own ret lev mc ms hz fr pc (ki_tsw lo hi ds d) := by
  intro p e s m args below meth c D cA as ha H locs ls L st σ r σ' h hl hP hS
  unfold ki_tsw at h
  split at h
  · next x r0 =>
    split at h
    · next hg => exact lv_tableOut ha.1 ha.2.1 hd hg ht (k p e s m args below meth c D cA as ha H locs ls L _ σ r σ' h hl hP hS)
    · next hg =>
      have h9 := kt_sel_some h
      rw [List.getElem?_map] at h9
      cases h0 : ds[(x.toInt - lo).toNat]? with
      | none => rw [h0] at h9; cases h9
      | some d0 =>
        rw [h0] at h9
        have h := Option.some.inj h9
        obtain ⟨o, t0, q1, q2, q3⟩ := kt_sw_get hs h0
        exact lv_tableIn ha.1 ha.2.1 hd (fun q => hg (Or.inl q)) (fun q => hg (Or.inr q)) (by simpa using q1) q2 (q3 p e s m args below meth c D cA as ha H locs ls L _ σ r σ' h hl hP hS)
  · cases h
end KTA
/-! Base: fields, arrays, calls, returns. -/
theorem kt_fv_get {as : Nat → Nat} {f : Nat → Int32} {fks : List Nat} {k fk : Nat} (h : fks[k]? = some fk) : (fks.mapIdx (kt_fv as f))[k]? = some (kt_fv as f k fk) := by
  simp [List.getElem?_mapIdx, h]
theorem kt_fv_set {as : Nat → Nat} {f : Nat → Int32} {fks : List Nat} {k fk : Nat} {v : Int32} (h : fks[k]? = some fk) (hf : fk ≤ 1) : fks.mapIdx (kt_fv as (upd f k v)) = (fks.mapIdx (kt_fv as f)).set k (.int v) := by
  apply List.ext_getElem?
  intro i
  by_cases hi : i = k
  · subst hi
    have hl : i < (fks.mapIdx (kt_fv as f)).length := by
      have := (List.getElem?_eq_some_iff.mp h).1
      simpa using this
    rw [List.getElem?_set_self hl, kt_fv_get h]
    simp [kt_fv, hf, upd]
  · rw [List.getElem?_set_ne (Ne.symm hi)]
    simp only [List.getElem?_mapIdx]
    cases fks[i]? with
    | none => rfl
    | some z => simp [kt_fv, upd, hi]
section KTH
variable {l : Launch} {sh : kt_Sh} {cc : ByteArray} {nL : Nat} {own : String} {ret : Option FieldType} {lev mc ms : Nat} {hz fr : Bool} {pc : Nat} {d d1 d2 : kt_D}
def ki_get (sh : kt_Sh) (ci k : Nat) (d : kt_D) : kt_D := fun L st σ => match st with
  | .ref p :: r => match sh[p]? with
    | some (3, c, fs) => if c = ci then match fs[k]? with
        | some fk => if fk ≤ 1 then d L (.int (σ p k) :: r) σ else d L (.ref (fk - 2) :: r) σ
        | none => none
      else none
    | _ => none
  | _ => none
theorem sd_get {C : String} {T : u_T} {N ci k idx : Nat} (hc : vwCl[ci]? = some (C, T, N)) (hin : ∀ w ∈ u_ws C T N, w ∈ kt_G) (hk : k < N) (hd : decode cc pc = .ok (.getfield idx, 3)) (hw : Cond.fieldLink own idx (T k).1 (T k).2.1 (T k).2.2.1 ∈ kt_G) (kk : kt_Snd l sh cc nL own ret lev mc ms hz fr (pc + 3) d) : kt_Snd l sh cc nL own ret lev mc ms hz fr pc (ki_get sh ci k d) := by
  intro p e s m args below meth c D cA as ha H locs ls L st σ r σ' h hl hP hS
  unfold ki_get at h
  split at h
  · next q r0 =>
    split at h
    · next c0 fs hz =>
      split at h
      · next hci =>
        subst hci
        split at h
        · next fk hfk =>
          have hv := kt_fv_get (as := as) (f := σ q) hfk
          split at h
          · next hle =>
            rw [show kt_fv as (σ q) k fk = .int (σ q k) from if_pos hle] at hv
            exact va_get (D := D) ha.1 ha.2.1 ha.2.2.2.2.2.1 hin ha.2.2.2.2.2.2.1 ha.2.2.2.2.2.2.2.1 hP q (kt_w_get hz) hc k hk (ha.2.2.2.2.2.1 _ hw) (fun _ h => h) hv hd (kk p e s m args below meth c D cA as ha H locs ls L _ σ r σ' h hl hP hS)
          · next hle =>
            rw [show kt_fv as (σ q) k fk = .ref (as (fk - 2)) from if_neg hle] at hv
            exact va_get (D := D) ha.1 ha.2.1 ha.2.2.2.2.2.1 hin ha.2.2.2.2.2.2.1 ha.2.2.2.2.2.2.2.1 hP q (kt_w_get hz) hc k hk (ha.2.2.2.2.2.1 _ hw) (fun _ h => h) hv hd (kk p e s m args below meth c D cA as ha H locs ls L _ σ r σ' h hl hP hS)
        · cases h
      · cases h
    · cases h
  · cases h
theorem sd_getN {C : String} {T : u_T} {N ci k idx : Nat} {host : String} (hc : vwCl[ci]? = some (C, T, N)) (hin : ∀ w ∈ u_ws C T N, w ∈ kt_G) (hk : k < N) (hd : decode cc pc = .ok (.getfield idx, 3)) (hw : Cond.fieldLinkNest own idx (T k).1 (T k).2.1 (T k).2.2.1 host ∈ kt_N) (kk : kt_Snd l sh cc nL own ret lev mc ms hz fr (pc + 3) d) : kt_Snd l sh cc nL own ret lev mc ms hz fr pc (ki_get sh ci k d) := by
  intro p e s m args below meth c D cA as ha H locs ls L st σ r σ' h hl hP hS
  have hlink := va_Nw.use (A := args) rfl (ha.2.2.2.2.2.2.2.2.1 _ hw)
  unfold ki_get at h
  split at h
  · next q r0 =>
    split at h
    · next c0 fs hz =>
      split at h
      · next hci =>
        subst hci
        split at h
        · next fk hfk =>
          have hv := kt_fv_get (as := as) (f := σ q) hfk
          split at h
          · next hle =>
            rw [show kt_fv as (σ q) k fk = .int (σ q k) from if_pos hle] at hv
            exact va_getN (D := D) ha.1 ha.2.1 ha.2.2.2.2.2.1 hin ha.2.2.2.2.2.2.1 ha.2.2.2.2.2.2.2.1 hP q (kt_w_get hz) hc k hk hlink (fun _ h => h) hv hd (kk p e s m args below meth c D cA as ha H locs ls L _ σ r σ' h hl hP hS)
          · next hle =>
            rw [show kt_fv as (σ q) k fk = .ref (as (fk - 2)) from if_neg hle] at hv
            exact va_getN (D := D) ha.1 ha.2.1 ha.2.2.2.2.2.1 hin ha.2.2.2.2.2.2.1 ha.2.2.2.2.2.2.2.1 hP q (kt_w_get hz) hc k hk hlink (fun _ h => h) hv hd (kk p e s m args below meth c D cA as ha H locs ls L _ σ r σ' h hl hP hS)
        · cases h
      · cases h
    · cases h
  · cases h
/-- a field that is written: its kind b (0 int, 1 boolean); a boolean's value is 0 or 1 -/
def ki_put (sh : kt_Sh) (ci k b : Nat) (d : kt_D) : kt_D := fun L st σ => match st with
  | .int v :: .ref p :: r => match sh[p]? with
    | some (3, c, fs) => if c = ci ∧ fs[k]? = some b then if b = 0 then d L r (kt_up σ p k v) else if v = 0 ∨ v = 1 then d L r (kt_up σ p k v) else none else none
    | _ => none
  | _ => none
theorem kt_bool {v : Int32} (h : v = 0 ∨ v = 1) : narrow .boolean (.int v) = .int v ∧ fits .boolean (.int v) = true := by
  rcases h with rfl | rfl <;> decide
theorem kt_puts {b : Nat} {v : Int32} {ty : FieldType} (hb : b = 0 ∧ ty = .int ∨ b = 1 ∧ ty = .boolean) (h : b = 0 ∨ v = 0 ∨ v = 1) : narrow ty (.int v) = .int v ∧ fits ty (.int v) = true := by
  rcases hb with ⟨rfl, rfl⟩ | ⟨rfl, rfl⟩
  · exact ⟨rfl, rfl⟩
  · rcases h with h | h
    · cases h
    · exact kt_bool h
theorem sd_put {C : String} {T : u_T} {N ci k idx b : Nat} {ty0 : Nat → FieldType} {ty : FieldType} (hc : vwCl[ci]? = some (C, T, N)) (hin : ∀ w ∈ u_ws C T N, w ∈ kt_G) (hty : ∀ k, k < N → parseFieldDescriptor (T k).2.2.1 = some (ty0 k)) (hnm : ∀ a, a < N → ∀ b, b < N → a ≠ b → (T a).2.1 ≠ (T b).2.1) (hk : k < N) (hfin : (T k).2.2.2 = false) (hdt : ty0 k = ty) (hb : b = 0 ∧ ty = .int ∨ b = 1 ∧ ty = .boolean)
    (hd : decode cc pc = .ok (.putfield idx, 3)) (hw : Cond.fieldLink own idx (T k).1 (T k).2.1 (T k).2.2.1 ∈ kt_G) (kk : kt_Snd l sh cc nL own ret lev mc ms false fr (pc + 3) d) : kt_Snd l sh cc nL own ret lev mc ms hz fr pc (ki_put sh ci k b d) := by
  intro p e s m args below meth c D cA as ha H locs ls L st σ r σ' h hl hP hS
  unfold ki_put at h
  split at h
  · next v q r0 =>
    split at h
    · next c0 fs hz =>
      split at h
      · next hci =>
        obtain ⟨hci, hfk⟩ := hci
        subst hci
        have hvb : (b = 0 ∨ v = 0 ∨ v = 1) ∧ d L r0 (kt_up σ q k v) = some (r, σ') := by
          split at h
          · next hb0 => exact ⟨Or.inl hb0, h⟩
          · split at h
            · next hv0 => exact ⟨Or.inr hv0, h⟩
            · cases h
        obtain ⟨hvb, h⟩ := hvb
        have hle : b ≤ 1 := by rcases hb with ⟨h, -⟩ | ⟨h, -⟩ <;> omega
        obtain ⟨n1, n2⟩ := kt_puts hb hvb
        have hlen : k < (fs.mapIdx (kt_fv as (σ q))).length := by
          have := (List.getElem?_eq_some_iff.mp hfk).1
          simpa using this
        have hset := kt_w_set (as := as) (cA := cA) (σ := σ) (k := k) (v := v) (e := .inr (c0, (fs.mapIdx (kt_fv as (σ q))).set k (.int v))) hz (by rw [← kt_fv_set hfk hle]; rfl)
        refine va_put (D := D) (ty := ty) (v := .int v) ha.1 ha.2.1 ha.2.2.2.2.2.1 hin ty0 hty hnm ha.2.2.2.2.2.2.1 ha.2.2.2.2.2.2.2.1 hP (kt_D_of ha.2.2.2.2.2.2.2.2.2.1) (kt_S_up hS) q (kt_w_get hz) hc k hk (ha.2.2.2.2.2.1 _ hw) (fun _ h => h) hfin (by rw [← hdt]; exact hty k hk) n1 n2 hlen hd (fun H1 locs1 hP1 _ hS1 => ?_)
        rw [hset] at hP1
        exact kk p e s m args below meth c D cA as ha H1 locs1 ls L _ _ r σ' h hl hP1 hS1
      · cases h
    · cases h
  · cases h
theorem sd_putN {C : String} {T : u_T} {N ci k idx b : Nat} {ty0 : Nat → FieldType} {ty : FieldType} {host : String} (hc : vwCl[ci]? = some (C, T, N)) (hin : ∀ w ∈ u_ws C T N, w ∈ kt_G) (hty : ∀ k, k < N → parseFieldDescriptor (T k).2.2.1 = some (ty0 k)) (hnm : ∀ a, a < N → ∀ b, b < N → a ≠ b → (T a).2.1 ≠ (T b).2.1) (hk : k < N) (hfin : (T k).2.2.2 = false) (hdt : ty0 k = ty) (hb : b = 0 ∧ ty = .int ∨ b = 1 ∧ ty = .boolean)
    (hd : decode cc pc = .ok (.putfield idx, 3)) (hw : Cond.fieldLinkNest own idx (T k).1 (T k).2.1 (T k).2.2.1 host ∈ kt_N) (kk : kt_Snd l sh cc nL own ret lev mc ms false fr (pc + 3) d) : kt_Snd l sh cc nL own ret lev mc ms hz fr pc (ki_put sh ci k b d) := by
  intro p e s m args below meth c D cA as ha H locs ls L st σ r σ' h hl hP hS
  have hlink := va_Nw.use (A := args) rfl (ha.2.2.2.2.2.2.2.2.1 _ hw)
  unfold ki_put at h
  split at h
  · next v q r0 =>
    split at h
    · next c0 fs hz =>
      split at h
      · next hci =>
        obtain ⟨hci, hfk⟩ := hci
        subst hci
        have hvb : (b = 0 ∨ v = 0 ∨ v = 1) ∧ d L r0 (kt_up σ q k v) = some (r, σ') := by
          split at h
          · next hb0 => exact ⟨Or.inl hb0, h⟩
          · split at h
            · next hv0 => exact ⟨Or.inr hv0, h⟩
            · cases h
        obtain ⟨hvb, h⟩ := hvb
        have hle : b ≤ 1 := by rcases hb with ⟨h, -⟩ | ⟨h, -⟩ <;> omega
        obtain ⟨n1, n2⟩ := kt_puts hb hvb
        have hlen : k < (fs.mapIdx (kt_fv as (σ q))).length := by
          have := (List.getElem?_eq_some_iff.mp hfk).1
          simpa using this
        have hset := kt_w_set (as := as) (cA := cA) (σ := σ) (k := k) (v := v) (e := .inr (c0, (fs.mapIdx (kt_fv as (σ q))).set k (.int v))) hz (by rw [← kt_fv_set hfk hle]; rfl)
        refine va_putN (D := D) (ty := ty) (v := .int v) ha.1 ha.2.1 ha.2.2.2.2.2.1 hin ty0 hty hnm ha.2.2.2.2.2.2.1 ha.2.2.2.2.2.2.2.1 hP (kt_D_of ha.2.2.2.2.2.2.2.2.2.1) (kt_S_up hS) q (kt_w_get hz) hc k hk hlink (fun _ h => h) hfin (by rw [← hdt]; exact hty k hk) n1 n2 hlen hd (fun H1 locs1 hP1 _ hS1 => ?_)
        rw [hset] at hP1
        exact kk p e s m args below meth c D cA as ha H1 locs1 ls L _ _ r σ' h hl hP1 hS1
      · cases h
    · cases h
  · cases h
/-! arrays -/
def ki_iald (sh : kt_Sh) (d : kt_D) : kt_D := fun L st σ => match st with
  | .int i :: .ref p :: r => match sh[p]? with
    | some (0, n, _) => if i < 0 ∨ n ≤ i.toNatClampNeg then none else d L (.int (σ p i.toNatClampNeg) :: r) σ
    | _ => none
  | _ => none
def ki_zald (sh : kt_Sh) (d : kt_D) : kt_D := fun L st σ => match st with
  | .int i :: .ref p :: r => match sh[p]? with
    | some (1, n, _) => if i < 0 ∨ n ≤ i.toNatClampNeg then none else d L (.int (σ p i.toNatClampNeg) :: r) σ
    | _ => none
  | _ => none
def ki_iast (sh : kt_Sh) (d : kt_D) : kt_D := fun L st σ => match st with
  | .int x :: .int i :: .ref p :: r => match sh[p]? with
    | some (0, n, _) => if i < 0 ∨ n ≤ i.toNatClampNeg then none else d L r (kt_up σ p i.toNatClampNeg x)
    | _ => none
  | _ => none
def ki_zast (sh : kt_Sh) (d : kt_D) : kt_D := fun L st σ => match st with
  | .int x :: .int i :: .ref p :: r => match sh[p]? with
    | some (1, n, _) => if i < 0 ∨ n ≤ i.toNatClampNeg then none else if x = 0 ∨ x = 1 then d L r (kt_up σ p i.toNatClampNeg x) else none
    | _ => none
  | _ => none
def ki_alen (sh : kt_Sh) (d : kt_D) : kt_D := fun L st σ => match st with
  | .ref p :: r => match sh[p]? with
    | some (0, n, _) => d L (.int (Int32.ofNat n) :: r) σ
    | some (1, n, _) => d L (.int (Int32.ofNat n) :: r) σ
    | _ => none
  | _ => none
def ki_aald (sh : kt_Sh) (d : kt_D) : kt_D := fun L st σ => match st with
  | .int i :: .ref p :: r => match sh[p]? with
    | some (2, n, qs) => if i < 0 ∨ n ≤ i.toNatClampNeg then none else match qs[i.toNatClampNeg]? with
      | some q => d L (.ref q :: r) σ
      | none => none
    | _ => none
  | _ => none
theorem sd_iald (hd : decode cc pc = .ok (.iaload, 1)) (k : kt_Snd l sh cc nL own ret lev mc ms hz fr (pc + 1) d) : kt_Snd l sh cc nL own ret lev mc ms hz fr pc (ki_iald sh d) := by
  intro p e s m args below meth c D cA as ha H locs ls L st σ r σ' h hl hP hS
  unfold ki_iald at h
  split at h
  · next i q r0 =>
    split at h
    · next n x0 hz =>
      split at h
      · cases h
      · next hg => exact va_iald (D := D) ha.1 ha.2.1 ha.2.2.2.2.2.2.2.1 hP q 0 (kt_w_get hz) rfl hg hd (k p e s m args below meth c D cA as ha H locs ls L _ σ r σ' h hl hP hS)
    · cases h
  · cases h
theorem sd_zald (hd : decode cc pc = .ok (.baload, 1)) (k : kt_Snd l sh cc nL own ret lev mc ms hz fr (pc + 1) d) : kt_Snd l sh cc nL own ret lev mc ms hz fr pc (ki_zald sh d) := by
  intro p e s m args below meth c D cA as ha H locs ls L st σ r σ' h hl hP hS
  unfold ki_zald at h
  split at h
  · next i q r0 =>
    split at h
    · next n x0 hz =>
      split at h
      · cases h
      · next hg => exact va_zald (D := D) ha.1 ha.2.1 ha.2.2.2.2.2.2.2.1 hP q 1 (kt_w_get hz) rfl hg hd (k p e s m args below meth c D cA as ha H locs ls L _ σ r σ' h hl hP hS)
    · cases h
  · cases h
theorem sd_iast (hd : decode cc pc = .ok (.iastore, 1)) (k : kt_Snd l sh cc nL own ret lev mc ms false fr (pc + 1) d) : kt_Snd l sh cc nL own ret lev mc ms hz fr pc (ki_iast sh d) := by
  intro p e s m args below meth c D cA as ha H locs ls L st σ r σ' h hl hP hS
  unfold ki_iast at h
  split at h
  · next x i q r0 =>
    split at h
    · next n x0 hz =>
      split at h
      · cases h
      · next hg =>
        refine va_iast (D := D) ha.1 ha.2.1 ha.2.2.2.2.2.2.2.1 hP (kt_D_of ha.2.2.2.2.2.2.2.2.2.1) (kt_S_up hS) q 0 (kt_w_get hz) rfl hg hd (fun H1 locs1 hP1 _ hS1 => ?_)
        have hset := kt_w_set (as := as) (cA := cA) (σ := σ) (k := i.toNatClampNeg) (v := x) (e := .inl (cA 0, n, .inl (upd (σ q) i.toNatClampNeg x))) hz rfl
        exact k p e s m args below meth c D cA as ha H1 locs1 ls L _ _ r σ' h hl (by rw [← hset]; exact hP1) hS1
    · cases h
  · cases h
theorem sd_zast (hd : decode cc pc = .ok (.bastore, 1)) (k : kt_Snd l sh cc nL own ret lev mc ms false fr (pc + 1) d) : kt_Snd l sh cc nL own ret lev mc ms hz fr pc (ki_zast sh d) := by
  intro p e s m args below meth c D cA as ha H locs ls L st σ r σ' h hl hP hS
  unfold ki_zast at h
  split at h
  · next x i q r0 =>
    split at h
    · next n x0 hz =>
      split at h
      · cases h
      · next hg =>
        split at h
        · next hx =>
          have hnar : vp_nar .boolean x = x := by rcases hx with rfl | rfl <;> decide
          refine va_zast (D := D) ha.1 ha.2.1 ha.2.2.2.2.2.2.2.1 hP (kt_D_of ha.2.2.2.2.2.2.2.2.2.1) (kt_S_up hS) q 1 (kt_w_get hz) rfl hg hd (fun H1 locs1 hP1 _ hS1 => ?_)
          rw [hnar] at hP1
          have hset := kt_w_set (as := as) (cA := cA) (σ := σ) (k := i.toNatClampNeg) (v := x) (e := .inl (cA 1, n, .inl (upd (σ q) i.toNatClampNeg x))) hz rfl
          exact k p e s m args below meth c D cA as ha H1 locs1 ls L _ _ r σ' h hl (by rw [← hset]; exact hP1) hS1
        · cases h
    · cases h
  · cases h
theorem sd_alen (hd : decode cc pc = .ok (.arraylength, 1)) (k : kt_Snd l sh cc nL own ret lev mc ms hz fr (pc + 1) d) : kt_Snd l sh cc nL own ret lev mc ms hz fr pc (ki_alen sh d) := by
  intro p e s m args below meth c D cA as ha H locs ls L st σ r σ' h hl hP hS
  unfold ki_alen at h
  split at h
  · next q r0 =>
    split at h
    · next n x0 hz => exact va_alen (D := D) (tys := kt_tys cA) (ty := .int) ha.1 ha.2.1 ha.2.2.2.2.2.2.2.1 hP q 0 (kt_w_get hz) rfl rfl hd (k p e s m args below meth c D cA as ha H locs ls L _ σ r σ' h hl hP hS)
    · next n x0 hz => exact va_alen (D := D) (tys := kt_tys cA) (ty := .boolean) ha.1 ha.2.1 ha.2.2.2.2.2.2.2.1 hP q 1 (kt_w_get hz) rfl rfl hd (k p e s m args below meth c D cA as ha H locs ls L _ σ r σ' h hl hP hS)
    · cases h
  · cases h
theorem sd_aald (hd : decode cc pc = .ok (.aaload, 1)) (k : kt_Snd l sh cc nL own ret lev mc ms hz fr (pc + 1) d) : kt_Snd l sh cc nL own ret lev mc ms hz fr pc (ki_aald sh d) := by
  intro p e s m args below meth c D cA as ha H locs ls L st σ r σ' h hl hP hS
  unfold ki_aald at h
  split at h
  · next i q r0 =>
    split at h
    · next n qs hz =>
      split at h
      · cases h
      · next hg =>
        split at h
        · next q1 hq =>
          refine va_aldq (D := D) ha.1 ha.2.1 ha.2.2.2.2.2.2.2.1 hP q 2 (kt_w_get hz) rfl hg hd ?_
          rw [hq]
          exact k p e s m args below meth c D cA as ha H locs ls L _ σ r σ' h hl hP hS
        · cases h
    · cases h
  · cases h
/-! static arrays -/
theorem sd_gets {idx q : Nat} {nm : String} {xs : List Int32} (hq : kt_sts[q]? = some (nm, xs)) (hd : decode cc pc = .ok (.getstatic idx, 3)) (hw : Cond.fieldLink own idx "KeyToken$Request" nm "[I" ∈ kt_G) (k : kt_Snd l sh cc nL own ret lev mc ms hz fr (pc + 3) d) : kt_Snd l sh cc nL own ret lev mc ms hz fr pc (ki_push (.ref (100 + q)) d) := by
  intro p e s m args below meth c D cA as ha H locs ls L st σ r σ' h hl hP hS
  exact va_gets ha.1 ha.2.1 (ha.2.2.2.2.2.2.2.2.2.2.1 q _ hq).1 (kt_S_up hS) ha.2.2.2.2.2.2.1 (ha.2.2.2.2.2.1 _ hw) (fun _ h => h) hd (k p e s m args below meth c D cA as ha H locs ls L _ σ r σ' h hl hP hS)
def ki_ialdX (d : kt_D) : kt_D := fun L st σ => match st with
  | .int i :: .ref p :: r => match kt_sts[p - 100]? with
    | some (_, xs) => if p < 100 then none else if i < 0 ∨ xs.length ≤ i.toNatClampNeg then none else d L (.int (xs.getD i.toNatClampNeg 0) :: r) σ
    | _ => none
  | _ => none
def ki_alenX (d : kt_D) : kt_D := fun L st σ => match st with
  | .ref p :: r => match kt_sts[p - 100]? with
    | some (_, xs) => if p < 100 then none else d L (.int (Int32.ofNat xs.length) :: r) σ
    | _ => none
  | _ => none
theorem sd_ialdX (hd : decode cc pc = .ok (.iaload, 1)) (k : kt_Snd l sh cc nL own ret lev mc ms hz fr (pc + 1) d) : kt_Snd l sh cc nL own ret lev mc ms hz fr pc (ki_ialdX d) := by
  intro p e s m args below meth c D cA as ha H locs ls L st σ r σ' h hl hP hS
  unfold ki_ialdX at h
  split at h
  · next i q r0 =>
    split at h
    · next nm xs hz =>
      split at h
      · cases h
      · next hp100 =>
        split at h
        case isTrue => cases h
        next hg =>
        obtain ⟨cell, h1, h2, h3, h4, h5, h6, h7⟩ := ((ha.2.2.2.2.2.2.2.2.2.2.1 _ _ hz).2).kept (kt_S_up hS).2.1
        have hq : 100 + (q - 100) = q := Nat.add_sub_cancel' (Nat.not_lt.mp hp100)
        rw [hq] at h1
        have hlt : i.toNatClampNeg < xs.length := Nat.not_le.mp fun z => hg (Or.inr z)
        exact W.iald (v := .int (xs.getD i.toNatClampNeg 0)) ha.1 ha.2.1 h1 h2 h3 (fun z => z.elim (fun z => hg (Or.inl z)) (fun z => absurd (Nat.le_trans h4 z) (Nat.not_le.mpr hlt))) (h6 _ hlt) rfl rfl hd (k p e s m args below meth c D cA as ha H locs ls L _ σ r σ' h hl hP hS)
    · cases h
  · cases h
theorem sd_alenX (hd : decode cc pc = .ok (.arraylength, 1)) (k : kt_Snd l sh cc nL own ret lev mc ms hz fr (pc + 1) d) : kt_Snd l sh cc nL own ret lev mc ms hz fr pc (ki_alenX d) := by
  intro p e s m args below meth c D cA as ha H locs ls L st σ r σ' h hl hP hS
  unfold ki_alenX at h
  split at h
  · next q r0 =>
    split at h
    · next nm xs hz =>
      split at h
      · cases h
      · next hg =>
        obtain ⟨cell, h1, h2, h3, h4, h5, h6, h7⟩ := ((ha.2.2.2.2.2.2.2.2.2.2.1 _ _ hz).2).kept (kt_S_up hS).2.1
        have hq : 100 + (q - 100) = q := Nat.add_sub_cancel' (Nat.not_lt.mp hg)
        rw [hq] at h1
        exact W.alen (n := Int32.ofNat xs.length) ha.1 ha.2.1 h1 h2 h5 rfl rfl hd (k p e s m args below meth c D cA as ha H locs ls L _ σ r σ' h hl hP hS)
    · cases h
  · cases h
/-! returns -/
def ki_iret : kt_D := fun _ st σ => match st with
  | [.int v] => some (some (.int v), σ)
  | _ => none
def ki_zret : kt_D := fun _ st σ => match st with
  | [.int v] => if v = 0 ∨ v = 1 then some (some (.int v), σ) else none
  | _ => none
def ki_lret : kt_D := fun _ st σ => match st with
  | [.long v] => some (some (.long v), σ)
  | _ => none
def ki_aret : kt_D := fun _ st σ => match st with
  | [.ref v] => if v < 1000 then some (some (.ref v), σ) else none
  | [.null] => some (some .null, σ)
  | _ => none
def ki_vret : kt_D := fun _ st σ => match st with
  | [] => some (none, σ)
  | _ => none
theorem sd_iret (hr : ret = some .int) (hfr : fr = true → hz = true) (hd : decode cc pc = .ok (.ireturn, 1)) : kt_Snd l sh cc nL own ret lev mc ms hz fr pc ki_iret := by
  intro p e s m args below meth c D cA as ha H locs ls L st σ r σ' h hl hP hS
  have hS := kt_S_to hfr hS
  unfold ki_iret at h
  split at h
  · next v =>
    cases h
    exact kt_mono kt_ofMQ (W.widen (Nat.zero_le mc) (Nat.zero_le ms) (W.iret ha.1 ha.2.1 (ha.2.2.2.1.trans hr) (fun t ht _ => ⟨rfl, by rw [ht]; exact hP, hS.F ht⟩) hS.2.2 hd ha.2.2.2.2.1.1))
  · cases h
theorem sd_zret (hr : ret = some .boolean) (hfr : fr = true → hz = true) (hd : decode cc pc = .ok (.ireturn, 1)) : kt_Snd l sh cc nL own ret lev mc ms hz fr pc ki_zret := by
  intro p e s m args below meth c D cA as ha H locs ls L st σ r σ' h hl hP hS
  have hS := kt_S_to hfr hS
  unfold ki_zret at h
  split at h
  · next v =>
    split at h
    · next hv =>
      cases h
      exact kt_mono kt_ofMQ (W.widen (Nat.zero_le mc) (Nat.zero_le ms) (W.zret ha.1 ha.2.1 (ha.2.2.2.1.trans hr) (kt_bool hv).1 (fun t ht _ => ⟨rfl, by rw [ht]; exact hP, hS.F ht⟩) hS.2.2 hd ha.2.2.2.2.1.1))
    · cases h
  · cases h
theorem sd_lret (hr : ret = some .long) (hfr : fr = true → hz = true) (hd : decode cc pc = .ok (.lreturn, 1)) : kt_Snd l sh cc nL own ret lev mc ms hz fr pc ki_lret := by
  intro p e s m args below meth c D cA as ha H locs ls L st σ r σ' h hl hP hS
  have hS := kt_S_to hfr hS
  unfold ki_lret at h
  split at h
  · next v =>
    cases h
    exact kt_mono kt_ofMQ (W.widen (Nat.zero_le mc) (Nat.zero_le ms) (W.lret ha.1 ha.2.1 (ha.2.2.2.1.trans hr) (fun t ht _ => ⟨rfl, by rw [ht]; exact hP, hS.F ht⟩) hS.2.2 hd ha.2.2.2.2.1.1))
  · cases h
theorem sd_aret {cn : String} (hr : ret = some (.object cn)) (hfr : fr = true → hz = true) (hd : decode cc pc = .ok (.areturn, 1)) : kt_Snd l sh cc nL own ret lev mc ms hz fr pc ki_aret := by
  intro p e s m args below meth c D cA as ha H locs ls L st σ r σ' h hl hP hS
  have hS := kt_S_to hfr hS
  unfold ki_aret at h
  split at h
  · next v =>
    split at h
    case isFalse => cases h
    next hv =>
    cases h
    have hx : kt_isX (some (.ref v)) = none := if_neg (Nat.not_le.mpr hv)
    exact kt_mono kt_ofMQ (W.widen (Nat.zero_le mc) (Nat.zero_le ms) (W.aret ha.1 ha.2.1 (ha.2.2.2.1.trans hr) (Or.inl ⟨cn, rfl⟩) (Or.inr ⟨as v, rfl⟩) (fun t ht _ => ⟨by unfold kt_end; rw [hx]; rfl, by rw [ht]; exact hP, hS.F ht⟩) hS.2.2 hd ha.2.2.2.2.1.1))
  · cases h
    exact kt_mono kt_ofMQ (W.widen (Nat.zero_le mc) (Nat.zero_le ms) (W.aret ha.1 ha.2.1 (ha.2.2.2.1.trans hr) (Or.inl ⟨cn, rfl⟩) (Or.inl rfl) (fun t ht _ => ⟨rfl, by rw [ht]; exact hP, hS.F ht⟩) hS.2.2 hd ha.2.2.2.2.1.1))
  · cases h
theorem sd_vret (hr : ret = none) (hfr : fr = true → hz = true) (hd : decode cc pc = .ok (.return_, 1)) : kt_Snd l sh cc nL own ret lev mc ms hz fr pc ki_vret := by
  intro p e s m args below meth c D cA as ha H locs ls L st σ r σ' h hl hP hS
  have hS := kt_S_to hfr hS
  unfold ki_vret at h
  split at h
  · cases h
    exact kt_mono kt_ofMQ (W.widen (Nat.zero_le mc) (Nat.zero_le ms) (W.vret ha.1 ha.2.1 (ha.2.2.2.1.trans hr) (fun t ht _ => ⟨rfl, by rw [ht]; exact hP, hS.F ht⟩) hS.2.2 hd ha.2.2.2.2.1.1))
  · cases h
/-! calls -/
theorem kt_callgo {p : Program} {e : Env} {R : Room} {s : State} {m : MethodId} {args : Array Value} {below : List Frame} {meth : Method} {c : Code} {H : Heap} {locs : List Loc} {ls : Array Slot} {st0 rest : List Value} {a : Array Value} {D : va_G} {cA : Nat → ClassId} {as : Nat → Nat} {r : Option Value} {σ' : kt_S} {Q : State → Prop}
    (hr : va_Run p l e R s m args below meth c H locs 0 0 0 0 (F0 m pc ls st0) rest (kt_Q sh 0 fr D cA as r σ' H.size a) (kt_A fr sh as H.size)) (hh : hz = true → fr = true) (hS : va_S (kt_A hz sh as s.heap.size) s.heap H locs)
    (kk : ∀ (H1 : Heap) (locs1 : List Loc), va_P D vwCl (kt_w sh as cA σ') H1 → va_S (kt_A hz sh as s.heap.size) s.heap H1 locs1 → W p l e R s m args below meth c H1 locs1 0 0 Q (F0 m (pc + 3) ls ((r.map (kt_c as)).toList ++ rest))) : W p l e R s m args below meth c H locs 0 0 Q (F0 m pc ls st0) := by
  intro T hT X
  obtain ⟨v, st₀, t, T', L, h0, X', hL, e1, e2, ⟨hv, hp, hz, hk⟩, st⟩ := hr T hT X
  have hv := Outcome.returned.inj (kt_end_zero hv)
  subst hv
  rw [h0] at hz hk
  obtain ⟨t2, a1, b1⟩ := kk T'.heap (locs ++ L) (by rw [e1]; exact hp) ⟨Nat.le_trans hS.1 (by rw [e1]; exact hz), fun q h1 h2 => by
      rw [e1, hk q (Nat.lt_of_lt_of_le h1 hS.1) (fun z => h2 (kt_A_to hh q (kt_A_le hS.1 q z)))]
      exact hS.2.1 q h1 h2, fun q hq => by
      rcases List.mem_append.mp hq with h | h
      · exact hS.2.2 q h
      · exact kt_A_to hh _ (kt_A_le hS.1 _ (hL q h))⟩ T' rfl X'
  exact ⟨t2, st t2 a1, b1⟩
/-- a method's own words: instance methods, static ones -/
def kt_YV (C : String) (y : MethodName) (bytes : ByteArray) (maxL : Nat) (rt : Option FieldType) (n : Nat) : Prop := Cond.instanceMethod y ∈ kt_G ∧ Cond.selects C y y ∈ kt_G ∧ Cond.initialized y.cls ∈ kt_G ∧ Cond.code y bytes maxL rt ∈ kt_G ∧ (y.cls ≠ "java/lang/invoke/MethodHandle" ∧ y.cls ≠ "java/lang/invoke/VarHandle") ∧ (parseMethodDescriptor y.desc).map (fun d => d.parameters.length) = some n ∧ maxL ≤ 61
def kt_YS (y : MethodName) (bytes : ByteArray) (maxL : Nat) (rt : Option FieldType) (n : Nat) : Prop := Cond.static y ∈ kt_G ∧ Cond.initialized y.cls ∈ kt_G ∧ Cond.code y bytes maxL rt ∈ kt_G ∧ (y.cls ≠ "java/lang/invoke/MethodHandle" ∧ y.cls ≠ "java/lang/invoke/VarHandle") ∧ (parseMethodDescriptor y.desc).map (fun d => d.parameters.length) = some n ∧ maxL ≤ 61
theorem kt_pay {y : MethodName} {bytes : ByteArray} {maxL : Nat} {rt : Option FieldType} {s : State} {args : Array Value} (hts : ∀ w ∈ kt_G, w.before args s = true) (h5 : Cond.code y bytes maxL rt ∈ kt_G) : ∀ w ∈ Cond.code y bytes maxL rt :: kt_G, ∀ (a' : Array Value) (U : State), s.WarmedH U.vm → w.before a' U = true := by
  intro w hw a' U hW
  have hw' : w ∈ kt_G := by
    rcases List.mem_cons.mp hw with rfl | h
    · exact h5
    · exact h
  exact word_at hW (good_of_word (kt_G_good w hw')) (hts w hw')
theorem kt_npar {y : MethodName} {n : Nat} (h2 : (parseMethodDescriptor y.desc).map (fun d => d.parameters.length) = some n) : ∀ sig, parseMethodDescriptor y.desc = some sig → n = sig.parameters.length := by
  intro sig h
  rw [h] at h2
  exact (Option.some.inj h2).symm
theorem kt_room {maxL lev lev' mc ms : Nat} (hlev : lev' + 1 ≤ lev) (hmx : maxL ≤ 61) : (kt_rm lev' 0 0).frames + 1 ≤ (kt_rm lev mc ms).frames ∧ 8 + (maxL + 11) + (kt_rm lev' 0 0).locals ≤ (kt_rm lev mc ms).locals := by
  refine ⟨hlev, ?_⟩
  show 8 + (maxL + 11) + 80 * lev' ≤ 80 * lev
  omega
theorem kt_Pc_blind {sh : kt_Sh} {D : va_G} {cA : Nat → ClassId} {as : Nat → Nat} {σ : kt_S} {sz : Nat} {av : List Value} : FrameBlind (va_Pc av (fun U => U.heap.size = sz ∧ kt_B sh D cA as σ U)) := by
  rintro a U g mk ⟨q0, q1, q2⟩
  exact ⟨q0, q1, q2.blind g mk a⟩
def kt_small (st : List Value) : Bool := decide ((st.map fun v => v.category).sum ≤ 8)
theorem kt_small_le {st : List Value} (h : kt_small st = true) : (st.map fun v => v.category).sum ≤ 8 := of_decide_eq_true h
def kt_res (r : Option Value) (rest : List Value) : List Value := match r with
  | some v => v :: rest
  | none => rest
def ki_callV (sh : kt_Sh) (ci n : Nat) (F : kt_F) (d : kt_D) : kt_D := fun L st σ => match st.drop n with
  | .ref p :: rest => match sh[p]? with
    | some (3, c, _) => if c = ci then if kt_small rest = true then (F (.ref p :: (st.take n).reverse) σ).bind (fun x => d L (kt_res x.1 rest) x.2) else none else none
    | _ => none
  | _ => none
theorem kt_take {st : List Value} {n : Nat} {x : Value} {rest : List Value} (h : st.drop n = x :: rest) : st = st.take n ++ x :: rest ∧ (st.take n).length = n := by
  refine ⟨by rw [← h]; exact (List.take_append_drop n st).symm, ?_⟩
  have h1 : (st.drop n).length = rest.length + 1 := by rw [h]; rfl
  rw [List.length_drop] at h1
  rw [List.length_take]
  omega
theorem kt_stack (as : Nat → Nat) {st : List Value} {n : Nat} {x : Value} {rest : List Value} (h : st.drop n = x :: rest) : st.map (kt_c as) = ((st.take n).reverse.map (kt_c as)).reverse ++ kt_c as x :: rest.map (kt_c as) := by
  have h1 := (kt_take h).1
  rw [List.map_reverse, List.reverse_reverse]
  conv => lhs; rw [h1]
  rw [List.map_append, List.map_cons]
theorem kt_toList (as : Nat → Nat) (r : Option Value) (rest : List Value) : (kt_res r rest).map (kt_c as) = (r.map (kt_c as)).toList ++ rest.map (kt_c as) := by
  cases r <;> rfl
theorem sd_callV {C : String} {T : u_T} {N ci idx n maxL lev' : Nat} {y : MethodName} {bytes : ByteArray} {rt : Option FieldType} {F : kt_F} {fr' : Bool} (hM : kt_M l sh y bytes maxL rt lev' fr' F) (hh : hz = true → fr' = true) (hY : kt_YV C y bytes maxL rt n) (hc : vwCl[ci]? = some (C, T, N)) (hlev : lev' + 1 ≤ lev) (hd : decode cc pc = .ok (.invokevirtual idx, 3)) (hw : Cond.methodLink own idx y ∈ kt_G) (k : kt_Snd l sh cc nL own ret lev mc ms hz fr (pc + 3) d) : kt_Snd l sh cc nL own ret lev mc ms hz fr pc (ki_callV sh ci n F d) := by
  intro p e s m args below meth c D cA as ha H locs ls L st σ r σ' h hl hP hS
  obtain ⟨y1, y2, y3, y4, y5, y6, y7⟩ := hY
  have hts := ha.2.2.2.2.2.1
  unfold ki_callV at h
  split at h
  · next q rest hst =>
    split at h
    · next c0 fs hz =>
      split at h
      · next hci =>
        subst hci
        split at h
        · next hcat =>
          obtain ⟨⟨r1, σ1⟩, hF, h⟩ := Option.bind_eq_some_iff.mp h
          have hMet := hM D cA as (.ref q :: (st.take n).reverse) σ σ1 r1 H.size hF
          have hR := kt_room (mc := mc) (ms := ms) hlev y7
          have hPc := va_recv (q0 := q) ha.2.2.2.2.2.2.2.1 hP hc (kt_w_get hz)
          refine kt_callgo (va_runV (C := C) (b := as q) (As := (st.take n).reverse.map (kt_c as)) (rest := rest.map (kt_c as)) (nL := nL) (n := n) ⟨ha.1, ha.2.1, ha.2.2.1, ha.2.2.2.2.2.2.1, hts⟩ hMet ⟨⟨rfl, rfl, hR.1, hR.2, kt_pay hts y4, List.mem_cons_self, hts _ y4, hts _ y3, y5, kt_npar y6, hts _ hw⟩, hts _ y1, hts _ y2⟩ ⟨kt_Pc_blind, hPc, fun U hU hW => ⟨rfl, by rw [hU], ha.2.2.2.2.2.2.2.to hW (by rw [hU]; exact hS), by rw [hU]; exact hP⟩⟩ rfl (by rw [List.length_map, List.length_reverse]; exact (kt_take hst).2) hl.2.1 (kt_stack as hst) (lv_room (by rw [kt_c_cats]; exact kt_small_le hcat)) hd ⟨Nat.zero_le _, Nat.zero_le _⟩) hh hS (fun H1 locs1 hP1 hS1 => ?_)
          rw [← kt_toList]
          exact k p e s m args below meth c D cA as ha H1 locs1 ls L _ σ1 r σ' h hl hP1 hS1
        · cases h
      · cases h
    · cases h
  · cases h
theorem sd_callVN {C : String} {T : u_T} {N ci idx n maxL lev' : Nat} {host : String} {y : MethodName} {bytes : ByteArray} {rt : Option FieldType} {F : kt_F} {fr' : Bool} (hM : kt_M l sh y bytes maxL rt lev' fr' F) (hh : hz = true → fr' = true) (hY : kt_YV C y bytes maxL rt n) (hc : vwCl[ci]? = some (C, T, N)) (hlev : lev' + 1 ≤ lev) (hd : decode cc pc = .ok (.invokevirtual idx, 3)) (hw : Cond.methodLinkNest own idx y host ∈ kt_N) (k : kt_Snd l sh cc nL own ret lev mc ms hz fr (pc + 3) d) : kt_Snd l sh cc nL own ret lev mc ms hz fr pc (ki_callV sh ci n F d) := by
  intro p e s m args below meth c D cA as ha H locs ls L st σ r σ' h hl hP hS
  obtain ⟨y1, y2, y3, y4, y5, y6, y7⟩ := hY
  have hts := ha.2.2.2.2.2.1
  have hlink := va_Nw.use (A := args) rfl (ha.2.2.2.2.2.2.2.2.1 _ hw)
  unfold ki_callV at h
  split at h
  · next q rest hst =>
    split at h
    · next c0 fs hz =>
      split at h
      · next hci =>
        subst hci
        split at h
        · next hcat =>
          obtain ⟨⟨r1, σ1⟩, hF, h⟩ := Option.bind_eq_some_iff.mp h
          have hMet := hM D cA as (.ref q :: (st.take n).reverse) σ σ1 r1 H.size hF
          have hR := kt_room (mc := mc) (ms := ms) hlev y7
          have hPc := va_recv (q0 := q) ha.2.2.2.2.2.2.2.1 hP hc (kt_w_get hz)
          refine kt_callgo (va_runVN (C := C) (host := host) (b := as q) (As := (st.take n).reverse.map (kt_c as)) (rest := rest.map (kt_c as)) (nL := nL) (n := n) ⟨ha.1, ha.2.1, ha.2.2.1, ha.2.2.2.2.2.2.1, hts⟩ hMet ⟨⟨⟨rfl, rfl, hR.1, hR.2, kt_pay hts y4, List.mem_cons_self⟩, hts _ y4, hts _ y3, y5, kt_npar y6, hlink⟩, hts _ y1, hts _ y2⟩ ⟨kt_Pc_blind, hPc, fun U hU hW => ⟨rfl, by rw [hU], ha.2.2.2.2.2.2.2.to hW (by rw [hU]; exact hS), by rw [hU]; exact hP⟩⟩ rfl (by rw [List.length_map, List.length_reverse]; exact (kt_take hst).2) hl.2.1 (kt_stack as hst) (lv_room (by rw [kt_c_cats]; exact kt_small_le hcat)) hd ⟨Nat.zero_le _, Nat.zero_le _⟩) hh hS (fun H1 locs1 hP1 hS1 => ?_)
          rw [← kt_toList]
          exact k p e s m args below meth c D cA as ha H1 locs1 ls L _ σ1 r σ' h hl hP1 hS1
        · cases h
      · cases h
    · cases h
  · cases h
def ki_callS (n : Nat) (F : kt_F) (d : kt_D) : kt_D := fun L st σ => if (st.take n).length = n then if kt_small (st.drop n) = true then (F (st.take n).reverse σ).bind (fun x => d L (kt_res x.1 (st.drop n)) x.2) else none else none
theorem kt_stackS (as : Nat → Nat) (st : List Value) (n : Nat) : st.map (kt_c as) = ((st.take n).reverse.map (kt_c as)).reverse ++ (st.drop n).map (kt_c as) := by
  rw [List.map_reverse, List.reverse_reverse, ← List.map_append, List.take_append_drop]
theorem sd_callS {idx n maxL lev' : Nat} {y : MethodName} {bytes : ByteArray} {rt : Option FieldType} {F : kt_F} {fr' : Bool} (hM : kt_M l sh y bytes maxL rt lev' fr' F) (hh : hz = true → fr' = true) (hY : kt_YS y bytes maxL rt n) (hlev : lev' + 1 ≤ lev) (hd : decode cc pc = .ok (.invokestatic idx, 3)) (hw : Cond.methodLink own idx y ∈ kt_G) (k : kt_Snd l sh cc nL own ret lev mc ms hz fr (pc + 3) d) : kt_Snd l sh cc nL own ret lev mc ms hz fr pc (ki_callS n F d) := by
  intro p e s m args below meth c D cA as ha H locs ls L st σ r σ' h hl hP hS
  obtain ⟨y1, y3, y4, y5, y6, y7⟩ := hY
  have hts := ha.2.2.2.2.2.1
  unfold ki_callS at h
  split at h
  · next hn =>
    split at h
    · next hcat =>
      obtain ⟨⟨r1, σ1⟩, hF, h⟩ := Option.bind_eq_some_iff.mp h
      have hMet := hM D cA as (st.take n).reverse σ σ1 r1 H.size hF
      have hR := kt_room (mc := mc) (ms := ms) hlev y7
      refine kt_callgo (va_runS (As := (st.take n).reverse.map (kt_c as)) (rest := (st.drop n).map (kt_c as)) (nL := nL) (n := n) ⟨ha.1, ha.2.1, ha.2.2.1, ha.2.2.2.2.2.2.1, hts⟩ hMet ⟨⟨rfl, rfl, hR.1, hR.2, kt_pay hts y4, List.mem_cons_self, hts _ y4, hts _ y3, y5, kt_npar y6, hts _ hw⟩, hts _ y1⟩ ⟨kt_Pc_blind, fun U hU hW => ⟨rfl, by rw [hU], ha.2.2.2.2.2.2.2.to hW (by rw [hU]; exact hS), by rw [hU]; exact hP⟩⟩ rfl (by rw [List.length_map, List.length_reverse]; exact hn) hl.2.1 (kt_stackS as st n) (lv_room (by rw [kt_c_cats]; exact kt_small_le hcat)) hd ⟨Nat.zero_le _, Nat.zero_le _⟩) hh hS (fun H1 locs1 hP1 hS1 => ?_)
      rw [← kt_toList]
      exact k p e s m args below meth c D cA as ha H1 locs1 ls L _ σ1 r σ' h hl hP1 hS1
    · cases h
  · cases h
theorem sd_callSN {idx n maxL lev' : Nat} {host : String} {y : MethodName} {bytes : ByteArray} {rt : Option FieldType} {F : kt_F} {fr' : Bool} (hM : kt_M l sh y bytes maxL rt lev' fr' F) (hh : hz = true → fr' = true) (hY : kt_YS y bytes maxL rt n) (hlev : lev' + 1 ≤ lev) (hd : decode cc pc = .ok (.invokestatic idx, 3)) (hw : Cond.methodLinkNest own idx y host ∈ kt_N) (k : kt_Snd l sh cc nL own ret lev mc ms hz fr (pc + 3) d) : kt_Snd l sh cc nL own ret lev mc ms hz fr pc (ki_callS n F d) := by
  intro p e s m args below meth c D cA as ha H locs ls L st σ r σ' h hl hP hS
  obtain ⟨y1, y3, y4, y5, y6, y7⟩ := hY
  have hts := ha.2.2.2.2.2.1
  have hlink := va_Nw.use (A := args) rfl (ha.2.2.2.2.2.2.2.2.1 _ hw)
  unfold ki_callS at h
  split at h
  · next hn =>
    split at h
    · next hcat =>
      obtain ⟨⟨r1, σ1⟩, hF, h⟩ := Option.bind_eq_some_iff.mp h
      have hMet := hM D cA as (st.take n).reverse σ σ1 r1 H.size hF
      have hR := kt_room (mc := mc) (ms := ms) hlev y7
      refine kt_callgo (va_runSN (host := host) (As := (st.take n).reverse.map (kt_c as)) (rest := (st.drop n).map (kt_c as)) (nL := nL) (n := n) ⟨ha.1, ha.2.1, ha.2.2.1, ha.2.2.2.2.2.2.1, hts⟩ hMet ⟨⟨⟨rfl, rfl, hR.1, hR.2, kt_pay hts y4, List.mem_cons_self⟩, hts _ y4, hts _ y3, y5, kt_npar y6, hlink⟩, hts _ y1, trivial⟩ ⟨kt_Pc_blind, fun U hU hW => ⟨rfl, by rw [hU], ha.2.2.2.2.2.2.2.to hW (by rw [hU]; exact hS), by rw [hU]; exact hP⟩⟩ rfl (by rw [List.length_map, List.length_reverse]; exact hn) hl.2.1 (kt_stackS as st n) (lv_room (by rw [kt_c_cats]; exact kt_small_le hcat)) hd ⟨Nat.zero_le _, Nat.zero_le _⟩) hh hS (fun H1 locs1 hP1 hS1 => ?_)
      rw [← kt_toList]
      exact k p e s m args below meth c D cA as ha H1 locs1 ls L _ σ1 r σ' h hl hP1 hS1
    · cases h
  · cases h
def ki_max (d : kt_D) : kt_D := fun L st σ => match st with
  | .int y :: .int x :: r => if kt_small r = true then d L (.int (if x < y then y else x) :: r) σ else none
  | _ => none
theorem sd_max {idx : Nat} (hlev : 1 ≤ lev) (hd : decode cc pc = .ok (.invokestatic idx, 3)) (hw : Cond.methodLink own idx Lib.Math.max.name ∈ kt_G) (h1 : Cond.static Lib.Math.max.name ∈ kt_G) (h2 : Cond.initialized "java/lang/Math" ∈ kt_G) (h3 : Cond.code Lib.Math.max.name Lib.Math.max.code 2 (some .int) ∈ kt_G) (k : kt_Snd l sh cc nL own ret lev mc ms hz fr (pc + 3) d) : kt_Snd l sh cc nL own ret lev mc ms hz fr pc (ki_max d) := by
  intro p e s m args below meth c D cA as ha H locs ls L st σ r σ' h hl hP hS
  have hts := ha.2.2.2.2.2.1
  unfold ki_max at h
  split at h
  · next y x r0 =>
    split at h
    · next hg =>
      refine va_mmax ha.1 ha.2.1 (ha.2.2.1.trans hl.2.1.symm) ha.2.2.2.2.2.2.1 (hts _ hw) (hts _ h1) (hts _ h2) (hts _ h3) hlev ?_ (Nat.zero_le _) (Nat.zero_le _) hd (k p e s m args below meth c D cA as ha H locs ls L _ σ r σ' h hl hP hS)
      have hg := kt_small_le hg
      rw [kt_c_cats]
      show _ + 13 ≤ 80 * lev
      omega
    · cases h
  · cases h
end KTH
/-! Base: a throw. -/
theorem kt_Th.lays {n d : String} {A : Nat → Prop} {U : State} {args : Array Value} (h : kt_Th n d A U) : (Cond.laysStatic "java/lang/Throwable" n d).before args U = true := by
  obtain ⟨c, k, i, f, a, cell, v, h1, h2, h3, h4, h5, h6, h7, h8, h9, -, -⟩ := h
  have hlt : f.slot < cell.slots.size := (Array.getElem?_eq_some_iff.mp h9).1
  simp [Cond.before, Cond.holds, Cond.value, h1, h2, h3, h4, h5, h6, h7, h8, hlt]
theorem kt_Th.isRef {n d : String} {A : Nat → Prop} {U : State} {args : Array Value} (h : kt_Th n d A U) : (Cond.isRef (.static "java/lang/Throwable" n d)).before args U = true := by
  obtain ⟨c, k, i, f, a, cell, v, h1, h2, h3, h4, h5, h6, h7, h8, h9, h10, -⟩ := h
  have he : (Term.static "java/lang/Throwable" n d).eval args U none [] U = some v := by
    simp [Term.eval, State.fieldNamed?, h2, h3, h4, h6, h7, h9]
  cases v with
  | ref x => simp [Cond.before, Cond.holds, Cond.value, he]
  | null => simp [Cond.before, Cond.holds, Cond.value, he]
  | int x => cases h10
  | long x => cases h10
  | float x => cases h10
  | double x => cases h10
  | retAddr x => cases h10
theorem kt_same {s U : State} {cells slots : Nat} (h : s.sameButNew ({ U with vm := s.vm } : State) [] cells slots) : ∀ (a : Nat) (c : Cell), s.heap[a]? = some c → U.heap[a]? = some c := by
  intro a c hc
  obtain ⟨c', h1, h2, h3, h4⟩ := h.2.2.2.2.2 a c hc
  have h1 : U.heap[a]? = some c' := h1
  have hs : c'.slots = c.slots := Array.ext_getElem? (fun i => h4 i (by simp))
  rw [h1, h2, hs]
/-- a word of a throw's bundle: in the tables' words, among those that are kept apart, or one of Throwable's statics -/
def kt_tw (a : Cond) : Prop := a ∈ kt_G ∨ a ∈ kt_N ∨ a = .laysStatic "java/lang/Throwable" "UNASSIGNED_STACK" Bundle.steD ∨ a = .laysStatic "java/lang/Throwable" "SUPPRESSED_SENTINEL" Bundle.listD ∨ a = .isRef (.static "java/lang/Throwable" "UNASSIGNED_STACK" Bundle.steD) ∨ a = .isRef (.static "java/lang/Throwable" "SUPPRESSED_SENTINEL" Bundle.listD)
def ki_throw (n : Nat) : kt_D := fun _ st σ => match st with
  | [] => some (some (.ref (1000 + n)), σ)
  | _ => none
/-! Base: an exception whose constructor lies at another entry of its table (the library's row has the common one alone). -/
section KTC
variable {p : Program} {l : Launch} {e : Env} {R : Room} {s : State} {m₀ : MethodId} {args : Array Value} {below : List Frame} {meth : Method} {c : Code} {W : State} {locs : List Loc} {cells slots : Nat}
set_option maxHeartbeats 1000000 in
theorem kt_ctorX (X : Stand p l e R s m₀ args below meth c W locs cells slots) (hexec : p.tables.exec = Jvm.exec) (htr : e.platform.stackTraces = false) {own cls Y0 : String} {r0 : List String} {ic : Nat}
    {ix : Nat} {rx : ByteArray} (x0 : decode rx 0 = .ok (.aload_n 0, 1)) (x1 : decode rx 1 = .ok (.aload_n 1, 1)) (x2 : decode rx 2 = .ok (.invokespecial ix, 3)) (x5 : decode rx 5 = .ok (.return_, 1))
    (hown : s.vm.findClass own = some m₀.cls) (hcls : Bundle.fit cls = true) (hY0 : Bundle.fit Y0 = true) (hr0 : ∀ n ∈ r0, Bundle.fit n = true)
    (h : ∀ a ∈ kt_atX own ic cls ix rx Y0 r0, a.before args s = true)
    (hlocs : ∀ x ∈ locs, ∀ cell, s.heap[x.base]? = some cell → cell.vm.isStatics = false)
    {a : Addr} {cX : ClassId} {kX : Class} (hfoundX : s.vm.findClass cls = some cX) (hkX : s.vm.classes[cX]? = some kX) (hcell : W.heap[a]? = some (freshCell cX kX)) (hnew : s.heap.size ≤ a)
    {msg : Value} (hmsg : msg.isRef = true)
    {g : JFrame} (hg : g.method = m₀) (hsize : g.locals.size = c.maxLocals) (hlocked : g.locked = none) (hentered : g.entered = []) {rest : List Value} (hstack : g.stack = msg :: .ref a :: .ref a :: rest)
    (hd6 : decode c.code g.pc = .ok (.invokespecial ic, 3)) (hd9 : decode c.code (g.pc + 3) = .ok (.athrow, 1)) (hout : ∀ x ∈ c.exceptionTable.toList, covers x (g.pc + 3) = false)
    (hRframes : r0.length + 1 + 3 < R.frames) (hRlocals : 2 * g.monitorRoom + ((Value.ref a :: rest).map fun v => v.category).sum + (13 * (r0.length + 1 + 1) + 42) ≤ R.locals) (hlocks : meth.locks = false) :
    ∃ U : State, Steps p.tables e below (W.setTop g) U ∧ U.status = .running ∧ Ended U below (.threw a) ∧ s.WarmedH U.vm ∧ s.sameButNew ({ U with vm := s.vm } : State) locs cells slots ∧
      ∃ ce, U.heap[a]? = some ce ∧ ce.vm = .none ∧ s.vm.findClass cls = some ce.cls := by
  have howns : e.platform.frameOwnsMonitors = true := by rw [X.admits.platform]
  have hfin : e.platform.finalization = false := by rw [X.admits.platform]
  have hpl : e.platform.magicAccessors = ({} : Platform).magicAccessors := by rw [X.admits.platform]
  have a' : ∀ x, x ∈ kt_atX own ic cls ix rx Y0 r0 → x.holds args s none s [] = true := fun x hx => h x hx
  obtain ⟨T, Z0, L, -, Y⟩ := ThrowableC.of_atoms (args := args) howns hfin hpl (fun x hx => h x (by simp [kt_atX, hx]))
  obtain ⟨Z, M, LZ, LM, hnZ⟩ := Init0T.ofS_atoms (args := args) hpl L Y (fun x hx => h x (by simp [kt_atX, hx]))
  obtain ⟨P1, L1, hP1m, hs1⟩ := PassC.ofS_atoms (args := args) (s := s) hpl (X := cls) (Y := Y0) (Bundle.fit_spec hcls).1 (Bundle.fit_spec hY0).2 x0 x1 x2 x5 (fun x hx => h x (by simp [kt_atX, hx]))
  obtain ⟨P2, Ps, hlen, L2, hL, hP2m, hlink1, hlink⟩ := Bundle.chainS (args := args) hpl hnZ r0 Y0 hY0 hr0 (fun x hx => h x (by simp [kt_atX, hx]))
  have hsup : P1.sup = P2.m := Option.some.inj (hs1.symm.trans hP2m)
  have hfound : s.vm.findClass cls = some P1.m.cls := findClass_of_methodNamed hP1m
  cases Option.some.inj (hfoundX.symm.trans hfound)
  obtain ⟨c1, kX', hc1, hk, hord, -, -, hn6⟩ := Cond.instantiable_spec (a' (.instantiable cls 6) (by simp [kt_atX]))
  cases Option.some.inj (hc1.symm.trans hfound)
  cases Option.some.inj (hkX.symm.trans hk)
  have hsel0 : selectMethod e.platform s.vm P1.m.cls T.fill0 = .method T.fill0 := by
    obtain ⟨c2, r2, m2, q1, q2, q3, q4, -⟩ := Cond.selects_spec (a' (.selects cls Bundle.tFill0 Bundle.tFill0) (by simp [kt_atX]))
    cases Option.some.inj (q1.symm.trans hfound)
    cases Option.some.inj (q2.symm.trans (State.methodFound?_of_named Y.fill0 (by decide)))
    cases Option.some.inj (q3.symm.trans Y.fill0)
    rw [Launch.admits_selectMethod X.admits]; exact q4
  have hselF : selectMethod e.platform s.vm P1.m.cls T.fill = .method T.fill := by
    obtain ⟨c2, r2, m2, q1, q2, q3, q4, -⟩ := Cond.selects_spec (a' (.selects cls Bundle.tFill Bundle.tFill) (by simp [kt_atX]))
    cases Option.some.inj (q1.symm.trans hfound)
    cases Option.some.inj (q2.symm.trans (State.methodFound?_of_named Y.fill (by decide)))
    cases Option.some.inj (q3.symm.trans Y.fill)
    rw [Launch.admits_selectMethod X.admits]; exact q4
  obtain ⟨cellS0, hcS0, hiss⟩ := Y.statics
  obtain ⟨u0, hu0⟩ := Cond.staticRefV Y.unassigned L.unassignedStatic L.statics hcS0 hiss (a' (.isRef (.static Bundle.tN "UNASSIGNED_STACK" Bundle.steD)) (by simp [kt_atX]))
  obtain ⟨sen, hsen⟩ := Cond.staticRefV Y.sentinel L.sentinelStatic L.statics hcS0 hiss (a' (.isRef (.static Bundle.tN "SUPPRESSED_SENTINEL" Bundle.listD)) (by simp [kt_atX]))
  obtain ⟨ci198, i198, fB, hk198, hg198, ha198, hsB, -, hnB, htB, hffB⟩ := Cond.ownField (t := .object "java/lang/Object") Y.found L.cls (by decide +kernel) (a' (.fieldLink Bundle.tN 198 Bundle.tN "backtrace" "Ljava/lang/Object;") (by simp [kt_atX])) (a' (.lays Bundle.tN Bundle.tN "backtrace" "Ljava/lang/Object;") (by simp [kt_atX])) e.platform hpl
  obtain ⟨cellS, hcS', heS, -, hkeep⟩ := X.same.2.2.2.2.2 T.aS cellS0 hcS0
  have hcellS : W.heap[T.aS]? = some cellS := hcS'
  have hout' : ∀ i, (⟨T.aS, i⟩ : Loc) ∉ locs := fun i hmem => by
    have := hlocs _ hmem cellS0 hcS0
    rw [hiss] at this; cases this
  have hknownS : cellS.vm ≠ .unknown := by
    rw [heS]; intro hu
    rw [show cellS0.vm = .unknown from hu] at hiss
    cases hiss
  have hneS : T.aS ≠ a := Nat.ne_of_lt (Nat.lt_of_lt_of_le (Array.getElem?_eq_some_iff.mp hcS0).1 hnew)
  obtain ⟨iM, hffM⟩ := Y.msg
  obtain ⟨tyC, dC, hdC, hdnC⟩ := Cond.laysAt hfound hk Y.cause (a' (.lays cls Bundle.tN "cause" "Ljava/lang/Throwable;") (by simp [kt_atX]))
  obtain ⟨tyS, dS, hdS, hdnS⟩ := Cond.laysAt hfound hk Y.stack (a' (.lays cls Bundle.tN "stackTrace" Bundle.steD) (by simp [kt_atX]))
  obtain ⟨tyP, dP, hdP, hdnP⟩ := Cond.laysAt hfound hk Y.supp (a' (.lays cls Bundle.tN "suppressedExceptions" Bundle.listD) (by simp [kt_atX]))
  obtain ⟨tyM, dM, hdM, hdnM⟩ := Cond.laysAt hfound hk hffM (a' (.lays cls Bundle.tN "detailMessage" "Ljava/lang/String;") (by simp [kt_atX]))
  obtain ⟨tyB, dB, hdB, hdnB⟩ := Cond.laysAt hfound hk hffB (a' (.lays cls Bundle.tN "backtrace" "Ljava/lang/Object;") (by simp [kt_atX]))
  have bC := Cond.laysApart hdB hdC hdnB hdnC (by rw [hnB, Y.causeName]; decide)
  have bS := Cond.laysApart hdB hdS hdnB hdnS (by rw [hnB, Y.stackName]; decide)
  have bP := Cond.laysApart hdB hdP hdnB hdnP (by rw [hnB, Y.suppName]; decide)
  have hskip : SkipFacts T e.platform s (fun u => u) u0 ((preparedCellV T.toThrowableT (freshCell P1.m.cls kX) a u0 sen).withEntry W.cur) :=
    ⟨{ ci198 := ci198, i198 := i198, fBack := fB }, ⟨hk198, hg198, ha198, hsB⟩, by
      have := fresh_default (c := P1.m.cls) tyB
      rw [htB] at this
      simpa [preparedCellV, Cell.setSlot, Cell.withEntry, Array.getElem?_setIfInBounds, bC, bS, bP, bC.symm, bS.symm, bP.symm, defaultValue] using this, fun _ _ => rfl⟩
  obtain ⟨tm, methC, cdC, kC, vm₁, hnC, -, -, -, -, -, -, -, hW₁, st1⟩ := Steps.initColdS (tb := p.tables) (e := e) (below := below) (s := s) (U := W) X.here hexec X.warmed hpl hown (t := Bundle.initS cls) rfl rfl (Bundle.fit_spec hcls).2
    (a' (.methodLink own ic (Bundle.initS cls)) (by simp [kt_atX])) (h (.instanceMethod (Bundle.initS cls)) (by simp [kt_atX, Bundle.passSAtoms])) (bytes := rx) (maxL := 2) (h (.code (Bundle.initS cls) rx 2 none) (by simp [kt_atX, Bundle.passSAtoms]))
    (f := g) hg (a := a) (msg := msg) (rest := .ref a :: rest) hstack hd6
  cases Option.some.inj (hnC.symm.trans hP1m)
  have X₁ := X.noted hW₁
  obtain ⟨vm₂, X₂, st2⟩ := X₁.ctorMessageOffV hexec (g := { g with stack := .ref a :: rest }) hg hsize T L Z LZ M LM (P1 :: P2 :: Ps)
    (fun P hP => by
      rcases List.mem_cons.mp hP with rfl | hP
      · exact L1
      · rcases List.mem_cons.mp hP with rfl | hP
        · exact L2
        · exact hL P hP) ⟨hsup, hlink1, hlink⟩ (u0 := u0) (sen := sen) (self := a) hmsg (cell := freshCell P1.m.cls kX) (cellS := cellS)
    hcell (fun _ => by simp) (by simp) rfl rfl hsel0 hselF hcellS hneS hknownS (by rw [hkeep _ (hout' _)]; exact hu0) (by rw [hkeep _ (hout' _)]; exact hsen)
    (Takes.of_laid hk hord tyC (by rw [Y.causeType]; rfl)) (Takes.of_laid hk hord tyS (by rw [Y.stackType]; exact fits_refV_array _ u0)) (Takes.of_laid hk hord tyP (by rw [Y.suppType]; exact fits_refV_object _ sen))
    (Takes.of_laid hk hord tyM (by rw [Y.msgType]; exact fits_refV_object _ ⟨msg, hmsg⟩)) Y.objLocals hskip htr [] hd6
    (by simp only [List.length_cons, hlen]; omega) (by simp only [List.length_cons, hlen]; exact hRlocals)
  obtain ⟨hwalk, hrun, hended, hWU, hsame⟩ := X₂.athrowLeaves hexec (g := { g with stack := .ref a :: rest, pc := g.pc + 3 }) hg hlocked hentered hout (a := a) (rest := rest) rfl hd9 (hlocks := hlocks)
  have hlt : a < ((W.setVm vm₁).setVm vm₂).heap.size := (Array.getElem?_eq_some_iff.mp hcell).1
  have hU := heapAt_setCell_self (s := (W.setVm vm₁).setVm vm₂) (plainBareV T.toThrowableT (freshCell P1.m.cls kX) a u0 sen msg) hlt
  refine ⟨_, st1 _ (fun acts => ?_), hrun, hended, hWU, hsame.weaken (fun y hy hlt' => ?_) (Nat.le_refl _) (Nat.le_refl _), _, hU, rfl, hfound⟩
  · rw [doInvoke_state]
    exact st2 _ hwalk
  · rcases List.mem_append.mp hy with h1 | h1
    · exact h1
    · exfalso
      have hb : y.base = a := by
        simp only [List.mem_cons, List.not_mem_nil, or_false] at h1
        rcases h1 with rfl | rfl | rfl | rfl | rfl <;> rfl
      rw [hb] at hlt'
      exact Nat.not_lt.mpr hnew hlt'
end KTC
section KTT
variable {l : Launch} {sh : kt_Sh} {cc : ByteArray} {nL : Nat} {own : String} {ret : Option FieldType} {lev mc ms : Nat} {pc : Nat}
set_option maxHeartbeats 4000000 in
theorem sd_throw {n ic icl isx k : Nat} {X tx : String} (hf : l.flags = pinnedFlags ++ [noTraceFlag]) (hX : kt_exs[n]? = some X) (hfit : Bundle.fit X = true) (hown0 : own = "KeyToken") (hmc : 1 ≤ mc) (hms : 6 ≤ ms) (hlev : 6 ≤ lev)
    (hd0 : decode cc pc = .ok (.new icl, 3)) (hd3 : decode cc (pc + 3) = .ok (.dup, 1)) (hd4 : decode cc (pc + 4) = .ok (.ldc isx, 2)) (hd6 : decode cc (pc + 6) = .ok (.invokespecial ic, 3)) (hd9 : decode cc (pc + 9) = .ok (.athrow, 1))
    (hcl : Cond.classLink own icl X ∈ kt_G) (hin : Cond.instantiable X 6 ∈ kt_G) (hini : Cond.initialized X ∈ kt_G) (hstr : kt_strs[k]? = some (isx, tx)) (hat : ∀ a ∈ Bundle.ownAtoms own ic X kt_chain, kt_tw a) :
    kt_Snd l sh cc nL own ret lev mc ms true false pc (ki_throw n) := by
  intro p e s m args below meth c D cA as ha H locs ls L st σ r σ' h hl hP hS
  unfold ki_throw at h
  split at h
  case h_2 => cases h
  cases h
  have hts := ha.2.2.2.2.2.1
  have hown := ha.2.2.2.2.2.2.1
  have hK := ha.2.2.2.2.2.2.2
  obtain ⟨-, hNw, hinj, -, hstrs, hT1, hT2⟩ := hK
  obtain ⟨qs, hR⟩ := hstrs k _ hstr
  have hlocs : locs = [] := by
    cases locs with
    | nil => rfl
    | cons a t => exact absurd (hS.2.2 a List.mem_cons_self).1 (by decide)
  subst hlocs
  have hb : c.code = cc := ha.2.1
  refine W.newc ha.1 hb hown (hts _ hcl) (hts _ hin) (hts _ hini) (g := F0 m pc ls []) rfl hd0 (by show 0 + 1 ≤ mc; omega) (by show 0 + 6 ≤ ms; omega) (fun cC kC h1 h2 h3 h4 => ?_)
  have hHs : s.heap.size ≤ H.size := hS.1
  refine lv_dup (va := .ref H.size) (rest := []) (pc := pc + 3) ha.1 hb hd3 rfl ?_
  rw [hown0] at hown
  refine va_ldcS (own := "KeyToken") (pc := pc + 4) ha.1 hb hown hR hd4 ?_
  intro T hT X0
  have htr : e.platform.stackTraces = false := Launch.traces_off hf X0.admits
  have hall : ∀ a ∈ Bundle.ownAtoms "KeyToken" ic X kt_chain, a.before args s = true := by
    intro a haa
    rw [hown0] at hat
    rcases hat a haa with h | h | h | h | h | h
    · exact hts a h
    · exact va_Nw.use (kt_nest_tab (kt_N_nest a h)) (hNw a h)
    · rw [h]; exact hT1.lays
    · rw [h]; exact hT2.lays
    · rw [h]; exact hT1.isRef
    · rw [h]; exact hT2.isRef
  have hex : ∀ x ∈ c.exceptionTable.toList, covers x (pc + 6 + 3) = false := by
    intro x hx
    have h0 : c.exceptionTable = #[] := by simpa using ha.2.2.2.2.1.2.1
    rw [h0] at hx
    cases hx
  obtain ⟨U, hst, hrun, hend, hW, hsame, ce, hce, hO⟩ := X0.ctorThrowS ha.1 htr (own := "KeyToken") (cls := X) (names := kt_chain) (ic := ic) hown hfit (by decide) hall (fun x hx => by cases hx) (a := H.size) (cX := cC) (kX := kC) h1 h2 (by rw [hT]; simp) hHs (msg := .ref qs) rfl (g := F0 m (pc + 6) ls [.ref qs, .ref H.size, .ref H.size]) rfl (hl.2.1.trans ha.2.2.1.symm) rfl rfl (rest := []) rfl (by rw [hb]; exact hd6) (by rw [hb]; exact hd9) hex (by show 2 + 3 < lev; omega) (by show 2 * 0 + 1 + (13 * (2 + 1) + 42) ≤ 80 * lev; omega) (hlocks := ha.2.2.2.2.1.1)
  refine ⟨U, hst, .threw H.size, hrun, hend, ⟨?_, ?_, ?_⟩, [], ⟨hW, hsame.weaken (fun _ h _ => h) ?_ ?_⟩, fun q hq => by cases hq⟩
  · show kt_end mc as (some (.ref (1000 + n))) _ s U
    have hx : kt_isX (some (.ref (1000 + n))) = some n := by simp [kt_isX]
    unfold kt_end
    rw [hx]
    exact ⟨by omega, H.size, rfl, hHs, ce, X, hX, hce, hO.vm, hO.cls⟩
  · refine va_P.kept hP (fun k q hk => ?_)
    obtain ⟨q1, q2⟩ := kt_w_inv hk
    obtain ⟨p1, -⟩ := ha.2.2.2.2.1.2.2 k q1
    rw [q2]
    have e1 : H[as k]? = s.heap[as k]? := hS.2.1 _ p1 (fun z => by cases z.1)
    rw [e1, Array.getElem?_eq_getElem p1]
    exact kt_same hsame _ _ (Array.getElem?_eq_getElem p1)
  · refine ⟨hsame.2.1, fun q h1 _ => ?_⟩
    rw [Array.getElem?_eq_getElem h1]
    exact kt_same hsame _ _ (Array.getElem?_eq_getElem h1)
  · show 0 + 1 ≤ mc
    omega
  · show 0 + 6 ≤ ms
    omega
set_option maxHeartbeats 4000000 in
theorem sd_throwX {n ix ic icl isx k : Nat} {X tx : String} {rx : ByteArray} (x0 : decode rx 0 = .ok (.aload_n 0, 1)) (x1 : decode rx 1 = .ok (.aload_n 1, 1)) (x2 : decode rx 2 = .ok (.invokespecial ix, 3)) (x5 : decode rx 5 = .ok (.return_, 1)) (hf : l.flags = pinnedFlags ++ [noTraceFlag]) (hX : kt_exs[n]? = some X) (hfit : Bundle.fit X = true) (hown0 : own = "KeyToken") (hmc : 1 ≤ mc) (hms : 6 ≤ ms) (hlev : 6 ≤ lev)
    (hd0 : decode cc pc = .ok (.new icl, 3)) (hd3 : decode cc (pc + 3) = .ok (.dup, 1)) (hd4 : decode cc (pc + 4) = .ok (.ldc isx, 2)) (hd6 : decode cc (pc + 6) = .ok (.invokespecial ic, 3)) (hd9 : decode cc (pc + 9) = .ok (.athrow, 1))
    (hcl : Cond.classLink own icl X ∈ kt_G) (hin : Cond.instantiable X 6 ∈ kt_G) (hini : Cond.initialized X ∈ kt_G) (hstr : kt_strs[k]? = some (isx, tx)) (hat : ∀ a ∈ kt_atX own ic X ix rx "java/lang/RuntimeException" ["java/lang/Exception"], kt_tw a) :
    kt_Snd l sh cc nL own ret lev mc ms true false pc (ki_throw n) := by
  intro p e s m args below meth c D cA as ha H locs ls L st σ r σ' h hl hP hS
  unfold ki_throw at h
  split at h
  case h_2 => cases h
  cases h
  have hts := ha.2.2.2.2.2.1
  have hown := ha.2.2.2.2.2.2.1
  have hK := ha.2.2.2.2.2.2.2
  obtain ⟨-, hNw, hinj, -, hstrs, hT1, hT2⟩ := hK
  obtain ⟨qs, hR⟩ := hstrs k _ hstr
  have hlocs : locs = [] := by
    cases locs with
    | nil => rfl
    | cons a t => exact absurd (hS.2.2 a List.mem_cons_self).1 (by decide)
  subst hlocs
  have hb : c.code = cc := ha.2.1
  refine W.newc ha.1 hb hown (hts _ hcl) (hts _ hin) (hts _ hini) (g := F0 m pc ls []) rfl hd0 (by show 0 + 1 ≤ mc; omega) (by show 0 + 6 ≤ ms; omega) (fun cC kC h1 h2 h3 h4 => ?_)
  have hHs : s.heap.size ≤ H.size := hS.1
  refine lv_dup (va := .ref H.size) (rest := []) (pc := pc + 3) ha.1 hb hd3 rfl ?_
  rw [hown0] at hown
  refine va_ldcS (own := "KeyToken") (pc := pc + 4) ha.1 hb hown hR hd4 ?_
  intro T hT X0
  have htr : e.platform.stackTraces = false := Launch.traces_off hf X0.admits
  have hall : ∀ a ∈ kt_atX "KeyToken" ic X ix rx "java/lang/RuntimeException" ["java/lang/Exception"], a.before args s = true := by
    intro a haa
    rw [hown0] at hat
    rcases hat a haa with h | h | h | h | h | h
    · exact hts a h
    · exact va_Nw.use (kt_nest_tab (kt_N_nest a h)) (hNw a h)
    · rw [h]; exact hT1.lays
    · rw [h]; exact hT2.lays
    · rw [h]; exact hT1.isRef
    · rw [h]; exact hT2.isRef
  have hex : ∀ x ∈ c.exceptionTable.toList, covers x (pc + 6 + 3) = false := by
    intro x hx
    have h0 : c.exceptionTable = #[] := by simpa using ha.2.2.2.2.1.2.1
    rw [h0] at hx
    cases hx
  obtain ⟨U, hst, hrun, hend, hW, hsame, ce, hce, hv, hc⟩ := kt_ctorX X0 ha.1 htr x0 x1 x2 x5 (own := "KeyToken") (cls := X) (Y0 := "java/lang/RuntimeException") (r0 := ["java/lang/Exception"]) (ic := ic) hown hfit (by decide) (by decide) hall (fun x hx => by cases hx) (a := H.size) (cX := cC) (kX := kC) h1 h2 (by rw [hT]; simp) hHs (msg := .ref qs) rfl (g := F0 m (pc + 6) ls [.ref qs, .ref H.size, .ref H.size]) rfl (hl.2.1.trans ha.2.2.1.symm) rfl rfl (rest := []) rfl (by rw [hb]; exact hd6) (by rw [hb]; exact hd9) hex (by show 2 + 3 < lev; omega) (by show 2 * 0 + 1 + (13 * (2 + 1) + 42) ≤ 80 * lev; omega) (hlocks := ha.2.2.2.2.1.1)
  refine ⟨U, hst, .threw H.size, hrun, hend, ⟨?_, ?_, ?_⟩, [], ⟨hW, hsame.weaken (fun _ h _ => h) ?_ ?_⟩, fun q hq => by cases hq⟩
  · show kt_end mc as (some (.ref (1000 + n))) _ s U
    have hx : kt_isX (some (.ref (1000 + n))) = some n := by simp [kt_isX]
    unfold kt_end
    rw [hx]
    exact ⟨by omega, H.size, rfl, hHs, ce, X, hX, hce, hv, hc⟩
  · refine va_P.kept hP (fun k q hk => ?_)
    obtain ⟨q1, q2⟩ := kt_w_inv hk
    obtain ⟨p1, -⟩ := ha.2.2.2.2.1.2.2 k q1
    rw [q2]
    have e1 : H[as k]? = s.heap[as k]? := hS.2.1 _ p1 (fun z => by cases z.1)
    rw [e1, Array.getElem?_eq_getElem p1]
    exact kt_same hsame _ _ (Array.getElem?_eq_getElem p1)
  · refine ⟨hsame.2.1, fun q h1 _ => ?_⟩
    rw [Array.getElem?_eq_getElem h1]
    exact kt_same hsame _ _ (Array.getElem?_eq_getElem h1)
  · show 0 + 1 ≤ mc
    omega
  · show 0 + 6 ≤ ms
    omega
end KTT
