/-! What the Statement gives of the start. -/
def ka_E : Jvm.Cond := Jvm.Cond.and given_1 narrow_1
theorem ka_out {s : State} : ∀ a : Nat, a < s.heap.size → ¬ kl_A0 s a := fun a h z => absurd h (Nat.not_lt.mpr z)
theorem ka_arr {s : State} {args : Array Value} {ty : FieldType} (h : (Cond.arrayClass ty).before args s = true) : ∃ cA : ClassId, ArrOfT s cA ty ∧ s.vm.findClass ("[" ++ ty.toString) = some cA := by
  obtain ⟨c, k, comp, h1, h2, h3⟩ := Cond.arrayClass_spec h
  exact ⟨c, fun n z => ⟨(fun k h => by cases h), k, h2, comp, h3⟩, h1⟩
theorem ka_arrO {s : State} {args : Array Value} {C : String} (h : (Cond.arrayOver (.object C)).before args s = true) : ∃ cA : ClassId, ArrOfT s cA (.object C) ∧ va_RA s cA (.object C) := by
  obtain ⟨comp, c, k, h1, -, h2, h3, h4⟩ := Cond.arrayOver_spec h
  exact ⟨c, fun n z => ⟨(fun k h => by cases h), k, h2, comp, h3⟩, k, comp, h2, h3, h1, h4⟩
theorem ka_K {s : State} {args : Array Value} (hts : ∀ w ∈ kl_G, w.before args s = true) (hAO : (Cond.arrayOver (.object RX1)).before args s = true) : ∃ (D : va_G) (cA : Nat → ClassId), va_K D vwCl (kt_tys cA) s := by
  obtain ⟨c0, i0, h0⟩ := u_known (n := 3) hts (fun w h => kl_G_r (kt_hin0 w h)) (hts (.instantiable RX0 3) (kl_G_I (kt_GI_l (by decide +kernel))))
  obtain ⟨c1, i1, h1⟩ := u_known (n := 7) hts (fun w h => kl_G_r (kt_hin1 w h)) (hts (.instantiable RX1 7) (kl_G_I (kt_GI_l (by decide +kernel))))
  obtain ⟨c2, i2, h2⟩ := u_known (n := 7) hts (fun w h => kl_G_r (kt_hin2 w h)) (hts (.instantiable RX2 7) (kl_G_I (kt_GI_l (by decide +kernel))))
  obtain ⟨c3, i3, h3⟩ := u_known (n := 2) hts (fun w h => kl_G_r (kt_hin3 w h)) (hts (.instantiable RX3 2) (kl_G_I (kt_GI_l (by decide +kernel))))
  obtain ⟨c4, i4, h4⟩ := u_known (n := 3) hts (fun w h => kl_G_r (kt_hin4 w h)) (hts (.instantiable RX4 3) (kl_G_I (kt_GI_l (by decide +kernel))))
  obtain ⟨c5, i5, h5⟩ := u_known (n := 15) hts (fun w h => kl_G_r (kt_hin5 w h)) (hts (.instantiable RX5 15) (kl_G_I (kt_GI_l (by decide +kernel))))
  obtain ⟨c6, i6, h6⟩ := u_known (n := 3) hts (fun w h => kl_G_r (kt_hin6 w h)) (hts (.instantiable RX6 3) (kl_G_I (kt_GI_l (by decide +kernel))))
  obtain ⟨c7, i7, h7⟩ := u_known (n := 40) hts (fun w h => kl_G_r (kt_hin7 w h)) (hts (.instantiable RX7 40) (kl_G_I (kt_GI_l (by decide +kernel))))
  obtain ⟨a0, p0, q0⟩ := ka_arr (hts (.arrayClass .int) (kl_G_I (kt_GI_l (by decide +kernel))))
  obtain ⟨a1, p1, q1⟩ := ka_arr (hts (.arrayClass .boolean) (kl_G_I (kt_GI_l (by decide +kernel))))
  obtain ⟨a2, p2, q2⟩ := ka_arrO hAO
  refine ⟨(fun c => if c = 0 then c0 else if c = 1 then c1 else if c = 2 then c2 else if c = 3 then c3 else if c = 4 then c4 else if c = 5 then c5 else if c = 6 then c6 else c7, fun c => if c = 0 then i0 else if c = 1 then i1 else if c = 2 then i2 else if c = 3 then i3 else if c = 4 then i4 else if c = 5 then i5 else if c = 6 then i6 else i7), fun c => if c = 0 then a0 else if c = 1 then a1 else a2, fun c q hq => ?_, fun k q hk => ?_⟩
  · have hlt : c < 8 := (List.getElem?_eq_some_iff.mp hq).1
    rcases (by omega : c = 0 ∨ c = 1 ∨ c = 2 ∨ c = 3 ∨ c = 4 ∨ c = 5 ∨ c = 6 ∨ c = 7) with rfl | rfl | rfl | rfl | rfl | rfl | rfl | rfl
    · cases hq; exact h0
    · cases hq; exact h1
    · cases hq; exact h2
    · cases hq; exact h3
    · cases hq; exact h4
    · cases hq; exact h5
    · cases hq; exact h6
    · cases hq; exact h7
  · have hlt : k < 3 := (List.getElem?_eq_some_iff.mp hk).1
    rcases (by omega : k = 0 ∨ k = 1 ∨ k = 2) with rfl | rfl | rfl
    · cases hk; exact ⟨p0, q0⟩
    · cases hk; exact ⟨p1, q1⟩
    · cases hk; exact ⟨p2, q2⟩
theorem ka_st {s : State} {args : Array Value} {n : String} {ys : List Int32} (hN : ys.length < 2 ^ 31) (hl : (Cond.laysStatic "KeyToken$Request" n "[I").before args s = true) (hini : (Cond.initialized "KeyToken$Request").before args s = true) (harr : (Cond.arrayOf (.static "KeyToken$Request" n "[I") .int).before args s = true) (hlen : (Cond.eq (.length (.static "KeyToken$Request" n "[I")) (.int (Int32.ofNat ys.length))).before args s = true) (hel : ∀ j : Nat, j < ys.length → (Cond.eq (.elem (.static "KeyToken$Request" n "[I") (.int (Int32.ofNat j))) (.int (ys.getD j 0))).before args s = true) :
    ∃ t : Nat, va_Z "KeyToken$Request" n "[I" (.ref t) (kl_A0 s) s s.heap ∧ va_T .int t ys.length (fun j => .int (ys.getD j 0)) (kl_A0 s) s s.heap := by
  obtain ⟨t, h1, h2⟩ := va_Tof (A := kl_A0 s) (f := fun j => .int (ys.getD j 0)) hN harr (va_eqt hlen) (fun j hj => va_eqt (hel j hj)) ka_out
  exact ⟨t, va_Zref hl hini h1 ka_out, h2⟩
theorem ka_th {s : State} {args : Array Value} {n d : String} (hl : (Cond.laysStatic "java/lang/Throwable" n d).before args s = true) (hr : (Cond.isRef (.static "java/lang/Throwable" n d)).before args s = true) : kt_Th n d (kl_A0 s) s := by
  obtain ⟨c, k, i, f, a, cell, h1, h2, h3, h4, h5, h6, h7, h8, h9⟩ := Cond.laysStatic_spec hl
  cases hv : (Term.static "java/lang/Throwable" n d).eval args s none [] s with
  | none => simp [Cond.before, Cond.holds, Cond.value, hv] at hr
  | some w =>
    obtain ⟨-, a', cell', e1, e2, -, e3⟩ := Term.static_spec h2 hv
    cases h4.symm.trans e1
    cases h5.symm.trans e2
    refine ⟨c, k, i, f, a, cell, w, h1, h2, h3, h4, h9, h5, h6, h7, e3, ?_, ka_out a (Array.getElem?_eq_some_iff.mp h5).1⟩
    simp only [Cond.before, Cond.holds, Cond.value, hv] at hr
    cases w <;> first | rfl | simp at hr
theorem ka_str {s : State} {args : Array Value} {k : Nat} {tx : String} (h1 : (Cond.stringRef "KeyToken" k tx).before args s = true) (h2 : (Cond.exactly (.string "KeyToken" k) "java/lang/String").before args s = true) : ∃ a, vk_R "KeyToken" k tx a s := by
  obtain ⟨a, _, _, _, h3, -⟩ := Cond.exactly_spec h2
  exact ⟨a, vk_R.of h1 h3⟩
theorem ka_ex {s : State} {args : Array Value} {A B : String} (h : (Cond.not (Cond.castable A B)).before args s = true) : ∀ a b, s.vm.findClass A = some a → s.vm.findClass B = some b → s.vm.assignable a b = false := by
  intro a b ha hb
  simp only [Cond.before, Cond.holds, Cond.value, ha, hb] at h
  simpa using h
section KA
variable {s : State} {args : Array Value}
theorem ka_exc (hs : ∀ c ∈ flatC ka_E, c.before args s = true) : kl_Exc s := by
  intro i j A B hA hB hij
  have hi : i < 4 := (List.getElem?_eq_some_iff.mp hA).1
  have hj : j < 4 := (List.getElem?_eq_some_iff.mp hB).1
  rcases (by omega : i = 0 ∨ i = 1 ∨ i = 2 ∨ i = 3) with rfl | rfl | rfl | rfl <;> rcases (by omega : j = 0 ∨ j = 1 ∨ j = 2 ∨ j = 3) with rfl | rfl | rfl | rfl <;> cases hA <;> cases hB
  · exact absurd rfl hij
  · exact ka_ex (hs (.not (.castable "java/lang/IllegalStateException" "java/lang/IllegalArgumentException")) (by decide +kernel))
  · exact ka_ex (hs (.not (.castable "java/lang/IllegalStateException" "java/util/NoSuchElementException")) (by decide +kernel))
  · exact ka_ex (hs (.not (.castable "java/lang/IllegalStateException" "java/lang/IndexOutOfBoundsException")) (by decide +kernel))
  · exact ka_ex (hs (.not (.castable "java/lang/IllegalArgumentException" "java/lang/IllegalStateException")) (by decide +kernel))
  · exact absurd rfl hij
  · exact ka_ex (hs (.not (.castable "java/lang/IllegalArgumentException" "java/util/NoSuchElementException")) (by decide +kernel))
  · exact ka_ex (hs (.not (.castable "java/lang/IllegalArgumentException" "java/lang/IndexOutOfBoundsException")) (by decide +kernel))
  · exact ka_ex (hs (.not (.castable "java/util/NoSuchElementException" "java/lang/IllegalStateException")) (by decide +kernel))
  · exact ka_ex (hs (.not (.castable "java/util/NoSuchElementException" "java/lang/IllegalArgumentException")) (by decide +kernel))
  · exact absurd rfl hij
  · exact ka_ex (hs (.not (.castable "java/util/NoSuchElementException" "java/lang/IndexOutOfBoundsException")) (by decide +kernel))
  · exact ka_ex (hs (.not (.castable "java/lang/IndexOutOfBoundsException" "java/lang/IllegalStateException")) (by decide +kernel))
  · exact ka_ex (hs (.not (.castable "java/lang/IndexOutOfBoundsException" "java/lang/IllegalArgumentException")) (by decide +kernel))
  · exact ka_ex (hs (.not (.castable "java/lang/IndexOutOfBoundsException" "java/util/NoSuchElementException")) (by decide +kernel))
  · exact absurd rfl hij
theorem ka_strs (hs : ∀ c ∈ flatC ka_E, c.before args s = true) (ht : ∀ w ∈ lw_tbl, w.before args s = true) : ∀ (k : Nat) (q : Nat × String), kt_strs[k]? = some q → ∃ a, vk_R "KeyToken" q.1 q.2 a s := by
  intro k q hk
  have hlt : k < 10 := (List.getElem?_eq_some_iff.mp hk).1
  rcases (by omega : k = 0 ∨ k = 1 ∨ k = 2 ∨ k = 3 ∨ k = 4 ∨ k = 5 ∨ k = 6 ∨ k = 7 ∨ k = 8 ∨ k = 9) with rfl | rfl | rfl | rfl | rfl | rfl | rfl | rfl | rfl | rfl
  · cases hk; exact ka_str (ht (.stringRef "KeyToken" 34 "no power") (List.mem_of_getElem? (i := 443) (by decide +kernel))) (hs (.exactly (.string "KeyToken" 34) "java/lang/String") (by decide +kernel))
  · cases hk; exact ka_str (ht (.stringRef "KeyToken" 57 "not 1 to 8 bytes, or no room") (List.mem_of_getElem? (i := 483) (by decide +kernel))) (hs (.exactly (.string "KeyToken" 57) "java/lang/String") (by decide +kernel))
  · cases hk; exact ka_str (ht (.stringRef "KeyToken" 74 "no output is left") (List.mem_of_getElem? (i := 752) (by decide +kernel))) (hs (.exactly (.string "KeyToken" 74) "java/lang/String") (by decide +kernel))
  · cases hk; exact ka_str (ht (.stringRef "KeyToken" 102 "no such party or user") (List.mem_of_getElem? (i := 780) (by decide +kernel))) (hs (.exactly (.string "KeyToken" 102) "java/lang/String") (by decide +kernel))
  · cases hk; exact ka_str (ht (.stringRef "KeyToken" 114 "no such party or origin") (List.mem_of_getElem? (i := 794) (by decide +kernel))) (hs (.exactly (.string "KeyToken" 114) "java/lang/String") (by decide +kernel))
  · cases hk; exact ka_str (ht (.stringRef "KeyToken" 116 "no power or no open challenge") (List.mem_of_getElem? (i := 795) (by decide +kernel))) (hs (.exactly (.string "KeyToken" 116) "java/lang/String") (by decide +kernel))
  · cases hk; exact ka_str (ht (.stringRef "KeyToken" 142 "no such party or field") (List.mem_of_getElem? (i := 847) (by decide +kernel))) (hs (.exactly (.string "KeyToken" 142) "java/lang/String") (by decide +kernel))
  · cases hk; exact ka_str (ht (.stringRef "KeyToken" 148 "no such signature") (List.mem_of_getElem? (i := 849) (by decide +kernel))) (hs (.exactly (.string "KeyToken" 148) "java/lang/String") (by decide +kernel))
  · cases hk; exact ka_str (ht (.stringRef "KeyToken" 150 "no challenge is open") (List.mem_of_getElem? (i := 850) (by decide +kernel))) (hs (.exactly (.string "KeyToken" 150) "java/lang/String") (by decide +kernel))
  · cases hk; exact ka_str (ht (.stringRef "KeyToken" 152 "no such signature or field") (List.mem_of_getElem? (i := 858) (by decide +kernel))) (hs (.exactly (.string "KeyToken" 152) "java/lang/String") (by decide +kernel))
theorem ka_st0 (hs : ∀ c ∈ flatC ka_E, c.before args s = true) (ht : ∀ w ∈ lw_tbl, w.before args s = true) : ∃ t : Nat, va_Z "KeyToken$Request" "MAKE_KINDS" "[I" (.ref t) (kl_A0 s) s s.heap ∧ va_T .int t ([-1, 0, 3, 0, -1, 4, -1, -1, 0] : List Int32).length (fun j => .int (([-1, 0, 3, 0, -1, 4, -1, -1, 0] : List Int32).getD j 0)) (kl_A0 s) s s.heap := by
  refine ka_st (by decide) (ht (.laysStatic "KeyToken$Request" "MAKE_KINDS" "[I") (List.mem_of_getElem? (i := 612) (by decide +kernel))) (ht (.initialized "KeyToken$Request") (List.mem_of_getElem? (i := 93) (by decide +kernel))) (hs (.arrayOf (.static "KeyToken$Request" "MAKE_KINDS" "[I") .int) (by decide +kernel)) (hs (.eq (.length (.static "KeyToken$Request" "MAKE_KINDS" "[I")) (.int 9)) (by decide +kernel)) (fun j hj => ?_)
  have hj : j < 9 := hj
  rcases (by omega : j = 0 ∨ j = 1 ∨ j = 2 ∨ j = 3 ∨ j = 4 ∨ j = 5 ∨ j = 6 ∨ j = 7 ∨ j = 8) with rfl | rfl | rfl | rfl | rfl | rfl | rfl | rfl | rfl
  · exact hs (.eq (.elem (.static "KeyToken$Request" "MAKE_KINDS" "[I") (.int 0)) (.int (-1))) (by decide +kernel)
  · exact hs (.eq (.elem (.static "KeyToken$Request" "MAKE_KINDS" "[I") (.int 1)) (.int 0)) (by decide +kernel)
  · exact hs (.eq (.elem (.static "KeyToken$Request" "MAKE_KINDS" "[I") (.int 2)) (.int 3)) (by decide +kernel)
  · exact hs (.eq (.elem (.static "KeyToken$Request" "MAKE_KINDS" "[I") (.int 3)) (.int 0)) (by decide +kernel)
  · exact hs (.eq (.elem (.static "KeyToken$Request" "MAKE_KINDS" "[I") (.int 4)) (.int (-1))) (by decide +kernel)
  · exact hs (.eq (.elem (.static "KeyToken$Request" "MAKE_KINDS" "[I") (.int 5)) (.int 4)) (by decide +kernel)
  · exact hs (.eq (.elem (.static "KeyToken$Request" "MAKE_KINDS" "[I") (.int 6)) (.int (-1))) (by decide +kernel)
  · exact hs (.eq (.elem (.static "KeyToken$Request" "MAKE_KINDS" "[I") (.int 7)) (.int (-1))) (by decide +kernel)
  · exact hs (.eq (.elem (.static "KeyToken$Request" "MAKE_KINDS" "[I") (.int 8)) (.int 0)) (by decide +kernel)
theorem ka_st1 (hs : ∀ c ∈ flatC ka_E, c.before args s = true) (ht : ∀ w ∈ lw_tbl, w.before args s = true) : ∃ t : Nat, va_Z "KeyToken$Request" "MAKE_WANTED" "[I" (.ref t) (kl_A0 s) s s.heap ∧ va_T .int t ([1, 2, 3] : List Int32).length (fun j => .int (([1, 2, 3] : List Int32).getD j 0)) (kl_A0 s) s s.heap := by
  refine ka_st (by decide) (ht (.laysStatic "KeyToken$Request" "MAKE_WANTED" "[I") (List.mem_of_getElem? (i := 614) (by decide +kernel))) (ht (.initialized "KeyToken$Request") (List.mem_of_getElem? (i := 93) (by decide +kernel))) (hs (.arrayOf (.static "KeyToken$Request" "MAKE_WANTED" "[I") .int) (by decide +kernel)) (hs (.eq (.length (.static "KeyToken$Request" "MAKE_WANTED" "[I")) (.int 3)) (by decide +kernel)) (fun j hj => ?_)
  have hj : j < 3 := hj
  rcases (by omega : j = 0 ∨ j = 1 ∨ j = 2) with rfl | rfl | rfl
  · exact hs (.eq (.elem (.static "KeyToken$Request" "MAKE_WANTED" "[I") (.int 0)) (.int 1)) (by decide +kernel)
  · exact hs (.eq (.elem (.static "KeyToken$Request" "MAKE_WANTED" "[I") (.int 1)) (.int 2)) (by decide +kernel)
  · exact hs (.eq (.elem (.static "KeyToken$Request" "MAKE_WANTED" "[I") (.int 2)) (.int 3)) (by decide +kernel)
theorem ka_st2 (hs : ∀ c ∈ flatC ka_E, c.before args s = true) (ht : ∀ w ∈ lw_tbl, w.before args s = true) : ∃ t : Nat, va_Z "KeyToken$Request" "ASSERT_KINDS" "[I" (.ref t) (kl_A0 s) s s.heap ∧ va_T .int t ([-1, 3, 0, 4, -1, -1, 0] : List Int32).length (fun j => .int (([-1, 3, 0, 4, -1, -1, 0] : List Int32).getD j 0)) (kl_A0 s) s s.heap := by
  refine ka_st (by decide) (ht (.laysStatic "KeyToken$Request" "ASSERT_KINDS" "[I") (List.mem_of_getElem? (i := 683) (by decide +kernel))) (ht (.initialized "KeyToken$Request") (List.mem_of_getElem? (i := 93) (by decide +kernel))) (hs (.arrayOf (.static "KeyToken$Request" "ASSERT_KINDS" "[I") .int) (by decide +kernel)) (hs (.eq (.length (.static "KeyToken$Request" "ASSERT_KINDS" "[I")) (.int 7)) (by decide +kernel)) (fun j hj => ?_)
  have hj : j < 7 := hj
  rcases (by omega : j = 0 ∨ j = 1 ∨ j = 2 ∨ j = 3 ∨ j = 4 ∨ j = 5 ∨ j = 6) with rfl | rfl | rfl | rfl | rfl | rfl | rfl
  · exact hs (.eq (.elem (.static "KeyToken$Request" "ASSERT_KINDS" "[I") (.int 0)) (.int (-1))) (by decide +kernel)
  · exact hs (.eq (.elem (.static "KeyToken$Request" "ASSERT_KINDS" "[I") (.int 1)) (.int 3)) (by decide +kernel)
  · exact hs (.eq (.elem (.static "KeyToken$Request" "ASSERT_KINDS" "[I") (.int 2)) (.int 0)) (by decide +kernel)
  · exact hs (.eq (.elem (.static "KeyToken$Request" "ASSERT_KINDS" "[I") (.int 3)) (.int 4)) (by decide +kernel)
  · exact hs (.eq (.elem (.static "KeyToken$Request" "ASSERT_KINDS" "[I") (.int 4)) (.int (-1))) (by decide +kernel)
  · exact hs (.eq (.elem (.static "KeyToken$Request" "ASSERT_KINDS" "[I") (.int 5)) (.int (-1))) (by decide +kernel)
  · exact hs (.eq (.elem (.static "KeyToken$Request" "ASSERT_KINDS" "[I") (.int 6)) (.int 0)) (by decide +kernel)
theorem ka_st3 (hs : ∀ c ∈ flatC ka_E, c.before args s = true) (ht : ∀ w ∈ lw_tbl, w.before args s = true) : ∃ t : Nat, va_Z "KeyToken$Request" "ASSERT_WANTED" "[I" (.ref t) (kl_A0 s) s s.heap ∧ va_T .int t ([1, 2] : List Int32).length (fun j => .int (([1, 2] : List Int32).getD j 0)) (kl_A0 s) s s.heap := by
  refine ka_st (by decide) (ht (.laysStatic "KeyToken$Request" "ASSERT_WANTED" "[I") (List.mem_of_getElem? (i := 685) (by decide +kernel))) (ht (.initialized "KeyToken$Request") (List.mem_of_getElem? (i := 93) (by decide +kernel))) (hs (.arrayOf (.static "KeyToken$Request" "ASSERT_WANTED" "[I") .int) (by decide +kernel)) (hs (.eq (.length (.static "KeyToken$Request" "ASSERT_WANTED" "[I")) (.int 2)) (by decide +kernel)) (fun j hj => ?_)
  have hj : j < 2 := hj
  rcases (by omega : j = 0 ∨ j = 1) with rfl | rfl
  · exact hs (.eq (.elem (.static "KeyToken$Request" "ASSERT_WANTED" "[I") (.int 0)) (.int 1)) (by decide +kernel)
  · exact hs (.eq (.elem (.static "KeyToken$Request" "ASSERT_WANTED" "[I") (.int 1)) (.int 2)) (by decide +kernel)
theorem ka_st4 (hs : ∀ c ∈ flatC ka_E, c.before args s = true) (ht : ∀ w ∈ lw_tbl, w.before args s = true) : ∃ t : Nat, va_Z "KeyToken$Request" "PIN_KINDS" "[I" (.ref t) (kl_A0 s) s s.heap ∧ va_T .int t ([-1, 0, 3, 3] : List Int32).length (fun j => .int (([-1, 0, 3, 3] : List Int32).getD j 0)) (kl_A0 s) s s.heap := by
  refine ka_st (by decide) (ht (.laysStatic "KeyToken$Request" "PIN_KINDS" "[I") (List.mem_of_getElem? (i := 706) (by decide +kernel))) (ht (.initialized "KeyToken$Request") (List.mem_of_getElem? (i := 93) (by decide +kernel))) (hs (.arrayOf (.static "KeyToken$Request" "PIN_KINDS" "[I") .int) (by decide +kernel)) (hs (.eq (.length (.static "KeyToken$Request" "PIN_KINDS" "[I")) (.int 4)) (by decide +kernel)) (fun j hj => ?_)
  have hj : j < 4 := hj
  rcases (by omega : j = 0 ∨ j = 1 ∨ j = 2 ∨ j = 3) with rfl | rfl | rfl | rfl
  · exact hs (.eq (.elem (.static "KeyToken$Request" "PIN_KINDS" "[I") (.int 0)) (.int (-1))) (by decide +kernel)
  · exact hs (.eq (.elem (.static "KeyToken$Request" "PIN_KINDS" "[I") (.int 1)) (.int 0)) (by decide +kernel)
  · exact hs (.eq (.elem (.static "KeyToken$Request" "PIN_KINDS" "[I") (.int 2)) (.int 3)) (by decide +kernel)
  · exact hs (.eq (.elem (.static "KeyToken$Request" "PIN_KINDS" "[I") (.int 3)) (.int 3)) (by decide +kernel)
theorem ka_st5 (hs : ∀ c ∈ flatC ka_E, c.before args s = true) (ht : ∀ w ∈ lw_tbl, w.before args s = true) : ∃ t : Nat, va_Z "KeyToken$Request" "PIN_WANTED" "[I" (.ref t) (kl_A0 s) s s.heap ∧ va_T .int t ([1] : List Int32).length (fun j => .int (([1] : List Int32).getD j 0)) (kl_A0 s) s s.heap := by
  refine ka_st (by decide) (ht (.laysStatic "KeyToken$Request" "PIN_WANTED" "[I") (List.mem_of_getElem? (i := 708) (by decide +kernel))) (ht (.initialized "KeyToken$Request") (List.mem_of_getElem? (i := 93) (by decide +kernel))) (hs (.arrayOf (.static "KeyToken$Request" "PIN_WANTED" "[I") .int) (by decide +kernel)) (hs (.eq (.length (.static "KeyToken$Request" "PIN_WANTED" "[I")) (.int 1)) (by decide +kernel)) (fun j hj => ?_)
  have hj : j < 1 := hj
  obtain rfl : j = 0 := by omega
  exact hs (.eq (.elem (.static "KeyToken$Request" "PIN_WANTED" "[I") (.int 0)) (.int 1)) (by decide +kernel)
theorem ka_sts (hs : ∀ c ∈ flatC ka_E, c.before args s = true) (ht : ∀ w ∈ lw_tbl, w.before args s = true) : ∃ sa : Nat → Nat, kl_St0 sa s := by
  obtain ⟨t0, h0⟩ := ka_st0 hs ht
  obtain ⟨t1, h1⟩ := ka_st1 hs ht
  obtain ⟨t2, h2⟩ := ka_st2 hs ht
  obtain ⟨t3, h3⟩ := ka_st3 hs ht
  obtain ⟨t4, h4⟩ := ka_st4 hs ht
  obtain ⟨t5, h5⟩ := ka_st5 hs ht
  refine ⟨fun c => if c = 0 then t0 else if c = 1 then t1 else if c = 2 then t2 else if c = 3 then t3 else if c = 4 then t4 else t5, fun k q hk => ?_⟩
  have hlt : k < 6 := (List.getElem?_eq_some_iff.mp hk).1
  rcases (by omega : k = 0 ∨ k = 1 ∨ k = 2 ∨ k = 3 ∨ k = 4 ∨ k = 5) with rfl | rfl | rfl | rfl | rfl | rfl
  · cases hk; exact h0
  · cases hk; exact h1
  · cases hk; exact h2
  · cases hk; exact h3
  · cases hk; exact h4
  · cases hk; exact h5
theorem ka_TX (hs : ∀ c ∈ flatC ka_E, c.before args s = true) (ht : ∀ w ∈ lw_tbl, w.before args s = true) : kt_X (kl_A0 s) s :=
  ⟨ka_strs hs ht, ka_th (ht (.laysStatic "java/lang/Throwable" "UNASSIGNED_STACK" Bundle.steD) (List.mem_of_getElem? (i := 428) (by decide +kernel))) (hs (.isRef (.static "java/lang/Throwable" "UNASSIGNED_STACK" Bundle.steD)) (by decide +kernel)), ka_th (ht (.laysStatic "java/lang/Throwable" "SUPPRESSED_SENTINEL" Bundle.listD) (List.mem_of_getElem? (i := 430) (by decide +kernel))) (hs (.isRef (.static "java/lang/Throwable" "SUPPRESSED_SENTINEL" Bundle.listD)) (by decide +kernel))⟩
theorem ka_AO (ht : ∀ w ∈ lw_tbl, w.before args s = true) : (Cond.arrayOver (.object RX1)).before args s = true := ht _ (List.mem_of_getElem? (i := 265) (by decide +kernel))
end KA
