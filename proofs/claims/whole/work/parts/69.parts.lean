/-! Constructors of the class's parts. -/
theorem kx_D1 {h0 sz : Nat} {e : va_E} : va_D (va_A [(h0, e)] sz) [(h0, e)] := by
  refine ⟨fun i j p q hp hq _ => ?_, fun k q hk => Or.inl ⟨k, q.2, hk⟩⟩
  have h1 : i < 1 := (List.getElem?_eq_some_iff.mp hp).1
  have h2 : j < 1 := (List.getElem?_eq_some_iff.mp hq).1
  omega
theorem arrV_congr {cI : ClassId} {N : Nat} {f g : Nat → Value} (h : ∀ j, j < N → f j = g j) : arrV cI N f = arrV cI N g := by
  unfold arrV
  congr 1
  congr 1
  funext j
  exact h j.val j.isLt
theorem kx_ints {D : va_G} {cI : ClassId} {n a : Nat} {f g : Nat → Int32} {H : Heap} (h : ∀ j, j < n → f j = g j) (hf : va_at D vwCl (a, .inl (cI, n, .inl f)) H) : va_at D vwCl (a, .inl (cI, n, .inl g)) H := by
  have h1 : H[a]? = some (arrV cI n (fun j => .int (f j))) := hf
  have h2 : arrV cI n (fun j => .int (f j)) = arrV cI n (fun j => Value.int (g j)) := arrV_congr (fun j hj => by rw [h j hj])
  show H[a]? = some (arrV cI n (fun j => .int (g j)))
  rw [← h2]
  exact h1
theorem dk_B_init_0 : decode kb_B_init 0 = .ok (.aload_n 0, 1) := by decide +kernel
theorem dk_B_init_1 : decode kb_B_init 1 = .ok (.invokespecial 3, 3) := by decide +kernel
theorem dk_B_init_4 : decode kb_B_init 4 = .ok (.aload_n 0, 1) := by decide +kernel
theorem dk_B_init_5 : decode kb_B_init 5 = .ok (.iload_n 1, 1) := by decide +kernel
theorem dk_B_init_6 : decode kb_B_init 6 = .ok (.newarray .int, 2) := by decide +kernel
theorem dk_B_init_8 : decode kb_B_init 8 = .ok (.putfield 9, 3) := by decide +kernel
theorem dk_B_init_11 : decode kb_B_init 11 = .ok (.return_, 1) := by decide +kernel
set_option maxRecDepth 100000 in
set_option maxHeartbeats 4000000 in
theorem kc_B_init (l : Launch) (n : Nat) (hn : n ≤ 1000) : kx_C l ky_B_init kb_B_init 2 1 1 n 0 [.int (nI n)] [.null, .int 0, .int 0] (fun h0 u cA => [(h0, .inr (0, [.ref (u 1), .int 0, .int 0])), ((u 1), .inl (cA 0, n, .inl (fun _ => 0)))]) := by
  intro D cA h0 sz
  refine Met.ofW (cc := kb_B_init) (maxL := 2) (ret := none) (by decide) rfl ?_
  intro p e s m args below meth c s₁ B hml hv
  obtain ⟨rfl, hsz, hP, hK, hX⟩ := hv
  have hx := B.exec
  have hb := B.bytes
  have hr := B.returns
  have hts0 := atoms_spec (ws := Cond.code ky_B_init kb_B_init 2 none :: kt_GI) B.pre
  have hts := fun w (h : w ∈ kt_GI) => hts0 w (List.mem_cons_of_mem _ h)
  have hown : s.vm.findClass RX0 = some m.cls := findClass_of_methodNamed B.named
  have hlocks := B.notSynchronized
  have hin : meth.name = "<init>" := (name_of_methodNamed B.named B.method).1
  subst hsz
  have hD := kx_D1 (h0 := h0) (e := .inr (0, [.null, .int 0, .int 0])) (sz := s.heap.size)
  generalize hAe : va_A [(h0, .inr (0, [.null, .int 0, .int 0]))] s.heap.size = A at hD ⊢
  have hA : ∀ q : Nat, s.heap.size ≤ q → A q := fun q h => by rw [← hAe]; exact Or.inr h
  have hS : va_S A s.heap s.heap [] := va_S.rf
  have hl := lv_entry ([.ref h0, .int (nI n)]) (n := 2) (Nat.le_of_ble_eq_true rfl)
  rw [lg_entry_eq]
  generalize (lg_sl ([.ref h0, .int (nI n)]) ++ List.replicate (2 - (lg_sl ([.ref h0, .int (nI n)])).length) Slot.unset).toArray = ls at hl ⊢
  have hl : lv_has ls 2 [(0, .ref h0), (1, .int (nI n))] := hl
  refine lv_aload_n hx hb dk_B_init_0 rfl (lv_at hl 0 rfl) ?_
  refine W.objInit hx hb hown (hts (.methodLink RX0 3 objectInit) (kt_GI_l (by decide +kernel))) (hts (.instanceMethod objectInit) (kt_GI_l (by decide +kernel))) (hts _ (kt_GI_l (List.mem_of_getElem? (i := 1) rfl))) rfl (by rw [hml]; exact hl.1) rfl dk_B_init_1 (Nat.le_of_ble_eq_true rfl) (Nat.le_of_ble_eq_true rfl) ?_
  refine W.eq (g2 := F0 m 4 ls []) rfl ?_
  refine lv_aload_n hx hb dk_B_init_4 rfl (lv_at hl 0 rfl) ?_
  refine lv_iload_n hx hb dk_B_init_5 rfl (lv_at hl 1 rfl) ?_
  refine kx_newI hx hb (hts (.arrayClass .int) (kt_GI_l (by decide +kernel))) hK hP hD hS hA (N := n) (kn_nn (by omega)) (kn_cl (by omega)) (by omega) (by show 0 + 1 ≤ 1; omega) (by show 0 + n ≤ n; omega) dk_B_init_6 (fun q1 H hP hD hS => ?_)
  have hP : va_P D vwCl [(h0, .inr (0, [.null, .int 0, .int 0])), (q1, .inl (cA 0, n, .inl (fun _ => 0)))] H := hP
  have hD : va_D A [(h0, .inr (0, [.null, .int 0, .int 0])), (q1, .inl (cA 0, n, .inl (fun _ => 0)))] := hD
  refine va_putF (D := D) (ci := 0) (v := .ref q1) (ty := (.array .int)) (C := RX0) (T := TX0) (N := 3) hx hb hts (fun w h => kt_GI_r (kt_hin0 w h)) tyX0 tyX0_ok nmX0 hown hK hP hD hS 0 rfl rfl 0 (by decide) (hts (.fieldLink RX0 9 "KeyToken$Bytes" "cells" "[I") (kt_GI_l (by decide +kernel))) (fun _ h9 => h9) rfl hin rfl (by decide +kernel) rfl rfl (Nat.le_of_ble_eq_true rfl) dk_B_init_8 (fun H locs hP hD hS => ?_)
  have hP : va_P D vwCl [(h0, .inr (0, [.ref q1, .int 0, .int 0])), (q1, .inl (cA 0, n, .inl (fun _ => 0)))] H := hP
  have hD : va_D A [(h0, .inr (0, [.ref q1, .int 0, .int 0])), (q1, .inl (cA 0, n, .inl (fun _ => 0)))] := hD
  refine W.widen (k := 1) (n := n) (by omega) (by omega) ?_
  exact W.vret hx hb hr (fun t ht hW => ⟨⟨fun k => if k = 1 then q1 else 0, rfl, trivial, by rw [ht]; exact hP, hD⟩, hS.F ht⟩) hS.2.2 dk_B_init_11
theorem kY_B_init : kx_Y ky_B_init kb_B_init 2 1 := ⟨rfl, kt_GI_l (by decide +kernel), kt_GI_l (by decide +kernel), kt_GI_l (by decide +kernel), ⟨by decide +kernel, by decide +kernel⟩, by decide +kernel⟩
theorem dk_P_init_0 : decode kb_P_init 0 = .ok (.aload_n 0, 1) := by decide +kernel
theorem dk_P_init_1 : decode kb_P_init 1 = .ok (.invokespecial 3, 3) := by decide +kernel
theorem dk_P_init_4 : decode kb_P_init 4 = .ok (.aload_n 0, 1) := by decide +kernel
theorem dk_P_init_5 : decode kb_P_init 5 = .ok (.bipush 6, 2) := by decide +kernel
theorem dk_P_init_7 : decode kb_P_init 7 = .ok (.newarray .int, 2) := by decide +kernel
theorem dk_P_init_9 : decode kb_P_init 9 = .ok (.putfield 11, 3) := by decide +kernel
theorem dk_P_init_12 : decode kb_P_init 12 = .ok (.aload_n 0, 1) := by decide +kernel
theorem dk_P_init_13 : decode kb_P_init 13 = .ok (.bipush 6, 2) := by decide +kernel
theorem dk_P_init_15 : decode kb_P_init 15 = .ok (.newarray .int, 2) := by decide +kernel
theorem dk_P_init_17 : decode kb_P_init 17 = .ok (.putfield 15, 3) := by decide +kernel
theorem dk_P_init_20 : decode kb_P_init 20 = .ok (.aload_n 0, 1) := by decide +kernel
theorem dk_P_init_21 : decode kb_P_init 21 = .ok (.bipush 6, 2) := by decide +kernel
theorem dk_P_init_23 : decode kb_P_init 23 = .ok (.newarray .int, 2) := by decide +kernel
theorem dk_P_init_25 : decode kb_P_init 25 = .ok (.putfield 18, 3) := by decide +kernel
theorem dk_P_init_28 : decode kb_P_init 28 = .ok (.aload_n 0, 1) := by decide +kernel
theorem dk_P_init_29 : decode kb_P_init 29 = .ok (.iload_n 1, 1) := by decide +kernel
theorem dk_P_init_30 : decode kb_P_init 30 = .ok (.putfield 21, 3) := by decide +kernel
theorem dk_P_init_33 : decode kb_P_init 33 = .ok (.return_, 1) := by decide +kernel
set_option maxRecDepth 100000 in
set_option maxHeartbeats 4000000 in
theorem kc_P_init (l : Launch) (v : Int32) : kx_C l ky_P_init kb_P_init 2 1 3 18 1 [.int v] [.int 0, .null, .null, .null, .int 0, .int 0, .int 0] (fun h0 u cA => [(h0, .inr (1, [.int v, .ref (u 1), .ref (u 2), .ref (u 3), .int 0, .int 0, .int 0])), ((u 1), .inl (cA 0, 6, .inl (fun _ => 0))), ((u 2), .inl (cA 0, 6, .inl (fun _ => 0))), ((u 3), .inl (cA 0, 6, .inl (fun _ => 0)))]) := by
  intro D cA h0 sz
  refine Met.ofW (cc := kb_P_init) (maxL := 2) (ret := none) (by decide) rfl ?_
  intro p e s m args below meth c s₁ B hml hv
  obtain ⟨rfl, hsz, hP, hK, hX⟩ := hv
  have hx := B.exec
  have hb := B.bytes
  have hr := B.returns
  have hts0 := atoms_spec (ws := Cond.code ky_P_init kb_P_init 2 none :: kt_GI) B.pre
  have hts := fun w (h : w ∈ kt_GI) => hts0 w (List.mem_cons_of_mem _ h)
  have hown : s.vm.findClass RX1 = some m.cls := findClass_of_methodNamed B.named
  have hlocks := B.notSynchronized
  have hin : meth.name = "<init>" := (name_of_methodNamed B.named B.method).1
  subst hsz
  have hD := kx_D1 (h0 := h0) (e := .inr (1, [.int 0, .null, .null, .null, .int 0, .int 0, .int 0])) (sz := s.heap.size)
  generalize hAe : va_A [(h0, .inr (1, [.int 0, .null, .null, .null, .int 0, .int 0, .int 0]))] s.heap.size = A at hD ⊢
  have hA : ∀ q : Nat, s.heap.size ≤ q → A q := fun q h => by rw [← hAe]; exact Or.inr h
  have hS : va_S A s.heap s.heap [] := va_S.rf
  have hl := lv_entry ([.ref h0, .int v]) (n := 2) (Nat.le_of_ble_eq_true rfl)
  rw [lg_entry_eq]
  generalize (lg_sl ([.ref h0, .int v]) ++ List.replicate (2 - (lg_sl ([.ref h0, .int v])).length) Slot.unset).toArray = ls at hl ⊢
  have hl : lv_has ls 2 [(0, .ref h0), (1, .int v)] := hl
  refine lv_aload_n hx hb dk_P_init_0 rfl (lv_at hl 0 rfl) ?_
  refine W.objInit hx hb hown (hts (.methodLink RX1 3 objectInit) (kt_GI_l (by decide +kernel))) (hts (.instanceMethod objectInit) (kt_GI_l (by decide +kernel))) (hts _ (kt_GI_l (List.mem_of_getElem? (i := 1) rfl))) rfl (by rw [hml]; exact hl.1) rfl dk_P_init_1 (Nat.le_of_ble_eq_true rfl) (Nat.le_of_ble_eq_true rfl) ?_
  refine W.eq (g2 := F0 m 4 ls []) rfl ?_
  refine lv_aload_n hx hb dk_P_init_4 rfl (lv_at hl 0 rfl) ?_
  refine lv_bipush (v := (nI 6)) hx hb dk_P_init_5 (by decide) ?_
  refine kx_newI hx hb (hts (.arrayClass .int) (kt_GI_l (by decide +kernel))) hK hP hD hS hA (N := 6) (kn_nn (by omega)) (kn_cl (by omega)) (by omega) (by show 0 + 1 ≤ 3; omega) (by show 0 + 6 ≤ 18; omega) dk_P_init_7 (fun q1 H hP hD hS => ?_)
  have hP : va_P D vwCl [(h0, .inr (1, [.int 0, .null, .null, .null, .int 0, .int 0, .int 0])), (q1, .inl (cA 0, 6, .inl (fun _ => 0)))] H := hP
  have hD : va_D A [(h0, .inr (1, [.int 0, .null, .null, .null, .int 0, .int 0, .int 0])), (q1, .inl (cA 0, 6, .inl (fun _ => 0)))] := hD
  refine va_putF (D := D) (ci := 1) (v := .ref q1) (ty := (.array .int)) (C := RX1) (T := TX1) (N := 7) hx hb hts (fun w h => kt_GI_r (kt_hin1 w h)) tyX1 tyX1_ok nmX1 hown hK hP hD hS 0 rfl rfl 1 (by decide) (hts (.fieldLink RX1 11 "KeyToken$RelyingParty" "keys" "[I") (kt_GI_l (by decide +kernel))) (fun _ h9 => h9) rfl hin rfl (by decide +kernel) rfl rfl (Nat.le_of_ble_eq_true rfl) dk_P_init_9 (fun H locs hP hD hS => ?_)
  have hP : va_P D vwCl [(h0, .inr (1, [.int 0, .ref q1, .null, .null, .int 0, .int 0, .int 0])), (q1, .inl (cA 0, 6, .inl (fun _ => 0)))] H := hP
  have hD : va_D A [(h0, .inr (1, [.int 0, .ref q1, .null, .null, .int 0, .int 0, .int 0])), (q1, .inl (cA 0, 6, .inl (fun _ => 0)))] := hD
  refine lv_aload_n hx hb dk_P_init_12 rfl (lv_at hl 0 rfl) ?_
  refine lv_bipush (v := (nI 6)) hx hb dk_P_init_13 (by decide) ?_
  refine kx_newI hx hb (hts (.arrayClass .int) (kt_GI_l (by decide +kernel))) hK hP hD hS hA (N := 6) (kn_nn (by omega)) (kn_cl (by omega)) (by omega) (by show 0 + 1 + 1 ≤ 3; omega) (by show 0 + 6 + 6 ≤ 18; omega) dk_P_init_15 (fun q2 H hP hD hS => ?_)
  have hP : va_P D vwCl [(h0, .inr (1, [.int 0, .ref q1, .null, .null, .int 0, .int 0, .int 0])), (q1, .inl (cA 0, 6, .inl (fun _ => 0))), (q2, .inl (cA 0, 6, .inl (fun _ => 0)))] H := hP
  have hD : va_D A [(h0, .inr (1, [.int 0, .ref q1, .null, .null, .int 0, .int 0, .int 0])), (q1, .inl (cA 0, 6, .inl (fun _ => 0))), (q2, .inl (cA 0, 6, .inl (fun _ => 0)))] := hD
  refine va_putF (D := D) (ci := 1) (v := .ref q2) (ty := (.array .int)) (C := RX1) (T := TX1) (N := 7) hx hb hts (fun w h => kt_GI_r (kt_hin1 w h)) tyX1 tyX1_ok nmX1 hown hK hP hD hS 0 rfl rfl 2 (by decide) (hts (.fieldLink RX1 15 "KeyToken$RelyingParty" "users" "[I") (kt_GI_l (by decide +kernel))) (fun _ h9 => h9) rfl hin rfl (by decide +kernel) rfl rfl (Nat.le_of_ble_eq_true rfl) dk_P_init_17 (fun H locs hP hD hS => ?_)
  have hP : va_P D vwCl [(h0, .inr (1, [.int 0, .ref q1, .ref q2, .null, .int 0, .int 0, .int 0])), (q1, .inl (cA 0, 6, .inl (fun _ => 0))), (q2, .inl (cA 0, 6, .inl (fun _ => 0)))] H := hP
  have hD : va_D A [(h0, .inr (1, [.int 0, .ref q1, .ref q2, .null, .int 0, .int 0, .int 0])), (q1, .inl (cA 0, 6, .inl (fun _ => 0))), (q2, .inl (cA 0, 6, .inl (fun _ => 0)))] := hD
  refine lv_aload_n hx hb dk_P_init_20 rfl (lv_at hl 0 rfl) ?_
  refine lv_bipush (v := (nI 6)) hx hb dk_P_init_21 (by decide) ?_
  refine kx_newI hx hb (hts (.arrayClass .int) (kt_GI_l (by decide +kernel))) hK hP hD hS hA (N := 6) (kn_nn (by omega)) (kn_cl (by omega)) (by omega) (by show 0 + 1 + 1 + 1 ≤ 3; omega) (by show 0 + 6 + 6 + 6 ≤ 18; omega) dk_P_init_23 (fun q3 H hP hD hS => ?_)
  have hP : va_P D vwCl [(h0, .inr (1, [.int 0, .ref q1, .ref q2, .null, .int 0, .int 0, .int 0])), (q1, .inl (cA 0, 6, .inl (fun _ => 0))), (q2, .inl (cA 0, 6, .inl (fun _ => 0))), (q3, .inl (cA 0, 6, .inl (fun _ => 0)))] H := hP
  have hD : va_D A [(h0, .inr (1, [.int 0, .ref q1, .ref q2, .null, .int 0, .int 0, .int 0])), (q1, .inl (cA 0, 6, .inl (fun _ => 0))), (q2, .inl (cA 0, 6, .inl (fun _ => 0))), (q3, .inl (cA 0, 6, .inl (fun _ => 0)))] := hD
  refine va_putF (D := D) (ci := 1) (v := .ref q3) (ty := (.array .int)) (C := RX1) (T := TX1) (N := 7) hx hb hts (fun w h => kt_GI_r (kt_hin1 w h)) tyX1 tyX1_ok nmX1 hown hK hP hD hS 0 rfl rfl 3 (by decide) (hts (.fieldLink RX1 18 "KeyToken$RelyingParty" "lasts" "[I") (kt_GI_l (by decide +kernel))) (fun _ h9 => h9) rfl hin rfl (by decide +kernel) rfl rfl (Nat.le_of_ble_eq_true rfl) dk_P_init_25 (fun H locs hP hD hS => ?_)
  have hP : va_P D vwCl [(h0, .inr (1, [.int 0, .ref q1, .ref q2, .ref q3, .int 0, .int 0, .int 0])), (q1, .inl (cA 0, 6, .inl (fun _ => 0))), (q2, .inl (cA 0, 6, .inl (fun _ => 0))), (q3, .inl (cA 0, 6, .inl (fun _ => 0)))] H := hP
  have hD : va_D A [(h0, .inr (1, [.int 0, .ref q1, .ref q2, .ref q3, .int 0, .int 0, .int 0])), (q1, .inl (cA 0, 6, .inl (fun _ => 0))), (q2, .inl (cA 0, 6, .inl (fun _ => 0))), (q3, .inl (cA 0, 6, .inl (fun _ => 0)))] := hD
  refine lv_aload_n hx hb dk_P_init_28 rfl (lv_at hl 0 rfl) ?_
  refine lv_iload_n hx hb dk_P_init_29 rfl (lv_at hl 1 rfl) ?_
  refine va_putF (D := D) (ci := 1) (v := .int v) (ty := .int) (C := RX1) (T := TX1) (N := 7) hx hb hts (fun w h => kt_GI_r (kt_hin1 w h)) tyX1 tyX1_ok nmX1 hown hK hP hD hS 0 rfl rfl 0 (by decide) (hts (.fieldLink RX1 21 "KeyToken$RelyingParty" "number" "I") (kt_GI_l (by decide +kernel))) (fun _ h9 => h9) rfl hin rfl (by decide +kernel) rfl rfl (Nat.le_of_ble_eq_true rfl) dk_P_init_30 (fun H locs hP hD hS => ?_)
  have hP : va_P D vwCl [(h0, .inr (1, [.int v, .ref q1, .ref q2, .ref q3, .int 0, .int 0, .int 0])), (q1, .inl (cA 0, 6, .inl (fun _ => 0))), (q2, .inl (cA 0, 6, .inl (fun _ => 0))), (q3, .inl (cA 0, 6, .inl (fun _ => 0)))] H := hP
  have hD : va_D A [(h0, .inr (1, [.int v, .ref q1, .ref q2, .ref q3, .int 0, .int 0, .int 0])), (q1, .inl (cA 0, 6, .inl (fun _ => 0))), (q2, .inl (cA 0, 6, .inl (fun _ => 0))), (q3, .inl (cA 0, 6, .inl (fun _ => 0)))] := hD
  refine W.widen (k := 3) (n := 18) (by omega) (by omega) ?_
  exact W.vret hx hb hr (fun t ht hW => ⟨⟨fun k => if k = 1 then q1 else if k = 2 then q2 else if k = 3 then q3 else 0, rfl, trivial, by rw [ht]; exact hP, hD⟩, hS.F ht⟩) hS.2.2 dk_P_init_33
theorem kY_P_init : kx_Y ky_P_init kb_P_init 2 1 := ⟨rfl, kt_GI_l (by decide +kernel), kt_GI_l (by decide +kernel), kt_GI_l (by decide +kernel), ⟨by decide +kernel, by decide +kernel⟩, by decide +kernel⟩
theorem dk_R_init_0 : decode kb_R_init 0 = .ok (.aload_n 0, 1) := by decide +kernel
theorem dk_R_init_1 : decode kb_R_init 1 = .ok (.invokespecial 3, 3) := by decide +kernel
theorem dk_R_init_4 : decode kb_R_init 4 = .ok (.aload_n 0, 1) := by decide +kernel
theorem dk_R_init_5 : decode kb_R_init 5 = .ok (.new 9, 3) := by decide +kernel
theorem dk_R_init_8 : decode kb_R_init 8 = .ok (.dup, 1) := by decide +kernel
theorem dk_R_init_9 : decode kb_R_init 9 = .ok (.bipush 48, 2) := by decide +kernel
theorem dk_R_init_11 : decode kb_R_init 11 = .ok (.invokespecial 13, 3) := by decide +kernel
theorem dk_R_init_14 : decode kb_R_init 14 = .ok (.putfield 16, 3) := by decide +kernel
theorem dk_R_init_17 : decode kb_R_init 17 = .ok (.aload_n 0, 1) := by decide +kernel
theorem dk_R_init_18 : decode kb_R_init 18 = .ok (.bipush 9, 2) := by decide +kernel
theorem dk_R_init_20 : decode kb_R_init 20 = .ok (.newarray .int, 2) := by decide +kernel
theorem dk_R_init_22 : decode kb_R_init 22 = .ok (.putfield 20, 3) := by decide +kernel
theorem dk_R_init_25 : decode kb_R_init 25 = .ok (.aload_n 0, 1) := by decide +kernel
theorem dk_R_init_26 : decode kb_R_init 26 = .ok (.bipush 9, 2) := by decide +kernel
theorem dk_R_init_28 : decode kb_R_init 28 = .ok (.newarray .int, 2) := by decide +kernel
theorem dk_R_init_30 : decode kb_R_init 30 = .ok (.putfield 24, 3) := by decide +kernel
theorem dk_R_init_33 : decode kb_R_init 33 = .ok (.aload_n 0, 1) := by decide +kernel
theorem dk_R_init_34 : decode kb_R_init 34 = .ok (.bipush 9, 2) := by decide +kernel
theorem dk_R_init_36 : decode kb_R_init 36 = .ok (.newarray .int, 2) := by decide +kernel
theorem dk_R_init_38 : decode kb_R_init 38 = .ok (.putfield 27, 3) := by decide +kernel
theorem dk_R_init_41 : decode kb_R_init 41 = .ok (.return_, 1) := by decide +kernel
set_option maxRecDepth 100000 in
set_option maxHeartbeats 4000000 in
theorem kc_R_init (l : Launch) : kx_C l ky_R_init kb_R_init 1 2 5 78 2 [] [.null, .null, .null, .null, .int 0, .int 0, .int 0] (fun h0 u cA => [(h0, .inr (2, [.ref (u 1), .ref (u 3), .ref (u 4), .ref (u 5), .int 0, .int 0, .int 0])), ((u 1), .inr (0, [.ref (u 2), .int 0, .int 0])), ((u 2), .inl (cA 0, 48, .inl (fun _ => 0))), ((u 3), .inl (cA 0, 9, .inl (fun _ => 0))), ((u 4), .inl (cA 0, 9, .inl (fun _ => 0))), ((u 5), .inl (cA 0, 9, .inl (fun _ => 0)))]) := by
  intro D cA h0 sz
  refine Met.ofW (cc := kb_R_init) (maxL := 1) (ret := none) (by decide) rfl ?_
  intro p e s m args below meth c s₁ B hml hv
  obtain ⟨rfl, hsz, hP, hK, hX⟩ := hv
  have hx := B.exec
  have hb := B.bytes
  have hr := B.returns
  have hts0 := atoms_spec (ws := Cond.code ky_R_init kb_R_init 1 none :: kt_GI) B.pre
  have hts := fun w (h : w ∈ kt_GI) => hts0 w (List.mem_cons_of_mem _ h)
  have hown : s.vm.findClass RX2 = some m.cls := findClass_of_methodNamed B.named
  have hlocks := B.notSynchronized
  have hin : meth.name = "<init>" := (name_of_methodNamed B.named B.method).1
  subst hsz
  have hD := kx_D1 (h0 := h0) (e := .inr (2, [.null, .null, .null, .null, .int 0, .int 0, .int 0])) (sz := s.heap.size)
  generalize hAe : va_A [(h0, .inr (2, [.null, .null, .null, .null, .int 0, .int 0, .int 0]))] s.heap.size = A at hD ⊢
  have hA : ∀ q : Nat, s.heap.size ≤ q → A q := fun q h => by rw [← hAe]; exact Or.inr h
  have hS : va_S A s.heap s.heap [] := va_S.rf
  have hl := lv_entry ([.ref h0]) (n := 1) (Nat.le_of_ble_eq_true rfl)
  rw [lg_entry_eq]
  generalize (lg_sl ([.ref h0]) ++ List.replicate (1 - (lg_sl ([.ref h0])).length) Slot.unset).toArray = ls at hl ⊢
  have hl : lv_has ls 1 [(0, .ref h0)] := hl
  refine lv_aload_n hx hb dk_R_init_0 rfl (lv_at hl 0 rfl) ?_
  refine W.objInit hx hb hown (hts (.methodLink RX2 3 objectInit) (kt_GI_l (by decide +kernel))) (hts (.instanceMethod objectInit) (kt_GI_l (by decide +kernel))) (hts _ (kt_GI_l (List.mem_of_getElem? (i := 1) rfl))) rfl (by rw [hml]; exact hl.1) rfl dk_R_init_1 (Nat.le_of_ble_eq_true rfl) (Nat.le_of_ble_eq_true rfl) ?_
  refine W.eq (g2 := F0 m 4 ls []) rfl ?_
  refine lv_aload_n hx hb dk_R_init_4 rfl (lv_at hl 0 rfl) ?_
  refine va_new (ci := 0) (fs := [.null, .int 0, .int 0]) (C := RX0) (T := TX0) (N := 3) hx hb hts (fun w h => kt_GI_r (kt_hin0 w h)) tyX0 tyX0_ok hown (hts (.classLink RX2 9 RX0) (kt_GI_l (by decide +kernel))) (hts (.instantiable RX0 3) (kt_GI_l (by decide +kernel))) (hts (.initialized RX0) (kt_GI_l (by decide +kernel))) hK hP hD hS hA rfl (fun j hj => by rcases (show j = 0 ∨ j = 1 ∨ j = 2 by omega) with rfl | rfl | rfl <;> rfl) (by show 0 + 1 ≤ 5; omega) (by show 0 + 3 ≤ 78; omega) dk_R_init_5 (fun q1 H hP hD hS => ?_)
  have hP : va_P D vwCl [(h0, .inr (2, [.null, .null, .null, .null, .int 0, .int 0, .int 0])), (q1, .inr (0, [.null, .int 0, .int 0]))] H := hP
  have hD : va_D A [(h0, .inr (2, [.null, .null, .null, .null, .int 0, .int 0, .int 0])), (q1, .inr (0, [.null, .int 0, .int 0]))] := hD
  refine lv_dup hx hb dk_R_init_8 rfl ?_
  refine lv_bipush (v := (nI 48)) hx hb dk_R_init_9 (by decide) ?_
  refine kx_call (pre := [(h0, .inr (2, [.null, .null, .null, .null, .int 0, .int 0, .int 0]))]) (q := q1) (av := [.int (nI 48)]) (rest := [.ref q1, .ref h0]) (wsOf := (fun h0 u cA => [(h0, .inr (0, [.ref (u 1), .int 0, .int 0])), (u 1, .inl (cA 0, 48, .inl (fun _ => 0)))])) (kc_B_init l 48 (by omega)) kY_B_init hx hb hml hl.1 hown hts (own := RX2) (idx := 13) (kt_GI_l (by decide +kernel)) rfl ⟨Nat.le_of_ble_eq_true rfl, Nat.le_of_ble_eq_true rfl⟩ (Nat.le_of_ble_eq_true rfl) dk_R_init_11 ⟨by show 0 + 1 + 1 ≤ 5; omega, by show 0 + 3 + 48 ≤ 78; omega⟩ hK hX hP hD hS hA (fun u2 H locs hP hD hS => ?_)
  have hP : va_P D vwCl [(h0, .inr (2, [.null, .null, .null, .null, .int 0, .int 0, .int 0])), (q1, .inr (0, [.ref (u2 1), .int 0, .int 0])), ((u2 1), .inl (cA 0, 48, .inl (fun _ => 0)))] H := hP
  have hD : va_D A [(h0, .inr (2, [.null, .null, .null, .null, .int 0, .int 0, .int 0])), (q1, .inr (0, [.ref (u2 1), .int 0, .int 0])), ((u2 1), .inl (cA 0, 48, .inl (fun _ => 0)))] := hD
  refine va_putF (D := D) (ci := 2) (v := .ref q1) (ty := (.object "KeyToken$Bytes")) (C := RX2) (T := TX2) (N := 7) hx hb hts (fun w h => kt_GI_r (kt_hin2 w h)) tyX2 tyX2_ok nmX2 hown hK hP hD hS 0 rfl rfl 0 (by decide) (hts (.fieldLink RX2 16 "KeyToken$Request" "input" "LKeyToken$Bytes;") (kt_GI_l (by decide +kernel))) (fun _ h9 => h9) rfl hin rfl (by decide +kernel) rfl rfl (Nat.le_of_ble_eq_true rfl) dk_R_init_14 (fun H locs hP hD hS => ?_)
  have hP : va_P D vwCl [(h0, .inr (2, [.ref q1, .null, .null, .null, .int 0, .int 0, .int 0])), (q1, .inr (0, [.ref (u2 1), .int 0, .int 0])), ((u2 1), .inl (cA 0, 48, .inl (fun _ => 0)))] H := hP
  have hD : va_D A [(h0, .inr (2, [.ref q1, .null, .null, .null, .int 0, .int 0, .int 0])), (q1, .inr (0, [.ref (u2 1), .int 0, .int 0])), ((u2 1), .inl (cA 0, 48, .inl (fun _ => 0)))] := hD
  refine lv_aload_n hx hb dk_R_init_17 rfl (lv_at hl 0 rfl) ?_
  refine lv_bipush (v := (nI 9)) hx hb dk_R_init_18 (by decide) ?_
  refine kx_newI hx hb (hts (.arrayClass .int) (kt_GI_l (by decide +kernel))) hK hP hD hS hA (N := 9) (kn_nn (by omega)) (kn_cl (by omega)) (by omega) (by show 0 + 1 + 1 + 1 ≤ 5; omega) (by show 0 + 3 + 48 + 9 ≤ 78; omega) dk_R_init_20 (fun q3 H hP hD hS => ?_)
  have hP : va_P D vwCl [(h0, .inr (2, [.ref q1, .null, .null, .null, .int 0, .int 0, .int 0])), (q1, .inr (0, [.ref (u2 1), .int 0, .int 0])), ((u2 1), .inl (cA 0, 48, .inl (fun _ => 0))), (q3, .inl (cA 0, 9, .inl (fun _ => 0)))] H := hP
  have hD : va_D A [(h0, .inr (2, [.ref q1, .null, .null, .null, .int 0, .int 0, .int 0])), (q1, .inr (0, [.ref (u2 1), .int 0, .int 0])), ((u2 1), .inl (cA 0, 48, .inl (fun _ => 0))), (q3, .inl (cA 0, 9, .inl (fun _ => 0)))] := hD
  refine va_putF (D := D) (ci := 2) (v := .ref q3) (ty := (.array .int)) (C := RX2) (T := TX2) (N := 7) hx hb hts (fun w h => kt_GI_r (kt_hin2 w h)) tyX2 tyX2_ok nmX2 hown hK hP hD hS 0 rfl rfl 1 (by decide) (hts (.fieldLink RX2 20 "KeyToken$Request" "kinds" "[I") (kt_GI_l (by decide +kernel))) (fun _ h9 => h9) rfl hin rfl (by decide +kernel) rfl rfl (Nat.le_of_ble_eq_true rfl) dk_R_init_22 (fun H locs hP hD hS => ?_)
  have hP : va_P D vwCl [(h0, .inr (2, [.ref q1, .ref q3, .null, .null, .int 0, .int 0, .int 0])), (q1, .inr (0, [.ref (u2 1), .int 0, .int 0])), ((u2 1), .inl (cA 0, 48, .inl (fun _ => 0))), (q3, .inl (cA 0, 9, .inl (fun _ => 0)))] H := hP
  have hD : va_D A [(h0, .inr (2, [.ref q1, .ref q3, .null, .null, .int 0, .int 0, .int 0])), (q1, .inr (0, [.ref (u2 1), .int 0, .int 0])), ((u2 1), .inl (cA 0, 48, .inl (fun _ => 0))), (q3, .inl (cA 0, 9, .inl (fun _ => 0)))] := hD
  refine lv_aload_n hx hb dk_R_init_25 rfl (lv_at hl 0 rfl) ?_
  refine lv_bipush (v := (nI 9)) hx hb dk_R_init_26 (by decide) ?_
  refine kx_newI hx hb (hts (.arrayClass .int) (kt_GI_l (by decide +kernel))) hK hP hD hS hA (N := 9) (kn_nn (by omega)) (kn_cl (by omega)) (by omega) (by show 0 + 1 + 1 + 1 + 1 ≤ 5; omega) (by show 0 + 3 + 48 + 9 + 9 ≤ 78; omega) dk_R_init_28 (fun q4 H hP hD hS => ?_)
  have hP : va_P D vwCl [(h0, .inr (2, [.ref q1, .ref q3, .null, .null, .int 0, .int 0, .int 0])), (q1, .inr (0, [.ref (u2 1), .int 0, .int 0])), ((u2 1), .inl (cA 0, 48, .inl (fun _ => 0))), (q3, .inl (cA 0, 9, .inl (fun _ => 0))), (q4, .inl (cA 0, 9, .inl (fun _ => 0)))] H := hP
  have hD : va_D A [(h0, .inr (2, [.ref q1, .ref q3, .null, .null, .int 0, .int 0, .int 0])), (q1, .inr (0, [.ref (u2 1), .int 0, .int 0])), ((u2 1), .inl (cA 0, 48, .inl (fun _ => 0))), (q3, .inl (cA 0, 9, .inl (fun _ => 0))), (q4, .inl (cA 0, 9, .inl (fun _ => 0)))] := hD
  refine va_putF (D := D) (ci := 2) (v := .ref q4) (ty := (.array .int)) (C := RX2) (T := TX2) (N := 7) hx hb hts (fun w h => kt_GI_r (kt_hin2 w h)) tyX2 tyX2_ok nmX2 hown hK hP hD hS 0 rfl rfl 2 (by decide) (hts (.fieldLink RX2 24 "KeyToken$Request" "numbers" "[I") (kt_GI_l (by decide +kernel))) (fun _ h9 => h9) rfl hin rfl (by decide +kernel) rfl rfl (Nat.le_of_ble_eq_true rfl) dk_R_init_30 (fun H locs hP hD hS => ?_)
  have hP : va_P D vwCl [(h0, .inr (2, [.ref q1, .ref q3, .ref q4, .null, .int 0, .int 0, .int 0])), (q1, .inr (0, [.ref (u2 1), .int 0, .int 0])), ((u2 1), .inl (cA 0, 48, .inl (fun _ => 0))), (q3, .inl (cA 0, 9, .inl (fun _ => 0))), (q4, .inl (cA 0, 9, .inl (fun _ => 0)))] H := hP
  have hD : va_D A [(h0, .inr (2, [.ref q1, .ref q3, .ref q4, .null, .int 0, .int 0, .int 0])), (q1, .inr (0, [.ref (u2 1), .int 0, .int 0])), ((u2 1), .inl (cA 0, 48, .inl (fun _ => 0))), (q3, .inl (cA 0, 9, .inl (fun _ => 0))), (q4, .inl (cA 0, 9, .inl (fun _ => 0)))] := hD
  refine lv_aload_n hx hb dk_R_init_33 rfl (lv_at hl 0 rfl) ?_
  refine lv_bipush (v := (nI 9)) hx hb dk_R_init_34 (by decide) ?_
  refine kx_newI hx hb (hts (.arrayClass .int) (kt_GI_l (by decide +kernel))) hK hP hD hS hA (N := 9) (kn_nn (by omega)) (kn_cl (by omega)) (by omega) (by show 0 + 1 + 1 + 1 + 1 + 1 ≤ 5; omega) (by show 0 + 3 + 48 + 9 + 9 + 9 ≤ 78; omega) dk_R_init_36 (fun q5 H hP hD hS => ?_)
  have hP : va_P D vwCl [(h0, .inr (2, [.ref q1, .ref q3, .ref q4, .null, .int 0, .int 0, .int 0])), (q1, .inr (0, [.ref (u2 1), .int 0, .int 0])), ((u2 1), .inl (cA 0, 48, .inl (fun _ => 0))), (q3, .inl (cA 0, 9, .inl (fun _ => 0))), (q4, .inl (cA 0, 9, .inl (fun _ => 0))), (q5, .inl (cA 0, 9, .inl (fun _ => 0)))] H := hP
  have hD : va_D A [(h0, .inr (2, [.ref q1, .ref q3, .ref q4, .null, .int 0, .int 0, .int 0])), (q1, .inr (0, [.ref (u2 1), .int 0, .int 0])), ((u2 1), .inl (cA 0, 48, .inl (fun _ => 0))), (q3, .inl (cA 0, 9, .inl (fun _ => 0))), (q4, .inl (cA 0, 9, .inl (fun _ => 0))), (q5, .inl (cA 0, 9, .inl (fun _ => 0)))] := hD
  refine va_putF (D := D) (ci := 2) (v := .ref q5) (ty := (.array .int)) (C := RX2) (T := TX2) (N := 7) hx hb hts (fun w h => kt_GI_r (kt_hin2 w h)) tyX2 tyX2_ok nmX2 hown hK hP hD hS 0 rfl rfl 3 (by decide) (hts (.fieldLink RX2 27 "KeyToken$Request" "ends" "[I") (kt_GI_l (by decide +kernel))) (fun _ h9 => h9) rfl hin rfl (by decide +kernel) rfl rfl (Nat.le_of_ble_eq_true rfl) dk_R_init_38 (fun H locs hP hD hS => ?_)
  have hP : va_P D vwCl [(h0, .inr (2, [.ref q1, .ref q3, .ref q4, .ref q5, .int 0, .int 0, .int 0])), (q1, .inr (0, [.ref (u2 1), .int 0, .int 0])), ((u2 1), .inl (cA 0, 48, .inl (fun _ => 0))), (q3, .inl (cA 0, 9, .inl (fun _ => 0))), (q4, .inl (cA 0, 9, .inl (fun _ => 0))), (q5, .inl (cA 0, 9, .inl (fun _ => 0)))] H := hP
  have hD : va_D A [(h0, .inr (2, [.ref q1, .ref q3, .ref q4, .ref q5, .int 0, .int 0, .int 0])), (q1, .inr (0, [.ref (u2 1), .int 0, .int 0])), ((u2 1), .inl (cA 0, 48, .inl (fun _ => 0))), (q3, .inl (cA 0, 9, .inl (fun _ => 0))), (q4, .inl (cA 0, 9, .inl (fun _ => 0))), (q5, .inl (cA 0, 9, .inl (fun _ => 0)))] := hD
  refine W.widen (k := 5) (n := 78) (by omega) (by omega) ?_
  exact W.vret hx hb hr (fun t ht hW => ⟨⟨fun k => if k = 1 then q1 else if k = 2 then (u2 1) else if k = 3 then q3 else if k = 4 then q4 else if k = 5 then q5 else 0, rfl, trivial, by rw [ht]; exact hP, hD⟩, hS.F ht⟩) hS.2.2 dk_R_init_41
theorem kY_R_init : kx_Y ky_R_init kb_R_init 1 0 := ⟨rfl, kt_GI_l (by decide +kernel), kt_GI_l (by decide +kernel), kt_GI_l (by decide +kernel), ⟨by decide +kernel, by decide +kernel⟩, by decide +kernel⟩
theorem dk_G_init_0 : decode kb_G_init 0 = .ok (.aload_n 0, 1) := by decide +kernel
theorem dk_G_init_1 : decode kb_G_init 1 = .ok (.invokespecial 3, 3) := by decide +kernel
theorem dk_G_init_4 : decode kb_G_init 4 = .ok (.aload_n 0, 1) := by decide +kernel
theorem dk_G_init_5 : decode kb_G_init 5 = .ok (.sipush 240, 3) := by decide +kernel
theorem dk_G_init_8 : decode kb_G_init 8 = .ok (.newarray .int, 2) := by decide +kernel
theorem dk_G_init_10 : decode kb_G_init 10 = .ok (.putfield 11, 3) := by decide +kernel
theorem dk_G_init_13 : decode kb_G_init 13 = .ok (.return_, 1) := by decide +kernel
set_option maxRecDepth 100000 in
set_option maxHeartbeats 4000000 in
theorem kc_G_init (l : Launch) : kx_C l ky_G_init kb_G_init 1 1 1 240 3 [] [.null, .int 0] (fun h0 u cA => [(h0, .inr (3, [.ref (u 1), .int 0])), ((u 1), .inl (cA 0, 240, .inl (fun _ => 0)))]) := by
  intro D cA h0 sz
  refine Met.ofW (cc := kb_G_init) (maxL := 1) (ret := none) (by decide) rfl ?_
  intro p e s m args below meth c s₁ B hml hv
  obtain ⟨rfl, hsz, hP, hK, hX⟩ := hv
  have hx := B.exec
  have hb := B.bytes
  have hr := B.returns
  have hts0 := atoms_spec (ws := Cond.code ky_G_init kb_G_init 1 none :: kt_GI) B.pre
  have hts := fun w (h : w ∈ kt_GI) => hts0 w (List.mem_cons_of_mem _ h)
  have hown : s.vm.findClass RX3 = some m.cls := findClass_of_methodNamed B.named
  have hlocks := B.notSynchronized
  have hin : meth.name = "<init>" := (name_of_methodNamed B.named B.method).1
  subst hsz
  have hD := kx_D1 (h0 := h0) (e := .inr (3, [.null, .int 0])) (sz := s.heap.size)
  generalize hAe : va_A [(h0, .inr (3, [.null, .int 0]))] s.heap.size = A at hD ⊢
  have hA : ∀ q : Nat, s.heap.size ≤ q → A q := fun q h => by rw [← hAe]; exact Or.inr h
  have hS : va_S A s.heap s.heap [] := va_S.rf
  have hl := lv_entry ([.ref h0]) (n := 1) (Nat.le_of_ble_eq_true rfl)
  rw [lg_entry_eq]
  generalize (lg_sl ([.ref h0]) ++ List.replicate (1 - (lg_sl ([.ref h0])).length) Slot.unset).toArray = ls at hl ⊢
  have hl : lv_has ls 1 [(0, .ref h0)] := hl
  refine lv_aload_n hx hb dk_G_init_0 rfl (lv_at hl 0 rfl) ?_
  refine W.objInit hx hb hown (hts (.methodLink RX3 3 objectInit) (kt_GI_l (by decide +kernel))) (hts (.instanceMethod objectInit) (kt_GI_l (by decide +kernel))) (hts _ (kt_GI_l (List.mem_of_getElem? (i := 1) rfl))) rfl (by rw [hml]; exact hl.1) rfl dk_G_init_1 (Nat.le_of_ble_eq_true rfl) (Nat.le_of_ble_eq_true rfl) ?_
  refine W.eq (g2 := F0 m 4 ls []) rfl ?_
  refine lv_aload_n hx hb dk_G_init_4 rfl (lv_at hl 0 rfl) ?_
  refine lv_sipush (v := (nI 240)) hx hb dk_G_init_5 (by decide) ?_
  refine kx_newI hx hb (hts (.arrayClass .int) (kt_GI_l (by decide +kernel))) hK hP hD hS hA (N := 240) (kn_nn (by omega)) (kn_cl (by omega)) (by omega) (by show 0 + 1 ≤ 1; omega) (by show 0 + 240 ≤ 240; omega) dk_G_init_8 (fun q1 H hP hD hS => ?_)
  have hP : va_P D vwCl [(h0, .inr (3, [.null, .int 0])), (q1, .inl (cA 0, 240, .inl (fun _ => 0)))] H := hP
  have hD : va_D A [(h0, .inr (3, [.null, .int 0])), (q1, .inl (cA 0, 240, .inl (fun _ => 0)))] := hD
  refine va_putF (D := D) (ci := 3) (v := .ref q1) (ty := (.array .int)) (C := RX3) (T := TX3) (N := 2) hx hb hts (fun w h => kt_GI_r (kt_hin3 w h)) tyX3 tyX3_ok nmX3 hown hK hP hD hS 0 rfl rfl 0 (by decide) (hts (.fieldLink RX3 11 "KeyToken$Signatures" "fields" "[I") (kt_GI_l (by decide +kernel))) (fun _ h9 => h9) rfl hin rfl (by decide +kernel) rfl rfl (Nat.le_of_ble_eq_true rfl) dk_G_init_10 (fun H locs hP hD hS => ?_)
  have hP : va_P D vwCl [(h0, .inr (3, [.ref q1, .int 0])), (q1, .inl (cA 0, 240, .inl (fun _ => 0)))] H := hP
  have hD : va_D A [(h0, .inr (3, [.ref q1, .int 0])), (q1, .inl (cA 0, 240, .inl (fun _ => 0)))] := hD
  refine W.widen (k := 1) (n := 240) (by omega) (by omega) ?_
  exact W.vret hx hb hr (fun t ht hW => ⟨⟨fun k => if k = 1 then q1 else 0, rfl, trivial, by rw [ht]; exact hP, hD⟩, hS.F ht⟩) hS.2.2 dk_G_init_13
theorem kY_G_init : kx_Y ky_G_init kb_G_init 1 0 := ⟨rfl, kt_GI_l (by decide +kernel), kt_GI_l (by decide +kernel), kt_GI_l (by decide +kernel), ⟨by decide +kernel, by decide +kernel⟩, by decide +kernel⟩
