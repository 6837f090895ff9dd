/-! The law's beginning: both objects and the array of answers are made. -/
def kl_St0 (sa : Nat → Nat) (s : State) : Prop := ∀ (k : Nat) (q : String × List Int32), kt_sts[k]? = some q → va_Z "KeyToken$Request" q.1 "[I" (.ref (sa k)) (kl_A0 s) s s.heap ∧ va_T .int (sa k) q.2.length (fun j => .int (q.2.getD j 0)) (kl_A0 s) s s.heap
theorem kl_St0.to {sa : Nat → Nat} {s : State} (h : kl_St0 sa s) (h0 : Nat) (u : Nat → Nat) : kt_St (kl_as h0 u sa) (kl_A0 s) s := by
  intro k q hk
  have e : kl_as h0 u sa (100 + k) = sa k := by
    unfold kl_as
    rw [if_neg (by omega), if_neg (by omega), Nat.add_sub_cancel_left]
  rw [e]
  exact h k q hk
theorem kj_Pl {D : va_G} {w1 w2 : va_W} {H : Heap} (h : va_P D vwCl (w1 ++ w2) H) : va_P D vwCl w1 H := fun k q hk => h k q (by rw [List.getElem?_append_left (List.getElem?_eq_some_iff.mp hk).1]; exact hk)
theorem kj_Pr {D : va_G} {w1 w2 : va_W} {H : Heap} (h : va_P D vwCl (w1 ++ w2) H) : va_P D vwCl w2 H := fun k q hk => h (w1.length + k) q (by rw [List.getElem?_append_right (by omega), Nat.add_sub_cancel_left]; exact hk)
theorem kj_g {w : va_W} {a : Nat → Nat} {n i : Nat} (h : w.map (fun q => q.1) = (List.range n).map a) (hi : i < n) : ∃ e, w[i]? = some (a i, e) := by
  have h1 : (w.map (fun q => q.1))[i]? = some (a i) := by
    rw [h, List.getElem?_map, List.getElem?_range hi]
    rfl
  rw [List.getElem?_map] at h1
  cases hq : w[i]? with
  | none => rw [hq] at h1; cases h1
  | some q =>
    rw [hq] at h1
    have h2 := Option.some.inj h1
    obtain ⟨x, y⟩ := q
    have h3 : x = a i := h2
    subst h3
    exact ⟨y, rfl⟩
theorem kj_sep {s : State} {h0 h1 o : Nat} {u u' sa : Nat → Nat} {cA : Nat → ClassId} {cL : ClassId} {xs : Nat → Int64} (hD : va_D (kl_A0 s) ((kj_wC h0 u cA ++ kj_wM h1 u' cA) ++ kl_out o cL xs)) :
    (kt_inj kt_shC (kl_as h0 u sa) ∧ ∀ k, k < kt_shC.length → s.heap.size ≤ kl_as h0 u sa k) ∧ (kt_inj kt_shM (kl_as h1 u' sa) ∧ ∀ k, k < kt_shM.length → s.heap.size ≤ kl_as h1 u' sa k) ∧ kl_Sp s (kl_as h0 u sa) (kl_as h1 u' sa) o := by
  have hC : ∀ i, i < 32 → ∃ e, ((kj_wC h0 u cA ++ kj_wM h1 u' cA) ++ kl_out o cL xs)[i]? = some (kl_as h0 u sa i, e) := fun i hi => by
    obtain ⟨e, he⟩ := kj_g (kj_adC h0 u sa cA) hi
    exact ⟨e, by rw [List.append_assoc, List.getElem?_append_left (show i < (kj_wC h0 u cA).length from hi)]; exact he⟩
  have hM : ∀ i, i < 19 → ∃ e, ((kj_wC h0 u cA ++ kj_wM h1 u' cA) ++ kl_out o cL xs)[32 + i]? = some (kl_as h1 u' sa i, e) := fun i hi => by
    obtain ⟨e, he⟩ := kj_g (kj_adM h1 u' sa cA) hi
    refine ⟨e, ?_⟩
    have hlen : (kj_wC h0 u cA).length = 32 := rfl
    have hlen2 : (kj_wM h1 u' cA).length = 19 := rfl
    rw [List.getElem?_append_left (by rw [List.length_append, hlen, hlen2]; omega), List.getElem?_append_right (by rw [hlen]; omega), hlen, Nat.add_sub_cancel_left]
    exact he
  have hO : ∃ e, ((kj_wC h0 u cA ++ kj_wM h1 u' cA) ++ kl_out o cL xs)[51]? = some (o, e) := by
    have hlen : (kj_wC h0 u cA ++ kj_wM h1 u' cA).length = 51 := rfl
    refine ⟨.inl (cL, 1, .inr (.inl xs)), ?_⟩
    rw [List.getElem?_append_right (by rw [hlen]; omega), hlen]
    rfl
  refine ⟨⟨fun i j hi hj h => ?_, fun i hi => ?_⟩, ⟨fun i j hi hj h => ?_, fun i hi => ?_⟩, fun i j hi hj h => ?_, fun i hi h => ?_, fun j hj h => ?_, ?_⟩
  · obtain ⟨e1, a1⟩ := hC i hi
    obtain ⟨e2, a2⟩ := hC j hj
    exact hD.1 i j _ _ a1 a2 h
  · obtain ⟨e1, a1⟩ := hC i hi
    exact hD.2 _ _ a1
  · obtain ⟨e1, a1⟩ := hM i hi
    obtain ⟨e2, a2⟩ := hM j hj
    have := hD.1 _ _ _ _ a1 a2 h
    omega
  · obtain ⟨e1, a1⟩ := hM i hi
    exact hD.2 _ _ a1
  · obtain ⟨e1, a1⟩ := hC i hi
    obtain ⟨e2, a2⟩ := hM j hj
    have := hD.1 _ _ _ _ a1 a2 h
    have hi : i < 32 := hi
    omega
  · obtain ⟨e1, a1⟩ := hC i hi
    obtain ⟨e2, a2⟩ := hO
    have := hD.1 _ _ _ _ a1 a2 h
    have hi : i < 32 := hi
    omega
  · obtain ⟨e1, a1⟩ := hM j hj
    obtain ⟨e2, a2⟩ := hO
    have := hD.1 _ _ _ _ a1 a2 h
    have hj : j < 19 := hj
    omega
  · obtain ⟨e2, a2⟩ := hO
    exact hD.2 _ _ a2
theorem kj_dM : ∀ j, j < 40 → defaultValue (tyX7 j) = vp_V kj_fM j := by
  intro j hj
  rcases (by omega : j = 0 ∨ j = 1 ∨ j = 2 ∨ j = 3 ∨ j = 4 ∨ j = 5 ∨ j = 6 ∨ j = 7 ∨ j = 8 ∨ j = 9 ∨ j = 10 ∨ j = 11 ∨ j = 12 ∨ j = 13 ∨ j = 14 ∨ j = 15 ∨ j = 16 ∨ j = 17 ∨ j = 18 ∨ j = 19 ∨ j = 20 ∨ j = 21 ∨ j = 22 ∨ j = 23 ∨ j = 24 ∨ j = 25 ∨ j = 26 ∨ j = 27 ∨ j = 28 ∨ j = 29 ∨ j = 30 ∨ j = 31 ∨ j = 32 ∨ j = 33 ∨ j = 34 ∨ j = 35 ∨ j = 36 ∨ j = 37 ∨ j = 38 ∨ j = 39) with rfl | rfl | rfl | rfl | rfl | rfl | rfl | rfl | rfl | rfl | rfl | rfl | rfl | rfl | rfl | rfl | rfl | rfl | rfl | rfl | rfl | rfl | rfl | rfl | rfl | rfl | rfl | rfl | rfl | rfl | rfl | rfl | rfl | rfl | rfl | rfl | rfl | rfl | rfl | rfl <;> rfl
section KLB
variable {p : Program} {l : Launch} {e : Env} {R : Room} {s : State} {m : MethodId} {args : Array Value} {below : List Frame} {meth : Method} {c : Code} {H : Heap} {locs : List Loc} {cells slots : Nat} {Q : State → Prop}
variable {cc : ByteArray} {pc : Nat} {ls : Array Slot} {rest : List Value} {D : va_G} {cA : Nat → ClassId} {A : Nat → Prop} {H0 : Heap}
theorem kl_callI {own : String} {y : MethodName} {bytes : ByteArray} {nL maxL lev mc ms n ci idx q : Nat} {av fs0 : List Value} {wsOf : Nat → (Nat → Nat) → (Nat → ClassId) → va_W} {pre : va_W} (hC : kx_C l y bytes maxL lev mc ms ci av fs0 wsOf) (hY : kx_Y y bytes maxL n) (hx : p.tables.exec = Jvm.exec) (hb : c.code = cc) (hml : c.maxLocals = nL) (hls : ls.size = nL) (hown : s.vm.findClass own = some m.cls) (hts : ∀ w ∈ kt_GI, w.before args s = true) (hlink : (Cond.methodLink own idx y).before args s = true) (hav : av.length = n) (hR : lev + 1 ≤ R.frames ∧ 8 + (maxL + 11) + 80 * lev ≤ R.locals) (hcat : (rest.map fun v => v.category).sum ≤ 8) (hdg : decode cc pc = .ok (.invokespecial idx, 3)) (hf : cells + mc ≤ R.cells ∧ slots + ms ≤ R.slots)
    (hK : va_K D vwCl (kt_tys cA) s) (hX : kx_X s) (hP : va_P D vwCl (pre ++ [(q, .inr (ci, fs0))]) H) (hD : va_D A (pre ++ [(q, .inr (ci, fs0))])) (hS : va_S A H0 H locs) (hA : ∀ q, H0.size ≤ q → A q)
    (kk : ∀ (u : Nat → Nat) (H1 : Heap) (locs1 : List Loc), va_P D vwCl (pre ++ wsOf q u cA) H1 → va_D A (pre ++ wsOf q u cA) → va_S A H0 H1 locs1 → W p l e R s m args below meth c H1 locs1 (cells + mc) (slots + ms) Q (F0 m (pc + 3) ls rest)) : W p l e R s m args below meth c H locs cells slots Q (F0 m pc ls (av.reverse ++ .ref q :: rest)) := by
  obtain ⟨y1, y2, y3, y4, y5, y6⟩ := hY
  have hPq : va_P D vwCl [(q, .inr (ci, fs0))] H := kj_Pr hP
  refine kx_run (own := own) (y := y) (bytes := bytes) (nL := nL) (maxL := maxL) (lev := lev) (n := n) (idx := idx) (va_runI (As := av) (rest := rest) (nL := nL) (n := n) ⟨hx, hb, hml, hown, hts⟩ (hC D cA q H.size) ⟨⟨rfl, rfl, hR.1, hR.2, kx_pay hts y4, List.mem_cons_self, hts _ y4, hts _ y3, y5, kt_npar y6, hlink⟩, y1, hts _ y2⟩ ⟨kx_blind, fun U hU hW => ⟨rfl, by rw [hU], by rw [hU]; exact hPq, va_K.moved hW.alike hK, hX.warm hW⟩⟩ rfl hav hls rfl (lv_room hcat) hdg hf) hP hD hS hA kk
end KLB
set_option maxHeartbeats 4000000 in
theorem kl_begin {l : Launch} (hf : l.flags = pinnedFlags ++ [noTraceFlag]) {p : Program} {e : Env} {s : State} {m : MethodId} {args : Array Value} {below : List Frame} {meth : Method} {c : Code} {Q : State → Prop} {D : va_G} {cA : Nat → ClassId} {sa : Nat → Nat} {b L : Nat} {ys : Nat → Int32} (hx : p.tables.exec = Jvm.exec) (hb : c.code = code) (hml : c.maxLocals = 8) (hown : s.vm.findClass RL = some m.cls) (hts : ∀ w ∈ kl_G, w.before args s = true) (hK : va_K D vwCl (kt_tys cA) s) (hNw : ∀ w ∈ kt_N, va_Nw w s) (hXX : kx_X s) (hSt : kl_St0 sa s) (hTx : kt_X (kl_A0 s) s) (hE : kl_Exc s) (hX : va_X b L ys s s.heap) (hbl : b < s.heap.size) (hL : L ≤ 2560) (hend : ∀ (H : Heap) (ls : Array Slot), W p l e room_1 s m args below meth c H [] 606257 7277333 Q (F0 m 808 ls [])) :
    W p l e room_1 s m args below meth c s.heap [] 0 0 Q (entryFrame m ([Value.ref b] : List Value).toArray 8) := by
  have hl := lv_entry ([Value.ref b]) (n := 8) (Nat.le_of_ble_eq_true rfl)
  rw [lg_entry_eq]
  generalize (lg_sl ([Value.ref b]) ++ List.replicate (8 - (lg_sl ([Value.ref b])).length) Slot.unset).toArray = ls at hl ⊢
  have hl : lv_has ls 8 [(0, .ref b)] := hl
  have hA : ∀ q : Nat, s.heap.size ≤ q → kl_A0 s q := fun q h => h
  have hS : va_S (kl_A0 s) s.heap s.heap [] := va_S.rf
  have hP : va_P D vwCl [] s.heap := fun k q h => by simp at h
  have hD : va_D (kl_A0 s) [] := ⟨fun i j p q h _ _ => by simp at h, fun k q h => by simp at h⟩
  have htsI := fun w (h : w ∈ kt_GI) => hts w (kl_G_I h)
  refine va_new (ci := 6) (fs := kj_fC) (C := RX6) (T := TX6) (N := 3) hx hb hts (fun w h => kl_G_r (kt_hin6 w h)) tyX6 tyX6_ok hown (hts (.classLink RL 8 RX6) (kl_w 1 rfl)) (htsI (.instantiable RX6 3) (kt_GI_l (by decide +kernel))) (htsI (.initialized RX6) (kt_GI_l (by decide +kernel))) hK hP hD hS hA rfl (fun j hj => by rcases (show j = 0 ∨ j = 1 ∨ j = 2 by omega) with rfl | rfl | rfl <;> rfl) (by show 0 + 1 ≤ 606257; omega) (by show 0 + 3 ≤ 7277333; omega) dk_law_0 (fun q1 H hP hD hS => ?_)
  refine lv_dup (va := .ref q1) (rest := []) (pc := 3) hx hb dk_law_3 rfl ?_
  refine kl_callI (pre := []) (q := q1) (av := []) (rest := [.ref q1]) (wsOf := kj_wC) (kj_cC l) kY_K_init hx hb hml hl.1 hown htsI (own := RL) (idx := 44) (hts _ (kl_w 2 rfl)) rfl ⟨Nat.le_of_ble_eq_true rfl, Nat.le_of_ble_eq_true rfl⟩ (Nat.le_of_ble_eq_true rfl) dk_law_4 ⟨by show 0 + 1 + 31 ≤ 606257; omega, by show 0 + 3 + 580 ≤ 7277333; omega⟩ hK hXX hP hD hS hA (fun u H locs hP hD hS => ?_)
  have hP : va_P D vwCl (kj_wC q1 u cA) H := hP
  have hD : va_D (kl_A0 s) (kj_wC q1 u cA) := hD
  refine lv_astore_n hx hb dk_law_7 rfl hl (by decide) rfl (fun ls hl => ?_)
  have hl : lv_has ls 8 [(1, .ref q1), (0, .ref b)] := hl
  refine va_new (ci := 7) (fs := kj_fM) (C := RX7) (T := TX7) (N := 40) hx hb hts (fun w h => kl_G_r (kt_hin7 w h)) tyX7 tyX7_ok hown (hts (.classLink RL 45 RX7) (kl_w 42 rfl)) (htsI (.instantiable RX7 40) (kt_GI_l (by decide +kernel))) (htsI (.initialized RX7) (kt_GI_l (by decide +kernel))) hK hP hD hS hA rfl kj_dM (by show 0 + 1 + 31 + 1 ≤ 606257; omega) (by show 0 + 3 + 580 + 40 ≤ 7277333; omega) dk_law_8 (fun q2 H hP hD hS => ?_)
  refine lv_dup (va := .ref q2) (rest := []) (pc := 11) hx hb dk_law_11 rfl ?_
  refine kl_callI (pre := kj_wC q1 u cA) (q := q2) (av := []) (rest := [.ref q2]) (wsOf := kj_wM) (kj_cM l) kY_M_init hx hb hml hl.1 hown htsI (own := RL) (idx := 47) (hts _ (kl_w 43 rfl)) rfl ⟨Nat.le_of_ble_eq_true rfl, Nat.le_of_ble_eq_true rfl⟩ (Nat.le_of_ble_eq_true rfl) dk_law_12 ⟨by show 0 + 1 + 31 + 1 + 18 ≤ 606257; omega, by show 0 + 3 + 580 + 40 + 636 ≤ 7277333; omega⟩ hK hXX hP hD hS hA (fun u' H locs hP hD hS => ?_)
  refine lv_astore_n hx hb dk_law_15 rfl hl (by decide) rfl (fun ls hl => ?_)
  have hl : lv_has ls 8 [(2, .ref q2), (1, .ref q1), (0, .ref b)] := hl
  refine lv_iconst (v := 1) hx hb dk_law_16 (by decide) ?_
  refine va_newa (atype := .long) (ty := .long) (N' := 1) (a0 := (1, .inr (.inl (fun _ => 0)))) hx hb (htsI (.arrayClass .long) (kt_GI_l (by decide +kernel))) rfl hK hP hD hS hA (fun c0 => rfl) (by decide) (by decide) (by decide) (by show 0 + 1 + 31 + 1 + 18 + 1 ≤ 606257; omega) (by show 0 + 3 + 580 + 40 + 636 + 1 ≤ 7277333; omega) dk_law_17 (fun o cL H hK1 hP hD hS => ?_)
  refine lv_astore_n hx hb dk_law_19 rfl hl (by decide) rfl (fun ls hl => ?_)
  have hl : lv_has ls 8 [(3, .ref o), (2, .ref q2), (1, .ref q1), (0, .ref b)] := hl
  refine lv_iconst (v := 0) hx hb dk_law_20 (by decide) ?_
  refine lv_istore hx hb dk_law_21 hl (by decide) rfl (fun ls hl => ?_)
  have hl : lv_has ls 8 [(4, .int (nI (5 * 0))), (3, .ref o), (2, .ref (kl_as q2 u' sa 0)), (1, .ref (kl_as q1 u sa 0)), (0, .ref b)] := hl
  have hD : va_D (kl_A0 s) ((kj_wC q1 u cA ++ kj_wM q2 u' cA) ++ kl_out o cL (fun _ => 0)) := hD
  have hP : va_P D vwCl ((kj_wC q1 u cA ++ kj_wM q2 u' cA) ++ kl_out o cL (fun _ => 0)) H := hP
  obtain ⟨⟨c1, c2⟩, ⟨m1, m2⟩, hSp⟩ := kj_sep (sa := sa) hD
  have hKL : va_K D vwCl [(cL, .long)] s := ⟨hK.1, fun k q hk => by
    have hz : k < 1 := (List.getElem?_eq_some_iff.mp hk).1
    rw [show k = 0 by omega] at hk
    cases hk
    exact hK1.2 3 _ rfl⟩
  have La : kl_La p s m args c D cA cL (kl_as q1 u sa) (kl_as q2 u' sa) o b L ys := ⟨hx, hb, hml, hown, hts, ⟨hK, hNw, c1, hSt.to q1 u, hTx, c2⟩, ⟨hK, hNw, m1, hSt.to q2 u', hTx, m2⟩, hKL, hE, hSp, hX, hbl⟩
  exact kl_loop hf La hL hend (L + 1) 0 0 kI_σ kI_τ (fun _ => 0) H locs ls _ _ (by omega) (by omega) hl ⟨kj_C (kj_Pl (kj_Pl hP)), kj_M (kj_Pr (kj_Pl hP)), kj_Pr hP, hS⟩ kR_init (by omega) (by omega) (by omega)
