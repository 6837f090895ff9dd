/-! The law's helpers: what they have in common. -/
def kl_HA (as : Nat → Nat) (o sz : Nat) : Nat → Prop := fun q => kt_A false kt_shC as sz q ∨ q = o
def kl_out (o : Nat) (cL : ClassId) (xs : Nat → Int64) : va_W := [(o, .inl (cL, 1, .inr (.inl xs)))]
def kl_HP (D : va_G) (cA : Nat → ClassId) (as : Nat → Nat) (cL : ClassId) (o : Nat) (xs : Nat → Int64) (σ : kt_S) (sz : Nat) (U : State) : Prop := U.heap.size = sz ∧ kt_B kt_shC D cA as σ U ∧ va_P D vwCl (kl_out o cL xs) U.heap ∧ va_K D vwCl [(cL, .long)] U ∧ kl_Exc U
def kl_HQ (D : va_G) (cA : Nat → ClassId) (as : Nat → Nat) (cL : ClassId) (o : Nat) (k : Int32) (xs : Nat → Int64) (σ : kt_S) (sz : Nat) : Array Value → State → Outcome → State → Prop := fun _ st oc t =>
  oc = .returned (some (.int k)) ∧ va_P D vwCl (kt_w kt_shC as cA σ) t.heap ∧ va_P D vwCl (kl_out o cL xs) t.heap ∧ va_F (kl_HA as o sz) st t
theorem kl_HP_blind {D : va_G} {cA : Nat → ClassId} {as : Nat → Nat} {cL : ClassId} {o : Nat} {xs : Nat → Int64} {σ : kt_S} {sz : Nat} {av : List Value} : FrameBlind (va_Pc av (kl_HP D cA as cL o xs σ sz)) := by
  rintro a U g mk ⟨q0, q1, q2, q3, q4, q5⟩
  exact ⟨q0, q1, q2.blind g mk a, q3, va_K.moved (u := U) (U := U.calling g mk a) (Vm.Alike.refl U.vm) q4, kl_Exc.moved (u := U) (U := U.calling g mk a) (Vm.Alike.refl U.vm) q5⟩
/-- the entries of the law's table for the exceptions -/
def kl_ent (j : Nat) : Nat := if j = 0 then 13 else if j = 1 then 15 else if j = 2 then 25 else 31
def kl_hs (b : Nat) (ts : List (Nat × Nat)) : List (Nat × Nat × Nat × Nat) := ts.map (fun q => (0, b, q.1, kl_ent q.2))
def kl_Bd (p : Program) (s : State) (m : MethodId) (args : Array Value) (meth : Method) (c : Code) (cc : ByteArray) (nL b : Nat) (ts : List (Nat × Nat)) (D : va_G) (cA : Nat → ClassId) (as : Nat → Nat) (cL : ClassId) (o : Nat) (xs : Nat → Int64) (σ : kt_S) : Prop :=
  p.tables.exec = Jvm.exec ∧ c.code = cc ∧ c.maxLocals = nL ∧ meth.sig.returnType = some .int ∧ meth.locks = false ∧ c.exceptionTable.toList = tableOf (kl_hs b ts) ∧ (∀ w ∈ kl_G, w.before args s = true) ∧ s.vm.findClass RL = some m.cls ∧ kl_HP D cA as cL o xs σ s.heap.size s ∧ ∀ k, k < kt_shC.length → ¬ as k = o
theorem kl_hmet {l : Launch} {y : MethodName} {cc : ByteArray} {nL b sz : Nat} {ts : List (Nat × Nat)} {D : va_G} {cA : Nat → ClassId} {as : Nat → Nat} {cL : ClassId} {o : Nat} {xs : Nat → Int64} {σ : kt_S} {av : List Value} {Qc : Nat → Array Value → State → Outcome → State → Prop} (hy : plainName y.cls = true) (hyc : y.cls = RL) (hcw : Cond.codeWith y cc nL (some .int) (kl_hs b ts) ∈ kl_G) (ho : ∀ k, k < kt_shC.length → ¬ as k = o)
    (body : ∀ p e s m below meth c, kl_Bd p s m av.toArray meth c cc nL b ts D cA as cL o xs σ → W p l e (kt_rm 30 1 6) s m av.toArray below meth c s.heap [] 0 0 (MQ below (Qc s.heap.size) av.toArray s 1 6 (kl_HA as o s.heap.size)) (entryFrame m av.toArray nL)) : Met l y kl_G (kt_rm 30 1 6) (va_Pc av (kl_HP D cA as cL o xs σ sz)) (Qc sz) 1 6 (kl_HA as o sz) := by
  refine MetFree.of_bodyS (code := cc) (maxLocals := nL) (ret := some .int) hy ?_ ?_
  · intro args s m h hn
    obtain ⟨m', meth, c, h0, h1, h2, h3, h4, -, h5, h6, -⟩ := Cond.codeWith_spec (atoms_spec (ws := kl_G) h _ hcw)
    cases hn.symm.trans h0
    exact ⟨meth, c, h1, h2, h3, h4, h5, h6⟩
  · intro p e s m args below meth c s₁ B hml hP _
    obtain ⟨rfl, hP⟩ := hP
    have hts := atoms_spec (ws := kl_G) B.pre
    obtain ⟨m', meth', c', h0, h1, h2, -, -, h3, -, -, -⟩ := Cond.codeWith_spec (hts _ hcw)
    cases B.named.symm.trans h0
    cases B.method.symm.trans h1
    cases (Stand.of_body B).code.symm.trans h2
    have hh0 : s₁.heap = s.heap := by rw [B.state]; rfl
    have hsz : s.heap.size = sz := hP.1
    subst hsz
    have hown : s.vm.findClass RL = some m.cls := by rw [← hyc]; exact findClass_of_methodNamed B.named
    obtain ⟨t, a1, o1, b1, b2, b3⟩ := body p e s m below meth c ⟨B.exec, B.bytes, hml, B.returns, B.notSynchronized, by rw [← h3, table_eq], hts, hown, hP, ho⟩ s₁ hh0 (Stand.of_body B)
    exact ⟨t, o1, a1, b1, b2, ⟨b3.1, b3.2⟩⟩
section KH
variable {p : Program} {l : Launch} {e : Env} {s : State} {m : MethodId} {args : Array Value} {below : List Frame} {meth : Method} {c : Code} {H : Heap} {locs : List Loc} {cells slots : Nat}
variable {cc : ByteArray} {nL b : Nat} {ts : List (Nat × Nat)} {D : va_G} {cA : Nat → ClassId} {as : Nat → Nat} {cL : ClassId} {o : Nat} {xs : Nat → Int64} {σ σ' : kt_S} {pc : Nat} {ls : Array Slot} {rest : List Value} {Q : State → Prop}
theorem kl_Bd.ne (B : kl_Bd p s m args meth c cc nL b ts D cA as cL o xs σ) : o < s.heap.size ∧ ¬ kt_A false kt_shC as s.heap.size o := by
  obtain ⟨-, -, -, -, -, -, -, -, ⟨-, -, hPo, -, -⟩, ho⟩ := B
  have hlt : o < s.heap.size := (hPo 0 _ rfl).lt
  refine ⟨hlt, ?_⟩
  rintro ⟨-, ⟨k, hk, hq⟩ | hq⟩
  · exact ho k hk hq
  · omega
theorem kl_Bd.out (B : kl_Bd p s m args meth c cc nL b ts D cA as cL o xs σ) {H1 : Heap} (hk : ∀ q : Nat, q < s.heap.size → ¬ kt_A false kt_shC as s.heap.size q → H1[q]? = s.heap[q]?) : va_P D vwCl (kl_out o cL xs) H1 := by
  obtain ⟨h1, h2⟩ := B.ne
  obtain ⟨-, -, -, -, -, -, -, -, ⟨-, -, hPo, -, -⟩, ho⟩ := B
  refine va_P.kept hPo (fun k q hq => ?_)
  have hz : k < 1 := (List.getElem?_eq_some_iff.mp hq).1
  rw [show k = 0 by omega] at hq
  cases hq
  exact hk o h1 h2
theorem kl_Bd.KU (B : kl_Bd p s m args meth c cc nL b ts D cA as cL o xs σ) : ∀ U : State, U.heap = s.heap → s.WarmedH U.vm → kt_K kt_shC D cA as U := by
  obtain ⟨-, -, -, -, -, -, -, -, ⟨-, ⟨hK, -⟩, -, -, -⟩, -⟩ := B
  intro U hU hW
  exact hK.to (fl := false) (locs := []) hW (by rw [hU]; exact va_S.rf)
/-- the call, where it returns -/
theorem kl_hok {y : MethodName} {bytes : ByteArray} {maxL lev np idx : Nat} {rt : Option FieldType} {F : kt_F} {av : List Value} {r : Option Value} (B : kl_Bd p s m args meth c cc nL b ts D cA as cL o xs σ) (hM : kt_MT l kt_shC y bytes maxL rt lev 1 6 F) (hF : F (.ref 0 :: av) σ = some (r, σ')) (hnx : kt_isX r = none) (hY : kt_YV RX6 y bytes maxL rt np) (hlink : Cond.methodLink RL idx y ∈ kl_G) (hav : av.length = np) (hls : ls.size = nL) (hR : lev + 1 ≤ 30 ∧ 8 + (maxL + 11) + 80 * lev ≤ 80 * 30) (hcat : (rest.map fun v => v.category).sum ≤ 8) (hdg : decode cc pc = .ok (.invokevirtual idx, 3))
    (kk : ∀ (H1 : Heap) (locs1 : List Loc), va_P D vwCl (kt_w kt_shC as cA σ') H1 → va_P D vwCl (kl_out o cL xs) H1 → va_S (kl_HA as o s.heap.size) s.heap H1 locs1 → W p l e (kt_rm 30 1 6) s m args below meth c H1 locs1 (0 + 1) (0 + 6) Q (F0 m (pc + 3) ls ((r.map (kt_c as)).toList ++ rest))) : W p l e (kt_rm 30 1 6) s m args below meth c s.heap [] 0 0 Q (F0 m pc ls ((av.map (kt_c as)).reverse ++ .ref (as 0) :: rest)) := by
  have hKU := B.KU
  have hout := fun H1 => B.out (H1 := H1)
  obtain ⟨hx, hb, hml, hr, hlo, htab, hts, hown, ⟨-, ⟨hK, hP⟩, hPo, hKo, hE⟩, ho⟩ := B
  exact kl_V (free := fun _ => False) (sh := kt_shC) (C := RX6) (ci := 6) (N := 3) (kl_met hM hF hnx) hnx hY rfl rfl hx hb hml hls hown (fun w hw => hts w (kl_G_r hw)) (hts _ hlink) hav hR hcat hdg ⟨Nat.le_of_ble_eq_true rfl, Nat.le_of_ble_eq_true rfl⟩ hKU hK.1 hP va_S.rf (fun q h => Or.inl h) (fun H1 locs1 h1 h2 h3 h4 => kk H1 locs1 h1 (hout H1 h3) h4)
/-- the call, where it throws -/
theorem kl_hthr {y : MethodName} {bytes : ByteArray} {maxL lev np idx n k0 tgt : Nat} {rt : Option FieldType} {F : kt_F} {av : List Value} (B : kl_Bd p s m args meth c cc nL b ts D cA as cL o xs σ) (hM : kt_MT l kt_shC y bytes maxL rt lev 1 6 F) (hF : F (.ref 0 :: av) σ = some (some (.ref (1000 + n)), σ')) (hY : kt_YV RX6 y bytes maxL rt np) (hlink : Cond.methodLink RL idx y ∈ kl_G) (hav : av.length = np) (hls : ls.size = nL) (hR : lev + 1 ≤ 30 ∧ 8 + (maxL + 11) + 80 * lev ≤ 80 * 30) (hcat : (rest.map fun v => v.category).sum ≤ 8) (hdg : decode cc pc = .ok (.invokevirtual idx, 3))
    (hpb : pc < b) (hts4 : ∀ q ∈ ts, q.2 < 4) (hk0 : ts[k0]? = some (tgt, n)) (hlt : ∀ k, k < k0 → ¬ (ts.map (fun q => q.2))[k]? = some n)
    (kk : ∀ (a : Nat) (H1 : Heap) (locs1 : List Loc), va_P D vwCl (kt_w kt_shC as cA σ') H1 → va_P D vwCl (kl_out o cL xs) H1 → va_S (kl_HA as o s.heap.size) s.heap H1 locs1 → W p l e (kt_rm 30 1 6) s m args below meth c H1 locs1 (0 + 1) (0 + 6) Q (F0 m tgt ls [.ref a])) : W p l e (kt_rm 30 1 6) s m args below meth c s.heap [] 0 0 Q (F0 m pc ls ((av.map (kt_c as)).reverse ++ .ref (as 0) :: rest)) := by
  have hKU := B.KU
  have hout := fun H1 => B.out (H1 := H1)
  obtain ⟨hx, hb, hml, hr, hlo, htab, hts, hown, ⟨-, ⟨hK, hP⟩, hPo, hKo, hE⟩, ho⟩ := B
  have hes : ∀ (k : Nat) (x : ExceptionTableEntry), (tableOf (kl_hs b ts))[k]? = some x → ∃ q : Nat × Nat, ts[k]? = some q ∧ x = (⟨0, b, q.1, kl_ent q.2⟩ : ExceptionTableEntry) := by
    intro k x h
    unfold tableOf kl_hs at h
    rw [List.map_map, List.getElem?_map] at h
    cases hq : ts[k]? with
    | none => rw [hq] at h; cases h
    | some q => rw [hq] at h; cases h; exact ⟨q, rfl, rfl⟩
  refine kl_VX (sh := kt_shC) (C := RX6) (ci := 6) (N := 3) (es := tableOf (kl_hs b ts)) (js := ts.map (fun q => q.2)) (k0 := k0) (x0 := ⟨0, b, tgt, kl_ent n⟩) hM hF hY rfl rfl hx hb hml hls hown (fun w hw => hts w (kl_G_r hw)) (hts _ hlink) hav hR hcat hdg ⟨Nat.le_of_ble_eq_true rfl, Nat.le_of_ble_eq_true rfl⟩ hKU hK.1 hP va_S.rf (fun q h => Or.inl h) hE htab ?_ ?_ ?_ hlt (fun a H1 locs1 h1 h2 h3 h4 => kk a H1 locs1 h1 (hout H1 h3) h4)
  · intro k x hk
    obtain ⟨⟨t, j⟩, h1, rfl⟩ := hes k x hk
    have hj : j < 4 := hts4 _ (List.mem_of_getElem? h1)
    refine ⟨?_, ?_, j, ?_⟩
    · simp [covers, hpb]
    · show ¬ kl_ent j = 0
      unfold kl_ent
      split
      · decide
      · split
        · decide
        · split <;> decide
    · have hj' : (ts.map (fun q => q.2))[k]? = some j := by rw [List.getElem?_map, h1]; rfl
      match j, hj, hj' with
      | 0, _, hj' => exact ⟨_, hj', rfl, hts _ (kl_w 13 rfl)⟩
      | 1, _, hj' => exact ⟨_, hj', rfl, hts _ (kl_w 14 rfl)⟩
      | 2, _, hj' => exact ⟨_, hj', rfl, hts _ (kl_w 23 rfl)⟩
      | 3, _, hj' => exact ⟨_, hj', rfl, hts _ (kl_w 28 rfl)⟩
  · unfold tableOf kl_hs
    rw [List.map_map, List.getElem?_map, hk0]
    rfl
  · rw [List.getElem?_map, hk0]
    rfl
theorem kl_hend {k : Int32} {xs' : Nat → Int64} {n : Int} (B : kl_Bd p s m args meth c cc nL b ts D cA as cL o xs σ) (hd1 : decode cc pc = .ok (.iconst n, 1)) (hv : Int32.ofInt n = k) (hd2 : decode cc (pc + 1) = .ok (.ireturn, 1)) (hP : va_P D vwCl (kt_w kt_shC as cA σ') H) (hPo : va_P D vwCl (kl_out o cL xs') H) (hS : va_S (kl_HA as o s.heap.size) s.heap H locs) : W p l e (kt_rm 30 1 6) s m args below meth c H locs (0 + 1) (0 + 6) (MQ below (kl_HQ D cA as cL o k xs' σ' s.heap.size) args s 1 6 (kl_HA as o s.heap.size)) (F0 m pc ls []) := by
  obtain ⟨hx, hb, hml, hr, hlo, htab, hts, hown, -, ho⟩ := B
  exact lv_iconst hx hb hd1 hv (W.iret hx hb hr (fun t ht _ => ⟨rfl, by rw [ht]; exact hP, by rw [ht]; exact hPo, hS.F ht⟩) hS.2.2 hd2 hlo)
/-- the code behind a catch: the exception is stored, a number is answered -/
def kl_ct (cc : ByteArray) (nL tgt : Nat) (n : Int) : Prop := (∃ i : Nat, i < nL ∧ decode cc tgt = .ok (.astore i, 2) ∧ decode cc (tgt + 2) = .ok (.iconst n, 1) ∧ decode cc (tgt + 2 + 1) = .ok (.ireturn, 1)) ∨ ∃ i : Fin 4, (i : Nat) < nL ∧ decode cc tgt = .ok (.astore_n i, 1) ∧ decode cc (tgt + 1) = .ok (.iconst n, 1) ∧ decode cc (tgt + 1 + 1) = .ok (.ireturn, 1)
theorem kl_hcat {k : Int32} {n : Int} {tgt a : Nat} {lv : List (Nat × Value)} (B : kl_Bd p s m args meth c cc nL b ts D cA as cL o xs σ) (hl : lv_has ls nL lv) (hct : kl_ct cc nL tgt n) (hv : Int32.ofInt n = k) (hP : va_P D vwCl (kt_w kt_shC as cA σ') H) (hPo : va_P D vwCl (kl_out o cL xs) H) (hS : va_S (kl_HA as o s.heap.size) s.heap H locs) : W p l e (kt_rm 30 1 6) s m args below meth c H locs (0 + 1) (0 + 6) (MQ below (kl_HQ D cA as cL o k xs σ' s.heap.size) args s 1 6 (kl_HA as o s.heap.size)) (F0 m tgt ls [.ref a]) := by
  rcases hct with ⟨i, hi, h1, h2, h3⟩ | ⟨i, hi, h1, h2, h3⟩
  · exact lv_astore B.1 B.2.1 h1 hl hi rfl (fun ls' _ => kl_hend B h2 hv h3 hP hPo hS)
  · exact lv_astore_n B.1 B.2.1 h1 rfl hl hi rfl (fun ls' _ => kl_hend B h2 hv h3 hP hPo hS)
/-- the answer is stored into the array, and 0 is answered -/
theorem kl_hst {x : Int64} {off : Int} {t2 : Nat} (B : kl_Bd p s m args meth c cc nL b ts D cA as cL o xs σ) (hd0 : decode cc pc = .ok (.lastore, 1)) (hd1 : decode cc (pc + 1) = .ok (.goto off, 3)) (ht : ((pc + 1 : Nat) : Int) + off = (t2 : Int)) (hd2 : decode cc t2 = .ok (.iconst 0, 1)) (hd3 : decode cc (t2 + 1) = .ok (.ireturn, 1)) (hP : va_P D vwCl (kt_w kt_shC as cA σ') H) (hPo : va_P D vwCl (kl_out o cL xs) H) (hS : va_S (kl_HA as o s.heap.size) s.heap H locs) : W p l e (kt_rm 30 1 6) s m args below meth c H locs (0 + 1) (0 + 6) (MQ below (kl_HQ D cA as cL o 0 (vp_updL xs 0 x) σ' s.heap.size) args s 1 6 (kl_HA as o s.heap.size)) (F0 m pc ls [.long x, .int 0, .ref o]) := by
  have hD : va_D (kl_HA as o s.heap.size) (kl_out o cL xs) := by
    refine ⟨fun i j p q hp hq _ => ?_, fun k q hk => ?_⟩
    · have h1 : i < 1 := (List.getElem?_eq_some_iff.mp hp).1
      have h2 : j < 1 := (List.getElem?_eq_some_iff.mp hq).1
      omega
    · have h1 : k < 1 := (List.getElem?_eq_some_iff.mp hk).1
      rw [show k = 0 by omega] at hk
      cases hk
      exact Or.inr rfl
  have ho := B.2.2.2.2.2.2.2.2.2
  have hKo := B.2.2.2.2.2.2.2.2.1.2.2.2.1
  have hD2 : va_D (fun q => q = o) (kl_out o cL xs) := ⟨hD.1, fun k q hk => by
    have h1 : k < 1 := (List.getElem?_eq_some_iff.mp hk).1
    rw [show k = 0 by omega] at hk
    cases hk
    rfl⟩
  refine W.last B.1 B.2.1 (hPo 0 _ rfl) ((hKo.2 0 _ rfl).1 1 (fun j => .long (xs j))) (fun q => by cases q) (by show ¬ ((0 : Int32) < 0 ∨ (arrV _ _ _).slots.size ≤ _); rw [arrV_size]; show ¬ ((0 : Int32) < 0 ∨ 1 ≤ (0 : Int32).toNatClampNeg); decide) rfl rfl hd0 fun H1 e1 z oq => ?_
  have hPo1 : va_P D vwCl (kl_out o cL (vp_updL xs 0 x)) H1 := by
    intro k q hk
    have h1 : k < 1 := (List.getElem?_eq_some_iff.mp hk).1
    rw [show k = 0 by omega] at hk
    cases hk
    show H1[o]? = some (vp_cell _ _)
    rw [e1]
    rw [vp_cell_l, vp_cell_l, arrV_store]
    congr 2
    funext q
    by_cases hq : q = 0
    · subst hq
      simp [updV, vp_updL]
    · simp [updV, vp_updL, hq]
  have hP1 : va_P D vwCl (kt_w kt_shC as cA σ') H1 := va_P.kept hP (fun k q hk => by
    obtain ⟨q1, q2⟩ := kt_w_inv hk
    exact oq q.1 (by rw [q2]; exact ho k q1))
  refine lv_goto B.1 B.2.1 hd1 ht ?_
  exact kl_hend B hd2 rfl hd3 hP1 hPo1 (hS.put z oq (hD.2 0 _ rfl))
end KH
