/-! The law's walk: what holds at each of its points; its calls. -/
def kl_A0 (s : State) : Nat → Prop := fun q => s.heap.size ≤ q
/-- what holds of a world for ever -/
def kl_Bs (sh : kt_Sh) (D : va_G) (cA : Nat → ClassId) (as : Nat → Nat) (s : State) : Prop :=
  va_K D vwCl (kt_tys cA) s ∧ (∀ w ∈ kt_N, va_Nw w s) ∧ kt_inj sh as ∧ kt_St as (kl_A0 s) s ∧ kt_X (kl_A0 s) s ∧ ∀ k, k < sh.length → s.heap.size ≤ as k
theorem kl_Bs.A {sh : kt_Sh} {D : va_G} {cA : Nat → ClassId} {as : Nat → Nat} {s : State} (h : kl_Bs sh D cA as s) {H : Heap} {locs : List Loc} (hS : va_S (kl_A0 s) s.heap H locs) : ∀ q, kt_A false sh as H.size q → kl_A0 s q := by
  rintro q ⟨-, ⟨k, hk, rfl⟩ | hq⟩
  · exact h.2.2.2.2.2 k hk
  · exact Nat.le_trans hS.1 hq
theorem kl_Bs.KU {sh : kt_Sh} {D : va_G} {cA : Nat → ClassId} {as : Nat → Nat} {s : State} (h : kl_Bs sh D cA as s) {H : Heap} {locs : List Loc} (hS : va_S (kl_A0 s) s.heap H locs) : ∀ U : State, U.heap = H → s.WarmedH U.vm → kt_K sh D cA as U := by
  have hA := h.A hS
  obtain ⟨h1, h2, h3, h4, h5, h6⟩ := h
  intro U hU hW
  subst hU
  refine ⟨va_K.moved hW.alike h1, fun w hw => kt_Nw_warm (kt_N_nest w hw) hW (h2 w hw), h3, fun k q hk => ?_, h5.moved hW hS.2.1 hA⟩
  obtain ⟨a, b⟩ := h4 k q hk
  exact ⟨((a.kept hS.2.1).moved hW.alike).narrow hA, ((b.kept hS.2.1).moved hW.alike).narrow hA⟩
/-- the worlds are apart -/
def kl_Sp (s : State) (as as' : Nat → Nat) (o : Nat) : Prop := (∀ i j, i < kt_shC.length → j < kt_shM.length → ¬ as i = as' j) ∧ (∀ i, i < kt_shC.length → ¬ as i = o) ∧ (∀ j, j < kt_shM.length → ¬ as' j = o) ∧ s.heap.size ≤ o
def kl_Pt (s : State) (D : va_G) (cA : Nat → ClassId) (cL : ClassId) (as as' : Nat → Nat) (o : Nat) (σ τ : kt_S) (xs : Nat → Int64) (H : Heap) (locs : List Loc) : Prop :=
  va_P D vwCl (kt_w kt_shC as cA σ) H ∧ va_P D vwCl (kt_w kt_shM as' cA τ) H ∧ va_P D vwCl (kl_out o cL xs) H ∧ va_S (kl_A0 s) s.heap H locs
def kl_La (p : Program) (s : State) (m : MethodId) (args : Array Value) (c : Code) (D : va_G) (cA : Nat → ClassId) (cL : ClassId) (as as' : Nat → Nat) (o b L : Nat) (ys : Nat → Int32) : Prop :=
  p.tables.exec = Jvm.exec ∧ c.code = code ∧ c.maxLocals = 8 ∧ s.vm.findClass RL = some m.cls ∧ (∀ w ∈ kl_G, w.before args s = true) ∧ kl_Bs kt_shC D cA as s ∧ kl_Bs kt_shM D cA as' s ∧ va_K D vwCl [(cL, .long)] s ∧ kl_Exc s ∧ kl_Sp s as as' o ∧ va_X b L ys s s.heap ∧ b < s.heap.size
theorem kl_wkept {D : va_G} {sh sh' : kt_Sh} {as as' : Nat → Nat} {cA : Nat → ClassId} {τ : kt_S} {H H1 : Heap} (hk : ∀ q : Nat, q < H.size → ¬ kt_A false sh as H.size q → H1[q]? = H[q]?) (hne : ∀ i j, i < sh.length → j < sh'.length → ¬ as i = as' j) (hP : va_P D vwCl (kt_w sh' as' cA τ) H) : va_P D vwCl (kt_w sh' as' cA τ) H1 := by
  refine va_P.kept hP (fun k q hq => ?_)
  obtain ⟨q1, q2⟩ := kt_w_inv hq
  have hlt := (hP k q hq).lt
  refine hk q.1 hlt ?_
  rintro ⟨-, ⟨i, hi, h⟩ | h⟩
  · exact hne i k hi q1 (by rw [h, q2])
  · omega
theorem kl_okept {D : va_G} {sh : kt_Sh} {as : Nat → Nat} {cL : ClassId} {o : Nat} {xs : Nat → Int64} {H H1 : Heap} (hk : ∀ q : Nat, q < H.size → ¬ kt_A false sh as H.size q → H1[q]? = H[q]?) (hne : ∀ i, i < sh.length → ¬ as i = o) (hP : va_P D vwCl (kl_out o cL xs) H) : va_P D vwCl (kl_out o cL xs) H1 := by
  refine va_P.kept hP (fun k q hq => ?_)
  have hlt := (hP k q hq).lt
  have h1 : k < 1 := (List.getElem?_eq_some_iff.mp hq).1
  rw [show k = 0 by omega] at hq
  cases hq
  refine hk o hlt ?_
  rintro ⟨-, ⟨i, hi, h⟩ | h⟩
  · exact hne i hi h
  · exact absurd hlt (Nat.not_lt.mpr h)
section KLC
variable {p : Program} {l : Launch} {e : Env} {s : State} {m : MethodId} {args : Array Value} {below : List Frame} {meth : Method} {c : Code} {H : Heap} {locs : List Loc} {cells slots : Nat} {Q : State → Prop}
variable {pc : Nat} {ls : Array Slot} {rest : List Value} {D : va_G} {cA : Nat → ClassId} {cL : ClassId} {as as' : Nat → Nat} {o b L : Nat} {ys : Nat → Int32} {σ σ' τ τ' : kt_S} {xs : Nat → Int64} {r : Option Value}
theorem kl_CC {y : MethodName} {bytes : ByteArray} {maxL lev np idx : Nat} {rt : Option FieldType} {F : kt_F} {fr : Bool} {av : List Value} (La : kl_La p s m args c D cA cL as as' o b L ys) (hPt : kl_Pt s D cA cL as as' o σ τ xs H locs) (hM : kt_M l kt_shC y bytes maxL rt lev fr F) (hF : F (.ref 0 :: av) σ = some (r, σ')) (hnx : kt_isX r = none) (hY : kt_YV RX6 y bytes maxL rt np) (hlink : Cond.methodLink RL idx y ∈ kl_G) (hav : av.length = np) (hls : ls.size = 8) (hR : lev + 1 ≤ 2048 ∧ 8 + (maxL + 11) + 80 * lev ≤ 84000) (hcat : (rest.map fun v => v.category).sum ≤ 8) (hdg : decode code pc = .ok (.invokevirtual idx, 3)) (hroom : cells ≤ 606257 ∧ slots ≤ 7277333)
    (kk : ∀ (H1 : Heap) (locs1 : List Loc), kl_Pt s D cA cL as as' o σ' τ xs H1 locs1 → W p l e room_1 s m args below meth c H1 locs1 cells slots Q (F0 m (pc + 3) ls ((r.map (kt_c as)).toList ++ rest))) : W p l e room_1 s m args below meth c H locs cells slots Q (F0 m pc ls ((av.map (kt_c as)).reverse ++ .ref (as 0) :: rest)) := by
  obtain ⟨hx, hb, hml, hown, hts, hBC, hBM, hKL, hE, ⟨n1, n2, n3, n4⟩, hX, hbl⟩ := La
  obtain ⟨p1, p2, p3, hS⟩ := hPt
  exact kl_V (free := fun _ => False) (sh := kt_shC) (C := RX6) (ci := 6) (N := 3) (mc := 0) (ms := 0) (fr := fr) (hM D cA as (.ref 0 :: av) σ σ' r H.size hF) hnx hY rfl rfl hx hb hml hls hown (fun w hw => hts w (kl_G_r hw)) (hts _ hlink) hav hR hcat hdg hroom (hBC.KU hS) hBC.1 p1 hS (hBC.A hS)
    (fun H1 locs1 h1 h2 h3 h4 => kk H1 locs1 ⟨h1, kl_wkept h3 n1 p2, kl_okept h3 n2 p3, h4⟩)
theorem kl_CM {y : MethodName} {bytes : ByteArray} {maxL lev np idx : Nat} {rt : Option FieldType} {F : kt_F} {fr : Bool} {av : List Value} (La : kl_La p s m args c D cA cL as as' o b L ys) (hPt : kl_Pt s D cA cL as as' o σ τ xs H locs) (hM : kt_M l kt_shM y bytes maxL rt lev fr F) (hF : F (.ref 0 :: av) τ = some (r, τ')) (hnx : kt_isX r = none) (hY : kt_YV RX7 y bytes maxL rt np) (hlink : Cond.methodLink RL idx y ∈ kl_G) (hav : av.length = np) (hls : ls.size = 8) (hR : lev + 1 ≤ 2048 ∧ 8 + (maxL + 11) + 80 * lev ≤ 84000) (hcat : (rest.map fun v => v.category).sum ≤ 8) (hdg : decode code pc = .ok (.invokevirtual idx, 3)) (hroom : cells ≤ 606257 ∧ slots ≤ 7277333)
    (kk : ∀ (H1 : Heap) (locs1 : List Loc), kl_Pt s D cA cL as as' o σ τ' xs H1 locs1 → W p l e room_1 s m args below meth c H1 locs1 cells slots Q (F0 m (pc + 3) ls ((r.map (kt_c as')).toList ++ rest))) : W p l e room_1 s m args below meth c H locs cells slots Q (F0 m pc ls ((av.map (kt_c as')).reverse ++ .ref (as' 0) :: rest)) := by
  obtain ⟨hx, hb, hml, hown, hts, hBC, hBM, hKL, hE, ⟨n1, n2, n3, n4⟩, hX, hbl⟩ := La
  obtain ⟨p1, p2, p3, hS⟩ := hPt
  exact kl_V (free := fun _ => False) (sh := kt_shM) (C := RX7) (ci := 7) (N := 40) (mc := 0) (ms := 0) (fr := fr) (hM D cA as' (.ref 0 :: av) τ τ' r H.size hF) hnx hY rfl rfl hx hb hml hls hown (fun w hw => hts w (kl_G_r hw)) (hts _ hlink) hav hR hcat hdg hroom (hBM.KU hS) hBM.1 p2 hS (hBM.A hS)
    (fun H1 locs1 h1 h2 h3 h4 => kk H1 locs1 ⟨kl_wkept h3 (fun i j hi hj z => n1 j i hj hi z.symm) p1, h1, kl_okept h3 n3 p3, h4⟩)
theorem kl_CH {y : MethodName} {bytes : ByteArray} {maxL np idx : Nat} {hs : List (Nat × Nat × Nat × Nat)} {av : List Value} {k : Int32} {xs' : Nat → Int64} (La : kl_La p s m args c D cA cL as as' o b L ys) (hPt : kl_Pt s D cA cL as as' o σ τ xs H locs) (hM : Met l y kl_G (kt_rm 30 1 6) (va_Pc av (kl_HP D cA as cL o xs σ H.size)) (kl_HQ D cA as cL o k xs' σ' H.size) 1 6 (kl_HA as o H.size)) (hcw : Cond.codeWith y bytes maxL (some .int) hs ∈ kl_G) (hyc : y.cls = RL) (hst : Cond.static y ∈ kl_G) (hlink : Cond.methodLink RL idx y ∈ kl_G) (hnp : (parseMethodDescriptor y.desc).map (fun d => d.parameters.length) = some np) (hav : av.length = np) (hls : ls.size = 8) (hmL : maxL ≤ 100) (hcat : (rest.map fun v => v.category).sum ≤ 8) (hdg : decode code pc = .ok (.invokestatic idx, 3)) (hroom : cells + 1 ≤ 606257 ∧ slots + 6 ≤ 7277333)
    (kk : ∀ (H1 : Heap) (locs1 : List Loc), kl_Pt s D cA cL as as' o σ' τ xs' H1 locs1 → W p l e room_1 s m args below meth c H1 locs1 (cells + 1) (slots + 6) Q (F0 m (pc + 3) ls (.int k :: rest))) : W p l e room_1 s m args below meth c H locs cells slots Q (F0 m pc ls (av.reverse ++ rest)) := by
  obtain ⟨hx, hb, hml, hown, hts, hBC, hBM, hKL, hE, ⟨n1, n2, n3, n4⟩, hX, hbl⟩ := La
  obtain ⟨p1, p2, p3, hS⟩ := hPt
  have hrun : va_Run p l e room_1 s m args below meth c H locs cells slots 1 6 (F0 m pc ls (av.reverse ++ rest)) rest (kl_HQ D cA as cL o k xs' σ' H.size av.toArray) (kl_HA as o H.size) :=
    kl_runS (As := av) (rest := rest) (nL := 8) (n := np) (own := RL) hx hb hml hown hts hM ⟨rfl, rfl, Nat.le_of_ble_eq_true rfl, by show 8 + (maxL + 11) + 80 * 30 ≤ 84000; omega⟩ hcw (by rw [hyc]; exact kl_w 0 rfl) hst hlink ⟨by rw [hyc]; decide, by rw [hyc]; decide⟩ hnp ⟨kl_HP_blind, fun U hU hW => ⟨rfl, by rw [hU], ⟨hBC.KU hS U hU hW, by rw [hU]; exact p1⟩, by rw [hU]; exact p3, va_K.moved hW.alike hKL, hE.moved hW.alike⟩⟩ rfl hav hls rfl (lv_room hcat) hdg hroom
  have hA : ∀ q, kl_HA as o H.size q → kl_A0 s q := by
    rintro q (h | rfl)
    · exact hBC.A hS q h
    · exact n4
  intro T hT X
  obtain ⟨v, st₀, t, T', L', h0, X', hL, e1, e2, ⟨hv, hp, hpo, hz, hk⟩, st⟩ := hrun T hT X
  have hv := Outcome.returned.inj hv
  subst hv
  rw [h0] at hz hk
  have hP2 : va_P D vwCl (kt_w kt_shM as' cA τ) t.heap := by
    refine va_P.kept p2 (fun k q hq => ?_)
    obtain ⟨q1, q2⟩ := kt_w_inv hq
    have hlt := (p2 k q hq).lt
    refine hk q.1 hlt ?_
    rintro (⟨-, ⟨i, hi, h⟩ | h⟩ | h)
    · exact n1 i k hi q1 (by rw [h, q2])
    · omega
    · exact n3 k q1 (by rw [← q2]; exact h)
  obtain ⟨t2, a1, b1⟩ := kk T'.heap (locs ++ L') ⟨by rw [e1]; exact hp, by rw [e1]; exact hP2, by rw [e1]; exact hpo, Nat.le_trans hS.1 (by rw [e1]; exact hz), fun q h1 h2 => by
      rw [e1, hk q (Nat.lt_of_lt_of_le h1 hS.1) (fun z => h2 (hA q z))]
      exact hS.2.1 q h1 h2, fun q hq => by
      rcases List.mem_append.mp hq with h | h
      · exact hS.2.2 q h
      · exact hA _ (hL q h)⟩ T' rfl X'
  exact ⟨t2, st t2 a1, b1⟩
/-- a cell of the script -/
theorem kl_sc {i : Int32} (La : kl_La p s m args c D cA cL as as' o b L ys) (hPt : kl_Pt s D cA cL as as' o σ τ xs H locs) (hin : vp_in i L) (hdg : decode code pc = .ok (.iaload, 1)) (kk : W p l e room_1 s m args below meth c H locs cells slots Q (F0 m (pc + 1) ls (.int (ys i.toNatClampNeg) :: rest))) : W p l e room_1 s m args below meth c H locs cells slots Q (F0 m pc ls (.int i :: .ref b :: rest)) := by
  obtain ⟨hx, hb, hml, hown, hts, hBC, hBM, hKL, hE, hn, hX, hbl⟩ := La
  exact va_sld hx hb hX hbl (A := kl_A0 s) (fun z => absurd hbl (Nat.not_lt.mpr z)) hPt.2.2.2 hin hdg kk
/-- what stands in the array of answers -/
theorem kl_rd (La : kl_La p s m args c D cA cL as as' o b L ys) (hPt : kl_Pt s D cA cL as as' o σ τ xs H locs) (hdg : decode code pc = .ok (.laload, 1)) (kk : W p l e room_1 s m args below meth c H locs cells slots Q (F0 m (pc + 1) ls (.long (xs 0) :: rest))) : W p l e room_1 s m args below meth c H locs cells slots Q (F0 m pc ls (.int 0 :: .ref o :: rest)) := by
  obtain ⟨hx, hb, hml, hown, hts, hBC, hBM, hKL, hE, hn, hX, hbl⟩ := La
  exact va_lald hx hb hKL hPt.2.2.1 0 0 rfl rfl (i := 0) (show ¬ ((0 : Int32) < 0 ∨ 1 ≤ (0 : Int32).toNatClampNeg) by decide) hdg kk
def kl_b (v : Int32) : Int32 := if v = 0 then 0 else 1
theorem kl_bz {v : Int32} {o1 o2 : Int} {p1 p2 p3 : Nat} {j : Nat} (La : kl_La p s m args c D cA cL as as' o b L ys) (h1 : decode code pc = .ok (.ifCond .eq o1, 3)) (t1 : (pc : Int) + o1 = (p3 : Int)) (e1 : pc + 3 = p1) (h2 : decode code p1 = .ok (.iconst 1, 1)) (e2 : p1 + 1 = p2) (h3 : decode code p2 = .ok (.goto o2, 3)) (t2 : (p2 : Int) + o2 = (j : Int)) (h4 : decode code p3 = .ok (.iconst 0, 1)) (e3 : p3 + 1 = j) (kk : W p l e room_1 s m args below meth c H locs cells slots Q (F0 m j ls (.int (kl_b v) :: rest))) : W p l e room_1 s m args below meth c H locs cells slots Q (F0 m pc ls (.int v :: rest)) := by
  obtain ⟨hx, hb, -⟩ := La
  subst e1
  subst e2
  subst e3
  refine lv_if_eq hx hb h1 t1 (fun h => ?_) (fun h => ?_)
  · refine lv_iconst (v := 0) hx hb h4 (by decide) ?_
    rw [show kl_b v = 0 from if_pos h] at kk
    exact kk
  · refine lv_iconst (v := 1) hx hb h2 (by decide) ?_
    rw [show kl_b v = 1 from if_neg h] at kk
    exact lv_goto hx hb h3 t2 kk
end KLC
/-- a call that may throw, both programs -/
theorem kl_may {n : Nat} {T : Nat → Int32} {K : Option ((Nat ⊕ Int32) × kt_S)} {M : Option (Int32 × kt_S)} (h : kR_may n T K M) : ∃ (r : Nat ⊕ Int32) (v : Int32) (σ' τ' : kt_S), K = some (r, σ') ∧ M = some (v, τ') ∧ τ' 0 0 = kl_cd T r ∧ (∀ u, r = Sum.inr u → u = v) ∧ kR n σ' τ' := by
  rcases h with ⟨r, σ', τ', h1, h2, h3, h4⟩ | ⟨e, r, σ', τ', h1, h2, h3, h4⟩
  · exact ⟨Sum.inr r, r, σ', τ', h1, h2, h3, fun u hu => (Sum.inr.inj hu).symm, h4⟩
  · exact ⟨Sum.inl e, r, σ', τ', h1, h2, h3, (fun u hu => by cases hu), h4⟩
