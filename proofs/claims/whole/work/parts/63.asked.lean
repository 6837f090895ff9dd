/-! ASSERT, from its first check to its answer. -/
theorem kE_ask_rest {n i k : Nat} {B : Nat → Nat} {σ τ : kt_S} {l : Int32} (H : kU n (2 * n) i σ τ) (hn : n + 1 < 10000) (hi : i < 900) (hx : kRx B k σ τ) (h9 : σ 1 9 = nI 0) (h10 : σ 1 10 = nI 0) (y1 : kQy B k σ τ 1) (t1 : σ 9 1 = nI 3) (y2 : kQy B k σ τ 2) (t2 : σ 9 2 = nI 0) (y3 : kQn σ τ 3 ∨ (kQy B k σ τ 3 ∧ σ 9 3 = nI 4)) (y6 : (l = 0 ∧ kQn σ τ 6) ∨ (l = 1 ∧ kQy B k σ τ 6)) : kOc (n + 1) True (kp_T_signFirst_56 l σ) (kp_M_ask_99 τ) := by
  have hon := H.1.2.2.2.1
  have hB := hon.1.1
  have hnx : σ 1 9 = σ 1 10 := h9.trans h10.symm
  have hl : kR_bool l := by
    rcases y6 with ⟨z, _⟩ | ⟨z, _⟩
    · exact Or.inl z
    · exact Or.inr z
  obtain ⟨X, x1, x2⟩ := kQ_text hx.2.1 hx.2.2.1 hx.2.2.2.1 (x := 1) (by omega) y1 t1
  have x1' : kp_R_textNumber 1 σ = some (X, σ) := x1
  have x2' : kp_M_textNumber 1 τ = some (X, τ) := x2
  have h93 : σ 9 3 = -1 ∨ σ 9 3 = nI 4 := by
    rcases y3 with y | ⟨_, y⟩
    · have v := y.2.1
      by_cases w : σ 9 3 = -1
      · exact Or.inl w
      · rw [kR_hasE (by omega), if_neg w] at v
        first | exact (ki_o01 v).elim | exact (ki_o10 v).elim
    · exact Or.inr y
  -- the class
  obtain ⟨l0, b1, b2, b3, b4⟩ := kA_below (v := 2147483647) hon (by omega)
  have hL : ∀ x, x < 7 → ¬ ks_pg (σ 3) (nI x) = -1 → kA_L (σ 3) x < 2147483647 := fun x hx px => by
    obtain ⟨p, s, p1, p2, p3, p4, p5, p6⟩ := kA_pr hon hx px
    omega
  obtain ⟨c, s', r, c1, c2, c3, c4, c5, c6⟩ := kA_class hon X (if σ 9 3 = -1 then 0 else 1) rfl 6 0 0 100 l0 σ (fun _ => 0) (kA_N6 hon l0) (by omega) (by omega) (by omega) (fun _ _ => rfl) (fun j hj => absurd hj (by omega)) (fun u v _ hv => absurd hv (by omega)) (fun x => ⟨fun ⟨j, hj, _⟩ => absurd hj (by omega), fun ⟨z1, z2, z3, z4⟩ => by
    have := b4 x (by omega) (kA_Qp z3) (hL x (by omega) (kA_Qp z3))
    omega⟩) b3
  have hK : kp_T_findCredentials X σ = some (nI c, s') := by
    have e1 : kp_R_has 3 σ = some (if σ 9 3 = -1 then 0 else 1, σ) := by
      have := kR_hasE (x := 3) (by omega) σ
      by_cases w : σ 9 3 = -1
      · rw [if_pos w] at this ⊢
        exact this
      · rw [if_neg w] at this ⊢
        exact this
    have e2 : kp_S_labelBelow 2147483647 σ = some (kA_lb l0, σ) := by
      rw [ks_labelBelow]
      rw [show ks_lb (σ 3) 2147483647 7 = kA_lb l0 from b1]
    unfold kp_T_findCredentials kp_T_findCredentials_0
    rw [e1, kt_bs]
    dsimp only
    rw [e2, kt_bs]
    dsimp only
    exact c1
  -- the reference
  obtain ⟨cnt, τ1, r', d1, d2, d3, d4, d5, d6, d7⟩ := kA_ref (n := n) (Bv := 2 * n) (i := i) (k := k) (B := B) (σ := σ) (a := X) hnx h93 6 1 100 0 τ (fun _ => 0) (by omega) (by omega) (by omega) (by omega) H hx (fun j hj => absurd hj (by omega)) (fun u v _ hv => absurd hv (by omega)) (fun x => ⟨fun ⟨j, hj, _⟩ => absurd hj (by omega), fun ⟨z1, z2, _⟩ => absurd z2 (by omega)⟩)
  have d1' : kp_M_ask_109 100 X 0 1 τ = kA_rest (nI cnt) τ1 := d1
  obtain ⟨hcc, hrr⟩ := kA_uniq c5 d6 (fun x => (c6 x).trans (Iff.trans ⟨fun z => ⟨z.1, by omega, z.2.2⟩, fun z => ⟨z.1, by omega, z.2.2⟩⟩ (d7 x).symm))
  subst hcc
  have HU : kU n (2 * n) i s' τ1 := by
    refine kU_nx d3 (fun q _ h14 => c3 q h14) (fun f _ _ _ _ => by rw [c3 1 (by omega)]) (fun _ _ _ => rfl) (fun _ _ _ _ _ => rfl) ?_
    obtain ⟨n1, n2, n3, x, y, n4, n5, n6, n7, n8, n9⟩ := d3.2.2.2.2.1
    have hxy : x = y := (kn_eq (by omega) (by omega)).mp (n6.symm.trans (hnx.trans n7))
    subst hxy
    unfold kR_next
    rw [c3 1 (by omega)]
    exact ⟨n1, n2, n3, x, x, n4, n5, n6, n7, n8, fun j hj => absurd hj (by omega)⟩
  have hxU : kRx B k s' τ1 := by
    obtain ⟨⟨P, K, w1, w2, w3⟩, v2, v3, v4, v5, v6⟩ := d4
    refine ⟨⟨P, K, w1, w2, ?_⟩, ?_, v3, v4, v5, v6⟩
    · unfold kPr
      rw [c3 9 (by omega), c3 10 (by omega), c3 11 (by omega)]
      exact w3
    · rw [c3 8 (by omega)]
      exact v2
  have hs9 : s' 9 = σ 9 := c3 9 (by omega)
  have hs1 : s' 1 = σ 1 := c3 1 (by omega)
  have hp6 : τ1 0 6 = s' 1 6 := HU.2.1.2.2.1
  unfold kp_T_signFirst_56 kp_M_ask_99
  rw [x1', kt_bs, x2', kt_bs]
  dsimp only
  rw [hK, kt_bs, d1']
  dsimp only
  unfold kA_rest
  by_cases hc0 : c = 0
  · have z : nI c = 0 := by rw [hc0]; rfl
    rw [if_pos z, if_pos z]
    exact kOc_st (s := 9) (by omega) (by omega) (Nat.le_succ n) hn (by omega) rfl rfl HU
  have hcz : ¬ nI c = 0 := fun z => hc0 ((kn_eqL 0 (by omega) (by omega)).mp z)
  rw [if_neg hcz, if_neg hcz, kE_press HU, kt_bs, hp6]
  dsimp only
  by_cases z : s' 1 6 = 0
  · rw [if_pos z, if_pos z, kt_up_same z]
    exact kOc_st (s := 7) (by omega) (by omega) (Nat.le_succ n) hn (by omega) rfl rfl HU
  rw [if_neg z, if_neg z]
  have hxA : kRx B k (kt_up (kt_up s' 1 6 0) 1 10 (nI c)) (kt_up (kt_up τ1 0 6 0) 0 13 (nI c)) := hxU
  obtain ⟨w, w1, w2, w3⟩ := kQ_num (x := 2) (by omega) (Or.inl rfl) (kQy_of y2 (by omega) hxA.1 hs9) (show s' 9 2 = nI 0 by rw [hs9]; exact t2)
  have w2' : kp_R_numberOf 2 (kt_up (kt_up s' 1 6 0) 1 10 (nI c)) = some (nI w, kt_up (kt_up s' 1 6 0) 1 10 (nI c)) := w2
  have w3' : kp_M_get 2 (kt_up (kt_up τ1 0 6 0) 0 13 (nI c)) = some (nI w, kt_up (kt_up τ1 0 6 0) 0 13 (nI c)) := w3
  have hxB : kRx B k (kt_up (kt_up s' 1 6 0) 1 10 (nI c)) (kt_up (kt_up (kt_up τ1 0 6 0) 0 13 (nI c)) 0 15 (nI w)) := hxU
  have ht : kp_M_there 6 (kt_up (kt_up (kt_up τ1 0 6 0) 0 13 (nI c)) 0 15 (nI w)) = some (l, kt_up (kt_up (kt_up τ1 0 6 0) 0 13 (nI c)) 0 15 (nI w)) := by
    rcases y6 with ⟨rfl, y⟩ | ⟨rfl, y⟩
    · exact (kQn_of y (by omega) hxB.1 hs9).2.2
    · obtain ⟨_, _, _, _, v, _⟩ := kQy_of y (by omega) hxB.1 hs9
      exact v
  rw [w2', kt_bs, w3', kt_bs]
  dsimp only
  rw [ht, kt_bs]
  dsimp only
  rw [kv_ite1 hl (f := fun t => kp_M_ask_277 (nI c) t (kt_up (kt_up (kt_up τ1 0 6 0) 0 13 (nI c)) 0 15 (nI w))), if_pos (show l = 0 ∨ l = 1 from hl), if_neg (show ¬ ((0 : Int32) < 0 ∨ 6 ≤ (0 : Int32).toNatClampNeg) by decide), show (0 : Int32).toNatClampNeg = 0 by decide]
  unfold kp_M_ask_277
  rw [kE_eta, kE_eta]
  have Hf : kU n (2 * n) i (kt_up (kt_up (kt_up (kt_up s' 1 6 0) 1 10 (nI c)) 1 11 (nI w)) 1 12 l) (kt_up (kt_up (kt_up (kt_up τ1 0 6 0) 0 13 (nI c)) 0 15 (nI w)) 0 16 l) := by
    refine kU_nx (kU_press HU) (fun q h1 _ => by rw [kt_up_ne _ _ _ h1, kt_up_ne _ _ _ h1, kt_up_ne _ _ _ h1]) (fun f f9 f10 f11 f12 => ?_) (fun q h0 _ => by rw [kt_up_ne _ _ _ h0, kt_up_ne _ _ _ h0, kt_up_ne _ _ _ h0]) (fun f _ f13 f15 f16 => ?_) ?_
    · show upd (upd (upd (kt_up s' 1 6 0 1) 10 (nI c)) 11 (nI w)) 12 l f = _
      unfold upd
      rw [if_neg f12, if_neg f11, if_neg f10]
    · show upd (upd (upd (kt_up τ1 0 6 0 0) 13 (nI c)) 15 (nI w)) 16 l f = _
      unfold upd
      rw [if_neg f16, if_neg f15, if_neg f13]
    · refine ⟨rfl, rfl, hl, 0, c, by omega, by omega, ?_, rfl, rfl, fun j hj => ?_⟩
      · show s' 1 9 = nI 0
        rw [hs1]
        exact h9
      · have hj' : j < c := by omega
        obtain ⟨m1, m2, m3⟩ := (c6 (r j)).mp ⟨j, hj', rfl⟩
        rw [Nat.zero_add]
        refine ⟨?_, r j, m1, by omega, c4 j hj', ?_⟩
        · show τ1 4 j = s' 14 j
          rw [d5 j hj', c4 j hj', hrr j hj']
        · show ¬ ks_pg (s' 3) (nI (r j)) = -1
          rw [c3 3 (by omega)]
          exact kA_Qp m3
  have h9' : s' 1 9 = nI 0 := by
    rw [hs1]
    exact h9
  exact kE_signAt (cnt := c) (a := 0) (e := c) Hf hn hi (by omega) (by omega) h9' rfl (by omega)
theorem kE_ask {n i k : Nat} {B : Nat → Nat} {σ τ : kt_S} (H : kU n (2 * n) i σ τ) (hn : n + 1 < 10000) (hi : i < 900) (hx : kRx B k σ τ) (h9 : σ 1 9 = nI 0) (h10 : σ 1 10 = nI 0) : kOc (n + 1) True (kp_T_signFirst σ) (kp_M_ask τ) := by
  unfold kp_T_signFirst kp_T_signFirst_0
  rcases kC_ask hx.1 with ⟨z1, z2⟩ | ⟨z1, z2⟩ | ⟨z1, z2, ⟨y1, t1⟩, ⟨y2, t2⟩, y3, y6⟩
  · rw [z1, kt_bs, z2]
    dsimp only
    rw [if_neg (show ¬ (3 : Int32) = 0 by decide)]
    exact kOc_st (s := 3) (by omega) (by omega) (Nat.le_succ n) hn (by omega) rfl rfl H
  · rw [z1, kt_bs, z2]
    dsimp only
    rw [if_neg (show ¬ (4 : Int32) = 0 by decide)]
    exact kOc_st (s := 4) (by omega) (by omega) (Nat.le_succ n) hn (by omega) rfl rfl H
  rw [z1, kt_bs, z2]
  unfold kMa_rest
  dsimp only
  obtain ⟨w, w1, w2, w3⟩ := kQ_num (x := 1) (by omega) (Or.inr rfl) y1 t1
  have t' : kp_R_textHas 1 1 8 σ = some (if nI w < 1 then 0 else if 8 < nI w then 0 else 1, σ) := kE_textHas w2
  have w3' : kp_M_get 1 τ = some (nI w, τ) := w3
  rw [if_pos rfl, t', kt_bs, w3', kt_bs]
  dsimp only
  rw [w3', kt_bs]
  dsimp only
  by_cases a1 : nI w < 1
  · rw [if_pos a1, if_pos a1, if_pos rfl]
    exact kOc_st (s := 5) (by omega) (by omega) (Nat.le_succ n) hn (by omega) rfl rfl H
  rw [if_neg a1, if_neg a1]
  by_cases a2 : (8 : Int32) < nI w
  · rw [if_pos a2, if_pos rfl, if_neg (show ¬ nI w ≤ 8 from fun z => km_le_lt.mp z a2)]
    exact kOc_st (s := 5) (by omega) (by omega) (Nat.le_succ n) hn (by omega) rfl rfl H
  rw [if_neg a2, if_neg ki_10, if_pos (show nI w ≤ 8 from km_le_lt.mpr a2)]
  rcases y6 with y6 | ⟨y6, t6⟩
  · have e1 : kp_R_has 6 σ = some (0, σ) := y6.2.1
    have e2 : kp_M_there 6 τ = some (0, τ) := y6.2.2
    rw [e1, kt_bs, e2, kt_bs]
    dsimp only
    rw [if_pos rfl, if_pos rfl]
    exact kE_ask_rest H hn hi hx h9 h10 y1 t1 y2 t2 y3 (Or.inl ⟨rfl, y6⟩)
  · obtain ⟨b, b1, b2⟩ := kE_tick (x := 6) (by omega) H.2.1.2.2.2.2.2 y6 t6
    have e1 : kp_R_has 6 σ = some (1, σ) := by
      obtain ⟨_, _, _, z, _⟩ := y6
      exact z
    have e2 : kp_M_there 6 τ = some (1, τ) := by
      obtain ⟨_, _, _, _, z, _⟩ := y6
      exact z
    have e3 : kp_T_isTicket 6 σ = some (kb_i b, σ) := b1
    have e4 : kp_M_ticketWrong 6 τ = some (kb_i (!b), τ) := b2
    rw [e1, kt_bs, e2, kt_bs]
    dsimp only
    rw [if_neg ki_10, if_neg ki_10, e3, kt_bs, e4, kt_bs]
    dsimp only
    cases b with
    | false =>
      rw [if_pos (show kb_i false = 0 from rfl), if_neg (show ¬ kb_i (!false) = 0 from ki_10)]
      exact kOc_st (s := 14) (by omega) (by omega) (Nat.le_succ n) hn (by omega) rfl rfl H
    | true =>
      rw [if_neg (show ¬ kb_i true = 0 from ki_10), if_pos (show kb_i (!true) = 0 from rfl)]
      exact kE_ask_rest H hn hi hx h9 h10 y1 t1 y2 t2 y3 (Or.inr ⟨rfl, y6⟩)
