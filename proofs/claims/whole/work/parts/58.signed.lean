/-! ASSERT and NEXT: a credential signs. -/
theorem kU_nx {n B i : Nat} {σ σ' τ τ' : kt_S} (H : kU n B i σ τ) (s : ∀ q, ¬ q = 1 → ¬ q = 14 → σ' q = σ q) (s1 : ∀ f, ¬ f = 9 → ¬ f = 10 → ¬ f = 11 → ¬ f = 12 → σ' 1 f = σ 1 f) (t : ∀ q, ¬ q = 0 → ¬ q = 4 → τ' q = τ q) (u : ∀ f, f < 21 → ¬ f = 13 → ¬ f = 15 → ¬ f = 16 → τ' 0 f = τ 0 f) (hn : kR_next σ' τ') : kU n B i σ' τ' := by
  obtain ⟨a, b, c, d, e, f, g, p⟩ := H
  refine ⟨?_, ?_, ?_, ?_, hn, ?_, ?_, kR_par_congr (fun q h => s q (by omega) (by omega)) (t 15 (by omega) (by omega)) (t 16 (by omega) (by omega)) (t 17 (by omega) (by omega)) (t 18 (by omega) (by omega)) p⟩
  · rw [t 1 (by omega) (by omega), s 3 (by omega) (by omega), s 2 (by omega) (by omega), u 0 (by omega) (by omega) (by omega) (by omega), u 2 (by omega) (by omega) (by omega) (by omega), u 3 (by omega) (by omega) (by omega) (by omega), u 4 (by omega) (by omega) (by omega) (by omega)]
    exact a
  · rw [s1 5 (by omega) (by omega) (by omega) (by omega), s1 6 (by omega) (by omega) (by omega) (by omega), s1 7 (by omega) (by omega) (by omega) (by omega), s1 8 (by omega) (by omega) (by omega) (by omega), u 5 (by omega) (by omega) (by omega) (by omega), u 6 (by omega) (by omega) (by omega) (by omega), u 7 (by omega) (by omega) (by omega) (by omega), u 8 (by omega) (by omega) (by omega) (by omega)]
    exact b
  · unfold kR_in
    rw [t 2 (by omega) (by omega), s 8 (by omega) (by omega), s 7 (by omega) (by omega), u 10 (by omega) (by omega) (by omega) (by omega)]
    exact c
  · rw [t 3 (by omega) (by omega), s 12 (by omega) (by omega), u 12 (by omega) (by omega) (by omega) (by omega)]
    exact d
  · unfold kR_cnt
    rw [s1 13 (by omega) (by omega) (by omega) (by omega), s1 14 (by omega) (by omega) (by omega) (by omega), s 4 (by omega) (by omega), s 0 (by omega) (by omega), u 17 (by omega) (by omega) (by omega) (by omega), u 18 (by omega) (by omega) (by omega) (by omega), u 19 (by omega) (by omega) (by omega) (by omega), u 20 (by omega) (by omega) (by omega) (by omega)]
    exact f
  · unfold kR_sig
    rw [s 5 (by omega) (by omega), s 4 (by omega) (by omega), t 5 (by omega) (by omega)]
    exact g
/-- what is left of the class's signWith and of the reference's signNext -/
noncomputable def kTw (l1 l2 : Int32) (s : kt_S) : Option (Int32 × kt_S) := Option.bind (kp_S_pageOf l1 s) fun x1 => Option.bind (kp_S_read x1.1 1 x1.2) fun x2 => Option.bind (kp_S_read x1.1 2 x2.2) fun x3 => Option.bind (kp_S_read x1.1 3 x3.2) fun x4 => Option.bind (kp_S_read x1.1 4 x4.2) fun x5 => Option.bind (kp_S_put l1 x2.1 x3.1 x4.1 (x5.1 + 1) x5.2) fun x6 => if x6.1 = 0 then some (-1, x6.2) else Option.bind (kp_G_make 2 x4.1 x2.1 (x6.2 1 11) (x5.1 + 1) (x6.2 1 12) x6.2) fun x7 => if l2 ≤ 0 then kp_T_signWith_119 l1 l2 x3.1 x4.1 (x5.1 + 1) 5 x7 else kp_T_signWith_119 l1 l2 x3.1 x4.1 (x5.1 + 1) 6 x7
noncomputable def kSn (l1 l2 : Int32) (s : kt_S) : Option (Int32 × kt_S) := Option.bind (kp_M_data l2 1 s) fun x1 => Option.bind (kp_M_data l2 2 x1.2) fun x2 => Option.bind (kp_M_data l2 3 x2.2) fun x3 => Option.bind (kp_M_data l2 4 x3.2) fun x4 => Option.bind (kp_M_put l2 x1.1 x2.1 x3.1 (x4.1 + 1) x4.2) fun x5 => if x5.1 = 0 then some (-1, x5.2) else Option.bind (kp_M_sign 2 x3.1 x1.1 (x5.2 0 15) (x4.1 + 1) (x5.2 0 16) x5.2) fun x6 => if l1 ≤ 0 then kp_M_signNext_126 l1 l2 x2.1 x3.1 (x4.1 + 1) 5 x6 else kp_M_signNext_126 l1 l2 x2.1 x3.1 (x4.1 + 1) 6 x6
theorem kE_shift (l1 l2 : Int32) {L : Nat} (hL : L ≤ 6) : ∀ c k f (τ : kt_S), k + c = L → 1 ≤ k → c < f → τ 0 13 = nI L → ∃ τ', kp_M_signNext_9 f l1 l2 (nI k) τ = kSn l1 l2 (kt_up τ' 0 13 (nI (L - 1))) ∧ (∀ q, ¬ q = 4 → τ' q = τ q) ∧ (∀ j, k ≤ j + 1 → j + 1 < L → τ' 4 j = τ 4 (j + 1)) ∧ ∀ j, j + 1 < k → τ' 4 j = τ 4 j := by
  intro c
  induction c with
  | zero =>
    intro k f τ hk h1 hf hl
    obtain ⟨f, rfl⟩ := Nat.exists_eq_add_one_of_ne_zero (show ¬ f = 0 by omega)
    refine ⟨τ, ?_, fun q _ => rfl, fun j h h' => absurd h' (by omega), fun j _ => rfl⟩
    show kp_M_signNext_9b (kp_M_signNext_9 f) _ _ _ _ = _
    unfold kp_M_signNext_9b
    rw [hl, if_pos (show nI L ≤ nI k from kn_leR (by omega) (by omega)), show nI L - 1 = nI (L - 1) from kn_sub (a := 1) (by omega)]
    rfl
  | succ c ih =>
    intro k f τ hk h1 hf hl
    obtain ⟨f, rfl⟩ := Nat.exists_eq_add_one_of_ne_zero (show ¬ f = 0 by omega)
    obtain ⟨τ', g1, g2, g3, g4⟩ := ih (k + 1) f (kt_up τ 4 (k - 1) (τ 4 k)) (by omega) (by omega) (by omega) hl
    refine ⟨τ', ?_, fun q hq => (g2 q hq).trans (kt_up_ne _ _ _ hq), fun j h h' => ?_, fun j h => ?_⟩
    · show kp_M_signNext_9b (kp_M_signNext_9 f) _ _ _ _ = _
      unfold kp_M_signNext_9b
      rw [hl, if_neg (show ¬ nI L ≤ nI k from fun z => by have := (kn_le (by omega) (by omega)).mp z; omega), show nI k - 1 = nI (k - 1) from kn_sub (a := 1) (by omega), if_neg (kn_in (by omega) (by omega)), if_neg (kn_in (by omega) (by omega)), kn_cl (by omega), kn_cl (by omega), kn_succ]
      exact g1
    · by_cases z : k ≤ j
      · rw [g3 j (by omega) h']
        show upd (τ 4) (k - 1) (τ 4 k) (j + 1) = _
        unfold upd
        rw [if_neg (by omega)]
      · rw [g4 j (by omega)]
        show upd (τ 4) (k - 1) (τ 4 k) j = _
        unfold upd
        rw [if_pos (by omega), show j + 1 = k by omega]
    · rw [g4 j (by omega)]
      show upd (τ 4) (k - 1) (τ 4 k) j = _
      unfold upd
      rw [if_neg (by omega)]

theorem kE_signed {n i cnt nm k3 : Nat} {σ τ : kt_S} (H : kU n (2 * n) i σ τ) (hn : n + 1 < 10000) (hi : i < 900) (h1 : 1 ≤ nm) (h6 : nm ≤ 6) (hpg : ¬ ks_pg (σ 3) (nI nm) = -1) (hc : cnt ≤ 6) (hk3 : σ 4 1 = nI k3) (hk3n : k3 ≤ n) : kOc (n + 1) True (kTw (nI nm) (nI cnt) σ) (kSn (nI cnt) (nI nm) τ) := by
  rcases kU_page H (nI nm) with ⟨p, p1, p2, p3, p4, p5, p6, p7⟩ | ⟨_, _, p4⟩
  case inr => exact absurd p4 hpg
  have hne : ¬ ks_nm (σ 3 (6 * p)) = 0 := fun z => by
    have := (kn_eqL 0 (by omega) (by omega)).mp (p6.symm.trans z)
    omega
  obtain ⟨u0, ⟨kk, kkn, ke⟩, ⟨cc, ccn, ce⟩⟩ := (H.1.2.2.1 p p1 p5 (H.1.2.2.2.1.2.1 p p1 p5)).2 hne
  obtain ⟨u, hu, ue⟩ := kn_of u0
  obtain ⟨a1, m1⟩ := p7 1 (by omega)
  obtain ⟨a2, m2⟩ := p7 2 (by omega)
  obtain ⟨a3, m3⟩ := p7 3 (by omega)
  obtain ⟨a4, m4⟩ := p7 4 (by omega)
  rw [ue] at a2 m2
  rw [ke] at a3 m3
  rw [ce] at a4 m4
  generalize σ 3 (6 * p + 1) = X at a1 m1
  have a1' : kp_S_read (nI p) 1 σ = some (X, σ) := a1
  have a2' : kp_S_read (nI p) 2 σ = some (nI u, σ) := a2
  have a3' : kp_S_read (nI p) 3 σ = some (nI kk, σ) := a3
  have a4' : kp_S_read (nI p) 4 σ = some (nI cc, σ) := a4
  have m1' : kp_M_data (nI nm) 1 τ = some (X, τ) := m1
  have m2' : kp_M_data (nI nm) 2 τ = some (nI u, τ) := m2
  have m3' : kp_M_data (nI nm) 3 τ = some (nI kk, τ) := m3
  have m4' : kp_M_data (nI nm) 4 τ = some (nI cc, τ) := m4
  unfold kTw kSn
  rw [p2, kt_bs, m1', kt_bs]
  dsimp only
  rw [a1', kt_bs, m2', kt_bs]
  dsimp only
  rw [a2', kt_bs, m3', kt_bs]
  dsimp only
  rw [a3', kt_bs, m4', kt_bs]
  dsimp only
  rw [a4', kt_bs]
  dsimp only
  rw [kn_succ]
  have H1 : kU (n + 1) (2 * n) i σ τ := kU_mono (Nat.le_succ n) (Nat.le_refl _) (by omega) H
  rcases kU_put (a := X) (b := nI u) (c := nI kk) (d := nI (cc + 1)) H1 hn (by omega) (show nm < 7 by omega) (Or.inl (by rw [p4]; exact kn_pn p1)) (by omega) (fun z => absurd z (by omega)) (fun _ => ⟨kn_nn hu, ⟨kk, by omega, rfl⟩, ⟨cc + 1, by omega, rfl⟩⟩) with ⟨i', σ2, τ2, q1, q2, q3, q4, ⟨Xs, q5⟩, ⟨Ys, q6⟩, _⟩ | ⟨σ2, τ2, q1, q2, q3⟩
  case inr =>
    rw [q1, kt_bs, q2, kt_bs]
    dsimp only
    rw [if_pos rfl, if_pos rfl]
    exact Or.inr (Or.inr (Or.inr ⟨_, _, rfl, rfl, q3 (by omega)⟩))
  have e15 : τ2 0 15 = σ2 1 11 := q4.2.2.2.2.1.1
  have e16 : τ2 0 16 = σ2 1 12 := q4.2.2.2.2.1.2.1
  have hb : kR_bool (σ2 1 12) := q4.2.2.2.2.1.2.2.1
  have hk3' : σ2 4 1 = nI k3 := by
    rw [q5]
    exact hk3
  rw [q1, kt_bs, q2, kt_bs]
  dsimp only
  rw [if_neg ki_10, if_neg ki_10, e15, e16]
  obtain ⟨σ3, τ3, s1, s2, s3, s4, s5, s6, s7⟩ := kU_sign (l1 := 2) (l2 := nI kk) (l3 := X) (l4 := σ2 1 11) (l5 := nI (cc + 1)) (l6 := σ2 1 12) q4 hk3' (by omega) hn (Or.inr rfl) hb
  rw [s1, kt_bs, s2, kt_bs]
  unfold kp_T_signWith_119 kp_T_signWith_179 kp_M_signNext_126 kp_M_signNext_168
  by_cases hc0 : cnt = 0
  · have hle : nI cnt ≤ 0 := by rw [hc0]; decide
    rw [if_pos hle, if_pos hle]
    obtain ⟨σ4, τ4, b1, b2, b3⟩ := kE_answer (m := 5) s3 (by omega) hn (by omega)
    obtain ⟨σ5, τ5, c1, c2, c3⟩ := kO_pair (k := 1) (m := nm) b3 (by omega) (by omega) (by omega)
    obtain ⟨σ6, τ6, d1, d2, d3⟩ := kO_pair (k := 2) (m := kk) c3 (by omega) (by omega) (by omega)
    obtain ⟨σ7, τ7, f1, f2, f3⟩ := kO_pair (k := 3) (m := k3 + 1) d3 (by omega) (by omega) (by omega)
    obtain ⟨σ8, τ8, g1, g2, g3⟩ := kO_pair (k := 4) (m := cc + 1) f3 (by omega) (by omega) (by omega)
    obtain ⟨σx, τx, j1, j2, j3⟩ := kO_pair (k := 6) (m := u) g3 (by omega) (by omega) (by omega)
    have b1' : kp_T_beginAnswer 5 σ3 = some σ4 := b1
    have b2' : kp_M_begin 5 τ3 = some τ4 := b2
    have c1' : kp_B_addPair_12 1 (nI nm) σ4 = some σ5 := c1
    have c2' : kp_M_pair 1 (nI nm) τ4 = some τ5 := c2
    have d1' : kp_B_addPair_12 2 (nI kk) σ5 = some σ6 := d1
    have d2' : kp_M_pair 2 (nI kk) τ5 = some τ6 := d2
    have f1' : kp_B_addPair_12 3 (σ6 4 1) σ6 = some σ7 := by
      rw [kO_s d3 (show ¬ 4 = 12 by omega) (show ¬ 4 = 13 by omega), s4]
      exact f1
    have f2' : kp_M_pair 3 (τ6 0 19) τ6 = some τ7 := by
      rw [kO_t d3 (by omega), s5]
      exact f2
    have g1' : kp_B_addPair_12 4 (nI (cc + 1)) σ7 = some σ8 := g1
    have g2' : kp_M_pair 4 (nI (cc + 1)) τ7 = some τ8 := g2
    have j1' : kp_B_addPair_12 6 (nI u) σ8 = some σx := j1
    have j2' : kp_M_pair 6 (nI u) τ8 = some τx := j2
    rw [b1', kt_bs, b2', kt_bs, c1', kt_bs, c2', kt_bs, d1', kt_bs, d2', kt_bs, f1', kt_bs, f2', kt_bs, g1', kt_bs, g2', kt_bs]
    rw [if_pos hle, if_pos hle, j1', kt_bs, j2', kt_bs]
    exact kOc_an rfl rfl j3 s3 (fun _ => ⟨k3 + 1, by omega, by omega, s4⟩)
  · have hle : ¬ nI cnt ≤ 0 := fun z => by have := (kn_le (b := 0) (by omega) (by omega)).mp z; omega
    rw [if_neg hle, if_neg hle]
    obtain ⟨σ4, τ4, b1, b2, b3⟩ := kE_answer (m := 6) s3 (by omega) hn (by omega)
    obtain ⟨σ5, τ5, c1, c2, c3⟩ := kO_pair (k := 1) (m := nm) b3 (by omega) (by omega) (by omega)
    obtain ⟨σ6, τ6, d1, d2, d3⟩ := kO_pair (k := 2) (m := kk) c3 (by omega) (by omega) (by omega)
    obtain ⟨σ7, τ7, f1, f2, f3⟩ := kO_pair (k := 3) (m := k3 + 1) d3 (by omega) (by omega) (by omega)
    obtain ⟨σ8, τ8, g1, g2, g3⟩ := kO_pair (k := 4) (m := cc + 1) f3 (by omega) (by omega) (by omega)
    obtain ⟨σ9, τ9, h1, h2, h3⟩ := kO_pair (k := 5) (m := cnt) g3 (by omega) (by omega) (by omega)
    obtain ⟨σx, τx, j1, j2, j3⟩ := kO_pair (k := 6) (m := u) h3 (by omega) (by omega) (by omega)
    have b1' : kp_T_beginAnswer 6 σ3 = some σ4 := b1
    have b2' : kp_M_begin 6 τ3 = some τ4 := b2
    have c1' : kp_B_addPair_12 1 (nI nm) σ4 = some σ5 := c1
    have c2' : kp_M_pair 1 (nI nm) τ4 = some τ5 := c2
    have d1' : kp_B_addPair_12 2 (nI kk) σ5 = some σ6 := d1
    have d2' : kp_M_pair 2 (nI kk) τ5 = some τ6 := d2
    have f1' : kp_B_addPair_12 3 (σ6 4 1) σ6 = some σ7 := by
      rw [kO_s d3 (show ¬ 4 = 12 by omega) (show ¬ 4 = 13 by omega), s4]
      exact f1
    have f2' : kp_M_pair 3 (τ6 0 19) τ6 = some τ7 := by
      rw [kO_t d3 (by omega), s5]
      exact f2
    have g1' : kp_B_addPair_12 4 (nI (cc + 1)) σ7 = some σ8 := g1
    have g2' : kp_M_pair 4 (nI (cc + 1)) τ7 = some τ8 := g2
    have h1' : kp_B_addPair_12 5 (nI cnt) σ8 = some σ9 := h1
    have h2' : kp_M_pair 5 (nI cnt) τ8 = some τ9 := h2
    have j1' : kp_B_addPair_12 6 (nI u) σ9 = some σx := j1
    have j2' : kp_M_pair 6 (nI u) τ9 = some τx := j2
    rw [b1', kt_bs, b2', kt_bs, c1', kt_bs, c2', kt_bs, d1', kt_bs, d2', kt_bs, f1', kt_bs, f2', kt_bs, g1', kt_bs, g2', kt_bs]
    rw [if_neg hle, if_neg hle, h1', kt_bs, h2', kt_bs, j1', kt_bs, j2', kt_bs]
    exact kOc_an rfl rfl j3 s3 (fun _ => ⟨k3 + 1, by omega, by omega, s4⟩)
theorem kE_signAt {n i cnt a e : Nat} {σ τ : kt_S} (H : kU n (2 * n) i σ τ) (hn : n + 1 < 10000) (hi : i < 900) (hc : cnt ≤ 6) (hae : a < e) (ha : σ 1 9 = nI a) (he : σ 1 10 = nI e) (he6 : e ≤ 6) : kOc (n + 1) True (kp_T_signWith (σ 14 a) (nI cnt) σ) (kp_M_signNext (nI cnt) τ) := by
  obtain ⟨n1, n2, n3, a', e', n4, n5, n6, n7, n8, n9⟩ := H.2.2.2.2.1
  have ea : a = a' := (kn_eq (by omega) (by omega)).mp (ha.symm.trans n6)
  have ee : e = e' := (kn_eq (by omega) (by omega)).mp (he.symm.trans n7)
  subst ea ee
  obtain ⟨m1, m, m2, m3, m4, m5⟩ := n9 0 (by omega)
  rw [Nat.add_zero] at m1 m4
  obtain ⟨_, _, ⟨k3, f1, f2, f3⟩, _⟩ := H.2.2.2.2.2.1
  obtain ⟨τ', g1, g2, g3, g4⟩ := kE_shift (nI cnt) (nI m) (L := e - a) (by omega) (e - a - 1) 1 100 τ (by omega) (by omega) (by omega) n8
  have e1 : kp_T_signWith (σ 14 a) (nI cnt) σ = kTw (nI m) (nI cnt) (kt_up σ 1 9 (nI (a + 1))) := by
    unfold kp_T_signWith kp_T_signWith_0
    rw [m4, ha, kn_succ]
    rfl
  have e2 : kp_M_signNext (nI cnt) τ = kSn (nI cnt) (nI m) (kt_up τ' 0 13 (nI (e - a - 1))) := by
    unfold kp_M_signNext kp_M_signNext_0
    rw [if_neg (show ¬ ((0 : Int32) < 0 ∨ 6 ≤ (0 : Int32).toNatClampNeg) by decide), show (0 : Int32).toNatClampNeg = 0 by decide, m1, m4]
    exact g1
  have H1 : kU n (2 * n) i (kt_up σ 1 9 (nI (a + 1))) (kt_up τ' 0 13 (nI (e - a - 1))) := by
    refine kU_nx H (fun q h1 h2 => kt_up_ne _ _ _ h1) (fun f h1 _ _ _ => ?_) (fun q h1 h2 => ?_) (fun f _ h1 _ _ => ?_) ?_
    · show upd (σ 1) 9 (nI (a + 1)) f = σ 1 f
      unfold upd
      rw [if_neg h1]
    · rw [kt_up_ne _ _ _ h1, g2 q h2]
    · show upd (τ' 0) 13 (nI (e - a - 1)) f = τ 0 f
      unfold upd
      rw [if_neg h1, g2 0 (by omega)]
    · refine ⟨?_, ?_, n3, a + 1, e, by omega, n5, rfl, n7, ?_, fun j hj => ?_⟩
      · show τ' 0 15 = σ 1 11
        rw [g2 0 (by omega)]
        exact n1
      · show τ' 0 16 = σ 1 12
        rw [g2 0 (by omega)]
        exact n2
      · show nI (e - a - 1) = nI (e - (a + 1))
        rw [show e - a - 1 = e - (a + 1) by omega]
      · have := n9 (j + 1) (by omega)
        rw [show a + 1 + j = a + (j + 1) by omega]
        refine ⟨?_, this.2⟩
        show τ' 4 j = σ 14 (a + (j + 1))
        rw [g3 j (by omega) (by omega)]
        exact this.1
  rw [e1, e2]
  exact kE_signed H1 hn hi m2 (by omega) m5 hc f2 f1
theorem kE_eta {x : Option (Int32 × kt_S)} : (Option.bind x fun y => some (y.1, y.2)) = x := by
  cases x with
  | none => rfl
  | some y => rfl
theorem kE_next {n i : Nat} {σ τ : kt_S} (H : kU n (2 * n) i σ τ) (hn : n + 1 < 10000) (hi : i < 900) : kOc (n + 1) True (kp_T_signNext σ) (kp_M_next τ) := by
  obtain ⟨n1, n2, n3, a, e, n4, n5, n6, n7, n8, n9⟩ := H.2.2.2.2.1
  unfold kp_T_signNext kp_T_signNext_0 kp_T_signNext_27 kp_M_next kp_M_next_0 kp_M_next_16
  rw [n6, n7, n8, if_neg (kn_nn (by omega))]
  by_cases z : a = e
  · rw [if_pos (show nI e ≤ nI a from kn_leR (by omega) (by omega)), if_pos (show nI (e - a) = 0 by rw [show e - a = 0 by omega]; rfl)]
    exact kOc_st (s := 5) (by omega) (by omega) (Nat.le_succ n) hn (by omega) rfl rfl H
  rw [if_neg (show ¬ nI e ≤ nI a from fun y => by have := (kn_le (by omega) (by omega)).mp y; omega), if_neg (show ¬ nI (e - a) = 0 from fun y => by have := (kn_eqL 0 (by omega) (by omega)).mp y; omega), if_pos (show nI a < 6 from (kn_lt (b := 6) (by omega) (by omega)).mpr (by omega)), if_neg (kn_in (by omega) (by omega)), kn_cl (by omega)]
  rw [kE_eta, kE_eta]
  exact kE_signAt (cnt := 0) H hn hi (by omega) (by omega) n6 n7 n5
