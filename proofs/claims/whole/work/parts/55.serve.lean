/-! Puts and signatures while a request is served; what is asked of the request in changed states. -/
theorem kU_put {n B i nm : Nat} {σ τ : kt_S} {a b c d : Int32} (H : kU n B i σ τ) (hn' : n < 10000) (hB : B + 1 < 1000000) (hn : nm < 7) (hroom : ¬ ks_pg (σ 3) (nI nm) < 0 ∨ ∃ x y, x < 7 ∧ y < 7 ∧ ¬ x = y ∧ σ 3 (6 * x) = -1 ∧ σ 3 (6 * y) = -1) (hi : i + 7 < 999) (hb0 : nm = 0 → ∃ t : Nat, t ≤ 8 ∧ b = nI t) (hb1 : ¬ nm = 0 → (¬ b < 0) ∧ (∃ k : Nat, k ≤ n ∧ c = nI k) ∧ ∃ k : Nat, k ≤ n ∧ d = nI k) :
    (∃ i' σ' τ', kp_S_put (nI nm) a b c d σ = some (1, σ') ∧ kp_M_put (nI nm) a b c d τ = some (1, τ') ∧ i' ≤ i + 7 ∧ kU n (B + 1) i' σ' τ' ∧ (∃ X, σ' = ks_set σ X) ∧ (∃ Y, τ' = km_set τ Y) ∧ ∀ m, m < 7 → ¬ ks_pg (σ 3) (nI m) = -1 → ¬ ks_pg (σ' 3) (nI m) = -1)
    ∨ (∃ σ' τ', kp_S_put (nI nm) a b c d σ = some (0, σ') ∧ kp_M_put (nI nm) a b c d τ = some (0, km_off τ') ∧ (B + 1 ≤ 2 * n → kZ n σ' τ')) := by
  obtain ⟨⟨a1, a2, a3, a4, a5, a6, a0⟩, b1, c1, d1, e1, f1, g1, p1⟩ := H
  have eσ : ks_set σ (σ 3, σ 2 2, σ 2 1) = σ := ks_set_T σ
  have eτ : km_set τ (σ 3, τ 0 3, σ 2 1) = τ := by
    rw [← a1, ← a2]
    exact km_set_T τ
  obtain ⟨ok, g', m', c', w', to, s, k, old, q1, q2, q3, q4, q5, q6, q7, q8, q9, q10, q11, i', q12, q13⟩ := kR_put (σ := σ) (τ := τ) (a := a) (b := b) (c := c) (d := d) (w := σ 2 1) a4 hB hn hroom a5 hi a6
  rw [eσ] at q1
  rw [eτ] at q2
  have hcont : kv_cont g' n := by
    rw [q10]
    refine kv_cont_take a3 a4 hB q6 q7 hn q8 hb0 hb1 (fun o ho => ?_)
    rcases ks_old_cases (σ 3) (nI nm) with ⟨q, h1, _, h3, _⟩ | ⟨_, h2, _⟩
    · rw [q9, h3] at ho
      cases ho
      exact h1
    · rw [q9, h2] at ho
      cases ho
  cases ok with
  | true =>
    have hnames : ∀ m, m < 7 → ¬ ks_pg (σ 3) (nI m) = -1 → ¬ ks_pg g' (nI m) = -1 := fun m hm h => by
      rw [q10, q11 rfl]
      exact kv_names hB hn q8 q7 q6 q9 hm h
    refine Or.inl ⟨i', ks_set σ (g', c', w'), km_set τ (g', m', w'), q1, q2, q12, ⟨⟨rfl, rfl, hcont, q4 rfl, q13, q3, a0⟩, b1, c1, d1, ?_, f1, g1, kR_par_congr (fun q hq => ks_set_ne σ _ (by omega) (by omega)) rfl rfl rfl rfl p1⟩, ⟨_, rfl⟩, ⟨_, rfl⟩, hnames⟩
    obtain ⟨n1, n2, n3, x, y, n4, n5, n6, n7, n8, n9⟩ := e1
    refine ⟨n1, n2, n3, x, y, n4, n5, n6, n7, n8, fun j hj => ?_⟩
    obtain ⟨m1, m, m2, m3, m4, m5⟩ := n9 j hj
    exact ⟨m1, m, m2, m3, m4, hnames m (by omega) m5⟩
  | false =>
    exact Or.inr ⟨ks_set σ (g', c', w'), km_set τ (g', m', w'), q1, q2, fun hB2 => ⟨⟨rfl, rfl, hcont, kv_off_mono hB2 (by omega) q5, a0⟩, ⟨c1.1, c1.2.2.2⟩, ⟨e1.1, e1.2.1, e1.2.2.1⟩, f1, g1, kR_par_congr (fun q hq => ks_set_ne σ _ (by omega) (by omega)) rfl rfl rfl rfl p1⟩⟩
theorem kU_sign {m B i k : Nat} {σ τ : kt_S} {l1 l2 l3 l4 l5 l6 : Int32} (H : kU m B i σ τ) (hk : σ 4 1 = nI k) (hkm : k + 1 ≤ m) (hm : m < 10000) (ht : l1 = 1 ∨ l1 = 2) (h6 : kR_bool l6) : ∃ σ' τ', kp_G_make l1 l2 l3 l4 l5 l6 σ = some σ' ∧ kp_M_sign l1 l2 l3 l4 l5 l6 τ = some τ' ∧ kU m B i σ' τ' ∧ σ' 4 1 = nI (k + 1) ∧ τ' 0 19 = nI (k + 1) ∧ (∀ q, ¬ q = 4 → ¬ q = 5 → σ' q = σ q) ∧ ∀ f, ¬ f = 19 → τ' 0 f = τ 0 f := by
  obtain ⟨a1, b1, c1, d1, e1, ⟨f1, f2, ⟨k', f3, f4, f5⟩, f6⟩, g1, p1⟩ := H
  have hkk : k = k' := (kn_eq (by omega) (by omega)).mp (hk.symm.trans f4)
  subst hkk
  refine ⟨_, _, ks_make hk (by omega) h6, km_sign f5 (by omega), ⟨a1, b1, c1, d1, e1, ⟨f1, f2, ⟨k + 1, hkm, rfl, rfl⟩, f6⟩, kR_sign hk (by omega) ht g1 rfl rfl rfl, kR_par_congr (fun q hq => ?_) rfl rfl rfl rfl p1⟩, rfl, rfl, fun q h4 h5 => ?_, fun f hf => ?_⟩
  · show (if q = 5 then _ else kt_up σ 4 1 (nI (k + 1)) q) = σ q
    rw [if_neg (by omega), kt_up_ne _ _ _ (by omega)]
  · show (if q = 5 then _ else kt_up σ 4 1 (nI (k + 1)) q) = σ q
    rw [if_neg h5, kt_up_ne _ _ _ h4]
  · show upd (τ 0) 19 (nI (k + 1)) f = τ 0 f
    unfold upd
    rw [if_neg hf]
/-! the request, in states that have changed elsewhere -/
def kRx (B : Nat → Nat) (k : Nat) (σ τ : kt_S) : Prop := kRq B k σ τ ∧ kBy B (σ 8) ∧ kBy B (τ 2) ∧ k ≤ 48 ∧ τ 0 10 = nI k ∧ τ 0 25 = 0
theorem kR_hasE {x : Nat} (hx : x ≤ 8) (σ : kt_S) : kp_R_has (nI x) σ = if σ 9 x = -1 then some (0, σ) else some (1, σ) := by
  unfold kp_R_has kp_R_has_0 kp_R_has_24 kp_R_has_25
  rw [if_neg (kn_nn (by omega)), if_neg (show ¬ (8 : Int32) < nI x from kn_geL (a := 8) (by omega) hx (by omega)), if_neg (kn_in (by omega) (by omega)), kn_cl (by omega), if_pos ki_b0, if_pos ki_b1]
theorem kQy_of {B : Nat → Nat} {k x : Nat} {σ τ σ' τ' : kt_S} (h : kQy B k σ τ x) (hx : x ≤ 8) (H : kRq B k σ' τ') (h9 : σ' 9 = σ 9) : kQy B k σ' τ' x := by
  rcases kQ_key H hx with z | z
  · exact z
  · exfalso
    obtain ⟨j, _, _, h1, _⟩ := h
    have h2 := z.2.1
    rw [kR_hasE hx] at h1 h2
    rw [h9] at h2
    by_cases y : σ 9 x = -1
    · rw [if_pos y] at h1
      first | exact (ki_o01 h1).elim | exact (ki_o10 h1).elim
    · rw [if_neg y] at h2
      first | exact (ki_o01 h2).elim | exact (ki_o10 h2).elim
theorem kQn_of {B : Nat → Nat} {k x : Nat} {σ τ σ' τ' : kt_S} (h : kQn σ τ x) (hx : x ≤ 8) (H : kRq B k σ' τ') (h9 : σ' 9 = σ 9) : kQn σ' τ' x := by
  rcases kQ_key H hx with z | z
  · exfalso
    obtain ⟨j, _, _, h1, _⟩ := z
    have h2 := h.2.1
    rw [kR_hasE hx] at h1 h2
    rw [h9] at h1
    by_cases y : σ 9 x = -1
    · rw [if_pos y] at h1
      first | exact (ki_o01 h1).elim | exact (ki_o10 h1).elim
    · rw [if_neg y] at h2
      first | exact (ki_o01 h2).elim | exact (ki_o10 h2).elim
  · exact z
theorem kd_kd {τ : kt_S} {a M v b a' M' v' b' : Int32} : kd (kd τ a M v b) a' M' v' b' = kd τ a' M' v' b' := by
  show kt_up (kt_up (kt_up (kt_up (kd τ a M v b) 0 22 a') 0 23 M') 0 24 v') 0 25 b' = _
  rw [kd_at, kd_ma, kd_nu, kd_ba]
theorem kE_textHas {σ : kt_S} {x : Nat} {lo hi w : Int32} (h : kp_R_numberOf (nI x) σ = some (w, σ)) : kp_R_textHas (nI x) lo hi σ = some (if w < lo then 0 else if hi < w then 0 else 1, σ) := by
  unfold kp_R_textHas kp_R_textHas_0 kp_R_textHas_22 kp_R_textHas_23
  rw [h, kt_bs]
  dsimp only
  rw [h, kt_bs, if_pos ki_b0, if_pos ki_b1]
  dsimp only
  by_cases z : w < lo
  · rw [if_pos z, if_pos z]
  · rw [if_neg z, if_neg z]
    by_cases y : hi < w
    · rw [if_pos y, if_pos y]
    · rw [if_neg y, if_neg y]
theorem kE_tick {B : Nat → Nat} {k x : Nat} {σ τ : kt_S} (hx : x ≤ 8) (h8 : τ 0 8 = σ 1 8) (h : kQy B k σ τ x) (hk : σ 9 x = nI 0) : ∃ b : Bool, kp_T_isTicket (nI x) σ = some (kb_i b, σ) ∧ kp_M_ticketWrong (nI x) τ = some (kb_i (!b), τ) := by
  obtain ⟨w, w1, w2, w3⟩ := kQ_num hx (Or.inl rfl) h hk
  obtain ⟨j, _, _, hh, _⟩ := h
  unfold kp_T_isTicket kp_T_isTicket_0 kp_T_isTicket_37 kp_T_isTicket_38 kp_M_ticketWrong kp_M_ticketWrong_0 kp_M_ticketWrong_19 kp_M_ticketWrong_24
  rw [hh, kt_bs, w3, kt_bs]
  dsimp only
  rw [w2, kt_bs]
  dsimp only
  rw [if_neg ki_10, if_pos ki_b0, if_pos ki_b1, if_pos ki_b0, if_pos ki_b1]
  by_cases z : σ 1 8 = 0
  · rw [if_pos z, if_pos (show τ 0 8 = 0 from h8.trans z)]
    exact ⟨false, rfl, rfl⟩
  · rw [if_neg z, if_neg (show ¬ τ 0 8 = 0 from fun y => z (h8.symm.trans y))]
    by_cases y : nI w = σ 1 8
    · rw [if_pos y, if_pos (show nI w = τ 0 8 from y.trans h8.symm)]
      exact ⟨true, rfl, rfl⟩
    · rw [if_neg y, if_neg (show ¬ nI w = τ 0 8 from fun u => y (u.trans h8))]
      exact ⟨false, rfl, rfl⟩
theorem kE_tickn {x : Nat} {σ τ : kt_S} (h : kQn σ τ x) : kp_T_isTicket (nI x) σ = some (0, σ) := by
  unfold kp_T_isTicket kp_T_isTicket_0 kp_T_isTicket_37 kp_T_isTicket_38
  rw [h.2.1, kt_bs, if_pos ki_b0]
  dsimp only
  rw [if_pos rfl]
  by_cases z : σ 1 8 = 0
  · rw [if_pos z]
  · rw [if_neg z]
theorem kE_nil {x y : Nat} {σ τ : kt_S} (hy : y ≤ 6) (h : kQn σ τ x) : kp_R_lists (nI x) (nI y) σ = some (0, σ) := by
  have e : kp_R_numberOf (nI x) σ = some (0, σ) := by
    unfold kp_R_numberOf kp_R_numberOf_0 kp_R_numberOf_18
    rw [h.2.1, kt_bs]
    dsimp only
    rw [if_pos rfl]
  unfold kp_R_lists kp_R_lists_0 kp_R_lists_18
  rw [e, kt_bs]
  dsimp only
  rw [if_neg (show ¬ ((0 : Int32) >>> (nI y &&& 31)) &&& 1 = 1 from fun z => by
    have := (kn_bit (m := 0) (x := y) (by omega) hy).mp z
    rw [Nat.zero_testBit] at this
    exact absurd this (by decide)), if_pos ki_b0]
theorem kE_cred {n B i : Nat} {σ τ : kt_S} (H : kU n B i σ τ) {m : Nat} (h1 : 1 ≤ m) (hm : m < 7) (party : Int32) : (kp_T_isCredential (nI m) party σ = some (0, σ) ∧ (kp_M_page (nI m) τ = some (-1, τ) ∨ ∃ p d, p < 7 ∧ kp_M_page (nI m) τ = some (nI p, τ) ∧ kp_M_data (nI m) 1 τ = some (d, τ) ∧ ¬ d = party)) ∨ (kp_T_isCredential (nI m) party σ = some (1, σ) ∧ ∃ p, p < 7 ∧ kp_M_page (nI m) τ = some (nI p, τ) ∧ kp_M_data (nI m) 1 τ = some (party, τ) ∧ ks_pg (σ 3) (nI m) = nI p) := by
  have h0 : ¬ nI m = 0 := fun z => by
    have := (kn_eqL 0 (by omega) (by omega)).mp z
    omega
  unfold kp_T_isCredential kp_T_isCredential_0 kp_T_isCredential_34 kp_T_isCredential_35
  rcases kU_page H (nI m) with ⟨p, p1, p2, p3, p4, p5, p6, p7⟩ | ⟨p2, p3, p4⟩
  · obtain ⟨r1, r2⟩ := p7 1 (by omega)
    have r1' : kp_S_read (nI p) 1 σ = some (σ 3 (6 * p + 1), σ) := r1
    have r2' : kp_M_data (nI m) 1 τ = some (σ 3 (6 * p + 1), τ) := r2
    rw [p2, kt_bs]
    dsimp only
    rw [if_neg h0, if_neg (kn_pn p1), r1', kt_bs]
    dsimp only
    rw [if_pos ki_b0, if_pos ki_b1]
    by_cases z : σ 3 (6 * p + 1) = party
    · rw [if_pos z]
      exact Or.inr ⟨rfl, p, p1, p3, by rw [← z]; exact r2', p4⟩
    · rw [if_neg z]
      exact Or.inl ⟨rfl, Or.inr ⟨p, _, p1, p3, r2', z⟩⟩
  · rw [p2, kt_bs]
    dsimp only
    rw [if_neg h0, if_pos ks_neg1, if_pos ki_b0]
    exact Or.inl ⟨rfl, Or.inl p3⟩
