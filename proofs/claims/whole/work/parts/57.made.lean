/-! MAKE, from its first check to its answer. -/
theorem kO_s {n E : Nat} {σ0 τ0 σ τ : kt_S} (H : kO n E σ0 τ0 σ τ) {q : Nat} (h1 : ¬ q = 12) (h2 : ¬ q = 13) : σ q = σ0 q := H.2.2.2.2.1 q h1 h2
theorem kO_t {n E : Nat} {σ0 τ0 σ τ : kt_S} (H : kO n E σ0 τ0 σ τ) {f : Nat} (h1 : ¬ f = 12) : τ 0 f = τ0 0 f := H.2.2.2.2.2.2 f h1
theorem kE_answer {n B i m : Nat} {σ τ : kt_S} (H : kU n B i σ τ) (hB : B ≤ 2 * n) (hn : n < 10000) (hm : m < 24) : ∃ σ' τ', kp_T_beginAnswer (nI m) σ = some σ' ∧ kp_M_begin (nI m) τ = some τ' ∧ kO n 2 σ τ σ' τ' := kO_begin (kU_rn H hB (by omega)) (by rw [H.2.1.2.1]; exact ki_10) H.2.2.2.1.1 H.2.2.2.1.2.1 hm
theorem kE_make_put {n i k nm k1 k3 u : Nat} {B : Nat → Nat} {σ τ : kt_S} {X l : Int32} (H : kU n (2 * n) i σ τ) (hn : n + 1 < 10000) (hi : i < 900) (hx : kRx B k σ τ) (y1 : kQy B k σ τ 1) (t1 : σ 9 1 = nI 0) (hk1 : σ 1 13 = nI k1) (hk1t : τ 0 17 = nI k1) (hk1n : k1 ≤ n) (hk3 : σ 4 1 = nI k3) (hk3n : k3 ≤ n) (h1 : 1 ≤ nm) (h6 : nm ≤ 6) (hu : u < 2147483648) (hl : kR_bool l) (hroom : ¬ ks_pg (σ 3) (nI nm) < 0 ∨ ∃ x y, x < 7 ∧ y < 7 ∧ ¬ x = y ∧ σ 3 (6 * x) = -1 ∧ σ 3 (6 * y) = -1) :
    kOc (n + 1) True (Option.bind (kp_S_put (nI nm) X (nI u) ((σ 1 13) + 1) 0 (kt_up σ 1 13 ((σ 1 13) + 1))) fun x11 => if x11.1 = 0 then some (-1, x11.2) else Option.bind (kp_R_numberOf 1 x11.2) fun x12 => Option.bind (kp_G_make 1 ((σ 1 13) + 1) X x12.1 0 l x12.2) fun x13 => Option.bind (kp_T_beginAnswer 3 x13) fun x14 => Option.bind (kp_B_addPair_12 1 (nI nm) x14) fun x15 => Option.bind (kp_B_addPair_12 2 ((σ 1 13) + 1) x15) fun x16 => Option.bind (kp_B_addPair_12 3 (x16 4 1) x16) fun x17 => some (0, x17))
      (Option.bind (kp_M_get 1 (kt_up τ 0 17 ((τ 0 17) + 1))) fun x22 => Option.bind (kp_M_put (nI nm) X (nI u) (x22.2 0 17) 0 x22.2) fun x23 => if x23.1 = 0 then some (-1, x23.2) else (if l = 0 then kp_M_make_376 (nI nm) 0 0 x22.1 X (x23.2 0 17) 1 x23.2 else kp_M_make_376 (nI nm) 1 0 x22.1 X (x23.2 0 17) 1 x23.2)) := by
  rw [hk1, hk1t, kn_succ]
  have H1 : kU (n + 1) (2 * n) i (kt_up σ 1 13 (nI (k1 + 1))) (kt_up τ 0 17 (nI (k1 + 1))) := kU_keys (kU_mono (Nat.le_succ n) (Nat.le_refl _) (by omega) H) (by omega)
  have e17 : kt_up τ 0 17 (nI (k1 + 1)) 0 17 = nI (k1 + 1) := rfl
  rcases kU_put (a := X) (b := nI u) (c := nI (k1 + 1)) (d := 0) H1 hn (by omega) (show nm < 7 by omega) hroom (by omega) (fun z => absurd z (by omega)) (fun _ => ⟨kn_nn hu, ⟨k1 + 1, by omega, rfl⟩, ⟨0, by omega, rfl⟩⟩) with ⟨i', σ2, τ2, p1, p2, p3, p4, ⟨Xs, p5⟩, ⟨Ys, p6⟩, _⟩ | ⟨σ2, τ2, p1, p2, p3⟩
  · subst p5 p6
    have y1' : kQy B k (ks_set (kt_up σ 1 13 (nI (k1 + 1))) Xs) (kt_up τ 0 17 (nI (k1 + 1))) 1 := kQy_of y1 (by omega) (show kRq B k (ks_set (kt_up σ 1 13 (nI (k1 + 1))) Xs) (kt_up τ 0 17 (nI (k1 + 1))) from hx.1) rfl
    obtain ⟨w, w1, w2, w3⟩ := kQ_num (x := 1) (by omega) (Or.inl rfl) y1' t1
    have w2' : kp_R_numberOf 1 (ks_set (kt_up σ 1 13 (nI (k1 + 1))) Xs) = some (nI w, ks_set (kt_up σ 1 13 (nI (k1 + 1))) Xs) := w2
    have w3' : kp_M_get 1 (kt_up τ 0 17 (nI (k1 + 1))) = some (nI w, kt_up τ 0 17 (nI (k1 + 1))) := w3
    have e17' : km_set (kt_up τ 0 17 (nI (k1 + 1))) Ys 0 17 = nI (k1 + 1) := rfl
    rw [w3', kt_bs, p1, kt_bs]
    dsimp only
    rw [e17, p2, kt_bs, if_neg ki_10, w2', kt_bs]
    dsimp only
    rw [if_neg ki_10, e17', kv_ite1 hl (f := fun t => kp_M_make_376 (nI nm) t 0 (nI w) X (nI (k1 + 1)) 1 (km_set (kt_up τ 0 17 (nI (k1 + 1))) Ys))]
    obtain ⟨σ3, τ3, s1, s2, s3, s4, s5, s6, s7⟩ := kU_sign (l1 := 1) (l2 := nI (k1 + 1)) (l3 := X) (l4 := nI w) (l5 := 0) (l6 := l) p4 (show ks_set (kt_up σ 1 13 (nI (k1 + 1))) Xs 4 1 = nI k3 from hk3) (by omega) hn (Or.inl rfl) hl
    obtain ⟨σ4, τ4, b1, b2, b3⟩ := kE_answer (m := 3) s3 (by omega) hn (by omega)
    obtain ⟨σ5, τ5, c1, c2, c3⟩ := kO_pair (k := 1) (m := nm) b3 (by omega) (by omega) (by omega)
    obtain ⟨σ6, τ6, d1, d2, d3⟩ := kO_pair (k := 2) (m := k1 + 1) c3 (by omega) (by omega) (by omega)
    obtain ⟨σ7, τ7, f1, f2, f3⟩ := kO_pair (k := 3) (m := k3 + 1) d3 (by omega) (by omega) (by omega)
    have b1' : kp_T_beginAnswer 3 σ3 = some σ4 := b1
    have b2' : kp_M_begin 3 τ3 = some τ4 := b2
    have c1' : kp_B_addPair_12 1 (nI nm) σ4 = some σ5 := c1
    have c2' : kp_M_pair 1 (nI nm) τ4 = some τ5 := c2
    have d1' : kp_B_addPair_12 2 (nI (k1 + 1)) σ5 = some σ6 := d1
    have d2' : kp_M_pair 2 (τ5 0 17) τ5 = some τ6 := by
      rw [kO_t c3 (by omega), s7 17 (by omega)]
      exact d2
    have f1' : kp_B_addPair_12 3 (σ6 4 1) σ6 = some σ7 := by
      rw [kO_s d3 (show ¬ 4 = 12 by omega) (show ¬ 4 = 13 by omega), s4]
      exact f1
    have f2' : kp_M_pair 3 (τ6 0 19) τ6 = some τ7 := by
      rw [kO_t d3 (by omega), s5]
      exact f2
    unfold kp_M_make_376
    rw [s1, kt_bs, s2, kt_bs, b1', kt_bs, b2', kt_bs, c1', kt_bs, c2', kt_bs, d1', kt_bs, d2', kt_bs, f1', kt_bs, f2', kt_bs]
    exact kOc_an rfl rfl f3 s3 (fun _ => ⟨k3 + 1, by omega, by omega, s4⟩)
  · have y1' : kQy B k (kt_up σ 1 13 (nI (k1 + 1))) (kt_up τ 0 17 (nI (k1 + 1))) 1 := kQy_of y1 (by omega) (show kRq B k (kt_up σ 1 13 (nI (k1 + 1))) (kt_up τ 0 17 (nI (k1 + 1))) from hx.1) rfl
    obtain ⟨w, w1, w2, w3⟩ := kQ_num (x := 1) (by omega) (Or.inl rfl) y1' t1
    have w3' : kp_M_get 1 (kt_up τ 0 17 (nI (k1 + 1))) = some (nI w, kt_up τ 0 17 (nI (k1 + 1))) := w3
    rw [w3', kt_bs, p1, kt_bs]
    dsimp only
    rw [e17, p2, kt_bs]
    dsimp only
    rw [if_pos rfl, if_pos rfl]
    exact Or.inr (Or.inr (Or.inr ⟨_, _, rfl, rfl, p3 (by omega)⟩))
theorem kE_252 {f : Nat} {l a u x : Int32} {τ : kt_S} : kp_M_make_252 (f + 1) l a u x (nI 7) τ = (if x = 0 then some (6, τ) else Option.bind (kp_M_canPut x τ) fun x21 => if x21.1 = 0 then some (6, x21.2) else Option.bind (kp_M_get 1 (kt_up x21.2 0 17 ((x21.2 0 17) + 1))) fun x22 => Option.bind (kp_M_put x a u (x22.2 0 17) 0 x22.2) fun x23 => if x23.1 = 0 then some (-1, x23.2) else (if l = 0 then kp_M_make_376 x 0 0 x22.1 a (x23.2 0 17) 1 x23.2 else kp_M_make_376 x 1 0 x22.1 a (x23.2 0 17) 1 x23.2)) := by
  show kp_M_make_252b (kp_M_make_252 f) _ _ _ _ _ _ = _
  unfold kp_M_make_252b kp_M_make_319
  rw [if_pos (show (7 : Int32) ≤ nI 7 by decide)]
theorem kE_press {n B i : Nat} {σ τ : kt_S} (H : kU n B i σ τ) : kp_T_usePress σ = some (σ 1 6, kt_up σ 1 6 0) := by
  unfold kp_T_usePress kp_T_usePress_0
  exact if_pos H.2.1.2.2.2.1
theorem kE_make_rest {n i k : Nat} {B : Nat → Nat} {σ τ : kt_S} {l : Int32} (H : kU n (2 * n) i σ τ) (hn : n + 1 < 10000) (hi : i < 900) (hx : kRx B k σ τ) (y1 : kQy B k σ τ 1) (t1 : σ 9 1 = nI 0) (y2 : kQy B k σ τ 2) (t2 : σ 9 2 = nI 3) (y3 : kQy B k σ τ 3) (t3 : σ 9 3 = nI 0) (y5 : kQn σ τ 5 ∨ (kQy B k σ τ 5 ∧ σ 9 5 = nI 4)) (hl : kR_bool l) : kOc (n + 1) True (kp_T_makeCredential_55 l σ) (kp_M_make_134 l τ) := by
  obtain ⟨X, x1, x2⟩ := kQ_text hx.2.1 hx.2.2.1 hx.2.2.2.1 (x := 2) (by omega) y2 t2
  have x1' : kp_R_textNumber 2 σ = some (X, σ) := x1
  have x2' : kp_M_textNumber 2 τ = some (X, τ) := x2
  have eτ : kd τ (τ 0 22) (τ 0 23) (τ 0 24) 0 = τ := by
    have := kd_self τ
    rw [hx.2.2.2.2.2] at this
    exact this
  have hex : (kp_T_isExcluded X σ = some (1, σ) ∧ ∃ a M v : Int32, kp_M_make_142 100 l X 1 τ = some (8, kd τ a M v 0)) ∨ (kp_T_isExcluded X σ = some (0, σ) ∧ ∃ a M v : Int32, kp_M_make_142 100 l X 1 τ = kp_M_make_192 l X (kd τ a M v 0)) := by
    unfold kp_T_isExcluded kp_T_isExcluded_0
    rcases y5 with y5 | ⟨y5, t5⟩
    · refine Or.inr ⟨kE_excl0 H y5 X 6 1 100 (by omega) (by omega) (by omega), τ 0 22, τ 0 23, τ 0 24, ?_⟩
      have e : ∀ f, kp_M_make_142 (f + 1) l X 1 τ = kp_M_make_192 l X τ := fun f => by
        show kp_M_make_142b (kp_M_make_142 f) _ _ _ _ = _
        unfold kp_M_make_142b
        have ht : kp_M_there 5 τ = some (0, τ) := y5.2.2
        rw [if_neg (show ¬ (7 : Int32) ≤ 1 by decide), ht, kt_bs]
        dsimp only
        rw [if_pos rfl]
      rw [eτ]
      exact e 99
    · have := kE_excl H hx y5 t5 l X 6 1 100 100 (τ 0 22) (τ 0 23) (τ 0 24) (by omega) (by omega) (by omega) (by omega)
      rw [eτ] at this
      exact this
  unfold kp_T_makeCredential_55 kp_M_make_134
  rw [x1', kt_bs, x2', kt_bs]
  dsimp only
  rcases hex with ⟨u1, a, M, v, u2⟩ | ⟨u1, a, M, v, u2⟩
  · rw [u1, kt_bs, u2]
    dsimp only
    rw [if_neg ki_10]
    exact kOc_st (s := 8) (by omega) (by omega) (Nat.le_succ n) hn (by omega) rfl rfl (kU_kd H)
  rw [u1, kt_bs, u2]
  dsimp only
  rw [if_pos rfl]
  have H0 : kU n (2 * n) i σ (kd τ a M v 0) := kU_kd H
  have hx0 : kRx B k σ (kd τ a M v 0) := ⟨hx.1, hx.2.1, hx.2.2.1, hx.2.2.2.1, hx.2.2.2.2.1, rfl⟩
  generalize kd τ a M v 0 = τ0 at H0 hx0
  have hp6 : τ0 0 6 = σ 1 6 := H0.2.1.2.2.1
  unfold kp_M_make_192
  rw [kE_press H0, kt_bs, hp6]
  dsimp only
  by_cases z : σ 1 6 = 0
  · rw [if_pos z, if_pos z, kt_up_same z]
    exact kOc_st (s := 7) (by omega) (by omega) (Nat.le_succ n) hn (by omega) rfl rfl H0
  rw [if_neg z, if_neg z]
  have H1 : kU n (2 * n) i (kt_up σ 1 6 0) (kt_up τ0 0 6 0) := kU_press H0
  have hx1 : kRx B k (kt_up σ 1 6 0) (kt_up τ0 0 6 0) := hx0
  have y1' : kQy B k (kt_up σ 1 6 0) (kt_up τ0 0 6 0) 1 := kQy_of y1 (by omega) hx1.1 rfl
  have y3' : kQy B k (kt_up σ 1 6 0) (kt_up τ0 0 6 0) 3 := kQy_of y3 (by omega) hx1.1 rfl
  have t1' : kt_up σ 1 6 0 9 1 = nI 0 := t1
  have t3' : kt_up σ 1 6 0 9 3 = nI 0 := t3
  generalize kt_up σ 1 6 0 = σ1 at H1 hx1 y1' y3' t1' t3'
  generalize kt_up τ0 0 6 0 = τ1 at H1 hx1 y1' y3'
  obtain ⟨u, hu, n1, n2⟩ := kQ_num (x := 3) (by omega) (Or.inl rfl) y3' t3'
  have n1' : kp_R_numberOf 3 σ1 = some (nI u, σ1) := n1
  have n2' : kp_M_get 3 τ1 = some (nI u, τ1) := n2
  have hK : kp_T_nameFor X (nI u) σ1 = some (kN_f (kN_fr (σ1 3)) (kN_pm (σ1 3) X (nI u)) 6 7, σ1) := by
    unfold kp_T_nameFor kp_T_nameFor_0
    exact kE_nameK H1 X (nI u) 6 100 7 (by omega) (by omega)
  have hR : kp_M_make_220 100 l X (nI u) 0 6 τ1 = kp_M_make_252 (93 + 1) l X (nI u) (kN_f (kN_fr (σ1 3)) (kN_pm (σ1 3) X (nI u)) 6 0) (nI 7) τ1 := by
    have e1 : kp_M_make_220 100 l X (nI u) 0 6 τ1 = kp_M_make_252 100 l X (nI u) (kN_r (kN_fr (σ1 3)) 6 0) 1 τ1 := kE_nameR H1 l X (nI u) 6 100 0 (by omega) (by omega)
    have e2 : kp_M_make_252 100 l X (nI u) (kN_r (kN_fr (σ1 3)) 6 0) 1 τ1 = kp_M_make_252 94 l X (nI u) (kN_m (kN_pm (σ1 3) X (nI u)) 6 (kN_r (kN_fr (σ1 3)) 6 0)) (nI 7) τ1 := kE_nameM H1 l X (nI u) 6 0 100 (kN_r (kN_fr (σ1 3)) 6 0) (by omega) (by omega)
    rw [e1, e2, kN_eq kN_frpm]
  rw [n1', kt_bs, n2', kt_bs]
  dsimp only
  rw [hK, kt_bs, hR, kE_252]
  dsimp only
  obtain ⟨⟨q1, q1n, q1s, q1t⟩, _, ⟨q3, q3n, q3s, q3t⟩, _⟩ := H1.2.2.2.2.2.1
  rcases kN_two (kN_fr (σ1 3)) (kN_pm (σ1 3) X (nI u)) 6 with ⟨nm, m1, m2, m3⟩ | m3
  · rw [m3, m3]
    obtain ⟨b, r1, r2, r3⟩ := kR_room (σ := σ1) (τ := τ1) (nm := nm) H1.1.2.2.2.1 rfl H1.1.1
    rw [if_neg (show ¬ (6 : Int32) < nI nm from kn_geL (a := 6) (by omega) m2 (by omega)), if_neg (show ¬ nI nm = 0 from fun y => by have := (kn_eqL 0 (by omega) (by omega)).mp y; omega), r1, kt_bs, r2, kt_bs]
    dsimp only
    cases b with
    | false =>
      rw [if_pos (show kb_i false = 0 from rfl), if_pos (show kb_i false = 0 from rfl)]
      exact kOc_st (s := 6) (by omega) (by omega) (Nat.le_succ n) hn (by omega) rfl rfl H1
    | true =>
      rw [if_neg (show ¬ kb_i true = 0 from ki_10), if_neg (show ¬ kb_i true = 0 from ki_10)]
      exact kE_make_put H1 hn hi hx1 y1' t1' q1s q1t q1n q3s q3n m1 m2 hu hl (r3 rfl)
  · rw [m3, m3, if_pos (show (6 : Int32) < 7 by decide), if_pos rfl]
    exact kOc_st (s := 6) (by omega) (by omega) (Nat.le_succ n) hn (by omega) rfl rfl H1
theorem kE_make {n i k : Nat} {B : Nat → Nat} {σ τ : kt_S} (H : kU n (2 * n) i σ τ) (hn : n + 1 < 10000) (hi : i < 900) (hx : kRx B k σ τ) : kOc (n + 1) True (kp_T_makeCredential σ) (kp_M_make τ) := by
  unfold kp_T_makeCredential kp_T_makeCredential_0
  rcases kC_make hx.1 with ⟨z1, z2⟩ | ⟨z1, z2⟩ | ⟨z1, z2, ⟨y1, t1⟩, ⟨y2, t2⟩, ⟨y3, t3⟩, y5, y8⟩
  · rw [z1, kt_bs, z2]
    dsimp only
    rw [if_neg (show ¬ (3 : Int32) = 0 by decide)]
    exact kOc_st (s := 3) (by omega) (by omega) (Nat.le_succ n) hn (by omega) rfl rfl H
  · rw [z1, kt_bs, z2]
    dsimp only
    rw [if_neg (show ¬ (4 : Int32) = 0 by decide)]
    exact kOc_st (s := 4) (by omega) (by omega) (Nat.le_succ n) hn (by omega) rfl rfl H
  rw [z1, kt_bs, z2]
  unfold kMm_rest
  dsimp only
  obtain ⟨w, w1, w2, w3⟩ := kQ_num (x := 2) (by omega) (Or.inr rfl) y2 t2
  have t' : kp_R_textHas 2 1 8 σ = some (if nI w < 1 then 0 else if 8 < nI w then 0 else 1, σ) := kE_textHas w2
  have w3' : kp_M_get 2 τ = some (nI w, τ) := w3
  rw [if_pos rfl, t', kt_bs, w3', kt_bs]
  dsimp only
  rw [w3', kt_bs]
  dsimp only
  by_cases a1 : nI w < 1
  · rw [if_pos a1, if_pos a1, if_pos rfl]
    exact kOc_st (s := 5) (by omega) (by omega) (Nat.le_succ n) hn (by omega) rfl rfl H
  rw [if_neg a1, if_neg a1]
  by_cases a2 : (8 : Int32) < nI w
  · rw [if_pos a2, if_pos rfl, if_neg (show ¬ nI w ≤ 8 from fun z => km_le_lt.mp z a2)]
    exact kOc_st (s := 5) (by omega) (by omega) (Nat.le_succ n) hn (by omega) rfl rfl H
  rw [if_neg a2, if_neg ki_10, if_pos (show nI w ≤ 8 from km_le_lt.mpr a2)]
  unfold kp_M_make_108
  rcases kU_page H 0 with ⟨p, p1, p2, p3, p4, _⟩ | ⟨p2, p3, p4⟩
  · have hh : kp_S_has 0 σ = some (1, σ) := by rw [ks_has, p4, if_neg (kn_pn p1)]
    rw [hh, kt_bs, p3, kt_bs]
    dsimp only
    rw [if_neg ki_10, if_neg (kn_pn p1), if_neg ki_10]
    rcases y8 with y8 | ⟨y8, t8⟩
    · have e1 : kp_T_isTicket 8 σ = some (0, σ) := kE_tickn y8
      have e2 : kp_M_there 8 τ = some (0, τ) := y8.2.2
      rw [e1, kt_bs, e2, kt_bs]
      dsimp only
      rw [if_pos rfl, if_pos rfl]
      exact kOc_st (s := 14) (by omega) (by omega) (Nat.le_succ n) hn (by omega) rfl rfl H
    · obtain ⟨b, b1, b2⟩ := kE_tick (x := 8) (by omega) H.2.1.2.2.2.2.2 y8 t8
      have e1 : kp_T_isTicket 8 σ = some (kb_i b, σ) := b1
      have e3 : kp_M_ticketWrong 8 τ = some (kb_i (!b), τ) := b2
      have e2 : kp_M_there 8 τ = some (1, τ) := by
        obtain ⟨_, _, _, _, z, _⟩ := y8
        exact z
      rw [e1, kt_bs, e2, kt_bs]
      dsimp only
      rw [if_neg ki_10, e3, kt_bs]
      dsimp only
      cases b with
      | false =>
        rw [if_pos (show kb_i false = 0 from rfl), if_neg (show ¬ kb_i (!false) = 0 from ki_10)]
        exact kOc_st (s := 14) (by omega) (by omega) (Nat.le_succ n) hn (by omega) rfl rfl H
      | true =>
        rw [if_neg (show ¬ kb_i true = 0 from ki_10), if_pos (show kb_i (!true) = 0 from rfl)]
        exact kE_make_rest H hn hi hx y1 t1 y2 t2 y3 t3 y5 (Or.inr rfl)
  · have hh : kp_S_has 0 σ = some (0, σ) := by rw [ks_has, p4, if_pos ks_neg1]
    rw [hh, kt_bs, p3, kt_bs]
    dsimp only
    rw [if_pos rfl, if_pos ks_neg1, if_pos rfl]
    exact kE_make_rest H hn hi hx y1 t1 y2 t2 y3 t3 y5 (Or.inl rfl)
