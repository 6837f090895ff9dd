/-! PIN. -/
theorem ks_pg_nn {f : Nat → Int32} {name : Int32} (h : ¬ ks_pg f name = -1) : ¬ ks_pg f name < 0 := by
  rcases ks_old_cases f name with ⟨q, h1, h2, _⟩ | ⟨h1, _⟩
  · rw [h2]
    exact kn_pn h1
  · exact absurd h1 h
/-- whether the new PIN fits, as both see it -/
theorem kE_fits {B : Nat → Nat} {k : Nat} {σ τ : kt_S} (y : kQn σ τ 3 ∨ (kQy B k σ τ 3 ∧ σ 9 3 = nI 3)) : ∃ fit : Bool, kp_R_textHas 3 4 8 σ = some (kb_i fit, σ) ∧ ∀ l t : Int32, ¬ l = 1 → kp_M_pin_106 l t τ = kp_M_pin_171 l t (kb_i fit) τ := by
  rcases y with y | ⟨y, t3⟩
  · have e : kp_R_numberOf (nI 3) σ = some (0, σ) := by
      unfold kp_R_numberOf kp_R_numberOf_0 kp_R_numberOf_18
      rw [y.2.1, kt_bs]
      dsimp only
      rw [if_pos rfl]
    have e2 : kp_R_textHas 3 4 8 σ = some (if (0 : Int32) < 4 then 0 else if (8 : Int32) < 0 then 0 else 1, σ) := kE_textHas e
    have e3 : kp_M_there 3 τ = some (0, τ) := y.2.2
    refine ⟨false, e2, fun l t hl => ?_⟩
    unfold kp_M_pin_106 kp_M_pin_170
    rw [if_neg hl, e3, kt_bs]
    dsimp only
    rw [if_pos rfl]
    rfl
  · obtain ⟨w, w1, w2, w3⟩ := kQ_num (x := 3) (by omega) (Or.inr rfl) y t3
    have e2 : kp_R_textHas 3 4 8 σ = some (if nI w < 4 then 0 else if (8 : Int32) < nI w then 0 else 1, σ) := kE_textHas w2
    have e3 : kp_M_there 3 τ = some (1, τ) := by
      obtain ⟨_, _, _, _, z, _⟩ := y
      exact z
    have e4 : kp_M_get 3 τ = some (nI w, τ) := w3
    have eM : ∀ l t : Int32, ¬ l = 1 → kp_M_pin_106 l t τ = if nI w < 4 then kp_M_pin_171 l t 0 τ else if (8 : Int32) < nI w then kp_M_pin_171 l t 0 τ else kp_M_pin_171 l t 1 τ := fun l t hl => by
      unfold kp_M_pin_106 kp_M_pin_170
      rw [if_neg hl, e3, kt_bs]
      dsimp only
      rw [if_neg ki_10, e4, kt_bs]
      dsimp only
      rw [e4, kt_bs]
    by_cases a : nI w < 4
    · refine ⟨false, by rw [e2, if_pos a]; rfl, fun l t hl => by rw [eM l t hl, if_pos a]; rfl⟩
    · by_cases b : (8 : Int32) < nI w
      · refine ⟨false, by rw [e2, if_neg a, if_pos b]; rfl, fun l t hl => by rw [eM l t hl, if_neg a, if_pos b]; rfl⟩
      · refine ⟨true, by rw [e2, if_neg a, if_neg b]; rfl, fun l t hl => by rw [eM l t hl, if_neg a, if_neg b]; rfl⟩
theorem kE_tries {n i : Nat} {σ τ : kt_S} (H : kU n (2 * n) i σ τ) (hn : n + 1 < 10000) : kOc (n + 1) False (kp_T_tellTries σ) (kp_M_pin_93 1 τ) := by
  have H1 : kU (n + 1) (2 * n) i σ τ := kU_mono (Nat.le_succ n) (Nat.le_refl _) (by omega) H
  obtain ⟨σ4, τ4, b1, b2, b3⟩ := kE_answer (m := 1) H1 (by omega) hn (by omega)
  have b1' : kp_T_beginAnswer 1 σ = some σ4 := b1
  have b2' : kp_M_begin 1 τ = some τ4 := b2
  unfold kp_T_tellTries kp_T_tellTries_0 kp_T_tellTries_37 kp_M_pin_93 kp_M_pin_106 kp_M_pin_134
  rcases kU_page H 0 with ⟨p, p1, p2, p3, p4, p5, p6, p7⟩ | ⟨p2, p3, p4⟩
  · obtain ⟨t, t1, t2⟩ := (H.1.2.2.1 p p1 p5 (H.1.2.2.2.1.2.1 p p1 p5)).1 p6
    obtain ⟨σ5, τ5, c1, c2, c3⟩ := kO_pair (k := 1) (m := t) b3 (by omega) (by omega) (by omega)
    have c1' : kp_B_addPair_12 1 (nI t) σ4 = some σ5 := c1
    have c2' : kp_M_pair 1 (nI t) τ4 = some τ5 := c2
    have r1 : kp_S_read (nI p) 2 σ4 = some (nI t, σ4) := by
      have := ks_read p 2 p1 (by omega) σ4
      rw [kO_s b3 (show ¬ 3 = 12 by omega) (show ¬ 3 = 13 by omega), t2] at this
      exact this
    have r2 : kp_M_data 0 2 τ4 = some (nI t, τ4) := by
      have e1 : τ4 1 = σ 3 := (b3.2.2.2.2.2.1 1 (by omega) (by omega)).trans H.1.1
      have := km_data 0 2 (by omega) τ4 p1 (by rw [e1, kv_page H.1.2.2.2.1.1, p4])
      rw [e1, t2] at this
      exact this
    rw [p2, kt_bs, p3, kt_bs]
    dsimp only
    rw [b1', kt_bs, if_pos (kn_p0 p1), if_neg (kn_pn p1), if_pos rfl, b2', kt_bs, if_neg ki_10, r1, kt_bs, r2, kt_bs]
    dsimp only
    rw [c1', kt_bs, c2', kt_bs]
    exact kOc_an rfl rfl c3 H (fun z => absurd z id)
  · obtain ⟨σ5, τ5, c1, c2, c3⟩ := kO_pair (k := 1) (m := 8) b3 (by omega) (by omega) (by omega)
    have c1' : kp_B_addPair_12 1 8 σ4 = some σ5 := c1
    have c2' : kp_M_pair 1 8 τ4 = some τ5 := c2
    rw [p2, kt_bs, p3, kt_bs]
    dsimp only
    rw [b1', kt_bs, if_neg ki_m0, if_pos ks_neg1, if_pos rfl, b2', kt_bs, if_pos rfl, c1', kt_bs, c2', kt_bs]
    exact kOc_an rfl rfl c3 H (fun z => absurd z id)
theorem ki_31 : ¬ (3 : Int32) = 1 := by decide
theorem kE_setPin {n i k : Nat} {B : Nat → Nat} {σ τ : kt_S} (H : kU n (2 * n) i σ τ) (hn : n + 1 < 10000) (hi : i < 900) (hx : kRx B k σ τ) (y3 : kQy B k σ τ 3) (t3 : σ 9 3 = nI 3) : kOc (n + 1) False (kp_T_setPin σ) (kp_M_pin_93 3 τ) := by
  obtain ⟨fit, f1, f2⟩ := kE_fits (Or.inr ⟨y3, t3⟩)
  have H1 : kU (n + 1) (2 * n) i σ τ := kU_mono (Nat.le_succ n) (Nat.le_refl _) (by omega) H
  unfold kp_T_setPin kp_T_setPin_0 kp_M_pin_93
  rcases kU_page H 0 with ⟨p, p1, p2, p3, p4, p5, p6, p7⟩ | ⟨p2, p3, p4⟩
  · have hh : kp_S_has 0 σ = some (1, σ) := by rw [ks_has, p4, if_neg (kn_pn p1)]
    rw [hh, kt_bs, p3, kt_bs]
    dsimp only
    rw [if_neg ki_10, if_neg (kn_pn p1), f2 3 1 ki_31]
    unfold kp_M_pin_171 kp_M_pin_229
    rw [if_pos rfl, if_neg ki_10]
    exact kOc_st (s := 5) (by omega) (by omega) (Nat.le_succ n) hn (by omega) rfl rfl H
  · have hh : kp_S_has 0 σ = some (0, σ) := by rw [ks_has, p4, if_pos ks_neg1]
    rw [hh, kt_bs, p3, kt_bs]
    dsimp only
    rw [if_pos rfl, if_pos ks_neg1, f2 3 0 ki_31, f1, kt_bs]
    unfold kp_M_pin_171 kp_M_pin_229
    dsimp only
    rw [if_pos rfl, if_pos rfl]
    cases fit with
    | false =>
      rw [if_pos (show kb_i false = 0 from rfl), if_pos (show kb_i false = 0 from rfl)]
      exact kOc_st (s := 15) (by omega) (by omega) (Nat.le_succ n) hn (by omega) rfl rfl H
    | true =>
      rw [if_neg (show ¬ kb_i true = 0 from ki_10), if_neg (show ¬ kb_i true = 0 from ki_10)]
      obtain ⟨b, r1, r2, r3⟩ := kR_room (σ := σ) (τ := τ) (nm := 0) H.1.2.2.2.1 rfl H.1.1
      have r1' : kp_S_hasRoomFor 0 σ = some (kb_i b, σ) := r1
      have r2' : kp_M_canPut 0 τ = some (kb_i b, τ) := r2
      rw [r1', kt_bs, r2', kt_bs]
      dsimp only
      cases b with
      | false =>
        rw [if_pos (show kb_i false = 0 from rfl), if_pos (show kb_i false = 0 from rfl)]
        exact kOc_st (s := 6) (by omega) (by omega) (Nat.le_succ n) hn (by omega) rfl rfl H
      | true =>
        rw [if_neg (show ¬ kb_i true = 0 from ki_10), if_neg (show ¬ kb_i true = 0 from ki_10)]
        obtain ⟨X, x1, x2⟩ := kQ_text hx.2.1 hx.2.2.1 hx.2.2.2.1 (x := 3) (by omega) y3 t3
        have x1' : kp_R_textNumber 3 σ = some (X, σ) := x1
        have x2' : kp_M_textNumber 3 τ = some (X, τ) := x2
        rw [x1', kt_bs, x2', kt_bs]
        dsimp only
        rcases kU_put (nm := 0) (a := X) (b := 8) (c := 0) (d := 0) H1 hn (by omega) (by omega) (r3 rfl) (by omega) (fun _ => ⟨8, by omega, rfl⟩) (fun z => absurd rfl z) with ⟨i', σ2, τ2, q1, q2, q3, q4, _⟩ | ⟨σ2, τ2, q1, q2, q3⟩
        · have q1' : kp_S_put 0 X 8 0 0 σ = some (1, σ2) := q1
          have q2' : kp_M_put 0 X 8 0 0 τ = some (1, τ2) := q2
          rw [q1', kt_bs, q2', kt_bs]
          dsimp only
          rw [if_neg ki_10, if_neg ki_10]
          exact kOc_dn (Nat.le_refl _) hn (by omega) rfl rfl q4
        · have q1' : kp_S_put 0 X 8 0 0 σ = some (0, σ2) := q1
          have q2' : kp_M_put 0 X 8 0 0 τ = some (0, km_off τ2) := q2
          rw [q1', kt_bs, q2', kt_bs]
          dsimp only
          rw [if_pos rfl, if_pos rfl]
          exact Or.inr (Or.inr (Or.inr ⟨_, _, rfl, rfl, q3 (by omega)⟩))
/-- the second put of CHANGE and TICKET, and what follows it -/
theorem kE_second {n i k2 : Nat} {σ τ : kt_S} {X l w : Int32} (H : kU (n + 1) (2 * n + 1) i σ τ) (hn : n + 1 < 10000) (hi : i < 950) (hpg : ¬ ks_pg (σ 3) 0 = -1) (hk : σ 1 14 = nI k2) (hkt : τ 0 18 = nI k2) (hk2 : k2 ≤ n) (hl : (l = 1 ∧ w = 4) ∨ (l = 0 ∧ w = 5)) : kOc (n + 1) False (kp_T_provePin_139 l X σ) (kp_M_tried_100 w X 0 τ) := by
  unfold kp_T_provePin_139 kp_M_tried_100
  rcases kU_put (nm := 0) (a := X) (b := 8) (c := 0) (d := 0) H hn (by omega) (by omega) (Or.inl (ks_pg_nn hpg)) (by omega) (fun _ => ⟨8, by omega, rfl⟩) (fun z => absurd rfl z) with ⟨i', σ2, τ2, q1, q2, q3, q4, ⟨Xs, q5⟩, ⟨Ys, q6⟩, _⟩ | ⟨σ2, τ2, q1, q2, q3⟩
  · have q1' : kp_S_put 0 X 8 0 0 σ = some (1, σ2) := q1
    have q2' : kp_M_put 0 X 8 0 0 τ = some (1, τ2) := q2
    have e14 : σ2 1 14 = nI k2 := by rw [q5]; exact hk
    have e18 : τ2 0 18 = nI k2 := by rw [q6]; exact hkt
    rw [q1', kt_bs, q2', kt_bs]
    dsimp only
    rw [if_neg ki_10, if_neg ki_10]
    rcases hl with ⟨rfl, rfl⟩ | ⟨rfl, rfl⟩
    · rw [if_neg ki_10, if_pos rfl]
      exact kOc_dn (Nat.le_refl _) hn (by omega) rfl rfl (kU_ticket q4)
    · rw [if_pos rfl, if_neg (show ¬ (5 : Int32) = 4 by decide), e14, e18, kn_succ]
      have H2 := kU_tick (k := k2 + 1) q4 (by omega)
      obtain ⟨σ4, τ4, b1, b2, b3⟩ := kE_answer (m := 1) H2 (by omega) hn (by omega)
      obtain ⟨σ5, τ5, c1, c2, c3⟩ := kO_pair (k := 1) (m := k2 + 1) b3 (by omega) (by omega) (by omega)
      have b1' : kp_T_beginAnswer 1 (kt_up (kt_up σ2 1 14 (nI (k2 + 1))) 1 8 (nI (k2 + 1))) = some σ4 := b1
      have b2' : kp_M_begin 1 (kt_up (kt_up τ2 0 18 (nI (k2 + 1))) 0 8 (nI (k2 + 1))) = some τ4 := b2
      have c1' : kp_B_addPair_12 1 (σ4 1 8) σ4 = some σ5 := by
        rw [kO_s b3 (show ¬ 1 = 12 by omega) (show ¬ 1 = 13 by omega)]
        exact c1
      have c2' : kp_M_pair 1 (τ4 0 8) τ4 = some τ5 := by
        rw [kO_t b3 (by omega)]
        exact c2
      rw [b1', kt_bs, b2', kt_bs, c1', kt_bs, c2', kt_bs]
      exact kOc_an rfl rfl c3 H2 (fun z => absurd z id)
  · have q1' : kp_S_put 0 X 8 0 0 σ = some (0, σ2) := q1
    have q2' : kp_M_put 0 X 8 0 0 τ = some (0, km_off τ2) := q2
    rw [q1', kt_bs, q2', kt_bs]
    dsimp only
    rw [if_pos rfl, if_pos rfl]
    exact Or.inr (Or.inr (Or.inr ⟨_, _, rfl, rfl, q3 (by omega)⟩))
theorem kE_tried {n i k t : Nat} {B : Nat → Nat} {σ τ : kt_S} {P l w : Int32} (H : kU n (2 * n) i σ τ) (hn : n + 1 < 10000) (hi : i < 900) (hx : kRx B k σ τ) (y2 : kQy B k σ τ 2) (t2 : σ 9 2 = nI 3) (y3 : w = 4 → kQy B k σ τ 3 ∧ σ 9 3 = nI 3) (hl : (l = 1 ∧ w = 4) ∨ (l = 0 ∧ w = 5)) (hpg : ¬ ks_pg (σ 3) 0 = -1) (d1 : kp_M_data 0 1 τ = some (P, τ)) (d2 : kp_M_data 0 2 τ = some (nI (t + 1), τ)) (ht : t < 8) : kOc (n + 1) False (kp_T_provePin_77 l P (nI (t + 1)) σ) (kp_M_tried w τ) := by
  have H1 : kU (n + 1) (2 * n) i σ τ := kU_mono (Nat.le_succ n) (Nat.le_refl _) (by omega) H
  obtain ⟨_, ⟨k2, k2n, k2s, k2t⟩, _⟩ := H.2.2.2.2.2.1
  unfold kp_T_provePin_77 kp_M_tried kp_M_tried_0
  rw [d1, kt_bs]
  dsimp only
  rw [d2, kt_bs]
  dsimp only
  rw [show nI (t + 1) - 1 = nI t from kn_sub (a := 1) (by omega)]
  rcases kU_put (nm := 0) (a := P) (b := nI t) (c := 0) (d := 0) H1 hn (by omega) (by omega) (Or.inl (ks_pg_nn hpg)) (by omega) (fun _ => ⟨t, by omega, rfl⟩) (fun z => absurd rfl z) with ⟨i', σ2, τ2, q1, q2, q3, q4, ⟨Xs, q5⟩, ⟨Ys, q6⟩, q7⟩ | ⟨σ2, τ2, q1, q2, q3⟩
  case inr =>
    have q1' : kp_S_put 0 P (nI t) 0 0 σ = some (0, σ2) := q1
    have q2' : kp_M_put 0 P (nI t) 0 0 τ = some (0, km_off τ2) := q2
    rw [q1', kt_bs, q2', kt_bs]
    dsimp only
    rw [if_pos rfl, if_pos rfl]
    exact Or.inr (Or.inr (Or.inr ⟨_, _, rfl, rfl, q3 (by omega)⟩))
  have q1' : kp_S_put 0 P (nI t) 0 0 σ = some (1, σ2) := q1
  have q2' : kp_M_put 0 P (nI t) 0 0 τ = some (1, τ2) := q2
  have hpg2 : ¬ ks_pg (σ2 3) 0 = -1 := q7 0 (by omega) hpg
  have hx2 : kRx B k σ2 τ2 := by
    rw [q5, q6]
    exact hx
  have h9 : σ2 9 = σ 9 := by rw [q5]; rfl
  have e14 : σ2 1 14 = nI k2 := by rw [q5]; exact k2s
  have e18 : τ2 0 18 = nI k2 := by rw [q6]; exact k2t
  have e7 : τ2 0 7 = σ2 1 7 := q4.2.1.2.2.2.2.1
  obtain ⟨X, x1, x2⟩ := kQ_text hx2.2.1 hx2.2.2.1 hx2.2.2.2.1 (x := 2) (by omega) (kQy_of y2 (by omega) hx2.1 h9) (by rw [h9]; exact t2)
  have x1' : kp_R_textNumber 2 σ2 = some (X, σ2) := x1
  have x2' : kp_M_textNumber 2 τ2 = some (X, τ2) := x2
  rw [q1', kt_bs, q2', kt_bs]
  dsimp only
  rw [if_neg ki_10, if_neg ki_10, x1', kt_bs, x2', kt_bs]
  dsimp only
  by_cases z : X = P
  · rw [if_pos z, if_pos z]
    have H2 : kU (n + 1) (2 * n + 1) i' (kt_up σ2 1 7 0) (kt_up τ2 0 7 0) := kU_wrong q4
    rcases hl with ⟨rfl, rfl⟩ | ⟨rfl, rfl⟩
    · rw [if_neg ki_10, if_pos rfl]
      obtain ⟨y3, t3⟩ := y3 rfl
      have hx3 : kRx B k (kt_up σ2 1 7 0) (kt_up τ2 0 7 0) := hx2
      obtain ⟨Y, v1, v2⟩ := kQ_text hx3.2.1 hx3.2.2.1 hx3.2.2.2.1 (x := 3) (by omega) (kQy_of y3 (by omega) hx3.1 h9) (show σ2 9 3 = nI 3 by rw [h9]; exact t3)
      have v1' : kp_R_textNumber 3 (kt_up σ2 1 7 0) = some (Y, kt_up σ2 1 7 0) := v1
      have v2' : kp_M_textNumber 3 (kt_up τ2 0 7 0) = some (Y, kt_up τ2 0 7 0) := v2
      rw [v1', kt_bs, v2', kt_bs]
      dsimp only
      exact kE_second H2 hn (by omega) hpg2 e14 e18 k2n (Or.inl ⟨rfl, rfl⟩)
    · rw [if_pos rfl, if_neg (show ¬ (5 : Int32) = 4 by decide)]
      exact kE_second H2 hn (by omega) hpg2 e14 e18 k2n (Or.inr ⟨rfl, rfl⟩)
  · rw [if_neg z, if_neg z]
    unfold kp_T_countWrong kp_T_countWrong_0 kp_T_countWrong_37 kp_M_tried_78
    rw [kE_eta]
    have H2 : kU (n + 1) (2 * n + 1) i' (kt_up (kt_up σ2 1 7 (σ2 1 7 + 1)) 1 8 0) (kt_up (kt_up τ2 0 7 (τ2 0 7 + 1)) 0 8 0) := by
      rw [e7]
      exact kU_ticket (kU_wrong q4)
    by_cases u : nI t = 0
    · rw [if_pos u, if_pos u]
      exact kOc_st (s := 11) (by omega) (by omega) (Nat.le_refl _) hn (by omega) rfl rfl H2
    · rw [if_neg u, if_neg u]
      by_cases v : σ2 1 7 + 1 = 3
      · rw [if_pos v, if_pos (show τ2 0 7 + 1 = 3 by rw [e7]; exact v)]
        exact kOc_st (s := 12) (by omega) (by omega) (Nat.le_refl _) hn (by omega) rfl rfl H2
      · rw [if_neg v, if_neg (show ¬ τ2 0 7 + 1 = 3 by rw [e7]; exact v)]
        exact kOc_st (s := 10) (by omega) (by omega) (Nat.le_refl _) hn (by omega) rfl rfl H2
theorem kE_prove {n i k : Nat} {B : Nat → Nat} {σ τ : kt_S} {l w : Int32} (H : kU n (2 * n) i σ τ) (hn : n + 1 < 10000) (hi : i < 900) (hx : kRx B k σ τ) (y2 : kQy B k σ τ 2) (t2 : σ 9 2 = nI 3) (y3 : kQn σ τ 3 ∨ (kQy B k σ τ 3 ∧ σ 9 3 = nI 3)) (y3' : w = 4 → kQy B k σ τ 3) (hl : (l = 1 ∧ w = 4) ∨ (l = 0 ∧ w = 5)) : kOc (n + 1) False (kp_T_provePin l σ) (kp_M_pin_93 w τ) := by
  obtain ⟨fit, f1, f2⟩ := kE_fits y3
  have hw1 : ¬ w = 1 := by rcases hl with ⟨_, rfl⟩ | ⟨_, rfl⟩ <;> decide
  have hw3 : ¬ w = 3 := by rcases hl with ⟨_, rfl⟩ | ⟨_, rfl⟩ <;> decide
  have y34 : w = 4 → kQy B k σ τ 3 ∧ σ 9 3 = nI 3 := fun z => by
    rcases y3 with y | y
    · exfalso
      obtain ⟨_, _, _, e1, _⟩ := y3' z
      have e2 := y.2.1
      rw [e1] at e2
      first | exact (ki_o01 e2).elim | exact (ki_o10 e2).elim
    · exact y
  have e171 : ∀ t : Int32, kp_M_pin_171 w t (kb_i fit) τ = kp_M_pin_242 w t (kb_i fit) τ := fun t => by
    unfold kp_M_pin_171
    rw [if_neg hw3]
    rcases hl with ⟨_, rfl⟩ | ⟨_, rfl⟩
    · rw [if_pos rfl]
    · rw [if_neg (by decide), if_pos rfl]
  unfold kp_T_provePin kp_T_provePin_0 kp_M_pin_93
  rcases kU_page H 0 with ⟨p, p1, p2, p3, p4, p5, p6, p7⟩ | ⟨p2, p3, p4⟩
  case inr =>
    rw [p2, kt_bs, p3, kt_bs]
    dsimp only
    rw [if_neg ki_m0, if_pos ks_neg1, f2 w 0 hw1, e171]
    unfold kp_M_pin_242
    rw [if_pos rfl]
    exact kOc_st (s := 13) (by omega) (by omega) (Nat.le_succ n) hn (by omega) rfl rfl H
  obtain ⟨t, t1, tt⟩ := (H.1.2.2.1 p p1 p5 (H.1.2.2.2.1.2.1 p p1 p5)).1 p6
  obtain ⟨a1, m1⟩ := p7 1 (by omega)
  obtain ⟨a2, m2⟩ := p7 2 (by omega)
  rw [tt] at a2 m2
  generalize σ 3 (6 * p + 1) = P at a1 m1
  have a1' : kp_S_read (nI p) 1 σ = some (P, σ) := a1
  have a2' : kp_S_read (nI p) 2 σ = some (nI t, σ) := a2
  have m1' : kp_M_data 0 1 τ = some (P, τ) := m1
  have m2' : kp_M_data 0 2 τ = some (nI t, τ) := m2
  have e7 : τ 0 7 = σ 1 7 := H.2.1.2.2.2.2.1
  have hpg : ¬ ks_pg (σ 3) 0 = -1 := by
    rw [p4]
    exact kv_m1 (by omega)
  rw [p2, kt_bs, p3, kt_bs]
  dsimp only
  rw [if_pos (kn_p0 p1), if_neg (kn_pn p1), f2 w 1 hw1, e171, a1', kt_bs]
  dsimp only
  unfold kp_M_pin_242 kp_M_pin_286 kp_M_pin_291
  rw [a2', kt_bs, if_neg ki_10, m2', kt_bs]
  dsimp only
  by_cases z0 : t = 0
  · have z : nI t = 0 := by rw [z0]; rfl
    rw [if_pos z, if_pos z]
    exact kOc_st (s := 11) (by omega) (by omega) (Nat.le_succ n) hn (by omega) rfl rfl H
  have z : ¬ nI t = 0 := fun y => z0 ((kn_eqL 0 (by omega) (by omega)).mp y)
  rw [if_neg z, if_neg z]
  by_cases w3 : σ 1 7 = 3
  · rw [if_pos w3, if_pos (show τ 0 7 = 3 from e7.trans w3)]
    exact kOc_st (s := 12) (by omega) (by omega) (Nat.le_succ n) hn (by omega) rfl rfl H
  rw [if_neg w3, if_neg (show ¬ τ 0 7 = 3 from fun y => w3 (e7.symm.trans y)), kE_eta]
  obtain ⟨t', rfl⟩ := Nat.exists_eq_add_one_of_ne_zero z0
  have hT := kE_tried H hn hi hx y2 t2 y34 hl hpg m1' m2' (by omega)
  rcases hl with ⟨rfl, rfl⟩ | ⟨rfl, rfl⟩
  · rw [if_neg ki_10, if_pos rfl, f1, kt_bs]
    dsimp only
    cases fit with
    | false =>
      rw [if_pos (show kb_i false = 0 from rfl), if_pos (show kb_i false = 0 from rfl)]
      exact kOc_st (s := 15) (by omega) (by omega) (Nat.le_succ n) hn (by omega) rfl rfl H
    | true =>
      rw [if_neg (show ¬ kb_i true = 0 from ki_10), if_neg (show ¬ kb_i true = 0 from ki_10)]
      exact hT
  · rw [if_pos rfl, if_neg (show ¬ (5 : Int32) = 4 by decide)]
    exact hT
theorem kE_pin {n i k : Nat} {B : Nat → Nat} {σ τ : kt_S} (H : kU n (2 * n) i σ τ) (hn : n + 1 < 10000) (hi : i < 900) (hx : kRx B k σ τ) : kOc (n + 1) False (kp_T_doPin σ) (kp_M_pin τ) := by
  unfold kp_T_doPin kp_T_doPin_0 kp_T_doPin_81
  rcases kC_pin hx.1 with ⟨z1, z2⟩ | ⟨z1, z2⟩ | ⟨w, w1, z1, z3, z2, y2, y3, w45, w34⟩
  · rw [z1, kt_bs, z2]
    dsimp only
    rw [if_neg (show ¬ (3 : Int32) = 0 by decide)]
    exact kOc_st (s := 3) (by omega) (by omega) (Nat.le_succ n) hn (by omega) rfl rfl H
  · rw [z1, kt_bs, z2]
    dsimp only
    rw [if_neg (show ¬ (4 : Int32) = 0 by decide)]
    exact kOc_st (s := 4) (by omega) (by omega) (Nat.le_succ n) hn (by omega) rfl rfl H
  rw [z1, kt_bs, z2]
  dsimp only
  rw [if_pos rfl, z3, kt_bs]
  dsimp only
  rw [kn_toInt w1]
  obtain ⟨fit, f1, f2⟩ := kE_fits y3
  have other : ¬ w = 1 → ¬ w = 3 → ¬ w = 4 → ¬ w = 5 → kp_M_pin_93 (nI w) τ = some (5, τ) := fun h1 h3 h4 h5 => by
    have e171 : ∀ t u : Int32, kp_M_pin_171 (nI w) t u τ = some (5, τ) := fun t u => by
      unfold kp_M_pin_171
      rw [if_neg (show ¬ nI w = 3 from fun y => h3 ((kn_eqL 3 (by omega) (by omega)).mp y)), if_neg (show ¬ nI w = 4 from fun y => h4 ((kn_eqL 4 (by omega) (by omega)).mp y)), if_neg (show ¬ nI w = 5 from fun y => h5 ((kn_eqL 5 (by omega) (by omega)).mp y))]
    have hw1 : ¬ nI w = 1 := fun y => h1 ((kn_eqL 1 (by omega) (by omega)).mp y)
    unfold kp_M_pin_93
    rcases kU_page H 0 with ⟨p, p1, p2, p3, p4, _⟩ | ⟨p2, p3, p4⟩
    · rw [p3, kt_bs]
      dsimp only
      rw [if_neg (kn_pn p1), f2 _ _ hw1, e171]
    · rw [p3, kt_bs]
      dsimp only
      rw [if_pos ks_neg1, f2 _ _ hw1, e171]
  have bad : ¬ w = 1 → ¬ w = 3 → ¬ w = 4 → ¬ w = 5 → ∀ K, K = some ((5 : Int32), σ) → kOc (n + 1) False K (kp_M_pin_93 (nI w) τ) := fun h1 h3 h4 h5 K hK => kOc_st (s := 5) (by omega) (by omega) (Nat.le_succ n) hn (by omega) hK (other h1 h3 h4 h5) H
  by_cases hout : ((w : Int) < 1 ∨ 5 < (w : Int))
  · rw [if_pos hout]
    exact bad (by omega) (by omega) (by omega) (by omega) _ rfl
  rw [if_neg hout]
  have hw : w = 1 ∨ w = 2 ∨ w = 3 ∨ w = 4 ∨ w = 5 := by omega
  rcases hw with rfl | rfl | rfl | rfl | rfl
  · show kOc (n + 1) False (Option.bind (kp_T_tellTries σ) fun x3 => some (x3.1, x3.2)) _
    rw [kE_eta]
    exact kE_tries H hn
  · exact bad (by omega) (by omega) (by omega) (by omega) _ rfl
  · show kOc (n + 1) False (Option.bind (kp_T_setPin σ) fun x4 => some (x4.1, x4.2)) _
    rw [kE_eta]
    rcases y3 with y | ⟨y, t3⟩
    · exfalso
      obtain ⟨_, _, _, e1, _⟩ := w34 (Or.inl rfl)
      have e2 := y.2.1
      rw [e1] at e2
      first | exact (ki_o01 e2).elim | exact (ki_o10 e2).elim
    · exact kE_setPin H hn hi hx y t3
  · show kOc (n + 1) False (if nI 4 = 4 then (Option.bind (kp_T_provePin 1 σ) fun x5 => some (x5.1, x5.2)) else (Option.bind (kp_T_provePin 0 σ) fun x5 => some (x5.1, x5.2))) _
    rw [if_pos (show nI 4 = 4 from rfl), kE_eta]
    rcases y2 with y | ⟨y, t2⟩
    · exfalso
      obtain ⟨_, _, _, e1, _⟩ := w45 (Or.inl rfl)
      have e2 := y.2.1
      rw [e1] at e2
      first | exact (ki_o01 e2).elim | exact (ki_o10 e2).elim
    · exact kE_prove H hn hi hx y t2 y3 (fun _ => w34 (Or.inr rfl)) (Or.inl ⟨rfl, rfl⟩)
  · show kOc (n + 1) False (if nI 5 = 4 then (Option.bind (kp_T_provePin 1 σ) fun x5 => some (x5.1, x5.2)) else (Option.bind (kp_T_provePin 0 σ) fun x5 => some (x5.1, x5.2))) _
    rw [if_neg (show ¬ nI 5 = 4 by decide), kE_eta]
    rcases y2 with y | ⟨y, t2⟩
    · exfalso
      obtain ⟨_, _, _, e1, _⟩ := w45 (Or.inr rfl)
      have e2 := y.2.1
      rw [e1] at e2
      first | exact (ki_o01 e2).elim | exact (ki_o10 e2).elim
    · exact kE_prove H hn hi hx y t2 y3 (fun z => absurd z (by decide)) (Or.inr ⟨rfl, rfl⟩)
