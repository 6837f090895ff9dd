/-! send. -/
theorem kRx_of {B : Nat → Nat} {k P : Nat} {K : Nat → Nat} {σ τ τ' : kt_S} (h30 : τ 0 30 = nI P) (hP : P ≤ 24) (hpr : kPr B k P K σ τ) (hB : kBy B (σ 8)) (hBt : kBy B (τ 2)) (hk : k ≤ 48) (ht : τ 0 10 = nI k) (h25 : τ 0 25 = 0) (hq : ∀ q, ¬ q = 0 → ¬ q = 3 → τ' q = τ q) (h0 : ∀ f, ¬ f = 12 → τ' 0 f = τ 0 f) : kRx B k σ τ' := by
  refine ⟨⟨P, K, ?_, hP, ?_⟩, hB, ?_, hk, ?_, ?_⟩
  · rw [h0 30 (by omega)]
    exact h30
  · unfold kPr
    rw [hq 10 (by omega) (by omega), hq 11 (by omega) (by omega), hq 12 (by omega) (by omega), hq 13 (by omega) (by omega), hq 14 (by omega) (by omega)]
    exact hpr
  · rw [hq 2 (by omega) (by omega)]
    exact hBt
  · rw [h0 10 (by omega)]
    exact ht
  · rw [h0 25 (by omega)]
    exact h25
theorem kU_forget {n B i : Nat} {σ τ : kt_S} (H : kU n B i σ τ) : kU n B i (kt_up (kt_up σ 1 9 0) 1 10 0) (kt_up τ 0 13 0) := by
  obtain ⟨a, b, c, d, ⟨n1, n2, n3, _⟩, f, g, p⟩ := H
  exact ⟨a, b, c, d, ⟨n1, n2, n3, 0, 0, by omega, by omega, rfl, rfl, rfl, fun j hj => absurd hj (by omega)⟩, f, g, kR_par_congr (fun q hq => by rw [kt_up_big (by omega) q hq, kt_up_big (by omega) q hq]) rfl rfl rfl rfl p⟩
theorem kR_empty {n : Nat} {σ τ : kt_S} (H : kR n σ τ) (hp : ¬ σ 1 5 = 0) : kR n (kt_up (kt_up σ 12 1 0) 12 2 0) (kt_up (kt_up τ 0 3 0) 0 12 0) := by
  obtain ⟨a, ⟨b1, b2, b3, b4, b5, b6, b7⟩, c, d, e, f, g, i⟩ := H
  exact ⟨a, ⟨b1, b2, b3, b4, b5, b6, fun z => absurd z hp⟩, c, ⟨0, 0, by omega, by omega, rfl, rfl, rfl, fun j hj => absurd hj (by omega), fun j h1 h2 => absurd h2 (by omega)⟩, e, f, g, kR_par_congr (fun q hq => by rw [kt_up_big (by omega) q hq, kt_up_big (by omega) q hq]) rfl rfl rfl rfl i⟩
theorem kR_serve {n : Nat} {σ τ : kt_S} (H1 : kR n (kt_up (kt_up σ 12 1 0) 12 2 0) (kt_up (kt_up τ 0 3 0) 0 12 0)) (hn : n + 1 < 10000) (h5 : σ 1 5 = 1) (h0 : τ 0 0 = 0) : ∃ r σ' τ', kp_T_serve σ = some (r, σ') ∧ kp_M_request τ = some (r, τ') ∧ τ' 0 0 = 0 ∧ kR (n + 1) σ' τ' ∧ (r = 0 → (σ 8 0 = 1 ∨ σ 8 0 = 2) ∧ ¬ σ 7 2 = 0 → ∃ k : Nat, 1 ≤ k ∧ k < 20000 ∧ σ' 4 1 = nI k) := by
  have eK : kp_T_serve σ = kFin (kp_T_perform (kt_up (kt_up σ 12 1 0) 12 2 0)) := rfl
  obtain ⟨B, k, hk48, hs, ht, hB, hBt⟩ := kR_bytes H1
  have hi1 : kt_up (kt_up σ 12 1 0) 12 2 0 7 1 = 0 := H1.2.2.1.2.1
  -- the command
  have hcmd : ∃ c, c < 256 ∧ kp_R_command (kt_up (kt_up σ 12 1 0) 12 2 0) = some (nI c, kt_up (kt_up σ 12 1 0) 12 2 0) ∧ kp_M_request τ = kp_M_request_27 (nI c) (kt_up (kt_up τ 0 3 0) 0 12 0) ∧ (¬ k = 0 → σ 8 0 = nI c) ∧ (k = 0 → c = 0) := by
    have hleft : kp_B_left_7 (kt_up (kt_up σ 12 1 0) 12 2 0) = some (nI k, kt_up (kt_up σ 12 1 0) 12 2 0) := by
      unfold kp_B_left_7 kp_B_left_7_0
      rw [hs, hi1, Int32.sub_zero]
    have e10 : τ 0 10 = nI k := ht
    have z0 : (0 : Int32).toNatClampNeg = 0 := by decide
    unfold kp_R_command kp_R_command_0 kp_R_command_23 kp_M_request kp_M_request_0
    rw [hleft, kt_bs, e10]
    dsimp only
    by_cases z : k = 0
    · have y : nI k = 0 := by rw [z]; rfl
      refine ⟨0, by omega, ?_, ?_, fun w => absurd z w, fun _ => rfl⟩
      · rw [if_pos y]
        rfl
      · rw [if_pos y]
        rfl
    · have y : ¬ nI k = 0 := fun w => z ((kn_eqL 0 (by omega) (by omega)).mp w)
      have hb0 : σ 8 0 = nI (B 0) := hB.2 0 (by omega)
      have hb0' : kt_up (kt_up σ 12 1 0) 12 2 0 8 0 = nI (B 0) := hB.2 0 (by omega)
      have hb0t : τ 2 0 = nI (B 0) := hBt.2 0 (by omega)
      refine ⟨B 0, hB.1 0, ?_, ?_, fun _ => hb0, fun w => absurd w z⟩
      · rw [if_neg y, if_neg (show ¬ ((0 : Int32) < 0 ∨ 48 ≤ (0 : Int32).toNatClampNeg) by decide), z0, hb0']
      · rw [if_neg y, if_neg (show ¬ ((0 : Int32) < 0 ∨ 48 ≤ (0 : Int32).toNatClampNeg) by decide), z0, hb0t]
  obtain ⟨c, c256, cK, cM, c8, ck⟩ := hcmd
  have hs7 : σ 7 2 = nI k := hs
  rw [eK, cM]
  clear eK cM
  have o1 : kt_up (kt_up σ 12 1 0) 12 2 0 12 1 = nI 0 := rfl
  have o2 : kt_up (kt_up σ 12 1 0) 12 2 0 12 2 = nI 0 := rfl
  have p5 : kt_up (kt_up σ 12 1 0) 12 2 0 1 5 = 1 := h5
  have t3 : kt_up (kt_up τ 0 3 0) 0 12 0 0 3 = nI 0 := rfl
  have t12 : kt_up (kt_up τ 0 3 0) 0 12 0 0 12 = 0 := rfl
  have t0 : kt_up (kt_up τ 0 3 0) 0 12 0 0 0 = 0 := h0
  generalize kt_up (kt_up σ 12 1 0) 12 2 0 = σ1 at H1 hs hB cK o1 o2 p5
  generalize kt_up (kt_up τ 0 3 0) 0 12 0 = τ1 at H1 ht hBt t3 t12 t0
  have hp1 : ¬ σ1 1 5 = 0 := by
    rw [p5]
    exact ki_10
  have ws : ∀ σ2 τ2, kGp σ1 σ2 → kFb τ1 τ2 → kWs (n + 1) σ2 τ2 := fun σ2 τ2 g1 g2 => by
    have h := kR_mono (Nat.le_succ n) hn (kR_frame H1 g1 g2)
    have e1 : σ2 1 = σ1 1 := g1 1 (by omega) (by omega) (by omega) (by omega)
    have e12 : σ2 12 = σ1 12 := g1 12 (by omega) (by omega) (by omega) (by omega)
    have e12t : τ2 0 12 = 0 := (g2.2.2 12 (by omega)).trans t12
    refine ⟨?_, by rw [e1]; exact p5, by rw [e12]; exact o1, by rw [e12]; exact o2, (g2.2.2 0 (by omega)).trans t0⟩
    rw [kt_up_same e12t]
    exact kR_rn h (by rw [e1]; exact hp1)
  rw [kE_27 c256]
  unfold kp_T_perform kp_T_perform_0
  rw [cK, kt_bs]
  dsimp only
  rw [kE_isCommand c256, kt_bs]
  dsimp only
  by_cases hc : c = 1 ∨ c = 2 ∨ c = 4 ∨ c = 6 ∨ c = 7 ∨ c = 8
  case neg =>
    rw [if_neg hc, decide_eq_false hc, if_pos (show kb_i false = 0 from rfl)]
    obtain ⟨σ', τ', f1, f2, f3, f4⟩ := kWs_end (s := 1) (by omega) (by omega) (ws σ1 τ1 (fun _ _ _ _ _ => rfl) (kFb_refl _))
    exact ⟨1, σ', τ', f1, f2, f3, f4, fun z => absurd z (by decide)⟩
  rw [if_pos hc, decide_eq_true hc, if_neg (show ¬ kb_i true = 0 from ki_10)]
  have hk1 : 1 ≤ k := by
    by_cases z : k = 0
    · have := ck z
      omega
    · omega
  have c8' := c8 (by omega)
  unfold kp_M_request_57
  rcases kR_parse hs hB ht hBt hk1 hk48 with ⟨P, K, σ2, τ2, q1, q2, q3, q4, q5, q6, q7, q8⟩ | ⟨σ2, τ2, q1, q2, q3, q4⟩
  case inr =>
    rw [q1, kt_bs, q2, kt_bs]
    dsimp only
    rw [if_pos rfl, if_pos rfl]
    unfold kp_M_request_69
    rw [if_neg (show ¬ (2 : Int32) = 0 by decide)]
    obtain ⟨σ', τ', f1, f2, f3, f4⟩ := kWs_end (s := 2) (by omega) (by omega) (ws σ2 τ2 q3 q4)
    exact ⟨2, σ', τ', f1, f2, f3, f4, fun z => absurd z (by decide)⟩
  rw [q1, kt_bs, q2, kt_bs]
  dsimp only
  rw [if_neg ki_10, if_neg ki_10]
  unfold kp_M_request_69 kp_M_request_94
  rw [if_pos rfl]
  have e1 : σ2 1 = σ1 1 := q3 1 (by omega) (by omega) (by omega) (by omega)
  have e12 : σ2 12 = σ1 12 := q3 12 (by omega) (by omega) (by omega) (by omega)
  have e8 : σ2 8 = σ1 8 := q3 8 (by omega) (by omega) (by omega) (by omega)
  obtain ⟨τ3, b1, b2, b3, b4⟩ := kU_start (kR_frame H1 q3 q4) (by rw [e1]; exact p5) (by rw [e12]; exact o1) (by rw [e12]; exact o2) ((q4.2.2 3 (by omega)).trans t3) ((q4.2.2 0 (by omega)).trans t0)
  have hx : kRx B k σ2 τ3 := kRx_of q6 q7 q8 (by rw [e8]; exact hB) (by rw [q4.1 2 (by omega) (by omega)]; exact hBt) hk48 ((q4.2.2 10 (by omega)).trans ht) q5 b3 b4
  rw [b1, kt_bs]
  have fin : ∀ (sg : Prop) K' M', kOc (n + 1) sg K' M' → ((σ 8 0 = 1 ∨ σ 8 0 = 2) ∧ ¬ σ 7 2 = 0 → sg) → ∃ r σ' τ', kFin K' = some (r, σ') ∧ (Option.bind M' fun x4 => kp_M_request_103 x4.1 x4.2) = some (r, τ') ∧ τ' 0 0 = 0 ∧ kR (n + 1) σ' τ' ∧ (r = 0 → (σ 8 0 = 1 ∨ σ 8 0 = 2) ∧ ¬ σ 7 2 = 0 → ∃ k : Nat, 1 ≤ k ∧ k < 20000 ∧ σ' 4 1 = nI k) := fun sg K' M' h hsg => by
    obtain ⟨r, σ', τ', g1, g2, g3, g4, g5⟩ := kFin_oc hn h
    exact ⟨r, σ', τ', g1, g2, g3, g4, fun z y => g5 z (hsg y)⟩
  have HF := kU_forget b2
  have hxF : kRx B k (kt_up (kt_up σ2 1 9 0) 1 10 0) (kt_up τ3 0 13 0) := hx
  have hfg : kp_T_forgetNext σ2 = some (kt_up (kt_up σ2 1 9 0) 1 10 0) := rfl
  have f9 : kt_up (kt_up σ2 1 9 0) 1 10 0 1 9 = nI 0 := rfl
  have f10 : kt_up (kt_up σ2 1 9 0) 1 10 0 1 10 = nI 0 := rfl
  generalize kt_up (kt_up σ2 1 9 0) 1 10 0 = σ4 at HF hxF hfg f9 f10
  have no : ∀ d : Nat, d = 4 ∨ d = 6 ∨ d = 7 → σ 8 0 = nI d → (σ 8 0 = 1 ∨ σ 8 0 = 2) ∧ ¬ σ 7 2 = 0 → False := fun d hd h8 z => by
    rw [h8] at z
    rcases hd with rfl | rfl | rfl
    · exact absurd z.1 (by decide)
    · exact absurd z.1 (by decide)
    · exact absurd z.1 (by decide)
  rcases hc with rfl | rfl | rfl | rfl | rfl | rfl
  · rw [if_neg (show ¬ nI 1 = 8 by decide), if_neg (show ¬ nI 1 = 8 by decide), hfg, kt_bs, if_neg (show ¬ ((nI 1).toInt < 1 ∨ 6 < (nI 1).toInt) by decide)]
    generalize kt_up τ3 0 13 0 = τ4 at HF hxF
    have eM : kp_M_perform (nI 1) τ4 = kp_M_make τ4 := by
      unfold kp_M_perform kp_M_perform_0
      rw [if_pos (show nI 1 = 1 from rfl), kE_eta]
    rw [eM]
    show ∃ r σ' τ', kFin (Option.bind (kp_T_makeCredential σ4) fun x6 => some (x6.1, x6.2)) = some (r, σ') ∧ _
    rw [kE_eta]
    exact fin True _ _ (kE_make HF hn (by omega) hxF) (fun _ => trivial)
  · rw [if_neg (show ¬ nI 2 = 8 by decide), if_neg (show ¬ nI 2 = 8 by decide), hfg, kt_bs, if_neg (show ¬ ((nI 2).toInt < 1 ∨ 6 < (nI 2).toInt) by decide)]
    generalize kt_up τ3 0 13 0 = τ4 at HF hxF
    have eM : kp_M_perform (nI 2) τ4 = kp_M_ask τ4 := by
      unfold kp_M_perform kp_M_perform_0
      rw [if_neg (show ¬ nI 2 = 1 by decide), if_pos (show nI 2 = 2 from rfl), kE_eta]
    rw [eM]
    show ∃ r σ' τ', kFin (Option.bind (kp_T_signFirst σ4) fun x6 => some (x6.1, x6.2)) = some (r, σ') ∧ _
    rw [kE_eta]
    exact fin True _ _ (kE_ask HF hn (by omega) hxF f9 f10) (fun _ => trivial)
  · rw [if_neg (show ¬ nI 4 = 8 by decide), if_neg (show ¬ nI 4 = 8 by decide), hfg, kt_bs, if_neg (show ¬ ((nI 4).toInt < 1 ∨ 6 < (nI 4).toInt) by decide)]
    generalize kt_up τ3 0 13 0 = τ4 at HF hxF
    have eM : kp_M_perform (nI 4) τ4 = kp_M_info τ4 := by
      unfold kp_M_perform kp_M_perform_0 kp_M_perform_58
      rw [if_neg (show ¬ nI 4 = 1 by decide), if_neg (show ¬ nI 4 = 2 by decide), if_neg (show ¬ nI 4 = 8 by decide), if_neg (show ¬ nI 4 = 6 by decide), if_pos (show nI 4 = 4 from rfl), kE_eta]
    rw [eM]
    show ∃ r σ' τ', kFin (Option.bind (kp_T_tellInfo σ4) fun x6 => some (x6.1, x6.2)) = some (r, σ') ∧ _
    rw [kE_eta]
    exact fin False _ _ (kE_info HF hn) (no 4 (by omega) c8')
  · rw [if_neg (show ¬ nI 6 = 8 by decide), if_neg (show ¬ nI 6 = 8 by decide), hfg, kt_bs, if_neg (show ¬ ((nI 6).toInt < 1 ∨ 6 < (nI 6).toInt) by decide)]
    generalize kt_up τ3 0 13 0 = τ4 at HF hxF
    have eM : kp_M_perform (nI 6) τ4 = kp_M_pin τ4 := by
      unfold kp_M_perform kp_M_perform_0
      rw [if_neg (show ¬ nI 6 = 1 by decide), if_neg (show ¬ nI 6 = 2 by decide), if_neg (show ¬ nI 6 = 8 by decide), if_pos (show nI 6 = 6 from rfl), kE_eta]
    rw [eM]
    show ∃ r σ' τ', kFin (Option.bind (kp_T_doPin σ4) fun x6 => some (x6.1, x6.2)) = some (r, σ') ∧ _
    rw [kE_eta]
    exact fin False _ _ (kE_pin HF hn (by omega) hxF) (no 6 (by omega) c8')
  · rw [if_neg (show ¬ nI 7 = 8 by decide), if_neg (show ¬ nI 7 = 8 by decide), hfg, kt_bs, if_pos (show ((nI 7).toInt < 1 ∨ 6 < (nI 7).toInt) by decide)]
    generalize kt_up τ3 0 13 0 = τ4 at HF hxF
    have eM : kp_M_perform (nI 7) τ4 = kp_M_reset τ4 := by
      unfold kp_M_perform kp_M_perform_0 kp_M_perform_58
      rw [if_neg (show ¬ nI 7 = 1 by decide), if_neg (show ¬ nI 7 = 2 by decide), if_neg (show ¬ nI 7 = 8 by decide), if_neg (show ¬ nI 7 = 6 by decide), if_neg (show ¬ nI 7 = 4 by decide), kE_eta]
    rw [eM, kE_eta]
    exact fin False _ _ (kE_reset HF hn (by omega) (f9.trans f10.symm)) (no 7 (by omega) c8')
  · rw [if_pos (show nI 8 = 8 from rfl), if_pos (show nI 8 = 8 from rfl), kE_eta, kt_up_same (x := τ3 0 13) rfl]
    have eM : kp_M_perform (nI 8) τ3 = kp_M_next τ3 := by
      unfold kp_M_perform kp_M_perform_0
      rw [if_neg (show ¬ nI 8 = 1 by decide), if_neg (show ¬ nI 8 = 2 by decide), if_pos (show nI 8 = 8 from rfl), kE_eta]
    rw [eM]
    exact fin True _ _ (kE_next b2 hn (by omega)) (fun _ => trivial)
theorem kR_send {n : Nat} {σ τ : kt_S} (H : kR n σ τ) (hn : n + 1 < 10000) : kR_may (n + 1) (fun _ => 1) (kp_K_send σ) (kp_M_send τ) := by
  have b1 := H.2.1.1
  have b2 := H.2.1.2.1
  unfold kp_K_send kp_K_send_0 kp_M_send kp_M_send_0 kp_M_send_13 kp_M_send_31
  rw [b1]
  rcases b2 with z | z
  · rw [if_pos z, if_pos z, if_pos z]
    exact Or.inr ⟨0, 0, σ, kt_up τ 0 0 1, rfl, rfl, rfl, kR_mono (Nat.le_succ n) hn (kR_thr H)⟩
  · have z0 : ¬ σ 1 5 = 0 := by
      rw [z]
      exact ki_10
    rw [if_neg z0, if_neg z0, if_neg z0]
    obtain ⟨r, σ', τ', g1, g2, g3, g4, _⟩ := kR_serve (kR_empty (kR_thr (v := 0) H) z0) hn z rfl
    rw [g1, kt_bs, g2, kt_bs]
    exact Or.inl ⟨r, σ', τ', rfl, rfl, g3, g4⟩
