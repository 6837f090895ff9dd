/-! A request is served alike. -/
/-- the end of the class's serve -/
noncomputable def kFin (K : Option (Int32 × kt_S)) : Option (Int32 × kt_S) := Option.bind K fun x2 => Option.bind (kp_B_clear_7 x2.2) fun x3 => if x2.1 = -1 then (Option.bind (kp_T_goOff (kt_up x3 2 2 (-1))) fun x7 => kp_T_serve_72 x2.1 x7) else (if x2.1 = 0 then (Option.bind (kp_B_left_12 (kt_up x3 2 2 (-1))) fun x4 => if x4.1 = 0 then (Option.bind (kp_T_beginAnswer 0 x4.2) fun x5 => kp_T_serve_72 x2.1 x5) else kp_T_serve_72 x2.1 x4.2) else (Option.bind (kp_B_add_12 x2.1 (kt_up x3 2 2 (-1))) fun x6 => kp_T_serve_72 x2.1 x6))
def kCl (σ : kt_S) : kt_S := kt_up (kt_up (kt_up σ 7 1 0) 7 2 0) 2 2 (-1)
theorem kCl_ne {σ : kt_S} {q : Nat} (h7 : ¬ q = 7) (h2 : ¬ q = 2) : kCl σ q = σ q := by
  unfold kCl
  rw [kt_up_ne _ _ _ h2, kt_up_ne _ _ _ h7, kt_up_ne _ _ _ h7]
def kCt (τ : kt_S) : kt_S := kt_up (kt_up τ 0 10 0) 0 4 (-1)
theorem kFin_some (r : Int32) (σ : kt_S) : kFin (some (r, σ)) = if r = -1 then some (r, ks_off (kCl σ)) else if r = 0 then (if σ 12 2 - σ 12 1 = 0 then (Option.bind (kp_T_beginAnswer 0 (kCl σ)) fun x5 => some (r, x5)) else some (r, kCl σ)) else Option.bind (kp_B_add_12 r (kCl σ)) fun x6 => some (r, x6) := rfl
/-- the input emptied and the cut put off -/
theorem kR_clear {n : Nat} {σ τ : kt_S} (H : kRn n σ τ) (hp : ¬ σ 1 5 = 0) : kR n (kCl σ) (kCt τ) := by
  obtain ⟨a, ⟨b1, b2, b3, b4, b5, b6, b7⟩, ⟨c1, c2, c3, c4⟩, d, e, f, g, i⟩ := H
  refine ⟨a, ⟨b1, b2, b3, b4, b5, b6, fun z => absurd z hp⟩, ⟨c1, rfl, ⟨0, by omega, rfl, rfl⟩, c4⟩, d, e, f, g, kR_par_congr (fun q hq => ?_) rfl rfl rfl rfl i⟩
  rw [kCl_ne (by omega) (by omega), kt_up_ne _ _ _ (by omega)]
/-- a status is written -/
def kWs (n : Nat) (σ τ : kt_S) : Prop := kRn n σ (kt_up τ 0 12 0) ∧ σ 1 5 = 1 ∧ σ 12 1 = nI 0 ∧ σ 12 2 = nI 0 ∧ τ 0 0 = 0
theorem kWs_end {n s : Nat} {σ τ : kt_S} (h1 : 1 ≤ s) (h2 : s ≤ 15) (H : kWs n σ τ) : ∃ σ' τ', kFin (some (nI s, σ)) = some (nI s, σ') ∧ kp_M_request_103 (nI s) τ = some (nI s, τ') ∧ τ' 0 0 = 0 ∧ kR n σ' τ' := by
  obtain ⟨H, p5, o1, o2, t0⟩ := H
  have hp : ¬ σ 1 5 = 0 := by
    rw [p5]
    exact ki_10
  have ht5 : τ 0 5 = 1 := (show τ 0 5 = σ 1 5 from H.2.1.1).trans p5
  have hsm : ¬ nI s = -1 := kv_m1 (by omega)
  have hs0 : ¬ nI s = 0 := fun z => by
    have := (kn_eqL 0 (by omega) (by omega)).mp z
    omega
  have e1 : kp_B_add_12 (nI s) (kCl σ) = some (kt_up (kt_up (kCl σ) 13 0 (nI s)) 12 2 (nI 1)) := by
    have := ks_add (σ := kCl σ) (e := 0) (by omega) o2 (nI s)
    rw [kn_small (by omega)] at this
    exact this
  have e2 : kp_M_out (nI s) (kt_up τ 0 12 0) = some (kt_up (kt_up (kt_up τ 0 12 0) 3 0 (nI s)) 0 12 (nI 1)) := km_out_eq (k := 0) (by omega) rfl (nI s)
  refine ⟨kt_up (kt_up (kCl σ) 13 0 (nI s)) 12 2 (nI 1), kCt (kt_up (kt_up (kt_up τ 0 12 0) 3 0 (nI s)) 0 12 (nI 1)), ?_, ?_, t0, ?_⟩
  · rw [kFin_some, if_neg hsm, if_neg hs0, e1, kt_bs]
  · unfold kp_M_request_103 kp_M_request_126
    rw [ht5, if_neg ki_10, if_neg hs0, e2, kt_bs]
    rfl
  · have hc := kR_clear H hp
    obtain ⟨_, ho⟩ := kO_out (σ := kCl σ) (τ := kCt (kt_up τ 0 12 0)) (e := 0) (b := s) (by omega) (by omega) o1 o2 hc.2.2.2.1
    refine kR_swap hc (fun k hk => ?_) (fun q h0 h3 => ?_) (fun q h12 h13 => ?_) ho hp
    · show upd (upd (upd (upd (τ 0) 12 0) 12 (nI 1)) 10 0) 4 (-1) k = upd (upd (upd (τ 0) 12 0) 10 0) 4 (-1) k
      unfold upd
      rw [if_neg hk, if_neg hk]
    · unfold kCt
      simp only [kt_up_ne _ _ _ h0, kt_up_ne _ _ _ h3]
    · rw [kt_up_ne _ _ _ h12, kt_up_ne _ _ _ h13]
theorem kU_ws {n i : Nat} {σ τ : kt_S} (H : kU n (2 * n) i σ τ) (hn : n < 10000) : kWs n σ τ := ⟨kU_rn H (Nat.le_refl _) (by omega), H.2.1.2.1, H.2.2.2.1.1, H.2.2.2.1.2.1, H.1.2.2.2.2.2.2⟩
theorem kZ_cl {n : Nat} {σ τ : kt_S} (H : kZ n σ τ) : kZ n (kCl σ) τ := by
  obtain ⟨a, b, c, f, g, p⟩ := H
  exact ⟨a, b, c, f, g, kR_par_congr (fun q hq => kCl_ne (by omega) (by omega)) rfl rfl rfl rfl p⟩
theorem kFin_oc {n : Nat} {sg : Prop} {K M : Option (Int32 × kt_S)} (hn : n < 10000) (h : kOc n sg K M) : ∃ r σ' τ', kFin K = some (r, σ') ∧ (Option.bind M fun x4 => kp_M_request_103 x4.1 x4.2) = some (r, τ') ∧ τ' 0 0 = 0 ∧ kR n σ' τ' ∧ (r = 0 → sg → ∃ k : Nat, 1 ≤ k ∧ k < 20000 ∧ σ' 4 1 = nI k) := by
  rcases h with ⟨E, σ0, τ0, σ, τ, hK, hM, hO, hE, ht0, hsg⟩ | ⟨i, σ, τ, hK, hM, H, hsg⟩ | ⟨s, i, σ, τ, s1, s2, hK, hM, H⟩ | ⟨σ, τ, hK, hM, H⟩
  · obtain ⟨R, hp, ⟨e, e1, e2, e3⟩, o1, _⟩ := hO
    have ht5 : ¬ τ 0 5 = 0 := by
      rw [show τ 0 5 = σ 1 5 from R.2.1.1]
      exact hp
    refine ⟨0, kCl σ, kCt τ, ?_, ?_, ht0, kR_clear R hp, fun _ z => hsg z⟩
    · rw [hK, kFin_some, if_neg (show ¬ (0 : Int32) = -1 by decide), if_pos rfl, e3, o1, kn_sub (by omega), if_neg (fun z => by
        have := (kn_eqL 0 (by omega) (by omega)).mp z
        omega)]
    · rw [hM, kt_bs]
      dsimp only
      unfold kp_M_request_103 kp_M_request_126
      rw [if_neg ht5, if_pos rfl]
      rfl
  · have hp : ¬ σ 1 5 = 0 := by
      rw [H.2.1.2.1]
      exact ki_10
    have ht5 : ¬ τ 0 5 = 0 := by
      rw [H.2.1.1]
      exact ki_10
    obtain ⟨o1, o2, o3, o4, o5⟩ := H.2.2.2.1
    have b1 : kp_B_add_12 0 (kCl σ) = some (kt_up (kt_up (kCl σ) 13 0 (nI 0)) 12 2 (nI 1)) := ks_add (σ := kCl σ) (e := 0) (by omega) o2 0
    have b2 : kp_B_addHead_12 5 0 (kt_up (kt_up (kCl σ) 13 0 (nI 0)) 12 2 (nI 1)) = some (kt_up (kt_up (kt_up (kt_up (kCl σ) 13 0 (nI 0)) 12 2 (nI 1)) 13 1 (nI 160)) 12 2 (nI 2)) := by
      have h1 := ks_head0 (m := 5) (v := 0) (by omega) (kt_up (kt_up (kCl σ) 13 0 (nI 0)) 12 2 (nI 1))
      have h2 := ks_add (σ := kt_up (kt_up (kCl σ) 13 0 (nI 0)) 12 2 (nI 1)) (e := 1) (by omega) rfl (nI 160)
      rw [kn_small (by omega)] at h2
      exact h1.trans h2
    refine ⟨0, kt_up (kt_up (kt_up (kt_up (kCl σ) 13 0 (nI 0)) 12 2 (nI 1)) 13 1 (nI 160)) 12 2 (nI 2), kCt τ, ?_, ?_, H.1.2.2.2.2.2.2, ?_, fun _ z => absurd z hsg⟩
    · rw [hK, kFin_some, if_neg (show ¬ (0 : Int32) = -1 by decide), if_pos rfl, o1, o2, if_pos (show nI 0 - nI 0 = 0 by decide)]
      unfold kp_T_beginAnswer kp_T_beginAnswer_0
      rw [b1, kt_bs, b2, kt_bs, kt_bs]
    · rw [hM, kt_bs]
      dsimp only
      unfold kp_M_request_103 kp_M_request_126
      rw [if_neg ht5, if_pos rfl]
      rfl
    · have hc := kR_clear (kU_rn H (Nat.le_refl _) (by omega)) hp
      refine kR_swap hc (fun k hk => ?_) (fun q h0 h3 => ?_) (fun q h12 h13 => ?_) ?_ hp
      · show upd (upd (τ 0) 10 0) 4 (-1) k = upd (upd (upd (τ 0) 12 0) 10 0) 4 (-1) k
        unfold upd
        rw [if_neg hk]
      · unfold kCt
        simp only [kt_up_ne _ _ _ h0]
      · rw [kt_up_ne _ _ _ h12, kt_up_ne _ _ _ h13, kt_up_ne _ _ _ h12, kt_up_ne _ _ _ h13]
      · refine ⟨0, 2, by omega, by omega, o1, rfl, o3, fun j hj => ?_, fun j _ hj => ?_⟩
        · have : j = 0 ∨ j = 1 := by omega
          rcases this with rfl | rfl
          · exact o4
          · exact o5
        · have : j = 0 ∨ j = 1 := by omega
          rcases this with rfl | rfl
          · exact ⟨0, by omega, rfl⟩
          · exact ⟨160, by omega, rfl⟩
  · obtain ⟨σ', τ', f1, f2, f3, f4⟩ := kWs_end s1 s2 (kU_ws H hn)
    refine ⟨nI s, σ', τ', by rw [hK]; exact f1, by rw [hM, kt_bs]; exact f2, f3, f4, fun z => ?_⟩
    have := (kn_eqL 0 (by omega) (by omega)).mp z
    omega
  · refine ⟨-1, ks_off (kCl σ), km_off τ, ?_, ?_, H.1.2.2.2.2, kZ_off (kZ_cl H), fun z => absurd z (by decide)⟩
    · rw [hK, kFin_some, if_pos rfl]
    · rw [hM, kt_bs]
      dsimp only
      unfold kp_M_request_103
      rw [if_pos (show km_off τ 0 5 = 0 from rfl)]
/-! how a request begins -/
theorem kR_rn {n : Nat} {σ τ : kt_S} (H : kR n σ τ) (hp : ¬ σ 1 5 = 0) : kRn n σ τ := by
  obtain ⟨⟨a1, a2, a3, a4, a5, a6, a7⟩, ⟨b1, b2, b3, b4, b5, b6, b7⟩, c, d, e, f, g, i⟩ := H
  exact ⟨⟨a1, a2, rfl, Or.inl rfl, a5, a6, a7⟩, ⟨b1, b2, b3, b4, b5, b6, fun z => absurd z hp⟩, c, d, e, f, g, kR_par_congr (kt_up_big (by omega)) rfl rfl rfl rfl i⟩
theorem kU_start {n : Nat} {σ τ : kt_S} (H : kR n σ τ) (h5 : σ 1 5 = 1) (o1 : σ 12 1 = nI 0) (o2 : σ 12 2 = nI 0) (h3 : τ 0 3 = nI 0) (h0 : τ 0 0 = 0) : ∃ τ', kp_M_begin 0 τ = some τ' ∧ kU n (2 * n) 0 σ τ' ∧ (∀ q, ¬ q = 0 → ¬ q = 3 → τ' q = τ q) ∧ ∀ f, ¬ f = 12 → τ' 0 f = τ 0 f := by
  have e1 : kp_M_out 0 (kt_up τ 0 12 0) = some (kt_up (kt_up (kt_up τ 0 12 0) 3 0 0) 0 12 (nI 1)) := km_out_eq (k := 0) (by omega) rfl 0
  have e2 : kp_M_out (160 + 0) (kt_up (kt_up (kt_up τ 0 12 0) 3 0 0) 0 12 (nI 1)) = some (kt_up (kt_up (kt_up (kt_up (kt_up τ 0 12 0) 3 0 0) 0 12 (nI 1)) 3 1 (160 + 0)) 0 12 (nI 2)) := km_out_eq (k := 1) (by omega) rfl (160 + 0)
  refine ⟨kt_up (kt_up (kt_up (kt_up (kt_up τ 0 12 0) 3 0 0) 0 12 (nI 1)) 3 1 (160 + 0)) 0 12 (nI 2), ?_, ?_, fun q h0 h3 => ?_, fun f hf => ?_⟩
  · unfold kp_M_begin kp_M_begin_0
    rw [e1, kt_bs, e2, kt_bs]
  · obtain ⟨⟨a1, a2, a3, a4, a5, a6, a7⟩, ⟨b1, b2, b3, b4, b5, b6, b7⟩, c, d, e, f, g, i⟩ := H
    refine ⟨⟨a1, a2, a5, a6 h5, h3, ?_, h0⟩, ⟨b1.trans h5, h5, b3, b4, b5, b6⟩, c, ⟨o1, o2, rfl, rfl, rfl⟩, e, f, g, kR_par_congr (fun q hq => rfl) rfl rfl rfl rfl i⟩
    show kv_cut (τ 0 4) (τ 0 3) (σ 2 2)
    refine ⟨0, by omega, h3, ?_⟩
    rcases a4 with z | ⟨k, k1, k2⟩
    · exact Or.inl ⟨a3.trans z, z⟩
    · exact Or.inr ⟨k, by omega, by rw [Nat.zero_add, a3, k2], k2⟩
  · rw [kt_up_ne _ _ _ h0, kt_up_ne _ _ _ h3, kt_up_ne _ _ _ h0, kt_up_ne _ _ _ h3, kt_up_ne _ _ _ h0]
  · show upd (upd (upd (τ 0) 12 0) 12 (nI 1)) 12 (nI 2) f = τ 0 f
    unfold upd
    rw [if_neg hf, if_neg hf, if_neg hf]
theorem kE_isCommand {c : Nat} (hc : c < 256) (σ : kt_S) : kp_T_isCommand (nI c) σ = some (kb_i (decide (c = 1 ∨ c = 2 ∨ c = 4 ∨ c = 6 ∨ c = 7 ∨ c = 8)), σ) := by
  have ne : ∀ d : Nat, d < 256 → ¬ c = d → ¬ nI c = nI d := fun d hd h z => h ((kn_eq (by omega) (by omega)).mp z)
  unfold kp_T_isCommand kp_T_isCommand_0 kp_T_isCommand_33 kp_T_isCommand_38
  rw [if_pos ki_b0, if_pos ki_b1]
  by_cases h : c = 1 ∨ c = 2 ∨ c = 4 ∨ c = 6 ∨ c = 7 ∨ c = 8
  · rw [decide_eq_true h]
    rcases h with rfl | rfl | rfl | rfl | rfl | rfl <;> rfl
  · rw [decide_eq_false h, if_neg (show ¬ nI c = 1 from ne 1 (by omega) (by omega)), if_neg (show ¬ nI c = 2 from ne 2 (by omega) (by omega)), if_neg (show ¬ nI c = 4 from ne 4 (by omega) (by omega)), if_neg (show ¬ nI c = 6 from ne 6 (by omega) (by omega)), if_neg (show ¬ nI c = 7 from ne 7 (by omega) (by omega)), if_neg (show ¬ nI c = 8 from ne 8 (by omega) (by omega))]
    rfl
theorem kE_27 {c : Nat} (hc : c < 256) (τ : kt_S) : kp_M_request_27 (nI c) τ = if c = 1 ∨ c = 2 ∨ c = 4 ∨ c = 6 ∨ c = 7 ∨ c = 8 then kp_M_request_57 (nI c) τ else kp_M_request_103 1 τ := by
  have ne : ∀ d : Nat, d < 256 → ¬ c = d → ¬ nI c = nI d := fun d hd h z => h ((kn_eq (by omega) (by omega)).mp z)
  unfold kp_M_request_27
  by_cases h : c = 1 ∨ c = 2 ∨ c = 4 ∨ c = 6 ∨ c = 7 ∨ c = 8
  · rw [if_pos h]
    rcases h with rfl | rfl | rfl | rfl | rfl | rfl
    · rw [if_pos (show nI 1 = 1 from rfl)]
    · rw [if_neg (by decide), if_pos (show nI 2 = 2 from rfl)]
    · rw [if_neg (by decide), if_neg (by decide), if_pos (show nI 4 = 4 from rfl)]
    · rw [if_neg (by decide), if_neg (by decide), if_neg (by decide), if_neg (by decide), if_neg (by decide)]
    · rw [if_neg (by decide), if_neg (by decide), if_neg (by decide), if_neg (by decide), if_neg (by decide)]
    · rw [if_neg (by decide), if_neg (by decide), if_neg (by decide), if_neg (by decide), if_neg (by decide)]
  · rw [if_neg h, if_neg (show ¬ nI c = 1 from ne 1 (by omega) (by omega)), if_neg (show ¬ nI c = 2 from ne 2 (by omega) (by omega)), if_neg (show ¬ nI c = 4 from ne 4 (by omega) (by omega))]
    by_cases z : c < 6
    · rw [if_pos (show nI c < 6 from (kn_lt (b := 6) (by omega) (by omega)).mpr z)]
    · rw [if_neg (show ¬ nI c < 6 from kn_geL (b := 6) (by omega) (by omega) (by omega)), if_pos (show (8 : Int32) < nI c from (kn_lt (a := 8) (by omega) (by omega)).mpr (by omega))]
