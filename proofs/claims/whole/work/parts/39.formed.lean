/-! A request is well formed for both or for neither, and both keep the same of it. -/
theorem kA_loop {l : Int32} : ∀ (m i f : Nat) (σ : kt_S), i + m = 9 → m < f → ∃ σ', kp_A_fill_5 f l (nI i) (Int32.ofNat 9) σ = some σ' ∧ (∀ q, ¬ q = 9 → σ' q = σ q) ∧ (∀ x, i ≤ x → x < 9 → σ' 9 x = l) ∧ ∀ x, x < i → σ' 9 x = σ 9 x := by
  intro m
  induction m with
  | zero =>
    intro i f σ hi hf
    obtain ⟨f, rfl⟩ := Nat.exists_eq_add_one_of_ne_zero (Nat.ne_of_gt hf)
    refine ⟨σ, ?_, fun _ _ => rfl, fun x h1 h2 => absurd h2 (by omega), fun _ _ => rfl⟩
    show kp_A_fill_5b (kp_A_fill_5 f) _ _ _ _ = _
    unfold kp_A_fill_5b
    rw [if_pos (show Int32.ofNat 9 ≤ nI i from kn_leR (a := 9) (by omega) (by omega))]
  | succ m ih =>
    intro i f σ hi hf
    obtain ⟨f, rfl⟩ := Nat.exists_eq_add_one_of_ne_zero (show ¬ f = 0 by omega)
    obtain ⟨σ', g1, g2, g3, g4⟩ := ih (i + 1) f (kt_up σ 9 i l) (by omega) (by omega)
    have h9 : ∀ x, kt_up σ 9 i l 9 x = if x = i then l else σ 9 x := fun x => rfl
    refine ⟨σ', ?_, fun q hq => (g2 q hq).trans (kt_up_ne _ _ _ hq), fun x h1 h2 => ?_, fun x hx => ?_⟩
    · show kp_A_fill_5b (kp_A_fill_5 f) _ _ _ _ = _
      unfold kp_A_fill_5b
      rw [if_neg (show ¬ Int32.ofNat 9 ≤ nI i from fun z => by have := (kn_le (a := 9) (by omega) (by omega)).mp z; omega), if_neg (kn_in (by omega) (by omega)), kn_cl (by omega), kn_succ]
      exact g1
    · by_cases z : x = i
      · rw [g4 x (by omega), h9, if_pos z]
      · exact g3 x (by omega) h2
    · rw [g4 x (by omega), h9, if_neg (by omega)]
theorem kA_fill (l : Int32) (σ : kt_S) : ∃ σ', kp_A_fill l σ = some σ' ∧ (∀ q, ¬ q = 9 → σ' q = σ q) ∧ ∀ x, x ≤ 8 → σ' 9 x = l := by
  obtain ⟨σ', g1, g2, g3, _⟩ := kA_loop (l := l) 9 0 100 σ (by omega) (by omega)
  exact ⟨σ', g1, g2, fun x hx => g3 x (by omega) (by omega)⟩
def kGp (σ σ' : kt_S) : Prop := ∀ q, ¬ q = 6 → ¬ q = 9 → ¬ q = 10 → ¬ q = 11 → σ' q = σ q
theorem kc_ne {σ : kt_S} {a M v : Int32} {q : Nat} (h : ¬ q = 6) : kc σ a M v q = σ q := by
  unfold kc
  rw [kt_up_ne _ _ _ h, kt_up_ne _ _ _ h, kt_up_ne _ _ _ h]
theorem kPr_kc {B : Nat → Nat} {k P : Nat} {K : Nat → Nat} {σ τ : kt_S} {a M v a' M' v' b' : Int32} (h : kPr B k P K σ τ) : kPr B k P K (kc σ a M v) (kd τ a' M' v' b') := h
theorem kR_parse {B : Nat → Nat} {k : Nat} {σ τ : kt_S} (hs : σ 7 2 = nI k) (hB : kBy B (σ 8)) (ht : τ 0 10 = nI k) (hBt : kBy B (τ 2)) (hk : 1 ≤ k) (hk48 : k ≤ 48) : (∃ (P : Nat) (K : Nat → Nat) (σ' τ' : kt_S), kp_R_parse σ = some (1, σ') ∧ kp_M_formed τ = some (1, τ') ∧ kGp σ σ' ∧ kFb τ τ' ∧ τ' 0 25 = 0 ∧ τ' 0 30 = nI P ∧ P ≤ 24 ∧ kPr B k P K σ' τ') ∨ (∃ σ' τ', kp_R_parse σ = some (0, σ') ∧ kp_M_formed τ = some (0, τ') ∧ kGp σ σ' ∧ kFb τ τ') := by
  obtain ⟨σ1, a1, a2, a3⟩ := kA_fill (-1) σ
  have hs1 : σ1 7 2 = nI k := by rw [a2 7 (by omega)]; exact hs
  have hB1 : kBy B (σ1 8) := by rw [a2 8 (by omega)]; exact hB
  have e0 : kt_up σ1 6 4 1 = kc σ1 (nI 1) (σ1 6 5) (σ1 6 6) := by
    unfold kc
    rw [kt_up_same (k := 5) (show kt_up σ1 6 4 (nI 1) 6 5 = σ1 6 5 from rfl), kt_up_same (k := 6) (show kt_up σ1 6 4 (nI 1) 6 6 = σ1 6 6 from rfl)]
    rfl
  have hgp : ∀ σ2 a M v, kGs σ1 σ2 → kGp σ (kc σ2 a M v) := fun σ2 a M v h q h6 h9 h10 h11 => by
    rw [kc_ne h6, h q h9 h10 h11, a2 q h9]
  have t0 : kt_up (kt_up (kt_up τ 0 30 0) 0 22 1) 0 25 0 = kd (kt_up τ 0 30 0) (nI 1) (τ 0 23) (τ 0 24) 0 := by
    unfold kd
    rw [kt_up_same (k := 23) (show kt_up (kt_up τ 0 30 0) 0 22 (nI 1) 0 23 = τ 0 23 from rfl), kt_up_same (k := 24) (show kt_up (kt_up τ 0 30 0) 0 22 (nI 1) 0 24 = τ 0 24 from rfl)]
    rfl
  have fb0 : kFb τ (kt_up τ 0 30 0) := kFb_fld (kFb_refl τ) (by omega) (by omega)
  have ht0 : kt_up τ 0 30 0 0 10 = nI k := ht
  unfold kp_R_parse kp_R_parse_0 kp_R_parse_47 kp_R_parse_51 kp_R_parse_52 kp_M_formed kp_M_formed_0 kp_M_formed_44
  simp only [true_or, or_true, ↓reduceIte]
  rw [a1, kt_bs, hs1, ht, e0, t0]
  by_cases h1 : k = 1
  · rw [if_pos (show nI k ≤ 1 from kn_leR (b := 1) (by omega) (by omega)), if_pos (show nI k = 1 by rw [h1]; rfl)]
    exact Or.inl ⟨0, fun _ => 0, _, _, rfl, rfl, hgp σ1 _ _ _ (kGs_refl σ1), kFb_kd fb0, rfl, rfl, by omega, ⟨fun j hj => absurd hj (by omega), fun i j _ hj => absurd hj (by omega), fun x hx => Or.inr ⟨fun j hj => absurd hj (by omega), a3 x hx⟩⟩⟩
  · rw [if_neg (show ¬ nI k ≤ 1 from fun z => by have := (kn_le (b := 1) (by omega) (by omega)).mp z; omega), if_neg (show ¬ nI k = 1 from fun z => h1 ((kn_eqL 1 (by omega) (by omega)).mp z))]
    have hBt0 : kBy B (kt_up τ 0 30 0 2) := hBt
    rcases kR_outer (M := σ1 6 5) (v := σ1 6 6) hs1 hB1 hk hk48 with ⟨b1, v1, o1, o2⟩ | ⟨o1, kd0, a', M', v', o2, o3⟩
    · have hsp := kHd_spec hB.1 o1
      rcases km_head (M := τ 0 23) (v := τ 0 24) hBt0 ht0 hk48 (show 1 ≤ 48 by omega) with ⟨b1', M1, v1', m1, m2⟩ | ⟨m1, _⟩
      · rw [o1] at m1
        cases m1
        have e25 : kd (kt_up τ 0 30 0) (nI b1) (nI 5) (nI v1) 0 0 25 = 0 := rfl
        have e23 : kd (kt_up τ 0 30 0) (nI b1) (nI 5) (nI v1) 0 0 23 = nI 5 := rfl
        have hen : kp_M_enter 1 (kd (kt_up τ 0 30 0) (nI b1) (nI 5) (nI v1) 0) = _ := km_enter (d := 1) (τ := kt_up τ 0 30 0) (a := nI b1) (b := 0) (v1 := v1) (by omega) (Or.inr rfl)
        rw [o2, m2, kt_bs, e25, if_pos rfl, e23, if_pos (show nI 5 = 5 from rfl), hen, kt_bs]
        generalize hτ3 : kt_up (kt_up (kt_up (kt_up (kt_up τ 0 30 0) 6 1 (if (5 : Nat) = 5 then 1 else 0)) 7 1 (nI v1)) 8 1 (-1)) 9 1 1 = τ3
        have f3 : kFb τ τ3 := by
          rw [← hτ3]
          exact kFb_row (kFb_row (kFb_row (kFb_row fb0 (by omega) (by omega)) (by omega) (by omega)) (by omega) (by omega)) (by omega) (by omega)
        have y6 : τ3 6 1 = 1 := by rw [← hτ3]; rfl
        have y7 : τ3 7 1 = nI (v1 - 0) := by rw [← hτ3]; rfl
        have y8 : τ3 8 1 = -1 := by rw [← hτ3]; rfl
        have y9 : τ3 9 1 = 1 := by rw [← hτ3]; rfl
        have y30 : τ3 0 30 = nI 0 := by rw [← hτ3]; rfl
        have yt : τ3 0 10 = nI k := by rw [f3.2.2 10 (by omega)]; exact ht
        have yB : kBy B (τ3 2) := by rw [f3.1 2 (by omega) (by omega)]; exact hBt
        have pr0 : kPr B k 0 (fun _ => 0) σ1 τ3 := ⟨fun j hj => absurd hj (by omega), fun i j _ hj => absurd hj (by omega), fun x hx => Or.inr ⟨fun j hj => absurd hj (by omega), a3 x hx⟩⟩
        rcases kR_pairs hk48 (kI1_5 (B := B) hk48) 48 σ1 τ3 b1 0 v1 0 (fun _ => 0) 100 (-1) (nI 5) (nI v1) (nI 5) (nI v1) (by omega) (by omega) hs1 hB1 yt yB (by omega) (by omega) (by omega) y7 y6 y9 y8 y30 (by omega) (Or.inl ⟨rfl, rfl⟩) pr0 with ⟨a', P', K', σ', M', num, q1, q2, q3, q4, τ', M2, v2, cst, p1, p2, p3, p4, p5, p6, p7⟩ | ⟨⟨σ', a', M', v', q1, q2⟩, τ', cst, p1, p2, p3⟩
        · have q1' : kp_R_readMap_5 (kp_R_readItem_n 5) 100 (nI v1) (nI 1) (-1) 0 (kc σ1 (nI b1) (nI 5) (nI v1)) = some (5, kc σ' (nI a') M' num) := q1
          have hF : 100 = (98 - cst + 1 + 1) + cst := by omega
          have hM : kp_M_formed_53 100 1 (kd τ3 (nI b1) (nI 5) (nI v1) 0) = kp_M_formed_114 (kd τ' (nI a') M2 v2 0) := by
            have h2 := p2 (98 - cst + 1 + 1)
            rw [← hF] at h2
            have h3 : kp_M_formed_53 100 1 (kd τ3 (nI b1) (nI 5) (nI v1) 0) = kp_M_formed_53 (98 - cst + 1 + 1) (nI 1) (kd τ' (nI a') M2 v2 0) := h2
            have h4 : kp_M_formed_53 (98 - cst + 1 + 1) (nI 1) (kd τ' (nI a') M2 v2 0) = kp_M_formed_53 (98 - cst + 1) (nI 0) (kd τ' (nI a') M2 v2 0) := kL_pop (d := 0) (s := kd τ' (nI a') M2 v2 0) (by omega) rfl p4
            rw [h3, h4]
            show kp_M_formed_53b (kp_M_formed_53 (98 - cst)) _ _ = _
            unfold kp_M_formed_53b
            rw [if_pos (show nI 0 ≤ 0 by decide)]
          rw [q1', kt_bs, hM]
          dsimp only
          unfold kp_M_formed_114 kp_M_formed_136 kp_M_formed_137
          have x25 : kd τ' (nI a') M2 v2 0 0 25 = 0 := rfl
          have x22 : kd τ' (nI a') M2 v2 0 0 22 = nI a' := rfl
          have x10 : kd τ' (nI a') M2 v2 0 0 10 = nI k := by
            show τ' 0 10 = nI k
            rw [p3.2.2 10 (by omega)]
            exact yt
          have x4 : kc σ' (nI a') M' num 6 4 = nI a' := rfl
          have x7 : kc σ' (nI a') M' num 7 2 = nI k := by
            show σ' 7 2 = nI k
            rw [q4 7 (by omega) (by omega) (by omega)]
            exact hs1
          rw [if_pos rfl, x25, if_pos rfl, x22, x10, if_pos ki_b0, if_pos ki_b1]
          simp only [x4, x7]
          by_cases hz : nI a' = nI k
          · rw [if_pos hz, if_pos hz]
            exact Or.inl ⟨P', K', _, _, rfl, rfl, hgp σ' _ _ _ q4, kFb_kd (kFb_trans f3 p3), rfl, p5, p6, kPr_kc p7⟩
          · rw [if_neg hz, if_neg hz]
            exact Or.inr ⟨_, _, rfl, rfl, hgp σ' _ _ _ q4, kFb_kd (kFb_trans f3 p3)⟩
        · have q1' : kp_R_readMap_5 (kp_R_readItem_n 5) 100 (nI v1) (nI 1) (-1) 0 (kc σ1 (nI b1) (nI 5) (nI v1)) = some (-2, kc σ' a' M' v') := q1
          have hF : 100 = (100 - cst) + cst := by omega
          have hM : kp_M_formed_53 100 1 (kd τ3 (nI b1) (nI 5) (nI v1) 0) = some (0, τ') := by
            have h2 := p2 (100 - cst)
            rw [← hF] at h2
            exact h2
          rw [q1', kt_bs, hM]
          dsimp only
          rw [if_neg (show ¬ (-2 : Int32) = 5 by decide)]
          exact Or.inr ⟨_, _, rfl, rfl, hgp σ' _ _ _ q2, kFb_trans f3 p3⟩
      · rw [o1] at m1
        cases m1
    · rw [o2, kt_bs]
      dsimp only
      rw [if_neg o3]
      rcases km_head (M := τ 0 23) (v := τ 0 24) hBt0 ht0 hk48 (show 1 ≤ 48 by omega) with ⟨b1', M1, v1', m1, m2⟩ | ⟨m1, b1', M1, v1', m2⟩
      · have hsp := kHd_spec hB.1 m1
        have e25 : kd (kt_up τ 0 30 0) (nI b1') (nI M1) (nI v1') 0 0 25 = 0 := rfl
        have e23 : kd (kt_up τ 0 30 0) (nI b1') (nI M1) (nI v1') 0 0 23 = nI M1 := rfl
        have h5 : ¬ nI M1 = 5 := fun z => by
          have := (kn_eqL 5 (by omega) (by omega)).mp z
          rw [this] at m1
          exact o1 _ _ m1
        rw [m2, kt_bs, e25, if_pos rfl, e23, if_neg h5]
        exact Or.inr ⟨_, _, rfl, rfl, hgp σ1 _ _ _ (kGs_refl σ1), kFb_kd fb0⟩
      · have e25 : kd (kt_up τ 0 30 0) b1' M1 v1' 1 0 25 = 1 := rfl
        rw [m2, kt_bs, e25, if_neg ki_10]
        exact Or.inr ⟨_, _, rfl, rfl, hgp σ1 _ _ _ (kGs_refl σ1), kFb_kd fb0⟩
