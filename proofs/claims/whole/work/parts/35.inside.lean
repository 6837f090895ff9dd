/-! The items at depth 2 and 3. -/
theorem kn_any (x : Int32) : ∃ w : Nat, x = nI w := by
  refine ⟨x.toBitVec.toNat, ?_⟩
  apply Int32.toBitVec_inj.mp
  unfold nI
  rw [Int32.toBitVec_ofNat', BitVec.ofNat_toNat, BitVec.setWidth_eq]
theorem km_item_bad {B : Nat → Nat} {k d a c : Nat} {τ : kt_S} {M0 v0 : Int32} (hd : d < 4) (ht : τ 0 10 = nI k) (hB : kBy B (τ 2)) (hk48 : k ≤ 48) (ha : a ≤ k) (h7 : τ 7 d = nI (c + 1)) (h1 : kHd B k a = none) : ∃ s', kp_M_item (nI d) (kd τ (nI a) M0 v0 0) = some (nI d, s') ∧ s' 0 25 = 1 ∧ kFb τ s' := by
  unfold kp_M_item kp_M_item_0
  rcases km_head (M := M0) (v := v0) hB ht hk48 (show a ≤ 48 by omega) with ⟨a1, M1, v1, h2, _⟩ | ⟨_, a1, M1, v1, h2⟩
  · rw [h1] at h2
    cases h2
  · have e25 : kd τ a1 M1 v1 1 0 25 = 1 := rfl
    rw [h2, kt_bs, if_neg (kn_in (by omega) (by omega)), if_neg (kn_in (by omega) (by omega)), if_neg (kn_in (by omega) (by omega)), e25, if_neg ki_10, kn_cl (by omega), kd_row (by omega), kd_row (by omega)]
    exact ⟨_, rfl, rfl, kFb_kd (kFb_row (kFb_row (kFb_refl τ) (by omega) (by omega)) (by omega) (by omega))⟩
theorem km_item_ok {B : Nat → Nat} {k d a c P a1 M1 v1 : Nat} {τ : kt_S} {M0 v0 : Int32} (hd2 : 2 ≤ d) (hd : d < 4) (ht : τ 0 10 = nI k) (hB : kBy B (τ 2)) (hk48 : k ≤ 48) (ha : a ≤ k) (h7 : τ 7 d = nI (c + 1)) (h30 : τ 0 30 = nI P) (hP1 : 1 ≤ P) (hP : P ≤ 24) (h1 : kHd B k a = some (a1, M1, v1)) : ∃ τ2, kp_M_item (nI d) (kd τ (nI a) M0 v0 0) = kp_M_item_123 (nI d) (nI a) (kd τ2 (nI a1) (nI M1) (nI v1) 0) ∧ kFr d τ τ2 ∧ τ2 6 d = τ 6 d ∧ τ2 7 d = nI c ∧ τ2 8 d = τ 8 d ∧ τ2 9 d = 1 ∧ τ2 14 = kMk d P M1 (τ 14) := by
  have hsp := kHd_spec hB.1 h1
  unfold kp_M_item kp_M_item_0 kp_M_item_99
  rcases km_head (M := M0) (v := v0) hB ht hk48 (show a ≤ 48 by omega) with ⟨a1', M1', v1', h2, h3⟩ | ⟨h2, _⟩
  · rw [h1] at h2
    cases h2
    have e25 : kd τ (nI a1) (nI M1) (nI v1) 0 0 25 = 0 := rfl
    have e7 : kd τ (nI a1) (nI M1) (nI v1) 0 7 d = nI (c + 1) := h7
    have e22 : kd τ (nI a) M0 v0 0 0 22 = nI a := rfl
    have e1 : ¬ nI d = 1 := fun z => by have := (kn_eqL 1 (by omega) (by omega)).mp z; omega
    rw [h3, kt_bs, if_neg (kn_in (by omega) (by omega)), if_neg (kn_in (by omega) (by omega)), if_neg (kn_in (by omega) (by omega)), e25, if_pos rfl, if_neg e1, kn_cl (by omega), e7, nI_pred, e22, kd_row (by omega), kd_row (by omega)]
    have f1 : kFr d τ (kt_up (kt_up τ 7 d (nI c)) 9 d 1) := kFr_row (kFr_row (kFr_refl d τ) (by omega) (by omega) (by omega)) (by omega) (by omega) (by omega)
    have x7 : kt_up (kt_up τ 7 d (nI c)) 9 d 1 7 d = nI c := by
      rw [kt_up_ne _ _ _ (by omega), kt_up_self]
      unfold upd
      rw [if_pos rfl]
    have x9 : kt_up (kt_up τ 7 d (nI c)) 9 d 1 9 d = 1 := by
      rw [kt_up_self]
      unfold upd
      rw [if_pos rfl]
    have e23 : kd (kt_up (kt_up τ 7 d (nI c)) 9 d 1) (nI a1) (nI M1) (nI v1) 0 0 23 = nI M1 := rfl
    have e30 : kd (kt_up (kt_up τ 7 d (nI c)) 9 d 1) (nI a1) (nI M1) (nI v1) 0 0 30 = nI P := h30
    by_cases h2 : d = 2
    · rw [if_pos (show nI d = 2 by rw [h2]; rfl), e23]
      by_cases hM : M1 = 0
      · rw [if_pos (show nI M1 = 0 by rw [hM]; rfl)]
        exact ⟨_, rfl, f1, rfl, x7, rfl, x9, by rw [hM, kMk_z]; rfl⟩
      · have hsub : nI P - 1 = nI (P - 1) := kn_sub (a := 1) hP1
        rw [if_neg (show ¬ nI M1 = 0 from fun z => hM ((kn_eqL 0 (by omega) (by omega)).mp z)), e30, hsub, if_neg (kn_in (by omega) (by omega)), kn_cl (by omega), kd_row (by omega)]
        refine ⟨_, rfl, kFr_14 f1, rfl, ?_, rfl, ?_, ?_⟩
        · rw [kt_up_ne _ _ _ (by omega)]; exact x7
        · rw [kt_up_ne _ _ _ (by omega)]; exact x9
        · unfold kMk
          rw [if_pos ⟨h2, hM⟩]
          rfl
    · rw [if_neg (show ¬ nI d = 2 from fun z => h2 ((kn_eqL 2 (by omega) (by omega)).mp z))]
      exact ⟨_, rfl, f1, rfl, x7, rfl, x9, by unfold kMk; rw [if_neg (fun y => h2 y.1)]; rfl⟩
  · rw [h1] at h2
    cases h2
theorem km_str {B : Nat → Nat} {k d a a1 M1 v1 : Nat} {τ : kt_S} (ht : τ 0 10 = nI k) (hB : kBy B (τ 2)) (hk48 : k ≤ 48) (ha1 : a1 ≤ k) (hv : v1 < 2147483648) (hM : M1 = 2 ∨ M1 = 3) : (kSt B k a1 M1 v1 ∧ kp_M_item_123 (nI d) (nI a) (kd τ (nI a1) (nI M1) (nI v1) 0) = some (nI d, kd τ (nI (a1 + v1)) (nI M1) (nI v1) 0)) ∨ (¬ kSt B k a1 M1 v1 ∧ ∃ s', kp_M_item_123 (nI d) (nI a) (kd τ (nI a1) (nI M1) (nI v1) 0) = some (nI d, s') ∧ s' 0 25 = 1 ∧ kFb τ s') := by
  have e23 : ∀ x b, kd τ x (nI M1) (nI v1) b 0 23 = nI M1 := fun _ _ => rfl
  have e22 : kd τ (nI a1) (nI M1) (nI v1) 0 0 22 = nI a1 := rfl
  have e24 : kd τ (nI a1) (nI M1) (nI v1) 0 0 24 = nI v1 := rfl
  have h4 : ¬ nI M1 = 4 := fun z => by have := (kn_eqL 4 (by omega) (by omega)).mp z; omega
  have h5 : ¬ nI M1 = 5 := fun z => by have := (kn_eqL 5 (by omega) (by omega)).mp z; omega
  have e139 : kp_M_item_123 (nI d) (nI a) (kd τ (nI a1) (nI M1) (nI v1) 0) = kp_M_item_139 (nI d) (nI a) (kd τ (nI a1) (nI M1) (nI v1) 0) := by
    unfold kp_M_item_123
    rw [e23]
    rcases hM with rfl | rfl
    · rw [if_pos (by decide)]
    · rw [if_neg (by decide), if_pos (by decide)]
  rw [e139]
  unfold kp_M_item_139 kp_M_item_152 kp_M_item_176 kp_M_item_179
  rcases km_pass hB ht hk48 ha1 hM hv with ⟨g1, g2⟩ | ⟨g1, g2⟩
  · refine Or.inl ⟨g1, ?_⟩
    rw [g2, kt_bs]
    dsimp only
    rw [if_neg ki_10, if_pos ki_b0, if_pos rfl, kd_ba, kd_at, e23, if_neg h4, if_neg h5, e22, e24, kn_add]
  · refine Or.inr ⟨g1, ?_⟩
    rw [g2, kt_bs]
    dsimp only
    rw [if_pos rfl, if_pos ki_b1, if_neg ki_10, kd_ba, kd_at, e23, if_neg h4, if_neg h5]
    exact ⟨_, rfl, rfl, kFb_kd (kFb_refl τ)⟩
theorem km_enter {d M1 v1 : Nat} {τ : kt_S} {a b : Int32} (hd : d < 4) (hM : M1 = 4 ∨ M1 = 5) : kp_M_enter (nI d) (kd τ a (nI M1) (nI v1) b) = some (kd (kt_up (kt_up (kt_up (kt_up τ 6 d (if M1 = 5 then 1 else 0)) 7 d (nI v1)) 8 d (-1)) 9 d 1) a (nI M1) (nI v1) b) := by
  have e23 : kd τ a (nI M1) (nI v1) b 0 23 = nI M1 := rfl
  have e24 : kd τ a (nI M1) (nI v1) b 0 24 = nI v1 := rfl
  unfold kp_M_enter kp_M_enter_0 kp_M_enter_18
  have hin : ¬ (nI d < 0 ∨ 4 ≤ (nI d).toNatClampNeg) := kn_in (by omega) (by omega)
  simp only [if_neg hin, true_or, or_true, ↓reduceIte]
  rw [e23, e24, kn_cl (by omega)]
  rcases hM with rfl | rfl
  · rw [if_neg (show ¬ nI 4 = 5 by decide), if_neg (show ¬ (4 : Nat) = 5 by decide), kd_row (by omega), kd_row (by omega), kd_row (by omega), kd_row (by omega)]
  · rw [if_pos (show nI 5 = 5 from rfl), if_pos (rfl : (5 : Nat) = 5), kd_row (by omega), kd_row (by omega), kd_row (by omega), kd_row (by omega)]
theorem kIS_item {B : Nat → Nat} {k d N : Nat} (hk48 : k ≤ 48) (hd : d = 2 ∨ d = 3) (hI : d = 2 → kIS B k 3 (kp_R_readItem_n N)) : kIS B k d (kp_R_readItem_n (N + 1)) := by
  intro σ τ a c P M v M0 v0 hs hB ht hBt ha h7 hc hi h30 hP1 hP
  have hd4 : d < 4 := by omega
  have hm : ¬ kd τ (nI a) M0 v0 0 7 d = 0 := fun z => by
    have z' : τ 7 d = nI 0 := z
    rw [h7] at z'
    have := (kn_eqL 0 (by omega) (by omega)).mp z'
    omega
  have hrun := fun F => kL_item (f := F) (d := d) (s := kd τ (nI a) M0 v0 0) (by omega) hd4 rfl hm hi
  have hcl : kp_R_readItem_n (N + 1) (nI d) (kc σ (nI a) M v) = kp_R_readItem_0 (kp_R_readList_0 (kp_R_readItem_n N)) (kp_R_readMap_0 (kp_R_readItem_n N)) (nI d) (kc σ (nI a) M v) := rfl
  rw [hcl]
  have badly : ∀ s', kp_M_item (nI d) (kd τ (nI a) M0 v0 0) = some (nI d, s') → s' 0 25 = 1 → ∀ F, kp_M_formed_53 (F + 2) (nI d) (kd τ (nI a) M0 v0 0) = some (0, s') := fun s' h1 h2 F => by
    rw [show F + 2 = (F + 1) + 1 from rfl, hrun, h1, kt_bs]
    exact kL_bad hd4 h2
  unfold kp_R_readItem_0 kp_R_readItem_26 kp_R_readItem_42 kp_R_readItem_64 kp_R_readItem_105
  rcases kR_head (M := M) (v := v) hB hs hk48 (show a ≤ 48 by omega) with ⟨a1, M1, v1, h1, h2⟩ | ⟨h1, a1, M1, v1, h2⟩
  · have hsp := kHd_spec hB.1 h1
    obtain ⟨τ2, t1, t2, t3, t4, t5, t6, t7⟩ := km_item_ok (M0 := M0) (v0 := v0) (by omega) hd4 ht hBt hk48 ha h7 h30 hP1 hP h1
    have ht2 : τ2 0 10 = nI k := by rw [t2.2.2.1]; exact ht
    have hB2 : kBy B (τ2 2) := by rw [t2.1 2 (by omega) (by omega)]; exact hBt
    have e5 : kc σ (nI a1) (nI M1) (nI v1) 6 5 = nI M1 := rfl
    have e6 : kc σ (nI a1) (nI M1) (nI v1) 6 6 = nI v1 := rfl
    rw [h2, kt_bs]
    dsimp only
    rw [if_neg ki_10]
    simp only [e5, e6]
    by_cases hs23 : M1 = 2 ∨ M1 = 3
    · have hK : (if nI M1 = 2 then Option.bind (kp_R_passBytes (kc σ (nI a1) (nI M1) (nI v1))) (fun x2 => if x2.1 = 0 then some ((-2 : Int32), x2.2) else some (x2.2 6 5, x2.2)) else if nI M1 = 3 then Option.bind (kp_R_passBytes (kc σ (nI a1) (nI M1) (nI v1))) (fun x2 => if x2.1 = 0 then some (-2, x2.2) else some (x2.2 6 5, x2.2)) else if nI M1 = 4 then (if nI d < 3 then (if nI M1 = 4 then Option.bind (kp_R_readList_0 (kp_R_readItem_n N) (nI v1) (nI d + 1) (kc σ (nI a1) (nI M1) (nI v1))) (fun x4 => some (x4.1, x4.2)) else Option.bind (kp_R_readMap_0 (kp_R_readItem_n N) (nI v1) (nI d + 1) (kc σ (nI a1) (nI M1) (nI v1))) (fun x3 => some (x3.1, x3.2))) else some (-2, kc σ (nI a1) (nI M1) (nI v1))) else if nI M1 = 5 then (if nI d < 3 then (if nI M1 = 4 then Option.bind (kp_R_readList_0 (kp_R_readItem_n N) (nI v1) (nI d + 1) (kc σ (nI a1) (nI M1) (nI v1))) (fun x4 => some (x4.1, x4.2)) else Option.bind (kp_R_readMap_0 (kp_R_readItem_n N) (nI v1) (nI d + 1) (kc σ (nI a1) (nI M1) (nI v1))) (fun x3 => some (x3.1, x3.2))) else some (-2, kc σ (nI a1) (nI M1) (nI v1))) else some (nI M1, kc σ (nI a1) (nI M1) (nI v1))) = Option.bind (kp_R_passBytes (kc σ (nI a1) (nI M1) (nI v1))) (fun x2 => if x2.1 = 0 then some (-2, x2.2) else some (x2.2 6 5, x2.2)) := by
        rcases hs23 with rfl | rfl
        · rw [if_pos (by decide)]
        · rw [if_neg (by decide), if_pos (by decide)]
      rw [hK]
      rcases kR_pass (v := v1) hB hs hk48 (show a1 ≤ k by omega) hs23 (by omega) with ⟨g1, g2⟩ | ⟨g1, a', M', v', g2⟩
      · rcases km_str (d := d) (a := a) (v1 := v1) ht2 hB2 hk48 (show a1 ≤ k by omega) (by omega) hs23 with ⟨_, q2⟩ | ⟨q1, _⟩
        · refine Or.inl ⟨a1 + v1, M1, v1, nI M1, ?_, by omega, g1.1, by omega, fun z => by omega, τ2, nI M1, nI v1, 1, by omega, fun F => ?_, t2, t3, t4, t5, t6, t7⟩
          · rw [g2, kt_bs]
            exact if_neg ki_10
          · rw [hrun, t1, q2, kt_bs]
        · exact absurd g1 q1
      · rcases km_str (d := d) (a := a) (v1 := v1) ht2 hB2 hk48 (show a1 ≤ k by omega) (by omega) hs23 with ⟨q1, _⟩ | ⟨_, s', q1, q2, q3⟩
        · exact absurd q1 g1
        · refine Or.inr ⟨⟨a', M', v', ?_⟩, s', 2, by omega, badly s' (by rw [t1, q1]) q2, kFb_trans (kFr_b t2) q3⟩
          rw [g2, kt_bs]
          exact if_pos rfl
    rw [if_neg (show ¬ nI M1 = 2 from fun z => hs23 (Or.inl ((kn_eqL 2 (by omega) (by omega)).mp z))), if_neg (show ¬ nI M1 = 3 from fun z => hs23 (Or.inr ((kn_eqL 3 (by omega) (by omega)).mp z)))]
    have e123 : kp_M_item_123 (nI d) (nI a) (kd τ2 (nI a1) (nI M1) (nI v1) 0) = kp_M_item_179 (nI d) (kd τ2 (nI a1) (nI M1) (nI v1) 0) := by
      unfold kp_M_item_123
      have e23 : kd τ2 (nI a1) (nI M1) (nI v1) 0 0 23 = nI M1 := rfl
      rw [e23, if_neg (show ¬ nI M1 = 2 from fun z => hs23 (Or.inl ((kn_eqL 2 (by omega) (by omega)).mp z))), if_neg (show ¬ nI M1 = 3 from fun z => hs23 (Or.inr ((kn_eqL 3 (by omega) (by omega)).mp z)))]
    have e23 : kd τ2 (nI a1) (nI M1) (nI v1) 0 0 23 = nI M1 := rfl
    by_cases h45 : M1 = 4 ∨ M1 = 5
    · have e179 : kp_M_item_179 (nI d) (kd τ2 (nI a1) (nI M1) (nI v1) 0) = kp_M_item_197 (nI d) (kd τ2 (nI a1) (nI M1) (nI v1) 0) := by
        unfold kp_M_item_179
        rw [e23]
        rcases h45 with rfl | rfl
        · rw [if_pos (by decide)]
        · rw [if_neg (by decide), if_pos (by decide)]
      rcases hd with rfl | rfl
      · -- depth 2: inside
        have hI3 := hI rfl
        have e208 : kp_M_item (nI 2) (kd τ (nI a) M0 v0 0) = some (nI 3, kd (kt_up (kt_up (kt_up (kt_up τ2 6 3 (if M1 = 5 then 1 else 0)) 7 3 (nI v1)) 8 3 (-1)) 9 3 1) (nI a1) (nI M1) (nI v1) 0) := by
          rw [t1, e123, e179]
          unfold kp_M_item_197 kp_M_item_208
          have hen : kp_M_enter (nI 2 + 1) (kd τ2 (nI a1) (nI M1) (nI v1) 0) = _ := km_enter (d := 3) (τ := τ2) (a := nI a1) (b := 0) (v1 := v1) (by omega) h45
          rw [if_neg (by decide), if_pos ki_b0, if_pos rfl, kd_ba, hen, kt_bs]
          unfold kp_M_item_225 kp_M_item_239
          exact if_pos rfl
        generalize hτ3 : kt_up (kt_up (kt_up (kt_up τ2 6 3 (if M1 = 5 then 1 else 0)) 7 3 (nI v1)) 8 3 (-1)) 9 3 1 = τ3 at e208
        have f3 : kFr 2 τ2 τ3 := by
          rw [← hτ3]
          exact kFr_row (kFr_row (kFr_row (kFr_row (kFr_refl 2 τ2) (by omega) (by omega) (by omega)) (by omega) (by omega) (by omega)) (by omega) (by omega) (by omega)) (by omega) (by omega) (by omega)
        have y6 : τ3 6 3 = if M1 = 5 then 1 else 0 := by rw [← hτ3]; rfl
        have y7 : τ3 7 3 = nI v1 := by rw [← hτ3]; rfl
        have y8 : τ3 8 3 = -1 := by rw [← hτ3]; rfl
        have y9 : τ3 9 3 = 1 := by rw [← hτ3]; rfl
        have z6 : τ3 6 2 = τ2 6 2 := by rw [← hτ3]; rfl
        have z7 : τ3 7 2 = τ2 7 2 := by rw [← hτ3]; rfl
        have z8 : τ3 8 2 = τ2 8 2 := by rw [← hτ3]; rfl
        have z9 : τ3 9 2 = τ2 9 2 := by rw [← hτ3]; rfl
        have z14 : τ3 14 = τ2 14 := by rw [← hτ3]; rfl
        have fall := kFr_trans t2 f3
        have ht3 : τ3 0 10 = nI k := by rw [fall.2.2.1]; exact ht
        have h303 : τ3 0 30 = nI P := by rw [fall.2.2.1]; exact h30
        have hB3 : kBy B (τ3 2) := by rw [fall.1 2 (by omega) (by omega)]; exact hBt
        have hin : ∀ F, kp_M_formed_53 (F + 1) (nI 2) (kd τ (nI a) M0 v0 0) = kp_M_formed_53 F (nI 3) (kd τ3 (nI a1) (nI M1) (nI v1) 0) := fun F => by rw [hrun, e208, kt_bs]
        have done : ∀ (a' kind num : Nat) (M' : Int32) (τ' : kt_S) (M2 v2 : Int32) (cst : Nat), ¬ kind = 0 → kind < 9 → a1 ≤ a' → a' ≤ k → cst ≤ 2 * (a' - a1) → (∀ F, kp_M_formed_53 (F + cst) (nI 3) (kd τ3 (nI a1) (nI M1) (nI v1) 0) = kp_M_formed_53 F (nI 3) (kd τ' (nI a') M2 v2 0)) → kFr 3 τ3 τ' → τ' 7 3 = nI 0 → τ' 14 = τ3 14 → ∃ (τ'' : kt_S) (M1 v1 : Int32) (cst : Nat), cst ≤ 2 * (a' - a) ∧ (∀ F, kp_M_formed_53 (F + cst) (nI 2) (kd τ (nI a) M0 v0 0) = kp_M_formed_53 F (nI 2) (kd τ'' (nI a') M1 v1 0)) ∧ kFr 2 τ τ'' ∧ τ'' 6 2 = τ 6 2 ∧ τ'' 7 2 = nI c ∧ τ'' 8 2 = τ 8 2 ∧ τ'' 9 2 = 1 ∧ τ'' 14 = kMk 2 P kind (τ 14) := by
          intro a' kind num M' τ' M2 v2 cst hk0 hk9 ha1 ha' hcst hgo hfr hp h14
          refine ⟨τ', M2, v2, cst + 2, by omega, fun F => ?_, kFr_trans fall (kFr_le (by omega) hfr), ?_, ?_, ?_, ?_, ?_⟩
          · rw [show F + (cst + 2) = ((F + 1) + cst) + 1 by omega, hin, hgo]
            exact kL_pop (d := 2) (by omega) rfl hp
          · rw [hfr.2.2.2.1 6 2 (by omega) (by omega) (by omega), z6, t3]
          · rw [hfr.2.2.2.1 7 2 (by omega) (by omega) (by omega), z7, t4]
          · rw [hfr.2.2.2.1 8 2 (by omega) (by omega) (by omega), z8, t5]
          · rw [hfr.2.2.2.1 9 2 (by omega) (by omega) (by omega), z9, t6]
          · rw [h14, z14, t7]
            exact kMk_nz (by omega) hk0
        rcases h45 with rfl | rfl
        · rw [if_pos (by decide), if_pos (by decide), if_pos (by decide)]
          rcases kR_list hk48 (by omega) hI3 48 σ τ3 a1 0 v1 P 4 0 100 (nI 4) (nI v1) (nI 4) (nI v1) (by omega) (by omega) hs hB ht3 hB3 (by omega) (by omega) (by omega) (by rw [y7]; rfl) (by rw [y6]; rfl) h303 hP1 hP (by omega) (by omega) with ⟨a', al, m', M', q1, q2, q3, q4, q5, τ', M2, v2, cst, p1, p2, p3, p4, p5⟩ | ⟨⟨a', M', v', q1⟩, τ', cst, p1, p2, p3⟩
          · have q1' : kp_R_readList_0 (kp_R_readItem_n N) (nI v1) (nI 2 + 1) (kc σ (nI a1) (nI 4) (nI v1)) = some (nI (if al then 4 else 8), kc σ (nI a') M' (nI m')) := q1
            have hkk : ¬ (if al then 4 else 8) = 0 ∧ (if al then 4 else 8) < 9 := by cases al <;> decide
            refine Or.inl ⟨a', _, m', M', by rw [q1', kt_bs], by omega, q3, hkk.2, fun z => absurd z hkk.1, done a' _ 0 0 τ' M2 v2 cst hkk.1 hkk.2 q2 q3 p1 p2 p3 p4 ?_⟩
            rw [p5]
            exact if_neg (fun y => absurd y.1 (by omega))
          · have q1' : kp_R_readList_0 (kp_R_readItem_n N) (nI v1) (nI 2 + 1) (kc σ (nI a1) (nI 4) (nI v1)) = some (-2, kc σ a' M' v') := q1
            refine Or.inr ⟨⟨a', M', v', by rw [q1', kt_bs]⟩, τ', cst + 1, by omega, fun F => ?_, kFb_trans (kFr_b fall) p3⟩
            rw [show F + (cst + 1) = (F + cst) + 1 by omega, hin, p2]
        · rw [if_neg (by decide), if_pos (by decide), if_pos (by decide), if_neg (by decide)]
          rcases kR_map hk48 (by omega) (by omega) hI3 48 σ τ3 a1 0 v1 P 100 (-1) (nI 5) (nI v1) (nI 5) (nI v1) (by omega) (by omega) hs hB ht3 hB3 (by omega) (by omega) (by omega) (by rw [y7]; rfl) (by rw [y6]; rfl) y9 y8 h303 hP1 hP with ⟨a', M', num, q1, q2, q3, τ', M2, v2, cst, p1, p2, p3, p4, p5⟩ | ⟨⟨a', M', v', q1⟩, τ', cst, p1, p2, p3⟩
          · obtain ⟨w, hw⟩ := kn_any num
            have q1' : kp_R_readMap_0 (kp_R_readItem_n N) (nI v1) (nI 2 + 1) (kc σ (nI a1) (nI 5) (nI v1)) = some (nI 5, kc σ (nI a') M' num) := q1
            refine Or.inl ⟨a', 5, w, M', by rw [q1', kt_bs, hw], by omega, q3, by omega, fun z => absurd z (by omega), done a' 5 0 0 τ' M2 v2 cst (by omega) (by omega) q2 q3 p1 p2 p3 p4 ?_⟩
            rcases p5 with p5 | p5
            · exact p5
            · rw [p5]
              exact if_neg (fun y => absurd y.1 (by omega))
          · have q1' : kp_R_readMap_0 (kp_R_readItem_n N) (nI v1) (nI 2 + 1) (kc σ (nI a1) (nI 5) (nI v1)) = some (-2, kc σ a' M' v') := q1
            refine Or.inr ⟨⟨a', M', v', by rw [q1', kt_bs]⟩, τ', cst + 1, by omega, fun F => ?_, kFb_trans (kFr_b fall) p3⟩
            rw [show F + (cst + 1) = (F + cst) + 1 by omega, hin, p2]
      · -- depth 3: too deep
        have e208 : kp_M_item (nI 3) (kd τ (nI a) M0 v0 0) = some (nI 3, kd τ2 (nI a1) (nI M1) (nI v1) 1) := by
          rw [t1, e123, e179]
          unfold kp_M_item_197 kp_M_item_208
          rw [if_pos (by decide), if_pos ki_b1, if_neg ki_10, kd_ba]
          unfold kp_M_item_225 kp_M_item_239
          exact if_neg ki_10
        refine Or.inr ⟨⟨nI a1, nI M1, nI v1, ?_⟩, _, 2, by omega, badly _ e208 rfl, kFb_kd (kFr_b t2)⟩
        rw [if_neg (show ¬ nI 3 < 3 by decide)]
        rcases h45 with rfl | rfl
        · rw [if_pos (by decide)]
        · rw [if_neg (by decide), if_pos (by decide)]
    · have n4 : ¬ nI M1 = 4 := fun z => h45 (Or.inl ((kn_eqL 4 (by omega) (by omega)).mp z))
      have n5 : ¬ nI M1 = 5 := fun z => h45 (Or.inr ((kn_eqL 5 (by omega) (by omega)).mp z))
      rw [if_neg n4, if_neg n5]
      refine Or.inl ⟨a1, M1, v1, nI M1, rfl, by omega, by omega, by omega, fun z => by rw [h1, z], τ2, nI M1, nI v1, 1, by omega, fun F => ?_, t2, t3, t4, t5, t6, t7⟩
      rw [hrun, t1, e123]
      unfold kp_M_item_179
      rw [e23, if_neg n4, if_neg n5, kt_bs]
  · obtain ⟨s', g1, g2, g3⟩ := km_item_bad (M0 := M0) (v0 := v0) hd4 ht hBt hk48 ha h7 h1
    refine Or.inr ⟨⟨a1, M1, v1, ?_⟩, s', 2, by omega, badly s' g1 g2, g3⟩
    rw [h2, kt_bs]
    exact if_pos rfl
