/-! What the checks answer. -/
theorem kW_100_0 (σ : kt_S) (f : Nat) : (kp_R_has (nI 1) σ = some (1, σ) → kp_R_check_100_58 (f + 1) (nI 3) (nI 0) σ = kp_R_check_100_58 f (nI 3) (nI 1) σ) ∧ (kp_R_has (nI 1) σ = some (0, σ) → kp_R_check_100_58 (f + 1) (nI 3) (nI 0) σ = some (4, σ)) := by
  have hcl : (nI 0).toNatClampNeg = 0 := kn_cl (by omega)
  have e : ∀ K, kp_R_check_100_58b K (nI 3) (nI 0) σ = Option.bind (kp_R_has (nI 1) σ) fun x2 => if x2.1 = 0 then some (4, x2.2) else K (nI 3) (nI 0 + 1) x2.2 := fun K => by
    unfold kp_R_check_100_58b
    rw [if_neg (show ¬ nI 3 ≤ nI 0 by decide), if_neg (kn_in (by omega) (by omega)), hcl]
    rfl
  refine ⟨fun h => ?_, fun h => ?_⟩
  · show kp_R_check_100_58b (kp_R_check_100_58 f) (nI 3) (nI 0) σ = _
    rw [e, h, kt_bs]
    exact if_neg ki_10
  · show kp_R_check_100_58b (kp_R_check_100_58 f) (nI 3) (nI 0) σ = _
    rw [e, h, kt_bs]
    exact if_pos rfl
theorem kW_100_1 (σ : kt_S) (f : Nat) : (kp_R_has (nI 2) σ = some (1, σ) → kp_R_check_100_58 (f + 1) (nI 3) (nI 1) σ = kp_R_check_100_58 f (nI 3) (nI 2) σ) ∧ (kp_R_has (nI 2) σ = some (0, σ) → kp_R_check_100_58 (f + 1) (nI 3) (nI 1) σ = some (4, σ)) := by
  have hcl : (nI 1).toNatClampNeg = 1 := kn_cl (by omega)
  have e : ∀ K, kp_R_check_100_58b K (nI 3) (nI 1) σ = Option.bind (kp_R_has (nI 2) σ) fun x2 => if x2.1 = 0 then some (4, x2.2) else K (nI 3) (nI 1 + 1) x2.2 := fun K => by
    unfold kp_R_check_100_58b
    rw [if_neg (show ¬ nI 3 ≤ nI 1 by decide), if_neg (kn_in (by omega) (by omega)), hcl]
    rfl
  refine ⟨fun h => ?_, fun h => ?_⟩
  · show kp_R_check_100_58b (kp_R_check_100_58 f) (nI 3) (nI 1) σ = _
    rw [e, h, kt_bs]
    exact if_neg ki_10
  · show kp_R_check_100_58b (kp_R_check_100_58 f) (nI 3) (nI 1) σ = _
    rw [e, h, kt_bs]
    exact if_pos rfl
theorem kW_100_2 (σ : kt_S) (f : Nat) : (kp_R_has (nI 3) σ = some (1, σ) → kp_R_check_100_58 (f + 1) (nI 3) (nI 2) σ = kp_R_check_100_58 f (nI 3) (nI 3) σ) ∧ (kp_R_has (nI 3) σ = some (0, σ) → kp_R_check_100_58 (f + 1) (nI 3) (nI 2) σ = some (4, σ)) := by
  have hcl : (nI 2).toNatClampNeg = 2 := kn_cl (by omega)
  have e : ∀ K, kp_R_check_100_58b K (nI 3) (nI 2) σ = Option.bind (kp_R_has (nI 3) σ) fun x2 => if x2.1 = 0 then some (4, x2.2) else K (nI 3) (nI 2 + 1) x2.2 := fun K => by
    unfold kp_R_check_100_58b
    rw [if_neg (show ¬ nI 3 ≤ nI 2 by decide), if_neg (kn_in (by omega) (by omega)), hcl]
    rfl
  refine ⟨fun h => ?_, fun h => ?_⟩
  · show kp_R_check_100_58b (kp_R_check_100_58 f) (nI 3) (nI 2) σ = _
    rw [e, h, kt_bs]
    exact if_neg ki_10
  · show kp_R_check_100_58b (kp_R_check_100_58 f) (nI 3) (nI 2) σ = _
    rw [e, h, kt_bs]
    exact if_pos rfl
theorem kW_100_end (σ : kt_S) (f : Nat) : kp_R_check_100_58 (f + 1) (nI 3) (nI 3) σ = some (0, σ) := by
  show kp_R_check_100_58b (kp_R_check_100_58 f) (nI 3) (nI 3) σ = _
  unfold kp_R_check_100_58b
  rw [if_pos (by decide)]
theorem kC_100_end (σ : kt_S) (f : Nat) : kp_R_check_100_2 (f + 1) (nI 9) σ = kp_R_check_100_58 100 (nI 3) (nI 0) σ := by
  show kp_R_check_100_2b (kp_R_check_100_2 f) (nI 9) σ = _
  unfold kp_R_check_100_2b kp_R_check_100_49
  rw [if_pos (show Int32.ofNat 9 ≤ nI 9 by decide)]
  rfl
theorem kCb_100_1 {σ : kt_S}  (hb : kBd σ 1 0) : kp_R_check_100 σ = some (3, σ) := by
  show kp_R_check_100_2 100 (nI 1) σ = _
  exact (kC_100_1 σ 99).2 hb
theorem kCb_100_2 {σ : kt_S} (h1 : kGd σ 1 0) (hb : kBd σ 2 3) : kp_R_check_100 σ = some (3, σ) := by
  show kp_R_check_100_2 100 (nI 1) σ = _
  rw [show kp_R_check_100_2 100 (nI 1) σ = kp_R_check_100_2 99 (nI 2) σ from (kC_100_1 σ 99).1 h1]
  exact (kC_100_2 σ 98).2 hb
theorem kCb_100_3 {σ : kt_S} (h1 : kGd σ 1 0) (h2 : kGd σ 2 3) (hb : kBd σ 3 0) : kp_R_check_100 σ = some (3, σ) := by
  show kp_R_check_100_2 100 (nI 1) σ = _
  rw [show kp_R_check_100_2 100 (nI 1) σ = kp_R_check_100_2 99 (nI 2) σ from (kC_100_1 σ 99).1 h1]
  rw [show kp_R_check_100_2 99 (nI 2) σ = kp_R_check_100_2 98 (nI 3) σ from (kC_100_2 σ 98).1 h2]
  exact (kC_100_3 σ 97).2 hb
theorem kCb_100_5 {σ : kt_S} (h1 : kGd σ 1 0) (h2 : kGd σ 2 3) (h3 : kGd σ 3 0) (hb : kBd σ 5 4) : kp_R_check_100 σ = some (3, σ) := by
  show kp_R_check_100_2 100 (nI 1) σ = _
  rw [show kp_R_check_100_2 100 (nI 1) σ = kp_R_check_100_2 99 (nI 2) σ from (kC_100_1 σ 99).1 h1]
  rw [show kp_R_check_100_2 99 (nI 2) σ = kp_R_check_100_2 98 (nI 3) σ from (kC_100_2 σ 98).1 h2]
  rw [show kp_R_check_100_2 98 (nI 3) σ = kp_R_check_100_2 97 (nI 4) σ from (kC_100_3 σ 97).1 h3]
  rw [show kp_R_check_100_2 97 (nI 4) σ = kp_R_check_100_2 96 (nI 5) σ from kC_100_4 σ 96]
  exact (kC_100_5 σ 95).2 hb
theorem kCb_100_8 {σ : kt_S} (h1 : kGd σ 1 0) (h2 : kGd σ 2 3) (h3 : kGd σ 3 0) (h5 : kGd σ 5 4) (hb : kBd σ 8 0) : kp_R_check_100 σ = some (3, σ) := by
  show kp_R_check_100_2 100 (nI 1) σ = _
  rw [show kp_R_check_100_2 100 (nI 1) σ = kp_R_check_100_2 99 (nI 2) σ from (kC_100_1 σ 99).1 h1]
  rw [show kp_R_check_100_2 99 (nI 2) σ = kp_R_check_100_2 98 (nI 3) σ from (kC_100_2 σ 98).1 h2]
  rw [show kp_R_check_100_2 98 (nI 3) σ = kp_R_check_100_2 97 (nI 4) σ from (kC_100_3 σ 97).1 h3]
  rw [show kp_R_check_100_2 97 (nI 4) σ = kp_R_check_100_2 96 (nI 5) σ from kC_100_4 σ 96]
  rw [show kp_R_check_100_2 96 (nI 5) σ = kp_R_check_100_2 95 (nI 6) σ from (kC_100_5 σ 95).1 h5]
  rw [show kp_R_check_100_2 95 (nI 6) σ = kp_R_check_100_2 94 (nI 7) σ from kC_100_6 σ 94]
  rw [show kp_R_check_100_2 94 (nI 7) σ = kp_R_check_100_2 93 (nI 8) σ from kC_100_7 σ 93]
  exact (kC_100_8 σ 92).2 hb
theorem kCg_100 {σ : kt_S} (h1 : kGd σ 1 0) (h2 : kGd σ 2 3) (h3 : kGd σ 3 0) (h5 : kGd σ 5 4) (h8 : kGd σ 8 0) : kp_R_check_100 σ = kp_R_check_100_58 100 (nI 3) (nI 0) σ := by
  show kp_R_check_100_2 100 (nI 1) σ = _
  rw [show kp_R_check_100_2 100 (nI 1) σ = kp_R_check_100_2 99 (nI 2) σ from (kC_100_1 σ 99).1 h1]
  rw [show kp_R_check_100_2 99 (nI 2) σ = kp_R_check_100_2 98 (nI 3) σ from (kC_100_2 σ 98).1 h2]
  rw [show kp_R_check_100_2 98 (nI 3) σ = kp_R_check_100_2 97 (nI 4) σ from (kC_100_3 σ 97).1 h3]
  rw [show kp_R_check_100_2 97 (nI 4) σ = kp_R_check_100_2 96 (nI 5) σ from kC_100_4 σ 96]
  rw [show kp_R_check_100_2 96 (nI 5) σ = kp_R_check_100_2 95 (nI 6) σ from (kC_100_5 σ 95).1 h5]
  rw [show kp_R_check_100_2 95 (nI 6) σ = kp_R_check_100_2 94 (nI 7) σ from kC_100_6 σ 94]
  rw [show kp_R_check_100_2 94 (nI 7) σ = kp_R_check_100_2 93 (nI 8) σ from kC_100_7 σ 93]
  rw [show kp_R_check_100_2 93 (nI 8) σ = kp_R_check_100_2 92 (nI 9) σ from (kC_100_8 σ 92).1 h8]
  exact kC_100_end σ 91
theorem kCw_100_0 {σ : kt_S}  (w : kp_R_has (nI 1) σ = some (0, σ)) : kp_R_check_100_58 100 (nI 3) (nI 0) σ = some (4, σ) := by
  exact (kW_100_0 σ 99).2 w
theorem kCw_100_1 {σ : kt_S} (w0 : kp_R_has (nI 1) σ = some (1, σ)) (w : kp_R_has (nI 2) σ = some (0, σ)) : kp_R_check_100_58 100 (nI 3) (nI 0) σ = some (4, σ) := by
  rw [show kp_R_check_100_58 100 (nI 3) (nI 0) σ = kp_R_check_100_58 99 (nI 3) (nI 1) σ from (kW_100_0 σ 99).1 w0]
  exact (kW_100_1 σ 98).2 w
theorem kCw_100_2 {σ : kt_S} (w0 : kp_R_has (nI 1) σ = some (1, σ)) (w1 : kp_R_has (nI 2) σ = some (1, σ)) (w : kp_R_has (nI 3) σ = some (0, σ)) : kp_R_check_100_58 100 (nI 3) (nI 0) σ = some (4, σ) := by
  rw [show kp_R_check_100_58 100 (nI 3) (nI 0) σ = kp_R_check_100_58 99 (nI 3) (nI 1) σ from (kW_100_0 σ 99).1 w0]
  rw [show kp_R_check_100_58 99 (nI 3) (nI 1) σ = kp_R_check_100_58 98 (nI 3) (nI 2) σ from (kW_100_1 σ 98).1 w1]
  exact (kW_100_2 σ 97).2 w
theorem kCw_100_3 {σ : kt_S} (w0 : kp_R_has (nI 1) σ = some (1, σ)) (w1 : kp_R_has (nI 2) σ = some (1, σ)) (w2 : kp_R_has (nI 3) σ = some (1, σ)) : kp_R_check_100_58 100 (nI 3) (nI 0) σ = some (0, σ) := by
  rw [show kp_R_check_100_58 100 (nI 3) (nI 0) σ = kp_R_check_100_58 99 (nI 3) (nI 1) σ from (kW_100_0 σ 99).1 w0]
  rw [show kp_R_check_100_58 99 (nI 3) (nI 1) σ = kp_R_check_100_58 98 (nI 3) (nI 2) σ from (kW_100_1 σ 98).1 w1]
  rw [show kp_R_check_100_58 98 (nI 3) (nI 2) σ = kp_R_check_100_58 97 (nI 3) (nI 3) σ from (kW_100_2 σ 97).1 w2]
  exact kW_100_end σ 96
theorem kW_102_0 (σ : kt_S) (f : Nat) : (kp_R_has (nI 1) σ = some (1, σ) → kp_R_check_102_58 (f + 1) (nI 2) (nI 0) σ = kp_R_check_102_58 f (nI 2) (nI 1) σ) ∧ (kp_R_has (nI 1) σ = some (0, σ) → kp_R_check_102_58 (f + 1) (nI 2) (nI 0) σ = some (4, σ)) := by
  have hcl : (nI 0).toNatClampNeg = 0 := kn_cl (by omega)
  have e : ∀ K, kp_R_check_102_58b K (nI 2) (nI 0) σ = Option.bind (kp_R_has (nI 1) σ) fun x2 => if x2.1 = 0 then some (4, x2.2) else K (nI 2) (nI 0 + 1) x2.2 := fun K => by
    unfold kp_R_check_102_58b
    rw [if_neg (show ¬ nI 2 ≤ nI 0 by decide), if_neg (kn_in (by omega) (by omega)), hcl]
    rfl
  refine ⟨fun h => ?_, fun h => ?_⟩
  · show kp_R_check_102_58b (kp_R_check_102_58 f) (nI 2) (nI 0) σ = _
    rw [e, h, kt_bs]
    exact if_neg ki_10
  · show kp_R_check_102_58b (kp_R_check_102_58 f) (nI 2) (nI 0) σ = _
    rw [e, h, kt_bs]
    exact if_pos rfl
theorem kW_102_1 (σ : kt_S) (f : Nat) : (kp_R_has (nI 2) σ = some (1, σ) → kp_R_check_102_58 (f + 1) (nI 2) (nI 1) σ = kp_R_check_102_58 f (nI 2) (nI 2) σ) ∧ (kp_R_has (nI 2) σ = some (0, σ) → kp_R_check_102_58 (f + 1) (nI 2) (nI 1) σ = some (4, σ)) := by
  have hcl : (nI 1).toNatClampNeg = 1 := kn_cl (by omega)
  have e : ∀ K, kp_R_check_102_58b K (nI 2) (nI 1) σ = Option.bind (kp_R_has (nI 2) σ) fun x2 => if x2.1 = 0 then some (4, x2.2) else K (nI 2) (nI 1 + 1) x2.2 := fun K => by
    unfold kp_R_check_102_58b
    rw [if_neg (show ¬ nI 2 ≤ nI 1 by decide), if_neg (kn_in (by omega) (by omega)), hcl]
    rfl
  refine ⟨fun h => ?_, fun h => ?_⟩
  · show kp_R_check_102_58b (kp_R_check_102_58 f) (nI 2) (nI 1) σ = _
    rw [e, h, kt_bs]
    exact if_neg ki_10
  · show kp_R_check_102_58b (kp_R_check_102_58 f) (nI 2) (nI 1) σ = _
    rw [e, h, kt_bs]
    exact if_pos rfl
theorem kW_102_end (σ : kt_S) (f : Nat) : kp_R_check_102_58 (f + 1) (nI 2) (nI 2) σ = some (0, σ) := by
  show kp_R_check_102_58b (kp_R_check_102_58 f) (nI 2) (nI 2) σ = _
  unfold kp_R_check_102_58b
  rw [if_pos (by decide)]
theorem kC_102_end (σ : kt_S) (f : Nat) : kp_R_check_102_2 (f + 1) (nI 7) σ = kp_R_check_102_58 100 (nI 2) (nI 0) σ := by
  show kp_R_check_102_2b (kp_R_check_102_2 f) (nI 7) σ = _
  unfold kp_R_check_102_2b kp_R_check_102_49
  rw [if_pos (show Int32.ofNat 7 ≤ nI 7 by decide)]
  rfl
theorem kCb_102_1 {σ : kt_S}  (hb : kBd σ 1 3) : kp_R_check_102 σ = some (3, σ) := by
  show kp_R_check_102_2 100 (nI 1) σ = _
  exact (kC_102_1 σ 99).2 hb
theorem kCb_102_2 {σ : kt_S} (h1 : kGd σ 1 3) (hb : kBd σ 2 0) : kp_R_check_102 σ = some (3, σ) := by
  show kp_R_check_102_2 100 (nI 1) σ = _
  rw [show kp_R_check_102_2 100 (nI 1) σ = kp_R_check_102_2 99 (nI 2) σ from (kC_102_1 σ 99).1 h1]
  exact (kC_102_2 σ 98).2 hb
theorem kCb_102_3 {σ : kt_S} (h1 : kGd σ 1 3) (h2 : kGd σ 2 0) (hb : kBd σ 3 4) : kp_R_check_102 σ = some (3, σ) := by
  show kp_R_check_102_2 100 (nI 1) σ = _
  rw [show kp_R_check_102_2 100 (nI 1) σ = kp_R_check_102_2 99 (nI 2) σ from (kC_102_1 σ 99).1 h1]
  rw [show kp_R_check_102_2 99 (nI 2) σ = kp_R_check_102_2 98 (nI 3) σ from (kC_102_2 σ 98).1 h2]
  exact (kC_102_3 σ 97).2 hb
theorem kCb_102_6 {σ : kt_S} (h1 : kGd σ 1 3) (h2 : kGd σ 2 0) (h3 : kGd σ 3 4) (hb : kBd σ 6 0) : kp_R_check_102 σ = some (3, σ) := by
  show kp_R_check_102_2 100 (nI 1) σ = _
  rw [show kp_R_check_102_2 100 (nI 1) σ = kp_R_check_102_2 99 (nI 2) σ from (kC_102_1 σ 99).1 h1]
  rw [show kp_R_check_102_2 99 (nI 2) σ = kp_R_check_102_2 98 (nI 3) σ from (kC_102_2 σ 98).1 h2]
  rw [show kp_R_check_102_2 98 (nI 3) σ = kp_R_check_102_2 97 (nI 4) σ from (kC_102_3 σ 97).1 h3]
  rw [show kp_R_check_102_2 97 (nI 4) σ = kp_R_check_102_2 96 (nI 5) σ from kC_102_4 σ 96]
  rw [show kp_R_check_102_2 96 (nI 5) σ = kp_R_check_102_2 95 (nI 6) σ from kC_102_5 σ 95]
  exact (kC_102_6 σ 94).2 hb
theorem kCg_102 {σ : kt_S} (h1 : kGd σ 1 3) (h2 : kGd σ 2 0) (h3 : kGd σ 3 4) (h6 : kGd σ 6 0) : kp_R_check_102 σ = kp_R_check_102_58 100 (nI 2) (nI 0) σ := by
  show kp_R_check_102_2 100 (nI 1) σ = _
  rw [show kp_R_check_102_2 100 (nI 1) σ = kp_R_check_102_2 99 (nI 2) σ from (kC_102_1 σ 99).1 h1]
  rw [show kp_R_check_102_2 99 (nI 2) σ = kp_R_check_102_2 98 (nI 3) σ from (kC_102_2 σ 98).1 h2]
  rw [show kp_R_check_102_2 98 (nI 3) σ = kp_R_check_102_2 97 (nI 4) σ from (kC_102_3 σ 97).1 h3]
  rw [show kp_R_check_102_2 97 (nI 4) σ = kp_R_check_102_2 96 (nI 5) σ from kC_102_4 σ 96]
  rw [show kp_R_check_102_2 96 (nI 5) σ = kp_R_check_102_2 95 (nI 6) σ from kC_102_5 σ 95]
  rw [show kp_R_check_102_2 95 (nI 6) σ = kp_R_check_102_2 94 (nI 7) σ from (kC_102_6 σ 94).1 h6]
  exact kC_102_end σ 93
theorem kCw_102_0 {σ : kt_S}  (w : kp_R_has (nI 1) σ = some (0, σ)) : kp_R_check_102_58 100 (nI 2) (nI 0) σ = some (4, σ) := by
  exact (kW_102_0 σ 99).2 w
theorem kCw_102_1 {σ : kt_S} (w0 : kp_R_has (nI 1) σ = some (1, σ)) (w : kp_R_has (nI 2) σ = some (0, σ)) : kp_R_check_102_58 100 (nI 2) (nI 0) σ = some (4, σ) := by
  rw [show kp_R_check_102_58 100 (nI 2) (nI 0) σ = kp_R_check_102_58 99 (nI 2) (nI 1) σ from (kW_102_0 σ 99).1 w0]
  exact (kW_102_1 σ 98).2 w
theorem kCw_102_2 {σ : kt_S} (w0 : kp_R_has (nI 1) σ = some (1, σ)) (w1 : kp_R_has (nI 2) σ = some (1, σ)) : kp_R_check_102_58 100 (nI 2) (nI 0) σ = some (0, σ) := by
  rw [show kp_R_check_102_58 100 (nI 2) (nI 0) σ = kp_R_check_102_58 99 (nI 2) (nI 1) σ from (kW_102_0 σ 99).1 w0]
  rw [show kp_R_check_102_58 99 (nI 2) (nI 1) σ = kp_R_check_102_58 98 (nI 2) (nI 2) σ from (kW_102_1 σ 98).1 w1]
  exact kW_102_end σ 97
theorem kW_104_0 (σ : kt_S) (f : Nat) : (kp_R_has (nI 1) σ = some (1, σ) → kp_R_check_104_58 (f + 1) (nI 1) (nI 0) σ = kp_R_check_104_58 f (nI 1) (nI 1) σ) ∧ (kp_R_has (nI 1) σ = some (0, σ) → kp_R_check_104_58 (f + 1) (nI 1) (nI 0) σ = some (4, σ)) := by
  have hcl : (nI 0).toNatClampNeg = 0 := kn_cl (by omega)
  have e : ∀ K, kp_R_check_104_58b K (nI 1) (nI 0) σ = Option.bind (kp_R_has (nI 1) σ) fun x2 => if x2.1 = 0 then some (4, x2.2) else K (nI 1) (nI 0 + 1) x2.2 := fun K => by
    unfold kp_R_check_104_58b
    rw [if_neg (show ¬ nI 1 ≤ nI 0 by decide), if_neg (kn_in (by omega) (by omega)), hcl]
    rfl
  refine ⟨fun h => ?_, fun h => ?_⟩
  · show kp_R_check_104_58b (kp_R_check_104_58 f) (nI 1) (nI 0) σ = _
    rw [e, h, kt_bs]
    exact if_neg ki_10
  · show kp_R_check_104_58b (kp_R_check_104_58 f) (nI 1) (nI 0) σ = _
    rw [e, h, kt_bs]
    exact if_pos rfl
theorem kW_104_end (σ : kt_S) (f : Nat) : kp_R_check_104_58 (f + 1) (nI 1) (nI 1) σ = some (0, σ) := by
  show kp_R_check_104_58b (kp_R_check_104_58 f) (nI 1) (nI 1) σ = _
  unfold kp_R_check_104_58b
  rw [if_pos (by decide)]
theorem kC_104_end (σ : kt_S) (f : Nat) : kp_R_check_104_2 (f + 1) (nI 4) σ = kp_R_check_104_58 100 (nI 1) (nI 0) σ := by
  show kp_R_check_104_2b (kp_R_check_104_2 f) (nI 4) σ = _
  unfold kp_R_check_104_2b kp_R_check_104_49
  rw [if_pos (show Int32.ofNat 4 ≤ nI 4 by decide)]
  rfl
theorem kCb_104_1 {σ : kt_S}  (hb : kBd σ 1 0) : kp_R_check_104 σ = some (3, σ) := by
  show kp_R_check_104_2 100 (nI 1) σ = _
  exact (kC_104_1 σ 99).2 hb
theorem kCb_104_2 {σ : kt_S} (h1 : kGd σ 1 0) (hb : kBd σ 2 3) : kp_R_check_104 σ = some (3, σ) := by
  show kp_R_check_104_2 100 (nI 1) σ = _
  rw [show kp_R_check_104_2 100 (nI 1) σ = kp_R_check_104_2 99 (nI 2) σ from (kC_104_1 σ 99).1 h1]
  exact (kC_104_2 σ 98).2 hb
theorem kCb_104_3 {σ : kt_S} (h1 : kGd σ 1 0) (h2 : kGd σ 2 3) (hb : kBd σ 3 3) : kp_R_check_104 σ = some (3, σ) := by
  show kp_R_check_104_2 100 (nI 1) σ = _
  rw [show kp_R_check_104_2 100 (nI 1) σ = kp_R_check_104_2 99 (nI 2) σ from (kC_104_1 σ 99).1 h1]
  rw [show kp_R_check_104_2 99 (nI 2) σ = kp_R_check_104_2 98 (nI 3) σ from (kC_104_2 σ 98).1 h2]
  exact (kC_104_3 σ 97).2 hb
theorem kCg_104 {σ : kt_S} (h1 : kGd σ 1 0) (h2 : kGd σ 2 3) (h3 : kGd σ 3 3) : kp_R_check_104 σ = kp_R_check_104_58 100 (nI 1) (nI 0) σ := by
  show kp_R_check_104_2 100 (nI 1) σ = _
  rw [show kp_R_check_104_2 100 (nI 1) σ = kp_R_check_104_2 99 (nI 2) σ from (kC_104_1 σ 99).1 h1]
  rw [show kp_R_check_104_2 99 (nI 2) σ = kp_R_check_104_2 98 (nI 3) σ from (kC_104_2 σ 98).1 h2]
  rw [show kp_R_check_104_2 98 (nI 3) σ = kp_R_check_104_2 97 (nI 4) σ from (kC_104_3 σ 97).1 h3]
  exact kC_104_end σ 96
theorem kCw_104_0 {σ : kt_S}  (w : kp_R_has (nI 1) σ = some (0, σ)) : kp_R_check_104_58 100 (nI 1) (nI 0) σ = some (4, σ) := by
  exact (kW_104_0 σ 99).2 w
theorem kCw_104_1 {σ : kt_S} (w0 : kp_R_has (nI 1) σ = some (1, σ)) : kp_R_check_104_58 100 (nI 1) (nI 0) σ = some (0, σ) := by
  rw [show kp_R_check_104_58 100 (nI 1) (nI 0) σ = kp_R_check_104_58 99 (nI 1) (nI 1) σ from (kW_104_0 σ 99).1 w0]
  exact kW_104_end σ 98
