/-! The types that are due, and the keys that are wanted. -/
def kGd (σ : kt_S) (x due : Nat) : Prop := kp_R_has (nI x) σ = some (0, σ) ∨ (kp_R_has (nI x) σ = some (1, σ) ∧ σ 9 x = nI due)
def kBd (σ : kt_S) (x due : Nat) : Prop := kp_R_has (nI x) σ = some (1, σ) ∧ ¬ σ 9 x = nI due
theorem kQ_due {B : Nat → Nat} {k : Nat} {σ τ : kt_S} (H : kRq B k σ τ) {x due : Nat} (hx : x ≤ 8) (hd : due = 0 ∨ due = 3 ∨ due = 4) : (kGd σ x due ∧ kp_M_is (nI x) (nI due) τ = some (1, τ) ∧ (kQn σ τ x ∨ (kQy B k σ τ x ∧ σ 9 x = nI due))) ∨ (kBd σ x due ∧ kp_M_is (nI x) (nI due) τ = some (0, τ)) := by
  rcases kQ_key H hx with h | h
  · obtain ⟨j, _, _, hh, _, _⟩ := id h
    rcases kQ_is hd h with ⟨g1, g2⟩ | ⟨g1, g2⟩
    · exact Or.inl ⟨Or.inr ⟨hh, g1⟩, g2, Or.inr ⟨h, g1⟩⟩
    · exact Or.inr ⟨⟨hh, g1⟩, g2⟩
  · exact Or.inl ⟨Or.inl h.2.1, kQ_isn h, Or.inl h⟩
theorem kC_100_1 (σ : kt_S) (f : Nat) : (kGd σ 1 0 → kp_R_check_100_2 (f + 1) (nI 1) σ = kp_R_check_100_2 f (nI 2) σ) ∧ (kBd σ 1 0 → kp_R_check_100_2 (f + 1) (nI 1) σ = some (3, σ)) := by
  refine ⟨fun h => ?_, fun h => ?_⟩
  · show kp_R_check_100_2b (kp_R_check_100_2 f) (nI 1) σ = _
    unfold kp_R_check_100_2b kp_R_check_100_43
    have hcl : (nI 1).toNatClampNeg = 1 := kn_cl (by omega)
    have hin : ¬ (nI 1 < 0 ∨ 9 ≤ (nI 1).toNatClampNeg) := kn_in (by omega) (by omega)
    have hin9 : ¬ (nI 1 < 0 ∨ 9 ≤ (nI 1).toNatClampNeg) := kn_in (by omega) (by omega)
    rw [if_neg (show ¬ Int32.ofNat 9 ≤ nI 1 by decide), if_neg (show ¬ (8 : Int32) < nI 1 by decide), if_neg hin, hcl, if_neg (by decide)]
    rcases h with h | ⟨h, h2⟩
    · rw [h, kt_bs]
      exact if_pos rfl
    · rw [h, kt_bs]
      dsimp only
      rw [if_neg ki_10, if_neg (show ¬ (nI 1 < 0 ∨ 9 ≤ 1) by decide), if_neg (show ¬ (nI 1 < 0 ∨ 9 ≤ 1) by decide)]
      exact if_pos h2
  · show kp_R_check_100_2b (kp_R_check_100_2 f) (nI 1) σ = _
    unfold kp_R_check_100_2b kp_R_check_100_43
    have hcl : (nI 1).toNatClampNeg = 1 := kn_cl (by omega)
    have hin : ¬ (nI 1 < 0 ∨ 9 ≤ (nI 1).toNatClampNeg) := kn_in (by omega) (by omega)
    rw [if_neg (show ¬ Int32.ofNat 9 ≤ nI 1 by decide), if_neg (show ¬ (8 : Int32) < nI 1 by decide), if_neg hin, hcl, if_neg (by decide), h.1, kt_bs]
    dsimp only
    rw [if_neg ki_10, if_neg (show ¬ (nI 1 < 0 ∨ 9 ≤ 1) by decide), if_neg (show ¬ (nI 1 < 0 ∨ 9 ≤ 1) by decide)]
    exact if_neg h.2
theorem kC_100_2 (σ : kt_S) (f : Nat) : (kGd σ 2 3 → kp_R_check_100_2 (f + 1) (nI 2) σ = kp_R_check_100_2 f (nI 3) σ) ∧ (kBd σ 2 3 → kp_R_check_100_2 (f + 1) (nI 2) σ = some (3, σ)) := by
  refine ⟨fun h => ?_, fun h => ?_⟩
  · show kp_R_check_100_2b (kp_R_check_100_2 f) (nI 2) σ = _
    unfold kp_R_check_100_2b kp_R_check_100_43
    have hcl : (nI 2).toNatClampNeg = 2 := kn_cl (by omega)
    have hin : ¬ (nI 2 < 0 ∨ 9 ≤ (nI 2).toNatClampNeg) := kn_in (by omega) (by omega)
    have hin9 : ¬ (nI 2 < 0 ∨ 9 ≤ (nI 2).toNatClampNeg) := kn_in (by omega) (by omega)
    rw [if_neg (show ¬ Int32.ofNat 9 ≤ nI 2 by decide), if_neg (show ¬ (8 : Int32) < nI 2 by decide), if_neg hin, hcl, if_neg (by decide)]
    rcases h with h | ⟨h, h2⟩
    · rw [h, kt_bs]
      exact if_pos rfl
    · rw [h, kt_bs]
      dsimp only
      rw [if_neg ki_10, if_neg (show ¬ (nI 2 < 0 ∨ 9 ≤ 2) by decide), if_neg (show ¬ (nI 2 < 0 ∨ 9 ≤ 2) by decide)]
      exact if_pos h2
  · show kp_R_check_100_2b (kp_R_check_100_2 f) (nI 2) σ = _
    unfold kp_R_check_100_2b kp_R_check_100_43
    have hcl : (nI 2).toNatClampNeg = 2 := kn_cl (by omega)
    have hin : ¬ (nI 2 < 0 ∨ 9 ≤ (nI 2).toNatClampNeg) := kn_in (by omega) (by omega)
    rw [if_neg (show ¬ Int32.ofNat 9 ≤ nI 2 by decide), if_neg (show ¬ (8 : Int32) < nI 2 by decide), if_neg hin, hcl, if_neg (by decide), h.1, kt_bs]
    dsimp only
    rw [if_neg ki_10, if_neg (show ¬ (nI 2 < 0 ∨ 9 ≤ 2) by decide), if_neg (show ¬ (nI 2 < 0 ∨ 9 ≤ 2) by decide)]
    exact if_neg h.2
theorem kC_100_3 (σ : kt_S) (f : Nat) : (kGd σ 3 0 → kp_R_check_100_2 (f + 1) (nI 3) σ = kp_R_check_100_2 f (nI 4) σ) ∧ (kBd σ 3 0 → kp_R_check_100_2 (f + 1) (nI 3) σ = some (3, σ)) := by
  refine ⟨fun h => ?_, fun h => ?_⟩
  · show kp_R_check_100_2b (kp_R_check_100_2 f) (nI 3) σ = _
    unfold kp_R_check_100_2b kp_R_check_100_43
    have hcl : (nI 3).toNatClampNeg = 3 := kn_cl (by omega)
    have hin : ¬ (nI 3 < 0 ∨ 9 ≤ (nI 3).toNatClampNeg) := kn_in (by omega) (by omega)
    have hin9 : ¬ (nI 3 < 0 ∨ 9 ≤ (nI 3).toNatClampNeg) := kn_in (by omega) (by omega)
    rw [if_neg (show ¬ Int32.ofNat 9 ≤ nI 3 by decide), if_neg (show ¬ (8 : Int32) < nI 3 by decide), if_neg hin, hcl, if_neg (by decide)]
    rcases h with h | ⟨h, h2⟩
    · rw [h, kt_bs]
      exact if_pos rfl
    · rw [h, kt_bs]
      dsimp only
      rw [if_neg ki_10, if_neg (show ¬ (nI 3 < 0 ∨ 9 ≤ 3) by decide), if_neg (show ¬ (nI 3 < 0 ∨ 9 ≤ 3) by decide)]
      exact if_pos h2
  · show kp_R_check_100_2b (kp_R_check_100_2 f) (nI 3) σ = _
    unfold kp_R_check_100_2b kp_R_check_100_43
    have hcl : (nI 3).toNatClampNeg = 3 := kn_cl (by omega)
    have hin : ¬ (nI 3 < 0 ∨ 9 ≤ (nI 3).toNatClampNeg) := kn_in (by omega) (by omega)
    rw [if_neg (show ¬ Int32.ofNat 9 ≤ nI 3 by decide), if_neg (show ¬ (8 : Int32) < nI 3 by decide), if_neg hin, hcl, if_neg (by decide), h.1, kt_bs]
    dsimp only
    rw [if_neg ki_10, if_neg (show ¬ (nI 3 < 0 ∨ 9 ≤ 3) by decide), if_neg (show ¬ (nI 3 < 0 ∨ 9 ≤ 3) by decide)]
    exact if_neg h.2
theorem kC_100_4 (σ : kt_S) (f : Nat) : kp_R_check_100_2 (f + 1) (nI 4) σ = kp_R_check_100_2 f (nI 5) σ := by
  show kp_R_check_100_2b (kp_R_check_100_2 f) (nI 4) σ = _
  unfold kp_R_check_100_2b kp_R_check_100_43
  have hcl : (nI 4).toNatClampNeg = 4 := kn_cl (by omega)
  have hin : ¬ (nI 4 < 0 ∨ 9 ≤ (nI 4).toNatClampNeg) := kn_in (by omega) (by omega)
  have hin9 : ¬ (nI 4 < 0 ∨ 9 ≤ (nI 4).toNatClampNeg) := kn_in (by omega) (by omega)
  rw [if_neg (show ¬ Int32.ofNat 9 ≤ nI 4 by decide), if_neg (show ¬ (8 : Int32) < nI 4 by decide), if_neg hin, if_pos (by rw [hcl]; rfl)]
  rfl
theorem kC_100_5 (σ : kt_S) (f : Nat) : (kGd σ 5 4 → kp_R_check_100_2 (f + 1) (nI 5) σ = kp_R_check_100_2 f (nI 6) σ) ∧ (kBd σ 5 4 → kp_R_check_100_2 (f + 1) (nI 5) σ = some (3, σ)) := by
  refine ⟨fun h => ?_, fun h => ?_⟩
  · show kp_R_check_100_2b (kp_R_check_100_2 f) (nI 5) σ = _
    unfold kp_R_check_100_2b kp_R_check_100_43
    have hcl : (nI 5).toNatClampNeg = 5 := kn_cl (by omega)
    have hin : ¬ (nI 5 < 0 ∨ 9 ≤ (nI 5).toNatClampNeg) := kn_in (by omega) (by omega)
    have hin9 : ¬ (nI 5 < 0 ∨ 9 ≤ (nI 5).toNatClampNeg) := kn_in (by omega) (by omega)
    rw [if_neg (show ¬ Int32.ofNat 9 ≤ nI 5 by decide), if_neg (show ¬ (8 : Int32) < nI 5 by decide), if_neg hin, hcl, if_neg (by decide)]
    rcases h with h | ⟨h, h2⟩
    · rw [h, kt_bs]
      exact if_pos rfl
    · rw [h, kt_bs]
      dsimp only
      rw [if_neg ki_10, if_neg (show ¬ (nI 5 < 0 ∨ 9 ≤ 5) by decide), if_neg (show ¬ (nI 5 < 0 ∨ 9 ≤ 5) by decide)]
      exact if_pos h2
  · show kp_R_check_100_2b (kp_R_check_100_2 f) (nI 5) σ = _
    unfold kp_R_check_100_2b kp_R_check_100_43
    have hcl : (nI 5).toNatClampNeg = 5 := kn_cl (by omega)
    have hin : ¬ (nI 5 < 0 ∨ 9 ≤ (nI 5).toNatClampNeg) := kn_in (by omega) (by omega)
    rw [if_neg (show ¬ Int32.ofNat 9 ≤ nI 5 by decide), if_neg (show ¬ (8 : Int32) < nI 5 by decide), if_neg hin, hcl, if_neg (by decide), h.1, kt_bs]
    dsimp only
    rw [if_neg ki_10, if_neg (show ¬ (nI 5 < 0 ∨ 9 ≤ 5) by decide), if_neg (show ¬ (nI 5 < 0 ∨ 9 ≤ 5) by decide)]
    exact if_neg h.2
theorem kC_100_6 (σ : kt_S) (f : Nat) : kp_R_check_100_2 (f + 1) (nI 6) σ = kp_R_check_100_2 f (nI 7) σ := by
  show kp_R_check_100_2b (kp_R_check_100_2 f) (nI 6) σ = _
  unfold kp_R_check_100_2b kp_R_check_100_43
  have hcl : (nI 6).toNatClampNeg = 6 := kn_cl (by omega)
  have hin : ¬ (nI 6 < 0 ∨ 9 ≤ (nI 6).toNatClampNeg) := kn_in (by omega) (by omega)
  have hin9 : ¬ (nI 6 < 0 ∨ 9 ≤ (nI 6).toNatClampNeg) := kn_in (by omega) (by omega)
  rw [if_neg (show ¬ Int32.ofNat 9 ≤ nI 6 by decide), if_neg (show ¬ (8 : Int32) < nI 6 by decide), if_neg hin, if_pos (by rw [hcl]; rfl)]
  rfl
theorem kC_100_7 (σ : kt_S) (f : Nat) : kp_R_check_100_2 (f + 1) (nI 7) σ = kp_R_check_100_2 f (nI 8) σ := by
  show kp_R_check_100_2b (kp_R_check_100_2 f) (nI 7) σ = _
  unfold kp_R_check_100_2b kp_R_check_100_43
  have hcl : (nI 7).toNatClampNeg = 7 := kn_cl (by omega)
  have hin : ¬ (nI 7 < 0 ∨ 9 ≤ (nI 7).toNatClampNeg) := kn_in (by omega) (by omega)
  have hin9 : ¬ (nI 7 < 0 ∨ 9 ≤ (nI 7).toNatClampNeg) := kn_in (by omega) (by omega)
  rw [if_neg (show ¬ Int32.ofNat 9 ≤ nI 7 by decide), if_neg (show ¬ (8 : Int32) < nI 7 by decide), if_neg hin, if_pos (by rw [hcl]; rfl)]
  rfl
theorem kC_100_8 (σ : kt_S) (f : Nat) : (kGd σ 8 0 → kp_R_check_100_2 (f + 1) (nI 8) σ = kp_R_check_100_2 f (nI 9) σ) ∧ (kBd σ 8 0 → kp_R_check_100_2 (f + 1) (nI 8) σ = some (3, σ)) := by
  refine ⟨fun h => ?_, fun h => ?_⟩
  · show kp_R_check_100_2b (kp_R_check_100_2 f) (nI 8) σ = _
    unfold kp_R_check_100_2b kp_R_check_100_43
    have hcl : (nI 8).toNatClampNeg = 8 := kn_cl (by omega)
    have hin : ¬ (nI 8 < 0 ∨ 9 ≤ (nI 8).toNatClampNeg) := kn_in (by omega) (by omega)
    have hin9 : ¬ (nI 8 < 0 ∨ 9 ≤ (nI 8).toNatClampNeg) := kn_in (by omega) (by omega)
    rw [if_neg (show ¬ Int32.ofNat 9 ≤ nI 8 by decide), if_neg (show ¬ (8 : Int32) < nI 8 by decide), if_neg hin, hcl, if_neg (by decide)]
    rcases h with h | ⟨h, h2⟩
    · rw [h, kt_bs]
      exact if_pos rfl
    · rw [h, kt_bs]
      dsimp only
      rw [if_neg ki_10, if_neg (show ¬ (nI 8 < 0 ∨ 9 ≤ 8) by decide), if_neg (show ¬ (nI 8 < 0 ∨ 9 ≤ 8) by decide)]
      exact if_pos h2
  · show kp_R_check_100_2b (kp_R_check_100_2 f) (nI 8) σ = _
    unfold kp_R_check_100_2b kp_R_check_100_43
    have hcl : (nI 8).toNatClampNeg = 8 := kn_cl (by omega)
    have hin : ¬ (nI 8 < 0 ∨ 9 ≤ (nI 8).toNatClampNeg) := kn_in (by omega) (by omega)
    rw [if_neg (show ¬ Int32.ofNat 9 ≤ nI 8 by decide), if_neg (show ¬ (8 : Int32) < nI 8 by decide), if_neg hin, hcl, if_neg (by decide), h.1, kt_bs]
    dsimp only
    rw [if_neg ki_10, if_neg (show ¬ (nI 8 < 0 ∨ 9 ≤ 8) by decide), if_neg (show ¬ (nI 8 < 0 ∨ 9 ≤ 8) by decide)]
    exact if_neg h.2
theorem kC_102_1 (σ : kt_S) (f : Nat) : (kGd σ 1 3 → kp_R_check_102_2 (f + 1) (nI 1) σ = kp_R_check_102_2 f (nI 2) σ) ∧ (kBd σ 1 3 → kp_R_check_102_2 (f + 1) (nI 1) σ = some (3, σ)) := by
  refine ⟨fun h => ?_, fun h => ?_⟩
  · show kp_R_check_102_2b (kp_R_check_102_2 f) (nI 1) σ = _
    unfold kp_R_check_102_2b kp_R_check_102_43
    have hcl : (nI 1).toNatClampNeg = 1 := kn_cl (by omega)
    have hin : ¬ (nI 1 < 0 ∨ 7 ≤ (nI 1).toNatClampNeg) := kn_in (by omega) (by omega)
    have hin9 : ¬ (nI 1 < 0 ∨ 9 ≤ (nI 1).toNatClampNeg) := kn_in (by omega) (by omega)
    rw [if_neg (show ¬ Int32.ofNat 7 ≤ nI 1 by decide), if_neg (show ¬ (8 : Int32) < nI 1 by decide), if_neg hin, hcl, if_neg (by decide)]
    rcases h with h | ⟨h, h2⟩
    · rw [h, kt_bs]
      exact if_pos rfl
    · rw [h, kt_bs]
      dsimp only
      rw [if_neg ki_10, if_neg (show ¬ (nI 1 < 0 ∨ 9 ≤ 1) by decide), if_neg (show ¬ (nI 1 < 0 ∨ 7 ≤ 1) by decide)]
      exact if_pos h2
  · show kp_R_check_102_2b (kp_R_check_102_2 f) (nI 1) σ = _
    unfold kp_R_check_102_2b kp_R_check_102_43
    have hcl : (nI 1).toNatClampNeg = 1 := kn_cl (by omega)
    have hin : ¬ (nI 1 < 0 ∨ 7 ≤ (nI 1).toNatClampNeg) := kn_in (by omega) (by omega)
    rw [if_neg (show ¬ Int32.ofNat 7 ≤ nI 1 by decide), if_neg (show ¬ (8 : Int32) < nI 1 by decide), if_neg hin, hcl, if_neg (by decide), h.1, kt_bs]
    dsimp only
    rw [if_neg ki_10, if_neg (show ¬ (nI 1 < 0 ∨ 9 ≤ 1) by decide), if_neg (show ¬ (nI 1 < 0 ∨ 7 ≤ 1) by decide)]
    exact if_neg h.2
theorem kC_102_2 (σ : kt_S) (f : Nat) : (kGd σ 2 0 → kp_R_check_102_2 (f + 1) (nI 2) σ = kp_R_check_102_2 f (nI 3) σ) ∧ (kBd σ 2 0 → kp_R_check_102_2 (f + 1) (nI 2) σ = some (3, σ)) := by
  refine ⟨fun h => ?_, fun h => ?_⟩
  · show kp_R_check_102_2b (kp_R_check_102_2 f) (nI 2) σ = _
    unfold kp_R_check_102_2b kp_R_check_102_43
    have hcl : (nI 2).toNatClampNeg = 2 := kn_cl (by omega)
    have hin : ¬ (nI 2 < 0 ∨ 7 ≤ (nI 2).toNatClampNeg) := kn_in (by omega) (by omega)
    have hin9 : ¬ (nI 2 < 0 ∨ 9 ≤ (nI 2).toNatClampNeg) := kn_in (by omega) (by omega)
    rw [if_neg (show ¬ Int32.ofNat 7 ≤ nI 2 by decide), if_neg (show ¬ (8 : Int32) < nI 2 by decide), if_neg hin, hcl, if_neg (by decide)]
    rcases h with h | ⟨h, h2⟩
    · rw [h, kt_bs]
      exact if_pos rfl
    · rw [h, kt_bs]
      dsimp only
      rw [if_neg ki_10, if_neg (show ¬ (nI 2 < 0 ∨ 9 ≤ 2) by decide), if_neg (show ¬ (nI 2 < 0 ∨ 7 ≤ 2) by decide)]
      exact if_pos h2
  · show kp_R_check_102_2b (kp_R_check_102_2 f) (nI 2) σ = _
    unfold kp_R_check_102_2b kp_R_check_102_43
    have hcl : (nI 2).toNatClampNeg = 2 := kn_cl (by omega)
    have hin : ¬ (nI 2 < 0 ∨ 7 ≤ (nI 2).toNatClampNeg) := kn_in (by omega) (by omega)
    rw [if_neg (show ¬ Int32.ofNat 7 ≤ nI 2 by decide), if_neg (show ¬ (8 : Int32) < nI 2 by decide), if_neg hin, hcl, if_neg (by decide), h.1, kt_bs]
    dsimp only
    rw [if_neg ki_10, if_neg (show ¬ (nI 2 < 0 ∨ 9 ≤ 2) by decide), if_neg (show ¬ (nI 2 < 0 ∨ 7 ≤ 2) by decide)]
    exact if_neg h.2
theorem kC_102_3 (σ : kt_S) (f : Nat) : (kGd σ 3 4 → kp_R_check_102_2 (f + 1) (nI 3) σ = kp_R_check_102_2 f (nI 4) σ) ∧ (kBd σ 3 4 → kp_R_check_102_2 (f + 1) (nI 3) σ = some (3, σ)) := by
  refine ⟨fun h => ?_, fun h => ?_⟩
  · show kp_R_check_102_2b (kp_R_check_102_2 f) (nI 3) σ = _
    unfold kp_R_check_102_2b kp_R_check_102_43
    have hcl : (nI 3).toNatClampNeg = 3 := kn_cl (by omega)
    have hin : ¬ (nI 3 < 0 ∨ 7 ≤ (nI 3).toNatClampNeg) := kn_in (by omega) (by omega)
    have hin9 : ¬ (nI 3 < 0 ∨ 9 ≤ (nI 3).toNatClampNeg) := kn_in (by omega) (by omega)
    rw [if_neg (show ¬ Int32.ofNat 7 ≤ nI 3 by decide), if_neg (show ¬ (8 : Int32) < nI 3 by decide), if_neg hin, hcl, if_neg (by decide)]
    rcases h with h | ⟨h, h2⟩
    · rw [h, kt_bs]
      exact if_pos rfl
    · rw [h, kt_bs]
      dsimp only
      rw [if_neg ki_10, if_neg (show ¬ (nI 3 < 0 ∨ 9 ≤ 3) by decide), if_neg (show ¬ (nI 3 < 0 ∨ 7 ≤ 3) by decide)]
      exact if_pos h2
  · show kp_R_check_102_2b (kp_R_check_102_2 f) (nI 3) σ = _
    unfold kp_R_check_102_2b kp_R_check_102_43
    have hcl : (nI 3).toNatClampNeg = 3 := kn_cl (by omega)
    have hin : ¬ (nI 3 < 0 ∨ 7 ≤ (nI 3).toNatClampNeg) := kn_in (by omega) (by omega)
    rw [if_neg (show ¬ Int32.ofNat 7 ≤ nI 3 by decide), if_neg (show ¬ (8 : Int32) < nI 3 by decide), if_neg hin, hcl, if_neg (by decide), h.1, kt_bs]
    dsimp only
    rw [if_neg ki_10, if_neg (show ¬ (nI 3 < 0 ∨ 9 ≤ 3) by decide), if_neg (show ¬ (nI 3 < 0 ∨ 7 ≤ 3) by decide)]
    exact if_neg h.2
theorem kC_102_4 (σ : kt_S) (f : Nat) : kp_R_check_102_2 (f + 1) (nI 4) σ = kp_R_check_102_2 f (nI 5) σ := by
  show kp_R_check_102_2b (kp_R_check_102_2 f) (nI 4) σ = _
  unfold kp_R_check_102_2b kp_R_check_102_43
  have hcl : (nI 4).toNatClampNeg = 4 := kn_cl (by omega)
  have hin : ¬ (nI 4 < 0 ∨ 7 ≤ (nI 4).toNatClampNeg) := kn_in (by omega) (by omega)
  have hin9 : ¬ (nI 4 < 0 ∨ 9 ≤ (nI 4).toNatClampNeg) := kn_in (by omega) (by omega)
  rw [if_neg (show ¬ Int32.ofNat 7 ≤ nI 4 by decide), if_neg (show ¬ (8 : Int32) < nI 4 by decide), if_neg hin, if_pos (by rw [hcl]; rfl)]
  rfl
theorem kC_102_5 (σ : kt_S) (f : Nat) : kp_R_check_102_2 (f + 1) (nI 5) σ = kp_R_check_102_2 f (nI 6) σ := by
  show kp_R_check_102_2b (kp_R_check_102_2 f) (nI 5) σ = _
  unfold kp_R_check_102_2b kp_R_check_102_43
  have hcl : (nI 5).toNatClampNeg = 5 := kn_cl (by omega)
  have hin : ¬ (nI 5 < 0 ∨ 7 ≤ (nI 5).toNatClampNeg) := kn_in (by omega) (by omega)
  have hin9 : ¬ (nI 5 < 0 ∨ 9 ≤ (nI 5).toNatClampNeg) := kn_in (by omega) (by omega)
  rw [if_neg (show ¬ Int32.ofNat 7 ≤ nI 5 by decide), if_neg (show ¬ (8 : Int32) < nI 5 by decide), if_neg hin, if_pos (by rw [hcl]; rfl)]
  rfl
theorem kC_102_6 (σ : kt_S) (f : Nat) : (kGd σ 6 0 → kp_R_check_102_2 (f + 1) (nI 6) σ = kp_R_check_102_2 f (nI 7) σ) ∧ (kBd σ 6 0 → kp_R_check_102_2 (f + 1) (nI 6) σ = some (3, σ)) := by
  refine ⟨fun h => ?_, fun h => ?_⟩
  · show kp_R_check_102_2b (kp_R_check_102_2 f) (nI 6) σ = _
    unfold kp_R_check_102_2b kp_R_check_102_43
    have hcl : (nI 6).toNatClampNeg = 6 := kn_cl (by omega)
    have hin : ¬ (nI 6 < 0 ∨ 7 ≤ (nI 6).toNatClampNeg) := kn_in (by omega) (by omega)
    have hin9 : ¬ (nI 6 < 0 ∨ 9 ≤ (nI 6).toNatClampNeg) := kn_in (by omega) (by omega)
    rw [if_neg (show ¬ Int32.ofNat 7 ≤ nI 6 by decide), if_neg (show ¬ (8 : Int32) < nI 6 by decide), if_neg hin, hcl, if_neg (by decide)]
    rcases h with h | ⟨h, h2⟩
    · rw [h, kt_bs]
      exact if_pos rfl
    · rw [h, kt_bs]
      dsimp only
      rw [if_neg ki_10, if_neg (show ¬ (nI 6 < 0 ∨ 9 ≤ 6) by decide), if_neg (show ¬ (nI 6 < 0 ∨ 7 ≤ 6) by decide)]
      exact if_pos h2
  · show kp_R_check_102_2b (kp_R_check_102_2 f) (nI 6) σ = _
    unfold kp_R_check_102_2b kp_R_check_102_43
    have hcl : (nI 6).toNatClampNeg = 6 := kn_cl (by omega)
    have hin : ¬ (nI 6 < 0 ∨ 7 ≤ (nI 6).toNatClampNeg) := kn_in (by omega) (by omega)
    rw [if_neg (show ¬ Int32.ofNat 7 ≤ nI 6 by decide), if_neg (show ¬ (8 : Int32) < nI 6 by decide), if_neg hin, hcl, if_neg (by decide), h.1, kt_bs]
    dsimp only
    rw [if_neg ki_10, if_neg (show ¬ (nI 6 < 0 ∨ 9 ≤ 6) by decide), if_neg (show ¬ (nI 6 < 0 ∨ 7 ≤ 6) by decide)]
    exact if_neg h.2
theorem kC_104_1 (σ : kt_S) (f : Nat) : (kGd σ 1 0 → kp_R_check_104_2 (f + 1) (nI 1) σ = kp_R_check_104_2 f (nI 2) σ) ∧ (kBd σ 1 0 → kp_R_check_104_2 (f + 1) (nI 1) σ = some (3, σ)) := by
  refine ⟨fun h => ?_, fun h => ?_⟩
  · show kp_R_check_104_2b (kp_R_check_104_2 f) (nI 1) σ = _
    unfold kp_R_check_104_2b kp_R_check_104_43
    have hcl : (nI 1).toNatClampNeg = 1 := kn_cl (by omega)
    have hin : ¬ (nI 1 < 0 ∨ 4 ≤ (nI 1).toNatClampNeg) := kn_in (by omega) (by omega)
    have hin9 : ¬ (nI 1 < 0 ∨ 9 ≤ (nI 1).toNatClampNeg) := kn_in (by omega) (by omega)
    rw [if_neg (show ¬ Int32.ofNat 4 ≤ nI 1 by decide), if_neg (show ¬ (8 : Int32) < nI 1 by decide), if_neg hin, hcl, if_neg (by decide)]
    rcases h with h | ⟨h, h2⟩
    · rw [h, kt_bs]
      exact if_pos rfl
    · rw [h, kt_bs]
      dsimp only
      rw [if_neg ki_10, if_neg (show ¬ (nI 1 < 0 ∨ 9 ≤ 1) by decide), if_neg (show ¬ (nI 1 < 0 ∨ 4 ≤ 1) by decide)]
      exact if_pos h2
  · show kp_R_check_104_2b (kp_R_check_104_2 f) (nI 1) σ = _
    unfold kp_R_check_104_2b kp_R_check_104_43
    have hcl : (nI 1).toNatClampNeg = 1 := kn_cl (by omega)
    have hin : ¬ (nI 1 < 0 ∨ 4 ≤ (nI 1).toNatClampNeg) := kn_in (by omega) (by omega)
    rw [if_neg (show ¬ Int32.ofNat 4 ≤ nI 1 by decide), if_neg (show ¬ (8 : Int32) < nI 1 by decide), if_neg hin, hcl, if_neg (by decide), h.1, kt_bs]
    dsimp only
    rw [if_neg ki_10, if_neg (show ¬ (nI 1 < 0 ∨ 9 ≤ 1) by decide), if_neg (show ¬ (nI 1 < 0 ∨ 4 ≤ 1) by decide)]
    exact if_neg h.2
theorem kC_104_2 (σ : kt_S) (f : Nat) : (kGd σ 2 3 → kp_R_check_104_2 (f + 1) (nI 2) σ = kp_R_check_104_2 f (nI 3) σ) ∧ (kBd σ 2 3 → kp_R_check_104_2 (f + 1) (nI 2) σ = some (3, σ)) := by
  refine ⟨fun h => ?_, fun h => ?_⟩
  · show kp_R_check_104_2b (kp_R_check_104_2 f) (nI 2) σ = _
    unfold kp_R_check_104_2b kp_R_check_104_43
    have hcl : (nI 2).toNatClampNeg = 2 := kn_cl (by omega)
    have hin : ¬ (nI 2 < 0 ∨ 4 ≤ (nI 2).toNatClampNeg) := kn_in (by omega) (by omega)
    have hin9 : ¬ (nI 2 < 0 ∨ 9 ≤ (nI 2).toNatClampNeg) := kn_in (by omega) (by omega)
    rw [if_neg (show ¬ Int32.ofNat 4 ≤ nI 2 by decide), if_neg (show ¬ (8 : Int32) < nI 2 by decide), if_neg hin, hcl, if_neg (by decide)]
    rcases h with h | ⟨h, h2⟩
    · rw [h, kt_bs]
      exact if_pos rfl
    · rw [h, kt_bs]
      dsimp only
      rw [if_neg ki_10, if_neg (show ¬ (nI 2 < 0 ∨ 9 ≤ 2) by decide), if_neg (show ¬ (nI 2 < 0 ∨ 4 ≤ 2) by decide)]
      exact if_pos h2
  · show kp_R_check_104_2b (kp_R_check_104_2 f) (nI 2) σ = _
    unfold kp_R_check_104_2b kp_R_check_104_43
    have hcl : (nI 2).toNatClampNeg = 2 := kn_cl (by omega)
    have hin : ¬ (nI 2 < 0 ∨ 4 ≤ (nI 2).toNatClampNeg) := kn_in (by omega) (by omega)
    rw [if_neg (show ¬ Int32.ofNat 4 ≤ nI 2 by decide), if_neg (show ¬ (8 : Int32) < nI 2 by decide), if_neg hin, hcl, if_neg (by decide), h.1, kt_bs]
    dsimp only
    rw [if_neg ki_10, if_neg (show ¬ (nI 2 < 0 ∨ 9 ≤ 2) by decide), if_neg (show ¬ (nI 2 < 0 ∨ 4 ≤ 2) by decide)]
    exact if_neg h.2
theorem kC_104_3 (σ : kt_S) (f : Nat) : (kGd σ 3 3 → kp_R_check_104_2 (f + 1) (nI 3) σ = kp_R_check_104_2 f (nI 4) σ) ∧ (kBd σ 3 3 → kp_R_check_104_2 (f + 1) (nI 3) σ = some (3, σ)) := by
  refine ⟨fun h => ?_, fun h => ?_⟩
  · show kp_R_check_104_2b (kp_R_check_104_2 f) (nI 3) σ = _
    unfold kp_R_check_104_2b kp_R_check_104_43
    have hcl : (nI 3).toNatClampNeg = 3 := kn_cl (by omega)
    have hin : ¬ (nI 3 < 0 ∨ 4 ≤ (nI 3).toNatClampNeg) := kn_in (by omega) (by omega)
    have hin9 : ¬ (nI 3 < 0 ∨ 9 ≤ (nI 3).toNatClampNeg) := kn_in (by omega) (by omega)
    rw [if_neg (show ¬ Int32.ofNat 4 ≤ nI 3 by decide), if_neg (show ¬ (8 : Int32) < nI 3 by decide), if_neg hin, hcl, if_neg (by decide)]
    rcases h with h | ⟨h, h2⟩
    · rw [h, kt_bs]
      exact if_pos rfl
    · rw [h, kt_bs]
      dsimp only
      rw [if_neg ki_10, if_neg (show ¬ (nI 3 < 0 ∨ 9 ≤ 3) by decide), if_neg (show ¬ (nI 3 < 0 ∨ 4 ≤ 3) by decide)]
      exact if_pos h2
  · show kp_R_check_104_2b (kp_R_check_104_2 f) (nI 3) σ = _
    unfold kp_R_check_104_2b kp_R_check_104_43
    have hcl : (nI 3).toNatClampNeg = 3 := kn_cl (by omega)
    have hin : ¬ (nI 3 < 0 ∨ 4 ≤ (nI 3).toNatClampNeg) := kn_in (by omega) (by omega)
    rw [if_neg (show ¬ Int32.ofNat 4 ≤ nI 3 by decide), if_neg (show ¬ (8 : Int32) < nI 3 by decide), if_neg hin, hcl, if_neg (by decide), h.1, kt_bs]
    dsimp only
    rw [if_neg ki_10, if_neg (show ¬ (nI 3 < 0 ∨ 9 ≤ 3) by decide), if_neg (show ¬ (nI 3 < 0 ∨ 4 ≤ 3) by decide)]
    exact if_neg h.2
