/-! MAKE: what is asked of the request. -/
noncomputable def kMm_rest (τ : kt_S) : Option (Int32 × kt_S) := Option.bind (kp_M_get 2 τ) fun x9 => if x9.1 < 1 then kp_M_make_93 x9.2 else Option.bind (kp_M_get 2 x9.2) fun x10 => if x10.1 ≤ 8 then Option.bind (kp_M_page 0 x10.2) (fun x11 => if x11.1 < 0 then kp_M_make_108 0 x11.2 else kp_M_make_108 1 x11.2) else kp_M_make_93 x10.2
theorem kC_make {B : Nat → Nat} {k : Nat} {σ τ : kt_S} (H : kRq B k σ τ) : (kp_R_checkMake σ = some (3, σ) ∧ kp_M_make τ = some (3, τ)) ∨ (kp_R_checkMake σ = some (4, σ) ∧ kp_M_make τ = some (4, τ)) ∨ (kp_R_checkMake σ = some (0, σ) ∧ kp_M_make τ = kMm_rest τ ∧ (kQy B k σ τ 1 ∧ σ 9 1 = nI 0) ∧ (kQy B k σ τ 2 ∧ σ 9 2 = nI 3) ∧ (kQy B k σ τ 3 ∧ σ 9 3 = nI 0) ∧ (kQn σ τ 5 ∨ (kQy B k σ τ 5 ∧ σ 9 5 = nI 4)) ∧ (kQn σ τ 8 ∨ (kQy B k σ τ 8 ∧ σ 9 8 = nI 0))) := by
  have hcm : kp_R_checkMake σ = kp_R_check_100 σ := by
    unfold kp_R_checkMake kp_R_checkMake_0
    exact km_bind_eta
  rw [hcm]
  unfold kp_M_make kp_M_make_0
  rcases kQ_due H (x := 1) (due := 0) (by omega) (by omega) with ⟨g1, i1, k1⟩ | ⟨g1, i1⟩
  · have i1' : kp_M_is 1 0 τ = some (1, τ) := i1
    rw [i1', kt_bs]; dsimp only; rw [if_neg ki_10]
    rcases kQ_due H (x := 2) (due := 3) (by omega) (by omega) with ⟨g2, i2, k2⟩ | ⟨g2, i2⟩
    · have i2' : kp_M_is 2 3 τ = some (1, τ) := i2
      rw [i2', kt_bs]; dsimp only; rw [if_neg ki_10]
      rcases kQ_due H (x := 3) (due := 0) (by omega) (by omega) with ⟨g3, i3, k3⟩ | ⟨g3, i3⟩
      · have i3' : kp_M_is 3 0 τ = some (1, τ) := i3
        rw [i3', kt_bs]; dsimp only; rw [if_neg ki_10]
        rcases kQ_due H (x := 5) (due := 4) (by omega) (by omega) with ⟨g5, i5, k5⟩ | ⟨g5, i5⟩
        · have i5' : kp_M_is 5 4 τ = some (1, τ) := i5
          rw [i5', kt_bs]; dsimp only; rw [if_neg ki_10]
          rcases kQ_due H (x := 8) (due := 0) (by omega) (by omega) with ⟨g8, i8, k8⟩ | ⟨g8, i8⟩
          · have i8' : kp_M_is 8 0 τ = some (1, τ) := i8
            rw [i8', kt_bs]; dsimp only; rw [if_neg ki_10, kCg_100 g1 g2 g3 g5 g8]
            rcases k1 with k1 | k1
            · have t1 : kp_M_there 1 τ = some (0, τ) := k1.2.2
              rw [t1, kt_bs]; dsimp only; rw [if_pos rfl]
              exact Or.inr (Or.inl ⟨kCw_100_0 k1.2.1, rfl⟩)
            obtain ⟨_, _, _, w1, t1, _⟩ := id k1.1
            have t1' : kp_M_there 1 τ = some (1, τ) := t1
            rw [t1', kt_bs]; dsimp only; rw [if_neg ki_10]
            rcases k2 with k2 | k2
            · have t2 : kp_M_there 2 τ = some (0, τ) := k2.2.2
              rw [t2, kt_bs]; dsimp only; rw [if_pos rfl]
              exact Or.inr (Or.inl ⟨kCw_100_1 w1 k2.2.1, rfl⟩)
            obtain ⟨_, _, _, w2, t2, _⟩ := id k2.1
            have t2' : kp_M_there 2 τ = some (1, τ) := t2
            rw [t2', kt_bs]; dsimp only; rw [if_neg ki_10]
            rcases k3 with k3 | k3
            · have t3 : kp_M_there 3 τ = some (0, τ) := k3.2.2
              rw [t3, kt_bs]; dsimp only; rw [if_pos rfl]
              exact Or.inr (Or.inl ⟨kCw_100_2 w1 w2 k3.2.1, rfl⟩)
            obtain ⟨_, _, _, w3, t3, _⟩ := id k3.1
            have t3' : kp_M_there 3 τ = some (1, τ) := t3
            rw [t3', kt_bs]; dsimp only; rw [if_neg ki_10]
            exact Or.inr (Or.inr ⟨kCw_100_3 w1 w2 w3, rfl, k1, k2, k3, k5, k8⟩)
          · have i8' : kp_M_is 8 0 τ = some (0, τ) := i8
            rw [i8', kt_bs]; dsimp only; rw [if_pos rfl]
            exact Or.inl ⟨kCb_100_8 g1 g2 g3 g5 g8, rfl⟩
        · have i5' : kp_M_is 5 4 τ = some (0, τ) := i5
          rw [i5', kt_bs]; dsimp only; rw [if_pos rfl]
          exact Or.inl ⟨kCb_100_5 g1 g2 g3 g5, rfl⟩
      · have i3' : kp_M_is 3 0 τ = some (0, τ) := i3
        rw [i3', kt_bs]; dsimp only; rw [if_pos rfl]
        exact Or.inl ⟨kCb_100_3 g1 g2 g3, rfl⟩
    · have i2' : kp_M_is 2 3 τ = some (0, τ) := i2
      rw [i2', kt_bs]; dsimp only; rw [if_pos rfl]
      exact Or.inl ⟨kCb_100_2 g1 g2, rfl⟩
  · have i1' : kp_M_is 1 0 τ = some (0, τ) := i1
    rw [i1', kt_bs]; dsimp only; rw [if_pos rfl]
    exact Or.inl ⟨kCb_100_1 g1, rfl⟩
