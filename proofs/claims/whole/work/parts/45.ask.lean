/-! ASSERT and PIN: what is asked of the request. -/
noncomputable def kMa_rest (τ : kt_S) : Option (Int32 × kt_S) := Option.bind (kp_M_get 1 τ) fun x7 => if x7.1 < 1 then kp_M_ask_76 x7.2 else Option.bind (kp_M_get 1 x7.2) fun x8 => if x8.1 ≤ 8 then Option.bind (kp_M_there 6 x8.2) (fun x9 => if x9.1 = 0 then kp_M_ask_99 x9.2 else Option.bind (kp_M_ticketWrong 6 x9.2) fun x10 => if x10.1 = 0 then kp_M_ask_99 x10.2 else some (14, x10.2)) else kp_M_ask_76 x8.2
theorem kC_ask {B : Nat → Nat} {k : Nat} {σ τ : kt_S} (H : kRq B k σ τ) : (kp_R_checkAssert σ = some (3, σ) ∧ kp_M_ask τ = some (3, τ)) ∨ (kp_R_checkAssert σ = some (4, σ) ∧ kp_M_ask τ = some (4, τ)) ∨ (kp_R_checkAssert σ = some (0, σ) ∧ kp_M_ask τ = kMa_rest τ ∧ (kQy B k σ τ 1 ∧ σ 9 1 = nI 3) ∧ (kQy B k σ τ 2 ∧ σ 9 2 = nI 0) ∧ (kQn σ τ 3 ∨ (kQy B k σ τ 3 ∧ σ 9 3 = nI 4)) ∧ (kQn σ τ 6 ∨ (kQy B k σ τ 6 ∧ σ 9 6 = nI 0))) := by
  have hcm : kp_R_checkAssert σ = kp_R_check_102 σ := by
    unfold kp_R_checkAssert kp_R_checkAssert_0
    exact km_bind_eta
  rw [hcm]
  unfold kp_M_ask kp_M_ask_0
  rcases kQ_due H (x := 1) (due := 3) (by omega) (by omega) with ⟨g1, i1, k1⟩ | ⟨g1, i1⟩
  · have i1' : kp_M_is 1 3 τ = some (1, τ) := i1
    rw [i1', kt_bs]; dsimp only; rw [if_neg ki_10]
    rcases kQ_due H (x := 2) (due := 0) (by omega) (by omega) with ⟨g2, i2, k2⟩ | ⟨g2, i2⟩
    · have i2' : kp_M_is 2 0 τ = some (1, τ) := i2
      rw [i2', kt_bs]; dsimp only; rw [if_neg ki_10]
      rcases kQ_due H (x := 3) (due := 4) (by omega) (by omega) with ⟨g3, i3, k3⟩ | ⟨g3, i3⟩
      · have i3' : kp_M_is 3 4 τ = some (1, τ) := i3
        rw [i3', kt_bs]; dsimp only; rw [if_neg ki_10]
        rcases kQ_due H (x := 6) (due := 0) (by omega) (by omega) with ⟨g6, i6, k6⟩ | ⟨g6, i6⟩
        · have i6' : kp_M_is 6 0 τ = some (1, τ) := i6
          rw [i6', kt_bs]; dsimp only; rw [if_neg ki_10, kCg_102 g1 g2 g3 g6]
          rcases k1 with k1 | k1
          · have t1 : kp_M_there 1 τ = some (0, τ) := k1.2.2
            rw [t1, kt_bs]; dsimp only; rw [if_pos rfl]
            exact Or.inr (Or.inl ⟨kCw_102_0 k1.2.1, rfl⟩)
          obtain ⟨_, _, _, w1, t1, _⟩ := id k1.1
          have t1' : kp_M_there 1 τ = some (1, τ) := t1
          rw [t1', kt_bs]; dsimp only; rw [if_neg ki_10]
          rcases k2 with k2 | k2
          · have t2 : kp_M_there 2 τ = some (0, τ) := k2.2.2
            rw [t2, kt_bs]; dsimp only; rw [if_pos rfl]
            exact Or.inr (Or.inl ⟨kCw_102_1 w1 k2.2.1, rfl⟩)
          obtain ⟨_, _, _, w2, t2, _⟩ := id k2.1
          have t2' : kp_M_there 2 τ = some (1, τ) := t2
          rw [t2', kt_bs]; dsimp only; rw [if_neg ki_10]
          exact Or.inr (Or.inr ⟨kCw_102_2 w1 w2, rfl, k1, k2, k3, k6⟩)
        · have i6' : kp_M_is 6 0 τ = some (0, τ) := i6
          rw [i6', kt_bs]; dsimp only; rw [if_pos rfl]
          exact Or.inl ⟨kCb_102_6 g1 g2 g3 g6, rfl⟩
      · have i3' : kp_M_is 3 4 τ = some (0, τ) := i3
        rw [i3', kt_bs]; dsimp only; rw [if_pos rfl]
        exact Or.inl ⟨kCb_102_3 g1 g2 g3, rfl⟩
    · have i2' : kp_M_is 2 0 τ = some (0, τ) := i2
      rw [i2', kt_bs]; dsimp only; rw [if_pos rfl]
      exact Or.inl ⟨kCb_102_2 g1 g2, rfl⟩
  · have i1' : kp_M_is 1 3 τ = some (0, τ) := i1
    rw [i1', kt_bs]; dsimp only; rw [if_pos rfl]
    exact Or.inl ⟨kCb_102_1 g1, rfl⟩
