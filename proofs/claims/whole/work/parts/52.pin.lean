/-! PIN: what is asked of the request. -/
theorem kC_pin46 {B : Nat → Nat} {k : Nat} {σ τ : kt_S} (H : kRq B k σ τ) (l : Int32) : (kp_R_checkPin_46 l 0 σ = some (4, σ) ∧ kp_M_pin_73 l τ = some (4, τ)) ∨ (kp_R_checkPin_46 l 0 σ = some (0, σ) ∧ kp_M_pin_73 l τ = kp_M_pin_93 l τ ∧ (l = 3 ∨ l = 4 → kQy B k σ τ 3)) := by
  unfold kp_R_checkPin_46 kp_R_checkPin_57 kp_R_checkPin_69 kp_R_checkPin_70 kp_R_checkPin_81 kp_R_checkPin_86 kp_M_pin_73 kp_M_pin_83 kp_M_pin_91
  have pick : ∀ (X Y : Option (Int32 × kt_S)), (l = 3 ∨ l = 4) → (if l = 3 then X else if l = 4 then X else Y) = X := fun X Y h => by
    by_cases z : l = 3
    · rw [if_pos z]
    · rw [if_neg z, if_pos (h.resolve_left z)]
  have pickn : ∀ (X Y : Option (Int32 × kt_S)), ¬ (l = 3 ∨ l = 4) → (if l = 3 then X else if l = 4 then X else Y) = Y := fun X Y h => by
    rw [if_neg (fun z => h (Or.inl z)), if_neg (fun z => h (Or.inr z))]
  by_cases h : l = 3 ∨ l = 4
  · rw [pick _ _ h, pick _ _ h]
    rcases kQ_key H (x := 3) (by omega) with q | q
    · obtain ⟨_, _, _, w3, t3, _⟩ := id q
      have w3' : kp_R_has 3 σ = some (1, σ) := w3
      have t3' : kp_M_there 3 τ = some (1, τ) := t3
      rw [w3', t3', kt_bs, kt_bs]
      refine Or.inr ⟨?_, if_neg ki_10, fun _ => q⟩
      rw [if_neg ki_10, if_pos rfl, if_pos rfl]
    · have w3' : kp_R_has 3 σ = some (0, σ) := q.2.1
      have t3' : kp_M_there 3 τ = some (0, τ) := q.2.2
      rw [w3', t3', kt_bs, kt_bs]
      refine Or.inl ⟨?_, if_pos rfl⟩
      rw [if_pos rfl, if_pos rfl, if_neg ki_10]
  · rw [pickn _ _ h, pickn _ _ h]
    refine Or.inr ⟨?_, rfl, fun z => absurd z h⟩
    rw [if_pos rfl, if_pos rfl]
theorem kC_pin461 {B : Nat → Nat} {k : Nat} {σ τ : kt_S} (H : kRq B k σ τ) (l : Int32) : kp_R_checkPin_46 l 1 σ = some (4, σ) := by
  unfold kp_R_checkPin_46 kp_R_checkPin_57 kp_R_checkPin_69 kp_R_checkPin_70 kp_R_checkPin_81 kp_R_checkPin_86
  have h57 : (Option.bind (kp_R_has 3 σ) fun x4 => if x4.1 = 0 then (if (1 : Int32) = 0 then (if (1 : Int32) = 0 then some ((0 : Int32), x4.2) else some (4, x4.2)) else some (4, x4.2)) else (if (1 : Int32) = 0 then (if (0 : Int32) = 0 then some (0, x4.2) else some (4, x4.2)) else some (4, x4.2))) = some (4, σ) := by
    rcases kQ_key H (x := 3) (by omega) with q | q
    · obtain ⟨_, _, _, w3, t3, _⟩ := id q
      have w3' : kp_R_has 3 σ = some (1, σ) := w3
      rw [w3', kt_bs, if_neg ki_10, if_neg ki_10]
    · have w3' : kp_R_has 3 σ = some (0, σ) := q.2.1
      rw [w3', kt_bs, if_pos rfl, if_neg ki_10]
  rw [h57, if_neg ki_10]
  split
  · rfl
  · split
    · rfl
    · rfl
theorem kC_pin {B : Nat → Nat} {k : Nat} {σ τ : kt_S} (H : kRq B k σ τ) : (kp_R_checkPin σ = some (3, σ) ∧ kp_M_pin τ = some (3, τ)) ∨ (kp_R_checkPin σ = some (4, σ) ∧ kp_M_pin τ = some (4, τ)) ∨ (∃ w : Nat, w < 2147483648 ∧ kp_R_checkPin σ = some (0, σ) ∧ kp_R_numberOf 1 σ = some (nI w, σ) ∧ kp_M_pin τ = kp_M_pin_93 (nI w) τ ∧ (kQn σ τ 2 ∨ (kQy B k σ τ 2 ∧ σ 9 2 = nI 3)) ∧ (kQn σ τ 3 ∨ (kQy B k σ τ 3 ∧ σ 9 3 = nI 3)) ∧ (nI w = 4 ∨ nI w = 5 → kQy B k σ τ 2) ∧ (nI w = 3 ∨ nI w = 4 → kQy B k σ τ 3)) := by
  unfold kp_R_checkPin kp_R_checkPin_0 kp_M_pin kp_M_pin_0
  rcases kQ_due H (x := 1) (due := 0) (by omega) (by omega) with ⟨g1, i1, k1⟩ | ⟨g1, i1⟩
  · have i1' : kp_M_is 1 0 τ = some (1, τ) := i1
    rw [i1', kt_bs]; dsimp only; rw [if_neg ki_10]
    rcases kQ_due H (x := 2) (due := 3) (by omega) (by omega) with ⟨g2, i2, k2⟩ | ⟨g2, i2⟩
    · have i2' : kp_M_is 2 3 τ = some (1, τ) := i2
      rw [i2', kt_bs]; dsimp only; rw [if_neg ki_10]
      rcases kQ_due H (x := 3) (due := 3) (by omega) (by omega) with ⟨g3, i3, k3⟩ | ⟨g3, i3⟩
      · have i3' : kp_M_is 3 3 τ = some (1, τ) := i3
        rw [i3', kt_bs]; dsimp only; rw [if_neg ki_10, kCg_104 g1 g2 g3]
        rcases k1 with k1 | k1
        · have t1 : kp_M_there 1 τ = some (0, τ) := k1.2.2
          rw [t1, kt_bs, kCw_104_0 k1.2.1, kt_bs]; dsimp only
          rw [if_pos rfl, if_neg (show ¬ (4 : Int32) = 0 by decide)]
          refine Or.inr (Or.inl ⟨rfl, ?_⟩)
          unfold kp_M_pin_46 kp_M_pin_91
          rw [t1, kt_bs]
          exact if_pos rfl
        obtain ⟨_, _, _, w1, t1, _⟩ := id k1.1
        obtain ⟨w, hw, n1, n2⟩ := kQ_num (x := 1) (by omega) (Or.inl rfl) k1.1 k1.2
        have t1' : kp_M_there 1 τ = some (1, τ) := t1
        have n1' : kp_R_numberOf 1 σ = some (nI w, σ) := n1
        have n2' : kp_M_get 1 τ = some (nI w, τ) := n2
        rw [t1', kt_bs, kCw_104_1 w1, kt_bs]; dsimp only
        rw [if_neg ki_10, if_pos rfl, n2', n1', kt_bs, kt_bs]; dsimp only
        unfold kp_M_pin_46 kp_M_pin_65 kp_M_pin_91 kp_R_checkPin_33 kp_R_checkPin_45
        rw [t1', kt_bs, if_neg ki_10]
        have pick : ∀ (X Y : Option (Int32 × kt_S)), (nI w = 4 ∨ nI w = 5) → (if nI w = 4 then X else if nI w = 5 then X else Y) = X := fun X Y h => by
          by_cases z : nI w = 4
          · rw [if_pos z]
          · rw [if_neg z, if_pos (h.resolve_left z)]
        have pickn : ∀ (X Y : Option (Int32 × kt_S)), ¬ (nI w = 4 ∨ nI w = 5) → (if nI w = 4 then X else if nI w = 5 then X else Y) = Y := fun X Y h => by
          rw [if_neg (fun z => h (Or.inl z)), if_neg (fun z => h (Or.inr z))]
        by_cases h45 : nI w = 4 ∨ nI w = 5
        · rw [pick _ _ h45, pick _ _ h45]
          rcases k2 with k2 | k2
          · have w2' : kp_R_has 2 σ = some (0, σ) := k2.2.1
            have t2' : kp_M_there 2 τ = some (0, τ) := k2.2.2
            rw [w2', t2', kt_bs, kt_bs]; dsimp only
            rw [if_pos rfl, if_pos rfl, kC_pin461 H]
            exact Or.inr (Or.inl ⟨rfl, rfl⟩)
          · obtain ⟨_, _, _, w2, t2, _⟩ := id k2.1
            have w2' : kp_R_has 2 σ = some (1, σ) := w2
            have t2' : kp_M_there 2 τ = some (1, τ) := t2
            rw [w2', t2', kt_bs, kt_bs]; dsimp only
            rw [if_neg ki_10, if_neg ki_10]
            rcases kC_pin46 H (nI w) with ⟨x1, x2⟩ | ⟨x1, x2, x3⟩
            · exact Or.inr (Or.inl ⟨x1, x2⟩)
            · exact Or.inr (Or.inr ⟨w, hw, x1, rfl, x2, Or.inr k2, k3, fun _ => k2.1, x3⟩)
        · rw [pickn _ _ h45, pickn _ _ h45]
          rcases kC_pin46 H (nI w) with ⟨x1, x2⟩ | ⟨x1, x2, x3⟩
          · exact Or.inr (Or.inl ⟨x1, x2⟩)
          · exact Or.inr (Or.inr ⟨w, hw, x1, rfl, x2, k2, k3, fun z => absurd z h45, x3⟩)
      · have i3' : kp_M_is 3 3 τ = some (0, τ) := i3
        rw [i3', kt_bs, kCb_104_3 g1 g2 g3, kt_bs]; dsimp only
        rw [if_pos rfl, if_neg (show ¬ (3 : Int32) = 0 by decide)]
        exact Or.inl ⟨rfl, rfl⟩
    · have i2' : kp_M_is 2 3 τ = some (0, τ) := i2
      rw [i2', kt_bs, kCb_104_2 g1 g2, kt_bs]; dsimp only
      rw [if_pos rfl, if_neg (show ¬ (3 : Int32) = 0 by decide)]
      exact Or.inl ⟨rfl, rfl⟩
  · have i1' : kp_M_is 1 0 τ = some (0, τ) := i1
    rw [i1', kt_bs, kCb_104_1 g1, kt_bs]; dsimp only
    rw [if_pos rfl, if_neg (show ¬ (3 : Int32) = 0 by decide)]
    exact Or.inl ⟨rfl, rfl⟩
