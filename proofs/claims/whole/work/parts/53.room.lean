/-! Room for a record. -/
theorem ks_cnt_two {P : Nat → Bool} (h : 2 ≤ ks_cnt P) : ∃ x y, x < 7 ∧ y < 7 ∧ ¬ x = y ∧ P x = true ∧ P y = true := by
  apply Classical.byContradiction
  intro hn
  have no : ∀ x y, x < 7 → y < 7 → ¬ x = y → P x = true → P y = false := fun x y hx hy hxy h1 => by
    cases h2 : P y with
    | false => rfl
    | true => exact absurd ⟨x, y, hx, hy, hxy, h1, h2⟩ hn
  unfold ks_cnt at h
  cases h0 : P 0 with
  | true =>
    rw [h0, no 0 1 (by omega) (by omega) (by omega) h0, no 0 2 (by omega) (by omega) (by omega) h0, no 0 3 (by omega) (by omega) (by omega) h0, no 0 4 (by omega) (by omega) (by omega) h0, no 0 5 (by omega) (by omega) (by omega) h0, no 0 6 (by omega) (by omega) (by omega) h0] at h
    exact absurd h (by decide)
  | false =>
  cases h1 : P 1 with
  | true =>
    rw [h0, h1, no 1 2 (by omega) (by omega) (by omega) h1, no 1 3 (by omega) (by omega) (by omega) h1, no 1 4 (by omega) (by omega) (by omega) h1, no 1 5 (by omega) (by omega) (by omega) h1, no 1 6 (by omega) (by omega) (by omega) h1] at h
    exact absurd h (by decide)
  | false =>
  cases h2 : P 2 with
  | true =>
    rw [h0, h1, h2, no 2 3 (by omega) (by omega) (by omega) h2, no 2 4 (by omega) (by omega) (by omega) h2, no 2 5 (by omega) (by omega) (by omega) h2, no 2 6 (by omega) (by omega) (by omega) h2] at h
    exact absurd h (by decide)
  | false =>
  cases h3 : P 3 with
  | true =>
    rw [h0, h1, h2, h3, no 3 4 (by omega) (by omega) (by omega) h3, no 3 5 (by omega) (by omega) (by omega) h3, no 3 6 (by omega) (by omega) (by omega) h3] at h
    exact absurd h (by decide)
  | false =>
  cases h4 : P 4 with
  | true =>
    rw [h0, h1, h2, h3, h4, no 4 5 (by omega) (by omega) (by omega) h4, no 4 6 (by omega) (by omega) (by omega) h4] at h
    exact absurd h (by decide)
  | false =>
  cases h5 : P 5 with
  | true =>
    rw [h0, h1, h2, h3, h4, h5, no 5 6 (by omega) (by omega) (by omega) h5] at h
    exact absurd h (by decide)
  | false =>
  cases h6 : P 6 with
  | true =>
    rw [h0, h1, h2, h3, h4, h5, h6] at h
    exact absurd h (by decide)
  | false =>
  rw [h0, h1, h2, h3, h4, h5, h6] at h
  exact absurd h (by decide)
theorem kR_room {σ τ : kt_S} {B nm : Nat} {g : Nat → Int32} (hon : kv_on g B) (hσ : σ 3 = g) (hτ : τ 1 = g) : ∃ b : Bool, kp_S_hasRoomFor (nI nm) σ = some (kb_i b, σ) ∧ kp_M_canPut (nI nm) τ = some (kb_i b, τ) ∧ (b = true → ¬ ks_pg g (nI nm) < 0 ∨ ∃ x y, x < 7 ∧ y < 7 ∧ ¬ x = y ∧ g (6 * x) = -1 ∧ g (6 * y) = -1) := by
  have hK := ks_hasRoomFor (nI nm) σ
  have hpg : kp_M_page (nI nm) τ = some (ks_pg g (nI nm), τ) := by rw [km_page, hτ, kv_page hon.1]
  have hcnt : ks_cnt (km_E g) = ks_cnt (fun p => decide (g (6 * p) = -1)) := ks_cnt_congr (fun p hp => kv_E hon.1.1 (hon.1.2 p hp))
  have her : kp_M_erasedPages τ = some (nI (ks_cnt (fun p => decide (g (6 * p) = -1))), τ) := by rw [km_erasedPages, hτ, hcnt]
  rw [hσ] at hK
  have hc7 : ks_cnt (fun p => decide (g (6 * p) = -1)) ≤ 7 := by
    unfold ks_cnt
    repeat' split
    all_goals decide
  have htwo := @ks_cnt_two (fun p => decide (g (6 * p) = -1))
  generalize ks_cnt (fun p => decide (g (6 * p) = -1)) = c at hK her hc7 htwo
  unfold kp_M_canPut kp_M_canPut_0 kp_M_canPut_16 kp_M_canPut_21
  rw [hK, hpg, kt_bs]
  dsimp only
  rw [her, kt_bs]
  dsimp only
  rw [if_pos ki_b0, if_pos ki_b1]
  by_cases z : (0 : Int32) ≤ ks_pg g (nI nm)
  · refine ⟨true, by rw [if_pos z]; rfl, by rw [if_pos z]; rfl, fun _ => Or.inl ?_⟩
    rw [km_le_lt] at z
    exact z
  · rw [if_neg z, if_neg z]
    by_cases y : c < 2
    · exact ⟨false, by rw [if_pos (show nI c < 2 from (kn_lt (b := 2) (by omega) (by omega)).mpr y)]; rfl, by rw [if_pos (show nI c ≤ 1 from kn_leR (b := 1) (by omega) (by omega))]; rfl, fun u => absurd u (by decide)⟩
    · refine ⟨true, by rw [if_neg (show ¬ nI c < 2 from kn_geL (b := 2) (by omega) (by omega) (by omega))]; rfl, by rw [if_neg (show ¬ nI c ≤ 1 from fun u => by have := (kn_le (b := 1) (by omega) (by omega)).mp u; omega)]; rfl, fun _ => Or.inr ?_⟩
      obtain ⟨x, y, h1, h2, h3, h4, h5⟩ := htwo (by omega)
      exact ⟨x, y, h1, h2, h3, of_decide_eq_true h4, of_decide_eq_true h5⟩
