/-! The parties: a challenge opened, what a party tells. -/
theorem ki_b0 : (0 : Int32) = 0 ∨ (0 : Int32) = 1 := Or.inl rfl
theorem ki_b1 : (1 : Int32) = 0 ∨ (1 : Int32) = 1 := Or.inr rfl
theorem ki_10 : ¬ (1 : Int32) = 0 := by decide
theorem ki_n10 : ¬ (1 : Int32) ≤ 0 := by decide
theorem ki_00 : (0 : Int32) ≤ 0 := by decide
theorem km_isP {p : Nat} (hp : p < 4) (τ : kt_S) : kp_M_isParty (nI p) τ = some (1, τ) := by
  unfold kp_M_isParty kp_M_isParty_0 kp_M_isParty_13 kp_M_isParty_14
  rw [if_neg (kn_nn (by omega)), if_neg (show ¬ (4 : Int32) ≤ nI p from fun z => by have := (kn_le (a := 4) (b := p) (by omega) (by omega)).mp z; omega), if_pos ki_b1]
theorem km_notP {l : Int32} (h : l < 0 ∨ 4 ≤ l) (τ : kt_S) : kp_M_isParty l τ = some (0, τ) := by
  unfold kp_M_isParty kp_M_isParty_0 kp_M_isParty_13 kp_M_isParty_14
  by_cases h1 : l < 0
  · rw [if_pos h1, if_pos ki_b0]
  · rw [if_neg h1, if_pos (h.resolve_left h1), if_pos ki_b0]
theorem kP_of (l : Int32) : (l < 0 ∨ 4 ≤ l) ∨ l = nI 0 ∨ l = nI 1 ∨ l = nI 2 ∨ l = nI 3 := by
  by_cases h : l < 0
  · exact Or.inl (Or.inl h)
  by_cases h1 : (4 : Int32) ≤ l
  · exact Or.inl (Or.inr h1)
  obtain ⟨k, hk, rfl⟩ := kn_ofLt (n := 4) h h1 (by omega)
  have : k = 0 ∨ k = 1 ∨ k = 2 ∨ k = 3 := by omega
  rcases this with rfl | rfl | rfl | rfl
  · exact Or.inr (Or.inl rfl)
  · exact Or.inr (Or.inr (Or.inl rfl))
  · exact Or.inr (Or.inr (Or.inr (Or.inl rfl)))
  · exact Or.inr (Or.inr (Or.inr (Or.inr rfl)))
theorem kR_par1_mono {n m : Nat} {σ τ : kt_S} {p : Nat} (h : n ≤ m) (H : kR_par1 n σ τ p) : kR_par1 m σ τ p := by
  obtain ⟨i1, i2, ⟨k, i3, i4⟩, i5⟩ := H
  exact ⟨i1, i2, ⟨k, by omega, i4⟩, i5⟩
theorem kR_par_of {n : Nat} {σ τ : kt_S} (h0 : kR_par1 n σ τ 0) (h1 : kR_par1 n σ τ 1) (h2 : kR_par1 n σ τ 2) (h3 : kR_par1 n σ τ 3) : kR_par n σ τ := by
  intro p hp
  have : p = 0 ∨ p = 1 ∨ p = 2 ∨ p = 3 := by omega
  rcases this with rfl | rfl | rfl | rfl
  · exact h0
  · exact h1
  · exact h2
  · exact h3
theorem kR_opened_0 {n k j : Nat} {σ τ : kt_S} (H : kR n σ τ) (hn : n + 1 < 10000) (hk : k ≤ n) (hj : j < 100) : kR (n + 1) (kt_up (kt_up (kt_up σ 0 2 (nI (k + 1))) 16 5 (nI (k + 1))) 16 6 (nI j)) (kt_up (kt_up (kt_up (kt_up τ 0 0 0) 0 20 (nI (k + 1))) 17 0 (nI (k + 1))) 18 0 (nI j)) := by
  have H' := kR_mono (Nat.le_succ n) hn H
  have i := H.2.2.2.2.2.2.2
  obtain ⟨a, b, c, d, e, ⟨f1, f2, f3, f4⟩, g, _⟩ := H'
  obtain ⟨a1, a2, a3, a4, a5⟩ := i 0 (by omega)
  exact ⟨a, b, c, d, e, ⟨f1, f2, f3, ⟨k + 1, by omega, rfl, rfl⟩⟩, g, kR_par_of (⟨a1, a2, ⟨k + 1, by omega, rfl, rfl⟩, ⟨j, by omega, rfl, rfl⟩, a5⟩) (kR_par1_mono (Nat.le_succ n) (i 1 (by omega))) (kR_par1_mono (Nat.le_succ n) (i 2 (by omega))) (kR_par1_mono (Nat.le_succ n) (i 3 (by omega)))⟩
theorem kR_opened_1 {n k j : Nat} {σ τ : kt_S} (H : kR n σ τ) (hn : n + 1 < 10000) (hk : k ≤ n) (hj : j < 100) : kR (n + 1) (kt_up (kt_up (kt_up σ 0 2 (nI (k + 1))) 20 5 (nI (k + 1))) 20 6 (nI j)) (kt_up (kt_up (kt_up (kt_up τ 0 0 0) 0 20 (nI (k + 1))) 17 1 (nI (k + 1))) 18 1 (nI j)) := by
  have H' := kR_mono (Nat.le_succ n) hn H
  have i := H.2.2.2.2.2.2.2
  obtain ⟨a, b, c, d, e, ⟨f1, f2, f3, f4⟩, g, _⟩ := H'
  obtain ⟨a1, a2, a3, a4, a5⟩ := i 1 (by omega)
  exact ⟨a, b, c, d, e, ⟨f1, f2, f3, ⟨k + 1, by omega, rfl, rfl⟩⟩, g, kR_par_of (kR_par1_mono (Nat.le_succ n) (i 0 (by omega))) (⟨a1, a2, ⟨k + 1, by omega, rfl, rfl⟩, ⟨j, by omega, rfl, rfl⟩, a5⟩) (kR_par1_mono (Nat.le_succ n) (i 2 (by omega))) (kR_par1_mono (Nat.le_succ n) (i 3 (by omega)))⟩
theorem kR_opened_2 {n k j : Nat} {σ τ : kt_S} (H : kR n σ τ) (hn : n + 1 < 10000) (hk : k ≤ n) (hj : j < 100) : kR (n + 1) (kt_up (kt_up (kt_up σ 0 2 (nI (k + 1))) 24 5 (nI (k + 1))) 24 6 (nI j)) (kt_up (kt_up (kt_up (kt_up τ 0 0 0) 0 20 (nI (k + 1))) 17 2 (nI (k + 1))) 18 2 (nI j)) := by
  have H' := kR_mono (Nat.le_succ n) hn H
  have i := H.2.2.2.2.2.2.2
  obtain ⟨a, b, c, d, e, ⟨f1, f2, f3, f4⟩, g, _⟩ := H'
  obtain ⟨a1, a2, a3, a4, a5⟩ := i 2 (by omega)
  exact ⟨a, b, c, d, e, ⟨f1, f2, f3, ⟨k + 1, by omega, rfl, rfl⟩⟩, g, kR_par_of (kR_par1_mono (Nat.le_succ n) (i 0 (by omega))) (kR_par1_mono (Nat.le_succ n) (i 1 (by omega))) (⟨a1, a2, ⟨k + 1, by omega, rfl, rfl⟩, ⟨j, by omega, rfl, rfl⟩, a5⟩) (kR_par1_mono (Nat.le_succ n) (i 3 (by omega)))⟩
theorem kR_opened_3 {n k j : Nat} {σ τ : kt_S} (H : kR n σ τ) (hn : n + 1 < 10000) (hk : k ≤ n) (hj : j < 100) : kR (n + 1) (kt_up (kt_up (kt_up σ 0 2 (nI (k + 1))) 28 5 (nI (k + 1))) 28 6 (nI j)) (kt_up (kt_up (kt_up (kt_up τ 0 0 0) 0 20 (nI (k + 1))) 17 3 (nI (k + 1))) 18 3 (nI j)) := by
  have H' := kR_mono (Nat.le_succ n) hn H
  have i := H.2.2.2.2.2.2.2
  obtain ⟨a, b, c, d, e, ⟨f1, f2, f3, f4⟩, g, _⟩ := H'
  obtain ⟨a1, a2, a3, a4, a5⟩ := i 3 (by omega)
  exact ⟨a, b, c, d, e, ⟨f1, f2, f3, ⟨k + 1, by omega, rfl, rfl⟩⟩, g, kR_par_of (kR_par1_mono (Nat.le_succ n) (i 0 (by omega))) (kR_par1_mono (Nat.le_succ n) (i 1 (by omega))) (kR_par1_mono (Nat.le_succ n) (i 2 (by omega))) (⟨a1, a2, ⟨k + 1, by omega, rfl, rfl⟩, ⟨j, by omega, rfl, rfl⟩, a5⟩)⟩
theorem kR_open {n : Nat} {σ τ : kt_S} (H : kR n σ τ) (hn : n + 1 < 10000) (l1 l2 : Int32) : kR_may (n + 1) (fun _ => 1) (kp_K_open l1 l2 σ) (kp_M_open l1 l2 τ) := by
  have T : ∀ v, kR (n + 1) σ (kt_up τ 0 0 v) := fun v => kR_thr (kR_mono (Nat.le_succ n) hn H)
  obtain ⟨k, f1, f2, f3⟩ := H.2.2.2.2.2.1.2.2.2
  have out : ∀ l1, kp_M_open_23 l1 l2 1 τ = some (0, kt_up τ 0 0 1) := fun l1 => if_neg ki_n10
  unfold kp_K_open kp_K_open_0 kp_K_open_20 kp_M_open kp_M_open_0 kp_M_open_18
  rcases kP_of l1 with h | rfl | rfl | rfl | rfl
  · rw [km_notP h, kt_bs]
    dsimp only
    rw [if_pos rfl, out]
    refine Or.inr ⟨3, 0, σ, _, ?_, rfl, rfl, T 1⟩
    by_cases h1 : l1 < 0
    · rw [if_pos h1]
    · rw [if_neg h1, if_pos (h.resolve_left h1)]
  · rw [km_isP (by omega), kt_bs]
    dsimp only
    rw [if_neg ki_10, if_neg (show ¬ nI 0 < (0 : Int32) by decide), if_neg (show ¬ (4 : Int32) ≤ nI 0 by decide), if_pos (show nI 0 = (0 : Int32) from rfl), out]
    by_cases h1 : l2 < 0
    · rw [if_pos h1, if_pos h1]
      exact Or.inr ⟨3, 0, σ, _, rfl, rfl, rfl, T 1⟩
    rw [if_neg h1, if_neg h1]
    by_cases h2 : l2 ≤ 99
    · rw [if_pos h2, if_pos h2]
      obtain ⟨j, hj, rfl⟩ := kn_of h1
      have h3 : j ≤ 99 := (kn_le hj (b := 99) (by omega)).mp h2
      unfold kp_M_open_23
      have hb : ¬ (nI 0 < 0 ∨ 4 ≤ (nI 0).toNatClampNeg) := kn_in (by omega) (by omega)
      rw [if_pos ki_00, if_neg hb, if_neg hb, f2, f3, kn_succ, kn_cl (by omega)]
      exact Or.inl ⟨nI (k + 1), _, _, rfl, rfl, rfl, kR_opened_0 H hn f1 (by omega)⟩
    · rw [if_neg h2, if_neg h2]
      exact Or.inr ⟨3, 0, σ, _, rfl, rfl, rfl, T 1⟩
  · rw [km_isP (by omega), kt_bs]
    dsimp only
    rw [if_neg ki_10, if_neg (show ¬ nI 1 < (0 : Int32) by decide), if_neg (show ¬ (4 : Int32) ≤ nI 1 by decide), if_neg (show ¬ nI 1 = (0 : Int32) by decide), if_pos (show nI 1 = (1 : Int32) from rfl), out]
    by_cases h1 : l2 < 0
    · rw [if_pos h1, if_pos h1]
      exact Or.inr ⟨3, 0, σ, _, rfl, rfl, rfl, T 1⟩
    rw [if_neg h1, if_neg h1]
    by_cases h2 : l2 ≤ 99
    · rw [if_pos h2, if_pos h2]
      obtain ⟨j, hj, rfl⟩ := kn_of h1
      have h3 : j ≤ 99 := (kn_le hj (b := 99) (by omega)).mp h2
      unfold kp_M_open_23
      have hb : ¬ (nI 1 < 0 ∨ 4 ≤ (nI 1).toNatClampNeg) := kn_in (by omega) (by omega)
      rw [if_pos ki_00, if_neg hb, if_neg hb, f2, f3, kn_succ, kn_cl (by omega)]
      exact Or.inl ⟨nI (k + 1), _, _, rfl, rfl, rfl, kR_opened_1 H hn f1 (by omega)⟩
    · rw [if_neg h2, if_neg h2]
      exact Or.inr ⟨3, 0, σ, _, rfl, rfl, rfl, T 1⟩
  · rw [km_isP (by omega), kt_bs]
    dsimp only
    rw [if_neg ki_10, if_neg (show ¬ nI 2 < (0 : Int32) by decide), if_neg (show ¬ (4 : Int32) ≤ nI 2 by decide), if_neg (show ¬ nI 2 = (0 : Int32) by decide), if_neg (show ¬ nI 2 = (1 : Int32) by decide), if_pos (show nI 2 = (2 : Int32) from rfl), out]
    by_cases h1 : l2 < 0
    · rw [if_pos h1, if_pos h1]
      exact Or.inr ⟨3, 0, σ, _, rfl, rfl, rfl, T 1⟩
    rw [if_neg h1, if_neg h1]
    by_cases h2 : l2 ≤ 99
    · rw [if_pos h2, if_pos h2]
      obtain ⟨j, hj, rfl⟩ := kn_of h1
      have h3 : j ≤ 99 := (kn_le hj (b := 99) (by omega)).mp h2
      unfold kp_M_open_23
      have hb : ¬ (nI 2 < 0 ∨ 4 ≤ (nI 2).toNatClampNeg) := kn_in (by omega) (by omega)
      rw [if_pos ki_00, if_neg hb, if_neg hb, f2, f3, kn_succ, kn_cl (by omega)]
      exact Or.inl ⟨nI (k + 1), _, _, rfl, rfl, rfl, kR_opened_2 H hn f1 (by omega)⟩
    · rw [if_neg h2, if_neg h2]
      exact Or.inr ⟨3, 0, σ, _, rfl, rfl, rfl, T 1⟩
  · rw [km_isP (by omega), kt_bs]
    dsimp only
    rw [if_neg ki_10, if_neg (show ¬ nI 3 < (0 : Int32) by decide), if_neg (show ¬ (4 : Int32) ≤ nI 3 by decide), if_neg (show ¬ nI 3 = (0 : Int32) by decide), if_neg (show ¬ nI 3 = (1 : Int32) by decide), if_neg (show ¬ nI 3 = (2 : Int32) by decide), out]
    by_cases h1 : l2 < 0
    · rw [if_pos h1, if_pos h1]
      exact Or.inr ⟨3, 0, σ, _, rfl, rfl, rfl, T 1⟩
    rw [if_neg h1, if_neg h1]
    by_cases h2 : l2 ≤ 99
    · rw [if_pos h2, if_pos h2]
      obtain ⟨j, hj, rfl⟩ := kn_of h1
      have h3 : j ≤ 99 := (kn_le hj (b := 99) (by omega)).mp h2
      unfold kp_M_open_23
      have hb : ¬ (nI 3 < 0 ∨ 4 ≤ (nI 3).toNatClampNeg) := kn_in (by omega) (by omega)
      rw [if_pos ki_00, if_neg hb, if_neg hb, f2, f3, kn_succ, kn_cl (by omega)]
      exact Or.inl ⟨nI (k + 1), _, _, rfl, rfl, rfl, kR_opened_3 H hn f1 (by omega)⟩
    · rw [if_neg h2, if_neg h2]
      exact Or.inr ⟨3, 0, σ, _, rfl, rfl, rfl, T 1⟩
theorem kn_div10 {l : Int32} (h : l < 0) : (l / 10).toInt < 1 := by
  rw [Int32.toInt_div_of_ne_right _ _ (by decide), show (10 : Int32).toInt = 10 by decide]
  rw [Int32.lt_iff_toInt_lt, show (0 : Int32).toInt = 0 by decide] at h
  have h1 : l.toInt = -(-l.toInt) := by omega
  rw [h1, Int.neg_tdiv]
  have := Int.tdiv_nonneg (a := -l.toInt) (b := 10) (by omega) (by omega)
  omega
theorem kP_tell_out_16 {σ : kt_S} {l : Int32} (h0 : ¬ l = 0) (h1 : ¬ l = 1) (h : (l / 10).toInt < 1 ∨ 3 < (l / 10).toInt) : kp_P_tell_16 l σ = some (-1, σ) := by
  unfold kp_P_tell_16 kp_P_tell_16_0 kp_P_tell_16_36
  rw [if_neg h0, if_neg h1]
  by_cases h2 : l - l / 10 * 10 < 0
  · rw [if_pos h2]
  rw [if_neg h2]
  by_cases h3 : l - l / 10 * 10 < σ 16 4
  · rw [if_pos h3, if_pos h]
  · rw [if_neg h3]
theorem kR_tell_0 {n : Nat} {σ τ : kt_S} (H : kR n σ τ) (l2 : Int32) : ∃ v, kp_P_tell_16 l2 σ = some (v, σ) ∧ kp_M_party (nI 0) l2 τ = some (v, kt_up τ 0 0 0) := by
  obtain ⟨i1, ⟨c, c6, i2, i3, _⟩, ⟨k, i4, i5, i6⟩, _, i7⟩ := H.2.2.2.2.2.2.2 0 (by omega)
  have hb : ¬ (nI 0 < 0 ∨ 4 ≤ (nI 0).toNatClampNeg) := kn_in (by omega) (by omega)
  have e15 : kt_up τ 0 0 0 15 0 = nI c := i3
  have e17 : kt_up τ 0 0 0 17 0 = nI k := i6
  unfold kp_M_party kp_M_party_0 kp_M_party_23 kp_M_party_42 kp_M_party_70 kp_M_party_94
  rw [km_isP (by omega), kt_bs]
  dsimp only
  rw [if_neg ki_10]
  have hcl : (nI 0).toNatClampNeg = 0 := kn_cl (by omega)
  simp only [if_neg hb]
  simp only [hcl, e15, e17]
  by_cases h0 : l2 = 0
  · refine ⟨nI c, ?_, ?_⟩
    · show (if l2 = 0 then some (σ 16 4, σ) else _) = _
      rw [if_pos h0]
      exact congrArg (fun x => some (x, σ)) i2
    · rw [if_pos h0, if_pos h0]
  by_cases h1 : l2 = 1
  · refine ⟨nI k, ?_, ?_⟩
    · show (if l2 = 0 then some (σ 16 4, σ) else if l2 = 1 then some (σ 16 5, σ) else _) = _
      rw [if_neg h0, if_pos h1]
      exact congrArg (fun x => some (x, σ)) i5
    · rw [if_neg h0, if_pos h1, if_neg h0]
  by_cases h2 : l2 < 10
  · refine ⟨-1, kP_tell_out_16 h0 h1 (Or.inl ?_), by rw [if_neg h0, if_neg h1, if_pos h2]⟩
    by_cases h3 : l2 < 0
    · exact kn_div10 h3
    · obtain ⟨j, hj, rfl⟩ := kn_of h3
      have h4 := (kn_lt hj (b := 10) (by omega)).mp h2
      have h5 : nI j / 10 = nI (j / 10) := pk_div (a := j) (d := 10) (by omega) (by omega) (by omega)
      rw [h5, kn_toInt (by omega)]
      omega
  have h3 : ¬ l2 < 0 := by
    rw [Int32.lt_iff_toInt_lt, show (10 : Int32).toInt = 10 by decide] at h2
    rw [Int32.lt_iff_toInt_lt, show (0 : Int32).toInt = 0 by decide]
    omega
  obtain ⟨j, hj, rfl⟩ := kn_of h3
  have h4 : 10 ≤ j := by
    by_cases z : j < 10
    · exact absurd ((kn_lt hj (b := 10) (by omega)).mpr z) h2
    · omega
  have h5 : nI j / 10 = nI (j / 10) := pk_div (a := j) (d := 10) (by omega) (by omega) (by omega)
  have h6 : nI j - nI j / 10 * 10 = nI (j % 10) := pk_rem (a := j) (d := 10) (by omega) (by omega) (by omega)
  by_cases h7 : j ≤ 39
  · rw [if_neg h0, if_neg h1, if_neg h2, if_neg (show ¬ (39 : Int32) < nI j from kn_geL (a := 39) (b := j) hj (by omega) (by omega)), h6, h5]
    unfold kp_P_tell_16 kp_P_tell_16_0 kp_P_tell_16_36
    rw [if_neg h0, if_neg h1, h6, h5, if_neg (kn_nn (by omega)), show σ 16 4 = nI c from i2]
    by_cases h8 : j % 10 < c
    · have h9 : nI (j % 10) < nI c := (kn_lt (by omega) (by omega)).mpr h8
      have h10 : ¬ (nI (j % 10) < 0 ∨ 6 ≤ (nI (j % 10)).toNatClampNeg) := kn_in (by omega) (by omega)
      have h11 : (18 : Int32) * nI 0 + 3 * nI (j % 10) + nI (j / 10) - 1 = nI (18 * 0 + 3 * (j % 10) + (j / 10 - 1)) := by
        have e1 : (18 : Int32) * nI 0 = nI (18 * 0) := kn_mul 18 0
        have e2 : (3 : Int32) * nI (j % 10) = nI (3 * (j % 10)) := kn_mul 3 (j % 10)
        rw [e1, e2, kn_add, kn_add]
        have := kn_sub (a := 1) (b := 18 * 0 + 3 * (j % 10) + j / 10) (by omega)
        rw [show 18 * 0 + 3 * (j % 10) + j / 10 - 1 = 18 * 0 + 3 * (j % 10) + (j / 10 - 1) by omega] at this
        exact this
      have h12 : ¬ (nI (18 * 0 + 3 * (j % 10) + (j / 10 - 1)) < 0 ∨ 72 ≤ (nI (18 * 0 + 3 * (j % 10) + (j / 10 - 1))).toNatClampNeg) := kn_in (by omega) (by omega)
      obtain ⟨v1, v2, v3⟩ := i7 (j % 10) (by omega)
      rw [if_pos h9, if_pos h9, if_neg h10, if_neg h10, if_neg h10, h11, if_neg h12, kn_cl (by omega), kn_cl (by omega), kn_toInt (by omega), if_neg (by omega)]
      have hd : j / 10 = 1 ∨ j / 10 = 2 ∨ j / 10 = 3 := by omega
      rcases hd with hd | hd | hd
      · rw [hd]
        exact ⟨_, rfl, congrArg (fun x => some (x, kt_up τ 0 0 0)) v1⟩
      · rw [hd]
        exact ⟨_, rfl, congrArg (fun x => some (x, kt_up τ 0 0 0)) v2⟩
      · rw [hd]
        exact ⟨_, rfl, congrArg (fun x => some (x, kt_up τ 0 0 0)) v3⟩
    · have h9 : ¬ nI (j % 10) < nI c := fun z => h8 ((kn_lt (by omega) (by omega)).mp z)
      rw [if_neg h9, if_neg h9]
      exact ⟨_, rfl, rfl⟩
  · refine ⟨-1, kP_tell_out_16 h0 h1 (Or.inr ?_), ?_⟩
    · rw [h5, kn_toInt (by omega)]
      omega
    · rw [if_neg h0, if_neg h1, if_neg h2, if_pos (show (39 : Int32) < nI j from (kn_lt (a := 39) (by omega) hj).mpr (by omega))]
theorem kP_tell_out_20 {σ : kt_S} {l : Int32} (h0 : ¬ l = 0) (h1 : ¬ l = 1) (h : (l / 10).toInt < 1 ∨ 3 < (l / 10).toInt) : kp_P_tell_20 l σ = some (-1, σ) := by
  unfold kp_P_tell_20 kp_P_tell_20_0 kp_P_tell_20_36
  rw [if_neg h0, if_neg h1]
  by_cases h2 : l - l / 10 * 10 < 0
  · rw [if_pos h2]
  rw [if_neg h2]
  by_cases h3 : l - l / 10 * 10 < σ 20 4
  · rw [if_pos h3, if_pos h]
  · rw [if_neg h3]
theorem kR_tell_1 {n : Nat} {σ τ : kt_S} (H : kR n σ τ) (l2 : Int32) : ∃ v, kp_P_tell_20 l2 σ = some (v, σ) ∧ kp_M_party (nI 1) l2 τ = some (v, kt_up τ 0 0 0) := by
  obtain ⟨i1, ⟨c, c6, i2, i3, _⟩, ⟨k, i4, i5, i6⟩, _, i7⟩ := H.2.2.2.2.2.2.2 1 (by omega)
  have hb : ¬ (nI 1 < 0 ∨ 4 ≤ (nI 1).toNatClampNeg) := kn_in (by omega) (by omega)
  have e15 : kt_up τ 0 0 0 15 1 = nI c := i3
  have e17 : kt_up τ 0 0 0 17 1 = nI k := i6
  unfold kp_M_party kp_M_party_0 kp_M_party_23 kp_M_party_42 kp_M_party_70 kp_M_party_94
  rw [km_isP (by omega), kt_bs]
  dsimp only
  rw [if_neg ki_10]
  have hcl : (nI 1).toNatClampNeg = 1 := kn_cl (by omega)
  simp only [if_neg hb]
  simp only [hcl, e15, e17]
  by_cases h0 : l2 = 0
  · refine ⟨nI c, ?_, ?_⟩
    · show (if l2 = 0 then some (σ 20 4, σ) else _) = _
      rw [if_pos h0]
      exact congrArg (fun x => some (x, σ)) i2
    · rw [if_pos h0, if_pos h0]
  by_cases h1 : l2 = 1
  · refine ⟨nI k, ?_, ?_⟩
    · show (if l2 = 0 then some (σ 20 4, σ) else if l2 = 1 then some (σ 20 5, σ) else _) = _
      rw [if_neg h0, if_pos h1]
      exact congrArg (fun x => some (x, σ)) i5
    · rw [if_neg h0, if_pos h1, if_neg h0]
  by_cases h2 : l2 < 10
  · refine ⟨-1, kP_tell_out_20 h0 h1 (Or.inl ?_), by rw [if_neg h0, if_neg h1, if_pos h2]⟩
    by_cases h3 : l2 < 0
    · exact kn_div10 h3
    · obtain ⟨j, hj, rfl⟩ := kn_of h3
      have h4 := (kn_lt hj (b := 10) (by omega)).mp h2
      have h5 : nI j / 10 = nI (j / 10) := pk_div (a := j) (d := 10) (by omega) (by omega) (by omega)
      rw [h5, kn_toInt (by omega)]
      omega
  have h3 : ¬ l2 < 0 := by
    rw [Int32.lt_iff_toInt_lt, show (10 : Int32).toInt = 10 by decide] at h2
    rw [Int32.lt_iff_toInt_lt, show (0 : Int32).toInt = 0 by decide]
    omega
  obtain ⟨j, hj, rfl⟩ := kn_of h3
  have h4 : 10 ≤ j := by
    by_cases z : j < 10
    · exact absurd ((kn_lt hj (b := 10) (by omega)).mpr z) h2
    · omega
  have h5 : nI j / 10 = nI (j / 10) := pk_div (a := j) (d := 10) (by omega) (by omega) (by omega)
  have h6 : nI j - nI j / 10 * 10 = nI (j % 10) := pk_rem (a := j) (d := 10) (by omega) (by omega) (by omega)
  by_cases h7 : j ≤ 39
  · rw [if_neg h0, if_neg h1, if_neg h2, if_neg (show ¬ (39 : Int32) < nI j from kn_geL (a := 39) (b := j) hj (by omega) (by omega)), h6, h5]
    unfold kp_P_tell_20 kp_P_tell_20_0 kp_P_tell_20_36
    rw [if_neg h0, if_neg h1, h6, h5, if_neg (kn_nn (by omega)), show σ 20 4 = nI c from i2]
    by_cases h8 : j % 10 < c
    · have h9 : nI (j % 10) < nI c := (kn_lt (by omega) (by omega)).mpr h8
      have h10 : ¬ (nI (j % 10) < 0 ∨ 6 ≤ (nI (j % 10)).toNatClampNeg) := kn_in (by omega) (by omega)
      have h11 : (18 : Int32) * nI 1 + 3 * nI (j % 10) + nI (j / 10) - 1 = nI (18 * 1 + 3 * (j % 10) + (j / 10 - 1)) := by
        have e1 : (18 : Int32) * nI 1 = nI (18 * 1) := kn_mul 18 1
        have e2 : (3 : Int32) * nI (j % 10) = nI (3 * (j % 10)) := kn_mul 3 (j % 10)
        rw [e1, e2, kn_add, kn_add]
        have := kn_sub (a := 1) (b := 18 * 1 + 3 * (j % 10) + j / 10) (by omega)
        rw [show 18 * 1 + 3 * (j % 10) + j / 10 - 1 = 18 * 1 + 3 * (j % 10) + (j / 10 - 1) by omega] at this
        exact this
      have h12 : ¬ (nI (18 * 1 + 3 * (j % 10) + (j / 10 - 1)) < 0 ∨ 72 ≤ (nI (18 * 1 + 3 * (j % 10) + (j / 10 - 1))).toNatClampNeg) := kn_in (by omega) (by omega)
      obtain ⟨v1, v2, v3⟩ := i7 (j % 10) (by omega)
      rw [if_pos h9, if_pos h9, if_neg h10, if_neg h10, if_neg h10, h11, if_neg h12, kn_cl (by omega), kn_cl (by omega), kn_toInt (by omega), if_neg (by omega)]
      have hd : j / 10 = 1 ∨ j / 10 = 2 ∨ j / 10 = 3 := by omega
      rcases hd with hd | hd | hd
      · rw [hd]
        exact ⟨_, rfl, congrArg (fun x => some (x, kt_up τ 0 0 0)) v1⟩
      · rw [hd]
        exact ⟨_, rfl, congrArg (fun x => some (x, kt_up τ 0 0 0)) v2⟩
      · rw [hd]
        exact ⟨_, rfl, congrArg (fun x => some (x, kt_up τ 0 0 0)) v3⟩
    · have h9 : ¬ nI (j % 10) < nI c := fun z => h8 ((kn_lt (by omega) (by omega)).mp z)
      rw [if_neg h9, if_neg h9]
      exact ⟨_, rfl, rfl⟩
  · refine ⟨-1, kP_tell_out_20 h0 h1 (Or.inr ?_), ?_⟩
    · rw [h5, kn_toInt (by omega)]
      omega
    · rw [if_neg h0, if_neg h1, if_neg h2, if_pos (show (39 : Int32) < nI j from (kn_lt (a := 39) (by omega) hj).mpr (by omega))]
theorem kP_tell_out_24 {σ : kt_S} {l : Int32} (h0 : ¬ l = 0) (h1 : ¬ l = 1) (h : (l / 10).toInt < 1 ∨ 3 < (l / 10).toInt) : kp_P_tell_24 l σ = some (-1, σ) := by
  unfold kp_P_tell_24 kp_P_tell_24_0 kp_P_tell_24_36
  rw [if_neg h0, if_neg h1]
  by_cases h2 : l - l / 10 * 10 < 0
  · rw [if_pos h2]
  rw [if_neg h2]
  by_cases h3 : l - l / 10 * 10 < σ 24 4
  · rw [if_pos h3, if_pos h]
  · rw [if_neg h3]
theorem kR_tell_2 {n : Nat} {σ τ : kt_S} (H : kR n σ τ) (l2 : Int32) : ∃ v, kp_P_tell_24 l2 σ = some (v, σ) ∧ kp_M_party (nI 2) l2 τ = some (v, kt_up τ 0 0 0) := by
  obtain ⟨i1, ⟨c, c6, i2, i3, _⟩, ⟨k, i4, i5, i6⟩, _, i7⟩ := H.2.2.2.2.2.2.2 2 (by omega)
  have hb : ¬ (nI 2 < 0 ∨ 4 ≤ (nI 2).toNatClampNeg) := kn_in (by omega) (by omega)
  have e15 : kt_up τ 0 0 0 15 2 = nI c := i3
  have e17 : kt_up τ 0 0 0 17 2 = nI k := i6
  unfold kp_M_party kp_M_party_0 kp_M_party_23 kp_M_party_42 kp_M_party_70 kp_M_party_94
  rw [km_isP (by omega), kt_bs]
  dsimp only
  rw [if_neg ki_10]
  have hcl : (nI 2).toNatClampNeg = 2 := kn_cl (by omega)
  simp only [if_neg hb]
  simp only [hcl, e15, e17]
  by_cases h0 : l2 = 0
  · refine ⟨nI c, ?_, ?_⟩
    · show (if l2 = 0 then some (σ 24 4, σ) else _) = _
      rw [if_pos h0]
      exact congrArg (fun x => some (x, σ)) i2
    · rw [if_pos h0, if_pos h0]
  by_cases h1 : l2 = 1
  · refine ⟨nI k, ?_, ?_⟩
    · show (if l2 = 0 then some (σ 24 4, σ) else if l2 = 1 then some (σ 24 5, σ) else _) = _
      rw [if_neg h0, if_pos h1]
      exact congrArg (fun x => some (x, σ)) i5
    · rw [if_neg h0, if_pos h1, if_neg h0]
  by_cases h2 : l2 < 10
  · refine ⟨-1, kP_tell_out_24 h0 h1 (Or.inl ?_), by rw [if_neg h0, if_neg h1, if_pos h2]⟩
    by_cases h3 : l2 < 0
    · exact kn_div10 h3
    · obtain ⟨j, hj, rfl⟩ := kn_of h3
      have h4 := (kn_lt hj (b := 10) (by omega)).mp h2
      have h5 : nI j / 10 = nI (j / 10) := pk_div (a := j) (d := 10) (by omega) (by omega) (by omega)
      rw [h5, kn_toInt (by omega)]
      omega
  have h3 : ¬ l2 < 0 := by
    rw [Int32.lt_iff_toInt_lt, show (10 : Int32).toInt = 10 by decide] at h2
    rw [Int32.lt_iff_toInt_lt, show (0 : Int32).toInt = 0 by decide]
    omega
  obtain ⟨j, hj, rfl⟩ := kn_of h3
  have h4 : 10 ≤ j := by
    by_cases z : j < 10
    · exact absurd ((kn_lt hj (b := 10) (by omega)).mpr z) h2
    · omega
  have h5 : nI j / 10 = nI (j / 10) := pk_div (a := j) (d := 10) (by omega) (by omega) (by omega)
  have h6 : nI j - nI j / 10 * 10 = nI (j % 10) := pk_rem (a := j) (d := 10) (by omega) (by omega) (by omega)
  by_cases h7 : j ≤ 39
  · rw [if_neg h0, if_neg h1, if_neg h2, if_neg (show ¬ (39 : Int32) < nI j from kn_geL (a := 39) (b := j) hj (by omega) (by omega)), h6, h5]
    unfold kp_P_tell_24 kp_P_tell_24_0 kp_P_tell_24_36
    rw [if_neg h0, if_neg h1, h6, h5, if_neg (kn_nn (by omega)), show σ 24 4 = nI c from i2]
    by_cases h8 : j % 10 < c
    · have h9 : nI (j % 10) < nI c := (kn_lt (by omega) (by omega)).mpr h8
      have h10 : ¬ (nI (j % 10) < 0 ∨ 6 ≤ (nI (j % 10)).toNatClampNeg) := kn_in (by omega) (by omega)
      have h11 : (18 : Int32) * nI 2 + 3 * nI (j % 10) + nI (j / 10) - 1 = nI (18 * 2 + 3 * (j % 10) + (j / 10 - 1)) := by
        have e1 : (18 : Int32) * nI 2 = nI (18 * 2) := kn_mul 18 2
        have e2 : (3 : Int32) * nI (j % 10) = nI (3 * (j % 10)) := kn_mul 3 (j % 10)
        rw [e1, e2, kn_add, kn_add]
        have := kn_sub (a := 1) (b := 18 * 2 + 3 * (j % 10) + j / 10) (by omega)
        rw [show 18 * 2 + 3 * (j % 10) + j / 10 - 1 = 18 * 2 + 3 * (j % 10) + (j / 10 - 1) by omega] at this
        exact this
      have h12 : ¬ (nI (18 * 2 + 3 * (j % 10) + (j / 10 - 1)) < 0 ∨ 72 ≤ (nI (18 * 2 + 3 * (j % 10) + (j / 10 - 1))).toNatClampNeg) := kn_in (by omega) (by omega)
      obtain ⟨v1, v2, v3⟩ := i7 (j % 10) (by omega)
      rw [if_pos h9, if_pos h9, if_neg h10, if_neg h10, if_neg h10, h11, if_neg h12, kn_cl (by omega), kn_cl (by omega), kn_toInt (by omega), if_neg (by omega)]
      have hd : j / 10 = 1 ∨ j / 10 = 2 ∨ j / 10 = 3 := by omega
      rcases hd with hd | hd | hd
      · rw [hd]
        exact ⟨_, rfl, congrArg (fun x => some (x, kt_up τ 0 0 0)) v1⟩
      · rw [hd]
        exact ⟨_, rfl, congrArg (fun x => some (x, kt_up τ 0 0 0)) v2⟩
      · rw [hd]
        exact ⟨_, rfl, congrArg (fun x => some (x, kt_up τ 0 0 0)) v3⟩
    · have h9 : ¬ nI (j % 10) < nI c := fun z => h8 ((kn_lt (by omega) (by omega)).mp z)
      rw [if_neg h9, if_neg h9]
      exact ⟨_, rfl, rfl⟩
  · refine ⟨-1, kP_tell_out_24 h0 h1 (Or.inr ?_), ?_⟩
    · rw [h5, kn_toInt (by omega)]
      omega
    · rw [if_neg h0, if_neg h1, if_neg h2, if_pos (show (39 : Int32) < nI j from (kn_lt (a := 39) (by omega) hj).mpr (by omega))]
theorem kP_tell_out_28 {σ : kt_S} {l : Int32} (h0 : ¬ l = 0) (h1 : ¬ l = 1) (h : (l / 10).toInt < 1 ∨ 3 < (l / 10).toInt) : kp_P_tell_28 l σ = some (-1, σ) := by
  unfold kp_P_tell_28 kp_P_tell_28_0 kp_P_tell_28_36
  rw [if_neg h0, if_neg h1]
  by_cases h2 : l - l / 10 * 10 < 0
  · rw [if_pos h2]
  rw [if_neg h2]
  by_cases h3 : l - l / 10 * 10 < σ 28 4
  · rw [if_pos h3, if_pos h]
  · rw [if_neg h3]
theorem kR_tell_3 {n : Nat} {σ τ : kt_S} (H : kR n σ τ) (l2 : Int32) : ∃ v, kp_P_tell_28 l2 σ = some (v, σ) ∧ kp_M_party (nI 3) l2 τ = some (v, kt_up τ 0 0 0) := by
  obtain ⟨i1, ⟨c, c6, i2, i3, _⟩, ⟨k, i4, i5, i6⟩, _, i7⟩ := H.2.2.2.2.2.2.2 3 (by omega)
  have hb : ¬ (nI 3 < 0 ∨ 4 ≤ (nI 3).toNatClampNeg) := kn_in (by omega) (by omega)
  have e15 : kt_up τ 0 0 0 15 3 = nI c := i3
  have e17 : kt_up τ 0 0 0 17 3 = nI k := i6
  unfold kp_M_party kp_M_party_0 kp_M_party_23 kp_M_party_42 kp_M_party_70 kp_M_party_94
  rw [km_isP (by omega), kt_bs]
  dsimp only
  rw [if_neg ki_10]
  have hcl : (nI 3).toNatClampNeg = 3 := kn_cl (by omega)
  simp only [if_neg hb]
  simp only [hcl, e15, e17]
  by_cases h0 : l2 = 0
  · refine ⟨nI c, ?_, ?_⟩
    · show (if l2 = 0 then some (σ 28 4, σ) else _) = _
      rw [if_pos h0]
      exact congrArg (fun x => some (x, σ)) i2
    · rw [if_pos h0, if_pos h0]
  by_cases h1 : l2 = 1
  · refine ⟨nI k, ?_, ?_⟩
    · show (if l2 = 0 then some (σ 28 4, σ) else if l2 = 1 then some (σ 28 5, σ) else _) = _
      rw [if_neg h0, if_pos h1]
      exact congrArg (fun x => some (x, σ)) i5
    · rw [if_neg h0, if_pos h1, if_neg h0]
  by_cases h2 : l2 < 10
  · refine ⟨-1, kP_tell_out_28 h0 h1 (Or.inl ?_), by rw [if_neg h0, if_neg h1, if_pos h2]⟩
    by_cases h3 : l2 < 0
    · exact kn_div10 h3
    · obtain ⟨j, hj, rfl⟩ := kn_of h3
      have h4 := (kn_lt hj (b := 10) (by omega)).mp h2
      have h5 : nI j / 10 = nI (j / 10) := pk_div (a := j) (d := 10) (by omega) (by omega) (by omega)
      rw [h5, kn_toInt (by omega)]
      omega
  have h3 : ¬ l2 < 0 := by
    rw [Int32.lt_iff_toInt_lt, show (10 : Int32).toInt = 10 by decide] at h2
    rw [Int32.lt_iff_toInt_lt, show (0 : Int32).toInt = 0 by decide]
    omega
  obtain ⟨j, hj, rfl⟩ := kn_of h3
  have h4 : 10 ≤ j := by
    by_cases z : j < 10
    · exact absurd ((kn_lt hj (b := 10) (by omega)).mpr z) h2
    · omega
  have h5 : nI j / 10 = nI (j / 10) := pk_div (a := j) (d := 10) (by omega) (by omega) (by omega)
  have h6 : nI j - nI j / 10 * 10 = nI (j % 10) := pk_rem (a := j) (d := 10) (by omega) (by omega) (by omega)
  by_cases h7 : j ≤ 39
  · rw [if_neg h0, if_neg h1, if_neg h2, if_neg (show ¬ (39 : Int32) < nI j from kn_geL (a := 39) (b := j) hj (by omega) (by omega)), h6, h5]
    unfold kp_P_tell_28 kp_P_tell_28_0 kp_P_tell_28_36
    rw [if_neg h0, if_neg h1, h6, h5, if_neg (kn_nn (by omega)), show σ 28 4 = nI c from i2]
    by_cases h8 : j % 10 < c
    · have h9 : nI (j % 10) < nI c := (kn_lt (by omega) (by omega)).mpr h8
      have h10 : ¬ (nI (j % 10) < 0 ∨ 6 ≤ (nI (j % 10)).toNatClampNeg) := kn_in (by omega) (by omega)
      have h11 : (18 : Int32) * nI 3 + 3 * nI (j % 10) + nI (j / 10) - 1 = nI (18 * 3 + 3 * (j % 10) + (j / 10 - 1)) := by
        have e1 : (18 : Int32) * nI 3 = nI (18 * 3) := kn_mul 18 3
        have e2 : (3 : Int32) * nI (j % 10) = nI (3 * (j % 10)) := kn_mul 3 (j % 10)
        rw [e1, e2, kn_add, kn_add]
        have := kn_sub (a := 1) (b := 18 * 3 + 3 * (j % 10) + j / 10) (by omega)
        rw [show 18 * 3 + 3 * (j % 10) + j / 10 - 1 = 18 * 3 + 3 * (j % 10) + (j / 10 - 1) by omega] at this
        exact this
      have h12 : ¬ (nI (18 * 3 + 3 * (j % 10) + (j / 10 - 1)) < 0 ∨ 72 ≤ (nI (18 * 3 + 3 * (j % 10) + (j / 10 - 1))).toNatClampNeg) := kn_in (by omega) (by omega)
      obtain ⟨v1, v2, v3⟩ := i7 (j % 10) (by omega)
      rw [if_pos h9, if_pos h9, if_neg h10, if_neg h10, if_neg h10, h11, if_neg h12, kn_cl (by omega), kn_cl (by omega), kn_toInt (by omega), if_neg (by omega)]
      have hd : j / 10 = 1 ∨ j / 10 = 2 ∨ j / 10 = 3 := by omega
      rcases hd with hd | hd | hd
      · rw [hd]
        exact ⟨_, rfl, congrArg (fun x => some (x, kt_up τ 0 0 0)) v1⟩
      · rw [hd]
        exact ⟨_, rfl, congrArg (fun x => some (x, kt_up τ 0 0 0)) v2⟩
      · rw [hd]
        exact ⟨_, rfl, congrArg (fun x => some (x, kt_up τ 0 0 0)) v3⟩
    · have h9 : ¬ nI (j % 10) < nI c := fun z => h8 ((kn_lt (by omega) (by omega)).mp z)
      rw [if_neg h9, if_neg h9]
      exact ⟨_, rfl, rfl⟩
  · refine ⟨-1, kP_tell_out_28 h0 h1 (Or.inr ?_), ?_⟩
    · rw [h5, kn_toInt (by omega)]
      omega
    · rw [if_neg h0, if_neg h1, if_neg h2, if_pos (show (39 : Int32) < nI j from (kn_lt (a := 39) (by omega) hj).mpr (by omega))]
theorem kR_party {n : Nat} {σ τ : kt_S} (H : kR n σ τ) (l1 l2 : Int32) : kR_ret n (kp_K_party l1 l2 σ) (kp_M_party l1 l2 τ) := by
  have T : kR n σ (kt_up τ 0 0 0) := kR_thr H
  unfold kp_K_party kp_K_party_0 kp_K_party_19
  rcases kP_of l1 with h | rfl | rfl | rfl | rfl
  · refine ⟨-1, σ, _, ?_, ?_, rfl, T⟩
    · by_cases h1 : l1 < 0
      · rw [if_pos h1]
      · rw [if_neg h1, if_pos (h.resolve_left h1)]
    · unfold kp_M_party kp_M_party_0
      rw [km_notP h, kt_bs]
      exact if_pos rfl
  · obtain ⟨v, k1, k2⟩ := kR_tell_0 H l2
    refine ⟨v, σ, _, ?_, k2, rfl, T⟩
    rw [if_neg (show ¬ nI 0 < (0 : Int32) by decide), if_neg (show ¬ (4 : Int32) ≤ nI 0 by decide), if_pos (show nI 0 = (0 : Int32) from rfl), k1, kt_bs]
  · obtain ⟨v, k1, k2⟩ := kR_tell_1 H l2
    refine ⟨v, σ, _, ?_, k2, rfl, T⟩
    rw [if_neg (show ¬ nI 1 < (0 : Int32) by decide), if_neg (show ¬ (4 : Int32) ≤ nI 1 by decide), if_neg (show ¬ nI 1 = (0 : Int32) by decide), if_pos (show nI 1 = (1 : Int32) from rfl), k1, kt_bs]
  · obtain ⟨v, k1, k2⟩ := kR_tell_2 H l2
    refine ⟨v, σ, _, ?_, k2, rfl, T⟩
    rw [if_neg (show ¬ nI 2 < (0 : Int32) by decide), if_neg (show ¬ (4 : Int32) ≤ nI 2 by decide), if_neg (show ¬ nI 2 = (0 : Int32) by decide), if_neg (show ¬ nI 2 = (1 : Int32) by decide), if_pos (show nI 2 = (2 : Int32) from rfl), k1, kt_bs]
  · obtain ⟨v, k1, k2⟩ := kR_tell_3 H l2
    refine ⟨v, σ, _, ?_, k2, rfl, T⟩
    rw [if_neg (show ¬ nI 3 < (0 : Int32) by decide), if_neg (show ¬ (4 : Int32) ≤ nI 3 by decide), if_neg (show ¬ nI 3 = (0 : Int32) by decide), if_neg (show ¬ nI 3 = (1 : Int32) by decide), if_neg (show ¬ nI 3 = (2 : Int32) by decide), k1, kt_bs]
