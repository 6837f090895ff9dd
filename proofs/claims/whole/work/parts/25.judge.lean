/-! What was signed is judged by a party. -/
def kG_F (σ : kt_S) (i w : Nat) : Int32 := σ 5 (6 * (i % 40) + w)
def kG_A (σ : kt_S) (i w : Nat) (l3 l4 : Int32) : Int32 := if nI w = l3 then kG_F σ i (w - 1) + l4 else kG_F σ i (w - 1)
theorem kG_field {σ : kt_S} {i w : Nat} (hi : i < 1000000) (h1 : 1 ≤ w) (h2 : w ≤ 6) (hh : kp_G_has (nI i) σ = some (1, σ)) : kp_G_field (nI i) (nI w) σ = some (kG_F σ i (w - 1), σ) := by
  have m1 : nI i - nI i / 40 * 40 = nI (i % 40) := pk_rem (a := i) (d := 40) (by omega) (by omega) (by omega)
  have q1 : nI (i % 40) * 6 + nI w - 1 = nI (6 * (i % 40) + (w - 1)) := by
    rw [ks_idx]
    have := kn_sub (a := 1) (b := 6 * (i % 40) + w) (by omega)
    rw [show 6 * (i % 40) + w - 1 = 6 * (i % 40) + (w - 1) by omega] at this
    exact this
  have hb1 : ¬ (nI (6 * (i % 40) + (w - 1)) < 0 ∨ 240 ≤ (nI (6 * (i % 40) + (w - 1))).toNatClampNeg) := kn_in (by omega) (by omega)
  unfold kp_G_field kp_G_field_0 kp_G_field_24 kp_G_field_49
  rw [hh, kt_bs]
  dsimp only
  rw [if_neg ki_10, if_neg (show ¬ nI w < (1 : Int32) from kn_geL (a := w) (b := 1) (by omega) (by omega) (by omega)), if_neg (show ¬ (6 : Int32) < nI w from kn_geL (a := 6) (b := w) (by omega) (by omega) (by omega)), if_neg ki_10, m1, q1, if_neg hb1, kn_cl (by omega)]
  rfl
theorem kG_altered {σ : kt_S} {i w : Nat} (hi : i < 1000000) (h1 : 1 ≤ w) (h2 : w ≤ 6) (hh : kp_G_has (nI i) σ = some (1, σ)) (l3 l4 : Int32) : kp_K_alteredField (nI i) (nI w) l3 l4 σ = some (kG_A σ i w l3 l4, σ) := by
  unfold kp_K_alteredField kp_K_alteredField_0 kp_K_alteredField_29
  rw [kG_field hi h1 h2 hh, kt_bs]
  dsimp only
  unfold kG_A
  by_cases h : nI w = l3
  · rw [if_pos h, if_pos h]
  · rw [if_neg h, if_neg h]
theorem kG_A0 {σ : kt_S} {i w : Nat} {l3 l4 : Int32} (hw : 1 ≤ w ∧ w ≤ 6) (h : l3 = 0 ∨ l4 = 0) : kG_A σ i w l3 l4 = kG_F σ i (w - 1) := by
  unfold kG_A
  by_cases h1 : nI w = l3
  · rcases h with h | h
    · rw [h] at h1
      have := (kn_eq (a := w) (b := 0) (by omega) (by omega)).mp h1
      omega
    · rw [if_pos h1, h, Int32.add_zero]
  · rw [if_neg h1]
theorem km_sig {n : Nat} {σ τ : kt_S} (H : kR n σ τ) {i w : Nat} (hi : 1 ≤ i) (hw : w < 6) : τ 5 (6 * ((i - 1) % 40) + w) = kG_F σ i w := by
  have := H.2.2.2.2.2.2.1.1 ((i - 1) % 40) w (by omega) (by omega)
  rw [show ((i - 1) % 40 + 1) % 40 = i % 40 by omega] at this
  exact this.symm
theorem km_judge {n : Nat} {σ τ : kt_S} (H : kR n σ τ) {i : Nat} (hi1 : 1 ≤ i) (hi : i < 1000000) (l1 l3 l4 : Int32) : kp_M_judge l1 (nI i - 1) l3 l4 τ = kp_M_judge_83 l1 l3 l4 (kG_F σ i 0) (kG_F σ i 1) (kG_F σ i 4) (kG_A σ i 3 l3 l4) (if l3 = 4 then l4 else 0) (kG_F σ i 3) τ := by
  have p1 : nI i - 1 = nI (i - 1) := kn_sub (a := 1) hi1
  have m2 : nI (i - 1) - nI (i - 1) / 40 * 40 = nI ((i - 1) % 40) := pk_rem (a := i - 1) (d := 40) (by omega) (by omega) (by omega)
  have q : ∀ w, (6 : Int32) * nI ((i - 1) % 40) + nI w = nI (6 * ((i - 1) % 40) + w) := fun w => km_idx _ w
  have hb : ∀ w, w < 6 → ¬ (nI (6 * ((i - 1) % 40) + w) < 0 ∨ 240 ≤ (nI (6 * ((i - 1) % 40) + w)).toNatClampNeg) := fun w hw => kn_in (by omega) (by omega)
  have hv : ∀ w, w < 6 → τ 5 (nI (6 * ((i - 1) % 40) + w)).toNatClampNeg = kG_F σ i w := fun w hw => by
    rw [kn_cl (by omega)]
    exact km_sig H hi1 hw
  have q0 : (6 : Int32) * nI ((i - 1) % 40) = nI (6 * ((i - 1) % 40) + 0) := km_idx0 _
  have q1 : nI (6 * ((i - 1) % 40) + 0) + 1 = nI (6 * ((i - 1) % 40) + 1) := kn_add _ 1
  have q2 : nI (6 * ((i - 1) % 40) + 0) + 2 = nI (6 * ((i - 1) % 40) + 2) := kn_add _ 2
  have q3 : nI (6 * ((i - 1) % 40) + 0) + 3 = nI (6 * ((i - 1) % 40) + 3) := kn_add _ 3
  have q4 : nI (6 * ((i - 1) % 40) + 0) + 4 = nI (6 * ((i - 1) % 40) + 4) := kn_add _ 4
  unfold kp_M_judge kp_M_judge_0 kp_M_judge_60
  rw [p1, m2, q0, q1, q2, q3, q4, if_neg (hb 0 (by omega)), if_neg (hb 1 (by omega)), if_neg (hb 4 (by omega)), if_neg (hb 2 (by omega)), hv 0 (by omega), hv 1 (by omega), hv 2 (by omega), hv 3 (by omega), hv 4 (by omega)]
  simp only [if_neg (hb 3 (by omega))]
  unfold kG_A
  by_cases h3 : l3 = 3
  · have h4 : ¬ l3 = 4 := by rw [h3]; decide
    rw [if_pos h3, if_neg h4, if_neg h4, if_pos (show nI 3 = l3 from h3.symm)]
  · rw [if_neg h3, if_neg (show ¬ nI 3 = l3 from fun z => h3 z.symm), Int32.add_zero]
    by_cases h4 : l3 = 4
    · rw [if_pos h4, if_pos h4]
    · rw [if_neg h4, if_neg h4]
theorem kG_A4 {σ : kt_S} {i : Nat} {l3 l4 : Int32} : kG_F σ i 3 + (if l3 = 4 then l4 else 0) = kG_A σ i 4 l3 l4 := by
  unfold kG_A
  by_cases h4 : l3 = 4
  · rw [if_pos h4, if_pos (show nI 4 = l3 from h4.symm)]
  · rw [if_neg h4, if_neg (show ¬ nI 4 = l3 from fun z => h4 z.symm), Int32.add_zero]
theorem kP_find_16_loop {σ : kt_S} {c : Nat} (l : Int32) (hc : σ 16 4 = nI c) (hc6 : c ≤ 6) : ∀ m i f, i + m = c → m < f → (∃ j, i ≤ j ∧ j < c ∧ σ 17 j = l ∧ kp_P_find_16_2 f l (nI i) σ = some (nI j, σ)) ∨ ((∀ j, i ≤ j → j < c → ¬ σ 17 j = l) ∧ kp_P_find_16_2 f l (nI i) σ = some (-1, σ)) := by
  intro m
  induction m with
  | zero =>
    intro i f him hf
    obtain ⟨f, rfl⟩ := Nat.exists_eq_add_one_of_ne_zero (Nat.ne_of_gt hf)
    refine Or.inr ⟨fun j h1 h2 => absurd h2 (by omega), ?_⟩
    show kp_P_find_16_2b (kp_P_find_16_2 f) l (nI i) σ = _
    unfold kp_P_find_16_2b kp_P_find_16_34
    rw [hc, if_pos (kn_leR (by omega) (by omega))]
  | succ m ih =>
    intro i f him hf
    obtain ⟨f, rfl⟩ := Nat.exists_eq_add_one_of_ne_zero (show ¬ f = 0 by omega)
    have e : kp_P_find_16_2 (f + 1) l (nI i) σ = if σ 17 i = l then some (nI i, σ) else kp_P_find_16_2 f l (nI (i + 1)) σ := by
      show kp_P_find_16_2b (kp_P_find_16_2 f) l (nI i) σ = _
      unfold kp_P_find_16_2b kp_P_find_16_34
      rw [hc, if_neg (show ¬ nI c ≤ nI i from fun z => by have := (kn_le (by omega) (by omega)).mp z; omega), if_neg (ks_lt6 (by omega)), if_neg (kn_in (by omega) (by omega)), kn_cl (by omega), kn_succ]
    rw [e]
    by_cases h : σ 17 i = l
    · exact Or.inl ⟨i, by omega, by omega, h, if_pos h⟩
    · rw [if_neg h]
      rcases ih (i + 1) f (by omega) (by omega) with ⟨j, h1, h2, h3, h4⟩ | ⟨h1, h2⟩
      · exact Or.inl ⟨j, by omega, h2, h3, h4⟩
      · refine Or.inr ⟨fun j h3 h4 => ?_, h2⟩
        by_cases h5 : j = i
        · rw [h5]; exact h
        · exact h1 j (by omega) h4
theorem kP_find_16 {σ : kt_S} {c : Nat} (l : Int32) (hc : σ 16 4 = nI c) (hc6 : c ≤ 6) : (∃ j, j < c ∧ σ 17 j = l ∧ kp_P_find_16 l σ = some (nI j, σ)) ∨ ((∀ j, j < c → ¬ σ 17 j = l) ∧ kp_P_find_16 l σ = some (-1, σ)) := by
  rcases kP_find_16_loop l hc hc6 c 0 100 (by omega) (by omega) with ⟨j, h1, h2, h3, h4⟩ | ⟨h1, h2⟩
  · exact Or.inl ⟨j, h2, h3, h4⟩
  · exact Or.inr ⟨fun j h => h1 j (by omega) h, h2⟩
theorem kP_find_20_loop {σ : kt_S} {c : Nat} (l : Int32) (hc : σ 20 4 = nI c) (hc6 : c ≤ 6) : ∀ m i f, i + m = c → m < f → (∃ j, i ≤ j ∧ j < c ∧ σ 21 j = l ∧ kp_P_find_20_2 f l (nI i) σ = some (nI j, σ)) ∨ ((∀ j, i ≤ j → j < c → ¬ σ 21 j = l) ∧ kp_P_find_20_2 f l (nI i) σ = some (-1, σ)) := by
  intro m
  induction m with
  | zero =>
    intro i f him hf
    obtain ⟨f, rfl⟩ := Nat.exists_eq_add_one_of_ne_zero (Nat.ne_of_gt hf)
    refine Or.inr ⟨fun j h1 h2 => absurd h2 (by omega), ?_⟩
    show kp_P_find_20_2b (kp_P_find_20_2 f) l (nI i) σ = _
    unfold kp_P_find_20_2b kp_P_find_20_34
    rw [hc, if_pos (kn_leR (by omega) (by omega))]
  | succ m ih =>
    intro i f him hf
    obtain ⟨f, rfl⟩ := Nat.exists_eq_add_one_of_ne_zero (show ¬ f = 0 by omega)
    have e : kp_P_find_20_2 (f + 1) l (nI i) σ = if σ 21 i = l then some (nI i, σ) else kp_P_find_20_2 f l (nI (i + 1)) σ := by
      show kp_P_find_20_2b (kp_P_find_20_2 f) l (nI i) σ = _
      unfold kp_P_find_20_2b kp_P_find_20_34
      rw [hc, if_neg (show ¬ nI c ≤ nI i from fun z => by have := (kn_le (by omega) (by omega)).mp z; omega), if_neg (ks_lt6 (by omega)), if_neg (kn_in (by omega) (by omega)), kn_cl (by omega), kn_succ]
    rw [e]
    by_cases h : σ 21 i = l
    · exact Or.inl ⟨i, by omega, by omega, h, if_pos h⟩
    · rw [if_neg h]
      rcases ih (i + 1) f (by omega) (by omega) with ⟨j, h1, h2, h3, h4⟩ | ⟨h1, h2⟩
      · exact Or.inl ⟨j, by omega, h2, h3, h4⟩
      · refine Or.inr ⟨fun j h3 h4 => ?_, h2⟩
        by_cases h5 : j = i
        · rw [h5]; exact h
        · exact h1 j (by omega) h4
theorem kP_find_20 {σ : kt_S} {c : Nat} (l : Int32) (hc : σ 20 4 = nI c) (hc6 : c ≤ 6) : (∃ j, j < c ∧ σ 21 j = l ∧ kp_P_find_20 l σ = some (nI j, σ)) ∨ ((∀ j, j < c → ¬ σ 21 j = l) ∧ kp_P_find_20 l σ = some (-1, σ)) := by
  rcases kP_find_20_loop l hc hc6 c 0 100 (by omega) (by omega) with ⟨j, h1, h2, h3, h4⟩ | ⟨h1, h2⟩
  · exact Or.inl ⟨j, h2, h3, h4⟩
  · exact Or.inr ⟨fun j h => h1 j (by omega) h, h2⟩
theorem kP_find_24_loop {σ : kt_S} {c : Nat} (l : Int32) (hc : σ 24 4 = nI c) (hc6 : c ≤ 6) : ∀ m i f, i + m = c → m < f → (∃ j, i ≤ j ∧ j < c ∧ σ 25 j = l ∧ kp_P_find_24_2 f l (nI i) σ = some (nI j, σ)) ∨ ((∀ j, i ≤ j → j < c → ¬ σ 25 j = l) ∧ kp_P_find_24_2 f l (nI i) σ = some (-1, σ)) := by
  intro m
  induction m with
  | zero =>
    intro i f him hf
    obtain ⟨f, rfl⟩ := Nat.exists_eq_add_one_of_ne_zero (Nat.ne_of_gt hf)
    refine Or.inr ⟨fun j h1 h2 => absurd h2 (by omega), ?_⟩
    show kp_P_find_24_2b (kp_P_find_24_2 f) l (nI i) σ = _
    unfold kp_P_find_24_2b kp_P_find_24_34
    rw [hc, if_pos (kn_leR (by omega) (by omega))]
  | succ m ih =>
    intro i f him hf
    obtain ⟨f, rfl⟩ := Nat.exists_eq_add_one_of_ne_zero (show ¬ f = 0 by omega)
    have e : kp_P_find_24_2 (f + 1) l (nI i) σ = if σ 25 i = l then some (nI i, σ) else kp_P_find_24_2 f l (nI (i + 1)) σ := by
      show kp_P_find_24_2b (kp_P_find_24_2 f) l (nI i) σ = _
      unfold kp_P_find_24_2b kp_P_find_24_34
      rw [hc, if_neg (show ¬ nI c ≤ nI i from fun z => by have := (kn_le (by omega) (by omega)).mp z; omega), if_neg (ks_lt6 (by omega)), if_neg (kn_in (by omega) (by omega)), kn_cl (by omega), kn_succ]
    rw [e]
    by_cases h : σ 25 i = l
    · exact Or.inl ⟨i, by omega, by omega, h, if_pos h⟩
    · rw [if_neg h]
      rcases ih (i + 1) f (by omega) (by omega) with ⟨j, h1, h2, h3, h4⟩ | ⟨h1, h2⟩
      · exact Or.inl ⟨j, by omega, h2, h3, h4⟩
      · refine Or.inr ⟨fun j h3 h4 => ?_, h2⟩
        by_cases h5 : j = i
        · rw [h5]; exact h
        · exact h1 j (by omega) h4
theorem kP_find_24 {σ : kt_S} {c : Nat} (l : Int32) (hc : σ 24 4 = nI c) (hc6 : c ≤ 6) : (∃ j, j < c ∧ σ 25 j = l ∧ kp_P_find_24 l σ = some (nI j, σ)) ∨ ((∀ j, j < c → ¬ σ 25 j = l) ∧ kp_P_find_24 l σ = some (-1, σ)) := by
  rcases kP_find_24_loop l hc hc6 c 0 100 (by omega) (by omega) with ⟨j, h1, h2, h3, h4⟩ | ⟨h1, h2⟩
  · exact Or.inl ⟨j, h2, h3, h4⟩
  · exact Or.inr ⟨fun j h => h1 j (by omega) h, h2⟩
theorem kP_find_28_loop {σ : kt_S} {c : Nat} (l : Int32) (hc : σ 28 4 = nI c) (hc6 : c ≤ 6) : ∀ m i f, i + m = c → m < f → (∃ j, i ≤ j ∧ j < c ∧ σ 29 j = l ∧ kp_P_find_28_2 f l (nI i) σ = some (nI j, σ)) ∨ ((∀ j, i ≤ j → j < c → ¬ σ 29 j = l) ∧ kp_P_find_28_2 f l (nI i) σ = some (-1, σ)) := by
  intro m
  induction m with
  | zero =>
    intro i f him hf
    obtain ⟨f, rfl⟩ := Nat.exists_eq_add_one_of_ne_zero (Nat.ne_of_gt hf)
    refine Or.inr ⟨fun j h1 h2 => absurd h2 (by omega), ?_⟩
    show kp_P_find_28_2b (kp_P_find_28_2 f) l (nI i) σ = _
    unfold kp_P_find_28_2b kp_P_find_28_34
    rw [hc, if_pos (kn_leR (by omega) (by omega))]
  | succ m ih =>
    intro i f him hf
    obtain ⟨f, rfl⟩ := Nat.exists_eq_add_one_of_ne_zero (show ¬ f = 0 by omega)
    have e : kp_P_find_28_2 (f + 1) l (nI i) σ = if σ 29 i = l then some (nI i, σ) else kp_P_find_28_2 f l (nI (i + 1)) σ := by
      show kp_P_find_28_2b (kp_P_find_28_2 f) l (nI i) σ = _
      unfold kp_P_find_28_2b kp_P_find_28_34
      rw [hc, if_neg (show ¬ nI c ≤ nI i from fun z => by have := (kn_le (by omega) (by omega)).mp z; omega), if_neg (ks_lt6 (by omega)), if_neg (kn_in (by omega) (by omega)), kn_cl (by omega), kn_succ]
    rw [e]
    by_cases h : σ 29 i = l
    · exact Or.inl ⟨i, by omega, by omega, h, if_pos h⟩
    · rw [if_neg h]
      rcases ih (i + 1) f (by omega) (by omega) with ⟨j, h1, h2, h3, h4⟩ | ⟨h1, h2⟩
      · exact Or.inl ⟨j, by omega, h2, h3, h4⟩
      · refine Or.inr ⟨fun j h3 h4 => ?_, h2⟩
        by_cases h5 : j = i
        · rw [h5]; exact h
        · exact h1 j (by omega) h4
theorem kP_find_28 {σ : kt_S} {c : Nat} (l : Int32) (hc : σ 28 4 = nI c) (hc6 : c ≤ 6) : (∃ j, j < c ∧ σ 29 j = l ∧ kp_P_find_28 l σ = some (nI j, σ)) ∨ ((∀ j, j < c → ¬ σ 29 j = l) ∧ kp_P_find_28 l σ = some (-1, σ)) := by
  rcases kP_find_28_loop l hc hc6 c 0 100 (by omega) (by omega) with ⟨j, h1, h2, h3, h4⟩ | ⟨h1, h2⟩
  · exact Or.inl ⟨j, h2, h3, h4⟩
  · exact Or.inr ⟨fun j h => h1 j (by omega) h, h2⟩
theorem km_i3 (p t : Nat) : (18 : Int32) * nI p + 3 * nI t = nI (18 * p + 3 * t) := by
  rw [show (18 : Int32) * nI p = nI (18 * p) from kn_mul 18 p, show (3 : Int32) * nI t = nI (3 * t) from kn_mul 3 t, kn_add]
/-- the reference looks for a key among those of a party: the last one with it -/
theorem km_judge_loop {τ : kt_S} {p c : Nat} (hp : p < 4) (hc : τ 15 p = nI c) (hc6 : c ≤ 6) (l6 l7 l8 : Int32) : ∀ m i f l11, i + m = c → m < f → ∃ y : Int32, kp_M_judge_133 f (nI p) l6 l7 l8 l11 (nI i) τ = kp_M_judge_189 (nI p) l6 l7 l8 y (if l6 = 1 then 1 else 0) τ ∧ ((y = l11 ∧ ∀ j, i ≤ j → j < c → ¬ τ 16 (18 * p + 3 * j) = l7) ∨ ∃ j, i ≤ j ∧ j < c ∧ τ 16 (18 * p + 3 * j) = l7 ∧ y = nI j) := by
  have hb : ¬ (nI p < 0 ∨ 4 ≤ (nI p).toNatClampNeg) := kn_in (by omega) (by omega)
  intro m
  induction m with
  | zero =>
    intro i f l11 him hf
    obtain ⟨f, rfl⟩ := Nat.exists_eq_add_one_of_ne_zero (Nat.ne_of_gt hf)
    refine ⟨l11, ?_, Or.inl ⟨rfl, fun j h1 h2 => absurd h2 (by omega)⟩⟩
    show kp_M_judge_133b (kp_M_judge_133 f) (nI p) l6 l7 l8 l11 (nI i) τ = _
    unfold kp_M_judge_133b
    rw [if_neg hb, kn_cl (by omega), hc, if_pos (kn_leR (by omega) (by omega))]
    by_cases h : l6 = 1
    · rw [if_pos h, if_pos h]
    · rw [if_neg h, if_neg h]
  | succ m ih =>
    intro i f l11 him hf
    obtain ⟨f, rfl⟩ := Nat.exists_eq_add_one_of_ne_zero (show ¬ f = 0 by omega)
    have e : kp_M_judge_133 (f + 1) (nI p) l6 l7 l8 l11 (nI i) τ = if τ 16 (18 * p + 3 * i) = l7 then kp_M_judge_133 f (nI p) l6 l7 l8 (nI i) (nI (i + 1)) τ else kp_M_judge_133 f (nI p) l6 l7 l8 l11 (nI (i + 1)) τ := by
      show kp_M_judge_133b (kp_M_judge_133 f) (nI p) l6 l7 l8 l11 (nI i) τ = _
      unfold kp_M_judge_133b kp_M_judge_170
      have hb2 : ¬ (nI (18 * p + 3 * i) < 0 ∨ 72 ≤ (nI (18 * p + 3 * i)).toNatClampNeg) := kn_in (by omega) (by omega)
      rw [if_neg hb, kn_cl (by omega), hc, if_neg (show ¬ nI c ≤ nI i from fun z => by have := (kn_le (by omega) (by omega)).mp z; omega), km_i3, if_neg hb2, kn_cl (by omega), kn_succ]
    rw [e]
    by_cases h : τ 16 (18 * p + 3 * i) = l7
    · rw [if_pos h]
      obtain ⟨y, h1, h2⟩ := ih (i + 1) f (nI i) (by omega) (by omega)
      refine ⟨y, h1, Or.inr ?_⟩
      rcases h2 with ⟨h2, _⟩ | ⟨j, h2, h3, h4, h5⟩
      · exact ⟨i, by omega, by omega, h, h2⟩
      · exact ⟨j, by omega, h3, h4, h5⟩
    · rw [if_neg h]
      obtain ⟨y, h1, h2⟩ := ih (i + 1) f l11 (by omega) (by omega)
      refine ⟨y, h1, ?_⟩
      rcases h2 with ⟨h2, h3⟩ | ⟨j, h2, h3, h4, h5⟩
      · refine Or.inl ⟨h2, fun j h4 h5 => ?_⟩
        by_cases h6 : j = i
        · rw [h6]; exact h
        · exact h3 j (by omega) h5
      · exact Or.inr ⟨j, by omega, h3, h4, h5⟩
