/-! What both have kept under a key. -/
theorem km_find_loop {τ : kt_S} {P : Nat} {K : Nat → Nat} (h30 : τ 0 30 = nI P) (hP : P ≤ 24) (hK : ∀ j, j < P → τ 10 j = nI (K j) ∧ K j < 2147483648) {x : Nat} (hx : x < 2147483648) : ∀ m i f, i + m = P → m < f → (∃ j, i ≤ j ∧ j < P ∧ K j = x ∧ kp_M_find_2 f (nI x) (nI i) τ = some (nI j, τ)) ∨ ((∀ j, i ≤ j → j < P → ¬ K j = x) ∧ kp_M_find_2 f (nI x) (nI i) τ = some (-1, τ)) := by
  intro m
  induction m with
  | zero =>
    intro i f hi hf
    obtain ⟨f, rfl⟩ := Nat.exists_eq_add_one_of_ne_zero (Nat.ne_of_gt hf)
    refine Or.inr ⟨fun j h1 h2 => absurd h2 (by omega), ?_⟩
    show kp_M_find_2b (kp_M_find_2 f) _ _ _ = _
    unfold kp_M_find_2b
    rw [h30, if_pos (kn_leR (by omega) (by omega))]
  | succ m ih =>
    intro i f hi hf
    obtain ⟨f, rfl⟩ := Nat.exists_eq_add_one_of_ne_zero (show ¬ f = 0 by omega)
    obtain ⟨k1, k2⟩ := hK i (by omega)
    have e : kp_M_find_2 (f + 1) (nI x) (nI i) τ = if K i = x then some (nI i, τ) else kp_M_find_2 f (nI x) (nI (i + 1)) τ := by
      show kp_M_find_2b (kp_M_find_2 f) _ _ _ = _
      unfold kp_M_find_2b
      rw [h30, if_neg (show ¬ nI P ≤ nI i from fun z => by have := (kn_le (by omega) (by omega)).mp z; omega), if_neg (kn_in (by omega) (by omega)), kn_cl (by omega), k1, kn_succ]
      by_cases z : K i = x
      · rw [if_pos z, if_pos (by rw [z])]
      · rw [if_neg z, if_neg (fun y => z ((kn_eq k2 hx).mp y))]
    rw [e]
    by_cases z : K i = x
    · exact Or.inl ⟨i, by omega, by omega, z, if_pos z⟩
    · rw [if_neg z]
      rcases ih (i + 1) f (by omega) (by omega) with ⟨j, h1, h2, h3, h4⟩ | ⟨h1, h2⟩
      · exact Or.inl ⟨j, by omega, h2, h3, h4⟩
      · refine Or.inr ⟨fun j h3 h4 => ?_, h2⟩
        by_cases y : j = i
        · rw [y]; exact z
        · exact h1 j (by omega) h4
/-- a request that both have parsed -/
def kRq (B : Nat → Nat) (k : Nat) (σ τ : kt_S) : Prop := ∃ (P : Nat) (K : Nat → Nat), τ 0 30 = nI P ∧ P ≤ 24 ∧ kPr B k P K σ τ
/-- a key that is there, and one that is not -/
def kQy (B : Nat → Nat) (k : Nat) (σ τ : kt_S) (x : Nat) : Prop := ∃ j, j < 24 ∧ kp_M_find (nI x) τ = some (nI j, τ) ∧ kp_R_has (nI x) σ = some (1, σ) ∧ kp_M_there (nI x) τ = some (1, τ) ∧ kEn B k (τ 11 j) (τ 12 j) (τ 13 j) (τ 14 j) (σ 9 x) (σ 10 x) (σ 11 x)
def kQn (σ τ : kt_S) (x : Nat) : Prop := kp_M_find (nI x) τ = some (-1, τ) ∧ kp_R_has (nI x) σ = some (0, σ) ∧ kp_M_there (nI x) τ = some (0, τ)
theorem kQ_key {B : Nat → Nat} {k : Nat} {σ τ : kt_S} (H : kRq B k σ τ) {x : Nat} (hx : x ≤ 8) : kQy B k σ τ x ∨ kQn σ τ x := by
  obtain ⟨P, K, h30, hP, h1, h2, h3⟩ := H
  have hh : kp_R_has (nI x) σ = if σ 9 x = -1 then some (0, σ) else some (1, σ) := by
    unfold kp_R_has kp_R_has_0 kp_R_has_24 kp_R_has_25
    rw [if_neg (kn_nn (by omega)), if_neg (show ¬ (8 : Int32) < nI x from kn_geL (a := 8) (by omega) hx (by omega)), if_neg (kn_in (by omega) (by omega)), kn_cl (by omega), if_pos ki_b0, if_pos ki_b1]
  have hf := km_find_loop h30 hP h1 (x := x) (by omega) P 0 100 (by omega) (by omega)
  rcases h3 x hx with ⟨j, g1, g2, g3⟩ | ⟨g1, g2⟩
  · rcases hf with ⟨j', f1, f2, f3, f4⟩ | ⟨f1, _⟩
    · have hj : j' = j := by
        rcases Nat.lt_trichotomy j' j with z | z | z
        · have := h2 j' j z g1
          omega
        · exact z
        · have := h2 j j' z f2
          omega
      subst hj
      have f4' : kp_M_find (nI x) τ = some (nI j', τ) := f4
      refine Or.inl ⟨j', by omega, f4', ?_, ?_, g3⟩
      · rw [hh]
        have hne : ¬ σ 9 x = -1 := by
          obtain ⟨Mj, w, p, _, _, _, b4, _, _, b7⟩ := g3
          have hc : ∃ c : Nat, c < 9 ∧ σ 9 x = nI c := by
            rcases b7 with ⟨_, ⟨y, _⟩ | ⟨y, _⟩⟩ | ⟨_, y⟩ | ⟨_, y, _⟩ | ⟨_, _, _, _, y, _⟩
            · exact ⟨4, by omega, y⟩
            · exact ⟨8, by omega, y⟩
            · exact ⟨5, by omega, y⟩
            · exact ⟨Mj, by omega, y⟩
            · exact ⟨Mj, by omega, y⟩
          obtain ⟨c, c1, c2⟩ := hc
          rw [c2]
          exact kv_m1 (by omega)
        rw [if_neg hne]
      · unfold kp_M_there kp_M_there_0 kp_M_there_13
        rw [f4', kt_bs]
        dsimp only
        rw [if_neg (kn_nn (by omega)), if_pos ki_b1]
    · exact absurd g2 (f1 j (by omega) g1)
  · rcases hf with ⟨j', f1, f2, f3, f4⟩ | ⟨_, f2⟩
    · exact absurd f3 (g1 j' f2)
    · have f2' : kp_M_find (nI x) τ = some (-1, τ) := f2
      refine Or.inr ⟨f2', by rw [hh, if_pos g2], ?_⟩
      unfold kp_M_there kp_M_there_0 kp_M_there_13
      rw [f2', kt_bs]
      dsimp only
      rw [if_pos (by decide), if_pos ki_b0]
/-- whether it is of the type that is due -/
theorem kQ_is {B : Nat → Nat} {k : Nat} {σ τ : kt_S} {x due : Nat} (hd : due = 0 ∨ due = 3 ∨ due = 4) (h : kQy B k σ τ x) : (σ 9 x = nI due ∧ kp_M_is (nI x) (nI due) τ = some (1, τ)) ∨ (¬ σ 9 x = nI due ∧ kp_M_is (nI x) (nI due) τ = some (0, τ)) := by
  obtain ⟨j, hj, f1, f2, f3, Mj, w, p, b1, b2, b3, b4, b5, b6, b7⟩ := h
  have e : kp_M_is (nI x) (nI due) τ = if Mj = due then (if due = 4 then (if τ 14 j = 0 then some (0, τ) else some (1, τ)) else some (1, τ)) else some (0, τ) := by
    unfold kp_M_is kp_M_is_0 kp_M_is_34 kp_M_is_38 kp_M_is_39
    rw [f1, kt_bs]
    dsimp only
    rw [if_neg (kn_nn (by omega)), if_neg (kn_in (by omega) (by omega)), if_neg (kn_in (by omega) (by omega)), kn_cl (by omega), if_pos ki_b0, if_pos ki_b1]
    by_cases z : Mj = due
    · rw [if_pos z, if_pos (show τ 11 j = nI due by rw [b1, z])]
      by_cases y : due = 4
      · rw [if_pos y, if_pos (show nI due = 4 by rw [y]; rfl)]
      · rw [if_neg y, if_neg (show ¬ nI due = 4 from fun u => y ((kn_eqL 4 (by omega) (by omega)).mp u))]
    · rw [if_neg z, if_neg (show ¬ τ 11 j = nI due from fun u => z ((kn_eq (by omega) (by omega)).mp (b1.symm.trans u)))]
  have ne : ∀ c : Nat, c < 9 → ¬ c = due → ¬ nI c = nI due := fun c hc h u => h ((kn_eq (by omega) (by omega)).mp u)
  rw [e]
  rcases b7 with ⟨y0, ⟨y1, y2, _⟩ | ⟨y1, y2⟩⟩ | ⟨y0, y1⟩ | ⟨y0, y1, _⟩ | ⟨y0, y0', y0'', y0''', y1, _⟩
  · rw [y1, y2]
    by_cases z : Mj = due
    · rw [if_pos z, if_pos (by omega), if_neg ki_10]
      exact Or.inl ⟨by rw [show due = 4 by omega], rfl⟩
    · rw [if_neg z]
      exact Or.inr ⟨ne 4 (by omega) (by omega), rfl⟩
  · rw [y1, y2]
    refine Or.inr ⟨ne 8 (by omega) (by omega), ?_⟩
    by_cases z : Mj = due
    · rw [if_pos z, if_pos (by omega), if_pos rfl]
    · rw [if_neg z]
  · rw [y1, if_neg (by omega)]
    exact Or.inr ⟨ne 5 (by omega) (by omega), rfl⟩
  · rw [y1]
    by_cases z : Mj = due
    · rw [if_pos z, if_neg (by omega), z]
      exact Or.inl ⟨rfl, rfl⟩
    · rw [if_neg z]
      exact Or.inr ⟨ne Mj (by omega) z, rfl⟩
  · rw [y1]
    by_cases z : Mj = due
    · rw [if_pos z, if_neg (by omega), z]
      exact Or.inl ⟨rfl, rfl⟩
    · rw [if_neg z]
      exact Or.inr ⟨ne Mj (by omega) z, rfl⟩
theorem kQ_isn {σ τ : kt_S} {x due : Nat} (h : kQn σ τ x) : kp_M_is (nI x) (nI due) τ = some (1, τ) := by
  unfold kp_M_is kp_M_is_0 kp_M_is_34 kp_M_is_38 kp_M_is_39
  rw [h.1, kt_bs]
  dsimp only
  rw [if_pos (by decide), if_pos ki_b1]
/-- a number, or a text's length -/
theorem kQ_num {B : Nat → Nat} {k : Nat} {σ τ : kt_S} {x due : Nat} (hx : x ≤ 8) (hd : due = 0 ∨ due = 3) (h : kQy B k σ τ x) (hk : σ 9 x = nI due) : ∃ w : Nat, w < 2147483648 ∧ kp_R_numberOf (nI x) σ = some (nI w, σ) ∧ kp_M_get (nI x) τ = some (nI w, τ) := by
  obtain ⟨j, hj, f1, f2, f3, Mj, w, p, b1, b2, b3, b4, b5, b6, b7⟩ := h
  have hn : σ 10 x = nI w := by
    have ne : ∀ c : Nat, c < 9 → σ 9 x = nI c → c = due := fun c hc h => by
      rw [hk] at h
      exact ((kn_eq (by omega) (by omega)).mp h).symm
    rcases b7 with ⟨y0, ⟨y1, _⟩ | ⟨y1, _⟩⟩ | ⟨y0, y1⟩ | ⟨y0, y1, y2, _⟩ | ⟨_, _, _, _, y1, y2⟩
    · have := ne 4 (by omega) y1
      omega
    · have := ne 8 (by omega) y1
      omega
    · have := ne 5 (by omega) y1
      omega
    · exact y2
    · exact y2
  refine ⟨w, b5, ?_, ?_⟩
  · unfold kp_R_numberOf kp_R_numberOf_0 kp_R_numberOf_18
    rw [f2, kt_bs]
    dsimp only
    rw [if_neg ki_10, if_neg (kn_in (by omega) (by omega)), kn_cl (by omega), hn]
  · unfold kp_M_get kp_M_get_0
    rw [f1, kt_bs]
    dsimp only
    rw [if_neg (kn_in (by omega) (by omega)), kn_cl (by omega), b2]
