/-! Strings are passed alike. -/
def kTx (B : Nat → Nat) (a i v : Nat) : Prop := ∀ j, i ≤ j → j < v → 32 ≤ B (a + j) ∧ B (a + j) ≤ 126
def kSt (B : Nat → Nat) (k a M v : Nat) : Prop := a + v ≤ k ∧ (M = 3 → kTx B a 0 v)
theorem kR_text {B : Nat → Nat} {σ : kt_S} (hB : kBy B (σ 8)) {a v : Nat} (hav : a + v ≤ 48) : ∀ m i f, i + m = v → m < f → (kTx B a i v ∧ kp_R_passBytes_41 f (nI (a + i)) (kc σ (nI (a + v)) 3 (nI v)) = some (1, kc σ (nI (a + v)) 3 (nI v))) ∨ (¬ kTx B a i v ∧ kp_R_passBytes_41 f (nI (a + i)) (kc σ (nI (a + v)) 3 (nI v)) = some (0, kc σ (nI (a + v)) 3 (nI v))) := by
  intro m
  induction m with
  | zero =>
    intro i f hi hf
    obtain ⟨f, rfl⟩ := Nat.exists_eq_add_one_of_ne_zero (Nat.ne_of_gt hf)
    refine Or.inl ⟨fun j h1 h2 => absurd h2 (by omega), ?_⟩
    show kp_R_passBytes_41b (kp_R_passBytes_41 f) _ _ = _
    unfold kp_R_passBytes_41b kp_R_passBytes_93
    have e4 : kc σ (nI (a + v)) 3 (nI v) 6 4 = nI (a + v) := rfl
    rw [e4, if_pos (kn_leR (by omega) (by omega))]
  | succ m ih =>
    intro i f hi hf
    obtain ⟨f, rfl⟩ := Nat.exists_eq_add_one_of_ne_zero (show ¬ f = 0 by omega)
    have e4 : kc σ (nI (a + v)) 3 (nI v) 6 4 = nI (a + v) := rfl
    have e5 : kc σ (nI (a + v)) 3 (nI v) 6 5 = 3 := rfl
    have e8 : kc σ (nI (a + v)) 3 (nI v) 8 (a + i) = nI (B (a + i)) := hB.2 (a + i) (by omega)
    have hb := hB.1 (a + i)
    have e : kp_R_passBytes_41 (f + 1) (nI (a + i)) (kc σ (nI (a + v)) 3 (nI v)) = if 32 ≤ B (a + i) ∧ B (a + i) ≤ 126 then kp_R_passBytes_41 f (nI (a + (i + 1))) (kc σ (nI (a + v)) 3 (nI v)) else some (0, kc σ (nI (a + v)) 3 (nI v)) := by
      show kp_R_passBytes_41b (kp_R_passBytes_41 f) _ _ = _
      unfold kp_R_passBytes_41b kp_R_passBytes_93 kp_R_passBytes_85
      rw [e4, e5, if_neg (show ¬ nI (a + v) ≤ nI (a + i) from fun z => by have := (kn_le (by omega) (by omega)).mp z; omega), if_pos rfl, if_neg (kn_in (by omega) (by omega)), if_neg (kn_in (by omega) (by omega)), kn_cl (by omega), e8, kn_succ]
      by_cases h1 : 32 ≤ B (a + i)
      · rw [if_neg (show ¬ nI (B (a + i)) < 32 from kn_geL (a := B (a + i)) (b := 32) (by omega) h1 (by omega))]
        by_cases h2 : B (a + i) ≤ 126
        · rw [if_pos (show nI (B (a + i)) ≤ 126 from kn_leR (b := 126) (by omega) h2), if_pos ⟨h1, h2⟩]
          rfl
        · rw [if_neg (show ¬ nI (B (a + i)) ≤ 126 from fun z => by have := (kn_le (b := 126) (by omega) (by omega)).mp z; omega), if_neg (fun z => h2 z.2)]
      · rw [if_pos (show nI (B (a + i)) < 32 from (kn_lt (b := 32) (by omega) (by omega)).mpr (by omega)), if_neg (fun z => h1 z.1)]
    rw [e]
    by_cases h : 32 ≤ B (a + i) ∧ B (a + i) ≤ 126
    · rw [if_pos h]
      rcases ih (i + 1) f (by omega) (by omega) with ⟨g1, g2⟩ | ⟨g1, g2⟩
      · refine Or.inl ⟨fun j h1 h2 => ?_, g2⟩
        by_cases z : j = i
        · rw [z]; exact h
        · exact g1 j (by omega) h2
      · exact Or.inr ⟨fun z => g1 (fun j h1 h2 => z j (by omega) h2), g2⟩
    · rw [if_neg h]
      exact Or.inr ⟨fun z => h (z i (by omega) (by omega)), rfl⟩
theorem kR_pass {B : Nat → Nat} {σ : kt_S} (hB : kBy B (σ 8)) {k a M v : Nat} (hk : σ 7 2 = nI k) (hk48 : k ≤ 48) (ha : a ≤ k) (hM : M = 2 ∨ M = 3) (hv : v < 2147483648) : (kSt B k a M v ∧ kp_R_passBytes (kc σ (nI a) (nI M) (nI v)) = some (1, kc σ (nI (a + v)) (nI M) (nI v))) ∨ (¬ kSt B k a M v ∧ ∃ a' M' v' : Int32, kp_R_passBytes (kc σ (nI a) (nI M) (nI v)) = some (0, kc σ a' M' v')) := by
  have e4 : kc σ (nI a) (nI M) (nI v) 6 4 = nI a := rfl
  have e6 : kc σ (nI a) (nI M) (nI v) 6 6 = nI v := rfl
  have e7 : kc σ (nI a) (nI M) (nI v) 7 2 = nI k := hk
  unfold kSt kp_R_passBytes kp_R_passBytes_0
  rw [e4, e6, e7, kn_sub ha]
  by_cases h : a + v ≤ k
  · rw [if_pos (show nI v ≤ nI (k - a) from kn_leR (by omega) (by omega)), kn_add, kc_at]
    rcases hM with rfl | rfl
    · refine Or.inl ⟨⟨h, fun z => absurd z (by omega)⟩, ?_⟩
      have : ∀ f, kp_R_passBytes_41 (f + 1) (nI a) (kc σ (nI (a + v)) (nI 2) (nI v)) = some (1, kc σ (nI (a + v)) (nI 2) (nI v)) := fun f => by
        show kp_R_passBytes_41b (kp_R_passBytes_41 f) _ _ = _
        unfold kp_R_passBytes_41b kp_R_passBytes_93
        have e5 : kc σ (nI (a + v)) (nI 2) (nI v) 6 5 = nI 2 := rfl
        rw [e5, if_neg (show ¬ nI 2 = 3 by decide), ite_self]
      exact this 99
    · have hl := kR_text hB (a := a) (v := v) (by omega) v 0 100 (by omega) (by omega)
      rw [Nat.add_zero] at hl
      rcases hl with ⟨g1, g2⟩ | ⟨g1, g2⟩
      · exact Or.inl ⟨⟨h, fun _ => g1⟩, g2⟩
      · exact Or.inr ⟨fun z => g1 (z.2 rfl), _, _, _, g2⟩
  · rw [if_neg (show ¬ nI v ≤ nI (k - a) from fun z => by have := (kn_le (by omega) (by omega)).mp z; omega)]
    exact Or.inr ⟨fun z => h z.1, _, _, _, rfl⟩
theorem km_text0 {τ : kt_S} {a v : Nat} {M : Int32} (hv : v ≤ 48) : ∀ m i f, i + m = v → m < f → kp_M_string_22 f 0 (nI i) (kd τ (nI a) M (nI v) 0) = some (0, kd τ (nI a) M (nI v) 0) := by
  intro m
  induction m with
  | zero =>
    intro i f hi hf
    obtain ⟨f, rfl⟩ := Nat.exists_eq_add_one_of_ne_zero (Nat.ne_of_gt hf)
    show kp_M_string_22b (kp_M_string_22 f) _ _ _ = _
    unfold kp_M_string_22b kp_M_string_86
    have e24 : kd τ (nI a) M (nI v) 0 0 24 = nI v := rfl
    rw [e24, if_pos (kn_leR (by omega) (by omega)), if_pos ki_b0]
  | succ m ih =>
    intro i f hi hf
    obtain ⟨f, rfl⟩ := Nat.exists_eq_add_one_of_ne_zero (show ¬ f = 0 by omega)
    show kp_M_string_22b (kp_M_string_22 f) _ _ _ = _
    unfold kp_M_string_22b kp_M_string_86 kp_M_string_78 kp_M_string_79
    have e24 : kd τ (nI a) M (nI v) 0 0 24 = nI v := rfl
    rw [e24, if_neg (show ¬ nI v ≤ nI i from fun z => by have := (kn_le (by omega) (by omega)).mp z; omega), if_pos (show (0 : Int32) = 0 from rfl), if_pos ki_b0, kn_succ, ih (i + 1) f (by omega) (by omega), ite_self]
theorem km_text {B : Nat → Nat} {τ : kt_S} (hB : kBy B (τ 2)) {a v : Nat} (hav : a + v ≤ 48) : ∀ m i f, i + m = v → m < f → (kTx B a i v ∧ kp_M_string_22 f 1 (nI i) (kd τ (nI a) 3 (nI v) 0) = some (1, kd τ (nI a) 3 (nI v) 0)) ∨ (¬ kTx B a i v ∧ kp_M_string_22 f 1 (nI i) (kd τ (nI a) 3 (nI v) 0) = some (0, kd τ (nI a) 3 (nI v) 0)) := by
  intro m
  induction m with
  | zero =>
    intro i f hi hf
    obtain ⟨f, rfl⟩ := Nat.exists_eq_add_one_of_ne_zero (Nat.ne_of_gt hf)
    refine Or.inl ⟨fun j h1 h2 => absurd h2 (by omega), ?_⟩
    show kp_M_string_22b (kp_M_string_22 f) _ _ _ = _
    unfold kp_M_string_22b kp_M_string_86
    have e24 : kd τ (nI a) 3 (nI v) 0 0 24 = nI v := rfl
    rw [e24, if_pos (kn_leR (by omega) (by omega)), if_pos ki_b1]
  | succ m ih =>
    intro i f hi hf
    obtain ⟨f, rfl⟩ := Nat.exists_eq_add_one_of_ne_zero (show ¬ f = 0 by omega)
    have e24 : kd τ (nI a) 3 (nI v) 0 0 24 = nI v := rfl
    have e23 : kd τ (nI a) 3 (nI v) 0 0 23 = 3 := rfl
    have e22 : kd τ (nI a) 3 (nI v) 0 0 22 = nI a := rfl
    have e2 : kd τ (nI a) 3 (nI v) 0 2 (a + i) = nI (B (a + i)) := hB.2 (a + i) (by omega)
    have hb := hB.1 (a + i)
    have h0 := km_text0 (τ := τ) (a := a) (v := v) (M := 3) (by omega) m (i + 1) f (by omega) (by omega)
    have e : kp_M_string_22 (f + 1) 1 (nI i) (kd τ (nI a) 3 (nI v) 0) = if 32 ≤ B (a + i) ∧ B (a + i) ≤ 126 then kp_M_string_22 f 1 (nI (i + 1)) (kd τ (nI a) 3 (nI v) 0) else some (0, kd τ (nI a) 3 (nI v) 0) := by
      show kp_M_string_22b (kp_M_string_22 f) _ _ _ = _
      unfold kp_M_string_22b kp_M_string_78 kp_M_string_79
      rw [e24, e23, e22, if_neg (show ¬ nI v ≤ nI i from fun z => by have := (kn_le (by omega) (by omega)).mp z; omega), if_pos rfl, if_neg ki_10, kn_add, if_neg (kn_in (by omega) (by omega)), if_neg (kn_in (by omega) (by omega)), kn_cl (by omega), e2, kn_succ, h0]
      by_cases h1 : 32 ≤ B (a + i)
      · rw [if_neg (show ¬ nI (B (a + i)) ≤ 31 from fun z => by have := (kn_le (b := 31) (by omega) (by omega)).mp z; omega)]
        by_cases h2 : B (a + i) ≤ 126
        · rw [if_neg (show ¬ (127 : Int32) ≤ nI (B (a + i)) from fun z => by have := (kn_le (a := 127) (by omega) (by omega)).mp z; omega), if_pos ⟨h1, h2⟩]
        · rw [if_pos (show (127 : Int32) ≤ nI (B (a + i)) from kn_leR (a := 127) (by omega) (by omega)), if_neg (fun z => h2 z.2)]
      · rw [if_pos (show nI (B (a + i)) ≤ 31 from kn_leR (b := 31) (by omega) (by omega)), if_neg (fun z => h1 z.1)]
    rw [e]
    by_cases h : 32 ≤ B (a + i) ∧ B (a + i) ≤ 126
    · rw [if_pos h]
      rcases ih (i + 1) f (by omega) (by omega) with ⟨g1, g2⟩ | ⟨g1, g2⟩
      · refine Or.inl ⟨fun j h1 h2 => ?_, g2⟩
        by_cases z : j = i
        · rw [z]; exact h
        · exact g1 j (by omega) h2
      · exact Or.inr ⟨fun z => g1 (fun j h1 h2 => z j (by omega) h2), g2⟩
    · rw [if_neg h]
      exact Or.inr ⟨fun z => h (z i (by omega) (by omega)), rfl⟩
theorem km_pass {B : Nat → Nat} {τ : kt_S} (hB : kBy B (τ 2)) {k a M v : Nat} (hk : τ 0 10 = nI k) (hk48 : k ≤ 48) (ha : a ≤ k) (hM : M = 2 ∨ M = 3) (hv : v < 2147483648) : (kSt B k a M v ∧ kp_M_string (kd τ (nI a) (nI M) (nI v) 0) = some (1, kd τ (nI a) (nI M) (nI v) 0)) ∨ (¬ kSt B k a M v ∧ kp_M_string (kd τ (nI a) (nI M) (nI v) 0) = some (0, kd τ (nI a) (nI M) (nI v) 0)) := by
  have e22 : kd τ (nI a) (nI M) (nI v) 0 0 22 = nI a := rfl
  have e24 : kd τ (nI a) (nI M) (nI v) 0 0 24 = nI v := rfl
  have e10 : kd τ (nI a) (nI M) (nI v) 0 0 10 = nI k := hk
  unfold kSt kp_M_string kp_M_string_0
  rw [e22, e24, e10, kn_sub ha]
  by_cases h : a + v ≤ k
  · rw [if_pos (show nI v ≤ nI (k - a) from kn_leR (by omega) (by omega))]
    rcases hM with rfl | rfl
    · refine Or.inl ⟨⟨h, fun z => absurd z (by omega)⟩, ?_⟩
      have : ∀ f, kp_M_string_22 (f + 1) 1 0 (kd τ (nI a) (nI 2) (nI v) 0) = some (1, kd τ (nI a) (nI 2) (nI v) 0) := fun f => by
        show kp_M_string_22b (kp_M_string_22 f) _ _ _ = _
        unfold kp_M_string_22b kp_M_string_86
        have e23 : kd τ (nI a) (nI 2) (nI v) 0 0 23 = nI 2 := rfl
        rw [e23, if_neg (show ¬ nI 2 = 3 by decide), if_pos ki_b1, ite_self]
      exact this 99
    · have hl := km_text hB (a := a) (v := v) (by omega) v 0 100 (by omega) (by omega)
      rcases hl with ⟨g1, g2⟩ | ⟨g1, g2⟩
      · exact Or.inl ⟨⟨h, fun _ => g1⟩, g2⟩
      · exact Or.inr ⟨fun z => g1 (z.2 rfl), g2⟩
  · rw [if_neg (show ¬ nI v ≤ nI (k - a) from fun z => by have := (kn_le (by omega) (by omega)).mp z; omega)]
    exact Or.inr ⟨fun z => h z.1, rfl⟩
