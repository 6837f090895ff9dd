/-! RESET: all records are dropped alike. -/
theorem kR_drop {σ τ : kt_S} {n Bn : Nat} : ∀ (q p f f' i : Nat) (g : Nat → Int32) (m c w : Int32), p + q = 7 → q < f → q < f' → kv_on g Bn → kv_cont g n → m = nI i → i + q < 999 → kv_cut (τ 0 4) m c →
    (∃ g' m' c' w', kp_S_dropAll_2 f (nI p) (ks_set σ (g, c, w)) = some (1, ks_set σ (g', c', w')) ∧ kp_M_reset_17 f' (nI p) (km_set τ (g, m, w)) = some (0, kt_up (kt_up (km_set τ (g', m', w')) 0 8 0) 0 7 0) ∧ kv_on g' Bn ∧ kv_cont g' n ∧ kv_cut (τ 0 4) m' c' ∧ ∃ i' : Nat, m' = nI i')
    ∨ (∃ g' m' c' w', kp_S_dropAll_2 f (nI p) (ks_set σ (g, c, w)) = some (0, ks_set σ (g', c', w')) ∧ kp_M_reset_17 f' (nI p) (km_set τ (g, m, w)) = some (-1, km_off (km_set τ (g', m', w'))) ∧ kv_on g' Bn ∧ kv_cont g' n) := by
  intro q
  induction q with
  | zero =>
    intro p f f' i g m c w hp hf hf' hon hct hm hi hcut
    obtain ⟨f, rfl⟩ := Nat.exists_eq_add_one_of_ne_zero (Nat.ne_of_gt hf)
    obtain ⟨f', rfl⟩ := Nat.exists_eq_add_one_of_ne_zero (Nat.ne_of_gt hf')
    have hp7 : p = 7 := by omega
    subst hp7
    refine Or.inl ⟨g, m, c, w, ?_, ?_, hon, hct, hcut, i, hm⟩
    · show kp_S_dropAll_2b (kp_S_dropAll_2 f) _ _ = _
      unfold kp_S_dropAll_2b
      rw [if_pos (by decide)]
    · show kp_M_reset_17b (kp_M_reset_17 f') _ _ = _
      unfold kp_M_reset_17b
      rw [if_pos (by decide)]
  | succ q ih =>
    intro p f f' i g m c w hp hf hf' hon hct hm hi hcut
    obtain ⟨f, rfl⟩ := Nat.exists_eq_add_one_of_ne_zero (show ¬ f = 0 by omega)
    obtain ⟨f', rfl⟩ := Nat.exists_eq_add_one_of_ne_zero (show ¬ f' = 0 by omega)
    have hp7 : p < 7 := by omega
    have e3 : ks_set σ (g, c, w) 3 (6 * p) = g (6 * p) := by rw [ks_set3]
    have e1 : km_set τ (g, m, w) 1 = g := km_set1 _ _
    have hE : km_E g p = decide (g (6 * p) = -1) := kv_E (hon.1.1) (hon.1.2 p hp7)
    have eK : kp_S_dropAll_2 (f + 1) (nI p) (ks_set σ (g, c, w)) = if g (6 * p) = -1 then kp_S_dropAll_2 f (nI (p + 1)) (ks_set σ (g, c, w)) else if c = 0 then some (0, ks_set σ (g, c, w)) else kp_S_dropAll_2 f (nI (p + 1)) (ks_set σ (ks_er p g, ka_dec c, w + 1)) := by
      show kp_S_dropAll_2b (kp_S_dropAll_2 f) _ _ = _
      unfold kp_S_dropAll_2b kp_S_dropAll_28
      rw [if_neg (ks_lt7 hp7), ks_read0 p hp7, kt_bs]
      dsimp only
      rw [e3, ks_erase p hp7, kn_succ]
      by_cases z : g (6 * p) = -1
      · rw [if_pos z, if_pos z]
      · rw [if_neg z, if_neg z]
        by_cases y : c = 0
        · rw [if_pos y, if_pos y, kt_bs]
          exact if_pos rfl
        · rw [if_neg y, if_neg y, kt_bs]
          exact if_neg ki_10
    have eM : kp_M_reset_17 (f' + 1) (nI p) (km_set τ (g, m, w)) = if g (6 * p) = -1 then kp_M_reset_17 f' (nI (p + 1)) (km_set τ (g, m, w)) else if m = τ 0 4 then some (-1, km_off (km_set τ (g, m, w))) else kp_M_reset_17 f' (nI (p + 1)) (km_set τ (ks_er p g, m + 1, w + 1)) := by
      show kp_M_reset_17b (kp_M_reset_17 f') _ _ = _
      unfold kp_M_reset_17b kp_M_reset_45
      rw [if_neg (ks_lt7 hp7), km_erased p hp7, kt_bs]
      dsimp only
      rw [e1, hE, km_mayWrite, kn_succ]
      by_cases z : g (6 * p) = -1
      · rw [if_pos z, decide_eq_true z, if_neg (show ¬ kb_i true = 0 by decide)]
      · rw [if_neg z, decide_eq_false z, if_pos (show kb_i false = 0 from rfl)]
        by_cases y : m = τ 0 4
        · rw [if_pos y, if_pos y, kt_bs]
          exact if_pos rfl
        · rw [if_neg y, if_neg y, kt_bs]
          dsimp only
          rw [if_neg ki_10, km_erase' p hp7, kt_bs]
    rw [eK, eM]
    by_cases z : g (6 * p) = -1
    · rw [if_pos z, if_pos z]
      exact ih (p + 1) f f' i g m c w (by omega) (by omega) (by omega) hon hct hm (by omega) hcut
    · rw [if_neg z, if_neg z]
      by_cases y : c = 0
      · rw [if_pos y, if_pos ((kv_cut_zero hcut).mpr y)]
        exact Or.inr ⟨g, m, c, w, rfl, rfl, hon, hct⟩
      · rw [if_neg y, if_neg (fun u => y ((kv_cut_zero hcut).mp u))]
        exact ih (p + 1) f f' (i + 1) (ks_er p g) (m + 1) (ka_dec c) (w + 1) (by omega) (by omega) (by omega) (kv_on_er hp7 hon) (kv_cont_er hct) (by rw [hm, kn_succ]) (by omega) (kv_cut_step (by omega) hm hcut y)
