/-! A request is parsed alike. -/
def kFk (σ : kt_S) (k : Nat) : kt_S := fun q => if q = 0 then (fun f => if f = 10 then nI k else 0) else if q = 2 then σ 8 else if q = 7 then (fun _ => nI 1) else fun _ => 0
theorem kR_listTot {B : Nat → Nat} {k : Nat} {gI : Int32 → kt_S → Option (Int32 × kt_S)} (hI : kI1 B k gI) : ∀ (r : Nat) (σ : kt_S) (a i cnt f : Nat) (l3 l4 M v : Int32), k - a ≤ r → r < f → σ 7 2 = nI k → kBy B (σ 8) → a ≤ k → i ≤ cnt → cnt < 2147483648 → ∃ kd0 a' M' v' : Int32, kp_R_readList_8 gI f (nI cnt) (nI 1) l3 l4 (nI i) (kc σ (nI a) M v) = some (kd0, kc σ a' M' v') ∧ (kd0 = -2 ∨ kd0 = l3 ∨ kd0 = 8) := by
  intro r
  induction r with
  | zero =>
    intro σ a i cnt f l3 l4 M v hr hf hs hB ha hi hcnt
    obtain ⟨f, rfl⟩ := Nat.exists_eq_add_one_of_ne_zero (Nat.ne_of_gt hf)
    by_cases hic : i = cnt
    · subst hic
      refine ⟨l3, nI a, M, l4, ?_, Or.inr (Or.inl rfl)⟩
      show kp_R_readList_8b gI (kp_R_readList_8 gI f) _ _ _ _ _ _ = _
      unfold kp_R_readList_8b
      rw [if_pos (kn_leR (by omega) (by omega)), kc_nu]
    · rcases hI σ (kFk σ k) a 0 0 M v 0 0 hs hB rfl hB ha rfl (by omega) (Or.inl rfl) rfl (by omega) with ⟨a', kd', num, M', g1, g2, g3, _⟩ | ⟨⟨a', M', v', g1⟩, _⟩
      · omega
      · refine ⟨-2, a', M', v', ?_, Or.inl rfl⟩
        show kp_R_readList_8b gI (kp_R_readList_8 gI f) _ _ _ _ _ _ = _
        unfold kp_R_readList_8b
        rw [if_neg (show ¬ nI cnt ≤ nI i from fun z => by have := (kn_le (by omega) (by omega)).mp z; omega), g1, kt_bs]
        exact if_pos rfl
  | succ r ih =>
    intro σ a i cnt f l3 l4 M v hr hf hs hB ha hi hcnt
    obtain ⟨f, rfl⟩ := Nat.exists_eq_add_one_of_ne_zero (show ¬ f = 0 by omega)
    by_cases hic : i = cnt
    · subst hic
      refine ⟨l3, nI a, M, l4, ?_, Or.inr (Or.inl rfl)⟩
      show kp_R_readList_8b gI (kp_R_readList_8 gI f) _ _ _ _ _ _ = _
      unfold kp_R_readList_8b
      rw [if_pos (kn_leR (by omega) (by omega)), kc_nu]
    · have hnle : ¬ nI cnt ≤ nI i := fun z => by have := (kn_le (by omega) (by omega)).mp z; omega
      rcases hI σ (kFk σ k) a 0 0 M v 0 0 hs hB rfl hB ha rfl (by omega) (Or.inl rfl) rfl (by omega) with ⟨a', kd', num, M', g1, g2, g3, g4, _⟩ | ⟨⟨a', M', v', g1⟩, _⟩
      · have hone : ∃ l3' l4' : Int32, kp_R_readList_8 gI (f + 1) (nI cnt) (nI 1) l3 l4 (nI i) (kc σ (nI a) M v) = kp_R_readList_8 gI f (nI cnt) (nI 1) l3' l4' (nI (i + 1)) (kc σ (nI a') M' (nI num)) ∧ (l3' = l3 ∨ l3' = 8) := by
          have e : kp_R_readList_8 gI (f + 1) (nI cnt) (nI 1) l3 l4 (nI i) (kc σ (nI a) M v) = _ := (rfl : _ = kp_R_readList_8b gI (kp_R_readList_8 gI f) (nI cnt) (nI 1) l3 l4 (nI i) (kc σ (nI a) M v))
          rw [e]
          unfold kp_R_readList_8b kp_R_readList_62
          rw [if_neg hnle, g1, kt_bs]
          dsimp only
          rw [if_neg (kn_m2 (by omega)), kn_succ]
          by_cases z : nI kd' = 0
          · rw [if_pos z]
            split
            · exact ⟨l3, l4, rfl, Or.inl rfl⟩
            · exact ⟨l3, _, rfl, Or.inl rfl⟩
          · rw [if_neg z]
            exact ⟨8, l4, rfl, Or.inr rfl⟩
        obtain ⟨l3', l4', n1, n2⟩ := hone
        obtain ⟨kd0, a2, M2, v2, p1, p2⟩ := ih σ a' (i + 1) cnt f l3' l4' M' (nI num) (by omega) (by omega) hs hB (by omega) (by omega) hcnt
        refine ⟨kd0, a2, M2, v2, n1.trans p1, ?_⟩
        rcases p2 with y | y | y
        · exact Or.inl y
        · rcases n2 with z | z
          · exact Or.inr (Or.inl (y.trans z))
          · exact Or.inr (Or.inr (y.trans z))
        · exact Or.inr (Or.inr y)
      · refine ⟨-2, a', M', v', ?_, Or.inl rfl⟩
        show kp_R_readList_8b gI (kp_R_readList_8 gI f) _ _ _ _ _ _ = _
        unfold kp_R_readList_8b
        rw [if_neg hnle, g1, kt_bs]
        exact if_pos rfl
theorem kI1_5 {B : Nat → Nat} {k : Nat} (hk48 : k ≤ 48) : kI1 B k (kp_R_readItem_n 5) := kI1_item (N := 4) hk48 (kIS_item (N := 3) hk48 (Or.inl rfl) (fun _ => kIS_item (N := 2) hk48 (Or.inr rfl) (fun z => absurd z (by omega))))
/-- the outermost item, in the class -/
theorem kR_outer {B : Nat → Nat} {k : Nat} {σ : kt_S} {M v : Int32} (hs : σ 7 2 = nI k) (hB : kBy B (σ 8)) (hk : 1 ≤ k) (hk48 : k ≤ 48) : (∃ a1 v1, kHd B k 1 = some (a1, 5, v1) ∧ kp_R_readItem 0 (kc σ (nI 1) M v) = kp_R_readMap_5 (kp_R_readItem_n 5) 100 (nI v1) (nI 1) (-1) 0 (kc σ (nI a1) (nI 5) (nI v1))) ∨ ((∀ a1 v1, ¬ kHd B k 1 = some (a1, 5, v1)) ∧ ∃ kd0 a' M' v' : Int32, kp_R_readItem 0 (kc σ (nI 1) M v) = some (kd0, kc σ a' M' v') ∧ ¬ kd0 = 5) := by
  have hcl : kp_R_readItem 0 (kc σ (nI 1) M v) = kp_R_readItem_0 (kp_R_readList_0 (kp_R_readItem_n 5)) (kp_R_readMap_0 (kp_R_readItem_n 5)) (nI 0) (kc σ (nI 1) M v) := rfl
  rw [hcl]
  unfold kp_R_readItem_0 kp_R_readItem_26 kp_R_readItem_42 kp_R_readItem_64 kp_R_readItem_105
  rcases kR_head (M := M) (v := v) hB hs hk48 (show 1 ≤ 48 by omega) with ⟨a1, M1, v1, h1, h2⟩ | ⟨h1, a1, M1, v1, h2⟩
  · have hsp := kHd_spec hB.1 h1
    have e5 : kc σ (nI a1) (nI M1) (nI v1) 6 5 = nI M1 := rfl
    have e6 : kc σ (nI a1) (nI M1) (nI v1) 6 6 = nI v1 := rfl
    rw [h2, kt_bs]
    dsimp only
    rw [if_neg ki_10]
    simp only [e5, e6]
    have hno : ¬ M1 = 5 → ∀ a2 v2, ¬ kHd B k 1 = some (a2, 5, v2) := fun hM a2 v2 h => by
      rw [h1] at h
      cases h
      exact hM rfl
    by_cases hs23 : M1 = 2 ∨ M1 = 3
    · have h2or3 : nI M1 = 2 ∨ nI M1 = 3 := by
        rcases hs23 with rfl | rfl
        · exact Or.inl rfl
        · exact Or.inr rfl
      have hK : ∀ (X Y : Option (Int32 × kt_S)), (if nI M1 = 2 then X else if nI M1 = 3 then X else Y) = X := fun X Y => by
        by_cases z : nI M1 = 2
        · rw [if_pos z]
        · rw [if_neg z, if_pos (h2or3.resolve_left z)]
      rw [hK]
      refine Or.inr ⟨hno (by omega), ?_⟩
      rcases kR_pass (v := v1) hB hs hk48 (show a1 ≤ k by omega) hs23 (by omega) with ⟨g1, g2⟩ | ⟨g1, a', M', v', g2⟩
      · refine ⟨nI M1, _, _, _, by rw [g2, kt_bs]; exact if_neg ki_10, fun z => ?_⟩
        have := (kn_eqL 5 (by omega) (by omega)).mp z
        omega
      · exact ⟨-2, _, _, _, by rw [g2, kt_bs]; exact if_pos rfl, by decide⟩
    rw [if_neg (show ¬ nI M1 = 2 from fun z => hs23 (Or.inl ((kn_eqL 2 (by omega) (by omega)).mp z))), if_neg (show ¬ nI M1 = 3 from fun z => hs23 (Or.inr ((kn_eqL 3 (by omega) (by omega)).mp z)))]
    by_cases h5 : M1 = 5
    · subst h5
      rw [if_neg (by decide), if_pos (by decide), if_pos (by decide), if_neg (by decide), km_bind_eta]
      exact Or.inl ⟨a1, v1, h1, rfl⟩
    · refine Or.inr ⟨hno h5, ?_⟩
      by_cases h4 : M1 = 4
      · subst h4
        rw [if_pos (by decide), if_pos (by decide), if_pos (by decide), km_bind_eta]
        obtain ⟨kd0, a', M', v', p1, p2⟩ := kR_listTot (kI1_5 (B := B) hk48) 48 σ a1 0 v1 100 4 0 (nI 4) (nI v1) (by omega) (by omega) hs hB (by omega) (by omega) (by omega)
        refine ⟨kd0, a', M', v', p1, ?_⟩
        rcases p2 with rfl | rfl | rfl <;> decide
      · have n4 : ¬ nI M1 = 4 := fun z => h4 ((kn_eqL 4 (by omega) (by omega)).mp z)
        have n5 : ¬ nI M1 = 5 := fun z => h5 ((kn_eqL 5 (by omega) (by omega)).mp z)
        rw [if_neg n4, if_neg n5]
        exact ⟨nI M1, _, _, _, rfl, n5⟩
  · refine Or.inr ⟨fun a2 v2 h => ?_, -2, _, _, _, by rw [h2, kt_bs]; exact if_pos rfl, by decide⟩
    rw [h1] at h
    cases h
