/-! The items of a list, and the pairs of a map, inside. -/
theorem kMk_nz {e P M M' : Nat} {f : Nat → Int32} (h : ¬ M = 0) (h' : ¬ M' = 0) : kMk e P M f = kMk e P M' f := by
  unfold kMk
  by_cases z : e = 2
  · rw [if_pos ⟨z, h⟩, if_pos ⟨z, h'⟩]
  · rw [if_neg (fun y => z y.1), if_neg (fun y => z y.1)]
theorem kMk_z {e P : Nat} {f : Nat → Int32} : kMk e P 0 f = f := if_neg (fun y => y.2 rfl)
theorem kMk_two {e P M M' : Nat} {f : Nat → Int32} (h : ¬ M = 0) : kMk e P M' (kMk e P M f) = kMk e P M f := by
  by_cases z : e = 2
  · exact kMk_again ⟨z, h⟩
  · unfold kMk
    rw [if_neg (fun y => z y.1), if_neg (fun y => z y.1)]
theorem kn_m2 {n : Nat} (h : n < 2147483648) : ¬ nI n = -2 := fun z => by
  have h1 := kn_nn h
  rw [z] at h1
  exact h1 (by decide)
theorem kR_list {B : Nat → Nat} {k e : Nat} {gI : Int32 → kt_S → Option (Int32 × kt_S)} (hk48 : k ≤ 48) (he : e < 4) (hI : kIS B k e gI) : ∀ (r : Nat) (σ τ : kt_S) (a i cnt P kd0 m f : Nat) (M v M0 v0 : Int32), k - a ≤ r → r < f → σ 7 2 = nI k → kBy B (σ 8) → τ 0 10 = nI k → kBy B (τ 2) → a ≤ k → i ≤ cnt → cnt < 2147483648 → τ 7 e = nI (cnt - i) → τ 6 e = 0 → τ 0 30 = nI P → 1 ≤ P → P ≤ 24 → kd0 < 9 → m < 128 →
    (∃ (a' : Nat) (al : Bool) (m' : Nat) (M' : Int32), kp_R_readList_8 gI f (nI cnt) (nI e) (nI kd0) (nI m) (nI i) (kc σ (nI a) M v) = some (nI (if al then kd0 else 8), kc σ (nI a') M' (nI m')) ∧ a ≤ a' ∧ a' ≤ k ∧ m' < 128 ∧ (al = true → kAl B k (cnt - i) a ∧ ∀ x, x ≤ 6 → m'.testBit x = (m.testBit x || kLs B k (cnt - i) a x)) ∧ ∃ (τ' : kt_S) (M1 v1 : Int32) (cst : Nat), cst ≤ 2 * (a' - a) ∧ (∀ F, kp_M_formed_53 (F + cst) (nI e) (kd τ (nI a) M0 v0 0) = kp_M_formed_53 F (nI e) (kd τ' (nI a') M1 v1 0)) ∧ kFr e τ τ' ∧ τ' 7 e = nI 0 ∧ τ' 14 = kMk e P (if al then 0 else 8) (τ 14))
    ∨ ((∃ a' M' v' : Int32, kp_R_readList_8 gI f (nI cnt) (nI e) (nI kd0) (nI m) (nI i) (kc σ (nI a) M v) = some (-2, kc σ a' M' v')) ∧ ∃ (τ' : kt_S) (cst : Nat), cst ≤ 2 * (k - a) + 2 ∧ (∀ F, kp_M_formed_53 (F + cst) (nI e) (kd τ (nI a) M0 v0 0) = some (0, τ')) ∧ kFb τ τ') := by
  intro r
  induction r with
  | zero =>
    intro σ τ a i cnt P kd0 m f M v M0 v0 hr hf hs hB ht hBt ha hi hcnt h7 h6 h30 hP1 hP hkd hm
    obtain ⟨f, rfl⟩ := Nat.exists_eq_add_one_of_ne_zero (Nat.ne_of_gt hf)
    by_cases hic : i = cnt
    · subst hic
      rw [Nat.sub_self] at h7
      refine Or.inl ⟨a, true, m, M, ?_, by omega, ha, hm, fun _ => by rw [Nat.sub_self]; exact ⟨trivial, fun x _ => by show _ = (m.testBit x || false); rw [Bool.or_false]⟩, τ, M0, v0, 0, by omega, fun F => rfl, kFr_refl e τ, h7, kMk_z.symm⟩
      show kp_R_readList_8b gI (kp_R_readList_8 gI f) _ _ _ _ _ _ = _
      unfold kp_R_readList_8b
      rw [if_pos (kn_leR (by omega) (by omega)), kc_nu]
      rfl
    · rcases hI σ τ a (cnt - i - 1) P M v M0 v0 hs hB ht hBt ha (by rw [h7]; congr 1; omega) (by omega) (Or.inl h6) h30 hP1 hP with ⟨a', kd', num, M', g1, g2, g3, _⟩ | ⟨⟨a', M', v', g1⟩, τ', cst, g2, g3, g4⟩
      · omega
      · refine Or.inr ⟨⟨a', M', v', ?_⟩, τ', cst, g2, g3, g4⟩
        show kp_R_readList_8b gI (kp_R_readList_8 gI f) _ _ _ _ _ _ = _
        unfold kp_R_readList_8b
        rw [if_neg (show ¬ nI cnt ≤ nI i from fun z => by have := (kn_le (by omega) (by omega)).mp z; omega), g1, kt_bs]
        exact if_pos rfl
  | succ r ih =>
    intro σ τ a i cnt P kd0 m f M v M0 v0 hr hf hs hB ht hBt ha hi hcnt h7 h6 h30 hP1 hP hkd hm
    obtain ⟨f, rfl⟩ := Nat.exists_eq_add_one_of_ne_zero (show ¬ f = 0 by omega)
    by_cases hic : i = cnt
    · subst hic
      rw [Nat.sub_self] at h7
      refine Or.inl ⟨a, true, m, M, ?_, by omega, ha, hm, fun _ => by rw [Nat.sub_self]; exact ⟨trivial, fun x _ => by show _ = (m.testBit x || false); rw [Bool.or_false]⟩, τ, M0, v0, 0, by omega, fun F => rfl, kFr_refl e τ, h7, kMk_z.symm⟩
      show kp_R_readList_8b gI (kp_R_readList_8 gI f) _ _ _ _ _ _ = _
      unfold kp_R_readList_8b
      rw [if_pos (kn_leR (by omega) (by omega)), kc_nu]
      rfl
    · have hnle : ¬ nI cnt ≤ nI i := fun z => by have := (kn_le (by omega) (by omega)).mp z; omega
      rcases hI σ τ a (cnt - i - 1) P M v M0 v0 hs hB ht hBt ha (by rw [h7]; congr 1; omega) (by omega) (Or.inl h6) h30 hP1 hP with ⟨a1, kd', num, M', g1, g2, g3, g4, g5, τ1, M1, v1, c1, k1, k2, k3, k4, k5, k6, k7, k8⟩ | ⟨⟨a', M', v', g1⟩, τ', cst, g2, g3, g4⟩
      · have e7 : τ1 7 e = nI (cnt - (i + 1)) := by rw [k5]; congr 1
        have hBt1 : kBy B (τ1 2) := by rw [k3.1 2 (by omega) (by omega)]; exact hBt
        have ht1 : τ1 0 10 = nI k := by rw [k3.2.2.1]; exact ht
        have h301 : τ1 0 30 = nI P := by rw [k3.2.2.1]; exact h30
        have h61 : τ1 6 e = 0 := by rw [k4]; exact h6
        have hstep : ∀ kd2 m2 : Nat, (kp_R_readList_8 gI (f + 1) (nI cnt) (nI e) (nI kd0) (nI m) (nI i) (kc σ (nI a) M v) = kp_R_readList_8 gI f (nI cnt) (nI e) (nI kd2) (nI m2) (nI (i + 1)) (kc σ (nI a1) M' (nI num))) → m2 < 128 → kd2 < 9 → (kd' = 0 ∧ kd2 = kd0 ∧ ∀ x, x ≤ 6 → m2.testBit x = (m.testBit x || decide (num = x))) ∨ (¬ kd' = 0 ∧ kd2 = 8) → (∃ (a' : Nat) (al : Bool) (m' : Nat) (M' : Int32), kp_R_readList_8 gI (f + 1) (nI cnt) (nI e) (nI kd0) (nI m) (nI i) (kc σ (nI a) M v) = some (nI (if al then kd0 else 8), kc σ (nI a') M' (nI m')) ∧ a ≤ a' ∧ a' ≤ k ∧ m' < 128 ∧ (al = true → kAl B k (cnt - i) a ∧ ∀ x, x ≤ 6 → m'.testBit x = (m.testBit x || kLs B k (cnt - i) a x)) ∧ ∃ (τ' : kt_S) (M1 v1 : Int32) (cst : Nat), cst ≤ 2 * (a' - a) ∧ (∀ F, kp_M_formed_53 (F + cst) (nI e) (kd τ (nI a) M0 v0 0) = kp_M_formed_53 F (nI e) (kd τ' (nI a') M1 v1 0)) ∧ kFr e τ τ' ∧ τ' 7 e = nI 0 ∧ τ' 14 = kMk e P (if al then 0 else 8) (τ 14)) ∨ ((∃ a' M' v' : Int32, kp_R_readList_8 gI (f + 1) (nI cnt) (nI e) (nI kd0) (nI m) (nI i) (kc σ (nI a) M v) = some (-2, kc σ a' M' v')) ∧ ∃ (τ' : kt_S) (cst : Nat), cst ≤ 2 * (k - a) + 2 ∧ (∀ F, kp_M_formed_53 (F + cst) (nI e) (kd τ (nI a) M0 v0 0) = some (0, τ')) ∧ kFb τ τ') := by
          intro kd2 m2 hc hm2 hkd2 hcase
          rw [hc]
          rcases ih σ τ1 a1 (i + 1) cnt P kd2 m2 f M' (nI num) M1 v1 (by omega) (by omega) hs hB ht1 hBt1 (by omega) (by omega) hcnt e7 h61 h301 hP1 hP hkd2 hm2 with ⟨a2, al, m', M2, q1, q2, q3, q4, q5, τ2, M3, v3, c2, p1, p2, p3, p4, p5⟩ | ⟨⟨a', M2, v', q1⟩, τ2, c2, p1, p2, p3⟩
          · have hrun : ∀ F, kp_M_formed_53 (F + (c2 + c1)) (nI e) (kd τ (nI a) M0 v0 0) = kp_M_formed_53 F (nI e) (kd τ2 (nI a2) M3 v3 0) := fun F => by rw [← Nat.add_assoc, k2, p2]
            rcases hcase with ⟨z1, z2, z3⟩ | ⟨z1, z2⟩
            · refine Or.inl ⟨a2, al, m', M2, by rw [q1, z2], by omega, q3, q4, fun hal => ?_, τ2, M3, v3, c2 + c1, by omega, hrun, kFr_trans k3 p3, p4, ?_⟩
              · obtain ⟨w1, w2⟩ := q5 hal
                have hh := g5 z1
                rw [show cnt - i = (cnt - (i + 1)) + 1 by omega]
                refine ⟨⟨a1, num, hh, w1⟩, fun x hx => ?_⟩
                have : kLs B k (cnt - (i + 1) + 1) a x = (decide (num = x) || kLs B k (cnt - (i + 1)) a1 x) := by
                  show (match kHd B k a with | some (a', _, v) => decide (v = x) || kLs B k (cnt - (i + 1)) a' x | none => false) = _
                  rw [hh]
                rw [w2 x hx, z3 x hx, this, Bool.or_assoc]
              · rw [p5, k8, z1, kMk_z]
            · refine Or.inl ⟨a2, false, m', M2, ?_, by omega, q3, q4, fun z => absurd z (by decide), τ2, M3, v3, c2 + c1, by omega, hrun, kFr_trans k3 p3, p4, ?_⟩
              · rw [q1, z2, ite_self]
                rfl
              · rw [p5, k8, kMk_two z1]
                exact kMk_nz z1 (by decide)
          · refine Or.inr ⟨⟨a', M2, v', q1⟩, τ2, c2 + c1, by omega, fun F => ?_, kFb_trans (kFr_b k3) p3⟩
            rw [← Nat.add_assoc, k2, p2]
        have hone : kp_R_readList_8 gI (f + 1) (nI cnt) (nI e) (nI kd0) (nI m) (nI i) (kc σ (nI a) M v) = if nI kd' = 0 then (if (6 : Int32) < nI num then kp_R_readList_8 gI f (nI cnt) (nI e) (nI kd0) (nI m) (nI (i + 1)) (kc σ (nI a1) M' (nI num)) else kp_R_readList_8 gI f (nI cnt) (nI e) (nI kd0) (nI m ||| ((1 : Int32) <<< (nI num &&& 31))) (nI (i + 1)) (kc σ (nI a1) M' (nI num))) else kp_R_readList_8 gI f (nI cnt) (nI e) 8 (nI m) (nI (i + 1)) (kc σ (nI a1) M' (nI num)) := by
          show kp_R_readList_8b gI (kp_R_readList_8 gI f) _ _ _ _ _ _ = _
          unfold kp_R_readList_8b kp_R_readList_62
          rw [if_neg hnle, g1, kt_bs]
          dsimp only
          rw [if_neg (kn_m2 (by omega)), kn_succ]
          rfl
        by_cases hz : kd' = 0
        · have hh := kHd_spec hB.1 (g5 hz)
          rw [if_pos (show nI kd' = 0 by rw [hz]; rfl)] at hone
          by_cases h6n : num ≤ 6
          · rw [if_neg (show ¬ (6 : Int32) < nI num from kn_geL (a := 6) (by omega) h6n (by omega)), (kn_or7 hm h6n).1] at hone
            exact hstep kd0 _ hone (kn_or7 hm h6n).2.1 hkd (Or.inl ⟨hz, rfl, (kn_or7 hm h6n).2.2⟩)
          · rw [if_pos (show (6 : Int32) < nI num from (kn_lt (a := 6) (by omega) (by omega)).mpr (by omega))] at hone
            refine hstep kd0 m hone hm hkd (Or.inl ⟨hz, rfl, fun x hx => ?_⟩)
            rw [show decide (num = x) = false from decide_eq_false (by omega), Bool.or_false]
        · rw [if_neg (show ¬ nI kd' = 0 from fun z => hz ((kn_eqL 0 (by omega) (by omega)).mp z))] at hone
          exact hstep 8 m hone hm (by omega) (Or.inr ⟨hz, rfl⟩)
      · refine Or.inr ⟨⟨a', M', v', ?_⟩, τ', cst, g2, g3, g4⟩
        show kp_R_readList_8b gI (kp_R_readList_8 gI f) _ _ _ _ _ _ = _
        unfold kp_R_readList_8b
        rw [if_neg hnle, g1, kt_bs]
        exact if_pos rfl
