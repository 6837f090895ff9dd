/-! The pairs of the outermost map. -/
theorem kc_row {σ : kt_S} {q i : Nat} {a M v x : Int32} (h : ¬ q = 6) : kt_up (kc σ a M v) q i x = kc (kt_up σ q i x) a M v := by
  unfold kc
  have h' : ¬ 6 = q := fun z => h z.symm
  rw [kt_up_swap h', kt_up_swap h', kt_up_swap h']
def kPr (B : Nat → Nat) (k P : Nat) (K : Nat → Nat) (σ τ : kt_S) : Prop := (∀ j, j < P → τ 10 j = nI (K j) ∧ K j < 2147483648) ∧ (∀ i j, i < j → j < P → K i < K j) ∧ ∀ x, x ≤ 8 → (∃ j, j < P ∧ K j = x ∧ kEn B k (τ 11 j) (τ 12 j) (τ 13 j) (τ 14 j) (σ 9 x) (σ 10 x) (σ 11 x)) ∨ ((∀ j, j < P → ¬ K j = x) ∧ σ 9 x = -1)
def kGs (σ σ' : kt_S) : Prop := ∀ q, ¬ q = 9 → ¬ q = 10 → ¬ q = 11 → σ' q = σ q
theorem kGs_refl (σ : kt_S) : kGs σ σ := fun _ _ _ _ => rfl
theorem kR_pairs {B : Nat → Nat} {k : Nat} {gI : Int32 → kt_S → Option (Int32 × kt_S)} (hk48 : k ≤ 48) (hI : kI1 B k gI) : ∀ (r : Nat) (σ τ : kt_S) (a i cnt P : Nat) (K : Nat → Nat) (f : Nat) (l3 M v M0 v0 : Int32), k - a ≤ r → r < f → σ 7 2 = nI k → kBy B (σ 8) → τ 0 10 = nI k → kBy B (τ 2) → a ≤ k → i ≤ cnt → cnt < 2147483648 → τ 7 1 = nI (cnt - i) → τ 6 1 = 1 → τ 9 1 = 1 → τ 8 1 = l3 → τ 0 30 = nI P → 2 * P + 2 ≤ a → ((l3 = -1 ∧ P = 0) ∨ ∃ P', P = P' + 1 ∧ l3 = nI (K P')) → kPr B k P K σ τ →
    (∃ (a' P' : Nat) (K' : Nat → Nat) (σ' : kt_S) (M' num : Int32), kp_R_readMap_5 gI f (nI cnt) (nI 1) l3 (nI i) (kc σ (nI a) M v) = some (5, kc σ' (nI a') M' num) ∧ a ≤ a' ∧ a' ≤ k ∧ kGs σ σ' ∧ ∃ (τ' : kt_S) (M1 v1 : Int32) (cst : Nat), cst ≤ 2 * (a' - a) ∧ (∀ F, kp_M_formed_53 (F + cst) (nI 1) (kd τ (nI a) M0 v0 0) = kp_M_formed_53 F (nI 1) (kd τ' (nI a') M1 v1 0)) ∧ kFb τ τ' ∧ τ' 7 1 = nI 0 ∧ τ' 0 30 = nI P' ∧ P' ≤ 24 ∧ kPr B k P' K' σ' τ')
    ∨ ((∃ (σ' : kt_S) (a' M' v' : Int32), kp_R_readMap_5 gI f (nI cnt) (nI 1) l3 (nI i) (kc σ (nI a) M v) = some (-2, kc σ' a' M' v') ∧ kGs σ σ') ∧ ∃ (τ' : kt_S) (cst : Nat), cst ≤ 2 * (k - a) + 2 ∧ (∀ F, kp_M_formed_53 (F + cst) (nI 1) (kd τ (nI a) M0 v0 0) = some (0, τ')) ∧ kFb τ τ') := by
  intro r
  induction r with
  | zero =>
    intro σ τ a i cnt P K f l3 M v M0 v0 hr hf hs hB ht hBt ha hi hcnt h7 h6 h9 h8 h30 hPa hl hpr
    obtain ⟨f, rfl⟩ := Nat.exists_eq_add_one_of_ne_zero (Nat.ne_of_gt hf)
    by_cases hic : i = cnt
    · subst hic
      rw [Nat.sub_self] at h7
      refine Or.inl ⟨a, P, K, σ, M, v, ?_, by omega, ha, kGs_refl σ, τ, M0, v0, 0, by omega, fun F => rfl, kFb_refl τ, h7, h30, by omega, hpr⟩
      show kp_R_readMap_5b gI (kp_R_readMap_5 gI f) _ _ _ _ _ = _
      unfold kp_R_readMap_5b
      rw [if_pos (kn_leR (by omega) (by omega))]
    · have hnle : ¬ nI cnt ≤ nI i := fun z => by have := (kn_le (by omega) (by omega)).mp z; omega
      have hno : kHd B k a = none := if_pos (by omega)
      have hm : ¬ kd τ (nI a) M0 v0 0 7 1 = 0 := fun z => by
        have z' : τ 7 1 = nI 0 := z
        rw [h7] at z'
        have := (kn_eqL 0 (by omega) (by omega)).mp z'
        omega
      rcases kR_key (M := M) (v := v) (l3 := l3) (gI := gI) (K := kp_R_readMap_5 gI f) (e := nI 1) hs hB hk48 ha hnle with ⟨a1, v1, g1, _⟩ | ⟨_, a', M', v', g1⟩
      · rw [hno] at g1
        cases g1
      · rcases km_key (d := 1) (M0 := M0) (v0 := v0) (by omega) ht hBt hk48 ha with ⟨a1, v1, q1, _⟩ | ⟨_, s', q1, q2, q3⟩
        · rw [hno] at q1
          cases q1
        · refine Or.inr ⟨⟨σ, a', M', v', g1, kGs_refl σ⟩, s', 2, by omega, fun F => ?_, q3⟩
          rw [show F + 2 = (F + 1) + 1 from rfl, kL_key (by omega) (by omega) rfl hm (show ¬ τ 6 1 = 0 by rw [h6]; exact ki_10) (show ¬ τ 9 1 = 0 by rw [h9]; exact ki_10), q1, kt_bs]
          exact kL_bad (by omega) q2
  | succ r ih =>
    intro σ τ a i cnt P K f l3 M v M0 v0 hr hf hs hB ht hBt ha hi hcnt h7 h6 h9 h8 h30 hPa hl hpr
    obtain ⟨f, rfl⟩ := Nat.exists_eq_add_one_of_ne_zero (show ¬ f = 0 by omega)
    by_cases hic : i = cnt
    · subst hic
      rw [Nat.sub_self] at h7
      refine Or.inl ⟨a, P, K, σ, M, v, ?_, by omega, ha, kGs_refl σ, τ, M0, v0, 0, by omega, fun F => rfl, kFb_refl τ, h7, h30, by omega, hpr⟩
      show kp_R_readMap_5b gI (kp_R_readMap_5 gI f) _ _ _ _ _ = _
      unfold kp_R_readMap_5b
      rw [if_pos (kn_leR (by omega) (by omega))]
    · have hnle : ¬ nI cnt ≤ nI i := fun z => by have := (kn_le (by omega) (by omega)).mp z; omega
      have hm : ¬ kd τ (nI a) M0 v0 0 7 1 = 0 := fun z => by
        have z' : τ 7 1 = nI 0 := z
        rw [h7] at z'
        have := (kn_eqL 0 (by omega) (by omega)).mp z'
        omega
      have hkey := fun F => kL_key (f := F) (d := 1) (s := kd τ (nI a) M0 v0 0) (by omega) (by omega) rfl hm (show ¬ τ 6 1 = 0 by rw [h6]; exact ki_10) (show ¬ τ 9 1 = 0 by rw [h9]; exact ki_10)
      rcases kR_key (M := M) (v := v) (l3 := l3) (gI := gI) (K := kp_R_readMap_5 gI f) (e := nI 1) hs hB hk48 ha hnle with ⟨a1, v1, g1, g2, g3⟩ | ⟨g0, a', M', v', g1⟩
      · rcases km_key (d := 1) (M0 := M0) (v0 := v0) (by omega) ht hBt hk48 ha with ⟨a1', v1', q1, q2, q3⟩ | ⟨q0, _⟩
        · rw [g1] at q1
          cases q1
          have hsp := kHd_spec hB.1 g1
          have hP22 : P ≤ 22 := by omega
          have e37 : kp_M_readKey_37 (nI 1) 0 (kd τ (nI a1) (nI 0) (nI v1) 0) = some (kd (kt_up (kt_up (kt_up τ 8 1 (nI v1)) 9 1 0) 10 P (nI v1)) (nI a1) (nI 0) (nI v1) 0) := by
            unfold kp_M_readKey_37 kp_M_readKey_82
            have e24 : kd τ (nI a1) (nI 0) (nI v1) 0 0 24 = nI v1 := rfl
            have e30 : kd τ (nI a1) (nI 0) (nI v1) 0 0 30 = nI P := h30
            rw [if_pos ki_b0, if_neg (kn_in (by omega) (by omega)), if_neg (kn_in (by omega) (by omega)), if_pos (show nI 1 = 1 from rfl), if_pos rfl, e24, e30, if_neg (kn_in (by omega) (by omega)), kd_ba, kn_cl (show 1 < 2147483648 by omega), kn_cl (show P < 2147483648 by omega), kd_row (by omega), kd_row (by omega), kd_row (by omega)]
          have hrun1 : ∀ F, kp_M_formed_53 (F + 1) (nI 1) (kd τ (nI a) M0 v0 0) = kp_M_formed_53 F (nI 1) (kd (kt_up (kt_up (kt_up τ 8 1 (nI v1)) 9 1 0) 10 P (nI v1)) (nI a1) (nI 0) (nI v1) 0) := fun F => by
            rw [hkey, q3, e37, kt_bs]
          generalize hτ1 : kt_up (kt_up (kt_up τ 8 1 (nI v1)) 9 1 0) 10 P (nI v1) = τ1 at hrun1
          have f1 : kFb τ τ1 := by
            rw [← hτ1]
            exact kFb_row (kFb_row (kFb_row (kFb_refl τ) (by omega) (by omega)) (by omega) (by omega)) (by omega) (by omega)
          have x7 : τ1 7 1 = nI (cnt - i - 1 + 1) := by rw [← hτ1, show cnt - i - 1 + 1 = cnt - i by omega]; exact h7
          have x6 : τ1 6 1 = 1 := by rw [← hτ1]; exact h6
          have x8 : τ1 8 1 = nI v1 := by rw [← hτ1]; rfl
          have x9 : τ1 9 1 = 0 := by rw [← hτ1]; rfl
          have x30 : τ1 0 30 = nI P := by rw [← hτ1]; exact h30
          have x10 : τ1 10 = upd (τ 10) P (nI v1) := by rw [← hτ1]; rfl
          have x11 : τ1 11 = τ 11 ∧ τ1 12 = τ 12 ∧ τ1 13 = τ 13 ∧ τ1 14 = τ 14 := by rw [← hτ1]; exact ⟨rfl, rfl, rfl, rfl⟩
          have xt : τ1 0 10 = nI k := by rw [f1.2.2 10 (by omega)]; exact ht
          have xB : kBy B (τ1 2) := by rw [f1.1 2 (by omega) (by omega)]; exact hBt
          rcases hI σ τ1 a1 (cnt - i - 1) P (nI 0) (nI v1) (nI 0) (nI v1) hs hB xt xB (by omega) x7 (by omega) (Or.inr x9) x30 (by omega) with ⟨a2, kC, num, M', w1, w2, w3, w4, τ2, M1, v1', c1, k1, k2, k3, k4, k5, k6, k7, k8, k9, k10⟩ | ⟨⟨a', M', v', w1⟩, τ', cst, w2, w3, w4⟩
          · have f2 := kFb_trans f1 (kF1_b k3)
            have hnext : ∃ σ2, kp_R_readMap_5 gI (f + 1) (nI cnt) (nI 1) l3 (nI i) (kc σ (nI a) M v) = kp_R_readMap_5 gI f (nI cnt) (nI 1) (nI v1) (nI (i + 1)) (kc σ2 (nI a2) M' (nI num)) ∧ kGs σ σ2 ∧ (v1 ≤ 8 → σ2 9 v1 = nI kC ∧ σ2 10 v1 = nI num ∧ σ2 11 v1 = nI a2) ∧ ∀ x, ¬ x = v1 → σ2 9 x = σ 9 x ∧ σ2 10 x = σ 10 x ∧ σ2 11 x = σ 11 x := by
              have e : kp_R_readMap_5 gI (f + 1) (nI cnt) (nI 1) l3 (nI i) (kc σ (nI a) M v) = kKn gI (kp_R_readMap_5 gI f) (nI cnt) (nI 1) (nI i) (nI v1) (kc σ (nI a1) (nI 0) (nI v1)) := g3
              rw [e]
              unfold kKn
              rw [w1, kt_bs]
              dsimp only
              rw [if_neg (kn_m2 (by omega)), if_pos (show nI 1 = 1 from rfl), kn_succ]
              by_cases h8v : v1 ≤ 8
              · have e6 : kc σ (nI a2) M' (nI num) 6 6 = nI num := rfl
                have e4 : kc σ (nI a2) M' (nI num) 6 4 = nI a2 := rfl
                have hin : ¬ (nI v1 < 0 ∨ 9 ≤ (nI v1).toNatClampNeg) := kn_in (by omega) (by omega)
                rw [if_neg (show ¬ (8 : Int32) < nI v1 from kn_geL (a := 8) (by omega) h8v (by omega)), if_neg hin, if_neg hin, if_neg hin, e6, e4, kn_cl (by omega), kc_row (by omega), kc_row (by omega), kc_row (by omega)]
                refine ⟨_, rfl, fun q h1 h2 h3 => ?_, fun _ => ?_, fun x hx => ?_⟩
                · rw [kt_up_ne _ _ _ h3, kt_up_ne _ _ _ h2, kt_up_ne _ _ _ h1]
                · exact ⟨if_pos rfl, if_pos rfl, if_pos rfl⟩
                · exact ⟨if_neg hx, if_neg hx, if_neg hx⟩
              · rw [if_pos (show (8 : Int32) < nI v1 from (kn_lt (a := 8) (by omega) (by omega)).mpr (by omega))]
                exact ⟨σ, rfl, kGs_refl σ, fun z => absurd z h8v, fun x hx => ⟨rfl, rfl, rfl⟩⟩
            obtain ⟨σ2, n1, n2, n3, n4⟩ := hnext
            obtain ⟨K2, hKP, hKn⟩ : ∃ K2 : Nat → Nat, K2 P = v1 ∧ ∀ j, ¬ j = P → K2 j = K j := ⟨fun j => if j = P then v1 else K j, if_pos rfl, fun j h => if_neg h⟩
            have hpr2 : kPr B k (P + 1) K2 σ2 τ2 := by
              refine ⟨fun j hj => ?_, fun i' j hij hj => ?_, fun x hx => ?_⟩
              · rw [k3.2.2.2.2, x10]
                by_cases z : j = P
                · rw [z, hKP]
                  exact ⟨if_pos rfl, by omega⟩
                · have := hpr.1 j (by omega)
                  rw [hKn j z]
                  exact ⟨(if_neg z).trans this.1, this.2⟩
              · rw [hKn i' (by omega)]
                by_cases z : j = P
                · rw [z, hKP]
                  rcases hl with ⟨_, y⟩ | ⟨P', y1, y2⟩
                  · omega
                  · rw [y2] at g2
                    have hKP' := (hpr.1 P' (by omega)).2
                    have hlt := (kn_lt hKP' (by omega)).mp g2
                    by_cases w : i' = P'
                    · rw [w]; exact hlt
                    · have := hpr.2.1 i' P' (by omega) (by omega)
                      omega
                · rw [hKn j z]
                  exact hpr.2.1 i' j hij (by omega)
              · by_cases z : x = v1
                · refine Or.inl ⟨P, by omega, by rw [hKP, z], ?_⟩
                  obtain ⟨y1, y2, y3⟩ := n3 (by omega)
                  rw [z, y1, y2, y3]
                  exact k10
                · obtain ⟨y1, y2, y3⟩ := n4 x z
                  rw [y1, y2, y3]
                  rcases hpr.2.2 x hx with ⟨j, u1, u2, u3⟩ | ⟨u1, u2⟩
                  · refine Or.inl ⟨j, by omega, by rw [hKn j (by omega)]; exact u2, ?_⟩
                    obtain ⟨b1, b2, b3, b4⟩ := k9 j (by omega)
                    rw [b1, b2, b3, b4, x11.1, x11.2.1, x11.2.2.1, x11.2.2.2]
                    exact u3
                  · refine Or.inr ⟨fun j hj => ?_, u2⟩
                    by_cases y : j = P
                    · rw [y, hKP]; exact fun w => z w.symm
                    · rw [hKn j y]; exact u1 j (by omega)
            clear hl
            rcases ih σ2 τ2 a2 (i + 1) cnt (P + 1) K2 f (nI v1) M' (nI num) M1 v1' (by omega) (by omega) (by rw [n2 7 (by omega) (by omega) (by omega)]; exact hs) (by rw [n2 8 (by omega) (by omega) (by omega)]; exact hB) (by rw [f2.2.2 10 (by omega)]; exact ht) (by rw [f2.1 2 (by omega) (by omega)]; exact hBt) (by omega) (by omega) hcnt (by rw [k5]; congr 1) (by rw [k4, x6]) k7 (by rw [k6, x8]) k8 (by omega) (Or.inr ⟨P, rfl, by rw [hKP]⟩) hpr2 with ⟨a3, P3, K3, σ3, M3, num3, p1, p2, p3, p3', τ3, M4, v4, c3, p4, p5, p6, p7, p8, p9, p10⟩ | ⟨⟨σ3, a', M3, v', p1, p1'⟩, τ3, c3, p2, p3, p4⟩
            · refine Or.inl ⟨a3, P3, K3, σ3, M3, num3, n1.trans p1, by omega, p3, fun q h1 h2 h3 => (p3' q h1 h2 h3).trans (n2 q h1 h2 h3), τ3, M4, v4, c3 + c1 + 1, by omega, fun F => ?_, kFb_trans f2 p6, p7, p8, p9, p10⟩
              rw [show F + (c3 + c1 + 1) = (F + c3 + c1) + 1 by omega, hrun1, k2, p5]
            · refine Or.inr ⟨⟨σ3, a', M3, v', n1.trans p1, fun q h1 h2 h3 => (p1' q h1 h2 h3).trans (n2 q h1 h2 h3)⟩, τ3, c3 + c1 + 1, by omega, fun F => ?_, kFb_trans f2 p4⟩
              rw [show F + (c3 + c1 + 1) = (F + c3 + c1) + 1 by omega, hrun1, k2, p3]
          · refine Or.inr ⟨⟨σ, a', M', v', ?_, kGs_refl σ⟩, τ', cst + 1, by omega, fun F => ?_, kFb_trans f1 w4⟩
            · show kp_R_readMap_5b gI (kp_R_readMap_5 gI f) _ _ _ _ _ = _
              rw [g3]
              unfold kKn
              rw [w1, kt_bs]
              exact if_pos rfl
            · rw [show F + (cst + 1) = (F + cst) + 1 by omega, hrun1, w3]
        · exact absurd g2 (h8 ▸ q0 a1 v1 g1)
      · rcases km_key (d := 1) (M0 := M0) (v0 := v0) (by omega) ht hBt hk48 ha with ⟨a1', v1', q1, q2, q3⟩ | ⟨q0, s', q1, q2, q3⟩
        · exact absurd (h8 ▸ q2) (g0 a1' v1' q1)
        · refine Or.inr ⟨⟨σ, a', M', v', g1, kGs_refl σ⟩, s', 2, by omega, fun F => ?_, q3⟩
          rw [show F + 2 = (F + 1) + 1 from rfl, hkey, q1, kt_bs]
          exact kL_bad (by omega) q2
