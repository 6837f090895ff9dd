/-! The pairs of a map inside, and the items at depth 2 and 3. -/
theorem km_key_bad {τ : kt_S} {d : Nat} {a M v b : Int32} (hd : d < 4) : kp_M_readKey_37 (nI d) 1 (kd τ a M v b) = some (kd (kt_up (kt_up τ 8 d v) 9 d 0) a M v 1) := by
  unfold kp_M_readKey_37 kp_M_readKey_82
  have e24 : kd τ a M v b 0 24 = v := rfl
  rw [if_pos ki_b1, if_neg (kn_in (by omega) (by omega)), if_neg (kn_in (by omega) (by omega)), if_neg ki_10, ite_self, e24, kd_ba, kn_cl (by omega), kd_row (by omega), kd_row (by omega)]
theorem km_key {B : Nat → Nat} {k d a : Nat} {τ : kt_S} {M0 v0 : Int32} (hd : d < 4) (ht : τ 0 10 = nI k) (hB : kBy B (τ 2)) (hk48 : k ≤ 48) (ha : a ≤ k) : (∃ a1 v1, kHd B k a = some (a1, 0, v1) ∧ τ 8 d < nI v1 ∧ kp_M_readKey (nI d) (kd τ (nI a) M0 v0 0) = kp_M_readKey_37 (nI d) 0 (kd τ (nI a1) (nI 0) (nI v1) 0)) ∨ ((∀ a1 v1, kHd B k a = some (a1, 0, v1) → ¬ τ 8 d < nI v1) ∧ ∃ s', kp_M_readKey (nI d) (kd τ (nI a) M0 v0 0) = some s' ∧ s' 0 25 = 1 ∧ kFb τ s') := by
  have hbad : ∀ a M v b : Int32, ∃ s', kp_M_readKey_37 (nI d) 1 (kd τ a M v b) = some s' ∧ s' 0 25 = 1 ∧ kFb τ s' := fun a M v b => ⟨_, km_key_bad hd, rfl, kFb_kd (kFb_row (kFb_row (kFb_refl τ) (by omega) (by omega)) (by omega) (by omega))⟩
  unfold kp_M_readKey kp_M_readKey_0 kp_M_readKey_32
  rcases km_head (M := M0) (v := v0) hB ht hk48 (show a ≤ 48 by omega) with ⟨a1, M1, v1, h1, h2⟩ | ⟨h1, a1, M1, v1, h2⟩
  · have e25 : kd τ (nI a1) (nI M1) (nI v1) 0 0 25 = 0 := rfl
    have e23 : kd τ (nI a1) (nI M1) (nI v1) 0 0 23 = nI M1 := rfl
    have e24 : kd τ (nI a1) (nI M1) (nI v1) 0 0 24 = nI v1 := rfl
    have e8 : kd τ (nI a1) (nI M1) (nI v1) 0 8 d = τ 8 d := rfl
    have hs := kHd_spec hB.1 h1
    rw [h2, kt_bs, e25, if_pos rfl, e23, e24, if_neg (kn_in (by omega) (by omega)), kn_cl (by omega), e8]
    by_cases hM : M1 = 0
    · subst hM
      rw [if_pos (show nI 0 = 0 from rfl)]
      by_cases hlt : τ 8 d < nI v1
      · rw [if_pos hlt]
        exact Or.inl ⟨a1, v1, h1, hlt, rfl⟩
      · rw [if_neg hlt]
        refine Or.inr ⟨fun a2 v2 h => ?_, hbad _ _ _ _⟩
        rw [h1] at h
        cases h
        exact hlt
    · rw [if_neg (show ¬ nI M1 = 0 from fun z => hM ((kn_eqL 0 (by omega) (by omega)).mp z))]
      refine Or.inr ⟨fun a2 v2 h => ?_, hbad _ _ _ _⟩
      rw [h1] at h
      cases h
      exact absurd rfl hM
  · have e25 : kd τ a1 M1 v1 1 0 25 = 1 := rfl
    rw [h2, kt_bs, e25, if_neg ki_10]
    refine Or.inr ⟨fun a2 v2 h => ?_, hbad _ _ _ _⟩
    rw [h1] at h
    cases h
/-- what the class does behind a key -/
def kKn (gI : Int32 → kt_S → Option (Int32 × kt_S)) (K : Int32 → Int32 → Int32 → Int32 → kt_S → Option (Int32 × kt_S)) (cnt e i x : Int32) (s : kt_S) : Option (Int32 × kt_S) := Option.bind (gI e s) fun x2 => if x2.1 = -2 then some (-2, x2.2) else if e = 1 then (if (8 : Int32) < x then K cnt e x (i + 1) x2.2 else if x < 0 ∨ 9 ≤ x.toNatClampNeg then none else if x < 0 ∨ 9 ≤ x.toNatClampNeg then none else if x < 0 ∨ 9 ≤ x.toNatClampNeg then none else K cnt e x (i + 1) (kt_up (kt_up (kt_up x2.2 9 x.toNatClampNeg x2.1) 10 x.toNatClampNeg (x2.2 6 6)) 11 x.toNatClampNeg (x2.2 6 4))) else K cnt e x (i + 1) x2.2
theorem kR_key {B : Nat → Nat} {k a : Nat} {σ : kt_S} {M v l3 : Int32} {gI : Int32 → kt_S → Option (Int32 × kt_S)} {K : Int32 → Int32 → Int32 → Int32 → kt_S → Option (Int32 × kt_S)} {cnt e i : Int32} (hs : σ 7 2 = nI k) (hB : kBy B (σ 8)) (hk48 : k ≤ 48) (ha : a ≤ k) (hc : ¬ cnt ≤ i) : (∃ a1 v1, kHd B k a = some (a1, 0, v1) ∧ l3 < nI v1 ∧ kp_R_readMap_5b gI K cnt e l3 i (kc σ (nI a) M v) = kKn gI K cnt e i (nI v1) (kc σ (nI a1) (nI 0) (nI v1))) ∨ ((∀ a1 v1, kHd B k a = some (a1, 0, v1) → ¬ l3 < nI v1) ∧ ∃ a' M' v' : Int32, kp_R_readMap_5b gI K cnt e l3 i (kc σ (nI a) M v) = some (-2, kc σ a' M' v')) := by
  unfold kp_R_readMap_5b kp_R_readMap_33 kp_R_readMap_97
  rw [if_neg hc]
  rcases kR_head (M := M) (v := v) hB hs hk48 (show a ≤ 48 by omega) with ⟨a1, M1, v1, h1, h2⟩ | ⟨h1, a1, M1, v1, h2⟩
  · have e5 : kc σ (nI a1) (nI M1) (nI v1) 6 5 = nI M1 := rfl
    have e6 : kc σ (nI a1) (nI M1) (nI v1) 6 6 = nI v1 := rfl
    have hsp := kHd_spec hB.1 h1
    rw [h2, kt_bs]
    dsimp only
    rw [if_neg ki_10]
    simp only [e5, e6]
    by_cases hM : M1 = 0
    · subst hM
      rw [if_pos (show nI 0 = 0 from rfl)]
      by_cases hlt : l3 < nI v1
      · rw [if_pos hlt]
        exact Or.inl ⟨a1, v1, h1, hlt, rfl⟩
      · rw [if_neg hlt]
        refine Or.inr ⟨fun a2 v2 h => ?_, _, _, _, rfl⟩
        rw [h1] at h
        cases h
        exact hlt
    · rw [if_neg (show ¬ nI M1 = 0 from fun z => hM ((kn_eqL 0 (by omega) (by omega)).mp z))]
      refine Or.inr ⟨fun a2 v2 h => ?_, _, _, _, rfl⟩
      rw [h1] at h
      cases h
      exact absurd rfl hM
  · rw [h2, kt_bs]
    refine Or.inr ⟨fun a2 v2 h => ?_, _, _, _, if_pos rfl⟩
    rw [h1] at h
    cases h
theorem kR_map {B : Nat → Nat} {k e : Nat} {gI : Int32 → kt_S → Option (Int32 × kt_S)} (hk48 : k ≤ 48) (he2 : 2 ≤ e) (he : e < 4) (hI : kIS B k e gI) : ∀ (r : Nat) (σ τ : kt_S) (a i cnt P f : Nat) (l3 M v M0 v0 : Int32), k - a ≤ r → r < f → σ 7 2 = nI k → kBy B (σ 8) → τ 0 10 = nI k → kBy B (τ 2) → a ≤ k → i ≤ cnt → cnt < 2147483648 → τ 7 e = nI (cnt - i) → τ 6 e = 1 → τ 9 e = 1 → τ 8 e = l3 → τ 0 30 = nI P → 1 ≤ P → P ≤ 24 →
    (∃ (a' : Nat) (M' num : Int32), kp_R_readMap_5 gI f (nI cnt) (nI e) l3 (nI i) (kc σ (nI a) M v) = some (5, kc σ (nI a') M' num) ∧ a ≤ a' ∧ a' ≤ k ∧ ∃ (τ' : kt_S) (M1 v1 : Int32) (cst : Nat), cst ≤ 2 * (a' - a) ∧ (∀ F, kp_M_formed_53 (F + cst) (nI e) (kd τ (nI a) M0 v0 0) = kp_M_formed_53 F (nI e) (kd τ' (nI a') M1 v1 0)) ∧ kFr e τ τ' ∧ τ' 7 e = nI 0 ∧ (τ' 14 = τ 14 ∨ τ' 14 = kMk e P 8 (τ 14)))
    ∨ ((∃ a' M' v' : Int32, kp_R_readMap_5 gI f (nI cnt) (nI e) l3 (nI i) (kc σ (nI a) M v) = some (-2, kc σ a' M' v')) ∧ ∃ (τ' : kt_S) (cst : Nat), cst ≤ 2 * (k - a) + 2 ∧ (∀ F, kp_M_formed_53 (F + cst) (nI e) (kd τ (nI a) M0 v0 0) = some (0, τ')) ∧ kFb τ τ') := by
  have he1 : ¬ nI e = 1 := fun z => by have := (kn_eqL 1 (by omega) (by omega)).mp z; omega
  intro r
  induction r with
  | zero =>
    intro σ τ a i cnt P f l3 M v M0 v0 hr hf hs hB ht hBt ha hi hcnt h7 h6 h9 h8 h30 hP1 hP
    obtain ⟨f, rfl⟩ := Nat.exists_eq_add_one_of_ne_zero (Nat.ne_of_gt hf)
    by_cases hic : i = cnt
    · subst hic
      rw [Nat.sub_self] at h7
      refine Or.inl ⟨a, M, v, ?_, by omega, ha, τ, M0, v0, 0, by omega, fun F => rfl, kFr_refl e τ, h7, Or.inl rfl⟩
      show kp_R_readMap_5b gI (kp_R_readMap_5 gI f) _ _ _ _ _ = _
      unfold kp_R_readMap_5b
      rw [if_pos (kn_leR (by omega) (by omega))]
    · have hnle : ¬ nI cnt ≤ nI i := fun z => by have := (kn_le (by omega) (by omega)).mp z; omega
      have hno : kHd B k a = none := if_pos (by omega)
      have hm : ¬ kd τ (nI a) M0 v0 0 7 e = 0 := fun z => by
        have z' : τ 7 e = nI 0 := z
        rw [h7] at z'
        have := (kn_eqL 0 (by omega) (by omega)).mp z'
        omega
      rcases kR_key (M := M) (v := v) (l3 := l3) (gI := gI) (K := kp_R_readMap_5 gI f) (e := nI e) hs hB hk48 ha hnle with ⟨a1, v1, g1, _⟩ | ⟨_, g1⟩
      · rw [hno] at g1
        cases g1
      · rcases km_key (d := e) (M0 := M0) (v0 := v0) he ht hBt hk48 ha with ⟨a1, v1, q1, _⟩ | ⟨_, s', q1, q2, q3⟩
        · rw [hno] at q1
          cases q1
        · refine Or.inr ⟨g1, s', 2, by omega, fun F => ?_, q3⟩
          rw [show F + 2 = (F + 1) + 1 from rfl, kL_key (by omega) he rfl hm (show ¬ τ 6 e = 0 by rw [h6]; exact ki_10) (show ¬ τ 9 e = 0 by rw [h9]; exact ki_10), q1, kt_bs]
          exact kL_bad he q2
  | succ r ih =>
    intro σ τ a i cnt P f l3 M v M0 v0 hr hf hs hB ht hBt ha hi hcnt h7 h6 h9 h8 h30 hP1 hP
    obtain ⟨f, rfl⟩ := Nat.exists_eq_add_one_of_ne_zero (show ¬ f = 0 by omega)
    by_cases hic : i = cnt
    · subst hic
      rw [Nat.sub_self] at h7
      refine Or.inl ⟨a, M, v, ?_, by omega, ha, τ, M0, v0, 0, by omega, fun F => rfl, kFr_refl e τ, h7, Or.inl rfl⟩
      show kp_R_readMap_5b gI (kp_R_readMap_5 gI f) _ _ _ _ _ = _
      unfold kp_R_readMap_5b
      rw [if_pos (kn_leR (by omega) (by omega))]
    · have hnle : ¬ nI cnt ≤ nI i := fun z => by have := (kn_le (by omega) (by omega)).mp z; omega
      have hm : ¬ kd τ (nI a) M0 v0 0 7 e = 0 := fun z => by
        have z' : τ 7 e = nI 0 := z
        rw [h7] at z'
        have := (kn_eqL 0 (by omega) (by omega)).mp z'
        omega
      have hkey := fun F => kL_key (f := F) (d := e) (s := kd τ (nI a) M0 v0 0) (by omega) he rfl hm (show ¬ τ 6 e = 0 by rw [h6]; exact ki_10) (show ¬ τ 9 e = 0 by rw [h9]; exact ki_10)
      rcases kR_key (M := M) (v := v) (l3 := l3) (gI := gI) (K := kp_R_readMap_5 gI f) (e := nI e) hs hB hk48 ha hnle with ⟨a1, v1, g1, g2, g3⟩ | ⟨g0, g1⟩
      · rcases km_key (d := e) (M0 := M0) (v0 := v0) he ht hBt hk48 ha with ⟨a1', v1', q1, q2, q3⟩ | ⟨q0, _⟩
        · rw [g1] at q1
          cases q1
          have hsp := kHd_spec hB.1 g1
          have e37 : kp_M_readKey_37 (nI e) 0 (kd τ (nI a1) (nI 0) (nI v1) 0) = some (kd (kt_up (kt_up τ 8 e (nI v1)) 9 e 0) (nI a1) (nI 0) (nI v1) 0) := by
            unfold kp_M_readKey_37 kp_M_readKey_82
            have e24 : kd τ (nI a1) (nI 0) (nI v1) 0 0 24 = nI v1 := rfl
            rw [if_pos ki_b0, if_neg (kn_in (by omega) (by omega)), if_neg (kn_in (by omega) (by omega)), if_neg he1, e24, kd_ba, kn_cl (by omega), kd_row (by omega), kd_row (by omega)]
          have hrun1 : ∀ F, kp_M_formed_53 (F + 1) (nI e) (kd τ (nI a) M0 v0 0) = kp_M_formed_53 F (nI e) (kd (kt_up (kt_up τ 8 e (nI v1)) 9 e 0) (nI a1) (nI 0) (nI v1) 0) := fun F => by
            rw [hkey, q3, e37, kt_bs]
          have hfr1 : kFr e τ (kt_up (kt_up τ 8 e (nI v1)) 9 e 0) := kFr_row (kFr_row (kFr_refl e τ) (by omega) (by omega) (by omega)) (by omega) (by omega) (by omega)
          have x9 : kt_up (kt_up τ 8 e (nI v1)) 9 e 0 9 e = 0 := by
            rw [kt_up_self]
            unfold upd
            rw [if_pos rfl]
          have x8 : kt_up (kt_up τ 8 e (nI v1)) 9 e 0 8 e = nI v1 := by
            rw [kt_up_ne _ _ _ (by omega), kt_up_self]
            unfold upd
            rw [if_pos rfl]
          have x7 : kt_up (kt_up τ 8 e (nI v1)) 9 e 0 7 = τ 7 := rfl
          have x6 : kt_up (kt_up τ 8 e (nI v1)) 9 e 0 6 = τ 6 := rfl
          have x14 : kt_up (kt_up τ 8 e (nI v1)) 9 e 0 14 = τ 14 := rfl
          rcases hI σ (kt_up (kt_up τ 8 e (nI v1)) 9 e 0) a1 (cnt - i - 1) P (nI 0) (nI v1) (nI 0) (nI v1) hs hB ht hBt (by omega) (by rw [x7, h7]; congr 1; omega) (by omega) (Or.inr x9) h30 hP1 hP with ⟨a2, kd', num, M', w1, w2, w3, w4, w5, τ1, M1, v1', c1, k1, k2, k3, k4, k5, k6, k7, k8⟩ | ⟨⟨a', M', v', w1⟩, τ', cst, w2, w3, w4⟩
          · have hcl : kp_R_readMap_5 gI (f + 1) (nI cnt) (nI e) l3 (nI i) (kc σ (nI a) M v) = kp_R_readMap_5 gI f (nI cnt) (nI e) (nI v1) (nI (i + 1)) (kc σ (nI a2) M' (nI num)) := by
              show kp_R_readMap_5b gI (kp_R_readMap_5 gI f) _ _ _ _ _ = _
              rw [g3]
              unfold kKn
              rw [w1, kt_bs]
              dsimp only
              rw [if_neg (kn_m2 (by omega)), if_neg he1, kn_succ]
            have hfr2 := kFr_trans hfr1 k3
            rcases ih σ τ1 a2 (i + 1) cnt P f (nI v1) M' (nI num) M1 v1' (by omega) (by omega) hs hB (by rw [hfr2.2.2.1]; exact ht) (by rw [hfr2.1 2 (by omega) (by omega)]; exact hBt) (by omega) (by omega) hcnt (by rw [k5]; congr 1) (by rw [k4, x6]; exact h6) k7 (by rw [k6, x8]) (by rw [hfr2.2.2.1]; exact h30) hP1 hP with ⟨a3, M3, num3, p1, p2, p3, τ3, M4, v4, c3, p4, p5, p6, p7, p8⟩ | ⟨p1, τ3, c3, p2, p3, p4⟩
            · refine Or.inl ⟨a3, M3, num3, hcl.trans p1, by omega, p3, τ3, M4, v4, c3 + c1 + 1, by omega, fun F => ?_, kFr_trans hfr2 p6, p7, ?_⟩
              · rw [show F + (c3 + c1 + 1) = (F + c3 + c1) + 1 by omega, hrun1, k2, p5]
              · rw [k8, x14] at p8
                by_cases hz : kd' = 0
                · rw [hz, kMk_z] at p8
                  exact p8
                · rcases p8 with p8 | p8
                  · exact Or.inr (p8.trans (kMk_nz hz (by decide)))
                  · rw [kMk_two hz] at p8
                    exact Or.inr (p8.trans (kMk_nz hz (by decide)))
            · refine Or.inr ⟨?_, τ3, c3 + c1 + 1, by omega, fun F => ?_, kFb_trans (kFr_b hfr2) p4⟩
              · rw [hcl]
                exact p1
              · rw [show F + (c3 + c1 + 1) = (F + c3 + c1) + 1 by omega, hrun1, k2, p3]
          · refine Or.inr ⟨⟨a', M', v', ?_⟩, τ', cst + 1, by omega, fun F => ?_, kFb_trans (kFr_b hfr1) w4⟩
            · show kp_R_readMap_5b gI (kp_R_readMap_5 gI f) _ _ _ _ _ = _
              rw [g3]
              unfold kKn
              rw [w1, kt_bs]
              exact if_pos rfl
            · rw [show F + (cst + 1) = (F + cst) + 1 by omega, hrun1, w3]
        · exact absurd g2 (h8 ▸ q0 a1 v1 g1)
      · rcases km_key (d := e) (M0 := M0) (v0 := v0) he ht hBt hk48 ha with ⟨a1', v1', q1, q2, q3⟩ | ⟨q0, s', q1, q2, q3⟩
        · exact absurd (h8 ▸ q2) (g0 a1' v1' q1)
        · refine Or.inr ⟨g1, s', 2, by omega, fun F => ?_, q3⟩
          rw [show F + 2 = (F + 1) + 1 from rfl, hkey, q1, kt_bs]
          exact kL_bad he q2
