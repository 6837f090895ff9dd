/-! The items of the outermost map. -/
/-- what the reference keeps of a pair, and what the class keeps of its key -/
def kEn (B : Nat → Nat) (k : Nat) (ki va pl fl : Int32) (kC nC eC : Int32) : Prop := ∃ Mj w p : Nat, ki = nI Mj ∧ va = nI w ∧ pl = nI p ∧ Mj < 8 ∧ w < 2147483648 ∧ p ≤ k ∧ ((Mj = 4 ∧ ((kC = nI 4 ∧ fl = 1 ∧ kAl B k w p ∧ ∃ m : Nat, m < 128 ∧ nC = nI m ∧ ∀ x, x ≤ 6 → m.testBit x = kLs B k w p x) ∨ (kC = nI 8 ∧ fl = 0))) ∨ (Mj = 5 ∧ kC = nI 5) ∨ ((Mj = 2 ∨ Mj = 3) ∧ kC = nI Mj ∧ nC = nI w ∧ eC = nI (p + w) ∧ p + w ≤ k) ∨ (¬ Mj = 2 ∧ ¬ Mj = 3 ∧ ¬ Mj = 4 ∧ ¬ Mj = 5 ∧ kC = nI Mj ∧ nC = nI w))
/-- what an item of the outermost map leaves as it was, in the reference -/
def kF1 (τ τ' : kt_S) : Prop := (∀ q, q < 6 → ¬ q = 0 → τ' q = τ q) ∧ (∀ q, 15 ≤ q → τ' q = τ q) ∧ (∀ f, ¬ f = 30 → τ' 0 f = τ 0 f) ∧ (∀ q j, 6 ≤ q → q < 10 → j < 1 → τ' q j = τ q j) ∧ τ' 10 = τ 10
theorem kF1_b {τ τ' : kt_S} (h : kF1 τ τ') : kFb τ τ' := ⟨h.1, h.2.1, fun f hf => h.2.2.1 f (by omega)⟩
theorem km_item1 {B : Nat → Nat} {k a c P a1 M1 v1 : Nat} {τ : kt_S} {M0 v0 : Int32} (ht : τ 0 10 = nI k) (hB : kBy B (τ 2)) (hk48 : k ≤ 48) (ha : a ≤ k) (h7 : τ 7 1 = nI (c + 1)) (h30 : τ 0 30 = nI P) (hP : P < 24) (h1 : kHd B k a = some (a1, M1, v1)) : ∃ τ2, kp_M_item (nI 1) (kd τ (nI a) M0 v0 0) = kp_M_item_123 (nI 1) (nI a) (kd τ2 (nI a1) (nI M1) (nI v1) 0) ∧ kF1 τ τ2 ∧ τ2 6 1 = τ 6 1 ∧ τ2 7 1 = nI c ∧ τ2 8 1 = τ 8 1 ∧ τ2 9 1 = 1 ∧ τ2 0 30 = nI (P + 1) ∧ τ2 11 = upd (τ 11) P (nI M1) ∧ τ2 12 = upd (τ 12) P (nI v1) ∧ τ2 13 = upd (τ 13) P (nI a1) ∧ τ2 14 = upd (τ 14) P 1 := by
  have hsp := kHd_spec hB.1 h1
  unfold kp_M_item kp_M_item_0 kp_M_item_99
  rcases km_head (M := M0) (v := v0) hB ht hk48 (show a ≤ 48 by omega) with ⟨a1', M1', v1', h2, h3⟩ | ⟨h2, _⟩
  · rw [h1] at h2
    cases h2
    have e25 : kd τ (nI a1) (nI M1) (nI v1) 0 0 25 = 0 := rfl
    have e7 : kd τ (nI a1) (nI M1) (nI v1) 0 7 1 = nI (c + 1) := h7
    have e22 : kd τ (nI a) M0 v0 0 0 22 = nI a := rfl
    have e22' : kd τ (nI a1) (nI M1) (nI v1) 0 0 22 = nI a1 := rfl
    have e23' : kd τ (nI a1) (nI M1) (nI v1) 0 0 23 = nI M1 := rfl
    have e24' : kd τ (nI a1) (nI M1) (nI v1) 0 0 24 = nI v1 := rfl
    have e30 : kd τ (nI a1) (nI M1) (nI v1) 0 0 30 = nI P := h30
    have k30 : ∀ (s : kt_S) (a M v b x : Int32), kt_up (kd s a M v b) 0 30 x = kd (kt_up s 0 30 x) a M v b := fun s a M v b x => by
      unfold kd
      rw [kt_up_comm (by omega : ¬ 25 = 30), kt_up_comm (by omega : ¬ 24 = 30), kt_up_comm (by omega : ¬ 23 = 30), kt_up_comm (by omega : ¬ 22 = 30)]
    rw [h3, kt_bs, if_neg (kn_in (by omega) (by omega)), if_neg (kn_in (by omega) (by omega)), if_neg (kn_in (by omega) (by omega)), e25, if_pos rfl, if_pos (show nI 1 = 1 from rfl), e30, if_neg (kn_in (by omega) (by omega)), if_neg (kn_in (by omega) (by omega)), if_neg (kn_in (by omega) (by omega)), if_neg (kn_in (by omega) (by omega)), if_neg (show ¬ nI 1 = 2 by decide), kn_cl (show 1 < 2147483648 by omega), kn_cl (show P < 2147483648 by omega), e7, nI_pred, e22, e22', e23', e24', kn_succ, kd_row (by omega), kd_row (by omega), kd_row (by omega), kd_row (by omega), kd_row (by omega), kd_row (by omega), k30]
    refine ⟨_, rfl, ⟨fun q h1 h2 => ?_, fun q h1 => ?_, fun f hf => ?_, fun q j h1 h2 h3 => ?_, rfl⟩, rfl, rfl, rfl, rfl, rfl, rfl, rfl, rfl, rfl⟩
    · rw [kt_up_ne _ _ _ (by omega), kt_up_ne _ _ _ (by omega), kt_up_ne _ _ _ (by omega), kt_up_ne _ _ _ (by omega), kt_up_ne _ _ _ (by omega), kt_up_ne _ _ _ (by omega), kt_up_ne _ _ _ (by omega)]
    · rw [kt_up_ne _ _ _ (by omega), kt_up_ne _ _ _ (by omega), kt_up_ne _ _ _ (by omega), kt_up_ne _ _ _ (by omega), kt_up_ne _ _ _ (by omega), kt_up_ne _ _ _ (by omega), kt_up_ne _ _ _ (by omega)]
    · show upd (τ 0) 30 (nI (P + 1)) f = τ 0 f
      unfold upd
      rw [if_neg hf]
    · have hj : j = 0 := by omega
      subst hj
      have hq : q = 6 ∨ q = 7 ∨ q = 8 ∨ q = 9 := by omega
      rcases hq with rfl | rfl | rfl | rfl <;> rfl
  · rw [h1] at h2
    cases h2
theorem kMk_off {e P M j : Nat} {f : Nat → Int32} (h : ¬ j = P) : kMk e (P + 1) M f j = f j := by
  unfold kMk
  by_cases z : e = 2 ∧ ¬ M = 0
  · rw [if_pos z]
    exact if_neg h
  · rw [if_neg z]
def kI1 (B : Nat → Nat) (k : Nat) (gI : Int32 → kt_S → Option (Int32 × kt_S)) : Prop :=
  ∀ (σ τ : kt_S) (a c P : Nat) (M v M0 v0 : Int32), σ 7 2 = nI k → kBy B (σ 8) → τ 0 10 = nI k → kBy B (τ 2) → a ≤ k → τ 7 1 = nI (c + 1) → c + 1 < 2147483648 → (τ 6 1 = 0 ∨ τ 9 1 = 0) → τ 0 30 = nI P → P < 24 →
    (∃ (a' kC num : Nat) (M' : Int32), gI (nI 1) (kc σ (nI a) M v) = some (nI kC, kc σ (nI a') M' (nI num)) ∧ a < a' ∧ a' ≤ k ∧ kC < 9 ∧ ∃ (τ' : kt_S) (M1 v1 : Int32) (cst : Nat), cst ≤ 2 * (a' - a) ∧ (∀ F, kp_M_formed_53 (F + cst) (nI 1) (kd τ (nI a) M0 v0 0) = kp_M_formed_53 F (nI 1) (kd τ' (nI a') M1 v1 0)) ∧ kF1 τ τ' ∧ τ' 6 1 = τ 6 1 ∧ τ' 7 1 = nI c ∧ τ' 8 1 = τ 8 1 ∧ τ' 9 1 = 1 ∧ τ' 0 30 = nI (P + 1) ∧ (∀ j, ¬ j = P → τ' 11 j = τ 11 j ∧ τ' 12 j = τ 12 j ∧ τ' 13 j = τ 13 j ∧ τ' 14 j = τ 14 j) ∧ kEn B k (τ' 11 P) (τ' 12 P) (τ' 13 P) (τ' 14 P) (nI kC) (nI num) (nI a'))
    ∨ ((∃ a' M' v' : Int32, gI (nI 1) (kc σ (nI a) M v) = some (-2, kc σ a' M' v')) ∧ ∃ (τ' : kt_S) (cst : Nat), cst ≤ 2 * (k - a) + 2 ∧ (∀ F, kp_M_formed_53 (F + cst) (nI 1) (kd τ (nI a) M0 v0 0) = some (0, τ')) ∧ kFb τ τ')
theorem kI1_item {B : Nat → Nat} {k N : Nat} (hk48 : k ≤ 48) (hI : kIS B k 2 (kp_R_readItem_n N)) : kI1 B k (kp_R_readItem_n (N + 1)) := by
  intro σ τ a c P M v M0 v0 hs hB ht hBt ha h7 hc hi h30 hP
  have hm : ¬ kd τ (nI a) M0 v0 0 7 1 = 0 := fun z => by
    have z' : τ 7 1 = nI 0 := z
    rw [h7] at z'
    have := (kn_eqL 0 (by omega) (by omega)).mp z'
    omega
  have hrun := fun F => kL_item (f := F) (d := 1) (s := kd τ (nI a) M0 v0 0) (by omega) (by omega) rfl hm hi
  have hcl : kp_R_readItem_n (N + 1) (nI 1) (kc σ (nI a) M v) = kp_R_readItem_0 (kp_R_readList_0 (kp_R_readItem_n N)) (kp_R_readMap_0 (kp_R_readItem_n N)) (nI 1) (kc σ (nI a) M v) := rfl
  rw [hcl]
  have badly : ∀ s', kp_M_item (nI 1) (kd τ (nI a) M0 v0 0) = some (nI 1, s') → s' 0 25 = 1 → ∀ F, kp_M_formed_53 (F + 2) (nI 1) (kd τ (nI a) M0 v0 0) = some (0, s') := fun s' h1 h2 F => by
    rw [show F + 2 = (F + 1) + 1 from rfl, hrun, h1, kt_bs]
    exact kL_bad (by omega) h2
  unfold kp_R_readItem_0 kp_R_readItem_26 kp_R_readItem_42 kp_R_readItem_64 kp_R_readItem_105
  rcases kR_head (M := M) (v := v) hB hs hk48 (show a ≤ 48 by omega) with ⟨a1, M1, v1, h1, h2⟩ | ⟨h1, a1, M1, v1, h2⟩
  · have hsp := kHd_spec hB.1 h1
    obtain ⟨τ2, t1, t2, t3, t4, t5, t6, t8, t11, t12, t13, t14⟩ := km_item1 (M0 := M0) (v0 := v0) ht hBt hk48 ha h7 h30 hP h1
    have ht2 : τ2 0 10 = nI k := by rw [t2.2.2.1 10 (by omega)]; exact ht
    have hB2 : kBy B (τ2 2) := by rw [t2.1 2 (by omega) (by omega)]; exact hBt
    have same : ∀ (f : Nat → Int32) (x : Int32) j, ¬ j = P → upd f P x j = f j := fun f x j hj => if_neg hj
    have here : ∀ (f : Nat → Int32) (x : Int32), upd f P x P = x := fun f x => if_pos rfl
    have hkeep : ∀ j, ¬ j = P → τ2 11 j = τ 11 j ∧ τ2 12 j = τ 12 j ∧ τ2 13 j = τ 13 j ∧ τ2 14 j = τ 14 j := fun j hj => ⟨by rw [t11]; exact same _ _ j hj, by rw [t12]; exact same _ _ j hj, by rw [t13]; exact same _ _ j hj, by rw [t14]; exact same _ _ j hj⟩
    have w11 : τ2 11 P = nI M1 := by rw [t11]; exact here _ _
    have w12 : τ2 12 P = nI v1 := by rw [t12]; exact here _ _
    have w13 : τ2 13 P = nI a1 := by rw [t13]; exact here _ _
    have w14 : τ2 14 P = 1 := by rw [t14]; exact here _ _
    have e5 : kc σ (nI a1) (nI M1) (nI v1) 6 5 = nI M1 := rfl
    have e6 : kc σ (nI a1) (nI M1) (nI v1) 6 6 = nI v1 := rfl
    rw [h2, kt_bs]
    dsimp only
    rw [if_neg ki_10]
    simp only [e5, e6]
    by_cases hs23 : M1 = 2 ∨ M1 = 3
    · have h2or3 : nI M1 = 2 ∨ nI M1 = 3 := by
        rcases hs23 with rfl | rfl
        · exact Or.inl rfl
        · exact Or.inr rfl
      have hK : ∀ (X Y : Option (Int32 × kt_S)), (if nI M1 = 2 then X else if nI M1 = 3 then X else Y) = X := fun X Y => by
        by_cases z : nI M1 = 2
        · rw [if_pos z]
        · rw [if_neg z, if_pos (h2or3.resolve_left z)]
      rw [hK]
      rcases kR_pass (v := v1) hB hs hk48 (show a1 ≤ k by omega) hs23 (by omega) with ⟨g1, g2⟩ | ⟨g1, a', M', v', g2⟩
      · rcases km_str (d := 1) (a := a) (v1 := v1) ht2 hB2 hk48 (show a1 ≤ k by omega) (by omega) hs23 with ⟨_, q2⟩ | ⟨q1, _⟩
        · refine Or.inl ⟨a1 + v1, M1, v1, nI M1, ?_, by omega, g1.1, by omega, τ2, nI M1, nI v1, 1, by omega, fun F => ?_, t2, t3, t4, t5, t6, t8, hkeep, ?_⟩
          · rw [g2, kt_bs]
            exact if_neg ki_10
          · rw [hrun, t1, q2, kt_bs]
          · exact ⟨M1, v1, a1, w11, w12, w13, by omega, by omega, by omega, Or.inr (Or.inr (Or.inl ⟨hs23, rfl, rfl, rfl, g1.1⟩))⟩
        · exact absurd g1 q1
      · rcases km_str (d := 1) (a := a) (v1 := v1) ht2 hB2 hk48 (show a1 ≤ k by omega) (by omega) hs23 with ⟨q1, _⟩ | ⟨_, s', q1, q2, q3⟩
        · exact absurd q1 g1
        · refine Or.inr ⟨⟨a', M', v', ?_⟩, s', 2, by omega, badly s' (by rw [t1, q1]) q2, kFb_trans (kF1_b t2) q3⟩
          rw [g2, kt_bs]
          exact if_pos rfl
    have n2 : ¬ nI M1 = 2 := fun z => hs23 (Or.inl ((kn_eqL 2 (by omega) (by omega)).mp z))
    have n3 : ¬ nI M1 = 3 := fun z => hs23 (Or.inr ((kn_eqL 3 (by omega) (by omega)).mp z))
    rw [if_neg n2, if_neg n3]
    have e23 : kd τ2 (nI a1) (nI M1) (nI v1) 0 0 23 = nI M1 := rfl
    have e123 : kp_M_item_123 (nI 1) (nI a) (kd τ2 (nI a1) (nI M1) (nI v1) 0) = kp_M_item_179 (nI 1) (kd τ2 (nI a1) (nI M1) (nI v1) 0) := by
      unfold kp_M_item_123
      rw [e23, if_neg n2, if_neg n3]
    by_cases h45 : M1 = 4 ∨ M1 = 5
    · have e179 : kp_M_item_179 (nI 1) (kd τ2 (nI a1) (nI M1) (nI v1) 0) = kp_M_item_197 (nI 1) (kd τ2 (nI a1) (nI M1) (nI v1) 0) := by
        unfold kp_M_item_179
        rw [e23]
        rcases h45 with rfl | rfl
        · rw [if_pos (by decide)]
        · rw [if_neg (by decide), if_pos (by decide)]
      have e208 : kp_M_item (nI 1) (kd τ (nI a) M0 v0 0) = some (nI 2, kd (kt_up (kt_up (kt_up (kt_up τ2 6 2 (if M1 = 5 then 1 else 0)) 7 2 (nI v1)) 8 2 (-1)) 9 2 1) (nI a1) (nI M1) (nI v1) 0) := by
        rw [t1, e123, e179]
        unfold kp_M_item_197 kp_M_item_208
        have hen : kp_M_enter (nI 1 + 1) (kd τ2 (nI a1) (nI M1) (nI v1) 0) = _ := km_enter (d := 2) (τ := τ2) (a := nI a1) (b := 0) (v1 := v1) (by omega) h45
        rw [if_neg (by decide), if_pos ki_b0, if_pos rfl, kd_ba, hen, kt_bs]
        unfold kp_M_item_225 kp_M_item_239
        exact if_pos rfl
      generalize hτ3 : kt_up (kt_up (kt_up (kt_up τ2 6 2 (if M1 = 5 then 1 else 0)) 7 2 (nI v1)) 8 2 (-1)) 9 2 1 = τ3 at e208
      have f3 : kFr 2 τ2 τ3 := by
        rw [← hτ3]
        exact kFr_row (kFr_row (kFr_row (kFr_row (kFr_refl 2 τ2) (by omega) (by omega) (by omega)) (by omega) (by omega) (by omega)) (by omega) (by omega) (by omega)) (by omega) (by omega) (by omega)
      have y6 : τ3 6 2 = if M1 = 5 then 1 else 0 := by rw [← hτ3]; rfl
      have y7 : τ3 7 2 = nI v1 := by rw [← hτ3]; rfl
      have y8 : τ3 8 2 = -1 := by rw [← hτ3]; rfl
      have y9 : τ3 9 2 = 1 := by rw [← hτ3]; rfl
      have z14 : τ3 14 = τ2 14 := by rw [← hτ3]; rfl
      have ht3 : τ3 0 10 = nI k := by rw [f3.2.2.1]; exact ht2
      have h303 : τ3 0 30 = nI (P + 1) := by rw [f3.2.2.1]; exact t8
      have hB3 : kBy B (τ3 2) := by rw [f3.1 2 (by omega) (by omega)]; exact hB2
      have hin : ∀ F, kp_M_formed_53 (F + 1) (nI 1) (kd τ (nI a) M0 v0 0) = kp_M_formed_53 F (nI 2) (kd τ3 (nI a1) (nI M1) (nI v1) 0) := fun F => by rw [hrun, e208, kt_bs]
      have done : ∀ (a' kC num : Nat) (τ' : kt_S) (M2 v2 : Int32) (cst : Nat), a1 ≤ a' → a' ≤ k → cst ≤ 2 * (a' - a1) → (∀ F, kp_M_formed_53 (F + cst) (nI 2) (kd τ3 (nI a1) (nI M1) (nI v1) 0) = kp_M_formed_53 F (nI 2) (kd τ' (nI a') M2 v2 0)) → kFr 2 τ3 τ' → τ' 7 2 = nI 0 → (∀ j, ¬ j = P → τ' 14 j = τ2 14 j) → kEn B k (nI M1) (nI v1) (nI a1) (τ' 14 P) (nI kC) (nI num) (nI a') → ∃ (τ'' : kt_S) (M1 v1 : Int32) (cst : Nat), cst ≤ 2 * (a' - a) ∧ (∀ F, kp_M_formed_53 (F + cst) (nI 1) (kd τ (nI a) M0 v0 0) = kp_M_formed_53 F (nI 1) (kd τ'' (nI a') M1 v1 0)) ∧ kF1 τ τ'' ∧ τ'' 6 1 = τ 6 1 ∧ τ'' 7 1 = nI c ∧ τ'' 8 1 = τ 8 1 ∧ τ'' 9 1 = 1 ∧ τ'' 0 30 = nI (P + 1) ∧ (∀ j, ¬ j = P → τ'' 11 j = τ 11 j ∧ τ'' 12 j = τ 12 j ∧ τ'' 13 j = τ 13 j ∧ τ'' 14 j = τ 14 j) ∧ kEn B k (τ'' 11 P) (τ'' 12 P) (τ'' 13 P) (τ'' 14 P) (nI kC) (nI num) (nI a') := by
        intro a' kC num τ' M2 v2 cst ha1 ha' hcst hgo hfr hp h14 hen
        have fa := kFr_trans f3 hfr
        have r11 : τ' 11 = τ2 11 := fa.2.2.2.2 11 (by omega) (by omega)
        have r12 : τ' 12 = τ2 12 := fa.2.2.2.2 12 (by omega) (by omega)
        have r13 : τ' 13 = τ2 13 := fa.2.2.2.2 13 (by omega) (by omega)
        refine ⟨τ', M2, v2, cst + 2, by omega, fun F => ?_, ⟨fun q h1 h2 => (fa.1 q h1 h2).trans (t2.1 q h1 h2), fun q h1 => (fa.2.1 q h1).trans (t2.2.1 q h1), fun f hf => (fa.2.2.1 f).trans (t2.2.2.1 f hf), fun q j h1 h2 h3 => (fa.2.2.2.1 q j h1 h2 (by omega)).trans (t2.2.2.2.1 q j h1 h2 h3), (fa.2.2.2.2 10 (by omega) (by omega)).trans t2.2.2.2.2⟩, ?_, ?_, ?_, ?_, ?_, fun j hj => ?_, ?_⟩
        · rw [show F + (cst + 2) = ((F + 1) + cst) + 1 by omega, hin, hgo]
          exact kL_pop (d := 1) (by omega) rfl hp
        · rw [fa.2.2.2.1 6 1 (by omega) (by omega) (by omega), t3]
        · rw [fa.2.2.2.1 7 1 (by omega) (by omega) (by omega), t4]
        · rw [fa.2.2.2.1 8 1 (by omega) (by omega) (by omega), t5]
        · rw [fa.2.2.2.1 9 1 (by omega) (by omega) (by omega), t6]
        · rw [fa.2.2.1, t8]
        · rw [r11, r12, r13, h14 j hj]
          exact hkeep j hj
        · rw [r11, r12, r13, w11, w12, w13]
          exact hen
      rcases h45 with rfl | rfl
      · rw [if_pos (by decide), if_pos (by decide), if_pos (by decide)]
        rcases kR_list hk48 (by omega) hI 48 σ τ3 a1 0 v1 (P + 1) 4 0 100 (nI 4) (nI v1) (nI 4) (nI v1) (by omega) (by omega) hs hB ht3 hB3 (by omega) (by omega) (by omega) (by rw [y7]; rfl) (by rw [y6]; rfl) h303 (by omega) (by omega) (by omega) (by omega) with ⟨a', al, m', M', q1, q2, q3, q4, q5, τ', M2, v2, cst, p1, p2, p3, p4, p5⟩ | ⟨⟨a', M', v', q1⟩, τ', cst, p1, p2, p3⟩
        · have q1' : kp_R_readList_0 (kp_R_readItem_n N) (nI v1) (nI 1 + 1) (kc σ (nI a1) (nI 4) (nI v1)) = some (nI (if al then 4 else 8), kc σ (nI a') M' (nI m')) := q1
          have hkk : (if al then 4 else 8) < 9 := by cases al <;> decide
          refine Or.inl ⟨a', _, m', M', by rw [q1', kt_bs], by omega, q3, hkk, done a' _ m' τ' M2 v2 cst q2 q3 p1 p2 p3 p4 ?_ ?_⟩
          · intro j hj
            rw [p5, z14]
            exact kMk_off hj
          · refine ⟨4, v1, a1, rfl, rfl, rfl, by omega, by omega, by omega, Or.inl ⟨rfl, ?_⟩⟩
            cases al with
            | true =>
              obtain ⟨u1, u2⟩ := q5 rfl
              refine Or.inl ⟨rfl, ?_, u1, m', q4, rfl, fun x hx => ?_⟩
              · rw [p5, z14]
                show kMk 2 (P + 1) 0 (τ2 14) P = 1
                rw [kMk_z]
                exact w14
              · have h0 : (0 : Nat).testBit x = false := Nat.zero_testBit x
                rw [u2 x hx, h0, Bool.false_or]
                rfl
            | false =>
              refine Or.inr ⟨rfl, ?_⟩
              rw [p5]
              show kMk 2 (P + 1) 8 (τ3 14) P = 0
              unfold kMk
              rw [if_pos (by omega)]
              exact if_pos rfl
        · have q1' : kp_R_readList_0 (kp_R_readItem_n N) (nI v1) (nI 1 + 1) (kc σ (nI a1) (nI 4) (nI v1)) = some (-2, kc σ a' M' v') := q1
          refine Or.inr ⟨⟨a', M', v', by rw [q1', kt_bs]⟩, τ', cst + 1, by omega, fun F => ?_, kFb_trans (kF1_b t2) (kFb_trans (kFr_b f3) p3)⟩
          rw [show F + (cst + 1) = (F + cst) + 1 by omega, hin, p2]
      · rw [if_neg (by decide), if_pos (by decide), if_pos (by decide), if_neg (by decide)]
        rcases kR_map hk48 (by omega) (by omega) hI 48 σ τ3 a1 0 v1 (P + 1) 100 (-1) (nI 5) (nI v1) (nI 5) (nI v1) (by omega) (by omega) hs hB ht3 hB3 (by omega) (by omega) (by omega) (by rw [y7]; rfl) (by rw [y6]; rfl) y9 y8 h303 (by omega) (by omega) with ⟨a', M', num, q1, q2, q3, τ', M2, v2, cst, p1, p2, p3, p4, p5⟩ | ⟨⟨a', M', v', q1⟩, τ', cst, p1, p2, p3⟩
        · obtain ⟨w, hw⟩ := kn_any num
          have q1' : kp_R_readMap_0 (kp_R_readItem_n N) (nI v1) (nI 1 + 1) (kc σ (nI a1) (nI 5) (nI v1)) = some (nI 5, kc σ (nI a') M' num) := q1
          refine Or.inl ⟨a', 5, w, M', by rw [q1', kt_bs, hw], by omega, q3, by omega, done a' 5 w τ' M2 v2 cst q2 q3 p1 p2 p3 p4 ?_ ⟨5, v1, a1, rfl, rfl, rfl, by omega, by omega, by omega, Or.inr (Or.inl ⟨rfl, rfl⟩)⟩⟩
          intro j hj
          rcases p5 with p5 | p5
          · rw [p5, z14]
          · rw [p5, z14]
            unfold kMk
            split
            · exact if_neg (by omega)
            · rfl
        · have q1' : kp_R_readMap_0 (kp_R_readItem_n N) (nI v1) (nI 1 + 1) (kc σ (nI a1) (nI 5) (nI v1)) = some (-2, kc σ a' M' v') := q1
          refine Or.inr ⟨⟨a', M', v', by rw [q1', kt_bs]⟩, τ', cst + 1, by omega, fun F => ?_, kFb_trans (kF1_b t2) (kFb_trans (kFr_b f3) p3)⟩
          rw [show F + (cst + 1) = (F + cst) + 1 by omega, hin, p2]
    · have n4 : ¬ nI M1 = 4 := fun z => h45 (Or.inl ((kn_eqL 4 (by omega) (by omega)).mp z))
      have n5 : ¬ nI M1 = 5 := fun z => h45 (Or.inr ((kn_eqL 5 (by omega) (by omega)).mp z))
      rw [if_neg n4, if_neg n5]
      refine Or.inl ⟨a1, M1, v1, nI M1, rfl, by omega, by omega, by omega, τ2, nI M1, nI v1, 1, by omega, fun F => ?_, t2, t3, t4, t5, t6, t8, hkeep, ⟨M1, v1, a1, w11, w12, w13, by omega, by omega, by omega, Or.inr (Or.inr (Or.inr ⟨by omega, by omega, by omega, by omega, rfl, rfl⟩))⟩⟩
      rw [hrun, t1, e123]
      unfold kp_M_item_179
      rw [e23, if_neg n4, if_neg n5, kt_bs]
  · obtain ⟨s', g1, g2, g3⟩ := km_item_bad (M0 := M0) (v0 := v0) (d := 1) (by omega) ht hBt hk48 ha h7 h1
    refine Or.inr ⟨⟨a1, M1, v1, ?_⟩, s', 2, by omega, badly s' g1 g2, g3⟩
    rw [h2, kt_bs]
    exact if_pos rfl
