/-! Both read the same head. -/
theorem kR_wideAll {B : Nat → Nat} {σ : kt_S} (hB : kBy B (σ 8)) {k a w lo : Nat} {M x : Int32} (hk : σ 7 2 = nI k) (hk48 : k ≤ 48) (ha : a + 1 ≤ k) (hwl : (w = 1 ∧ lo = 24) ∨ (w = 2 ∧ lo = 256) ∨ (w = 4 ∧ lo = 65536)) : kp_R_readWide (nI w) (kc σ (nI (a + 1)) M x) = if a + 1 + w ≤ k then some (if lo ≤ kW B (a + 1) w ∧ kW B (a + 1) w < 2147483648 then 1 else 0, kc σ (nI (a + 1 + w)) M (nI (kW B (a + 1) w))) else some (0, kc σ (nI (a + 1)) M x) := by
  have hw4 : w ≤ 4 := by omega
  have e7 : kc σ (nI (a + 1)) M x 7 2 - kc σ (nI (a + 1)) M x 6 4 = nI (k - (a + 1)) := by
    show σ 7 2 - nI (a + 1) = _
    rw [hk, kn_sub ha]
  unfold kp_R_readWide kp_R_readWide_0
  rw [e7, kc_nu]
  by_cases h : a + 1 + w ≤ k
  · rw [if_pos (show nI w ≤ nI (k - (a + 1)) from kn_leR (by omega) (by omega)), if_pos h]
    have hl := kR_wide hB (a := a + 1) (w := w) (M := M) hw4 (by omega) w 0 100 (by omega) (by omega)
    have hl' : kp_R_readWide_25 100 (nI w) 0 (kc σ (nI (a + 1)) M 0) = _ := hl
    have hlt : kW B (a + 1) w < 4294967296 := by
      have h1 := kW_lt hB.1 (a + 1) w
      have h2 : 256 ^ w ≤ 256 ^ 4 := Nat.pow_le_pow_right (by omega) hw4
      omega
    rw [hl']
    rcases hwl with ⟨rfl, rfl⟩ | ⟨rfl, rfl⟩ | ⟨rfl, rfl⟩
    · rw [if_pos (by decide)]
      exact kR_wide97 (lo := 24) hlt (by omega) _
    · rw [if_neg (by decide), if_pos (by decide)]
      exact kR_wide97 (lo := 256) hlt (by omega) _
    · rw [if_neg (by decide), if_neg (by decide)]
      exact kR_wide97 (lo := 65536) hlt (by omega) _
  · rw [if_neg (show ¬ nI w ≤ nI (k - (a + 1)) from fun z => by have := (kn_le (by omega) (by omega)).mp z; omega), if_neg h]
theorem kR_head {B : Nat → Nat} {σ : kt_S} (hB : kBy B (σ 8)) {k a : Nat} {M v : Int32} (hk : σ 7 2 = nI k) (hk48 : k ≤ 48) (ha : a ≤ 48) : (∃ a' M' v', kHd B k a = some (a', M', v') ∧ kp_R_readHead (kc σ (nI a) M v) = some (1, kc σ (nI a') (nI M') (nI v'))) ∨ (kHd B k a = none ∧ ∃ a' M' v' : Int32, kp_R_readHead (kc σ (nI a) M v) = some (0, kc σ a' M' v')) := by
  have e4 : kc σ (nI a) M v 6 4 = nI a := rfl
  have e7 : kc σ (nI a) M v 7 2 = nI k := hk
  unfold kHd kp_R_readHead kp_R_readHead_0 kp_R_readHead_21 kp_R_readHead_97 kp_R_readHead_102 kp_R_readHead_120 kp_R_readHead_156 kp_R_readHead_160 kp_R_readHead_161
  rw [e4, e7, if_neg (kn_nn (by omega)), if_pos ki_b0, if_pos ki_b1]
  by_cases h0 : k ≤ a
  · rw [if_pos h0, if_neg (show ¬ nI a < nI k from kn_geL (by omega) h0 (by omega))]
    exact Or.inr ⟨rfl, _, _, _, rfl⟩
  have e8 : kc σ (nI a) M v 8 a = nI (B a) := hB.2 a (by omega)
  have hb := hB.1 a
  rw [if_neg h0, if_pos ((kn_lt (by omega) (by omega)).mpr (by omega)), if_neg (kn_in (by omega) (by omega)), if_neg (kn_in (by omega) (by omega)), kn_cl (by omega), e8, kn_s5 hb, kn_m31 hb, kn_succ, kc_ma, kc_nu, kc_at]
  by_cases h7 : B a / 32 = 7
  · rw [if_pos h7, if_pos (show nI (B a / 32) = 7 by rw [h7]; rfl)]
    by_cases m20 : B a % 32 = 20
    · rw [if_pos (Or.inl m20), if_pos (show nI (B a % 32) = 20 by rw [m20]; rfl), h7]
      exact Or.inl ⟨_, _, _, rfl, rfl⟩
    · rw [if_neg (show ¬ nI (B a % 32) = 20 from fun z => m20 ((kn_eqL 20 (by omega) (by omega)).mp z))]
      by_cases m21 : B a % 32 = 21
      · rw [if_pos (Or.inr m21), if_pos (show nI (B a % 32) = 21 by rw [m21]; rfl), h7]
        exact Or.inl ⟨_, _, _, rfl, rfl⟩
      · rw [if_neg (show ¬ nI (B a % 32) = 21 from fun z => m21 ((kn_eqL 21 (by omega) (by omega)).mp z)), if_neg (by omega)]
        exact Or.inr ⟨rfl, _, _, _, rfl⟩
  rw [if_neg h7, if_neg (show ¬ nI (B a / 32) = 7 from fun z => h7 ((kn_eqL 7 (by omega) (by omega)).mp z))]
  by_cases h1 : B a / 32 = 1
  · rw [if_pos (Or.inl h1), if_pos (show nI (B a / 32) = 1 by rw [h1]; rfl)]
    exact Or.inr ⟨rfl, _, _, _, rfl⟩
  rw [if_neg (show ¬ nI (B a / 32) = 1 from fun z => h1 ((kn_eqL 1 (by omega) (by omega)).mp z))]
  by_cases h6 : B a / 32 = 6
  · rw [if_pos (Or.inr h6), if_pos (show nI (B a / 32) = 6 by rw [h6]; rfl)]
    exact Or.inr ⟨rfl, _, _, _, rfl⟩
  rw [if_neg (show ¬ nI (B a / 32) = 6 from fun z => h6 ((kn_eqL 6 (by omega) (by omega)).mp z)), if_neg (by omega)]
  by_cases m24 : B a % 32 < 24
  · rw [if_pos m24, if_pos (show nI (B a % 32) < 24 from (kn_lt (b := 24) (by omega) (by omega)).mpr m24)]
    exact Or.inl ⟨_, _, _, rfl, rfl⟩
  rw [if_neg m24, if_neg (show ¬ nI (B a % 32) < 24 from kn_geL (a := B a % 32) (b := 24) (by omega) (by omega) (by omega))]
  have wide : ∀ m w lo, B a % 32 = m → m ≤ 26 → (1 : Int32) <<< ((nI m - 24) &&& 31) = nI w → ((w = 1 ∧ lo = 24) ∨ (w = 2 ∧ lo = 256) ∨ (w = 4 ∧ lo = 65536)) → (∃ a' M' v', kHw B k a w lo = some (a', M', v') ∧ (if (26 : Int32) < nI (B a % 32) then some ((0 : Int32), kc σ (nI (a + 1)) (nI (B a / 32)) (nI (B a % 32))) else Option.bind (kp_R_readWide ((1 : Int32) <<< ((nI (B a % 32) - 24) &&& 31)) (kc σ (nI (a + 1)) (nI (B a / 32)) (nI (B a % 32)))) fun x1 => if x1.1 = 0 then some (0, x1.2) else some (1, x1.2)) = some (1, kc σ (nI a') (nI M') (nI v'))) ∨ (kHw B k a w lo = none ∧ ∃ a' M' v' : Int32, (if (26 : Int32) < nI (B a % 32) then some ((0 : Int32), kc σ (nI (a + 1)) (nI (B a / 32)) (nI (B a % 32))) else Option.bind (kp_R_readWide ((1 : Int32) <<< ((nI (B a % 32) - 24) &&& 31)) (kc σ (nI (a + 1)) (nI (B a / 32)) (nI (B a % 32)))) fun x1 => if x1.1 = 0 then some (0, x1.2) else some (1, x1.2)) = some (0, kc σ a' M' v')) := by
    intro m w lo hm hm26 hs hwl
    rw [hm, if_neg (show ¬ (26 : Int32) < nI m from kn_geL (a := 26) (b := m) (by omega) hm26 (by omega)), hs, kR_wideAll hB hk hk48 (by omega) hwl]
    unfold kHw
    by_cases hc : a + 1 + w ≤ k
    · rw [if_pos hc, kt_bs]
      by_cases hd : lo ≤ kW B (a + 1) w ∧ kW B (a + 1) w < 2147483648
      · rw [if_pos hd, if_pos ⟨hc, hd⟩]
        exact Or.inl ⟨_, _, _, rfl, if_neg ki_10⟩
      · rw [if_neg hd, if_neg (fun z => hd z.2)]
        exact Or.inr ⟨rfl, _, _, _, if_pos rfl⟩
    · rw [if_neg hc, kt_bs, if_neg (fun z => hc z.1)]
      exact Or.inr ⟨rfl, _, _, _, if_pos rfl⟩
  by_cases c24 : B a % 32 = 24
  · rw [if_pos c24]
    exact wide 24 1 24 c24 (by omega) (by decide) (by omega)
  rw [if_neg c24]
  by_cases c25 : B a % 32 = 25
  · rw [if_pos c25]
    exact wide 25 2 256 c25 (by omega) (by decide) (by omega)
  rw [if_neg c25]
  by_cases c26 : B a % 32 = 26
  · rw [if_pos c26]
    exact wide 26 4 65536 c26 (by omega) (by decide) (by omega)
  rw [if_neg c26, if_pos (show (26 : Int32) < nI (B a % 32) from (kn_lt (a := 26) (by omega) (by omega)).mpr (by omega))]
  exact Or.inr ⟨rfl, _, _, _, rfl⟩
/-! the reference -/
theorem km_wide {B : Nat → Nat} {τ : kt_S} (hB : kBy B (τ 2)) {a w : Nat} (hw : w ≤ 4) (haw : a + w ≤ 48) {M x : Int32} : ∀ m i f, i + m = w → m < f → kp_M_head_176 f (nI w) (lN (kW B a i)) (nI i) (kd τ (nI a) M x 0) = (if nI w = 1 then kp_M_head_247 (lN (kW B a w)) 24 (lN (kW B a w)) (kd τ (nI (a + w)) M x 0) else if nI w = 2 then kp_M_head_247 (lN (kW B a w)) 256 (lN (kW B a w)) (kd τ (nI (a + w)) M x 0) else kp_M_head_247 (lN (kW B a w)) 65536 (lN (kW B a w)) (kd τ (nI (a + w)) M x 0)) := by
  intro m
  induction m with
  | zero =>
    intro i f hi hf
    obtain ⟨f, rfl⟩ := Nat.exists_eq_add_one_of_ne_zero (Nat.ne_of_gt hf)
    have : i = w := by omega
    subst this
    show kp_M_head_176b (kp_M_head_176 f) _ _ _ _ = _
    unfold kp_M_head_176b
    have e22 : kd τ (nI a) M x 0 0 22 = nI a := rfl
    rw [if_pos (kn_leR (by omega) (by omega)), e22, kn_add, kd_at]
  | succ m ih =>
    intro i f hi hf
    obtain ⟨f, rfl⟩ := Nat.exists_eq_add_one_of_ne_zero (show ¬ f = 0 by omega)
    rw [← ih (i + 1) f (by omega) (by omega)]
    show kp_M_head_176b (kp_M_head_176 f) _ _ _ _ = _
    unfold kp_M_head_176b
    have e22 : kd τ (nI a) M x 0 0 22 = nI a := rfl
    have e2 : kd τ (nI a) M x 0 2 (a + i) = nI (B (a + i)) := hB.2 (a + i) (by omega)
    have hlt := kW_lt hB.1 a (i + 1)
    have hpow : 256 ^ (i + 1) ≤ 256 ^ 4 := Nat.pow_le_pow_right (by omega) (by omega)
    have hlt2 : kW B a i * 256 + B (a + i) < 1099511627776 := by
      have : kW B a (i + 1) = kW B a i * 256 + B (a + i) := rfl
      omega
    rw [if_neg (show ¬ nI w ≤ nI i from fun z => by have := (kn_le (by omega) (by omega)).mp z; omega), e22, kn_add, if_neg (kn_in (by omega) (by omega)), kn_cl (by omega), e2, kl_acc (hB.1 _) hlt2, kn_succ]
    rfl
theorem km_247 {W lo : Nat} {τ : kt_S} {a M x : Int32} (hW : W < 4294967296) (hlo : lo < 2147483648) : kp_M_head_247 (lN W) (lN lo) (lN W) (kd τ a M x 0) = some (kd τ a M (nI W) (if lo ≤ W ∧ W < 2147483648 then 0 else 1)) := by
  unfold kp_M_head_247 kp_M_head_260 kp_M_head_265 kp_M_head_268
  rw [if_pos ki_b0, if_pos ki_b1, kd_ba, kd_ba, kd_nu, kd_nu, lN_i]
  have hge : (lg_cmp (lN W) (lN lo) < 0) ↔ W < lo := by
    have h1 := lg_cmp_ge (lN W) (lN lo)
    have h2 := pk_lLE (a := lo) (b := W) (by omega) (by omega)
    rw [h2] at h1
    rw [Int32.le_iff_toInt_le] at h1
    rw [Int32.lt_iff_toInt_lt]
    omega
  have hle : (lg_cmp (lN W) 2147483647 ≤ 0) ↔ W ≤ 2147483647 := by
    have h1 := lg_cmp_le (lN W) (lN 2147483647)
    have h2 := pk_lLE (a := W) (b := 2147483647) (by omega) (by omega)
    rw [h2] at h1
    exact h1
  by_cases h : W < lo
  · rw [if_pos (hge.mpr h), if_neg (by omega)]
  · rw [if_neg (fun z => h (hge.mp z))]
    by_cases h2 : W ≤ 2147483647
    · rw [if_pos (hle.mpr h2), if_pos (by omega)]
    · rw [if_neg (fun z => h2 (hle.mp z)), if_neg (by omega)]
theorem km_head {B : Nat → Nat} {τ : kt_S} (hB : kBy B (τ 2)) {k a : Nat} {M v : Int32} (hk : τ 0 10 = nI k) (hk48 : k ≤ 48) (ha : a ≤ 48) : (∃ a' M' v', kHd B k a = some (a', M', v') ∧ kp_M_head (kd τ (nI a) M v 0) = some (kd τ (nI a') (nI M') (nI v') 0)) ∨ (kHd B k a = none ∧ ∃ a' M' v' : Int32, kp_M_head (kd τ (nI a) M v 0) = some (kd τ a' M' v' 1)) := by
  have e22 : kd τ (nI a) M v 0 0 22 = nI a := rfl
  have e10 : kd τ (nI a) M v 0 0 10 = nI k := hk
  unfold kHd kp_M_head kp_M_head_0
  rw [e22, e10]
  by_cases h0 : k ≤ a
  · rw [if_pos h0, if_neg (show ¬ nI a < nI k from kn_geL (by omega) h0 (by omega)), kd_ma, kd_nu, kd_ba]
    exact Or.inr ⟨rfl, _, _, _, rfl⟩
  have e2 : kd τ (nI a) M v 0 2 a = nI (B a) := hB.2 a (by omega)
  have hb := hB.1 a
  rw [if_neg h0, if_pos ((kn_lt (by omega) (by omega)).mpr (by omega)), if_neg (kn_in (by omega) (by omega)), kn_cl (by omega), e2, kn_s5 hb, kn_m31 hb, kn_succ, kd_ma, kd_nu, kd_at, kd_ma]
  -- what comes of a width
  have e23 : kd τ (nI (a + 1)) (nI (B a / 32)) 0 0 0 23 = nI (B a / 32) := rfl
  have e10' : kd τ (nI (a + 1)) (nI (B a / 32)) 0 0 0 10 = nI k := hk
  have e22' : kd τ (nI (a + 1)) (nI (B a / 32)) 0 0 0 22 = nI (a + 1) := rfl
  have bad : ∀ t0, (t0 < 0 ∨ (B a / 32 = 1 ∨ B a / 32 = 6 ∨ (B a / 32 = 7 ∧ ¬ B a % 32 = 20 ∧ ¬ B a % 32 = 21))) → kp_M_head_100 (nI (B a % 32)) t0 (kd τ (nI (a + 1)) (nI (B a / 32)) 0 0) = some (kd τ (nI (a + 1)) (nI (B a / 32)) 0 1) := by
    intro t0 h
    unfold kp_M_head_100 kp_M_head_156
    rw [e23, kd_ba]
    by_cases c0 : t0 < 0
    · rw [if_pos c0]
    rw [if_neg c0]
    split
    · rfl
    by_cases c1 : nI (B a / 32) = 1
    · rw [if_pos c1]
    rw [if_neg c1]
    by_cases c6 : nI (B a / 32) = 6
    · rw [if_pos c6]
    rw [if_neg c6]
    rcases h with h | h | h | ⟨h7, h20, h21⟩
    · exact absurd h c0
    · exact absurd (show nI (B a / 32) = 1 by rw [h]; rfl) c1
    · exact absurd (show nI (B a / 32) = 6 by rw [h]; rfl) c6
    · rw [if_pos (show nI (B a / 32) = 7 by rw [h7]; rfl), if_neg (show ¬ nI (B a % 32) = 20 from fun z => h20 ((kn_eqL 20 (by omega) (by omega)).mp z)), if_neg (show ¬ nI (B a % 32) = 21 from fun z => h21 ((kn_eqL 21 (by omega) (by omega)).mp z))]
  have good : ∀ w, w ≤ 4 → (¬ B a / 32 = 1 ∧ ¬ B a / 32 = 6 ∧ (B a / 32 = 7 → B a % 32 = 20 ∨ B a % 32 = 21)) → kp_M_head_100 (nI (B a % 32)) (nI w) (kd τ (nI (a + 1)) (nI (B a / 32)) 0 0) = if a + 1 + w ≤ k then kp_M_head_162 (nI (B a % 32)) (nI w) (kd τ (nI (a + 1)) (nI (B a / 32)) 0 0) else some (kd τ (nI (a + 1)) (nI (B a / 32)) 0 1) := by
    intro w hw h
    unfold kp_M_head_100 kp_M_head_156
    rw [e23, e22', e10', kd_ba, if_neg (kn_nn (by omega)), kn_add]
    by_cases c : a + 1 + w ≤ k
    · rw [if_pos c, if_neg (kn_geL (by omega) c (by omega)), if_neg (show ¬ nI (B a / 32) = 1 from fun z => h.1 ((kn_eqL 1 (by omega) (by omega)).mp z)), if_neg (show ¬ nI (B a / 32) = 6 from fun z => h.2.1 ((kn_eqL 6 (by omega) (by omega)).mp z))]
      by_cases c7 : B a / 32 = 7
      · rw [if_pos (show nI (B a / 32) = 7 by rw [c7]; rfl)]
        rcases h.2.2 c7 with y | y
        · rw [if_pos (show nI (B a % 32) = 20 by rw [y]; rfl)]
        · by_cases y2 : nI (B a % 32) = 20
          · rw [if_pos y2]
          · rw [if_neg y2, if_pos (show nI (B a % 32) = 21 by rw [y]; rfl)]
      · rw [if_neg (show ¬ nI (B a / 32) = 7 from fun z => c7 ((kn_eqL 7 (by omega) (by omega)).mp z))]
    · rw [if_neg c, if_pos ((kn_lt (by omega) (by omega)).mpr (by omega))]
  have small : kp_M_head_162 (nI (B a % 32)) (nI 0) (kd τ (nI (a + 1)) (nI (B a / 32)) 0 0) = some (kd τ (nI (a + 1)) (nI (B a / 32)) (nI (B a % 32)) 0) := by
    unfold kp_M_head_162 kp_M_head_268
    rw [if_pos (by decide), kd_nu, nI_l (Nat.lt_trans (show B a % 32 < 32 by omega) (by decide)), lN_i]
  have wide : ∀ w lo, ((w = 1 ∧ lo = 24) ∨ (w = 2 ∧ lo = 256) ∨ (w = 4 ∧ lo = 65536)) → a + 1 + w ≤ k → kp_M_head_162 (nI (B a % 32)) (nI w) (kd τ (nI (a + 1)) (nI (B a / 32)) 0 0) = some (kd τ (nI (a + 1 + w)) (nI (B a / 32)) (nI (kW B (a + 1) w)) (if lo ≤ kW B (a + 1) w ∧ kW B (a + 1) w < 2147483648 then 0 else 1)) := by
    intro w lo hwl hc
    have hw4 : w ≤ 4 := by omega
    have hlt : kW B (a + 1) w < 4294967296 := by
      have h1 := kW_lt hB.1 (a + 1) w
      have h2 : 256 ^ w ≤ 256 ^ 4 := Nat.pow_le_pow_right (by omega) hw4
      omega
    unfold kp_M_head_162
    rw [if_neg (show ¬ nI w ≤ 0 from fun z => by have := (kn_le (b := 0) (by omega) (by omega)).mp z; omega)]
    have hl := km_wide hB (a := a + 1) (w := w) hw4 (by omega) (M := nI (B a / 32)) (x := 0) w 0 100 (by omega) (by omega)
    have hl' : kp_M_head_176 100 (nI w) 0 0 (kd τ (nI (a + 1)) (nI (B a / 32)) 0 0) = _ := hl
    rw [hl']
    rcases hwl with ⟨rfl, rfl⟩ | ⟨rfl, rfl⟩ | ⟨rfl, rfl⟩
    · rw [if_pos (by decide)]
      exact km_247 (lo := 24) hlt (by omega)
    · rw [if_neg (by decide), if_pos (by decide)]
      exact km_247 (lo := 256) hlt (by omega)
    · rw [if_neg (by decide), if_neg (by decide)]
      exact km_247 (lo := 65536) hlt (by omega)
  by_cases m24 : B a % 32 < 24
  · rw [if_neg (show ¬ (24 : Int32) ≤ nI (B a % 32) from fun z => by have := (kn_le (a := 24) (by omega) (by omega)).mp z; omega)]
    by_cases h7 : B a / 32 = 7
    · rw [if_pos h7]
      by_cases m2 : B a % 32 = 20 ∨ B a % 32 = 21
      · have g : kp_M_head_100 (nI (B a % 32)) 0 (kd τ (nI (a + 1)) (nI (B a / 32)) 0 0) = _ := good 0 (by omega) ⟨by omega, by omega, fun _ => m2⟩
        rw [if_pos m2, g, if_pos (by omega), small, h7]
        exact Or.inl ⟨_, _, _, rfl, rfl⟩
      · rw [if_neg m2, bad 0 (Or.inr (Or.inr (Or.inr ⟨h7, fun z => m2 (Or.inl z), fun z => m2 (Or.inr z)⟩)))]
        exact Or.inr ⟨rfl, _, _, _, rfl⟩
    · rw [if_neg h7]
      by_cases h16 : B a / 32 = 1 ∨ B a / 32 = 6
      · rw [if_pos h16, bad 0 (by omega)]
        exact Or.inr ⟨rfl, _, _, _, rfl⟩
      · have g : kp_M_head_100 (nI (B a % 32)) 0 (kd τ (nI (a + 1)) (nI (B a / 32)) 0 0) = _ := good 0 (by omega) ⟨by omega, by omega, fun z => absurd z h7⟩
        rw [if_neg h16, if_pos m24, g, if_pos (by omega), small]
        exact Or.inl ⟨_, _, _, rfl, rfl⟩
  rw [if_pos (show (24 : Int32) ≤ nI (B a % 32) from kn_leR (a := 24) (by omega) (by omega)), if_neg m24]
  by_cases hbad : B a / 32 = 1 ∨ B a / 32 = 6 ∨ B a / 32 = 7
  · have hb2 : B a / 32 = 1 ∨ B a / 32 = 6 ∨ (B a / 32 = 7 ∧ ¬ B a % 32 = 20 ∧ ¬ B a % 32 = 21) := by omega
    rw [bad 1 (Or.inr hb2), bad 2 (Or.inr hb2), bad 4 (Or.inr hb2), bad (-1) (Or.inr hb2), ite_self, ite_self, ite_self]
    refine Or.inr ⟨?_, _, _, _, rfl⟩
    by_cases h7 : B a / 32 = 7
    · rw [if_pos h7, if_neg (by omega)]
    · rw [if_neg h7, if_pos (by omega)]
  · have hok : ¬ B a / 32 = 1 ∧ ¬ B a / 32 = 6 ∧ (B a / 32 = 7 → B a % 32 = 20 ∨ B a % 32 = 21) := ⟨by omega, by omega, fun z => by omega⟩
    rw [if_neg (show ¬ B a / 32 = 7 by omega), if_neg (show ¬ (B a / 32 = 1 ∨ B a / 32 = 6) by omega)]
    have fin : ∀ w lo, ((w = 1 ∧ lo = 24) ∨ (w = 2 ∧ lo = 256) ∨ (w = 4 ∧ lo = 65536)) → (∃ a' M' v', kHw B k a w lo = some (a', M', v') ∧ kp_M_head_100 (nI (B a % 32)) (nI w) (kd τ (nI (a + 1)) (nI (B a / 32)) 0 0) = some (kd τ (nI a') (nI M') (nI v') 0)) ∨ (kHw B k a w lo = none ∧ ∃ a' M' v' : Int32, kp_M_head_100 (nI (B a % 32)) (nI w) (kd τ (nI (a + 1)) (nI (B a / 32)) 0 0) = some (kd τ a' M' v' 1)) := by
      intro w lo hwl
      rw [good w (by omega) hok]
      unfold kHw
      by_cases hc : a + 1 + w ≤ k
      · rw [if_pos hc, wide w lo hwl hc]
        by_cases hd : lo ≤ kW B (a + 1) w ∧ kW B (a + 1) w < 2147483648
        · rw [if_pos hd, if_pos ⟨hc, hd⟩]
          exact Or.inl ⟨_, _, _, rfl, rfl⟩
        · rw [if_neg hd, if_neg (fun z => hd z.2)]
          exact Or.inr ⟨rfl, _, _, _, rfl⟩
      · rw [if_neg hc, if_neg (fun z => hc z.1)]
        exact Or.inr ⟨rfl, _, _, _, rfl⟩
    by_cases c24 : B a % 32 = 24
    · rw [if_pos c24, if_pos (show nI (B a % 32) = 24 by rw [c24]; rfl)]
      exact fin 1 24 (by omega)
    rw [if_neg c24, if_neg (show ¬ nI (B a % 32) = 24 from fun z => c24 ((kn_eqL 24 (by omega) (by omega)).mp z))]
    by_cases c25 : B a % 32 = 25
    · rw [if_pos c25, if_pos (show nI (B a % 32) = 25 by rw [c25]; rfl)]
      exact fin 2 256 (by omega)
    rw [if_neg c25, if_neg (show ¬ nI (B a % 32) = 25 from fun z => c25 ((kn_eqL 25 (by omega) (by omega)).mp z))]
    by_cases c26 : B a % 32 = 26
    · rw [if_pos c26, if_pos (show nI (B a % 32) = 26 by rw [c26]; rfl)]
      exact fin 4 65536 (by omega)
    · rw [if_neg c26, if_neg (show ¬ nI (B a % 32) = 26 from fun z => c26 ((kn_eqL 26 (by omega) (by omega)).mp z)), bad (-1) (Or.inl (by decide))]
      exact Or.inr ⟨rfl, _, _, _, rfl⟩
