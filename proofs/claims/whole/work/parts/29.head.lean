/-! The head of an item, as both read it. -/
def kW (B : Nat → Nat) (a : Nat) : Nat → Nat
  | 0 => 0
  | w + 1 => kW B a w * 256 + B (a + w)
def kHw (B : Nat → Nat) (k a w lo : Nat) : Option (Nat × Nat × Nat) := if a + 1 + w ≤ k ∧ lo ≤ kW B (a + 1) w ∧ kW B (a + 1) w < 2147483648 then some (a + 1 + w, B a / 32, kW B (a + 1) w) else none
def kHd (B : Nat → Nat) (k a : Nat) : Option (Nat × Nat × Nat) := if k ≤ a then none else if B a / 32 = 7 then (if B a % 32 = 20 ∨ B a % 32 = 21 then some (a + 1, 7, B a % 32) else none) else if B a / 32 = 1 ∨ B a / 32 = 6 then none else if B a % 32 < 24 then some (a + 1, B a / 32, B a % 32) else if B a % 32 = 24 then kHw B k a 1 24 else if B a % 32 = 25 then kHw B k a 2 256 else if B a % 32 = 26 then kHw B k a 4 65536 else none
theorem kHd_spec {B : Nat → Nat} {k a a' M v : Nat} (hB : ∀ i, B i < 256) (h : kHd B k a = some (a', M, v)) : a < a' ∧ a' ≤ k ∧ M < 8 ∧ v < 2147483648 := by
  have hM : B a / 32 < 8 := by have := hB a; omega
  have hw : ∀ w lo, kHw B k a w lo = some (a', M, v) → a < a' ∧ a' ≤ k ∧ M < 8 ∧ v < 2147483648 := fun w lo h => by
    unfold kHw at h
    split at h
    · next z =>
      cases h
      exact ⟨by omega, by omega, hM, by omega⟩
    · cases h
  unfold kHd at h
  split at h
  · cases h
  split at h
  · split at h
    · cases h
      exact ⟨by omega, by omega, by omega, by omega⟩
    · cases h
  split at h
  · cases h
  split at h
  · cases h
    exact ⟨by omega, by omega, hM, by omega⟩
  split at h
  · exact hw _ _ h
  split at h
  · exact hw _ _ h
  split at h
  · exact hw _ _ h
  · cases h
theorem kW_lt {B : Nat → Nat} (hB : ∀ i, B i < 256) (a : Nat) : ∀ w, kW B a w < 256 ^ w := by
  intro w
  induction w with
  | zero => exact Nat.one_pos
  | succ w ih =>
    show kW B a w * 256 + B (a + w) < 256 ^ (w + 1)
    rw [Nat.pow_succ]
    have := hB (a + w)
    omega
theorem kn_or {x b : Nat} (hb : b < 256) : x * 256 ||| b = x * 256 + b := by
  have := Nat.two_pow_add_eq_or_of_lt (i := 8) (b := b) (by omega) x
  rw [show 2 ^ 8 * x = x * 256 by omega] at this
  exact this.symm
theorem kn_acc {v b : Nat} (hb : b < 256) (h : v * 256 + b < 4294967296) : (nI v <<< (8 &&& 31)) ||| nI b = nI (v * 256 + b) := by
  have h2 : v * 256 < 4294967296 := Nat.lt_of_le_of_lt (Nat.le_add_right _ b) h
  have e8 : (256 : Nat) = 2 ^ 8 := by decide
  have e32 : (4294967296 : Nat) = 2 ^ 32 := by decide
  have h3 : v * 2 ^ 8 < 2 ^ 32 := by rw [← e8, ← e32]; exact h2
  have hb2 : b < 2 ^ 32 := by rw [← e32]; exact Nat.lt_trans hb (by decide)
  have h4 : v * 256 < 2 ^ 32 := by rw [← e32]; exact h2
  have h5 : v * 256 + b < 2 ^ 32 := by rw [← e32]; exact h
  rw [pk_shlN (n := v) (8 &&& 31) 8 (by decide) h3, ← e8]
  apply Int32.toBitVec_inj.mp
  rw [Int32.toBitVec_or]
  apply BitVec.eq_of_toNat_eq
  rw [BitVec.toNat_or, pk_tn h4, pk_tn hb2, pk_tn h5, kn_or hb]
theorem kl_tn {n : Nat} (h : n < 18446744073709551616) : (lN n).toBitVec.toNat = n := by
  unfold lN
  rw [Int64.toBitVec_ofNat', BitVec.toNat_ofNat]
  omega
theorem kl_acc {v b : Nat} (hb : b < 256) (h : v * 256 + b < 1099511627776) : (lN v <<< ((8 : Int32).toInt64 &&& 63)) ||| (nI b).toInt64 = lN (v * 256 + b) := by
  have h2 : v * 256 < 1099511627776 := Nat.lt_of_le_of_lt (Nat.le_add_right _ b) h
  have h4 : v * 256 < 18446744073709551616 := Nat.lt_trans h2 (by decide)
  have hb' : b < 18446744073709551616 := Nat.lt_trans hb (by decide)
  have hv : v < 18446744073709551616 := Nat.lt_of_le_of_lt (Nat.le_mul_of_pos_right v (by decide)) h4
  have h5 : v * 256 + b < 18446744073709551616 := Nat.lt_trans h (by decide)
  have e8 : (256 : Nat) = 2 ^ 8 := by decide
  have e64 : (18446744073709551616 : Nat) = 2 ^ 64 := by decide
  have h6 : v * 256 < 2 ^ 64 := by rw [← e64]; exact h4
  rw [nI_l (Nat.lt_trans hb (by decide))]
  apply Int64.toBitVec_inj.mp
  rw [Int64.toBitVec_or, Int64.toBitVec_shiftLeft]
  apply BitVec.eq_of_toNat_eq
  rw [BitVec.toNat_or, kl_tn hb', kl_tn h5, show (((8 : Int32).toInt64 &&& 63).toBitVec.smod 64) = 8#64 by decide, BitVec.shiftLeft_eq', BitVec.toNat_shiftLeft, kl_tn hv, show (8#64).toNat = 8 by decide, Nat.shiftLeft_eq, ← e8, Nat.mod_eq_of_lt h6, kn_or hb]
/-! the class's three fields, and the reference's four -/
def kc (σ : kt_S) (a M v : Int32) : kt_S := kt_up (kt_up (kt_up σ 6 4 a) 6 5 M) 6 6 v
def kd (τ : kt_S) (a M v b : Int32) : kt_S := kt_up (kt_up (kt_up (kt_up τ 0 22 a) 0 23 M) 0 24 v) 0 25 b
theorem kt_up_comm {σ : kt_S} {p k l : Nat} {x y : Int32} (h : ¬ k = l) : kt_up (kt_up σ p k x) p l y = kt_up (kt_up σ p l y) p k x := by
  funext q
  unfold kt_up
  by_cases hq : q = p
  · rw [if_pos hq, if_pos hq, if_pos rfl, if_pos rfl, upd_comm h]
  · rw [if_neg hq, if_neg hq, if_neg hq, if_neg hq]
theorem kc_at {σ : kt_S} {a M v x : Int32} : kt_up (kc σ a M v) 6 4 x = kc σ x M v := by
  unfold kc
  rw [kt_up_comm (by omega : ¬ 6 = 4), kt_up_comm (by omega : ¬ 5 = 4), kt_up_up]
theorem kc_ma {σ : kt_S} {a M v x : Int32} : kt_up (kc σ a M v) 6 5 x = kc σ a x v := by
  unfold kc
  rw [kt_up_comm (by omega : ¬ 6 = 5), kt_up_up]
theorem kc_nu {σ : kt_S} {a M v x : Int32} : kt_up (kc σ a M v) 6 6 x = kc σ a M x := kt_up_up
theorem kc_self (σ : kt_S) : kc σ (σ 6 4) (σ 6 5) (σ 6 6) = σ := by
  unfold kc
  rw [kt_up_same (k := 4) rfl, kt_up_same (k := 5) rfl, kt_up_same (k := 6) rfl]
theorem kd_at {τ : kt_S} {a M v b x : Int32} : kt_up (kd τ a M v b) 0 22 x = kd τ x M v b := by
  unfold kd
  rw [kt_up_comm (by omega : ¬ 25 = 22), kt_up_comm (by omega : ¬ 24 = 22), kt_up_comm (by omega : ¬ 23 = 22), kt_up_up]
theorem kd_ma {τ : kt_S} {a M v b x : Int32} : kt_up (kd τ a M v b) 0 23 x = kd τ a x v b := by
  unfold kd
  rw [kt_up_comm (by omega : ¬ 25 = 23), kt_up_comm (by omega : ¬ 24 = 23), kt_up_up]
theorem kd_nu {τ : kt_S} {a M v b x : Int32} : kt_up (kd τ a M v b) 0 24 x = kd τ a M x b := by
  unfold kd
  rw [kt_up_comm (by omega : ¬ 25 = 24), kt_up_up]
theorem kd_ba {τ : kt_S} {a M v b x : Int32} : kt_up (kd τ a M v b) 0 25 x = kd τ a M v x := kt_up_up
theorem kd_self (τ : kt_S) : kd τ (τ 0 22) (τ 0 23) (τ 0 24) (τ 0 25) = τ := by
  unfold kd
  rw [kt_up_same (k := 22) rfl, kt_up_same (k := 23) rfl, kt_up_same (k := 24) rfl, kt_up_same (k := 25) rfl]
/-- what the input holds -/
def kBy (B : Nat → Nat) (f : Nat → Int32) : Prop := (∀ i, B i < 256) ∧ ∀ i, i < 48 → f i = nI (B i)
theorem kn_m31 {b : Nat} (h : b < 256) : nI b &&& 31 = nI (b % 32) := by
  have := pk_andN (n := b) (by omega) (m := 31) 5 (by decide)
  rw [show b % 2 ^ 5 = b % 32 by omega] at this
  exact this
theorem kn_s5 {b : Nat} (h : b < 256) : nI b >>> (5 &&& 31) = nI (b / 32) := by
  have := pk_shrN (n := b) (by omega) (5 &&& 31) 5 (by decide)
  rw [show b / 2 ^ 5 = b / 32 by omega] at this
  exact this
theorem kn_eqL {a : Nat} (b : Nat) (ha : a < 2147483648) (hb : b < 2147483648) : (nI a = nI b) ↔ a = b := kn_eq ha hb
/-! the class -/
theorem kR_wide {B : Nat → Nat} {σ : kt_S} (hB : kBy B (σ 8)) {a w : Nat} {M : Int32} (hw : w ≤ 4) (haw : a + w ≤ 48) : ∀ m i f, i + m = w → m < f → kp_R_readWide_25 f (nI w) (nI i) (kc σ (nI (a + i)) M (nI (kW B a i))) = (if nI w = 1 then kp_R_readWide_97 24 (nI (kW B a w)) (kc σ (nI (a + w)) M (nI (kW B a w))) else if nI w = 2 then kp_R_readWide_97 256 (nI (kW B a w)) (kc σ (nI (a + w)) M (nI (kW B a w))) else kp_R_readWide_97 65536 (nI (kW B a w)) (kc σ (nI (a + w)) M (nI (kW B a w)))) := by
  intro m
  induction m with
  | zero =>
    intro i f hi hf
    obtain ⟨f, rfl⟩ := Nat.exists_eq_add_one_of_ne_zero (Nat.ne_of_gt hf)
    have : i = w := by omega
    subst this
    show kp_R_readWide_25b (kp_R_readWide_25 f) _ _ _ = _
    unfold kp_R_readWide_25b
    rw [if_pos (kn_leR (by omega) (by omega))]
    rfl
  | succ m ih =>
    intro i f hi hf
    obtain ⟨f, rfl⟩ := Nat.exists_eq_add_one_of_ne_zero (show ¬ f = 0 by omega)
    rw [← ih (i + 1) f (by omega) (by omega)]
    show kp_R_readWide_25b (kp_R_readWide_25 f) _ _ _ = _
    unfold kp_R_readWide_25b
    have e4 : kc σ (nI (a + i)) M (nI (kW B a i)) 6 4 = nI (a + i) := rfl
    have e6 : kc σ (nI (a + i)) M (nI (kW B a i)) 6 6 = nI (kW B a i) := rfl
    have e8 : kc σ (nI (a + i)) M (nI (kW B a i)) 8 (a + i) = nI (B (a + i)) := hB.2 (a + i) (by omega)
    have hlt := kW_lt hB.1 a (i + 1)
    have hpow : 256 ^ (i + 1) ≤ 256 ^ 4 := Nat.pow_le_pow_right (by omega) (by omega)
    have hlt2 : kW B a i * 256 + B (a + i) < 4294967296 := by
      have : kW B a (i + 1) = kW B a i * 256 + B (a + i) := rfl
      omega
    rw [if_neg (show ¬ nI w ≤ nI i from fun z => by have := (kn_le (by omega) (by omega)).mp z; omega), e4, e6, if_neg (kn_in (by omega) (by omega)), kn_cl (by omega), e8, kn_acc (hB.1 _) hlt2, kn_succ, kn_succ, kc_nu, kc_at]
    rfl
theorem kR_wide97 {x lo : Nat} (hx : x < 4294967296) (hlo : lo < 2147483648) (σ : kt_S) : kp_R_readWide_97 (nI lo) (nI x) σ = some (if lo ≤ x ∧ x < 2147483648 then 1 else 0, σ) := by
  unfold kp_R_readWide_97 kp_R_readWide_105
  rw [if_pos ki_b0, if_pos ki_b1]
  by_cases h : x < 2147483648
  · by_cases h2 : lo ≤ x
    · rw [if_neg (kn_geL hlo h2 h), if_pos ⟨h2, h⟩]
    · rw [if_pos ((kn_lt h hlo).mpr (by omega)), if_neg (by omega)]
  · have hneg : nI x < nI lo := by
      rw [Int32.lt_iff_toInt_lt, kn_toInt hlo]
      have : (nI x).toInt = (x : Int) - 4294967296 := by
        unfold nI
        rw [Int32.toInt_ofNat', show Int32.size = 4294967296 from rfl, Int.bmod_def]
        split <;> omega
      omega
    rw [if_pos hneg, if_neg (by omega)]
