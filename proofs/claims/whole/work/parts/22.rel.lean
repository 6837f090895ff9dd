/-! The relation between the class's state and the reference's, after n calls. -/
def kR_bool (x : Int32) : Prop := x = 0 ∨ x = 1
/-- what whole records hold: of the PIN, its tries; of a credential, user, key and counter -/
def kv_cont (f : Nat → Int32) (n : Nat) : Prop := ∀ p, p < 7 → ¬ f (6 * p) = -1 → f (6 * p + 5) = ks_seal f p → (ks_nm (f (6 * p)) = 0 → ∃ t : Nat, t ≤ 8 ∧ f (6 * p + 2) = nI t) ∧ (¬ ks_nm (f (6 * p)) = 0 → (¬ f (6 * p + 2) < 0) ∧ (∃ k : Nat, k ≤ n ∧ f (6 * p + 3) = nI k) ∧ ∃ k : Nat, k ≤ n ∧ f (6 * p + 4) = nI k)
def kR_st (n : Nat) (σ τ : kt_S) : Prop := τ 1 = σ 3 ∧ τ 0 2 = σ 2 1 ∧ τ 0 4 = σ 2 2 ∧ (σ 2 2 = -1 ∨ ∃ k : Nat, k < 2147483648 ∧ σ 2 2 = nI k) ∧ kv_cont (σ 3) n ∧ (σ 1 5 = 1 → kv_on (σ 3) (2 * n)) ∧ (σ 1 5 = 0 → kv_off (σ 3) (2 * n))
def kR_tok (σ τ : kt_S) : Prop := τ 0 5 = σ 1 5 ∧ kR_bool (σ 1 5) ∧ τ 0 6 = σ 1 6 ∧ kR_bool (σ 1 6) ∧ τ 0 7 = σ 1 7 ∧ τ 0 8 = σ 1 8 ∧ (σ 1 5 = 0 → σ 1 6 = 0 ∧ σ 1 7 = 0 ∧ σ 1 8 = 0 ∧ σ 2 2 = -1 ∧ σ 7 2 = 0 ∧ σ 12 1 = σ 12 2 ∧ σ 1 9 = σ 1 10)
def kR_in (σ τ : kt_S) : Prop := τ 2 = σ 8 ∧ σ 7 1 = 0 ∧ (∃ k : Nat, k ≤ 48 ∧ σ 7 2 = nI k ∧ τ 0 10 = nI k) ∧ ∀ i, i < 48 → ∃ b : Nat, b < 256 ∧ σ 8 i = nI b
def kR_out (σ τ : kt_S) : Prop := ∃ a e : Nat, a ≤ e ∧ e ≤ 80 ∧ σ 12 1 = nI a ∧ σ 12 2 = nI e ∧ τ 0 12 = nI (e - a) ∧ (∀ j, j < e - a → τ 3 j = σ 13 (a + j)) ∧ ∀ j, a ≤ j → j < e → ∃ b : Nat, b < 256 ∧ σ 13 j = nI b
def kR_next (σ τ : kt_S) : Prop := τ 0 15 = σ 1 11 ∧ τ 0 16 = σ 1 12 ∧ kR_bool (σ 1 12) ∧ ∃ a e : Nat, a ≤ e ∧ e ≤ 6 ∧ σ 1 9 = nI a ∧ σ 1 10 = nI e ∧ τ 0 13 = nI (e - a) ∧ (∀ j, j < e - a → τ 4 j = σ 14 (a + j) ∧ ∃ m : Nat, 1 ≤ m ∧ m < 7 ∧ σ 14 (a + j) = nI m ∧ ¬ ks_pg (σ 3) (nI m) = -1)
def kR_cnt (n : Nat) (σ τ : kt_S) : Prop := (∃ k : Nat, k ≤ n ∧ σ 1 13 = nI k ∧ τ 0 17 = nI k) ∧ (∃ k : Nat, k ≤ n ∧ σ 1 14 = nI k ∧ τ 0 18 = nI k) ∧ (∃ k : Nat, k ≤ n ∧ σ 4 1 = nI k ∧ τ 0 19 = nI k) ∧ (∃ k : Nat, k ≤ n ∧ σ 0 2 = nI k ∧ τ 0 20 = nI k)
def kR_sig (σ τ : kt_S) : Prop := (∀ r w, r < 40 → w < 6 → σ 5 (6 * ((r + 1) % 40) + w) = τ 5 (6 * r + w)) ∧ ∀ k i : Nat, k < 2147483648 → σ 4 1 = nI k → 1 ≤ i → i ≤ k → k < i + 40 → σ 5 (6 * (i % 40)) = 1 ∨ σ 5 (6 * (i % 40)) = 2
def kR_par1 (n : Nat) (σ τ : kt_S) (p : Nat) : Prop := σ (16 + 4 * p) 0 = nI p ∧ (∃ c : Nat, c ≤ 6 ∧ σ (16 + 4 * p) 4 = nI c ∧ τ 15 p = nI c ∧ ∀ i j, i < c → j < c → σ (17 + 4 * p) i = σ (17 + 4 * p) j → i = j) ∧ (∃ k : Nat, k ≤ n ∧ σ (16 + 4 * p) 5 = nI k ∧ τ 17 p = nI k) ∧ (∃ k : Nat, k < 100 ∧ σ (16 + 4 * p) 6 = nI k ∧ τ 18 p = nI k) ∧ ∀ k, k < 6 → τ 16 (18 * p + 3 * k) = σ (17 + 4 * p) k ∧ τ 16 (18 * p + 3 * k + 1) = σ (18 + 4 * p) k ∧ τ 16 (18 * p + 3 * k + 2) = σ (19 + 4 * p) k
def kR_par (n : Nat) (σ τ : kt_S) : Prop := ∀ p, p < 4 → kR_par1 n σ τ p
def kR (n : Nat) (σ τ : kt_S) : Prop := kR_st n σ τ ∧ kR_tok σ τ ∧ kR_in σ τ ∧ kR_out σ τ ∧ kR_next σ τ ∧ kR_cnt n σ τ ∧ kR_sig σ τ ∧ kR_par n σ τ
/-! more calls -/
theorem kv_cont_mono {f : Nat → Int32} {n m : Nat} (h : n ≤ m) (H : kv_cont f n) : kv_cont f m := by
  intro p hp h1 h2
  obtain ⟨a, b⟩ := H p hp h1 h2
  refine ⟨a, fun z => ?_⟩
  obtain ⟨b1, ⟨k, b2, b3⟩, ⟨k', b4, b5⟩⟩ := b z
  exact ⟨b1, ⟨k, by omega, b3⟩, ⟨k', by omega, b5⟩⟩
theorem kR_mono {n m : Nat} {σ τ : kt_S} (h : n ≤ m) (hm : m < 10000) (H : kR n σ τ) : kR m σ τ := by
  obtain ⟨⟨a1, a2, a3, a4, a5, a6, a7⟩, b, c, d, e, ⟨⟨k1, f1, f2⟩, ⟨k2, f3, f4⟩, ⟨k3, f5, f6⟩, ⟨k4, f7, f8⟩⟩, g, i⟩ := H
  refine ⟨⟨a1, a2, a3, a4, kv_cont_mono h a5, fun z => kv_on_mono (by omega) (by omega) (a6 z), fun z => kv_off_mono (by omega) (by omega) (a7 z)⟩, b, c, d, e, ⟨⟨k1, by omega, f2⟩, ⟨k2, by omega, f4⟩, ⟨k3, by omega, f6⟩, ⟨k4, by omega, f8⟩⟩, g, fun p hp => ?_⟩
  obtain ⟨i1, i2, ⟨k, i3, i4⟩, i5⟩ := i p hp
  exact ⟨i1, i2, ⟨k, by omega, i4⟩, i5⟩
theorem kR_par_congr {n : Nat} {σ σ' τ τ' : kt_S} (hσ : ∀ q, 16 ≤ q → σ' q = σ q) (h15 : τ' 15 = τ 15) (h16 : τ' 16 = τ 16) (h17 : τ' 17 = τ 17) (h18 : τ' 18 = τ 18) (h : kR_par n σ τ) : kR_par n σ' τ' := by
  intro p hp
  have := h p hp
  unfold kR_par1 at this ⊢
  rw [hσ (16 + 4 * p) (by omega), hσ (17 + 4 * p) (by omega), hσ (18 + 4 * p) (by omega), hσ (19 + 4 * p) (by omega), h15, h16, h17, h18]
  exact this
theorem kt_up_big {σ : kt_S} {p k : Nat} {v : Int32} (hp : p < 16) : ∀ q, 16 ≤ q → kt_up σ p k v q = σ q := fun q hq => kt_up_ne σ k v (by omega)
/-! the simplest calls: what they answer and what they leave -/
theorem kR_press {n : Nat} {σ τ : kt_S} (H : kR n σ τ) : ∃ r σ' τ', kp_K_press σ = some (r, σ') ∧ kp_M_press τ = some (r, τ') ∧ kR n σ' τ' := by
  obtain ⟨a, ⟨b1, b2, b3, b4, b5, b6, b7⟩, c, d, e, f, g, i⟩ := H
  unfold kp_K_press kp_K_press_0 kp_M_press kp_M_press_0
  rw [b1]
  by_cases h : σ 1 5 = 0
  · refine ⟨0, σ, kt_up τ 0 0 0, if_pos h, if_pos h, a, ⟨b1, b2, b3, b4, b5, b6, b7⟩, c, d, e, f, g, kR_par_congr (fun q hq => rfl) rfl rfl rfl rfl i⟩
  · refine ⟨1, kt_up σ 1 6 1, kt_up (kt_up τ 0 0 0) 0 6 1, if_neg h, if_neg h, a, ⟨b1, b2, rfl, Or.inr rfl, b5, b6, fun z => absurd z h⟩, c, d, e, f, g, kR_par_congr (kt_up_big (by omega)) rfl rfl rfl rfl i⟩
theorem kR_cutC {n : Nat} {σ τ : kt_S} (H : kR n σ τ) (k : Int32) : ∃ r σ' τ', kp_K_cut k σ = some (r, σ') ∧ kp_M_cut k τ = some (r, τ') ∧ kR n σ' τ' := by
  obtain ⟨⟨a1, a2, a3, a4, a5, a6, a7⟩, ⟨b1, b2, b3, b4, b5, b6, b7⟩, c, d, e, f, g, i⟩ := H
  unfold kp_K_cut kp_K_cut_0 kp_K_cut_14 kp_M_cut kp_M_cut_0 kp_M_cut_16
  rw [b1]
  by_cases hk : k < 0
  · exact ⟨0, σ, kt_up τ 0 0 0, if_pos hk, if_pos hk, ⟨a1, a2, a3, a4, a5, a6, a7⟩, ⟨b1, b2, b3, b4, b5, b6, b7⟩, c, d, e, f, g, kR_par_congr (fun q hq => rfl) rfl rfl rfl rfl i⟩
  · rw [if_neg hk, if_neg hk]
    by_cases h : σ 1 5 = 0
    · exact ⟨0, σ, kt_up τ 0 0 0, if_pos h, if_pos h, ⟨a1, a2, a3, a4, a5, a6, a7⟩, ⟨b1, b2, b3, b4, b5, b6, b7⟩, c, d, e, f, g, kR_par_congr (fun q hq => rfl) rfl rfl rfl rfl i⟩
    · exact ⟨1, kt_up σ 2 2 k, kt_up (kt_up τ 0 0 0) 0 4 k, if_neg h, if_neg h, ⟨a1, a2, rfl, Or.inr (kn_of hk), a5, a6, a7⟩, ⟨b1, b2, b3, b4, b5, b6, fun z => absurd z h⟩, c, d, e, f, g, kR_par_congr (kt_up_big (by omega)) rfl rfl rfl rfl i⟩
