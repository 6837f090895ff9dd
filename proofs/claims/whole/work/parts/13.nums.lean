theorem kt_bs {α β : Type} (x : α) (f : α → Option β) : Option.bind (some x) f = f x := Eq.trans rfl rfl
/-! Numbers: small naturals as Int32. -/
theorem kn_cl {n : Nat} (h : n < 2147483648) : (nI n).toNatClampNeg = n := Int32.toNatClampNeg_ofNat_of_lt h
theorem kn_add (a b : Nat) : nI a + nI b = nI (a + b) := by unfold nI; rw [Int32.ofNat_add]
theorem kn_mul (a b : Nat) : nI a * nI b = nI (a * b) := by unfold nI; rw [Int32.ofNat_mul]
theorem kn_succ (a : Nat) : nI a + 1 = nI (a + 1) := kn_add a 1
theorem kn_toInt {n : Nat} (h : n < 2147483648) : (nI n).toInt = (n : Int) := nI_toInt h
theorem kn_lt {a b : Nat} (ha : a < 2147483648) (hb : b < 2147483648) : nI a < nI b ↔ a < b := by
  rw [Int32.lt_iff_toInt_lt, kn_toInt ha, kn_toInt hb]; omega
theorem kn_le {a b : Nat} (ha : a < 2147483648) (hb : b < 2147483648) : nI a ≤ nI b ↔ a ≤ b := by
  rw [Int32.le_iff_toInt_le, kn_toInt ha, kn_toInt hb]; omega
theorem kn_eq {a b : Nat} (ha : a < 2147483648) (hb : b < 2147483648) : nI a = nI b ↔ a = b := by
  rw [← Int32.toInt_inj, kn_toInt ha, kn_toInt hb]; omega
theorem kn_nn {a : Nat} (ha : a < 2147483648) : ¬ nI a < 0 := by
  rw [Int32.lt_iff_toInt_lt, kn_toInt ha, Int32.toInt_zero]; omega
/-- an index that is a small number is in bounds, or not -/
theorem kn_in {a n : Nat} (h : a < n) (hn : n ≤ 2147483648) : ¬ (nI a < 0 ∨ n ≤ (nI a).toNatClampNeg) := by
  have ha : a < 2147483648 := by omega
  rw [kn_cl ha]
  intro z
  rcases z with z | z
  · exact kn_nn ha z
  · omega
/-- a non-negative Int32 is a small number -/
theorem kn_of {x : Int32} (h : ¬ x < 0) : ∃ n : Nat, n < 2147483648 ∧ x = nI n := by
  rw [Int32.lt_iff_toInt_lt, Int32.toInt_zero] at h
  have h1 := x.toInt_lt
  refine ⟨x.toInt.toNat, by omega, ?_⟩
  apply Int32.toInt_inj.mp
  rw [kn_toInt (by omega)]
  omega
theorem kn_ofLt {x : Int32} {n : Nat} (h0 : ¬ x < 0) (hn : ¬ nI n ≤ x) (hs : n < 2147483648) : ∃ k : Nat, k < n ∧ x = nI k := by
  obtain ⟨k, hk, rfl⟩ := kn_of h0
  rw [kn_le hs hk] at hn
  exact ⟨k, by omega, rfl⟩
/-- the first of seven pages with a property, or -1 -/
def ks_find (P : Nat → Bool) : Int32 := if P 0 then 0 else if P 1 then 1 else if P 2 then 2 else if P 3 then 3 else if P 4 then 4 else if P 5 then 5 else if P 6 then 6 else -1
def ks_cnt (P : Nat → Bool) : Nat := (if P 0 then 1 else 0) + (if P 1 then 1 else 0) + (if P 2 then 1 else 0) + (if P 3 then 1 else 0) + (if P 4 then 1 else 0) + (if P 5 then 1 else 0) + (if P 6 then 1 else 0)
/-- a loop over seven pages that ends at the first with the property -/
theorem ks_find_loop {F : Nat → Nat → Option (Int32 × kt_S)} {P : Nat → Bool} {σ : kt_S} (h7 : ∀ n, F (n + 1) 7 = some (-1, σ)) (hs : ∀ n p, p < 7 → F (n + 1) p = if P p then some (nI p, σ) else F n (p + 1)) : F 100 0 = some (ks_find P, σ) := by
  rw [hs 99 0 (by omega), hs 98 1 (by omega), hs 97 2 (by omega), hs 96 3 (by omega), hs 95 4 (by omega), hs 94 5 (by omega), hs 93 6 (by omega), h7 92]
  unfold ks_find
  cases P 0 <;> cases P 1 <;> cases P 2 <;> cases P 3 <;> cases P 4 <;> cases P 5 <;> cases P 6 <;> rfl
/-- a loop over seven pages that counts -/
theorem ks_cnt_loop {F : Nat → Int32 → Nat → Option (Int32 × kt_S)} {P : Nat → Bool} {σ : kt_S} (h7 : ∀ n x, F (n + 1) x 7 = some (x, σ)) (hs : ∀ n x p, p < 7 → F (n + 1) (nI x) p = F n (nI (x + if P p then 1 else 0)) (p + 1)) : F 100 (nI 0) 0 = some (nI (ks_cnt P), σ) := by
  rw [hs 99 0 0 (by omega), hs 98 _ 1 (by omega), hs 97 _ 2 (by omega), hs 96 _ 3 (by omega), hs 95 _ 4 (by omega), hs 94 _ 5 (by omega), hs 93 _ 6 (by omega), h7 92]
  unfold ks_cnt
  rw [Nat.zero_add]
def ks_any (P : Nat → Bool) : Bool := P 0 || (P 1 || (P 2 || (P 3 || (P 4 || (P 5 || P 6)))))
/-- a loop over seven pages that answers y at the first with the property, else z -/
theorem ks_any_loop {α : Type} {F : Nat → Nat → Option α} {P : Nat → Bool} {y z : α} (h7 : ∀ n, F (n + 1) 7 = some z) (hs : ∀ n p, p < 7 → F (n + 1) p = if P p then some y else F n (p + 1)) : F 100 0 = some (if ks_any P then y else z) := by
  rw [hs 99 0 (by omega), hs 98 1 (by omega), hs 97 2 (by omega), hs 96 3 (by omega), hs 95 4 (by omega), hs 94 5 (by omega), hs 93 6 (by omega), h7 92]
  unfold ks_any
  cases P 0 <;> cases P 1 <;> cases P 2 <;> cases P 3 <;> cases P 4 <;> cases P 5 <;> cases P 6 <;> rfl
theorem ks_any_iff {P : Nat → Bool} : ks_any P = true ↔ ∃ p, p < 7 ∧ P p = true := by
  unfold ks_any
  simp only [Bool.or_eq_true]
  constructor
  · rintro (h | h | h | h | h | h | h)
    · exact ⟨0, by omega, h⟩
    · exact ⟨1, by omega, h⟩
    · exact ⟨2, by omega, h⟩
    · exact ⟨3, by omega, h⟩
    · exact ⟨4, by omega, h⟩
    · exact ⟨5, by omega, h⟩
    · exact ⟨6, by omega, h⟩
  · rintro ⟨p, hp, h⟩
    have : p = 0 ∨ p = 1 ∨ p = 2 ∨ p = 3 ∨ p = 4 ∨ p = 5 ∨ p = 6 := by omega
    rcases this with rfl | rfl | rfl | rfl | rfl | rfl | rfl <;> simp [h]
/-- what the search finds: a page with the property, the first; or none -/
theorem ks_find_spec (P : Nat → Bool) : (∃ p, p < 7 ∧ P p = true ∧ ks_find P = nI p ∧ ∀ q, q < p → P q = false) ∨ (ks_find P = -1 ∧ ∀ p, p < 7 → P p = false) := by
  unfold ks_find
  cases h0 : P 0
  case true => exact Or.inl ⟨0, by omega, h0, by simp; rfl, fun q hq => by omega⟩
  cases h1 : P 1
  case true => exact Or.inl ⟨1, by omega, h1, by simp; rfl, fun q hq => by have : q = 0 := by omega
                                                                           subst this; exact h0⟩
  cases h2 : P 2
  case true => exact Or.inl ⟨2, by omega, h2, by simp; rfl, fun q hq => by
    rcases (show q = 0 ∨ q = 1 by omega) with rfl | rfl <;> assumption⟩
  cases h3 : P 3
  case true => exact Or.inl ⟨3, by omega, h3, by simp; rfl, fun q hq => by
    rcases (show q = 0 ∨ q = 1 ∨ q = 2 by omega) with rfl | rfl | rfl <;> assumption⟩
  cases h4 : P 4
  case true => exact Or.inl ⟨4, by omega, h4, by simp; rfl, fun q hq => by
    rcases (show q = 0 ∨ q = 1 ∨ q = 2 ∨ q = 3 by omega) with rfl | rfl | rfl | rfl <;> assumption⟩
  cases h5 : P 5
  case true => exact Or.inl ⟨5, by omega, h5, by simp; rfl, fun q hq => by
    rcases (show q = 0 ∨ q = 1 ∨ q = 2 ∨ q = 3 ∨ q = 4 by omega) with rfl | rfl | rfl | rfl | rfl <;> assumption⟩
  cases h6 : P 6
  case true => exact Or.inl ⟨6, by omega, h6, by simp; rfl, fun q hq => by
    rcases (show q = 0 ∨ q = 1 ∨ q = 2 ∨ q = 3 ∨ q = 4 ∨ q = 5 by omega) with rfl | rfl | rfl | rfl | rfl | rfl <;> assumption⟩
  refine Or.inr ⟨by simp, fun p hp => ?_⟩
  rcases (show p = 0 ∨ p = 1 ∨ p = 2 ∨ p = 3 ∨ p = 4 ∨ p = 5 ∨ p = 6 by omega) with rfl | rfl | rfl | rfl | rfl | rfl | rfl <;> assumption
theorem ks_find_congr {P Q : Nat → Bool} (h : ∀ p, p < 7 → P p = Q p) : ks_find P = ks_find Q := by
  unfold ks_find
  rw [h 0 (by omega), h 1 (by omega), h 2 (by omega), h 3 (by omega), h 4 (by omega), h 5 (by omega), h 6 (by omega)]
theorem ks_cnt_congr {P Q : Nat → Bool} (h : ∀ p, p < 7 → P p = Q p) : ks_cnt P = ks_cnt Q := by
  unfold ks_cnt
  rw [h 0 (by omega), h 1 (by omega), h 2 (by omega), h 3 (by omega), h 4 (by omega), h 5 (by omega), h 6 (by omega)]
theorem ks_any_congr {P Q : Nat → Bool} (h : ∀ p, p < 7 → P p = Q p) : ks_any P = ks_any Q := by
  unfold ks_any
  rw [h 0 (by omega), h 1 (by omega), h 2 (by omega), h 3 (by omega), h 4 (by omega), h 5 (by omega), h 6 (by omega)]
