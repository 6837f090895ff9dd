/-! The pages: each erased, or with a label; what class and reference read is the same. -/
/-- page p is erased, or its label is of a name below 7 and a serial from 1 to B -/
def kv_pg (f : Nat → Int32) (B p : Nat) : Prop := (∀ k, k < 6 → f (6 * p + k) = -1) ∨ ∃ n s : Nat, n < 7 ∧ 1 ≤ s ∧ s ≤ B ∧ f (6 * p) = nI (n + 16 * s)
def kv_ok (f : Nat → Int32) (B : Nat) : Prop := B < 1000000 ∧ ∀ p, p < 7 → kv_pg f B p
theorem kv_m1 {n : Nat} (h : n < 2147483648) : ¬ nI n = -1 := fun z => kn_nn h (by rw [z]; exact ks_neg1)
theorem kv_nm {n s : Nat} (hn : n < 7) (hs : s < 1000000) : ks_nm (nI (n + 16 * s)) = nI n := by
  have h := pk_rem (a := n + 16 * s) (d := 16) (by omega) (by omega) (by omega)
  have e : (n + 16 * s) % 16 = n := by omega
  rw [e] at h
  exact h
theorem kv_and {n s : Nat} (hn : n < 7) (hs : s < 1000000) : nI (n + 16 * s) &&& 15 = nI n := by
  have h := pk_andN (n := n + 16 * s) (by omega) (m := 15) 4 (by decide)
  have e : (n + 16 * s) % 2 ^ 4 = n := by omega
  rw [e] at h
  exact h
theorem kv_shr {n s : Nat} (hn : n < 7) (hs : s < 1000000) : nI (n + 16 * s) >>> (4 &&& 31) = nI s := by
  have h := pk_shrN (n := n + 16 * s) (by omega) (4 &&& 31) 4 (by decide)
  have e : (n + 16 * s) / 2 ^ 4 = s := by omega
  rw [e] at h
  exact h
theorem kv_E {f : Nat → Int32} {B p : Nat} (hB : B < 1000000) (h : kv_pg f B p) : km_E f p = ks_E f p := by
  unfold km_E ks_E
  rcases h with h | ⟨n, s, hn, h1, hs, h⟩
  · have h0 := h 0 (by omega)
    rw [Nat.add_zero] at h0
    simp [h 0 (by omega), h 1 (by omega), h 2 (by omega), h 3 (by omega), h 4 (by omega), h 5 (by omega), h0]
  · have h0 : ¬ f (6 * p) = -1 := by rw [h]; exact kv_m1 (by omega)
    simp [h0]
theorem kv_page {f : Nat → Int32} {B : Nat} (h : kv_ok f B) (name : Int32) : km_pg f name = ks_pg f name := by
  refine ks_find_congr (fun p hp => ?_)
  rw [kv_E h.1 (h.2 p hp)]
  unfold ks_E
  rcases h.2 p hp with h1 | ⟨n, s, hn, h1, hs, h2⟩
  · have h0 := h1 0 (by omega)
    rw [Nat.add_zero] at h0
    simp [h0]
  · have h0 : ¬ nI (n + 16 * s) = -1 := kv_m1 (by have := h.1; omega)
    rw [h2, kv_nm hn (by have := h.1; omega), kv_and hn (by have := h.1; omega)]
    simp [h0]
/-- the greatest serial -/
theorem kv_lb {f : Nat → Int32} {B : Nat} (h : kv_ok f B) : ∀ n, n ≤ 7 → (ks_lb f 2147483647 n = -1 ∧ km_ser f n = 0) ∨ ∃ a s : Nat, a < 7 ∧ 1 ≤ s ∧ s ≤ B ∧ ks_lb f 2147483647 n = nI (a + 16 * s) ∧ km_ser f n = nI s := by
  have hB := h.1
  intro n
  induction n with
  | zero => intro _; exact Or.inl ⟨rfl, rfl⟩
  | succ n ih =>
    intro hn
    have e1 : ks_lb f 2147483647 (n + 1) = if f (6 * n) < 2147483647 ∧ ks_lb f 2147483647 n < f (6 * n) then f (6 * n) else ks_lb f 2147483647 n := rfl
    have e2 : km_ser f (n + 1) = if km_E f n = false ∧ km_ser f n < f (6 * n) >>> (4 &&& 31) then f (6 * n) >>> (4 &&& 31) else km_ser f n := rfl
    rw [e1, e2, kv_E hB (h.2 n (by omega))]
    rcases h.2 n (by omega) with h1 | ⟨a, s, ha, h1, hs, h2⟩
    · have h0 := h1 0 (by omega)
      rw [Nat.add_zero] at h0
      have hE : ¬ ks_E f n = false := by unfold ks_E; rw [h0]; decide
      have e2' : (if ks_E f n = false ∧ km_ser f n < f (6 * n) >>> (4 &&& 31) then f (6 * n) >>> (4 &&& 31) else km_ser f n) = km_ser f n := if_neg (fun z => hE z.1)
      rw [e2']
      rcases ih (by omega) with ⟨i1, i2⟩ | ⟨a', s', j1, j2, j3, j4, j5⟩
      · left
        rw [i1, i2, h0]
        exact ⟨by rw [if_neg (by decide)], rfl⟩
      · right
        refine ⟨a', s', j1, j2, j3, ?_, j5⟩
        rw [j4, h0]
        refine if_neg ?_
        intro z
        have z2 := z.2
        rw [Int32.lt_iff_toInt_lt, kn_toInt (by omega)] at z2
        have : (-1 : Int32).toInt = -1 := by decide
        omega
    · have hE : ks_E f n = false := by unfold ks_E; rw [h2]; exact decide_eq_false (kv_m1 (by omega))
      have hlim : nI (a + 16 * s) < 2147483647 := by
        show nI (a + 16 * s) < nI 2147483647
        rw [kn_lt (by omega) (by omega)]
        omega
      rw [h2, hE, kv_shr ha (by omega)]
      rcases ih (by omega) with ⟨i1, i2⟩ | ⟨a', s', j1, j2, j3, j4, j5⟩
      · right
        have c1 : (-1 : Int32) < nI (a + 16 * s) := by
          rw [Int32.lt_iff_toInt_lt, kn_toInt (by omega)]
          have : (-1 : Int32).toInt = -1 := by decide
          omega
        have c2 : (0 : Int32) < nI s := by
          show nI 0 < nI s
          rw [kn_lt (by omega) (by omega)]
          omega
        rw [i1, i2, if_pos ⟨hlim, c1⟩, if_pos ⟨rfl, c2⟩]
        exact ⟨a, s, ha, h1, hs, rfl, rfl⟩
      · rw [j4, j5]
        right
        by_cases hlt : a' + 16 * s' < a + 16 * s
        · rw [if_pos ⟨hlim, (kn_lt (by omega) (by omega)).mpr hlt⟩]
          by_cases hss : s' < s
          · rw [if_pos ⟨rfl, (kn_lt (by omega) (by omega)).mpr hss⟩]
            exact ⟨a, s, ha, h1, hs, rfl, rfl⟩
          · have : s' = s := by omega
            subst this
            rw [if_neg (fun z => by have := (kn_lt (by omega) (by omega)).mp z.2; omega)]
            exact ⟨a, s', ha, h1, hs, rfl, rfl⟩
        · rw [if_neg (fun z => hlt ((kn_lt (by omega) (by omega)).mp z.2))]
          rw [if_neg (fun z => by have := (kn_lt (by omega) (by omega)).mp z.2; omega)]
          exact ⟨a', s', j1, j2, j3, rfl, rfl⟩
/-- the label of the next record -/
theorem kv_lab {f : Nat → Int32} {B : Nat} (h : kv_ok f B) (name : Int32) : ks_lab f name = name + 16 * (km_ser f 7 + 1) ∧ ∃ s : Nat, s ≤ B ∧ km_ser f 7 = nI s := by
  have hB := h.1
  unfold ks_lab
  rcases kv_lb h 7 (by omega) with ⟨i1, i2⟩ | ⟨a, s, j1, j2, j3, j4, j5⟩
  · rw [i1, i2]
    exact ⟨by rw [if_neg (by decide)]; rfl, 0, by omega, rfl⟩
  · rw [j4, j5]
    have c1 : (0 : Int32) < nI (a + 16 * s) := by
      show nI 0 < _
      rw [kn_lt (by omega) (by omega)]
      omega
    have c2 : nI (a + 16 * s) / 16 = nI s := by
      have h := pk_div (a := a + 16 * s) (d := 16) (by omega) (by omega) (by omega)
      have e : (a + 16 * s) / 16 = s := by omega
      rw [e] at h
      exact h
    rw [if_pos c1, c2]
    exact ⟨rfl, s, j3, rfl⟩
