/-! ASSERT: records in the order of their labels. -/
def kA_L (g : Nat → Int32) (x : Nat) : Nat := (g (6 * (ks_pg g (nI x)).toNatClampNeg)).toNatClampNeg
theorem kA_pr {g : Nat → Int32} {B x : Nat} (hon : kv_on g B) (hx : x < 7) (h : ¬ ks_pg g (nI x) = -1) : ∃ p s, p < 7 ∧ ks_pg g (nI x) = nI p ∧ 1 ≤ s ∧ s ≤ B ∧ g (6 * p) = nI (x + 16 * s) ∧ kA_L g x = x + 16 * s := by
  have hB := hon.1.1
  rcases ks_old_cases g (nI x) with ⟨q, h1, h2, h3, h4, h5⟩ | ⟨h1, _⟩
  · rcases hon.1.2 q h1 with y | ⟨m, s, s1, s2, s3, s4⟩
    · exact absurd (y 0 (by omega)) h4
    · rw [s4, kv_nm s1 (by omega)] at h5
      have hm : m = x := (kn_eq (by omega) (by omega)).mp h5
      subst hm
      refine ⟨q, s, h1, h2, s2, s3, s4, ?_⟩
      unfold kA_L
      rw [h2, kn_cl (by omega), s4, kn_cl (by omega)]
  · exact absurd h1 h
theorem kA_at {g : Nat → Int32} {B p : Nat} (hon : kv_on g B) (hp : p < 7) (h : ¬ g (6 * p) = -1) : ∃ x s, x < 7 ∧ 1 ≤ s ∧ s ≤ B ∧ g (6 * p) = nI (x + 16 * s) ∧ ks_pg g (nI x) = nI p ∧ kA_L g x = x + 16 * s := by
  have hB := hon.1.1
  rcases hon.1.2 p hp with y | ⟨x, s, s1, s2, s3, s4⟩
  · exact absurd (y 0 (by omega)) h
  · have hnm : ks_nm (g (6 * p)) = nI x := by rw [s4]; exact kv_nm s1 (by omega)
    have hpg : ks_pg g (nI x) = nI p := by
      rcases ks_old_cases g (nI x) with ⟨q, h1, h2, h3, h4, h5⟩ | ⟨h1, _, h3⟩
      · by_cases u : p = q
        · rw [h2, u]
        · exact absurd (hnm.trans h5.symm) (hon.2.2.1 p q hp h1 u h h4).1
      · rcases h3 p hp with z | z
        · exact absurd z h
        · exact absurd hnm z
    refine ⟨x, s, s1, s2, s3, s4, hpg, ?_⟩
    unfold kA_L
    rw [hpg, kn_cl (by omega), s4, kn_cl (by omega)]
/-- serials are distinct -/
theorem kA_inj {g : Nat → Int32} {B x y : Nat} (hon : kv_on g B) (hx : x < 7) (hy : y < 7) (px : ¬ ks_pg g (nI x) = -1) (py : ¬ ks_pg g (nI y) = -1) (h : kA_L g x / 16 = kA_L g y / 16) : x = y := by
  have hB := hon.1.1
  obtain ⟨p, s, p1, p2, p3, p4, p5, p6⟩ := kA_pr hon hx px
  obtain ⟨q, t, q1, q2, q3, q4, q5, q6⟩ := kA_pr hon hy py
  rw [p6, q6] at h
  have hst : s = t := by omega
  subst hst
  by_cases u : p = q
  · subst u
    rw [p5] at q5
    have := (kn_eq (by omega) (by omega)).mp q5
    omega
  · have := (hon.2.2.1 p q p1 q1 u (by rw [p5]; exact kv_m1 (by omega)) (by rw [q5]; exact kv_m1 (by omega))).2
    rw [p5, q5, kv_div hx (by omega), kv_div hy (by omega)] at this
    exact absurd rfl this
theorem ki_mlt {v : Nat} (h : v < 2147483648) : (-1 : Int32) < nI v := by
  rw [Int32.lt_iff_toInt_lt, kn_toInt h, show (-1 : Int32).toInt = -1 by decide]
  omega
theorem ks_lb_spec (f : Nat → Int32) (lim : Int32) : ∀ n, (ks_lb f lim n = -1 ∧ ∀ q, q < n → ¬ (f (6 * q) < lim ∧ -1 < f (6 * q))) ∨ ∃ p, p < n ∧ ks_lb f lim n = f (6 * p) ∧ f (6 * p) < lim ∧ -1 < f (6 * p) ∧ ∀ q, q < n → f (6 * q) < lim → f (6 * q) ≤ f (6 * p) := by
  intro n
  induction n with
  | zero => exact Or.inl ⟨rfl, fun q hq => absurd hq (by omega)⟩
  | succ n ih =>
    have e : ks_lb f lim (n + 1) = if f (6 * n) < lim ∧ ks_lb f lim n < f (6 * n) then f (6 * n) else ks_lb f lim n := rfl
    rw [e]
    have hq1 : ∀ q, q < n + 1 → q < n ∨ q = n := fun q hq => by omega
    by_cases c : f (6 * n) < lim ∧ ks_lb f lim n < f (6 * n)
    · rw [if_pos c]
      refine Or.inr ⟨n, by omega, rfl, c.1, ?_, fun q hq hl => ?_⟩
      · rcases ih with ⟨i1, i2⟩ | ⟨p, i1, i2, i3, i4, i5⟩
        · rw [← i1]
          exact c.2
        · have c2 := c.2
          rw [i2] at c2
          rw [Int32.lt_iff_toInt_lt] at i4 c2 ⊢
          omega
      · rcases hq1 q hq with z | z
        · rcases ih with ⟨i1, i2⟩ | ⟨p, i1, i2, i3, i4, i5⟩
          · have h2 := i2 q z
            have c2 := c.2
            rw [i1] at c2
            have h3 : ¬ -1 < f (6 * q) := fun y => h2 ⟨hl, y⟩
            rw [Int32.lt_iff_toInt_lt] at h3 c2
            rw [Int32.le_iff_toInt_le]
            omega
          · have h2 := i5 q z hl
            have c2 := c.2
            rw [i2] at c2
            rw [Int32.lt_iff_toInt_lt] at c2
            rw [Int32.le_iff_toInt_le] at h2 ⊢
            omega
        · rw [z, Int32.le_iff_toInt_le]
          omega
    · rw [if_neg c]
      rcases ih with ⟨i1, i2⟩ | ⟨p, i1, i2, i3, i4, i5⟩
      · refine Or.inl ⟨i1, fun q hq => ?_⟩
        rcases hq1 q hq with z | z
        · exact i2 q z
        · rw [z]
          rw [i1] at c
          exact c
      · refine Or.inr ⟨p, by omega, i2, i3, i4, fun q hq hl => ?_⟩
        rcases hq1 q hq with z | z
        · exact i5 q z hl
        · rw [z] at hl ⊢
          rw [i2] at c
          have h3 : ¬ f (6 * p) < f (6 * n) := fun y => c ⟨hl, y⟩
          rw [Int32.lt_iff_toInt_lt] at h3
          rw [Int32.le_iff_toInt_le]
          omega
def kA_lb : Nat → Int32
  | 0 => -1
  | v + 1 => nI v
theorem kA_below {g : Nat → Int32} {B v : Nat} (hon : kv_on g B) (hv : v < 2147483648) : ∃ l, ks_lb g (nI v) 7 = kA_lb l ∧ l ≤ v ∧ (l = 0 ∨ ∃ x, x < 7 ∧ ¬ ks_pg g (nI x) = -1 ∧ l = kA_L g x + 1) ∧ ∀ x, x < 7 → ¬ ks_pg g (nI x) = -1 → kA_L g x < v → kA_L g x + 1 ≤ l := by
  have hB := hon.1.1
  rcases ks_lb_spec g (nI v) 7 with ⟨h1, h2⟩ | ⟨p, h1, h2, h3, h4, h5⟩
  · refine ⟨0, h1, by omega, Or.inl rfl, fun x hx px hl => ?_⟩
    obtain ⟨q, s, q1, q2, q3, q4, q5, q6⟩ := kA_pr hon hx px
    refine absurd ?_ (h2 q q1)
    rw [q5]
    rw [q6] at hl
    exact ⟨(kn_lt (by omega) hv).mpr hl, ki_mlt (by omega)⟩
  · have hne : ¬ g (6 * p) = -1 := fun z => by
      rw [z] at h4
      exact absurd h4 (by decide)
    obtain ⟨x, s, s1, s2, s3, s4, s5, s6⟩ := kA_at hon h1 hne
    have hlt : x + 16 * s < v := by
      rw [s4] at h3
      exact (kn_lt (by omega) hv).mp h3
    refine ⟨kA_L g x + 1, ?_, by omega, Or.inr ⟨x, s1, by rw [s5]; exact kv_m1 (by omega), rfl⟩, fun y hy py hl => ?_⟩
    · rw [h2, s4, s6]
      rfl
    · obtain ⟨q, t, q1, q2, q3, q4, q5, q6⟩ := kA_pr hon hy py
      rw [q6] at hl
      have := h5 q q1 (by rw [q5]; exact (kn_lt (by omega) hv).mpr hl)
      rw [q5, s4, kn_le (by omega) (by omega)] at this
      omega
def kA_N (g : Nat → Int32) (l : Nat) : Nat := ks_cnt (fun p => decide (¬ g (6 * p) = -1 ∧ (g (6 * p)).toNatClampNeg + 1 ≤ l))
theorem ks_cnt_lt {P Q : Nat → Bool} (h : ∀ p, p < 7 → P p = true → Q p = true) {p0 : Nat} (hp : p0 < 7) (h1 : Q p0 = true) (h2 : P p0 = false) : ks_cnt P + 1 ≤ ks_cnt Q := by
  have le : ∀ p, p < 7 → (if P p then 1 else 0) ≤ (if Q p then 1 else 0) := fun p hp => by
    cases hP : P p with
    | true =>
      rw [h p hp hP]
      exact Nat.le_refl _
    | false =>
      rw [if_neg (by decide)]
      exact Nat.zero_le _
  have lt : (if P p0 then 1 else 0) + 1 ≤ (if Q p0 then 1 else 0) := by
    rw [h1, h2]
    decide
  have l0 := le 0 (by omega)
  have l1 := le 1 (by omega)
  have l2 := le 2 (by omega)
  have l3 := le 3 (by omega)
  have l4 := le 4 (by omega)
  have l5 := le 5 (by omega)
  have l6 := le 6 (by omega)
  unfold ks_cnt
  have hp' : p0 = 0 ∨ p0 = 1 ∨ p0 = 2 ∨ p0 = 3 ∨ p0 = 4 ∨ p0 = 5 ∨ p0 = 6 := by omega
  clear le h h1 h2 hp
  generalize hP0 : (if P 0 then 1 else 0) = a0 at l0 ⊢
  generalize hP1 : (if P 1 then 1 else 0) = a1 at l1 ⊢
  generalize hP2 : (if P 2 then 1 else 0) = a2 at l2 ⊢
  generalize hP3 : (if P 3 then 1 else 0) = a3 at l3 ⊢
  generalize hP4 : (if P 4 then 1 else 0) = a4 at l4 ⊢
  generalize hP5 : (if P 5 then 1 else 0) = a5 at l5 ⊢
  generalize hP6 : (if P 6 then 1 else 0) = a6 at l6 ⊢
  generalize hQ0 : (if Q 0 then 1 else 0) = b0 at l0 ⊢
  generalize hQ1 : (if Q 1 then 1 else 0) = b1 at l1 ⊢
  generalize hQ2 : (if Q 2 then 1 else 0) = b2 at l2 ⊢
  generalize hQ3 : (if Q 3 then 1 else 0) = b3 at l3 ⊢
  generalize hQ4 : (if Q 4 then 1 else 0) = b4 at l4 ⊢
  generalize hQ5 : (if Q 5 then 1 else 0) = b5 at l5 ⊢
  generalize hQ6 : (if Q 6 then 1 else 0) = b6 at l6 ⊢
  rcases hp' with z | z | z | z | z | z | z
  · rw [z, hP0, hQ0] at lt; omega
  · rw [z, hP1, hQ1] at lt; omega
  · rw [z, hP2, hQ2] at lt; omega
  · rw [z, hP3, hQ3] at lt; omega
  · rw [z, hP4, hQ4] at lt; omega
  · rw [z, hP5, hQ5] at lt; omega
  · rw [z, hP6, hQ6] at lt; omega
theorem kA_N6 {g : Nat → Int32} {B : Nat} (hon : kv_on g B) (l : Nat) : kA_N g l ≤ 6 := by
  obtain ⟨p, p1, p2⟩ := hon.2.2.2
  have := ks_cnt_lt (P := fun p => decide (¬ g (6 * p) = -1 ∧ (g (6 * p)).toNatClampNeg + 1 ≤ l)) (Q := fun _ => true) (fun _ _ _ => rfl) p1 rfl (decide_eq_false (fun z => z.1 p2))
  have e : ks_cnt (fun _ => true) = 7 := by decide
  unfold kA_N
  omega
theorem kA_N_lt {g : Nat → Int32} {B x l : Nat} (hon : kv_on g B) (hx : x < 7) (px : ¬ ks_pg g (nI x) = -1) (hl : l ≤ kA_L g x) : kA_N g l + 1 ≤ kA_N g (kA_L g x + 1) := by
  have hB := hon.1.1
  obtain ⟨q, s, q1, q2, q3, q4, q5, q6⟩ := kA_pr hon hx px
  refine ks_cnt_lt (p0 := q) (fun p hp h => ?_) q1 (decide_eq_true ⟨by rw [q5]; exact kv_m1 (by omega), by rw [q5, kn_cl (by omega), q6]; exact Nat.le_refl _⟩) (decide_eq_false (fun z => ?_))
  · have := of_decide_eq_true h
    exact decide_eq_true ⟨this.1, by omega⟩
  · have := z.2
    rw [q5, kn_cl (by omega)] at this
    omega
/-! arrays of names, in the order of their labels -/
def kA_ar (row : Nat → Int32) (r : Nat → Nat) (c : Nat) : Prop := ∀ j, j < c → row j = nI (r j)
def kA_so (L r : Nat → Nat) (c : Nat) : Prop := ∀ a b, a < b → b < c → L (r b) < L (r a)
theorem kA_uniq {L r r' : Nat → Nat} {c c' : Nat} (h1 : kA_so L r c) (h2 : kA_so L r' c') (hm : ∀ x, (∃ j, j < c ∧ r j = x) ↔ ∃ j, j < c' ∧ r' j = x) : c = c' ∧ ∀ j, j < c → r j = r' j := by
  have main : ∀ j, j < c → j < c' → r j = r' j := by
    intro j
    induction j using Nat.strongRecOn with
    | ind j ih =>
      intro hc hc'
      obtain ⟨k, k1, k2⟩ := (hm (r j)).mp ⟨j, hc, rfl⟩
      obtain ⟨k', k1', k2'⟩ := (hm (r' j)).mpr ⟨j, hc', rfl⟩
      have a : ¬ k < j := fun z => by
        have e := ih k z (by omega) k1
        have := h1 k j z hc
        rw [e, k2] at this
        omega
      have b : ¬ k' < j := fun z => by
        have e := ih k' z k1' (by omega)
        have := h2 k' j z hc'
        rw [← e, k2'] at this
        omega
      by_cases u : k = j
      · rw [← u]
        rw [u] at k2
        rw [u, k2]
      · by_cases v : k' = j
        · rw [v] at k2'
          exact k2'
        · have e1 := h2 j k (by omega) k1
          have e2 := h1 j k' (by omega) k1'
          rw [k2] at e1
          rw [k2'] at e2
          omega
  refine ⟨?_, fun j hj => ?_⟩
  · rcases Nat.lt_trichotomy c c' with z | z | z
    · obtain ⟨k, k1, k2⟩ := (hm (r' c)).mpr ⟨c, z, rfl⟩
      have e := main k k1 (by omega)
      have := h2 k c k1 z
      rw [← e, k2] at this
      omega
    · exact z
    · obtain ⟨k, k1, k2⟩ := (hm (r c')).mp ⟨c', z, rfl⟩
      have e := main k (by omega) k1
      have := h1 k c' k1 z
      rw [e, k2] at this
      omega
  · rcases Nat.lt_or_ge j c' with z | z
    · exact main j hj z
    · exfalso
      obtain ⟨k, k1, k2⟩ := (hm (r j)).mp ⟨j, hj, rfl⟩
      have e := main k (by omega) k1
      have := h1 k j (by omega) hj
      rw [e, k2] at this
      omega
