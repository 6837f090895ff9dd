/-! When the power comes: the pages are looked through. -/
def kv_bad (f : Nat → Int32) (p : Nat) : Bool := !ks_E f p && (!decide (f (6 * p + 5) = ks_seal f p) || ks_any (ks_rival f (f (6 * p))))
def kv_step (p : Nat) (X : (Nat → Int32) × Int32) : (Nat → Int32) × Int32 := if kv_bad X.1 p then (ks_er p X.1, X.2 + 1) else X
def kv_look : Nat → (Nat → Int32) × Int32 → (Nat → Int32) × Int32
  | 0, X => X
  | n + 1, X => kv_step n (kv_look n X)
theorem ks_look_step (σ : kt_S) (n p : Nat) (hp : p < 7) (f : Nat → Int32) (w : Int32) : kp_S_lookThrough_2 (n + 1) (nI p) (ks_set σ (f, -1, w)) = kp_S_lookThrough_2 n (nI (p + 1)) (ks_set σ ((kv_step p (f, w)).1, -1, (kv_step p (f, w)).2)) := by
  show kp_S_lookThrough_2b (kp_S_lookThrough_2 n) (nI p) (ks_set σ (f, -1, w)) = _
  have er : kp_S_erase (nI p) (ks_set σ (f, -1, w)) = some (1, ks_set σ (ks_er p f, -1, w + 1)) := by
    rw [ks_erase p hp, if_neg (show ¬ (-1 : Int32) = 0 by decide)]
    rfl
  unfold kp_S_lookThrough_2b kp_S_lookThrough_34 kp_S_lookThrough_40
  rw [if_neg (ks_lt7 hp), ks_read0 p hp, kt_bs, kn_succ, ks_set3]
  dsimp only
  unfold kv_step kv_bad ks_E
  dsimp only
  by_cases h0 : f (6 * p) = -1
  · rw [if_pos h0, decide_eq_true h0]
    rfl
  · rw [if_neg h0, decide_eq_false h0, ks_isSealed p hp, kt_bs, ks_set3]
    dsimp only
    by_cases h1 : f (6 * p + 5) = ks_seal f p
    · rw [if_pos h1, if_neg ks_one, ks_isOutdated p hp, kt_bs, ks_set3, decide_eq_true h1]
      dsimp only
      cases h2 : ks_any (ks_rival f (f (6 * p))) with
      | false => rfl
      | true =>
        rw [if_pos rfl, if_neg ks_one, er, kt_bs]
        rfl
    · rw [if_neg h1, if_pos rfl, er, kt_bs, decide_eq_false h1]
      rfl
theorem ks_lookThrough (σ : kt_S) (f : Nat → Int32) (w : Int32) : kp_S_lookThrough (ks_set σ (f, -1, w)) = some (ks_set σ ((kv_look 7 (f, w)).1, -1, (kv_look 7 (f, w)).2)) := by
  have h : ∀ n p, p < 7 → kp_S_lookThrough_2 (n + 1) (nI p) (ks_set σ ((kv_look p (f, w)).1, -1, (kv_look p (f, w)).2)) = kp_S_lookThrough_2 n (nI (p + 1)) (ks_set σ ((kv_look (p + 1) (f, w)).1, -1, (kv_look (p + 1) (f, w)).2)) := by
    intro n p hp
    rw [ks_look_step σ n p hp]
    rfl
  have h7 : ∀ n s, kp_S_lookThrough_2 (n + 1) (nI 7) s = some s := fun n s => rfl
  show kp_S_lookThrough_2 100 (nI 0) (ks_set σ ((kv_look 0 (f, w)).1, -1, (kv_look 0 (f, w)).2)) = _
  rw [h 99 0 (by omega), h 98 1 (by omega), h 97 2 (by omega), h 96 3 (by omega), h 95 4 (by omega), h 94 5 (by omega), h 93 6 (by omega), h7 92]
/-! the reference -/
def km_rival (f : Nat → Int32) (p q : Nat) : Bool := (!decide (q = p) && (!km_E f q && decide (f (6 * q + 5) = ks_seal f q))) && (decide (f (6 * q) &&& 15 = f (6 * p) &&& 15) && decide (f (6 * p) >>> (4 &&& 31) < f (6 * q) >>> (4 &&& 31)))
def km_bad (f : Nat → Int32) (p : Nat) : Bool := !km_E f p && (!decide (f (6 * p + 5) = ks_seal f p) || ks_any (km_rival f p))
theorem km_c52 (k11 : Int32 → kt_S → Option kt_S) (τ : kt_S) (p : Nat) (hp : p < 7) (hE : km_E (τ 1) p = false) : ∀ n q, q < 7 → kp_M_comeUp_52 k11 (n + 1) (nI p) 0 (nI q) τ = if km_rival (τ 1) p q then kp_M_comeUp_52 k11 n (nI p) 1 (nI (q + 1)) τ else kp_M_comeUp_52 k11 n (nI p) 0 (nI (q + 1)) τ := by
  intro n q hq
  show kp_M_comeUp_52b k11 (kp_M_comeUp_52 k11 n) (nI p) 0 (nI q) τ = _
  unfold kp_M_comeUp_52b kp_M_comeUp_106 kp_M_comeUp_107 kp_M_comeUp_144 kp_M_comeUp_145
  rw [if_neg (ks_lt7 hq), if_pos rfl, km_erased p hp, kt_bs, hE, kn_succ]
  dsimp only
  rw [if_pos (show kb_i false = 0 from rfl)]
  unfold km_rival
  by_cases hqp : q = p
  · rw [if_pos (by rw [hqp]), if_pos rfl, decide_eq_true hqp]
    rfl
  · rw [if_neg (fun z => hqp ((kn_eq (by omega) (by omega)).mp z)), decide_eq_false hqp, km_erased q hq, kt_bs]
    dsimp only
    cases hEq : km_E (τ 1) q with
    | true => rfl
    | false =>
      rw [if_pos (show kb_i false = 0 from rfl), km_idx5, kn_cl (by omega), if_neg (fun z => by
        rcases z with z | z
        · exact kn_nn (by omega) z
        · omega), km_seal q hq, kt_bs]
      dsimp only
      by_cases h5 : τ 1 (6 * q + 5) = ks_seal (τ 1) q
      · rw [if_pos h5, if_neg ks_one, km_nameOf q hq, kt_bs]
        dsimp only
        rw [km_nameOf p hp, kt_bs, decide_eq_true h5]
        dsimp only
        by_cases hn : τ 1 (6 * q) &&& 15 = τ 1 (6 * p) &&& 15
        · rw [if_pos hn, km_serialOf q hq, kt_bs]
          dsimp only
          rw [km_serialOf p hp, kt_bs, decide_eq_true hn]
          dsimp only
          by_cases hs : τ 1 (6 * p) >>> (4 &&& 31) < τ 1 (6 * q) >>> (4 &&& 31)
          · rw [if_neg (fun z => km_le_lt.mp z hs), decide_eq_true hs]
            rfl
          · rw [if_pos (km_le_lt.mpr hs), decide_eq_false hs]
            rfl
        · rw [if_neg hn, decide_eq_false hn]
          rfl
      · rw [if_neg h5, if_pos rfl, decide_eq_false h5]
        rfl
theorem km_c52_one (k11 : Int32 → kt_S → Option kt_S) (τ : kt_S) (p q n : Nat) (hq : q ≤ 7) : kp_M_comeUp_52 k11 (n + 1) (nI p) 1 (nI q) τ = kp_M_comeUp_152 k11 (nI p) 1 τ := by
  show kp_M_comeUp_52b k11 (kp_M_comeUp_52 k11 n) (nI p) 1 (nI q) τ = _
  unfold kp_M_comeUp_52b
  by_cases h7 : q = 7
  · subst h7
    rw [if_pos (show (7 : Int32) ≤ nI 7 by decide)]
  · rw [if_neg (ks_lt7 (by omega)), if_neg ks_one]
theorem km_c52_all (k11 : Int32 → kt_S → Option kt_S) (τ : kt_S) (p : Nat) (hp : p < 7) (hE : km_E (τ 1) p = false) : kp_M_comeUp_52 k11 100 (nI p) 0 0 τ = kp_M_comeUp_152 k11 (nI p) (kb_i (ks_any (km_rival (τ 1) p))) τ := by
  have hs := km_c52 k11 τ p hp hE
  have h1 := km_c52_one k11 τ p
  have h7 : kp_M_comeUp_52 k11 93 (nI p) 0 (nI 7) τ = kp_M_comeUp_152 k11 (nI p) 0 τ := by
    show kp_M_comeUp_52b k11 (kp_M_comeUp_52 k11 92) (nI p) 0 (nI 7) τ = _
    unfold kp_M_comeUp_52b
    rw [if_pos (show (7 : Int32) ≤ nI 7 by decide)]
  show kp_M_comeUp_52 k11 100 (nI p) 0 (nI 0) τ = _
  rw [hs 99 0 (by omega), hs 98 1 (by omega), hs 97 2 (by omega), hs 96 3 (by omega), hs 95 4 (by omega), hs 94 5 (by omega), hs 93 6 (by omega), h7, h1 1 98 (by omega), h1 2 97 (by omega), h1 3 96 (by omega), h1 4 95 (by omega), h1 5 94 (by omega), h1 6 93 (by omega), h1 7 92 (by omega)]
  unfold ks_any
  cases km_rival (τ 1) p 0 with
  | true => rfl
  | false =>
    cases km_rival (τ 1) p 1 with
    | true => rfl
    | false =>
      cases km_rival (τ 1) p 2 with
      | true => rfl
      | false =>
        cases km_rival (τ 1) p 3 with
        | true => rfl
        | false =>
          cases km_rival (τ 1) p 4 with
          | true => rfl
          | false =>
            cases km_rival (τ 1) p 5 with
            | true => rfl
            | false => cases km_rival (τ 1) p 6 <;> rfl
def km_step (p : Nat) (X : (Nat → Int32) × Int32) : (Nat → Int32) × Int32 := if km_bad X.1 p then (ks_er p X.1, X.2 + 1) else X
theorem km_c11 (τ : kt_S) (n p : Nat) (hp : p < 7) (f : Nat → Int32) (m w : Int32) : kp_M_comeUp_11 (n + 1) (nI p) (km_set τ (f, m, w)) = kp_M_comeUp_11 n (nI (p + 1)) (km_set τ ((km_step p (f, w)).1, m, (km_step p (f, w)).2)) := by
  show kp_M_comeUp_11b (kp_M_comeUp_11 n) (nI p) (km_set τ (f, m, w)) = _
  have e1 : kp_M_comeUp_152 (kp_M_comeUp_11 n) (nI p) 1 (km_set τ (f, m, w)) = kp_M_comeUp_11 n (nI (p + 1)) (km_set τ (ks_er p f, m, w + 1)) := by
    unfold kp_M_comeUp_152 kp_M_comeUp_171
    rw [if_neg ks_one, km_erase' p hp, kt_bs, kn_succ]
    congr 1
    funext q
    by_cases h0 : q = 0
    · subst h0
      rw [kt_up_self, km_set02, km_set0, km_set0, upd_upd]
    · rw [kt_up_ne _ _ _ h0]
      by_cases h1 : q = 1
      · subst h1; rfl
      · rw [km_set_ne _ _ h0 h1, km_set_ne _ _ h0 h1]
  have e0 : kp_M_comeUp_152 (kp_M_comeUp_11 n) (nI p) 0 (km_set τ (f, m, w)) = kp_M_comeUp_11 n (nI (p + 1)) (km_set τ (f, m, w)) := by
    unfold kp_M_comeUp_152 kp_M_comeUp_171
    rw [if_pos rfl, kn_succ]
  unfold kp_M_comeUp_11b kp_M_comeUp_48 kp_M_comeUp_49
  rw [if_neg (ks_lt7 hp), km_erased p hp, kt_bs, km_set1]
  dsimp only
  unfold km_step km_bad
  dsimp only
  cases hE : km_E f p with
  | true =>
    rw [if_neg (show ¬ kb_i true = 0 by decide)]
    show kp_M_comeUp_52b (kp_M_comeUp_11 n) (kp_M_comeUp_52 (kp_M_comeUp_11 n) 99) (nI p) 0 (nI 0) (km_set τ (f, m, w)) = _
    unfold kp_M_comeUp_52b
    rw [if_neg (ks_lt7 (by omega)), if_pos rfl, km_erased p hp, kt_bs, km_set1]
    dsimp only
    rw [hE, if_neg (show ¬ kb_i true = 0 by decide), e0]
    rfl
  | false =>
    rw [if_pos (show kb_i false = 0 from rfl), km_idx5, kn_cl (by omega), if_neg (fun z => by
        rcases z with z | z
        · exact kn_nn (by omega) z
        · omega), km_seal p hp, kt_bs]
    dsimp only
    by_cases h5 : km_set τ (f, m, w) 1 (6 * p + 5) = ks_seal (km_set τ (f, m, w) 1) p
    · have h5' : f (6 * p + 5) = ks_seal f p := h5
      rw [if_pos h5, decide_eq_true h5', km_c52_all (kp_M_comeUp_11 n) (km_set τ (f, m, w)) p hp hE]
      rw [km_set1]
      dsimp only
      cases hA : ks_any (km_rival f p) with
      | true => exact e1
      | false => exact e0
    · have h5' : ¬ f (6 * p + 5) = ks_seal f p := h5
      rw [if_neg h5, decide_eq_false h5']
      refine Eq.trans (km_c52_one (kp_M_comeUp_11 n) (km_set τ (f, m, w)) p 0 99 (by omega)) ?_
      exact e1
def km_look : Nat → (Nat → Int32) × Int32 → (Nat → Int32) × Int32
  | 0, X => X
  | n + 1, X => km_step n (km_look n X)
theorem km_c11_all (τ : kt_S) (f : Nat → Int32) (m w : Int32) : kp_M_comeUp_11 100 0 (km_set τ (f, m, w)) = some (km_set τ ((km_look 7 (f, w)).1, m, (km_look 7 (f, w)).2)) := by
  have h : ∀ n p, p < 7 → kp_M_comeUp_11 (n + 1) (nI p) (km_set τ ((km_look p (f, w)).1, m, (km_look p (f, w)).2)) = kp_M_comeUp_11 n (nI (p + 1)) (km_set τ ((km_look (p + 1) (f, w)).1, m, (km_look (p + 1) (f, w)).2)) := by
    intro n p hp
    rw [km_c11 τ n p hp]
    rfl
  have h7 : ∀ n s, kp_M_comeUp_11 (n + 1) (nI 7) s = some s := fun n s => rfl
  show kp_M_comeUp_11 100 (nI 0) (km_set τ ((km_look 0 (f, w)).1, m, (km_look 0 (f, w)).2)) = _
  rw [h 99 0 (by omega), h 98 1 (by omega), h 97 2 (by omega), h 96 3 (by omega), h 95 4 (by omega), h 94 5 (by omega), h 93 6 (by omega), h7 92]
/-! both look through alike -/
theorem kv_lt_iff {a s b t : Nat} (h : a = b) : a + 16 * s < b + 16 * t ↔ s < t := by omega
theorem kv_bad_eq {f : Nat → Int32} {B p : Nat} (h : kv_ok f B) (hp : p < 7) : km_bad f p = kv_bad f p := by
  have hB := h.1
  unfold km_bad kv_bad
  rw [kv_E hB (h.2 p hp)]
  cases hE : ks_E f p with
  | true => rw [Bool.not_true, Bool.false_and, Bool.false_and]
  | false =>
    congr 2
    refine ks_any_congr (fun q hq => ?_)
    have hpr : ¬ f (6 * p) = -1 := of_decide_eq_false hE
    rcases h.2 p hp with h1 | ⟨n, s, h1, h2, h3, h4⟩
    · exact absurd (h1 0 (by omega)) hpr
    unfold km_rival ks_rival
    rw [kv_E hB (h.2 q hq)]
    rcases h.2 q hq with g1 | ⟨n', s', g1, g2, g3, g4⟩
    · have g0 : f (6 * q) = -1 := g1 0 (by omega)
      have g5 : ¬ f (6 * q + 5) = ks_seal f q := by rw [g1 5 (by omega)]; exact fun z => kv_seal_m1 f q z.symm
      have hEq : ks_E f q = true := decide_eq_true g0
      rw [hEq, decide_eq_false g5]
      simp
    · have hEq : ks_E f q = false := by unfold ks_E; rw [g4]; exact decide_eq_false (kv_m1 (by omega))
      rw [hEq, g4, h4, kv_nm g1 (by omega), kv_nm h1 (by omega), kv_and g1 (by omega), kv_and h1 (by omega), kv_shr g1 (by omega), kv_shr h1 (by omega)]
      by_cases hqp : q = p
      · subst hqp
        have : n' = n ∧ s' = s := by
          have := (kn_eq (by omega) (by omega)).mp (g4.symm.trans h4)
          omega
        obtain ⟨rfl, rfl⟩ := this
        have e : ¬ nI (n' + 16 * s') < nI (n' + 16 * s') := by rw [kn_lt (by omega) (by omega)]; omega
        simp [e]
      · by_cases hnn : n' = n
        · subst hnn
          have e : (nI (n' + 16 * s) < nI (n' + 16 * s')) ↔ (nI s < nI s') := by
            rw [kn_lt (by omega) (by omega), kn_lt (by omega) (by omega)]
            omega
          simp [hqp, e]
        · have e : ¬ nI n' = nI n := fun z => hnn ((kn_eq (by omega) (by omega)).mp z)
          simp [e]
theorem kv_step_ok {f : Nat → Int32} {B p : Nat} {w : Int32} (h : kv_ok f B) : kv_ok (kv_step p (f, w)).1 B := by
  unfold kv_step
  dsimp only
  split
  · exact kv_ok_er h
  · exact h
theorem kv_look_ok {f : Nat → Int32} {B : Nat} {w : Int32} (h : kv_ok f B) : ∀ n, kv_ok (kv_look n (f, w)).1 B := by
  intro n
  induction n with
  | zero => exact h
  | succ n ih => exact kv_step_ok (w := (kv_look n (f, w)).2) ih
theorem kv_look_eq {f : Nat → Int32} {B : Nat} {w : Int32} (h : kv_ok f B) : ∀ n, n ≤ 7 → km_look n (f, w) = kv_look n (f, w) := by
  intro n
  induction n with
  | zero => intro _; rfl
  | succ n ih =>
    intro hn
    show km_step n (km_look n (f, w)) = kv_step n (kv_look n (f, w))
    rw [ih (by omega)]
    unfold km_step kv_step
    rw [kv_bad_eq (kv_look_ok h n) (by omega)]
theorem kv_on_good {f : Nat → Int32} {B : Nat} (h : kv_on f B) : ∀ p, p < 7 → kv_bad f p = false := by
  intro p hp
  unfold kv_bad
  cases hE : ks_E f p with
  | true => rfl
  | false =>
    have hpr : ¬ f (6 * p) = -1 := of_decide_eq_false hE
    rw [decide_eq_true (h.2.1 p hp hpr)]
    show ks_any (ks_rival f (f (6 * p))) = false
    cases hA : ks_any (ks_rival f (f (6 * p))) with
    | false => rfl
    | true =>
      obtain ⟨q, hq, h1⟩ := ks_any_iff.mp hA
      unfold ks_rival at h1
      simp only [Bool.and_eq_true, decide_eq_true_eq] at h1
      obtain ⟨h1, h2, h3⟩ := h1
      by_cases hqp : q = p
      · subst hqp
        rw [Int32.lt_iff_toInt_lt] at h3
        omega
      · by_cases hqr : f (6 * q) = -1
        · rcases h.1.2 q hq with g | ⟨n', s', g1, g2, g3, g4⟩
          · rw [g 5 (by omega)] at h1
            exact absurd h1.symm (kv_seal_m1 f q)
          · rw [hqr] at g4
            exact absurd g4.symm (kv_m1 (by have := h.1.1; omega))
        · exact absurd h2 (h.2.2.1 q p hq hp hqp hqr hpr).1
theorem kv_look_good {f : Nat → Int32} {w : Int32} (h : ∀ p, p < 7 → kv_bad f p = false) : ∀ n, n ≤ 7 → kv_look n (f, w) = (f, w) := by
  intro n
  induction n with
  | zero => intro _; rfl
  | succ n ih =>
    intro hn
    show kv_step n (kv_look n (f, w)) = (f, w)
    rw [ih (by omega)]
    unfold kv_step
    rw [if_neg (by rw [h n (by omega)]; decide)]
theorem kv_look_one {f : Nat → Int32} {w : Int32} {t : Nat} (h1 : kv_bad f t = true) (h2 : ∀ p, p < 7 → ¬ p = t → kv_bad f p = false) (h3 : ∀ p, p < 7 → kv_bad (ks_er t f) p = false) : ∀ n, n ≤ 7 → kv_look n (f, w) = if t < n then (ks_er t f, w + 1) else (f, w) := by
  intro n
  induction n with
  | zero => intro _; rfl
  | succ n ih =>
    intro hn
    show kv_step n (kv_look n (f, w)) = _
    rw [ih (by omega)]
    by_cases htn : t < n
    · rw [if_pos htn, if_pos (by omega)]
      unfold kv_step
      rw [if_neg (by rw [h3 n (by omega)]; decide)]
    · rw [if_neg htn]
      by_cases he : t = n
      · subst he
        rw [if_pos (by omega)]
        unfold kv_step
        rw [if_pos h1]
      · rw [if_neg (by omega)]
        unfold kv_step
        rw [if_neg (by rw [h2 n (by omega) (fun z => he z.symm)]; decide)]
/-- behind it all is in order -/
theorem kv_look_on {f : Nat → Int32} {B : Nat} {w : Int32} (h : kv_off f B) : kv_on (kv_look 7 (f, w)).1 B := by
  rcases h with h | ⟨hok, t, ht, hon, hr, hc⟩
  · rw [kv_look_good (kv_on_good h) 7 (by omega)]
    exact h
  · have hEt : ks_E f t = false := decide_eq_false hr
    have hbad : kv_bad f t = true := by
      unfold kv_bad
      rw [hEt]
      rcases hc with hc | ⟨hc, u, hu, hut, hur, hun, hlt⟩
      · rw [decide_eq_false hc]; rfl
      · have hA : ks_any (ks_rival f (f (6 * t))) = true := by
          refine ks_any_iff.mpr ⟨u, hu, ?_⟩
          unfold ks_rival
          have hsu : f (6 * u + 5) = ks_seal f u := by
            have := hon.2.1 u hu (by rw [kv_er0, if_neg hut]; exact hur)
            rw [kv_er (by omega), if_neg hut] at this
            rw [this]
            exact kv_seal_congr (fun k hk => by rw [kv_er (by omega), if_neg hut])
          simp [hsu, hun, hlt]
        rw [hA]
        simp
    have hgood : ∀ p, p < 7 → ¬ p = t → kv_bad f p = false := by
      intro p hp hpt
      unfold kv_bad
      cases hE : ks_E f p with
      | true => rfl
      | false =>
        have hpr : ¬ f (6 * p) = -1 := of_decide_eq_false hE
        have hpr' : ¬ ks_er t f (6 * p) = -1 := by rw [kv_er0, if_neg hpt]; exact hpr
        have hsp : f (6 * p + 5) = ks_seal f p := by
          have := hon.2.1 p hp hpr'
          rw [kv_er (by omega), if_neg hpt] at this
          rw [this]
          exact kv_seal_congr (fun k hk => by rw [kv_er (by omega), if_neg hpt])
        rw [decide_eq_true hsp]
        show ks_any (ks_rival f (f (6 * p))) = false
        cases hA : ks_any (ks_rival f (f (6 * p))) with
        | false => rfl
        | true =>
          obtain ⟨q, hq, h1⟩ := ks_any_iff.mp hA
          unfold ks_rival at h1
          simp only [Bool.and_eq_true, decide_eq_true_eq] at h1
          obtain ⟨h1, h2, h3⟩ := h1
          have hqr : ¬ f (6 * q) = -1 := by
            intro hqr
            rcases hok.2 q hq with g | ⟨n', s', g1, g2, g3, g4⟩
            · rw [g 5 (by omega)] at h1
              exact absurd h1.symm (kv_seal_m1 f q)
            · rw [hqr] at g4
              exact absurd g4.symm (kv_m1 (by have := hok.1; omega))
          by_cases hqp : q = p
          · subst hqp
            rw [Int32.lt_iff_toInt_lt] at h3
            omega
          · by_cases hqt : q = t
            · subst hqt
              rcases hc with hc | ⟨hc, u, hu, hut, hur, hun, hlt⟩
              · exact absurd h1 hc
              · by_cases hup : u = p
                · subst hup
                  rw [Int32.lt_iff_toInt_lt] at h3 hlt
                  omega
                · have hur' : ¬ ks_er q f (6 * u) = -1 := by rw [kv_er0, if_neg hut]; exact hur
                  have := (hon.2.2.1 u p hu hp hup hur' hpr').1
                  rw [kv_er0, kv_er0, if_neg hut, if_neg hpt] at this
                  exact absurd (hun.trans h2) this
            · have hqr' : ¬ ks_er t f (6 * q) = -1 := by rw [kv_er0, if_neg hqt]; exact hqr
              have := (hon.2.2.1 q p hq hp hqp hqr' hpr').1
              rw [kv_er0, kv_er0, if_neg hqt, if_neg hpt] at this
              exact absurd h2 this
    rw [kv_look_one hbad hgood (kv_on_good hon) 7 (by omega), if_pos ht]
    exact hon
