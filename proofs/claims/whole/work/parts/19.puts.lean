/-! Puts of class and reference side by side; what they keep. -/
theorem kv_upd {f : Nat → Int32} {t k p j : Nat} {v : Int32} (hk : k < 6) (hj : j < 6) : upd f (6 * t + k) v (6 * p + j) = if p = t ∧ j = k then v else f (6 * p + j) := by
  unfold upd
  by_cases h : p = t ∧ j = k
  · rw [if_pos h, if_pos (by omega)]
  · rw [if_neg h, if_neg (by omega)]
theorem kv_er {f : Nat → Int32} {q p j : Nat} (hj : j < 6) : ks_er q f (6 * p + j) = if p = q then -1 else f (6 * p + j) := by
  unfold ks_er
  rw [kv_upd (by omega) hj, kv_upd (by omega) hj, kv_upd (by omega) hj, kv_upd (by omega) hj, kv_upd (by omega) hj, kv_upd (by omega) hj]
  by_cases h : p = q
  · have : j = 0 ∨ j = 1 ∨ j = 2 ∨ j = 3 ∨ j = 4 ∨ j = 5 := by omega
    rcases this with rfl | rfl | rfl | rfl | rfl | rfl <;> simp [h]
  · simp [h]
theorem kv_er0 {f : Nat → Int32} {q p : Nat} : ks_er q f (6 * p) = if p = q then -1 else f (6 * p) := kv_er (j := 0) (by omega)
theorem kv_seal_congr {f g : Nat → Int32} {p : Nat} (h : ∀ k, k < 5 → f (6 * p + k) = g (6 * p + k)) : ks_seal f p = ks_seal g p := by
  unfold ks_seal
  rw [h 0 (by omega), h 1 (by omega), h 2 (by omega), h 3 (by omega), h 4 (by omega)]
/-- a seal is never negative -/
theorem kv_mask (x : Int32) : ¬ x &&& 2147483647 = -1 := by
  intro h
  have h1 := congrArg (fun y : Int32 => y.toBitVec.getLsbD 31) h
  have e1 : (x &&& 2147483647).toBitVec.getLsbD 31 = (x.toBitVec.getLsbD 31 && (2147483647 : Int32).toBitVec.getLsbD 31) := by
    rw [Int32.toBitVec_and, BitVec.getLsbD_and]
  have e2 : (2147483647 : Int32).toBitVec.getLsbD 31 = false := by decide
  have e3 : (-1 : Int32).toBitVec.getLsbD 31 = true := by decide
  have h1 : (x &&& 2147483647).toBitVec.getLsbD 31 = (-1 : Int32).toBitVec.getLsbD 31 := h1
  rw [e1, e2, e3, Bool.and_false] at h1
  cases h1
theorem kv_seal_m1 (f : Nat → Int32) (p : Nat) : ¬ ks_seal f p = -1 := kv_mask _
/-- the number of writes until the cut, and the number made with the cut's number -/
def kv_cut (C m c : Int32) : Prop := ∃ i : Nat, i < 1000 ∧ m = nI i ∧ ((C = -1 ∧ c = -1) ∨ ∃ j : Nat, i + j < 2147483648 ∧ C = nI (i + j) ∧ c = nI j)
theorem kv_cut_zero {C m c : Int32} (h : kv_cut C m c) : m = C ↔ c = 0 := by
  obtain ⟨i, hi, rfl, h⟩ := h
  rcases h with ⟨rfl, rfl⟩ | ⟨j, hj, rfl, rfl⟩
  · constructor
    · intro z; exact absurd z (kv_m1 (by omega))
    · intro z; exact absurd z (by decide)
  · rw [kn_eq (by omega) (by omega), show (0 : Int32) = nI 0 from rfl, kn_eq (by omega) (by omega)]
    omega
theorem kv_cut_step {C m c : Int32} {i : Nat} (hi : i < 999) (hm : m = nI i) (h : kv_cut C m c) (hc : ¬ c = 0) : kv_cut C (m + 1) (ka_dec c) := by
  obtain ⟨i', hi', hm', h⟩ := h
  have : i' = i := (kn_eq (by omega) (by omega)).mp (hm'.symm.trans hm)
  subst this
  refine ⟨i' + 1, by omega, by rw [hm, kn_succ], ?_⟩
  rcases h with ⟨rfl, rfl⟩ | ⟨j, hj, rfl, rfl⟩
  · exact Or.inl ⟨rfl, by decide⟩
  · right
    have hj0 : 0 < j := by
      rcases Nat.eq_zero_or_pos j with h | h
      · subst h; exact absurd rfl hc
      · exact h
    refine ⟨j - 1, by omega, by congr 1; omega, ?_⟩
    unfold ka_dec
    rw [if_neg (kv_m1 (by omega))]
    have : j = (j - 1) + 1 := by omega
    rw [this, nI_pred]
    congr 1
/-- both machines write alike -/
theorem kv_seq (C : Int32) : ∀ (gs : List ((Nat → Int32) → (Nat → Int32))) (f : Nat → Int32) (m c w : Int32) (i : Nat), m = nI i → i + gs.length < 999 → kv_cut C m c →
    (ka_seq gs (f, c, w)).1 = (km_seq C gs (f, m, w)).1 ∧ (ka_seq gs (f, c, w)).2.1 = (km_seq C gs (f, m, w)).2.1 ∧ (ka_seq gs (f, c, w)).2.2.2 = (km_seq C gs (f, m, w)).2.2.2 ∧ kv_cut C (km_seq C gs (f, m, w)).2.2.1 (ka_seq gs (f, c, w)).2.2.1 := by
  intro gs
  induction gs with
  | nil => intro f m c w i hm hi h; exact ⟨rfl, rfl, rfl, h⟩
  | cons g gs ih =>
    intro f m c w i hm hi h
    rw [List.length_cons] at hi
    by_cases h0 : c = 0
    · have h1 := (kv_cut_zero h).mpr h0
      rw [ka_stop h0, km_stop h1]
      exact ⟨rfl, rfl, rfl, h⟩
    · have h1 : ¬ m = C := fun z => h0 ((kv_cut_zero h).mp z)
      rw [ka_go h0, km_go h1]
      exact ih (g f) (m + 1) (ka_dec c) (w + 1) (i + 1) (by rw [hm, kn_succ]) (by omega) (kv_cut_step (by omega) hm h h0)
/-- the first writes of a list -/
def ka_take : Nat → List ((Nat → Int32) → (Nat → Int32)) → (Nat → Int32) → (Nat → Int32)
  | 0, _, f => f
  | _, [], f => f
  | n + 1, g :: gs, f => ka_take n gs (g f)
/-- a list of writes is done whole, or up to some place -/
theorem ka_seq_take : ∀ (gs : List ((Nat → Int32) → (Nat → Int32))) (f : Nat → Int32) (c w : Int32), ∃ n, n ≤ gs.length ∧ (ka_seq gs (f, c, w)).2.1 = ka_take n gs f ∧ ((ka_seq gs (f, c, w)).1 = true → n = gs.length) ∧ ((ka_seq gs (f, c, w)).1 = false → n < gs.length) := by
  intro gs
  induction gs with
  | nil => intro f c w; exact ⟨0, Nat.le_refl _, rfl, (fun _ => rfl), (fun h => by cases h)⟩
  | cons g gs ih =>
    intro f c w
    by_cases h0 : c = 0
    · rw [ka_stop h0]
      exact ⟨0, Nat.zero_le _, rfl, (fun h => by cases h), (fun _ => Nat.succ_pos _)⟩
    · rw [ka_go h0]
      obtain ⟨n, h1, h2, h3, h4⟩ := ih (g f) (ka_dec c) (w + 1)
      exact ⟨n + 1, Nat.succ_le_succ h1, h2, (fun h => congrArg Nat.succ (h3 h)), (fun h => Nat.succ_lt_succ (h4 h))⟩
/-- with the power on: every page is erased or a whole record, names and serials are apart, a page is erased -/
def kv_on (f : Nat → Int32) (B : Nat) : Prop := kv_ok f B ∧ (∀ p, p < 7 → ¬ f (6 * p) = -1 → f (6 * p + 5) = ks_seal f p) ∧ (∀ p q, p < 7 → q < 7 → ¬ p = q → ¬ f (6 * p) = -1 → ¬ f (6 * q) = -1 → ¬ ks_nm (f (6 * p)) = ks_nm (f (6 * q)) ∧ ¬ f (6 * p) / 16 = f (6 * q) / 16) ∧ ∃ p, p < 7 ∧ f (6 * p) = -1
/-- with the power off: the same; or behind a page that is torn; or behind an older record of a new one's name -/
def kv_off (f : Nat → Int32) (B : Nat) : Prop := kv_on f B ∨ (kv_ok f B ∧ ∃ t, t < 7 ∧ kv_on (ks_er t f) B ∧ ¬ f (6 * t) = -1 ∧ ((¬ f (6 * t + 5) = ks_seal f t) ∨ (f (6 * t + 5) = ks_seal f t ∧ ∃ u, u < 7 ∧ ¬ u = t ∧ ¬ f (6 * u) = -1 ∧ ks_nm (f (6 * u)) = ks_nm (f (6 * t)) ∧ f (6 * t) < f (6 * u))))
theorem kv_pg_er {f : Nat → Int32} {B p q : Nat} (h : kv_pg f B p) : kv_pg (ks_er q f) B p := by
  by_cases hpq : p = q
  · left
    intro k hk
    rw [kv_er hk, if_pos hpq]
  · rcases h with h | ⟨n, s, h1, h2, h3, h4⟩
    · left
      intro k hk
      rw [kv_er hk, if_neg hpq]
      exact h k hk
    · right
      refine ⟨n, s, h1, h2, h3, ?_⟩
      rw [kv_er0, if_neg hpq]
      exact h4
theorem kv_ok_er {f : Nat → Int32} {B q : Nat} (h : kv_ok f B) : kv_ok (ks_er q f) B := ⟨h.1, fun p hp => kv_pg_er (h.2 p hp)⟩
theorem kv_on_er {f : Nat → Int32} {B q : Nat} (hq : q < 7) (h : kv_on f B) : kv_on (ks_er q f) B := by
  obtain ⟨h1, h2, h3, h4⟩ := h
  refine ⟨kv_ok_er h1, fun p hp hr => ?_, fun p p' hp hp' hne hr hr' => ?_, q, hq, by rw [kv_er0, if_pos rfl]⟩
  · rw [kv_er0] at hr
    by_cases hpq : p = q
    · rw [if_pos hpq] at hr; exact absurd rfl hr
    · rw [if_neg hpq] at hr
      rw [kv_er (by omega), if_neg hpq, h2 p hp hr]
      exact kv_seal_congr (fun k hk => by rw [kv_er (by omega), if_neg hpq])
  · rw [kv_er0] at hr hr'
    by_cases hpq : p = q
    · rw [if_pos hpq] at hr; exact absurd rfl hr
    · by_cases hpq' : p' = q
      · rw [if_pos hpq'] at hr'; exact absurd rfl hr'
      · rw [if_neg hpq] at hr
        rw [if_neg hpq'] at hr'
        rw [kv_er0, kv_er0, if_neg hpq, if_neg hpq']
        exact h3 p p' hp hp' hne hr hr'
theorem kv_on_congr {f g : Nat → Int32} {B : Nat} (he : ∀ p j, p < 7 → j < 6 → g (6 * p + j) = f (6 * p + j)) (h : kv_on f B) : kv_on g B := by
  have h0 : ∀ p, p < 7 → g (6 * p) = f (6 * p) := fun p hp => he p 0 hp (by omega)
  obtain ⟨⟨h1, h1'⟩, h2, h3, p, hp, h4⟩ := h
  refine ⟨⟨h1, fun p hp => ?_⟩, fun p hp hr => ?_, fun p q hp hq hne hr hr' => ?_, p, hp, by rw [h0 p hp]; exact h4⟩
  · rcases h1' p hp with h | ⟨n, s, a, b, c, d⟩
    · exact Or.inl (fun k hk => by rw [he p k hp hk]; exact h k hk)
    · exact Or.inr ⟨n, s, a, b, c, by rw [h0 p hp]; exact d⟩
  · rw [h0 p hp] at hr
    rw [he p 5 hp (by omega), h2 p hp hr]
    exact kv_seal_congr (fun k hk => (he p k hp (by omega)).symm)
  · rw [h0 p hp] at hr ⊢
    rw [h0 q hq] at hr' ⊢
    exact h3 p q hp hq hne hr hr'
theorem kv_pg_mono {f : Nat → Int32} {B B' p : Nat} (hB : B ≤ B') (h : kv_pg f B p) : kv_pg f B' p := by
  rcases h with h | ⟨n, s, h1, h2, h3, h4⟩
  · exact Or.inl h
  · exact Or.inr ⟨n, s, h1, h2, by omega, h4⟩
theorem kv_ok_mono {f : Nat → Int32} {B B' : Nat} (hB : B ≤ B') (hB' : B' < 1000000) (h : kv_ok f B) : kv_ok f B' := ⟨hB', fun p hp => kv_pg_mono hB (h.2 p hp)⟩
theorem kv_on_mono {f : Nat → Int32} {B B' : Nat} (hB : B ≤ B') (hB' : B' < 1000000) (h : kv_on f B) : kv_on f B' := ⟨kv_ok_mono hB hB' h.1, h.2⟩
theorem kv_off_mono {f : Nat → Int32} {B B' : Nat} (hB : B ≤ B') (hB' : B' < 1000000) (h : kv_off f B) : kv_off f B' := by
  rcases h with h | ⟨h1, t, h2, h3, h4⟩
  · exact Or.inl (kv_on_mono hB hB' h)
  · exact Or.inr ⟨kv_ok_mono hB hB' h1, t, h2, kv_on_mono hB hB' h3, h4⟩
theorem kv_off_ok {f : Nat → Int32} {B : Nat} (h : kv_off f B) : kv_ok f B := by
  rcases h with h | h
  · exact h.1
  · exact h.1
/-- no record has a greater serial -/
theorem kv_ser_max {f : Nat → Int32} {B : Nat} (h : kv_ok f B) : ∀ n, n ≤ 7 → ∃ s : Nat, s ≤ B ∧ km_ser f n = nI s ∧ ∀ p, p < n → ∀ a s' : Nat, a < 7 → 1 ≤ s' → s' ≤ B → f (6 * p) = nI (a + 16 * s') → s' ≤ s := by
  have hB := h.1
  intro n
  induction n with
  | zero => intro _; exact ⟨0, by omega, rfl, fun p hp => by omega⟩
  | succ n ih =>
    intro hn
    obtain ⟨s, hs, e, hm⟩ := ih (by omega)
    have e2 : km_ser f (n + 1) = if km_E f n = false ∧ km_ser f n < f (6 * n) >>> (4 &&& 31) then f (6 * n) >>> (4 &&& 31) else km_ser f n := rfl
    rw [e2, e, kv_E hB (h.2 n (by omega))]
    rcases h.2 n (by omega) with h1 | ⟨a, t, ha, h1, ht, h2⟩
    · have h0 := h1 0 (by omega)
      rw [Nat.add_zero] at h0
      have hE : ¬ ks_E f n = false := by unfold ks_E; rw [h0]; decide
      refine ⟨s, hs, if_neg (fun z => hE z.1), fun p hp a' s' q1 q2 q3 q4 => ?_⟩
      by_cases hpn : p = n
      · subst hpn
        rw [h0] at q4
        exact absurd q4.symm (kv_m1 (by omega))
      · exact hm p (by omega) a' s' q1 q2 q3 q4
    · have hE : ks_E f n = false := by unfold ks_E; rw [h2]; exact decide_eq_false (kv_m1 (by omega))
      rw [h2, hE, kv_shr ha (by omega)]
      by_cases hlt : s < t
      · refine ⟨t, ht, if_pos ⟨rfl, (kn_lt (by omega) (by omega)).mpr hlt⟩, fun p hp a' s' q1 q2 q3 q4 => ?_⟩
        by_cases hpn : p = n
        · subst hpn
          have := (kn_eq (by omega) (by omega)).mp (h2.symm.trans q4)
          omega
        · have := hm p (by omega) a' s' q1 q2 q3 q4
          omega
      · refine ⟨s, hs, if_neg (fun z => hlt ((kn_lt (by omega) (by omega)).mp z.2)), fun p hp a' s' q1 q2 q3 q4 => ?_⟩
        by_cases hpn : p = n
        · subst hpn
          have := (kn_eq (by omega) (by omega)).mp (h2.symm.trans q4)
          omega
        · exact hm p (by omega) a' s' q1 q2 q3 q4
/-- a page as it stands with a new record, without the seal -/
def kv_five (f : Nat → Int32) (t : Nat) (l a b c d : Int32) : Nat → Int32 := upd (upd (upd (upd (upd f (6 * t + 0) l) (6 * t + 1) a) (6 * t + 2) b) (6 * t + 3) c) (6 * t + 4) d
def kv_six (f : Nat → Int32) (t : Nat) (l a b c d : Int32) : Nat → Int32 := upd (kv_five f t l a b c d) (6 * t + 5) (ks_seal (kv_five f t l a b c d) t)
theorem kv_six_ne {f : Nat → Int32} {t p j : Nat} {l a b c d : Int32} (hj : j < 6) (hp : ¬ p = t) : kv_six f t l a b c d (6 * p + j) = f (6 * p + j) := by
  unfold kv_six
  rw [kv_upd (by omega) hj, if_neg (fun z => hp z.1)]
  unfold kv_five
  rw [kv_upd (by omega) hj, kv_upd (by omega) hj, kv_upd (by omega) hj, kv_upd (by omega) hj, kv_upd (by omega) hj]
  simp [hp]
theorem kv_six_0 {f : Nat → Int32} {t : Nat} {l a b c d : Int32} : kv_six f t l a b c d (6 * t) = l := by
  show kv_six f t l a b c d (6 * t + 0) = l
  unfold kv_six kv_five
  rw [kv_upd (by omega) (by omega), kv_upd (by omega) (by omega), kv_upd (by omega) (by omega), kv_upd (by omega) (by omega), kv_upd (by omega) (by omega), kv_upd (by omega) (by omega)]
  simp
theorem kv_six_5 {f : Nat → Int32} {t : Nat} {l a b c d : Int32} : kv_six f t l a b c d (6 * t + 5) = ks_seal (kv_six f t l a b c d) t := by
  have h : ks_seal (kv_six f t l a b c d) t = ks_seal (kv_five f t l a b c d) t := by
    refine kv_seal_congr (fun k hk => ?_)
    unfold kv_six
    rw [kv_upd (by omega) (by omega), if_neg (by omega)]
  rw [h]
  unfold kv_six
  rw [kv_upd (by omega) (by omega), if_pos ⟨rfl, rfl⟩]
theorem kv_six_ne0 {f : Nat → Int32} {t p : Nat} {l a b c d : Int32} (hp : ¬ p = t) : kv_six f t l a b c d (6 * p) = f (6 * p) := kv_six_ne (j := 0) (by omega) hp
theorem kv_div {n s : Nat} (hn : n < 7) (hs : s < 1000000) : nI (n + 16 * s) / 16 = nI s := by
  have h := pk_div (a := n + 16 * s) (d := 16) (by omega) (by omega) (by omega)
  have e : (n + 16 * s) / 16 = s := by omega
  rw [e] at h
  exact h
