/-! The reference's writes. -/
def km_set (τ : kt_S) (X : ka_X) : kt_S := fun q => if q = 1 then X.1 else if q = 0 then upd (upd (τ 0) 3 X.2.1) 2 X.2.2 else τ q
theorem km_set1 (τ : kt_S) (X : ka_X) : km_set τ X 1 = X.1 := rfl
theorem km_set0 (τ : kt_S) (X : ka_X) : km_set τ X 0 = upd (upd (τ 0) 3 X.2.1) 2 X.2.2 := rfl
theorem km_set03 (τ : kt_S) (X : ka_X) : km_set τ X 0 3 = X.2.1 := rfl
theorem km_set02 (τ : kt_S) (X : ka_X) : km_set τ X 0 2 = X.2.2 := rfl
theorem km_set04 (τ : kt_S) (X : ka_X) : km_set τ X 0 4 = τ 0 4 := rfl
theorem km_set_ne (τ : kt_S) (X : ka_X) {q : Nat} (h0 : ¬ q = 0) (h1 : ¬ q = 1) : km_set τ X q = τ q := by
  unfold km_set
  rw [if_neg h1, if_neg h0]
theorem km_set_T (τ : kt_S) : km_set τ (τ 1, τ 0 3, τ 0 2) = τ := by
  funext q
  unfold km_set
  split
  · next h => rw [h]
  · split
    · next h => rw [h, upd_same (f := τ 0) (k := 3) rfl, upd_same rfl]
    · rfl
def km_off (τ : kt_S) : kt_S := kt_up (kt_up (kt_up (kt_up (kt_up (kt_up (kt_up (kt_up τ 0 5 0) 0 6 0) 0 7 0) 0 8 0) 0 10 0) 0 12 0) 0 13 0) 0 4 (-1)
theorem km_off_eq (τ : kt_S) : kp_M_off τ = some (km_off τ) := rfl
theorem km_mayWrite (τ : kt_S) (f : Nat → Int32) (m w : Int32) : kp_M_mayWrite (km_set τ (f, m, w)) = if m = τ 0 4 then some (0, km_off (km_set τ (f, m, w))) else some (1, km_set τ (f, m + 1, w + 1)) := by
  unfold kp_M_mayWrite kp_M_mayWrite_0
  rw [km_set03, km_set04, km_set02]
  dsimp only
  by_cases h : m = τ 0 4
  · rw [if_pos h, if_pos h, km_off_eq, kt_bs]
  · rw [if_neg h, if_neg h]
    congr 2
    funext q
    by_cases h0 : q = 0
    · subst h0
      rw [kt_up_self, kt_up_self, km_set0, km_set0, upd_comm (f := upd (τ 0) 3 m) (k := 2) (l := 3) (by decide), upd_upd, upd_upd]
    · rw [kt_up_ne _ _ _ h0, kt_up_ne _ _ _ h0]
      by_cases h1 : q = 1
      · subst h1; rfl
      · rw [km_set_ne _ _ h0 h1, km_set_ne _ _ h0 h1]
theorem km_up1 (τ : kt_S) (f : Nat → Int32) (m w : Int32) (i : Nat) (v : Int32) : kt_up (km_set τ (f, m, w)) 1 i v = km_set τ (upd f i v, m, w) := by
  funext q
  by_cases h1 : q = 1
  · subst h1; rw [kt_up_self]; rfl
  · rw [kt_up_ne _ _ _ h1]
    by_cases h0 : q = 0
    · subst h0; rfl
    · rw [km_set_ne _ _ h0 h1, km_set_ne _ _ h0 h1]
theorem km_erase' (p : Nat) (hp : p < 7) (τ : kt_S) (f : Nat → Int32) (m w : Int32) : kp_M_erase (nI p) (km_set τ (f, m, w)) = some (km_set τ (ks_er p f, m, w)) := by
  rw [km_erase p hp]
  congr 1
  funext q
  by_cases h1 : q = 1
  · subst h1; rfl
  · rw [if_neg h1]
    by_cases h0 : q = 0
    · subst h0; rfl
    · rw [km_set_ne _ _ h0 h1, km_set_ne _ _ h0 h1]
/-- writes one after the other, up to the cut C, by the number of those made -/
def km_seq (C : Int32) : List ((Nat → Int32) → (Nat → Int32)) → ka_X → Bool × ka_X
  | [], X => (true, X)
  | g :: gs, X => if X.2.1 = C then (false, X) else km_seq C gs (g X.1, X.2.1 + 1, X.2.2 + 1)
theorem km_go {C : Int32} {g : (Nat → Int32) → (Nat → Int32)} {gs : List ((Nat → Int32) → (Nat → Int32))} {f : Nat → Int32} {c w : Int32} (h : ¬ c = C) : km_seq C (g :: gs) (f, c, w) = km_seq C gs (g f, c + 1, w + 1) := if_neg h
theorem km_stop {C : Int32} {g : (Nat → Int32) → (Nat → Int32)} {gs : List ((Nat → Int32) → (Nat → Int32))} {f : Nat → Int32} {c w : Int32} (h : c = C) : km_seq C (g :: gs) (f, c, w) = (false, (f, c, w)) := if_pos h
theorem km_nil {C : Int32} {X : ka_X} : km_seq C [] X = (true, X) := rfl
def km_out (τ : kt_S) (r : Bool × ka_X) : Option (Int32 × kt_S) := if r.1 then some (1, km_set τ r.2) else some (0, km_off (km_set τ r.2))
theorem km_outF (τ : kt_S) (X : ka_X) : km_out τ (false, X) = some (0, km_off (km_set τ X)) := rfl
theorem km_outT (τ : kt_S) (X : ka_X) : km_out τ (true, X) = some (1, km_set τ X) := rfl
/-- the greatest serial, over pages 0 to n - 1 -/
def km_ser (f : Nat → Int32) : Nat → Int32
  | 0 => 0
  | n + 1 => if km_E f n = false ∧ km_ser f n < f (6 * n) >>> (4 &&& 31) then f (6 * n) >>> (4 &&& 31) else km_ser f n
theorem km_le_lt {a b : Int32} : a ≤ b ↔ ¬ b < a := by rw [Int32.le_iff_toInt_le, Int32.lt_iff_toInt_lt]; omega
set_option maxHeartbeats 4000000 in
theorem km_put80 (l1 l2 l3 l4 l5 l6 l8 : Int32) (τ : kt_S) (to : Nat) (hto : to < 7) (f : Nat → Int32) (m w : Int32) (n : Nat) (old : Option Nat) (hold : (l6 < 0 ∧ old = none) ∨ ∃ q, q < 7 ∧ l6 = nI q ∧ old = some q) :
    kp_M_put_80 (n + 7) l1 l2 l3 l4 l5 l6 (nI to) l8 0 (km_set τ (f, m, w)) = km_out τ (km_seq (τ 0 4) (ks_ops (l1 + 16 * (l8 + 1)) l2 l3 l4 l5 to old) (f, m, w)) := by
  have hin : ∀ k, k < 6 → ¬ (nI (6 * to + k) < 0 ∨ 42 ≤ 6 * to + k) := by
    intro k hk z
    rcases z with z | z
    · exact kn_nn (by omega) z
    · omega
  have s0 : ∀ n f m w, kp_M_put_80 (n + 1) l1 l2 l3 l4 l5 l6 (nI to) l8 0 (km_set τ (f, m, w)) = if m = τ 0 4 then some (0, km_off (km_set τ (f, m, w))) else kp_M_put_80 n l1 l2 l3 l4 l5 l6 (nI to) l8 1 (km_set τ (upd f (6 * to + 0) (l1 + 16 * (l8 + 1)), m + 1, w + 1)) := by
    intro n f m w
    show kp_M_put_80b (kp_M_put_80 n) l1 l2 l3 l4 l5 l6 (nI to) l8 (nI 0) (km_set τ (f, m, w)) = _
    unfold kp_M_put_80b kp_M_put_173
    rw [if_neg (ks_lt6 (by omega)), km_mayWrite]
    by_cases h : m = τ 0 4
    · rw [if_pos h, if_pos h, kt_bs, if_pos rfl]
    · rw [if_neg h, if_neg h, kt_bs, if_neg ks_one, if_pos (show nI 0 = 0 from rfl), kn_succ, km_idx, kn_cl (by omega), if_neg (hin 0 (by omega)), km_up1]
      rfl
  have s1 : ∀ n f m w, kp_M_put_80 (n + 1) l1 l2 l3 l4 l5 l6 (nI to) l8 1 (km_set τ (f, m, w)) = if m = τ 0 4 then some (0, km_off (km_set τ (f, m, w))) else kp_M_put_80 n l1 l2 l3 l4 l5 l6 (nI to) l8 2 (km_set τ (upd f (6 * to + 1) l2, m + 1, w + 1)) := by
    intro n f m w
    show kp_M_put_80b (kp_M_put_80 n) l1 l2 l3 l4 l5 l6 (nI to) l8 (nI 1) (km_set τ (f, m, w)) = _
    unfold kp_M_put_80b kp_M_put_173
    rw [if_neg (ks_lt6 (by omega)), km_mayWrite]
    by_cases h : m = τ 0 4
    · rw [if_pos h, if_pos h, kt_bs, if_pos rfl]
    · rw [if_neg h, if_neg h, kt_bs, if_neg ks_one, if_neg (show ¬ nI 1 = 0 by decide), if_pos (show nI 1 = 1 from rfl), kn_succ, km_idx, kn_cl (by omega), if_neg (hin 1 (by omega)), km_up1]
      rfl
  have s2 : ∀ n f m w, kp_M_put_80 (n + 1) l1 l2 l3 l4 l5 l6 (nI to) l8 2 (km_set τ (f, m, w)) = if m = τ 0 4 then some (0, km_off (km_set τ (f, m, w))) else kp_M_put_80 n l1 l2 l3 l4 l5 l6 (nI to) l8 3 (km_set τ (upd f (6 * to + 2) l3, m + 1, w + 1)) := by
    intro n f m w
    show kp_M_put_80b (kp_M_put_80 n) l1 l2 l3 l4 l5 l6 (nI to) l8 (nI 2) (km_set τ (f, m, w)) = _
    unfold kp_M_put_80b kp_M_put_173
    rw [if_neg (ks_lt6 (by omega)), km_mayWrite]
    by_cases h : m = τ 0 4
    · rw [if_pos h, if_pos h, kt_bs, if_pos rfl]
    · rw [if_neg h, if_neg h, kt_bs, if_neg ks_one, if_neg (show ¬ nI 2 = 0 by decide), if_neg (show ¬ nI 2 = 1 by decide), if_pos (show nI 2 = 2 from rfl), kn_succ, km_idx, kn_cl (by omega), if_neg (hin 2 (by omega)), km_up1]
      rfl
  have s3 : ∀ n f m w, kp_M_put_80 (n + 1) l1 l2 l3 l4 l5 l6 (nI to) l8 3 (km_set τ (f, m, w)) = if m = τ 0 4 then some (0, km_off (km_set τ (f, m, w))) else kp_M_put_80 n l1 l2 l3 l4 l5 l6 (nI to) l8 4 (km_set τ (upd f (6 * to + 3) l4, m + 1, w + 1)) := by
    intro n f m w
    show kp_M_put_80b (kp_M_put_80 n) l1 l2 l3 l4 l5 l6 (nI to) l8 (nI 3) (km_set τ (f, m, w)) = _
    unfold kp_M_put_80b kp_M_put_173
    rw [if_neg (ks_lt6 (by omega)), km_mayWrite]
    by_cases h : m = τ 0 4
    · rw [if_pos h, if_pos h, kt_bs, if_pos rfl]
    · rw [if_neg h, if_neg h, kt_bs, if_neg ks_one, if_neg (show ¬ nI 3 = 0 by decide), if_neg (show ¬ nI 3 = 1 by decide), if_neg (show ¬ nI 3 = 2 by decide), if_pos (show nI 3 = 3 from rfl), kn_succ, km_idx, kn_cl (by omega), if_neg (hin 3 (by omega)), km_up1]
      rfl
  have s4 : ∀ n f m w, kp_M_put_80 (n + 1) l1 l2 l3 l4 l5 l6 (nI to) l8 4 (km_set τ (f, m, w)) = if m = τ 0 4 then some (0, km_off (km_set τ (f, m, w))) else kp_M_put_80 n l1 l2 l3 l4 l5 l6 (nI to) l8 5 (km_set τ (upd f (6 * to + 4) l5, m + 1, w + 1)) := by
    intro n f m w
    show kp_M_put_80b (kp_M_put_80 n) l1 l2 l3 l4 l5 l6 (nI to) l8 (nI 4) (km_set τ (f, m, w)) = _
    unfold kp_M_put_80b kp_M_put_173
    rw [if_neg (ks_lt6 (by omega)), km_mayWrite]
    by_cases h : m = τ 0 4
    · rw [if_pos h, if_pos h, kt_bs, if_pos rfl]
    · rw [if_neg h, if_neg h, kt_bs, if_neg ks_one, if_neg (show ¬ nI 4 = 0 by decide), if_neg (show ¬ nI 4 = 1 by decide), if_neg (show ¬ nI 4 = 2 by decide), if_neg (show ¬ nI 4 = 3 by decide), if_pos (show nI 4 = 4 from rfl), kn_succ, km_idx, kn_cl (by omega), if_neg (hin 4 (by omega)), km_up1]
      rfl
  have s5 : ∀ n f m w, kp_M_put_80 (n + 1) l1 l2 l3 l4 l5 l6 (nI to) l8 5 (km_set τ (f, m, w)) = if m = τ 0 4 then some (0, km_off (km_set τ (f, m, w))) else kp_M_put_80 n l1 l2 l3 l4 l5 l6 (nI to) l8 6 (km_set τ (upd f (6 * to + 5) (ks_seal f to), m + 1, w + 1)) := by
    intro n f m w
    show kp_M_put_80b (kp_M_put_80 n) l1 l2 l3 l4 l5 l6 (nI to) l8 (nI 5) (km_set τ (f, m, w)) = _
    unfold kp_M_put_80b kp_M_put_173
    rw [if_neg (ks_lt6 (by omega)), km_mayWrite]
    by_cases h : m = τ 0 4
    · rw [if_pos h, if_pos h, kt_bs, if_pos rfl]
    · rw [if_neg h, if_neg h, kt_bs, if_neg ks_one, if_neg (show ¬ nI 5 = 0 by decide), if_neg (show ¬ nI 5 = 1 by decide), if_neg (show ¬ nI 5 = 2 by decide), if_neg (show ¬ nI 5 = 3 by decide), if_neg (show ¬ nI 5 = 4 by decide), km_seal to hto, kt_bs]
      dsimp only
      rw [km_idx, kn_cl (by omega), if_neg (hin 5 (by omega)), km_set1, km_up1, kn_succ]
      rfl
  have s6 : ∀ n f m w, kp_M_put_80 (n + 1) l1 l2 l3 l4 l5 l6 (nI to) l8 6 (km_set τ (f, m, w)) = km_out τ (km_seq (τ 0 4) (ks_opE old) (f, m, w)) := by
    intro n f m w
    show kp_M_put_80b (kp_M_put_80 n) l1 l2 l3 l4 l5 l6 (nI to) l8 (nI 6) (km_set τ (f, m, w)) = _
    unfold kp_M_put_80b kp_M_put_200
    rw [if_pos (show (6 : Int32) ≤ nI 6 by decide)]
    rcases hold with ⟨h6, rfl⟩ | ⟨q, hq, h6, rfl⟩
    · rw [if_pos h6]; rfl
    · rw [h6, if_neg (kn_nn (by omega)), km_mayWrite]
      by_cases h : m = τ 0 4
      · rw [if_pos h, kt_bs, if_pos rfl, show ks_opE (some q) = [ks_er q] from rfl, km_stop h, km_outF]
      · rw [if_neg h, kt_bs, if_neg ks_one, show ks_opE (some q) = [ks_er q] from rfl, km_go h, km_nil, km_outT, km_erase' q hq, kt_bs]
  unfold ks_ops
  dsimp only [List.cons_append, List.nil_append]
  rw [s0 (n + 6)]
  by_cases h0 : m = τ 0 4
  · rw [if_pos h0, km_stop h0, km_outF]
  rw [if_neg h0, km_go h0, s1 (n + 5)]
  by_cases h1 : m + 1 = τ 0 4
  · rw [if_pos h1, km_stop h1, km_outF]
  rw [if_neg h1, km_go h1, s2 (n + 4)]
  by_cases h2 : m + 1 + 1 = τ 0 4
  · rw [if_pos h2, km_stop h2, km_outF]
  rw [if_neg h2, km_go h2, s3 (n + 3)]
  by_cases h3 : m + 1 + 1 + 1 = τ 0 4
  · rw [if_pos h3, km_stop h3, km_outF]
  rw [if_neg h3, km_go h3, s4 (n + 2)]
  by_cases h4 : m + 1 + 1 + 1 + 1 = τ 0 4
  · rw [if_pos h4, km_stop h4, km_outF]
  rw [if_neg h4, km_go h4, s5 (n + 1)]
  by_cases h5 : m + 1 + 1 + 1 + 1 + 1 = τ 0 4
  · rw [if_pos h5, km_stop h5, km_outF]
  rw [if_neg h5, km_go h5, s6 n]
/-- the first erased page is looked for -/
theorem km_put10 (l1 l2 l3 l4 l5 l6 : Int32) (τ : kt_S) (to : Nat) (hto : to < 7) (h1 : km_E (τ 1) to = true) (h0 : ∀ q, q < to → km_E (τ 1) q = false) :
    ∀ d q, q + d = to → ∀ n, kp_M_put_10 (n + d + 1) l1 l2 l3 l4 l5 l6 (nI q) τ = kp_M_put_31 100 l1 l2 l3 l4 l5 l6 (nI to) 0 0 τ := by
  intro d
  induction d with
  | zero =>
    intro q hq n
    have hq : q = to := by omega
    subst hq
    show kp_M_put_10b (kp_M_put_10 (n + 0)) l1 l2 l3 l4 l5 l6 (nI q) τ = _
    unfold kp_M_put_10b
    rw [km_erased q hto, kt_bs, h1]
    dsimp only
    rw [if_neg (show ¬ kb_i true = 0 by decide)]
  | succ d ih =>
    intro q hq n
    show kp_M_put_10b (kp_M_put_10 (n + (d + 1))) l1 l2 l3 l4 l5 l6 (nI q) τ = _
    unfold kp_M_put_10b
    rw [km_erased q (by omega), kt_bs, h0 q (by omega)]
    dsimp only
    rw [if_pos (show kb_i false = 0 from rfl), kn_succ]
    exact ih (q + 1) (by omega) n
/-- the greatest serial is looked for -/
theorem km_put31 (l1 l2 l3 l4 l5 l6 l7 : Int32) (τ : kt_S) : kp_M_put_31 100 l1 l2 l3 l4 l5 l6 l7 0 0 τ = kp_M_put_80 100 l1 l2 l3 l4 l5 l6 l7 (km_ser (τ 1) 7) 0 τ := by
  have hs : ∀ n p, p < 7 → kp_M_put_31 (n + 1) l1 l2 l3 l4 l5 l6 l7 (km_ser (τ 1) p) (nI p) τ = kp_M_put_31 n l1 l2 l3 l4 l5 l6 l7 (km_ser (τ 1) (p + 1)) (nI (p + 1)) τ := by
    intro n p hp
    show kp_M_put_31b (kp_M_put_31 n) l1 l2 l3 l4 l5 l6 l7 (km_ser (τ 1) p) (nI p) τ = _
    unfold kp_M_put_31b kp_M_put_67 kp_M_put_69
    rw [if_neg (ks_lt7 hp), km_erased p hp, kt_bs]
    dsimp only
    rw [kn_succ]
    cases hE : km_E (τ 1) p with
    | true =>
      rw [if_neg (show ¬ kb_i true = 0 by decide)]
      have : km_ser (τ 1) (p + 1) = km_ser (τ 1) p := by
        show (if _ then _ else _) = _
        rw [if_neg (fun h => by rw [hE] at h; cases h.1)]
      rw [this]
    | false =>
      rw [if_pos (show kb_i false = 0 from rfl), km_serialOf p hp, kt_bs]
      dsimp only
      by_cases h : km_ser (τ 1) p < τ 1 (6 * p) >>> (4 &&& 31)
      · have : km_ser (τ 1) (p + 1) = τ 1 (6 * p) >>> (4 &&& 31) := by
          show (if _ then _ else _) = _
          rw [if_pos ⟨hE, h⟩]
        rw [if_neg (fun z => km_le_lt.mp z h), km_serialOf p hp, kt_bs, this]
      · have : km_ser (τ 1) (p + 1) = km_ser (τ 1) p := by
          show (if _ then _ else _) = _
          rw [if_neg (fun z => h z.2)]
        rw [if_pos (km_le_lt.mpr h), this]
  have h7 : ∀ n x, kp_M_put_31 (n + 1) l1 l2 l3 l4 l5 l6 l7 x (nI 7) τ = kp_M_put_80 100 l1 l2 l3 l4 l5 l6 l7 x 0 τ := by
    intro n x
    show kp_M_put_31b (kp_M_put_31 n) l1 l2 l3 l4 l5 l6 l7 x (nI 7) τ = _
    unfold kp_M_put_31b
    rw [if_pos (show (7 : Int32) ≤ nI 7 by decide)]
  show kp_M_put_31 100 l1 l2 l3 l4 l5 l6 l7 (km_ser (τ 1) 0) (nI 0) τ = _
  rw [hs 99 0 (by omega), hs 98 1 (by omega), hs 97 2 (by omega), hs 96 3 (by omega), hs 95 4 (by omega), hs 94 5 (by omega), hs 93 6 (by omega), h7 92]
theorem km_old_cases (f : Nat → Int32) (name : Int32) : (km_pg f name < 0 ∧ ks_old (km_pg f name) = none) ∨ ∃ q, q < 7 ∧ km_pg f name = nI q ∧ ks_old (km_pg f name) = some q := by
  rcases ks_find_spec (fun p => !km_E f p && decide (f (6 * p) &&& 15 = name)) with ⟨q, hq, -, hq2, -⟩ | ⟨hq2, -⟩
  · right
    have hq3 : km_pg f name = nI q := hq2
    refine ⟨q, hq, hq3, ?_⟩
    rw [hq3]
    unfold ks_old
    rw [if_neg (kn_nn (by omega)), kn_cl (by omega)]
  · left
    have hq3 : km_pg f name = -1 := hq2
    rw [hq3]
    refine ⟨ks_neg1, ?_⟩
    unfold ks_old
    rw [if_pos ks_neg1]
theorem km_put (name a b c d : Int32) (τ : kt_S) (f : Nat → Int32) (m w : Int32) {to : Nat} (hto : to < 7) (hfe : ks_find (km_E f) = nI to) : kp_M_put name a b c d (km_set τ (f, m, w)) = km_out τ (km_seq (τ 0 4) (ks_ops (name + 16 * (km_ser f 7 + 1)) a b c d to (ks_old (km_pg f name))) (f, m, w)) := by
  have hsp : km_E f to = true ∧ ∀ q, q < to → km_E f q = false := by
    rcases ks_find_spec (km_E f) with ⟨q, hq, h1, h2, h3⟩ | ⟨h2, -⟩
    · have : q = to := (kn_eq (by omega) (by omega)).mp (h2.symm.trans hfe)
      subst this
      exact ⟨h1, h3⟩
    · exact absurd (hfe.symm.trans h2) (fun z => kn_nn (a := to) (by omega) (by rw [z]; exact ks_neg1))
  unfold kp_M_put kp_M_put_0
  rw [km_page, kt_bs]
  dsimp only
  have h10 := km_put10 name a b c d (km_pg (km_set τ (f, m, w) 1) name) (km_set τ (f, m, w)) to hto hsp.1 hsp.2 to 0 (by omega) (99 - to)
  have he : 99 - to + to + 1 = 100 := by omega
  rw [he] at h10
  refine Eq.trans h10 ?_
  rw [km_put31]
  exact km_put80 name a b c d (km_pg f name) (km_ser f 7) τ to hto f m w 93 (ks_old (km_pg f name)) (km_old_cases f name)
