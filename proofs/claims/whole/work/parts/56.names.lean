/-! MAKE: excluded names, and the name of the new record. -/
theorem kE_excl0 {n Bq i : Nat} {σ τ : kt_S} (H : kU n Bq i σ τ) (h5 : kQn σ τ 5) (party : Int32) : ∀ c m f, m + c = 7 → 1 ≤ m → c < f → kp_T_isExcluded_2 f party (nI m) σ = some (0, σ) := by
  intro c
  induction c with
  | zero =>
    intro m f hm h1 hf
    obtain ⟨f, rfl⟩ := Nat.exists_eq_add_one_of_ne_zero (show ¬ f = 0 by omega)
    show kp_T_isExcluded_2b (kp_T_isExcluded_2 f) _ _ _ = _
    unfold kp_T_isExcluded_2b
    rw [show m = 7 by omega, if_pos (show (6 : Int32) < nI 7 by decide)]
  | succ c ih =>
    intro m f hm h1 hf
    obtain ⟨f, rfl⟩ := Nat.exists_eq_add_one_of_ne_zero (show ¬ f = 0 by omega)
    have hih := ih (m + 1) f (by omega) (by omega) (by omega)
    have hl : kp_R_lists 5 (nI m) σ = some (0, σ) := kE_nil (x := 5) (by omega) h5
    show kp_T_isExcluded_2b (kp_T_isExcluded_2 f) _ _ _ = _
    unfold kp_T_isExcluded_2b kp_T_isExcluded_31
    rw [if_neg (show ¬ (6 : Int32) < nI m from kn_geL (a := 6) (by omega) (by omega) (by omega))]
    rcases kE_cred H h1 (by omega) party with ⟨z, _⟩ | ⟨z, _⟩
    · rw [z, kt_bs]
      dsimp only
      rw [if_pos rfl, kn_succ, hih]
    · rw [z, kt_bs]
      dsimp only
      rw [if_neg ki_10, hl, kt_bs]
      dsimp only
      rw [if_pos rfl, kn_succ, hih]
theorem kE_excl {n Bq i k : Nat} {B : Nat → Nat} {σ τ : kt_S} (H : kU n Bq i σ τ) (hx : kRx B k σ τ) (h5 : kQy B k σ τ 5) (hk5 : σ 9 5 = nI 4) (l1 party : Int32) : ∀ c m f f' (a0 M0 v0 : Int32), m + c = 7 → 1 ≤ m → c < f → c < f' → (kp_T_isExcluded_2 f party (nI m) σ = some (1, σ) ∧ ∃ a M v : Int32, kp_M_make_142 f' l1 party (nI m) (kd τ a0 M0 v0 0) = some (8, kd τ a M v 0)) ∨ (kp_T_isExcluded_2 f party (nI m) σ = some (0, σ) ∧ ∃ a M v : Int32, kp_M_make_142 f' l1 party (nI m) (kd τ a0 M0 v0 0) = kp_M_make_192 l1 party (kd τ a M v 0)) := by
  intro c
  induction c with
  | zero =>
    intro m f f' a0 M0 v0 hm h1 hf hf'
    obtain ⟨f, rfl⟩ := Nat.exists_eq_add_one_of_ne_zero (show ¬ f = 0 by omega)
    obtain ⟨f', rfl⟩ := Nat.exists_eq_add_one_of_ne_zero (show ¬ f' = 0 by omega)
    refine Or.inr ⟨?_, a0, M0, v0, ?_⟩
    · show kp_T_isExcluded_2b (kp_T_isExcluded_2 f) _ _ _ = _
      unfold kp_T_isExcluded_2b
      rw [show m = 7 by omega, if_pos (show (6 : Int32) < nI 7 by decide)]
    · show kp_M_make_142b (kp_M_make_142 f') _ _ _ _ = _
      unfold kp_M_make_142b
      rw [show m = 7 by omega, if_pos (show (7 : Int32) ≤ nI 7 by decide)]
  | succ c ih =>
    intro m f f' a0 M0 v0 hm h1 hf hf'
    obtain ⟨f, rfl⟩ := Nat.exists_eq_add_one_of_ne_zero (show ¬ f = 0 by omega)
    obtain ⟨f', rfl⟩ := Nat.exists_eq_add_one_of_ne_zero (show ¬ f' = 0 by omega)
    have H' : kU n Bq i σ (kd τ a0 M0 v0 0) := kU_kd H
    have y5 : kQy B k σ (kd τ a0 M0 v0 0) 5 := kQy_of h5 (by omega) (show kRq B k σ (kd τ a0 M0 v0 0) from hx.1) rfl
    have ht : kp_M_there 5 (kd τ a0 M0 v0 0) = some (1, kd τ a0 M0 v0 0) := by
      obtain ⟨_, _, _, _, z, _⟩ := y5
      exact z
    have eK : kp_T_isExcluded_2 (f + 1) party (nI m) σ = kp_T_isExcluded_2b (kp_T_isExcluded_2 f) party (nI m) σ := rfl
    have eM : kp_M_make_142 (f' + 1) l1 party (nI m) (kd τ a0 M0 v0 0) = kp_M_make_142b (kp_M_make_142 f') l1 party (nI m) (kd τ a0 M0 v0 0) := rfl
    rw [eK, eM]
    unfold kp_T_isExcluded_2b kp_T_isExcluded_31 kp_M_make_142b kp_M_make_186
    rw [if_neg (show ¬ (6 : Int32) < nI m from kn_geL (a := 6) (by omega) (by omega) (by omega)), if_neg (ks_lt7 (by omega)), ht, kt_bs]
    dsimp only
    rw [if_neg ki_10, kn_succ]
    rcases kE_cred H' h1 (by omega) party with ⟨z, z2 | ⟨p, d, z2, z3, z4, z5⟩⟩ | ⟨z, p, z2, z3, z4, _⟩
    · rw [z, kt_bs, z2, kt_bs]
      dsimp only
      rw [if_pos rfl, if_pos ks_neg1]
      exact ih (m + 1) f f' a0 M0 v0 (by omega) (by omega) (by omega) (by omega)
    · rw [z, kt_bs, z3, kt_bs]
      dsimp only
      rw [if_pos rfl, if_neg (kn_pn z2), z4, kt_bs]
      dsimp only
      rw [if_neg z5]
      exact ih (m + 1) f f' a0 M0 v0 (by omega) (by omega) (by omega) (by omega)
    · obtain ⟨b, a', M', v', q1, q2⟩ := kQ_lists (σ := σ) (τ := kd τ a0 M0 v0 0) (x := 5) (y := m) hx.2.2.1 hx.2.2.2.2.1 rfl hx.2.2.2.1 (by omega) (by omega) y5 hk5
      have q1' : kp_R_lists 5 (nI m) σ = some (kb_i b, σ) := q1
      have q2' : kp_M_listed 5 (nI m) (kd τ a0 M0 v0 0) = some (kb_i b, kd τ a' M' v' 0) := by
        rw [kd_kd] at q2
        exact q2
      rw [z, kt_bs, z3, kt_bs]
      dsimp only
      rw [if_neg ki_10, if_neg (kn_pn z2), z4, kt_bs, q1', kt_bs]
      dsimp only
      rw [if_pos rfl, q2', kt_bs]
      dsimp only
      cases b with
      | false =>
        rw [if_pos (show kb_i false = 0 from rfl), if_pos (show kb_i false = 0 from rfl)]
        exact ih (m + 1) f f' a' M' v' (by omega) (by omega) (by omega) (by omega)
      | true =>
        rw [if_neg (show ¬ kb_i true = 0 from ki_10), if_neg (show ¬ kb_i true = 0 from ki_10)]
        exact Or.inl ⟨rfl, a', M', v', rfl⟩
/-! the name: the highest that matches, else the least that is free -/
def kN_f (fr pm : Nat → Bool) : Nat → Int32 → Int32
  | 0, x => x
  | k + 1, x => if fr (k + 1) then kN_f fr pm k (nI (k + 1)) else if pm (k + 1) then nI (k + 1) else kN_f fr pm k x
def kN_r (fr : Nat → Bool) : Nat → Int32 → Int32
  | 0, x => x
  | k + 1, x => kN_r fr k (if fr (k + 1) then nI (k + 1) else x)
def kN_m (pm : Nat → Bool) : Nat → Int32 → Int32
  | 0, x => x
  | k + 1, x => if pm (k + 1) then nI (k + 1) else kN_m pm k x
theorem kN_eq {fr pm : Nat → Bool} (h : ∀ k, fr k = true → pm k = false) : ∀ k x, kN_f fr pm k x = kN_m pm k (kN_r fr k x) := by
  intro k
  induction k with
  | zero => intro x; rfl
  | succ k ih =>
    intro x
    show (if fr (k + 1) then kN_f fr pm k (nI (k + 1)) else if pm (k + 1) then nI (k + 1) else kN_f fr pm k x) = if pm (k + 1) then nI (k + 1) else kN_m pm k (kN_r fr k (if fr (k + 1) then nI (k + 1) else x))
    cases hf : fr (k + 1) with
    | true =>
      rw [h _ hf, if_pos rfl, if_neg (by decide), if_pos rfl, ih]
    | false =>
      have nf : ¬ false = true := by decide
      rw [if_neg nf, if_neg nf, ih]
theorem kN_two (fr pm : Nat → Bool) : ∀ k, (∃ m, 1 ≤ m ∧ m ≤ k ∧ ∀ x, kN_f fr pm k x = nI m) ∨ ∀ x, kN_f fr pm k x = x := by
  intro k
  induction k with
  | zero => exact Or.inr fun x => rfl
  | succ k ih =>
    have e : ∀ x, kN_f fr pm (k + 1) x = if fr (k + 1) then kN_f fr pm k (nI (k + 1)) else if pm (k + 1) then nI (k + 1) else kN_f fr pm k x := fun x => rfl
    cases hf : fr (k + 1) with
    | true =>
      rcases ih with ⟨m, h1, h2, h3⟩ | h3
      · exact Or.inl ⟨m, h1, by omega, fun x => by rw [e, hf, if_pos rfl, h3]⟩
      · exact Or.inl ⟨k + 1, by omega, by omega, fun x => by rw [e, hf, if_pos rfl, h3]⟩
    | false =>
      cases hp : pm (k + 1) with
      | true => exact Or.inl ⟨k + 1, by omega, by omega, fun x => by rw [e, hf, hp, if_neg (by decide), if_pos rfl]⟩
      | false =>
        rcases ih with ⟨m, h1, h2, h3⟩ | h3
        · exact Or.inl ⟨m, h1, by omega, fun x => by rw [e, hf, hp, if_neg (by decide), if_neg (by decide), h3]⟩
        · exact Or.inr fun x => by rw [e, hf, hp, if_neg (by decide), if_neg (by decide), h3]
def kN_fr (g : Nat → Int32) (m : Nat) : Bool := decide (ks_pg g (nI m) = -1)
def kN_pm (g : Nat → Int32) (a u : Int32) (m : Nat) : Bool := !decide (ks_pg g (nI m) = -1) && (decide (g (6 * (ks_pg g (nI m)).toNatClampNeg + 1) = a) && decide (g (6 * (ks_pg g (nI m)).toNatClampNeg + 2) = u))
theorem kN_frpm {g : Nat → Int32} {a u : Int32} : ∀ k, kN_fr g k = true → kN_pm g a u k = false := fun k h => by
  unfold kN_fr at h
  unfold kN_pm
  rw [h]
  rfl
theorem kE_nm {n B i : Nat} {σ τ : kt_S} (H : kU n B i σ τ) (a u : Int32) (m : Nat) : (∃ p, p < 7 ∧ kp_S_pageOf (nI m) σ = some (nI p, σ) ∧ kp_M_page (nI m) τ = some (nI p, τ) ∧ (kp_S_read (nI p) 1 σ = some (σ 3 (6 * p + 1), σ) ∧ kp_M_data (nI m) 1 τ = some (σ 3 (6 * p + 1), τ)) ∧ (kp_S_read (nI p) 2 σ = some (σ 3 (6 * p + 2), σ) ∧ kp_M_data (nI m) 2 τ = some (σ 3 (6 * p + 2), τ)) ∧ kN_fr (σ 3) m = false ∧ kN_pm (σ 3) a u m = (decide (σ 3 (6 * p + 1) = a) && decide (σ 3 (6 * p + 2) = u))) ∨ (kp_S_pageOf (nI m) σ = some (-1, σ) ∧ kp_M_page (nI m) τ = some (-1, τ) ∧ kN_fr (σ 3) m = true ∧ kN_pm (σ 3) a u m = false) := by
  rcases kU_page H (nI m) with ⟨p, p1, p2, p3, p4, p5, p6, p7⟩ | ⟨p2, p3, p4⟩
  · have hd : decide (nI p = -1) = false := decide_eq_false (kv_m1 (by omega))
    refine Or.inl ⟨p, p1, p2, p3, p7 1 (by omega), p7 2 (by omega), ?_, ?_⟩
    · unfold kN_fr
      rw [p4, hd]
    · unfold kN_pm
      rw [p4, hd, kn_cl (by omega)]
      rfl
  · have hd : decide ((-1 : Int32) = -1) = true := decide_eq_true rfl
    refine Or.inr ⟨p2, p3, ?_, ?_⟩
    · unfold kN_fr
      rw [p4, hd]
    · unfold kN_pm
      rw [p4, hd]
      rfl
theorem kE_nameK {n B i : Nat} {σ τ : kt_S} (H : kU n B i σ τ) (a u : Int32) : ∀ k f (x : Int32), k ≤ 6 → k < f → kp_T_nameFor_7 f a u x (nI k) σ = some (kN_f (kN_fr (σ 3)) (kN_pm (σ 3) a u) k x, σ) := by
  intro k
  induction k with
  | zero =>
    intro f x _ hf
    obtain ⟨f, rfl⟩ := Nat.exists_eq_add_one_of_ne_zero (show ¬ f = 0 by omega)
    show kp_T_nameFor_7b (kp_T_nameFor_7 f) _ _ _ _ _ = _
    unfold kp_T_nameFor_7b
    rw [if_pos (show nI 0 ≤ 0 by decide)]
    rfl
  | succ k ih =>
    intro f x hk hf
    obtain ⟨f, rfl⟩ := Nat.exists_eq_add_one_of_ne_zero (show ¬ f = 0 by omega)
    show kp_T_nameFor_7b (kp_T_nameFor_7 f) _ _ _ _ _ = some ((if kN_fr (σ 3) (k + 1) then kN_f (kN_fr (σ 3)) (kN_pm (σ 3) a u) k (nI (k + 1)) else if kN_pm (σ 3) a u (k + 1) then nI (k + 1) else kN_f (kN_fr (σ 3)) (kN_pm (σ 3) a u) k x), σ)
    unfold kp_T_nameFor_7b kp_T_nameFor_65
    rw [if_neg (show ¬ nI (k + 1) ≤ 0 from fun z => by have := (kn_le (b := 0) (by omega) (by omega)).mp z; omega), kn_dec]
    rcases kE_nm H a u (k + 1) with ⟨p, p1, p2, p3, p4, p5, p6, p7⟩ | ⟨p2, p3, p6, p7⟩
    · rw [p2, kt_bs, p6, p7]
      dsimp only
      rw [if_pos (kn_p0 p1), p4.1, kt_bs, if_neg (show ¬ false = true by decide)]
      dsimp only
      by_cases z : σ 3 (6 * p + 1) = a
      · rw [if_pos z, decide_eq_true z, p5.1, kt_bs]
        dsimp only
        by_cases y : σ 3 (6 * p + 2) = u
        · rw [if_pos y, decide_eq_true y]
          rfl
        · rw [if_neg y, decide_eq_false y, if_neg (show ¬ (true && false) = true by decide)]
          exact ih f x (by omega) (by omega)
      · rw [if_neg z, decide_eq_false z, Bool.false_and, if_neg (show ¬ false = true by decide)]
        exact ih f x (by omega) (by omega)
    · rw [p2, kt_bs, p6]
      dsimp only
      rw [if_neg ki_m0, if_pos rfl]
      exact ih f (nI (k + 1)) (by omega) (by omega)
theorem kE_nameR {n B i : Nat} {σ τ : kt_S} (H : kU n B i σ τ) (l a u : Int32) : ∀ k f (x : Int32), k ≤ 6 → k < f → kp_M_make_220 f l a u x (nI k) τ = kp_M_make_252 100 l a u (kN_r (kN_fr (σ 3)) k x) 1 τ := by
  intro k
  induction k with
  | zero =>
    intro f x _ hf
    obtain ⟨f, rfl⟩ := Nat.exists_eq_add_one_of_ne_zero (show ¬ f = 0 by omega)
    show kp_M_make_220b (kp_M_make_220 f) _ _ _ _ _ _ = kp_M_make_252 100 l a u x 1 τ
    unfold kp_M_make_220b
    rw [if_pos (show nI 0 ≤ 0 by decide)]
  | succ k ih =>
    intro f x hk hf
    obtain ⟨f, rfl⟩ := Nat.exists_eq_add_one_of_ne_zero (show ¬ f = 0 by omega)
    have e : kN_r (kN_fr (σ 3)) (k + 1) x = kN_r (kN_fr (σ 3)) k (if kN_fr (σ 3) (k + 1) then nI (k + 1) else x) := rfl
    show kp_M_make_220b (kp_M_make_220 f) _ _ _ _ _ _ = _
    unfold kp_M_make_220b kp_M_make_241
    rw [if_neg (show ¬ nI (k + 1) ≤ 0 from fun z => by have := (kn_le (b := 0) (by omega) (by omega)).mp z; omega), kn_dec, e]
    rcases kE_nm H a u (k + 1) with ⟨p, p1, p2, p3, p4, p5, p6, p7⟩ | ⟨p2, p3, p6, p7⟩
    · rw [p3, kt_bs, p6]
      dsimp only
      rw [if_pos (kn_p0 p1), if_neg (show ¬ false = true by decide)]
      exact ih f x (by omega) (by omega)
    · rw [p3, kt_bs, p6]
      dsimp only
      rw [if_neg ki_m0, if_pos rfl]
      exact ih f (nI (k + 1)) (by omega) (by omega)
theorem kE_nameM {n B i : Nat} {σ τ : kt_S} (H : kU n B i σ τ) (l a u : Int32) : ∀ c j f (x : Int32), j + c = 6 → c < f → kp_M_make_252 f l a u (kN_m (kN_pm (σ 3) a u) j x) (nI (j + 1)) τ = kp_M_make_252 (f - c) l a u (kN_m (kN_pm (σ 3) a u) 6 x) (nI 7) τ := by
  intro c
  induction c with
  | zero =>
    intro j f x hj _
    rw [show j = 6 by omega]
    rfl
  | succ c ih =>
    intro j f x hj hf
    obtain ⟨f, rfl⟩ := Nat.exists_eq_add_one_of_ne_zero (show ¬ f = 0 by omega)
    have e : kN_m (kN_pm (σ 3) a u) (j + 1) x = if kN_pm (σ 3) a u (j + 1) then nI (j + 1) else kN_m (kN_pm (σ 3) a u) j x := rfl
    have hih := ih (j + 1) f x (by omega) (by omega)
    rw [show f + 1 - (c + 1) = f - c by omega, ← hih, e]
    show kp_M_make_252b (kp_M_make_252 f) _ _ _ _ _ _ = _
    unfold kp_M_make_252b kp_M_make_295 kp_M_make_297
    rw [if_neg (ks_lt7 (by omega)), kn_succ]
    rcases kE_nm H a u (j + 1) with ⟨p, p1, p2, p3, p4, p5, p6, p7⟩ | ⟨p2, p3, p6, p7⟩
    · rw [p3, kt_bs, p7]
      dsimp only
      rw [if_neg (kn_pn p1), p4.2, kt_bs]
      dsimp only
      by_cases z : σ 3 (6 * p + 1) = a
      · rw [if_pos z, decide_eq_true z, p5.2, kt_bs]
        dsimp only
        by_cases y : σ 3 (6 * p + 2) = u
        · rw [if_pos y, decide_eq_true y]
          rfl
        · rw [if_neg y, decide_eq_false y]
          rfl
      · rw [if_neg z, decide_eq_false z]
        rfl
    · rw [p3, kt_bs, p7]
      dsimp only
      rw [if_pos ks_neg1]
      rfl
