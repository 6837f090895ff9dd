/-! The reference's store, read. -/
def kb_i (b : Bool) : Int32 := if b then 1 else 0
theorem kb_i0 : kb_i false = 0 := rfl
theorem kb_i1 : kb_i true = 1 := rfl
theorem kb_iz (b : Bool) : (kb_i b = 0) ↔ b = false := by cases b <;> decide
theorem km_idx (p k : Nat) : (6 : Int32) * nI p + nI k = nI (6 * p + k) := by
  show nI 6 * nI p + nI k = _
  rw [kn_mul, kn_add]
theorem km_idx0 (p : Nat) : (6 : Int32) * nI p = nI (6 * p) := by
  show nI 6 * nI p = _
  rw [kn_mul]
theorem km_idx5 (p : Nat) : (6 : Int32) * nI p + 5 = nI (6 * p + 5) := km_idx p 5
def km_E (f : Nat → Int32) (p : Nat) : Bool := (((((true && decide (f (6 * p + 0) = -1)) && decide (f (6 * p + 1) = -1)) && decide (f (6 * p + 2) = -1)) && decide (f (6 * p + 3) = -1)) && decide (f (6 * p + 4) = -1)) && decide (f (6 * p + 5) = -1)
theorem km_erased (p : Nat) (hp : p < 7) (τ : kt_S) : kp_M_erased (nI p) τ = some (kb_i (km_E (τ 1) p), τ) := by
  have hs : ∀ n k b, k < 6 → kp_M_erased_4 (n + 1) (nI p) (kb_i b) (nI k) τ = kp_M_erased_4 n (nI p) (kb_i (b && decide (τ 1 (6 * p + k) = -1))) (nI (k + 1)) τ := by
    intro n k b hk
    show kp_M_erased_4b (kp_M_erased_4 n) (nI p) (kb_i b) (nI k) τ = _
    unfold kp_M_erased_4b kp_M_erased_33 kp_M_erased_34
    rw [if_neg (ks_lt6 hk), kn_succ, km_idx, kn_cl (by omega)]
    cases b with
    | false => rfl
    | true =>
      rw [if_neg (show ¬ kb_i true = 0 by decide), if_neg (fun z => by
        rcases z with z | z
        · exact kn_nn (by omega) z
        · omega)]
      by_cases h : τ 1 (6 * p + k) = -1
      · rw [if_pos h, h]; rfl
      · rw [if_neg h]
        have : decide (τ 1 (6 * p + k) = -1) = false := decide_eq_false h
        rw [this]; rfl
  have h6 : ∀ n b, kp_M_erased_4 (n + 1) (nI p) (kb_i b) (nI 6) τ = some (kb_i b, τ) := by
    intro n b
    cases b <;> rfl
  show kp_M_erased_4 100 (nI p) (kb_i true) (nI 0) τ = _
  rw [hs 99 0 _ (by omega), hs 98 1 _ (by omega), hs 97 2 _ (by omega), hs 96 3 _ (by omega), hs 95 4 _ (by omega), hs 94 5 _ (by omega), h6 93]
  rfl
theorem km_erasedPages (τ : kt_S) : kp_M_erasedPages τ = some (nI (ks_cnt (km_E (τ 1))), τ) := by
  refine ks_cnt_loop (F := fun n x p => kp_M_erasedPages_4 n x (nI p) τ) (fun n x => rfl) (fun n x p hp => ?_)
  show kp_M_erasedPages_4b (kp_M_erasedPages_4 n) (nI x) (nI p) τ = _
  unfold kp_M_erasedPages_4b kp_M_erasedPages_25
  rw [if_neg (ks_lt7 hp), km_erased p hp, kt_bs]
  dsimp only
  rw [kn_succ, kn_succ]
  cases km_E (τ 1) p <;> rfl
theorem km_seal (p : Nat) (hp : p < 7) (τ : kt_S) : kp_M_seal (nI p) τ = some (ks_seal (τ 1) p, τ) := by
  have hs : ∀ n k x, k < 5 → kp_M_seal_5 (n + 1) (nI p) x (nI k) τ = kp_M_seal_5 n (nI p) (ks_sst x (τ 1 (6 * p + k))) (nI (k + 1)) τ := by
    intro n k x hk
    show kp_M_seal_5b (kp_M_seal_5 n) (nI p) x (nI k) τ = _
    unfold kp_M_seal_5b
    rw [if_neg (ks_lt5 hk), kn_succ, km_idx, kn_cl (by omega), if_neg (fun z => by
        rcases z with z | z
        · exact kn_nn (by omega) z
        · omega)]
    rfl
  show kp_M_seal_5 100 (nI p) 7 (nI 0) τ = _
  rw [hs 99 0 _ (by omega), hs 98 1 _ (by omega), hs 97 2 _ (by omega), hs 96 3 _ (by omega), hs 95 4 _ (by omega)]
  rfl
theorem km_nameOf (p : Nat) (hp : p < 7) (τ : kt_S) : kp_M_nameOf (nI p) τ = some (τ 1 (6 * p) &&& 15, τ) := by
  unfold kp_M_nameOf kp_M_nameOf_0
  rw [km_idx0, kn_cl (by omega), if_neg (fun z => by
        rcases z with z | z
        · exact kn_nn (by omega) z
        · omega)]
theorem km_serialOf (p : Nat) (hp : p < 7) (τ : kt_S) : kp_M_serialOf (nI p) τ = some (τ 1 (6 * p) >>> (4 &&& 31), τ) := by
  unfold kp_M_serialOf kp_M_serialOf_0
  rw [km_idx0, kn_cl (by omega), if_neg (fun z => by
        rcases z with z | z
        · exact kn_nn (by omega) z
        · omega)]
def km_pg (f : Nat → Int32) (name : Int32) : Int32 := ks_find (fun p => !km_E f p && decide (f (6 * p) &&& 15 = name))
theorem km_page (name : Int32) (τ : kt_S) : kp_M_page name τ = some (km_pg (τ 1) name, τ) := by
  refine ks_find_loop (F := fun n p => kp_M_page_2 n name (nI p) τ) (fun n => rfl) (fun n p hp => ?_)
  show kp_M_page_2b (kp_M_page_2 n) name (nI p) τ = _
  unfold kp_M_page_2b kp_M_page_27
  rw [if_neg (ks_lt7 hp), km_erased p hp, kt_bs]
  dsimp only
  rw [kn_succ]
  cases h : km_E (τ 1) p with
  | true => rfl
  | false =>
    rw [if_pos (show kb_i false = 0 from rfl), km_nameOf p hp, kt_bs]
    dsimp only
    by_cases h2 : τ 1 (6 * p) &&& 15 = name
    · simp [h2]
    · simp [h2]
theorem km_data (name : Int32) (k : Nat) (hk : k < 6) (τ : kt_S) {p : Nat} (hp : p < 7) (hpg : km_pg (τ 1) name = nI p) : kp_M_data name (nI k) τ = some (τ 1 (6 * p + k), τ) := by
  unfold kp_M_data kp_M_data_0
  rw [km_page, kt_bs, hpg]
  dsimp only
  rw [km_idx, kn_cl (by omega), if_neg (fun z => by
        rcases z with z | z
        · exact kn_nn (by omega) z
        · omega)]
theorem km_erase (p : Nat) (hp : p < 7) (τ : kt_S) : kp_M_erase (nI p) τ = some (fun q => if q = 1 then ks_er p (τ 1) else τ q) := by
  have hs : ∀ n k (f : Nat → Int32), k < 6 → kp_M_erase_2 (n + 1) (nI p) (nI k) (fun q => if q = 1 then f else τ q) = kp_M_erase_2 n (nI p) (nI (k + 1)) (fun q => if q = 1 then upd f (6 * p + k) (-1) else τ q) := by
    intro n k f hk
    show kp_M_erase_2b (kp_M_erase_2 n) (nI p) (nI k) _ = _
    unfold kp_M_erase_2b
    rw [if_neg (ks_lt6 hk), kn_succ, km_idx, kn_cl (by omega), if_neg (fun z => by
        rcases z with z | z
        · exact kn_nn (by omega) z
        · omega)]
    congr 1
    funext q
    by_cases h : q = 1
    · subst h; rfl
    · rw [kt_up_ne _ _ _ h, if_neg h, if_neg h]
  have h0 : τ = (fun q => if q = 1 then τ 1 else τ q) := by
    funext q
    by_cases h : q = 1
    · subst h; rfl
    · rw [if_neg h]
  have h1 : kp_M_erase_2 100 (nI p) (nI 0) (fun q => if q = 1 then τ 1 else τ q) = some (fun q => if q = 1 then ks_er p (τ 1) else τ q) := by
    rw [hs 99 0 _ (by omega), hs 98 1 _ (by omega), hs 97 2 _ (by omega), hs 96 3 _ (by omega), hs 95 4 _ (by omega), hs 94 5 _ (by omega)]
    rfl
  rw [← h0] at h1
  exact h1
