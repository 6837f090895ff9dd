/-! The class's store, read. -/
theorem ks_read (p k : Nat) (hp : p < 7) (hk : k < 6) (σ : kt_S) : kp_S_read (nI p) (nI k) σ = some (σ 3 (6 * p + k), σ) := by
  have e : nI p * 6 + nI k = nI (6 * p + k) := by
    show nI p * nI 6 + nI k = _
    rw [kn_mul, kn_add, Nat.mul_comm]
  unfold kp_S_read kp_S_read_0
  rw [if_neg (kn_nn (by omega)), if_neg (by show ¬ nI 7 ≤ nI p; rw [kn_le (by omega) (by omega)]; omega), if_neg (kn_nn (by omega)), if_neg (by show ¬ nI 6 ≤ nI k; rw [kn_le (by omega) (by omega)]; omega), e, if_neg (kn_in (by omega) (by omega)), kn_cl (by omega)]
  rfl
theorem ks_read0 (p : Nat) (hp : p < 7) (σ : kt_S) : kp_S_read (nI p) 0 σ = some (σ 3 (6 * p), σ) := ks_read p 0 hp (by omega) σ
def ks_nm (x : Int32) : Int32 := x - x / 16 * 16
theorem ks_pageOf (name : Int32) (σ : kt_S) : kp_S_pageOf name σ = some (ks_find (fun p => decide (¬ σ 3 (6 * p) = -1 ∧ ks_nm (σ 3 (6 * p)) = name)), σ) := by
  refine ks_find_loop (F := fun n p => kp_S_pageOf_2 n name (nI p) σ) (fun n => rfl) (fun n p hp => ?_)
  show kp_S_pageOf_2b (kp_S_pageOf_2 n) name (nI p) σ = _
  unfold kp_S_pageOf_2b kp_S_pageOf_30
  rw [if_neg (by show ¬ nI 7 ≤ nI p; rw [kn_le (by omega) (by omega)]; omega), ks_read0 p hp, kn_succ]
  by_cases h1 : σ 3 (6 * p) = -1
  · simp [h1]
  · by_cases h2 : ks_nm (σ 3 (6 * p)) = name
    · have h3 : σ 3 (6 * p) - σ 3 (6 * p) / 16 * 16 = name := h2
      simp [h1, h2, h3]
    · have h3 : ¬ σ 3 (6 * p) - σ 3 (6 * p) / 16 * 16 = name := h2
      simp [h1, h2, h3]
theorem ks_lt7 {p : Nat} (hp : p < 7) : ¬ (7 : Int32) ≤ nI p := by show ¬ nI 7 ≤ nI p; rw [kn_le (by omega) (by omega)]; omega
theorem ks_lt6 {p : Nat} (hp : p < 6) : ¬ (6 : Int32) ≤ nI p := by show ¬ nI 6 ≤ nI p; rw [kn_le (by omega) (by omega)]; omega
theorem ks_lt5 {p : Nat} (hp : p < 5) : ¬ (5 : Int32) ≤ nI p := by show ¬ nI 5 ≤ nI p; rw [kn_le (by omega) (by omega)]; omega
def ks_pg (f : Nat → Int32) (name : Int32) : Int32 := ks_find (fun p => decide (¬ f (6 * p) = -1 ∧ ks_nm (f (6 * p)) = name))
theorem ks_pageOf' (name : Int32) (σ : kt_S) : kp_S_pageOf name σ = some (ks_pg (σ 3) name, σ) := ks_pageOf name σ
theorem ks_has (name : Int32) (σ : kt_S) : kp_S_has name σ = some (if ks_pg (σ 3) name < 0 then 0 else 1, σ) := by
  unfold kp_S_has kp_S_has_0 kp_S_has_13
  rw [ks_pageOf']
  by_cases h : ks_pg (σ 3) name < 0 <;> simp [h]
theorem ks_erasedPages (σ : kt_S) : kp_S_erasedPages σ = some (nI (ks_cnt (fun p => decide (σ 3 (6 * p) = -1))), σ) := by
  refine ks_cnt_loop (F := fun n x p => kp_S_erasedPages_4 n x (nI p) σ) (fun n x => rfl) (fun n x p hp => ?_)
  show kp_S_erasedPages_4b (kp_S_erasedPages_4 n) (nI x) (nI p) σ = _
  unfold kp_S_erasedPages_4b kp_S_erasedPages_26
  rw [if_neg (ks_lt7 hp), ks_read0 p hp]
  by_cases h : σ 3 (6 * p) = -1
  · simp only [kt_bs, h, if_true, decide_true, kn_succ]
  · simp only [kt_bs, h, if_false, decide_false, kn_succ, Nat.add_zero]
    show kp_S_erasedPages_4 n (nI x + nI 0) _ σ = _
    rw [kn_add]; rfl
theorem ks_firstErased (σ : kt_S) : kp_S_firstErased σ = some (ks_find (fun p => decide (σ 3 (6 * p) = -1)), σ) := by
  refine ks_find_loop (F := fun n p => kp_S_firstErased_2 n (nI p) σ) (fun n => rfl) (fun n p hp => ?_)
  show kp_S_firstErased_2b (kp_S_firstErased_2 n) (nI p) σ = _
  unfold kp_S_firstErased_2b
  rw [if_neg (ks_lt7 hp), ks_read0 p hp]
  by_cases h : σ 3 (6 * p) = -1 <;> simp [h, kn_succ]
/-- the greatest label below a limit, over pages 0 to n - 1 -/
def ks_lb (f : Nat → Int32) (lim : Int32) : Nat → Int32
  | 0 => -1
  | n + 1 => if f (6 * n) < lim ∧ ks_lb f lim n < f (6 * n) then f (6 * n) else ks_lb f lim n
theorem ks_labelBelow (lim : Int32) (σ : kt_S) : kp_S_labelBelow lim σ = some (ks_lb (σ 3) lim 7, σ) := by
  have hs : ∀ n p, p < 7 → kp_S_labelBelow_4 (n + 1) lim (ks_lb (σ 3) lim p) (nI p) σ = kp_S_labelBelow_4 n lim (ks_lb (σ 3) lim (p + 1)) (nI (p + 1)) σ := by
    intro n p hp
    show kp_S_labelBelow_4b (kp_S_labelBelow_4 n) lim (ks_lb (σ 3) lim p) (nI p) σ = _
    unfold kp_S_labelBelow_4b kp_S_labelBelow_33
    rw [if_neg (ks_lt7 hp), ks_read0 p hp, kn_succ]
    simp only [kt_bs, ks_lb]
    by_cases h1 : σ 3 (6 * p) < lim
    · have h1' : ¬ lim ≤ σ 3 (6 * p) := by rw [Int32.le_iff_toInt_le]; rw [Int32.lt_iff_toInt_lt] at h1; omega
      by_cases h2 : ks_lb (σ 3) lim p < σ 3 (6 * p)
      · have h2' : ¬ σ 3 (6 * p) ≤ ks_lb (σ 3) lim p := by rw [Int32.le_iff_toInt_le]; rw [Int32.lt_iff_toInt_lt] at h2; omega
        simp [h1, h2, h1', h2']
      · have h2' : σ 3 (6 * p) ≤ ks_lb (σ 3) lim p := by rw [Int32.le_iff_toInt_le]; rw [Int32.lt_iff_toInt_lt] at h2; omega
        simp [h1, h2, h1', h2']
    · have h1' : lim ≤ σ 3 (6 * p) := by rw [Int32.le_iff_toInt_le]; rw [Int32.lt_iff_toInt_lt] at h1; omega
      simp [h1, h1']
  show kp_S_labelBelow_4 100 lim (ks_lb (σ 3) lim 0) (nI 0) σ = _
  rw [hs 99 0 (by omega), hs 98 1 (by omega), hs 97 2 (by omega), hs 96 3 (by omega), hs 95 4 (by omega), hs 94 5 (by omega), hs 93 6 (by omega)]
  rfl
theorem ks_hasRoomFor (name : Int32) (σ : kt_S) : kp_S_hasRoomFor name σ = some (if 0 ≤ ks_pg (σ 3) name then 1 else if nI (ks_cnt (fun p => decide (σ 3 (6 * p) = -1))) < 2 then 0 else 1, σ) := by
  unfold kp_S_hasRoomFor kp_S_hasRoomFor_0 kp_S_hasRoomFor_16 kp_S_hasRoomFor_21
  rw [ks_pageOf']
  simp only [kt_bs]
  by_cases h : 0 ≤ ks_pg (σ 3) name
  · simp [h]
  · rw [ks_erasedPages]
    by_cases h2 : nI (ks_cnt (fun p => decide (σ 3 (6 * p) = -1))) < 2 <;> simp [h, h2]
def ks_sst (x y : Int32) : Int32 := (x ^^^ y) * 16777619 + 1
def ks_seal (f : Nat → Int32) (p : Nat) : Int32 := ks_sst (ks_sst (ks_sst (ks_sst (ks_sst 7 (f (6 * p + 0))) (f (6 * p + 1))) (f (6 * p + 2))) (f (6 * p + 3))) (f (6 * p + 4)) &&& 2147483647
theorem ks_sealOf (p : Nat) (hp : p < 7) (σ : kt_S) : kp_S_sealOf (nI p) σ = some (ks_seal (σ 3) p, σ) := by
  have hs : ∀ n k x, k < 5 → kp_S_sealOf_5 (n + 1) (nI p) x (nI k) σ = kp_S_sealOf_5 n (nI p) (ks_sst x (σ 3 (6 * p + k))) (nI (k + 1)) σ := by
    intro n k x hk
    show kp_S_sealOf_5b (kp_S_sealOf_5 n) (nI p) x (nI k) σ = _
    unfold kp_S_sealOf_5b
    rw [if_neg (ks_lt5 hk), ks_read p k hp (by omega), kn_succ]
    rfl
  show kp_S_sealOf_5 100 (nI p) 7 (nI 0) σ = _
  rw [hs 99 0 _ (by omega), hs 98 1 _ (by omega), hs 97 2 _ (by omega), hs 96 3 _ (by omega), hs 95 4 _ (by omega)]
  rfl
theorem ks_isSealed (p : Nat) (hp : p < 7) (σ : kt_S) : kp_S_isSealed (nI p) σ = some (if σ 3 (6 * p + 5) = ks_seal (σ 3) p then 1 else 0, σ) := by
  unfold kp_S_isSealed kp_S_isSealed_0 kp_S_isSealed_19
  rw [show (5 : Int32) = nI 5 from rfl, ks_read p 5 hp (by omega)]
  simp only [kt_bs]
  rw [ks_sealOf p hp]
  simp only [kt_bs]
  by_cases h : σ 3 (6 * p + 5) = ks_seal (σ 3) p <;> simp [h]
/-- page p is whole, of the name of label x, and later -/
def ks_rival (f : Nat → Int32) (x : Int32) (q : Nat) : Bool := decide (f (6 * q + 5) = ks_seal f q) && (decide (ks_nm (f (6 * q)) = ks_nm x) && decide (x < f (6 * q)))
theorem ks_isOutdated_step (x : Int32) (σ : kt_S) (n q : Nat) (hq : q < 7) : kp_S_isOutdated_9 (n + 1) x (nI q) σ = if ks_rival (σ 3) x q then some (1, σ) else kp_S_isOutdated_9 n x (nI (q + 1)) σ := by
  show kp_S_isOutdated_9b (kp_S_isOutdated_9 n) x (nI q) σ = _
  unfold kp_S_isOutdated_9b kp_S_isOutdated_51
  rw [if_neg (ks_lt7 hq), ks_read0 q hq, kn_succ]
  simp only [kt_bs]
  rw [ks_isSealed q hq]
  simp only [kt_bs, ks_rival, ks_nm]
  by_cases h1 : σ 3 (6 * q + 5) = ks_seal (σ 3) q
  · by_cases h2 : σ 3 (6 * q) - σ 3 (6 * q) / 16 * 16 = x - x / 16 * 16
    · by_cases h3 : x < σ 3 (6 * q)
      · have h3' : ¬ σ 3 (6 * q) ≤ x := by rw [Int32.le_iff_toInt_le]; rw [Int32.lt_iff_toInt_lt] at h3; omega
        simp [h1, h2, h3, h3']
      · have h3' : σ 3 (6 * q) ≤ x := by rw [Int32.le_iff_toInt_le]; rw [Int32.lt_iff_toInt_lt] at h3; omega
        simp [h1, h2, h3, h3']
    · simp [h1, h2]
  · simp [h1]
theorem ks_isOutdated_all (x : Int32) (σ : kt_S) : kp_S_isOutdated_9 100 x 0 σ = some (if ks_any (ks_rival (σ 3) x) then 1 else 0, σ) := by
  have h := ks_any_loop (F := fun n q => kp_S_isOutdated_9 n x (nI q) σ) (P := ks_rival (σ 3) x) (y := (1, σ)) (z := (0, σ)) (fun n => rfl) (fun n q hq => ks_isOutdated_step x σ n q hq)
  refine Eq.trans h ?_
  cases ks_any (ks_rival (σ 3) x) <;> rfl
theorem ks_isOutdated (p : Nat) (hp : p < 7) (σ : kt_S) : kp_S_isOutdated (nI p) σ = some (if ks_any (ks_rival (σ 3) (σ 3 (6 * p))) then 1 else 0, σ) := by
  unfold kp_S_isOutdated kp_S_isOutdated_0
  rw [ks_read0 p hp, kt_bs]
  exact ks_isOutdated_all _ σ
/-! The class's store, written. -/
theorem ks_spendWrite (σ : kt_S) : kp_S_spendWrite σ = if σ 2 2 = 0 then some (0, σ) else some (1, kt_up (if σ 2 2 = -1 then σ else kt_up σ 2 2 (σ 2 2 - 1)) 2 1 (σ 2 1 + 1)) := by
  unfold kp_S_spendWrite kp_S_spendWrite_0 kp_S_spendWrite_27
  by_cases h0 : σ 2 2 = 0
  · simp [h0]
  · by_cases h1 : σ 2 2 = -1
    · simp [h0, h1]
    · simp [h0, h1, kt_up_ap]
/-- the store's moving parts: the cells, the writes until the cut (-1: none is set), the writes -/
abbrev ka_X : Type := (Nat → Int32) × Int32 × Int32
def ka_dec (c : Int32) : Int32 := if c = -1 then -1 else c - 1
/-- one write: false where the cut comes before it -/
def ka_w (g : (Nat → Int32) → (Nat → Int32)) (X : ka_X) : Bool × ka_X := if X.2.1 = 0 then (false, X) else (true, (g X.1, ka_dec X.2.1, X.2.2 + 1))
/-- writes one after the other, up to the cut -/
def ka_seq : List ((Nat → Int32) → (Nat → Int32)) → ka_X → Bool × ka_X
  | [], X => (true, X)
  | g :: gs, X => if X.2.1 = 0 then (false, X) else ka_seq gs (g X.1, ka_dec X.2.1, X.2.2 + 1)
def ks_T (σ : kt_S) : ka_X := (σ 3, σ 2 2, σ 2 1)
def ks_set (σ : kt_S) (X : ka_X) : kt_S := fun q => if q = 3 then X.1 else if q = 2 then upd (upd (σ 2) 2 X.2.1) 1 X.2.2 else σ q
theorem ks_set3 (σ : kt_S) (X : ka_X) : ks_set σ X 3 = X.1 := if_pos rfl
theorem ks_set2 (σ : kt_S) (X : ka_X) : ks_set σ X 2 = upd (upd (σ 2) 2 X.2.1) 1 X.2.2 := rfl
theorem ks_set22 (σ : kt_S) (X : ka_X) : ks_set σ X 2 2 = X.2.1 := rfl
theorem ks_set21 (σ : kt_S) (X : ka_X) : ks_set σ X 2 1 = X.2.2 := rfl
theorem ks_set_ne (σ : kt_S) (X : ka_X) {q : Nat} (h2 : ¬ q = 2) (h3 : ¬ q = 3) : ks_set σ X q = σ q := by
  unfold ks_set
  rw [if_neg h3, if_neg h2]
theorem upd_upd {f : Nat → Int32} {k : Nat} {x y : Int32} : upd (upd f k x) k y = upd f k y := by
  funext j
  unfold upd
  split <;> rfl
theorem upd_same {f : Nat → Int32} {k : Nat} {x : Int32} (h : f k = x) : upd f k x = f := by
  funext j
  unfold upd
  split
  · next e => rw [e, h]
  · rfl
theorem upd_comm {f : Nat → Int32} {k l : Nat} {x y : Int32} (h : ¬ k = l) : upd (upd f k x) l y = upd (upd f l y) k x := by
  funext j
  unfold upd
  by_cases h1 : j = k
  · have h2 : ¬ j = l := fun e => h (h1.symm.trans e)
    rw [if_neg h2, if_pos h1, if_pos h1]
  · rw [if_neg h1, if_neg h1]
theorem ks_set_T (σ : kt_S) : ks_set σ (ks_T σ) = σ := by
  funext q
  unfold ks_set ks_T
  split
  · next h => rw [h]
  · split
    · next h => rw [h, upd_same (f := σ 2) (k := 2) rfl, upd_same rfl]
    · rfl
theorem ks_set_set (σ : kt_S) (X Y : ka_X) : ks_set (ks_set σ X) Y = ks_set σ Y := by
  funext q
  by_cases h3 : q = 3
  · subst h3; rfl
  · by_cases h2 : q = 2
    · subst h2
      rw [ks_set2, ks_set2, ks_set2, upd_comm (f := upd (σ 2) 2 X.2.1) (k := 1) (l := 2) (by decide), upd_upd, upd_upd]
    · rw [ks_set_ne _ _ h2 h3, ks_set_ne _ _ h2 h3, ks_set_ne _ _ h2 h3]
theorem ks_T_set (σ : kt_S) (X : ka_X) : ks_T (ks_set σ X) = X := rfl
theorem ks_up3 (σ : kt_S) (X : ka_X) (i : Nat) (v : Int32) : kt_up (ks_set σ X) 3 i v = ks_set σ (upd X.1 i v, X.2) := by
  funext q
  by_cases h3 : q = 3
  · subst h3; rw [kt_up_self]; rfl
  · rw [kt_up_ne _ _ _ h3]
    by_cases h2 : q = 2
    · subst h2; rfl
    · rw [ks_set_ne _ _ h2 h3, ks_set_ne _ _ h2 h3]
theorem ks_spendWrite' (σ : kt_S) (X : ka_X) : kp_S_spendWrite (ks_set σ X) = if X.2.1 = 0 then some (0, ks_set σ X) else some (1, ks_set σ (X.1, ka_dec X.2.1, X.2.2 + 1)) := by
  rw [ks_spendWrite, ks_set22, ks_set21]
  by_cases h0 : X.2.1 = 0
  · rw [if_pos h0, if_pos h0]
  · rw [if_neg h0, if_neg h0]
    congr 2
    unfold ka_dec
    by_cases h1 : X.2.1 = -1
    · rw [if_pos h1, if_pos h1]
      funext q
      by_cases h2 : q = 2
      · subst h2
        rw [kt_up_self, ks_set2, ks_set2, upd_upd, h1]
      · rw [kt_up_ne _ _ _ h2]
        by_cases h3 : q = 3
        · subst h3; rfl
        · rw [ks_set_ne _ _ h2 h3, ks_set_ne _ _ h2 h3]
    · rw [if_neg h1, if_neg h1]
      funext q
      by_cases h2 : q = 2
      · subst h2
        rw [kt_up_self, kt_up_self, ks_set2, ks_set2, upd_comm (f := upd (σ 2) 2 X.2.1) (k := 1) (l := 2) (by decide), upd_upd, upd_upd]
      · rw [kt_up_ne _ _ _ h2, kt_up_ne _ _ _ h2]
        by_cases h3 : q = 3
        · subst h3; rfl
        · rw [ks_set_ne _ _ h2 h3, ks_set_ne _ _ h2 h3]
theorem ks_idx (p k : Nat) : nI p * 6 + nI k = nI (6 * p + k) := by
  show nI p * nI 6 + nI k = _
  rw [kn_mul, kn_add, Nat.mul_comm]
theorem ks_write (p k : Nat) (v : Int32) (hp : p < 7) (hk : k < 6) (σ : kt_S) (X : ka_X) : kp_S_write (nI p) (nI k) v (ks_set σ X) = if X.2.1 = 0 then some (0, ks_set σ X) else some (1, ks_set σ (upd X.1 (6 * p + k) v, ka_dec X.2.1, X.2.2 + 1)) := by
  unfold kp_S_write kp_S_write_0 kp_S_write_27
  rw [if_neg (kn_nn (by omega)), if_neg (ks_lt7 hp), if_neg (kn_nn (by omega)), if_neg (ks_lt6 hk), ks_spendWrite', ks_idx]
  by_cases h : X.2.1 = 0
  · rw [if_pos h, if_pos h, kt_bs]
    rfl
  · rw [if_neg h, if_neg h, kt_bs, if_neg (show ¬ (1 : Int32) = 0 by decide), if_neg (kn_in (by omega) (by omega)), kn_cl (by omega), ks_up3]
/-- a page erased -/
def ks_er (p : Nat) (f : Nat → Int32) : Nat → Int32 := upd (upd (upd (upd (upd (upd f (6 * p + 0) (-1)) (6 * p + 1) (-1)) (6 * p + 2) (-1)) (6 * p + 3) (-1)) (6 * p + 4) (-1)) (6 * p + 5) (-1)
theorem ks_erase (p : Nat) (hp : p < 7) (σ : kt_S) (X : ka_X) : kp_S_erase (nI p) (ks_set σ X) = if X.2.1 = 0 then some (0, ks_set σ X) else some (1, ks_set σ (ks_er p X.1, ka_dec X.2.1, X.2.2 + 1)) := by
  have hs : ∀ n k Y, k < 6 → kp_S_erase_21 (n + 1) (nI p) (nI k) (ks_set σ Y) = kp_S_erase_21 n (nI p) (nI (k + 1)) (ks_set σ (upd Y.1 (6 * p + k) (-1), Y.2)) := by
    intro n k Y hk
    show kp_S_erase_21b (kp_S_erase_21 n) (nI p) (nI k) (ks_set σ Y) = _
    unfold kp_S_erase_21b
    rw [if_neg (ks_lt6 hk), ks_idx, if_neg (kn_in (by omega) (by omega)), kn_cl (by omega), ks_up3, kn_succ]
  have hall : ∀ Y, kp_S_erase_21 100 (nI p) 0 (ks_set σ Y) = some (1, ks_set σ (ks_er p Y.1, Y.2)) := by
    intro Y
    show kp_S_erase_21 100 (nI p) (nI 0) (ks_set σ Y) = _
    rw [hs 99 0 _ (by omega), hs 98 1 _ (by omega), hs 97 2 _ (by omega), hs 96 3 _ (by omega), hs 95 4 _ (by omega), hs 94 5 _ (by omega)]
    rfl
  unfold kp_S_erase kp_S_erase_0 kp_S_erase_17
  rw [if_neg (kn_nn (by omega)), if_neg (ks_lt7 hp), ks_spendWrite']
  by_cases h : X.2.1 = 0
  · rw [if_pos h, if_pos h, kt_bs]
    rfl
  · rw [if_neg h, if_neg h, kt_bs, if_neg (show ¬ (1 : Int32) = 0 by decide)]
    exact hall _
