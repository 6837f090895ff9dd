/-! ASSERT: which credentials may sign, as the class and as the reference find them. -/
def kA_cr (g : Nat → Int32) (a : Int32) (x : Nat) : Bool := !decide (ks_pg g (nI x) = -1) && decide (g (6 * (ks_pg g (nI x)).toNatClampNeg + 1) = a)
def kA_li (σ : kt_S) (x y : Nat) : Bool := decide (((if σ 9 x = -1 then (0 : Int32) else σ 10 x) >>> (nI y &&& 31)) &&& 1 = 1)
def kA_Q (σ : kt_S) (a : Int32) (x : Nat) : Bool := kA_cr (σ 3) a x && (decide (σ 9 3 = -1) || kA_li σ 3 x)
theorem kA_listsE {x y : Nat} (hx : x ≤ 8) (σ : kt_S) : kp_R_lists (nI x) (nI y) σ = some (kb_i (kA_li σ x y), σ) := by
  have e : kp_R_numberOf (nI x) σ = some (if σ 9 x = -1 then (0 : Int32) else σ 10 x, σ) := by
    unfold kp_R_numberOf kp_R_numberOf_0 kp_R_numberOf_18
    rw [kR_hasE hx]
    by_cases z : σ 9 x = -1
    · rw [if_pos z, if_pos z, kt_bs]
      dsimp only
      rw [if_pos rfl]
    · rw [if_neg z, if_neg z, kt_bs]
      dsimp only
      rw [if_neg ki_10, if_neg (kn_in (by omega) (by omega)), kn_cl (by omega)]
  unfold kp_R_lists kp_R_lists_0 kp_R_lists_18 kA_li
  rw [e, kt_bs]
  dsimp only
  rw [if_pos ki_b0, if_pos ki_b1]
  by_cases z : ((if σ 9 x = -1 then (0 : Int32) else σ 10 x) >>> (nI y &&& 31)) &&& 1 = 1
  · rw [if_pos z, decide_eq_true z]
    rfl
  · rw [if_neg z, decide_eq_false z]
    rfl
theorem kA_credE {m : Nat} (h1 : 1 ≤ m) (hm : m < 7) (a : Int32) (σ : kt_S) : kp_T_isCredential (nI m) a σ = some (kb_i (kA_cr (σ 3) a m), σ) := by
  have h0 : ¬ nI m = 0 := fun z => by
    have := (kn_eqL 0 (by omega) (by omega)).mp z
    omega
  unfold kp_T_isCredential kp_T_isCredential_0 kp_T_isCredential_34 kp_T_isCredential_35 kA_cr
  rw [ks_pageOf', kt_bs]
  dsimp only
  rw [if_neg h0]
  rcases ks_old_cases (σ 3) (nI m) with ⟨q, q1, q2, _⟩ | ⟨q2, _⟩
  · have r1 : kp_S_read (nI q) 1 σ = some (σ 3 (6 * q + 1), σ) := ks_read q 1 q1 (by omega) σ
    rw [q2, if_neg (kn_pn q1), r1, kt_bs, decide_eq_false (kv_m1 (by omega)), kn_cl (by omega)]
    dsimp only
    rw [if_pos ki_b0, if_pos ki_b1]
    by_cases z : σ 3 (6 * q + 1) = a
    · rw [if_pos z, decide_eq_true z]
      rfl
    · rw [if_neg z, decide_eq_false z]
      rfl
  · rw [q2, if_pos ks_neg1, if_pos ki_b0, decide_eq_true rfl]
    rfl
theorem kA_cred0 (a : Int32) (σ : kt_S) : kp_T_isCredential (nI 0) a σ = some (0, σ) := by
  unfold kp_T_isCredential kp_T_isCredential_0 kp_T_isCredential_34 kp_T_isCredential_35
  rw [ks_pageOf', kt_bs]
  dsimp only
  rw [if_pos (show nI 0 = 0 from rfl), if_pos ki_b0]
theorem kA_Qp {σ : kt_S} {a : Int32} {x : Nat} (h : kA_Q σ a x = true) : ¬ ks_pg (σ 3) (nI x) = -1 := fun z => by
  unfold kA_Q kA_cr at h
  rw [z, decide_eq_true rfl] at h
  exact absurd h (by simp)
theorem kA_class {σ : kt_S} {Bv : Nat} (hon : kv_on (σ 3) Bv) (a h3 : Int32) (hh : h3 = if σ 9 3 = -1 then 0 else 1) : ∀ N c it f l (s : kt_S) (r : Nat → Nat), kA_N (σ 3) l ≤ N → c + N ≤ 6 → it + N ≤ 6 → N < f → (∀ q, ¬ q = 14 → s q = σ q) → kA_ar (s 14) r c → kA_so (kA_L (σ 3)) r c → (∀ x, (∃ j, j < c ∧ r j = x) ↔ (1 ≤ x ∧ x ≤ 6 ∧ kA_Q σ a x = true ∧ l ≤ kA_L (σ 3) x)) → (l = 0 ∨ ∃ x0, x0 < 7 ∧ ¬ ks_pg (σ 3) (nI x0) = -1 ∧ l = kA_L (σ 3) x0 + 1) →
    ∃ c' s' r', kp_T_findCredentials_25 f a h3 (nI c) (kA_lb l) (nI it) s = some (nI c', s') ∧ c' ≤ 6 ∧ (∀ q, ¬ q = 14 → s' q = σ q) ∧ kA_ar (s' 14) r' c' ∧ kA_so (kA_L (σ 3)) r' c' ∧ ∀ x, (∃ j, j < c' ∧ r' j = x) ↔ (1 ≤ x ∧ x ≤ 6 ∧ kA_Q σ a x = true) := by
  have hB := hon.1.1
  intro N
  induction N with
  | zero =>
    intro c it f l s r hN hc hit hf hs har hso hmem hl
    obtain ⟨f, rfl⟩ := Nat.exists_eq_add_one_of_ne_zero (show ¬ f = 0 by omega)
    rcases hl with rfl | ⟨x0, x1, x2, rfl⟩
    · refine ⟨c, s, r, ?_, by omega, hs, har, hso, fun x => (hmem x).trans ⟨fun z => ⟨z.1, z.2.1, z.2.2.1⟩, fun z => ⟨z.1, z.2.1, z.2.2, Nat.zero_le _⟩⟩⟩
      show kp_T_findCredentials_25b (kp_T_findCredentials_25 f) _ _ _ _ _ _ = _
      unfold kp_T_findCredentials_25b kp_T_findCredentials_106
      rw [if_neg (ks_lt7 (by omega)), if_pos (show kA_lb 0 = -1 from rfl)]
    · have := kA_N_lt hon x1 x2 (Nat.le_refl _)
      omega
  | succ N ih =>
    intro c it f l s r hN hc hit hf hs har hso hmem hl
    obtain ⟨f, rfl⟩ := Nat.exists_eq_add_one_of_ne_zero (show ¬ f = 0 by omega)
    rcases hl with rfl | ⟨x0, x1, x2, rfl⟩
    · refine ⟨c, s, r, ?_, by omega, hs, har, hso, fun x => (hmem x).trans ⟨fun z => ⟨z.1, z.2.1, z.2.2.1⟩, fun z => ⟨z.1, z.2.1, z.2.2, Nat.zero_le _⟩⟩⟩
      show kp_T_findCredentials_25b (kp_T_findCredentials_25 f) _ _ _ _ _ _ = _
      unfold kp_T_findCredentials_25b kp_T_findCredentials_106
      rw [if_neg (ks_lt7 (by omega)), if_pos (show kA_lb 0 = -1 from rfl)]
    obtain ⟨p, sr, p1, p2, p3, p4, p5, p6⟩ := kA_pr hon x1 x2
    obtain ⟨l', b1, b2, b3, b4⟩ := kA_below (v := kA_L (σ 3) x0) hon (by omega)
    have hN' : kA_N (σ 3) l' + 1 ≤ kA_N (σ 3) (kA_L (σ 3) x0 + 1) := kA_N_lt hon x1 x2 b2
    have hs3 : s 3 = σ 3 := hs 3 (by omega)
    have hlb : kp_S_labelBelow (nI (kA_L (σ 3) x0)) s = some (kA_lb l', s) := by rw [ks_labelBelow, hs3, b1]
    have hnm : nI (kA_L (σ 3) x0) - nI (kA_L (σ 3) x0) / 16 * 16 = nI x0 := by
      rw [p6]
      exact kv_nm x1 (by omega)
    have hne : ¬ nI (kA_L (σ 3) x0) = -1 := kv_m1 (by omega)
    -- which names are at or above the next label
    have hup : ∀ x, x < 7 → ¬ ks_pg (σ 3) (nI x) = -1 → (l' ≤ kA_L (σ 3) x ↔ kA_L (σ 3) x0 + 1 ≤ kA_L (σ 3) x ∨ x = x0) := fun x hx px => by
      constructor
      · intro h
        by_cases u : kA_L (σ 3) x0 + 1 ≤ kA_L (σ 3) x
        · exact Or.inl u
        · by_cases v : kA_L (σ 3) x < kA_L (σ 3) x0
          · have := b4 x hx px v
            omega
          · exact Or.inr (kA_inj hon hx x1 px x2 (by rw [show kA_L (σ 3) x = kA_L (σ 3) x0 by omega]))
      · rintro (h | rfl)
        · omega
        · exact b2
    have hskip : (kA_Q σ a x0 = true → x0 = 0) → ∀ x, (∃ j, j < c ∧ r j = x) ↔ (1 ≤ x ∧ x ≤ 6 ∧ kA_Q σ a x = true ∧ l' ≤ kA_L (σ 3) x) := fun hQ x => by
      rw [hmem x]
      constructor
      · rintro ⟨z1, z2, z3, z4⟩
        exact ⟨z1, z2, z3, by omega⟩
      · rintro ⟨z1, z2, z3, z4⟩
        rcases (hup x (by omega) (kA_Qp z3)).mp z4 with u | u
        · exact ⟨z1, z2, z3, u⟩
        · rw [u] at z3
          have := hQ z3
          omega
    have hl' : l' = 0 ∨ ∃ x, x < 7 ∧ ¬ ks_pg (σ 3) (nI x) = -1 ∧ l' = kA_L (σ 3) x + 1 := b3
    show ∃ c' s' r', kp_T_findCredentials_25b (kp_T_findCredentials_25 f) a h3 (nI c) (nI (kA_L (σ 3) x0)) (nI it) s = some (nI c', s') ∧ _
    unfold kp_T_findCredentials_25b kp_T_findCredentials_78 kp_T_findCredentials_89
    rw [if_neg (ks_lt7 (by omega)), if_neg hne, if_neg (ks_lt6 (by omega)), hnm, kn_succ it]
    by_cases hx0 : x0 = 0
    · rw [hx0, kA_cred0, kt_bs]
      dsimp only
      rw [if_pos rfl, ← hx0, hlb, kt_bs]
      exact ih c (it + 1) f l' s r (by omega) (by omega) (by omega) (by omega) hs har hso (hskip (fun _ => hx0)) hl'
    rw [kA_credE (by omega) x1, kt_bs, hs3]
    dsimp only
    cases hcr : kA_cr (σ 3) a x0 with
    | false =>
      rw [if_pos (show kb_i false = 0 from rfl), hlb, kt_bs]
      exact ih c (it + 1) f l' s r (by omega) (by omega) (by omega) (by omega) hs har hso (hskip (fun z => by
        unfold kA_Q at z
        rw [hcr] at z
        exact absurd z (by simp))) hl'
    | true =>
      rw [if_neg (show ¬ kb_i true = 0 from ki_10)]
      have hli : kp_R_lists 3 (nI x0) s = some (kb_i (kA_li σ 3 x0), s) := by
        have := kA_listsE (x := 3) (y := x0) (by omega) s
        unfold kA_li at this ⊢
        rw [hs 9 (by omega), hs 10 (by omega)] at this
        exact this
      have hadd : kA_Q σ a x0 = true → ∃ c' s' r', (if nI c < 0 ∨ 6 ≤ (nI c).toNatClampNeg then none else Option.bind (kp_S_labelBelow (nI (kA_L (σ 3) x0)) (kt_up s 14 (nI c).toNatClampNeg (nI x0))) fun x5 => kp_T_findCredentials_25 f a h3 (nI c + 1) x5.1 (nI (it + 1)) x5.2) = some (nI c', s') ∧ c' ≤ 6 ∧ (∀ q, ¬ q = 14 → s' q = σ q) ∧ kA_ar (s' 14) r' c' ∧ kA_so (kA_L (σ 3)) r' c' ∧ ∀ x, (∃ j, j < c' ∧ r' j = x) ↔ (1 ≤ x ∧ x ≤ 6 ∧ kA_Q σ a x = true) := fun hQ => by
        have hlb' : kp_S_labelBelow (nI (kA_L (σ 3) x0)) (kt_up s 14 c (nI x0)) = some (kA_lb l', kt_up s 14 c (nI x0)) := by
          rw [ks_labelBelow, show kt_up s 14 c (nI x0) 3 = s 3 from rfl, hs3, b1]
        rw [if_neg (kn_in (by omega) (by omega)), kn_cl (by omega), hlb', kt_bs, kn_succ]
        dsimp only
        refine ih (c + 1) (it + 1) f l' (kt_up s 14 c (nI x0)) (fun j => if j = c then x0 else r j) (by omega) (by omega) (by omega) (by omega) (fun q hq => ?_) (fun j hj => ?_) (fun u v huv hv => ?_) (fun x => ?_) hl'
        · rw [kt_up_ne _ _ _ hq, hs q hq]
        · show upd (s 14) c (nI x0) j = nI (if j = c then x0 else r j)
          unfold upd
          by_cases z : j = c
          · rw [if_pos z, if_pos z]
          · rw [if_neg z, if_neg z, har j (by omega)]
        · show kA_L (σ 3) (if v = c then x0 else r v) < kA_L (σ 3) (if u = c then x0 else r u)
          rw [if_neg (show ¬ u = c by omega)]
          by_cases z : v = c
          · rw [if_pos z]
            have := ((hmem (r u)).mp ⟨u, by omega, rfl⟩).2.2.2
            omega
          · rw [if_neg z]
            exact hso u v huv (by omega)
        · constructor
          · rintro ⟨j, hj, rfl⟩
            by_cases z : j = c
            · rw [if_pos z]
              exact ⟨by omega, by omega, hQ, b2⟩
            · rw [if_neg z]
              obtain ⟨z1, z2, z3, z4⟩ := (hmem (r j)).mp ⟨j, by omega, rfl⟩
              exact ⟨z1, z2, z3, by omega⟩
          · rintro ⟨z1, z2, z3, z4⟩
            rcases (hup x (by omega) (kA_Qp z3)).mp z4 with u | u
            · obtain ⟨j, j1, j2⟩ := (hmem x).mpr ⟨z1, z2, z3, u⟩
              exact ⟨j, by omega, by rw [if_neg (show ¬ j = c by omega)]; exact j2⟩
            · exact ⟨c, by omega, by rw [if_pos rfl]; exact u.symm⟩
      by_cases h9 : σ 9 3 = -1
      · rw [hh, if_pos h9]
        rw [hh, if_pos h9] at hadd
        rw [if_pos rfl]
        refine hadd ?_
        unfold kA_Q
        rw [hcr, decide_eq_true h9]
        rfl
      · have hh1 : ¬ h3 = 0 := by
          rw [hh, if_neg h9]
          exact ki_10
        rw [if_neg hh1, hli, kt_bs]
        dsimp only
        cases hl3 : kA_li σ 3 x0 with
        | false =>
          rw [if_pos (show kb_i false = 0 from rfl), hlb, kt_bs]
          exact ih c (it + 1) f l' s r (by omega) (by omega) (by omega) (by omega) hs har hso (hskip (fun z => by
            unfold kA_Q at z
            rw [hcr, hl3, decide_eq_false h9] at z
            exact absurd z (by simp))) hl'
        | true =>
          rw [if_neg (show ¬ kb_i true = 0 from ki_10)]
          refine hadd ?_
          unfold kA_Q
          rw [hcr, hl3, decide_eq_false h9]
          rfl
/-! the reference -/
theorem kU_row4 {n B i j : Nat} {v : Int32} {σ τ : kt_S} (H : kU n B i σ τ) (hnx : σ 1 9 = σ 1 10) : kU n B i σ (kt_up τ 4 j v) := by
  refine kU_nx H (fun _ _ _ => rfl) (fun _ _ _ _ _ => rfl) (fun q h0 h4 => kt_up_ne _ _ _ h4) (fun f _ _ _ _ => rfl) ?_
  obtain ⟨n1, n2, n3, x, y, n4, n5, n6, n7, n8, n9⟩ := H.2.2.2.2.1
  have hxy : x = y := (kn_eq (by omega) (by omega)).mp (n6.symm.trans (hnx.trans n7))
  subst hxy
  exact ⟨n1, n2, n3, x, x, n4, n5, n6, n7, n8, fun j hj => absurd hj (by omega)⟩
theorem kA_ser {n B i x : Nat} {σ τ : kt_S} (H : kU n B i σ τ) (hx : x < 7) (px : ¬ ks_pg (σ 3) (nI x) = -1) : ∃ p s, p < 7 ∧ 1 ≤ s ∧ s ≤ B ∧ kp_M_page (nI x) τ = some (nI p, τ) ∧ kp_M_serialOf (nI p) τ = some (nI s, τ) ∧ kA_L (σ 3) x = x + 16 * s := by
  have hB := H.1.2.2.2.1.1.1
  obtain ⟨p, s, p1, p2, p3, p4, p5, p6⟩ := kA_pr H.1.2.2.2.1 hx px
  refine ⟨p, s, p1, p3, p4, ?_, ?_, p6⟩
  · rw [km_page, H.1.1, kv_page H.1.2.2.2.1.1, p2]
  · rw [km_serialOf p p1, H.1.1, p5, kv_shr hx (by omega)]
theorem kA_ins {k109 : Int32 → Int32 → Int32 → kt_S → Option (Int32 × kt_S)} {a : Int32} {n B i m cnt : Nat} {σ : kt_S} {r : Nat → Nat} (hnx : σ 1 9 = σ 1 10) (hm7 : m < 7) (pm : ¬ ks_pg (σ 3) (nI m) = -1) (hc : cnt ≤ 5) (hr : ∀ j, j < cnt → r j < m ∧ ¬ ks_pg (σ 3) (nI (r j)) = -1) : ∀ k f (τ : kt_S), k ≤ cnt → k < f → kU n B i σ τ → (∀ j, j < k → τ 4 j = nI (r j)) → (∀ j, k ≤ j → j < cnt → τ 4 (j + 1) = nI (r j)) → (∀ j, k ≤ j → j < cnt → kA_L (σ 3) (r j) < kA_L (σ 3) m) →
    ∃ k0 τ', k0 ≤ cnt ∧ kp_M_ask_153 k109 f a (nI cnt) (nI m) (nI k) τ = k109 a (nI (cnt + 1)) (nI (m + 1)) τ' ∧ (∀ q, ¬ q = 4 → τ' q = τ q) ∧ (∀ j, j < k0 → τ' 4 j = nI (r j)) ∧ τ' 4 k0 = nI m ∧ (∀ j, k0 ≤ j → j < cnt → τ' 4 (j + 1) = nI (r j)) ∧ (∀ j, k0 ≤ j → j < cnt → kA_L (σ 3) (r j) < kA_L (σ 3) m) ∧ (k0 = 0 ∨ kA_L (σ 3) m < kA_L (σ 3) (r (k0 - 1))) := by
  intro k
  induction k with
  | zero =>
    intro f τ hk hf H h1 h2 h3
    obtain ⟨f, rfl⟩ := Nat.exists_eq_add_one_of_ne_zero (show ¬ f = 0 by omega)
    refine ⟨0, kt_up τ 4 0 (nI m), by omega, ?_, fun q hq => kt_up_ne _ _ _ hq, fun j hj => absurd hj (by omega), rfl, fun j hj hj2 => ?_, h3, Or.inl rfl⟩
    · show kp_M_ask_153b k109 (kp_M_ask_153 k109 f) _ _ _ _ _ = _
      unfold kp_M_ask_153b kp_M_ask_209 kp_M_ask_220
      rw [if_pos (show nI 0 ≤ 0 by decide), if_neg (kn_in (by omega) (by omega)), kn_cl (by omega), kn_succ, kn_succ]
    · show upd (τ 4) 0 (nI m) (j + 1) = nI (r j)
      unfold upd
      rw [if_neg (by omega)]
      exact h2 j hj hj2
  | succ k ih =>
    intro f τ hk hf H h1 h2 h3
    obtain ⟨f, rfl⟩ := Nat.exists_eq_add_one_of_ne_zero (show ¬ f = 0 by omega)
    obtain ⟨hrm, hrp⟩ := hr k (by omega)
    obtain ⟨p, s, p1, p2, p3, p4, p5, p6⟩ := kA_ser H (show r k < 7 by omega) hrp
    obtain ⟨p', s', p1', p2', p3', p4', p5', p6'⟩ := kA_ser H hm7 pm
    have hB := H.1.2.2.2.1.1.1
    have hss : ¬ s = s' := fun z => by
      have := kA_inj H.1.2.2.2.1 (show r k < 7 by omega) hm7 hrp pm (by rw [p6, p6', z]; omega)
      omega
    have e : kp_M_ask_153 k109 (f + 1) a (nI cnt) (nI m) (nI (k + 1)) τ = kp_M_ask_153b k109 (kp_M_ask_153 k109 f) a (nI cnt) (nI m) (nI (k + 1)) τ := rfl
    rw [e]
    unfold kp_M_ask_153b kp_M_ask_209 kp_M_ask_220
    rw [if_neg (show ¬ nI (k + 1) ≤ 0 from fun z => by have := (kn_le (b := 0) (by omega) (by omega)).mp z; omega), show nI (k + 1) - 1 = nI k from kn_sub (a := 1) (by omega), if_neg (kn_in (by omega) (by omega)), kn_cl (show k < 2147483648 by omega), h1 k (by omega), p4, kt_bs]
    dsimp only
    rw [p5, kt_bs]
    dsimp only
    rw [p4', kt_bs]
    dsimp only
    rw [p5', kt_bs]
    dsimp only
    by_cases z : s' ≤ s
    · rw [if_pos (kn_leR (by omega) z), if_neg (kn_in (by omega) (by omega)), kn_cl (by omega), kn_succ, kn_succ]
      refine ⟨k + 1, kt_up τ 4 (k + 1) (nI m), hk, rfl, fun q hq => kt_up_ne _ _ _ hq, fun j hj => ?_, ?_, fun j hj hj2 => ?_, h3, Or.inr ?_⟩
      · show upd (τ 4) (k + 1) (nI m) j = nI (r j)
        unfold upd
        rw [if_neg (by omega)]
        exact h1 j hj
      · show upd (τ 4) (k + 1) (nI m) (k + 1) = nI m
        unfold upd
        rw [if_pos rfl]
      · show upd (τ 4) (k + 1) (nI m) (j + 1) = nI (r j)
        unfold upd
        rw [if_neg (by omega)]
        exact h2 j hj hj2
      · rw [Nat.add_sub_cancel, p6, p6']
        omega
    · rw [if_neg (show ¬ nI s' ≤ nI s from fun y => by have := (kn_le (by omega) (by omega)).mp y; omega), if_neg (show ¬ (nI k < 0 ∨ 6 ≤ k) from fun y => y.elim (kn_nn (by omega)) (by omega)), if_neg (kn_in (by omega) (by omega)), kn_cl (show k + 1 < 2147483648 by omega), kn_dec, h1 k (by omega)]
      obtain ⟨k0, τ', g1, g2, g3, g4, g5, g6, g7, g8⟩ := ih f (kt_up τ 4 (k + 1) (nI (r k))) (by omega) (by omega) (kU_row4 H hnx) (fun j hj => by
        show upd (τ 4) (k + 1) (nI (r k)) j = nI (r j)
        unfold upd
        rw [if_neg (by omega)]
        exact h1 j (by omega)) (fun j hj hj2 => by
        show upd (τ 4) (k + 1) (nI (r k)) (j + 1) = nI (r j)
        unfold upd
        by_cases y : j = k
        · rw [if_pos (by omega), y]
        · rw [if_neg (by omega)]
          exact h2 j (by omega) hj2) (fun j hj hj2 => by
        by_cases y : j = k
        · rw [y, p6, p6']
          omega
        · exact h3 j (by omega) hj2)
      exact ⟨k0, τ', g1, g2, fun q hq => (g3 q hq).trans (kt_up_ne _ _ _ hq), g4, g5, g6, g7, g8⟩
/-- what the reference does with the credentials it has found -/
noncomputable def kA_rest (l2 : Int32) (τ : kt_S) : Option (Int32 × kt_S) := if l2 = 0 then some (9, τ) else if τ 0 6 = 0 then some (7, τ) else Option.bind (kp_M_get 2 (kt_up (kt_up τ 0 6 0) 0 13 l2)) fun x12 => Option.bind (kp_M_there 6 (kt_up x12.2 0 15 x12.1)) fun x13 => if x13.1 = 0 then kp_M_ask_277 l2 0 x13.2 else kp_M_ask_277 l2 1 x13.2
theorem kA_ref {n Bv i k : Nat} {B : Nat → Nat} {σ : kt_S} {a : Int32} (hnx : σ 1 9 = σ 1 10) (h93 : σ 9 3 = -1 ∨ σ 9 3 = nI 4) : ∀ c m f cnt (τ : kt_S) (r : Nat → Nat), m + c = 7 → 1 ≤ m → c < f → cnt + 1 ≤ m → kU n Bv i σ τ → kRx B k σ τ → kA_ar (τ 4) r cnt → kA_so (kA_L (σ 3)) r cnt → (∀ x, (∃ j, j < cnt ∧ r j = x) ↔ (1 ≤ x ∧ x < m ∧ kA_Q σ a x = true)) →
    ∃ cnt' τ' r', kp_M_ask_109 f a (nI cnt) (nI m) τ = kA_rest (nI cnt') τ' ∧ cnt' ≤ 6 ∧ kU n Bv i σ τ' ∧ kRx B k σ τ' ∧ kA_ar (τ' 4) r' cnt' ∧ kA_so (kA_L (σ 3)) r' cnt' ∧ ∀ x, (∃ j, j < cnt' ∧ r' j = x) ↔ (1 ≤ x ∧ x < 7 ∧ kA_Q σ a x = true) := by
  intro c
  induction c with
  | zero =>
    intro m f cnt τ r hm h1 hf hcnt H hx har hso hmem
    obtain ⟨f, rfl⟩ := Nat.exists_eq_add_one_of_ne_zero (show ¬ f = 0 by omega)
    have hm7 : m = 7 := by omega
    subst hm7
    refine ⟨cnt, τ, r, ?_, by omega, H, hx, har, hso, hmem⟩
    show kp_M_ask_109b (kp_M_ask_109 f) _ _ _ _ = _
    unfold kp_M_ask_109b
    rw [if_pos (show (7 : Int32) ≤ nI 7 by decide)]
    rfl
  | succ c ih =>
    intro m f cnt τ r hm h1 hf hcnt H hx har hso hmem
    obtain ⟨f, rfl⟩ := Nat.exists_eq_add_one_of_ne_zero (show ¬ f = 0 by omega)
    have hskip : kA_Q σ a m = false → ∀ x, (∃ j, j < cnt ∧ r j = x) ↔ (1 ≤ x ∧ x < m + 1 ∧ kA_Q σ a x = true) := fun hQ x => by
      rw [hmem x]
      constructor
      · rintro ⟨z1, z2, z3⟩
        exact ⟨z1, by omega, z3⟩
      · rintro ⟨z1, z2, z3⟩
        refine ⟨z1, ?_, z3⟩
        by_cases u : x = m
        · rw [u, hQ] at z3
          exact absurd z3 (by decide)
        · omega
    have hgo : ∀ τ1 : kt_S, kU n Bv i σ τ1 → kRx B k σ τ1 → τ1 4 = τ 4 → kA_Q σ a m = true → ∃ cnt' τ' r', kp_M_ask_150 (kp_M_ask_109 f) a (nI cnt) (nI m) τ1 = kA_rest (nI cnt') τ' ∧ cnt' ≤ 6 ∧ kU n Bv i σ τ' ∧ kRx B k σ τ' ∧ kA_ar (τ' 4) r' cnt' ∧ kA_so (kA_L (σ 3)) r' cnt' ∧ ∀ x, (∃ j, j < cnt' ∧ r' j = x) ↔ (1 ≤ x ∧ x < 7 ∧ kA_Q σ a x = true) := fun τ1 H1 hx1 e4 hQ => by
      obtain ⟨k0, τ2, g1, g2, g3, g4, g5, g6, g7, g8⟩ := kA_ins (k109 := kp_M_ask_109 f) (a := a) (n := n) (B := Bv) (i := i) (m := m) (cnt := cnt) (r := r) hnx (by omega) (kA_Qp hQ) (by omega) (fun j hj => by
        obtain ⟨z1, z2, z3⟩ := (hmem (r j)).mp ⟨j, hj, rfl⟩
        exact ⟨z2, kA_Qp z3⟩) cnt 100 τ1 (Nat.le_refl _) (by omega) H1 (fun j hj => by rw [e4]; exact har j hj) (fun j hj hj2 => absurd hj2 (by omega)) (fun j hj hj2 => absurd hj2 (by omega))
      have H2 : kU n Bv i σ τ2 := by
        refine kU_nx H1 (fun _ _ _ => rfl) (fun _ _ _ _ _ => rfl) (fun q h0 h4 => g3 q h4) (fun f _ _ _ _ => by rw [g3 0 (by omega)]) ?_
        obtain ⟨n1, n2, n3, x, y, n4, n5, n6, n7, n8, n9⟩ := H1.2.2.2.2.1
        have hxy : x = y := (kn_eq (by omega) (by omega)).mp (n6.symm.trans (hnx.trans n7))
        subst hxy
        refine ⟨?_, ?_, n3, x, x, n4, n5, n6, n7, ?_, fun j hj => absurd hj (by omega)⟩
        · rw [g3 0 (by omega)]
          exact n1
        · rw [g3 0 (by omega)]
          exact n2
        · rw [g3 0 (by omega)]
          exact n8
      have hx2 : kRx B k σ τ2 := by
        obtain ⟨⟨P, K, w1, w2, w3⟩, v2, v3, v4, v5, v6⟩ := hx1
        refine ⟨⟨P, K, ?_, w2, ?_⟩, v2, ?_, v4, ?_, ?_⟩
        · rw [g3 0 (by omega)]
          exact w1
        · unfold kPr
          rw [g3 10 (by omega), g3 11 (by omega), g3 12 (by omega), g3 13 (by omega), g3 14 (by omega)]
          exact w3
        · rw [g3 2 (by omega)]
          exact v3
        · rw [g3 0 (by omega)]
          exact v5
        · rw [g3 0 (by omega)]
          exact v6
      unfold kp_M_ask_150
      rw [g2]
      refine ih (m + 1) f (cnt + 1) τ2 (fun j => if j < k0 then r j else if j = k0 then m else r (j - 1)) (by omega) (by omega) (by omega) (by omega) H2 hx2 (fun j hj => ?_) (fun u v huv hv => ?_) (fun x => ?_)
      · show τ2 4 j = nI (if j < k0 then r j else if j = k0 then m else r (j - 1))
        by_cases z : j < k0
        · rw [if_pos z]
          exact g4 j z
        · rw [if_neg z]
          by_cases y : j = k0
          · rw [if_pos y, y]
            exact g5
          · rw [if_neg y]
            have := g6 (j - 1) (by omega) (by omega)
            rw [show j - 1 + 1 = j by omega] at this
            exact this
      · show kA_L (σ 3) (if v < k0 then r v else if v = k0 then m else r (v - 1)) < kA_L (σ 3) (if u < k0 then r u else if u = k0 then m else r (u - 1))
        by_cases zv : v < k0
        · rw [if_pos zv, if_pos (show u < k0 by omega)]
          exact hso u v huv (by omega)
        · rw [if_neg zv]
          by_cases yv : v = k0
          · rw [if_pos yv, if_pos (show u < k0 by omega)]
            rcases g8 with w | w
            · omega
            · by_cases t : u = k0 - 1
              · rw [t]
                exact w
              · have := hso u (k0 - 1) (by omega) (by omega)
                omega
          · rw [if_neg yv]
            by_cases zu : u < k0
            · rw [if_pos zu]
              exact hso u (v - 1) (by omega) (by omega)
            · rw [if_neg zu]
              by_cases yu : u = k0
              · rw [if_pos yu]
                exact g7 (v - 1) (by omega) (by omega)
              · rw [if_neg yu]
                exact hso (u - 1) (v - 1) (by omega) (by omega)
      · constructor
        · rintro ⟨j, hj, rfl⟩
          by_cases z : j < k0
          · rw [if_pos z]
            obtain ⟨z1, z2, z3⟩ := (hmem (r j)).mp ⟨j, by omega, rfl⟩
            exact ⟨z1, by omega, z3⟩
          · rw [if_neg z]
            by_cases y : j = k0
            · rw [if_pos y]
              exact ⟨h1, by omega, hQ⟩
            · rw [if_neg y]
              obtain ⟨z1, z2, z3⟩ := (hmem (r (j - 1))).mp ⟨j - 1, by omega, rfl⟩
              exact ⟨z1, by omega, z3⟩
        · rintro ⟨z1, z2, z3⟩
          by_cases u : x = m
          · exact ⟨k0, by omega, by rw [if_neg (by omega), if_pos rfl]; exact u.symm⟩
          · obtain ⟨j, j1, j2⟩ := (hmem x).mpr ⟨z1, by omega, z3⟩
            by_cases z : j < k0
            · exact ⟨j, by omega, by rw [if_pos z]; exact j2⟩
            · exact ⟨j + 1, by omega, by rw [if_neg (by omega), if_neg (by omega), Nat.add_sub_cancel]; exact j2⟩
    have hnext : ∀ τ1 : kt_S, kU n Bv i σ τ1 → kRx B k σ τ1 → τ1 4 = τ 4 → kA_Q σ a m = false → ∃ cnt' τ' r', kp_M_ask_109 f a (nI cnt) (nI (m + 1)) τ1 = kA_rest (nI cnt') τ' ∧ cnt' ≤ 6 ∧ kU n Bv i σ τ' ∧ kRx B k σ τ' ∧ kA_ar (τ' 4) r' cnt' ∧ kA_so (kA_L (σ 3)) r' cnt' ∧ ∀ x, (∃ j, j < cnt' ∧ r' j = x) ↔ (1 ≤ x ∧ x < 7 ∧ kA_Q σ a x = true) := fun τ1 H1 hx1 e4 hQ => ih (m + 1) f cnt τ1 r (by omega) (by omega) (by omega) (by omega) H1 hx1 (fun j hj => by rw [e4]; exact har j hj) hso (hskip hQ)
    have e : kp_M_ask_109 (f + 1) a (nI cnt) (nI m) τ = kp_M_ask_109b (kp_M_ask_109 f) a (nI cnt) (nI m) τ := rfl
    rw [e]
    unfold kp_M_ask_109b kp_M_ask_220
    rw [if_neg (ks_lt7 (by omega)), kn_succ m]
    rcases kU_page H (nI m) with ⟨p, p1, p2, p3, p4, p5, p6, p7⟩ | ⟨p2, p3, p4⟩
    · have d1 : kp_M_data (nI m) 1 τ = some (σ 3 (6 * p + 1), τ) := (p7 1 (by omega)).2
      have hcr : kA_cr (σ 3) a m = decide (σ 3 (6 * p + 1) = a) := by
        unfold kA_cr
        rw [p4, decide_eq_false (kv_m1 (by omega)), kn_cl (by omega)]
        rfl
      rw [p3, kt_bs]
      dsimp only
      rw [if_neg (kn_pn p1), d1, kt_bs]
      dsimp only
      by_cases z : σ 3 (6 * p + 1) = a
      · rw [decide_eq_true z] at hcr
        rw [if_pos z]
        rcases kQ_key hx.1 (x := 3) (by omega) with y | y
        · have ht : kp_M_there 3 τ = some (1, τ) := by
            obtain ⟨_, _, _, _, w, _⟩ := y
            exact w
          have h9 : ¬ σ 9 3 = -1 := fun w => by
            obtain ⟨_, _, _, v, _⟩ := y
            rw [kR_hasE (by omega), if_pos w] at v
            first | exact (ki_o01 v).elim | exact (ki_o10 v).elim
          have h94 : σ 9 3 = nI 4 := by
            rcases h93 with w | w
            · exact absurd w h9
            · exact w
          obtain ⟨b, a', M', v', q1, q2⟩ := kQ_lists (x := 3) (y := m) hx.2.2.1 hx.2.2.2.2.1 hx.2.2.2.2.2 hx.2.2.2.1 (by omega) (by omega) y h94
          have hb : b = kA_li σ 3 m := by
            rw [kA_listsE (by omega)] at q1
            have := congrArg (fun o => (Option.map Prod.fst o)) q1
            have h2 : kb_i (kA_li σ 3 m) = kb_i b := Option.some.inj this
            cases b <;> cases hl : kA_li σ 3 m
            · rfl
            · rw [hl] at h2
              exact absurd h2 (by decide)
            · rw [hl] at h2
              exact absurd h2 (by decide)
            · rfl
          have q2' : kp_M_listed 3 (nI m) τ = some (kb_i b, kd τ a' M' v' 0) := q2
          have H1 : kU n Bv i σ (kd τ a' M' v' 0) := kU_kd H
          have hx1 : kRx B k σ (kd τ a' M' v' 0) := ⟨hx.1, hx.2.1, hx.2.2.1, hx.2.2.2.1, hx.2.2.2.2.1, rfl⟩
          have e4 : kd τ a' M' v' 0 4 = τ 4 := rfl
          rw [ht, kt_bs]
          dsimp only
          rw [if_neg ki_10, q2', kt_bs]
          dsimp only
          generalize kd τ a' M' v' 0 = τ1 at H1 hx1 e4
          cases b with
          | false =>
            rw [if_pos (show kb_i false = 0 from rfl)]
            refine hnext τ1 H1 hx1 e4 ?_
            unfold kA_Q
            rw [hcr, ← hb, decide_eq_false h9]
            rfl
          | true =>
            rw [if_neg (show ¬ kb_i true = 0 from ki_10)]
            refine hgo τ1 H1 hx1 e4 ?_
            unfold kA_Q
            rw [hcr, ← hb, decide_eq_false h9]
            rfl
        · have ht : kp_M_there 3 τ = some (0, τ) := y.2.2
          have h9 : σ 9 3 = -1 := by
            have v := y.2.1
            by_cases w : σ 9 3 = -1
            · exact w
            · rw [kR_hasE (by omega), if_neg w] at v
              first | exact (ki_o01 v).elim | exact (ki_o10 v).elim
          rw [ht, kt_bs]
          dsimp only
          rw [if_pos rfl]
          refine hgo τ H hx rfl ?_
          unfold kA_Q
          rw [hcr, decide_eq_true h9]
          rfl
      · rw [if_neg z]
        refine hnext τ H hx rfl ?_
        unfold kA_Q
        rw [hcr, decide_eq_false z]
        rfl
    · rw [p3, kt_bs]
      dsimp only
      rw [if_pos ks_neg1]
      refine hnext τ H hx rfl ?_
      unfold kA_Q kA_cr
      rw [p4, decide_eq_true rfl]
      rfl
