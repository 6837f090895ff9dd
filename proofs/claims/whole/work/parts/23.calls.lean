/-! The calls that tell, the power, and the challenge. -/
def kR_ret (n : Nat) (K M : Option (Int32 × kt_S)) : Prop := ∃ r σ' τ', K = some (r, σ') ∧ M = some (r, τ') ∧ τ' 0 0 = 0 ∧ kR n σ' τ'
def kR_may (n : Nat) (T : Nat → Int32) (K : Option ((Nat ⊕ Int32) × kt_S)) (M : Option (Int32 × kt_S)) : Prop := (∃ r σ' τ', K = some (Sum.inr r, σ') ∧ M = some (r, τ') ∧ τ' 0 0 = 0 ∧ kR n σ' τ') ∨ ∃ e r σ' τ', K = some (Sum.inl e, σ') ∧ M = some (r, τ') ∧ τ' 0 0 = T e ∧ kR n σ' τ'
theorem kR_thr {n : Nat} {σ τ : kt_S} {v : Int32} (H : kR n σ τ) : kR n σ (kt_up τ 0 0 v) := by
  obtain ⟨a, b, c, d, e, f, g, i⟩ := H
  exact ⟨a, b, c, d, e, f, g, kR_par_congr (fun q hq => rfl) rfl rfl rfl rfl i⟩
theorem kn_sub {a b : Nat} (h : a ≤ b) : nI b - nI a = nI (b - a) := by
  have h1 : b = (b - a) + a := by omega
  rw [show nI b = nI (b - a) + nI a by rw [kn_add, ← h1]]
  exact Int32.add_sub_cancel _ _
theorem kn_geL {a b : Nat} (hb : b < 2147483648) (h : b ≤ a) : a < 2147483648 → ¬ nI a < nI b := fun ha => by rw [kn_lt ha hb]; omega
theorem kn_leR {a b : Nat} (hb : b < 2147483648) (h : a ≤ b) : nI a ≤ nI b := by rw [kn_le (by omega) hb]; omega
theorem kn_ne {x : Int32} {k : Nat} (hk : k < 2147483648) (h : ¬ x.toInt = (k : Int)) : ¬ x = nI k := by
  intro z
  rw [z, kn_toInt hk] at h
  exact h rfl
theorem kR_waiting {n : Nat} {σ τ : kt_S} (H : kR n σ τ) : kR_ret n (kp_K_waiting σ) (kp_M_waiting τ) := by
  have H' := kR_thr (v := 0) H
  obtain ⟨a, b, c, ⟨x, y, d1, d2, d3, d4, d5, d6⟩, e, f, g, i⟩ := H
  refine ⟨nI (y - x), σ, kt_up τ 0 0 0, ?_, ?_, rfl, H'⟩
  · show some (σ 12 2 - σ 12 1, σ) = _
    rw [d3, d4, kn_sub d1]
  · show some (τ 0 12, kt_up τ 0 0 0) = _
    rw [d5]
theorem kR_cell {n : Nat} {σ τ : kt_S} (H : kR n σ τ) (l1 l2 : Int32) : kR_ret n (kp_K_cell l1 l2 σ) (kp_M_cell l1 l2 τ) := by
  have H' := kR_thr (v := 0) H
  have a1 : τ 1 = σ 3 := H.1.1
  have key : ∃ v, kp_S_read l1 l2 σ = some (v, σ) ∧ kp_M_cell l1 l2 τ = some (v, kt_up τ 0 0 0) := by
    unfold kp_S_read kp_S_read_0 kp_S_read_34 kp_S_read_35 kp_M_cell kp_M_cell_0 kp_M_cell_24 kp_M_cell_39
    rw [a1]
    by_cases h1 : l1 < 0
    · exact ⟨0, if_pos h1, if_pos h1⟩
    obtain ⟨p, hp, rfl⟩ := kn_of h1
    rw [if_neg h1, if_neg h1]
    by_cases h2 : p < 7
    · rw [if_neg (ks_lt7 h2), if_neg (show ¬ (6 : Int32) < nI p from kn_geL (a := 6) (b := p) hp (by omega) (by omega))]
      by_cases h3 : l2 < 0
      · exact ⟨0, if_pos h3, if_pos h3⟩
      obtain ⟨q, hq, rfl⟩ := kn_of h3
      rw [if_neg h3, if_neg h3]
      by_cases h4 : q < 6
      · rw [if_neg (ks_lt6 h4), if_pos (show nI q ≤ (5 : Int32) from kn_leR (a := q) (b := 5) (by omega) (by omega)), ks_idx, km_idx]
        have h5 : ¬ (nI (6 * p + q) < 0 ∨ 42 ≤ (nI (6 * p + q)).toNatClampNeg) := kn_in (by omega) (by omega)
        rw [if_neg h5, if_neg h5]
        exact ⟨_, rfl, rfl⟩
      · exact ⟨0, if_pos (show nI 6 ≤ nI q by rw [kn_le (by omega) hq]; omega), if_neg (show ¬ nI q ≤ nI 5 by rw [kn_le hq (by omega)]; omega)⟩
    · exact ⟨0, if_pos (show nI 7 ≤ nI p by rw [kn_le (by omega) hp]; omega), if_pos (show nI 6 < nI p by rw [kn_lt (by omega) hp]; omega)⟩
  obtain ⟨v, k1, k2⟩ := key
  refine ⟨v, σ, kt_up τ 0 0 0, ?_, k2, rfl, H'⟩
  unfold kp_K_cell kp_K_cell_0
  rw [k1, kt_bs]
theorem kv_ite1 {x : Int32} (h : kR_bool x) {α : Type} {f : Int32 → α} : (if x = 0 then f 0 else f 1) = f x := by
  rcases h with h | h
  · rw [h, if_pos rfl]
  · rw [h, if_neg (by decide)]
theorem kR_look {n : Nat} {σ τ : kt_S} (H : kR n σ τ) (l1 : Int32) : kR_ret n (kp_K_look l1 σ) (kp_M_look l1 τ) := by
  have H' := kR_thr (v := 0) H
  have key : ∃ v, kp_K_look l1 σ = some (v, σ) ∧ kp_M_look l1 τ = some (v, kt_up τ 0 0 0) := by
    obtain ⟨⟨a1, a2, a3, a4, a5⟩, ⟨b1, b2, b3, b4, b5, b6, b7⟩, ⟨c1, c2, ⟨k, c3, c4, c5⟩, c6⟩, d, ⟨e1, e2, e3, x, y, e4, e5, e6, e7, e8, e9⟩, ⟨⟨k1, f1, f2, f3⟩, ⟨k2, f4, f5, f6⟩, ⟨k3, f7, f8, f9⟩, f10⟩, g, i⟩ := H
    unfold kp_K_look kp_K_look_0 kp_M_look kp_M_look_0 kp_K_look_67 kp_K_look_83 kp_M_look_139 kp_M_look_86
    by_cases h : l1.toInt < 0 ∨ 8 < l1.toInt
    · refine ⟨-1, if_pos h, ?_⟩
      by_cases h5 : (5 : Int32) ≤ l1
      · have h6 : 5 ≤ l1.toInt := by
          have := Int32.le_iff_toInt_le.mp h5
          exact this
        rw [if_pos h5, if_neg (show ¬ l1 = 5 from kn_ne (x := l1) (k := 5) (by omega) (by omega)), if_neg (show ¬ l1 = 6 from kn_ne (x := l1) (k := 6) (by omega) (by omega)), if_neg (show ¬ l1 = 7 from kn_ne (x := l1) (k := 7) (by omega) (by omega)), if_neg (show ¬ l1 = 8 from kn_ne (x := l1) (k := 8) (by omega) (by omega))]
      · have h6 : l1.toInt < 5 := by
          have h7 : ¬ (5 : Int32).toInt ≤ l1.toInt := fun z => h5 (Int32.le_iff_toInt_le.mpr z)
          have h8 : (5 : Int32).toInt = 5 := by decide
          omega
        rw [if_neg h5, if_neg (show ¬ l1 = 0 from kn_ne (x := l1) (k := 0) (by omega) (by omega)), if_neg (show ¬ l1 = 1 from kn_ne (x := l1) (k := 1) (by omega) (by omega)), if_neg (show ¬ l1 = 2 from kn_ne (x := l1) (k := 2) (by omega) (by omega)), if_neg (show ¬ l1 = 3 from kn_ne (x := l1) (k := 3) (by omega) (by omega)), if_neg (show ¬ l1 = 4 from kn_ne (x := l1) (k := 4) (by omega) (by omega))]
    · rw [if_neg h]
      have h0 : ¬ l1 < 0 := by
        rw [Int32.lt_iff_toInt_lt, Int32.toInt_zero]; omega
      obtain ⟨j, hj, rfl⟩ := kn_of h0
      have hi : ((nI j).toInt - 0).toNat = j := by rw [kn_toInt hj]; omega
      rw [kn_toInt hj] at h
      rw [hi]
      have hj' : j = 0 ∨ j = 1 ∨ j = 2 ∨ j = 3 ∨ j = 4 ∨ j = 5 ∨ j = 6 ∨ j = 7 ∨ j = 8 := by omega
      rcases hj' with rfl | rfl | rfl | rfl | rfl | rfl | rfl | rfl | rfl
      · refine ⟨σ 1 5, kv_ite1 (f := fun x => some (x, σ)) b2, ?_⟩
        rw [if_neg (by decide), if_pos (by decide), b1]
        exact kv_ite1 (f := fun x => some (x, kt_up τ 0 0 0)) b2
      · refine ⟨σ 1 6, kv_ite1 (f := fun x => some (x, σ)) b4, ?_⟩
        rw [if_neg (by decide), if_neg (by decide), if_pos (by decide), b3]
        exact kv_ite1 (f := fun x => some (x, kt_up τ 0 0 0)) b4
      · refine ⟨σ 1 7, rfl, ?_⟩
        rw [if_neg (by decide), if_neg (by decide), if_neg (by decide), if_pos (by decide), b5]
      · refine ⟨σ 1 8, rfl, ?_⟩
        rw [if_neg (by decide), if_neg (by decide), if_neg (by decide), if_neg (by decide), if_pos (by decide), b6]
      · refine ⟨nI (y - x), ?_, ?_⟩
        · show some (σ 1 10 - σ 1 9, σ) = _
          rw [e6, e7, kn_sub e4]
        · rw [if_neg (by decide), if_neg (by decide), if_neg (by decide), if_neg (by decide), if_neg (by decide), if_pos (by decide), e8]
      · refine ⟨σ 2 1, rfl, ?_⟩
        rw [if_pos (by decide), if_pos (by decide), a2]
      · refine ⟨nI k, ?_, ?_⟩
        · show some (σ 7 2 - σ 7 1, σ) = _
          rw [c4, c2, show (0 : Int32) = nI 0 from rfl, kn_sub (by omega)]
          rfl
        · rw [if_pos (by decide), if_neg (by decide), if_pos (by decide), c5]
      · refine ⟨nI k1, ?_, ?_⟩
        · show some (σ 1 13, σ) = _
          rw [f2]
        · rw [if_pos (by decide), if_neg (by decide), if_neg (by decide), if_pos (by decide), f3]
      · refine ⟨nI k3, ?_, ?_⟩
        · show some (σ 4 1, σ) = _
          rw [f8]
        · rw [if_pos (by decide), if_neg (by decide), if_neg (by decide), if_neg (by decide), if_pos (by decide), f9]
  obtain ⟨v, k1, k2⟩ := key
  exact ⟨v, σ, kt_up τ 0 0 0, k1, k2, rfl, H'⟩
/-! the power -/
theorem kv_cont_er {f : Nat → Int32} {n t : Nat} (h : kv_cont f n) : kv_cont (ks_er t f) n := by
  intro p hp h1 h2
  by_cases hpt : p = t
  · rw [kv_er0, if_pos hpt] at h1
    exact absurd rfl h1
  · have hs : ks_seal (ks_er t f) p = ks_seal f p := kv_seal_congr (fun k hk => by rw [kv_er (by omega), if_neg hpt])
    rw [hs, kv_er (by omega), if_neg hpt] at h2
    rw [kv_er0, if_neg hpt] at h1
    rw [kv_er0, if_neg hpt, kv_er (by omega), if_neg hpt, kv_er (by omega), if_neg hpt, kv_er (by omega), if_neg hpt]
    exact h p hp h1 h2
theorem kv_cont_look {f : Nat → Int32} {n : Nat} {w : Int32} (h : kv_cont f n) : ∀ m, kv_cont (kv_look m (f, w)).1 n := by
  intro m
  induction m with
  | zero => exact h
  | succ m ih =>
    show kv_cont (kv_step m (kv_look m (f, w))).1 n
    unfold kv_step
    split
    · exact kv_cont_er ih
    · exact ih
theorem kR_goOff {n : Nat} {σ τ : kt_S} (H : kR n σ τ) (hon : kv_off (σ 3) (2 * n)) : ∃ σ', kp_T_goOff σ = some σ' ∧ kR n σ' (km_off τ) := by
  obtain ⟨⟨a1, a2, a3, a4, a5, a6, a7⟩, b, ⟨c1, c2, c3, c4⟩, d, ⟨e1, e2, e3, e4⟩, f, g, i⟩ := H
  refine ⟨_, rfl, ⟨a1, a2, rfl, Or.inl rfl, a5, fun z => absurd (show (0 : Int32) = 1 from z) (by decide), fun _ => hon⟩, ⟨rfl, Or.inl rfl, rfl, Or.inl rfl, rfl, rfl, fun _ => ⟨rfl, rfl, rfl, rfl, rfl, rfl, rfl⟩⟩, ⟨c1, rfl, ⟨0, by omega, rfl, rfl⟩, c4⟩, ⟨0, 0, by omega, by omega, rfl, rfl, rfl, fun j hj => absurd hj (by omega), fun j h1 h2 => absurd h2 (by omega)⟩, ⟨e1, e2, e3, 0, 0, by omega, by omega, rfl, rfl, rfl, fun j hj => absurd hj (by omega)⟩, f, g, kR_par_congr (fun q hq => ?_) rfl rfl rfl rfl i⟩
  rw [kt_up_big (by omega) q hq, kt_up_big (by omega) q hq, kt_up_big (by omega) q hq, kt_up_big (by omega) q hq, kt_up_big (by omega) q hq, kt_up_big (by omega) q hq, kt_up_big (by omega) q hq, kt_up_big (by omega) q hq, kt_up_big (by omega) q hq, kt_up_big (by omega) q hq, kt_up_big (by omega) q hq]
theorem kR_power {n : Nat} {σ τ : kt_S} (H : kR n σ τ) (l1 : Int32) (hl : kR_bool l1) : kR_ret n (kp_K_power l1 σ) (kp_M_power l1 τ) := by
  have H0 := kR_thr (v := 0) H
  have b1 := H.2.1.1
  have b2 := H.2.1.2.1
  by_cases h : σ 1 5 = l1
  · refine ⟨0, σ, kt_up τ 0 0 0, if_pos h, if_pos (by rw [b1, h]), rfl, H0⟩
  have hM : ¬ l1 = τ 0 5 := by rw [b1]; exact fun z => h z.symm
  by_cases h0 : l1 = 0
  · have h5 : σ 1 5 = 1 := by
      rcases b2 with z | z
      · exact absurd (z.trans h0.symm) h
      · exact z
    obtain ⟨σ', k1, k2⟩ := kR_goOff H0 (Or.inl (H.1.2.2.2.2.2.1 h5))
    refine ⟨1, σ', km_off (kt_up τ 0 0 0), ?_, ?_, rfl, k2⟩
    · unfold kp_K_power kp_K_power_0 kp_K_power_34
      rw [if_neg h, if_pos h0, k1, kt_bs]
    · unfold kp_M_power kp_M_power_0 kp_M_power_30
      rw [if_neg hM, if_pos h0, km_off_eq, kt_bs]
  · have h5 : σ 1 5 = 0 := by
      rcases b2 with z | z
      · exact z
      · rcases hl with y | y
        · exact absurd y h0
        · exact absurd (z.trans y.symm) h
    obtain ⟨⟨a1, a2, a3, a4, a5, a6, a7⟩, ⟨c1, c2, c3, c4, c5, c6, c7⟩, ⟨d1, d2, d3, d4⟩, ⟨x, y, e1, e2, e3, e4, e5, e6, e7⟩, ⟨f1, f2, f3, u, v, f4, f5, f6, f7, f8, f9⟩, g, i, j⟩ := H
    obtain ⟨z1, z2, z3, z4, z5, z6, z7⟩ := c7 h5
    have hoff := a7 h5
    have hK : kp_S_lookThrough (kt_up σ 1 5 1) = some (ks_set (kt_up σ 1 5 1) ((kv_look 7 (σ 3, σ 2 1)).1, -1, (kv_look 7 (σ 3, σ 2 1)).2)) := by
      have e : kt_up σ 1 5 1 = ks_set (kt_up σ 1 5 1) (σ 3, -1, σ 2 1) := by
        have := ks_set_T (kt_up σ 1 5 1)
        rw [show ks_T (kt_up σ 1 5 1) = (σ 3, σ 2 2, σ 2 1) from rfl, z4] at this
        exact this.symm
      have := ks_lookThrough (kt_up σ 1 5 1) (σ 3) (σ 2 1)
      rw [← e] at this
      exact this
    let t := kt_up (kt_up (kt_up (kt_up (kt_up (kt_up (kt_up (kt_up τ 0 0 0) 0 5 1) 0 6 0) 0 7 0) 0 8 0) 0 10 0) 0 12 0) 0 13 0
    have hL : kp_M_comeUp_11 100 0 t = some (km_set t ((kv_look 7 (σ 3, σ 2 1)).1, t 0 3, (kv_look 7 (σ 3, σ 2 1)).2)) := by
      have e := km_set_T t
      have := km_c11_all t (t 1) (t 0 3) (t 0 2)
      rw [e, show t 1 = σ 3 from a1, show t 0 2 = σ 2 1 from a2, kv_look_eq (kv_off_ok hoff) 7 (Nat.le_refl 7)] at this
      exact this
    have hc := kv_cont_look (w := σ 2 1) a5 7
    have ho := kv_look_on (w := σ 2 1) hoff
    revert hK hL hc ho
    generalize kv_look 7 (σ 3, σ 2 1) = Z
    intro hK hL hc ho
    refine ⟨1, ks_set (kt_up σ 1 5 1) (Z.1, -1, Z.2), km_set t (Z.1, t 0 3, Z.2), ?_, ?_, rfl, ?_⟩
    · unfold kp_K_power kp_K_power_0 kp_K_power_34 kp_T_comeOn kp_T_comeOn_0
      rw [if_neg h, if_neg h0, hK, kt_bs, kt_bs]
    · unfold kp_M_power kp_M_power_0 kp_M_power_30 kp_M_comeUp kp_M_comeUp_0
      rw [if_neg hM, if_neg h0, show kp_M_empty (kt_up (kt_up τ 0 0 0) 0 5 1) = some t from rfl, kt_bs, hL, kt_bs]
    · refine ⟨⟨rfl, rfl, a3.trans z4, Or.inl rfl, hc, fun _ => ho, fun z => absurd (show (1 : Int32) = 0 from z) (by decide)⟩, ⟨rfl, Or.inr rfl, z1.symm, Or.inl z1, z2.symm, z3.symm, fun z => absurd (show (1 : Int32) = 0 from z) (by decide)⟩, ⟨d1, d2, ⟨0, by omega, z5, rfl⟩, d4⟩, ⟨x, x, by omega, by omega, e3, z6.symm.trans e3, ?_, fun k hk => absurd hk (by omega), fun k h1 h2 => absurd h2 (by omega)⟩, ⟨f1, f2, f3, u, u, by omega, by omega, f6, z7.symm.trans f6, ?_, fun k hk => absurd hk (by omega)⟩, g, i, kR_par_congr (fun q hq => ?_) rfl rfl rfl rfl j⟩
      · rw [Nat.sub_self]; rfl
      · rw [Nat.sub_self]; rfl
      · rw [ks_set_ne _ _ (by omega) (by omega), kt_up_big (by omega) q hq]
/-! what was signed -/
theorem kG_has {n : Nat} {σ τ : kt_S} (H : kR n σ τ) (hn : n < 10000) (l1 : Int32) : (kp_G_has l1 σ = some (0, σ) ∧ kp_M_isSignature l1 τ = some (0, τ)) ∨ ∃ k i : Nat, k ≤ n ∧ σ 4 1 = nI k ∧ l1 = nI i ∧ 1 ≤ i ∧ i ≤ k ∧ k < i + 40 ∧ kp_G_has l1 σ = some (1, σ) ∧ kp_M_isSignature l1 τ = some (1, τ) := by
  obtain ⟨a, b, c, d, e, ⟨f1, f2, ⟨k, f3, f4, f5⟩, f6⟩, g, i⟩ := H
  unfold kp_G_has kp_G_has_0 kp_G_has_27 kp_G_has_28 kp_M_isSignature kp_M_isSignature_0 kp_M_isSignature_28 kp_M_isSignature_29
  rw [f4, f5]
  have t01 : (0 : Int32) = 0 ∨ (0 : Int32) = 1 := Or.inl rfl
  have t11 : (1 : Int32) = 0 ∨ (1 : Int32) = 1 := Or.inr rfl
  rw [if_pos t01, if_pos t11]
  by_cases h0 : l1 ≤ 0
  · refine Or.inl ⟨if_pos h0, if_pos ?_⟩
    rw [Int32.le_iff_toInt_le] at h0
    rw [Int32.lt_iff_toInt_lt, show (1 : Int32).toInt = 1 by decide]
    rw [show (0 : Int32).toInt = 0 by decide] at h0
    omega
  have h1 : ¬ l1 < 0 := by
    rw [Int32.le_iff_toInt_le] at h0
    rw [Int32.lt_iff_toInt_lt]
    omega
  obtain ⟨j, hj, rfl⟩ := kn_of h1
  have hj1 : 1 ≤ j := by
    rcases Nat.eq_zero_or_pos j with z | z
    · rw [z] at h0
      exact absurd (by decide) h0
    · exact z
  have h2 : ¬ nI j < (1 : Int32) := fun z => by
    have := (kn_lt hj (b := 1) (by omega)).mp z
    omega
  rw [if_neg h0, if_neg h2]
  by_cases h3 : nI k < nI j
  · exact Or.inl ⟨if_pos h3, if_pos h3⟩
  rw [if_neg h3, if_neg h3]
  rw [kn_lt (by omega) hj] at h3
  have h4 : (nI k - 40).toInt = (k : Int) - 40 := pk_sub_toInt (a := k) (b := 40) (by omega) (by omega)
  by_cases h5 : nI j ≤ nI k - 40
  · exact Or.inl ⟨if_pos h5, if_pos h5⟩
  · refine Or.inr ⟨k, j, f3, rfl, rfl, hj1, by omega, ?_, if_neg h5, if_neg h5⟩
    rw [Int32.le_iff_toInt_le, h4, kn_toInt hj] at h5
    omega
theorem kR_signature {n : Nat} {σ τ : kt_S} (H : kR n σ τ) (hn : n < 10000) (l1 l2 : Int32) : kR_may n (fun _ => 1) (kp_K_signature l1 l2 σ) (kp_M_signature l1 l2 τ) := by
  have h11 : ¬ (1 : Int32) ≤ 0 := by decide
  have h10 : ¬ (1 : Int32) = 0 := by decide
  have h00 : (0 : Int32) ≤ 0 := by decide
  have T : ∀ v, kR n σ (kt_up τ 0 0 v) := fun v => kR_thr H
  unfold kp_K_signature kp_K_signature_0 kp_K_signature_25 kp_M_signature kp_M_signature_0 kp_M_signature_20 kp_M_signature_25 kp_M_signature_57
  rcases kG_has H hn l1 with ⟨k1, k2⟩ | ⟨k, i, e1, e2, rfl, e3, e4, e5, k1, k2⟩
  · rw [k1, k2, kt_bs, kt_bs]
    dsimp only
    rw [if_pos rfl, if_pos rfl, if_neg h11]
    exact Or.inr ⟨2, 0, σ, _, rfl, rfl, rfl, T 1⟩
  · rw [k1, k2, kt_bs, kt_bs]
    dsimp only
    rw [if_neg h10, if_neg h10, if_neg h11, if_pos h00]
    by_cases h1 : l2 < 1
    · rw [if_pos h1, if_pos h1]
      exact Or.inr ⟨2, 0, σ, _, rfl, rfl, rfl, T 1⟩
    rw [if_neg h1, if_neg h1]
    by_cases h2 : l2 ≤ 6
    · rw [if_pos h2, if_pos h2]
      have h3 : ¬ l2 < 0 := by
        rw [Int32.lt_iff_toInt_lt, show (1 : Int32).toInt = 1 by decide] at h1
        rw [Int32.lt_iff_toInt_lt, show (0 : Int32).toInt = 0 by decide]
        omega
      obtain ⟨w, hw, rfl⟩ := kn_of h3
      have h4 : w ≤ 6 := (kn_le hw (b := 6) (by omega)).mp h2
      have h5 : 1 ≤ w := by
        by_cases z : w < 1
        · exact absurd ((kn_lt hw (b := 1) (by omega)).mpr z) h1
        · omega
      have m1 : nI i - nI i / 40 * 40 = nI (i % 40) := pk_rem (a := i) (d := 40) (by omega) (by omega) (by omega)
      have p1 : nI i - 1 = nI (i - 1) := kn_sub (a := 1) e3
      have m2 : nI (i - 1) - nI (i - 1) / 40 * 40 = nI ((i - 1) % 40) := pk_rem (a := i - 1) (d := 40) (by omega) (by omega) (by omega)
      have q1 : nI (i % 40) * 6 + nI w - 1 = nI (6 * (i % 40) + (w - 1)) := by
        rw [ks_idx]
        have := kn_sub (a := 1) (b := 6 * (i % 40) + w) (by omega)
        rw [show 6 * (i % 40) + w - 1 = 6 * (i % 40) + (w - 1) by omega] at this
        exact this
      have q2 : (6 : Int32) * nI ((i - 1) % 40) + nI w - 1 = nI (6 * ((i - 1) % 40) + (w - 1)) := by
        rw [km_idx]
        have := kn_sub (a := 1) (b := 6 * ((i - 1) % 40) + w) (by omega)
        rw [show 6 * ((i - 1) % 40) + w - 1 = 6 * ((i - 1) % 40) + (w - 1) by omega] at this
        exact this
      have hb1 : ¬ (nI (6 * (i % 40) + (w - 1)) < 0 ∨ 240 ≤ (nI (6 * (i % 40) + (w - 1))).toNatClampNeg) := kn_in (by omega) (by omega)
      have hb2 : ¬ (nI (6 * ((i - 1) % 40) + (w - 1)) < 0 ∨ 240 ≤ (nI (6 * ((i - 1) % 40) + (w - 1))).toNatClampNeg) := kn_in (by omega) (by omega)
      have hv : σ 5 (6 * (i % 40) + (w - 1)) = τ 5 (6 * ((i - 1) % 40) + (w - 1)) := by
        have := H.2.2.2.2.2.2.1.1 ((i - 1) % 40) (w - 1) (by omega) (by omega)
        rw [show ((i - 1) % 40 + 1) % 40 = i % 40 by omega] at this
        exact this
      refine Or.inl ⟨σ 5 (6 * (i % 40) + (w - 1)), σ, kt_up τ 0 0 0, ?_, ?_, rfl, T 0⟩
      · unfold kp_G_field kp_G_field_0 kp_G_field_24 kp_G_field_49
        rw [k1, kt_bs]
        dsimp only
        rw [if_neg h10, if_neg h1, if_neg (show ¬ (6 : Int32) < nI w from kn_geL (a := 6) (b := w) hw (by omega) (by omega)), if_neg h10, m1, q1, if_neg hb1, kt_bs, kn_cl (by omega)]
      · rw [p1, m2, q2, if_neg hb2, kn_cl (by omega), hv]
    · rw [if_neg h2, if_neg h2]
      exact Or.inr ⟨2, 0, σ, _, rfl, rfl, rfl, T 1⟩
