/-! A party's judgement, and the offer. -/
theorem kP_put3 {f : Nat → Int32} {b c k : Nat} {x y z : Int32} : upd (upd (upd f (b + 3 * c) x) (b + 3 * c + 1) y) (b + 3 * c + 2) z (b + 3 * k) = (if k = c then x else f (b + 3 * k)) ∧ upd (upd (upd f (b + 3 * c) x) (b + 3 * c + 1) y) (b + 3 * c + 2) z (b + 3 * k + 1) = (if k = c then y else f (b + 3 * k + 1)) ∧ upd (upd (upd f (b + 3 * c) x) (b + 3 * c + 1) y) (b + 3 * c + 2) z (b + 3 * k + 2) = (if k = c then z else f (b + 3 * k + 2)) := by
  unfold upd
  by_cases h : k = c
  · subst h
    refine ⟨?_, ?_, ?_⟩
    · rw [if_neg (by omega), if_neg (by omega), if_pos rfl, if_pos rfl]
    · rw [if_neg (by omega), if_pos rfl, if_pos rfl]
    · rw [if_pos rfl, if_pos rfl]
  · refine ⟨?_, ?_, ?_⟩
    · rw [if_neg (by omega), if_neg (by omega), if_neg (by omega), if_neg h]
    · rw [if_neg (by omega), if_neg (by omega), if_neg (by omega), if_neg h]
    · rw [if_neg (by omega), if_neg (by omega), if_neg (by omega), if_neg h]
theorem kP_put1 {f : Nat → Int32} {b c k : Nat} {z : Int32} : upd f (b + 3 * c + 2) z (b + 3 * k) = f (b + 3 * k) ∧ upd f (b + 3 * c + 2) z (b + 3 * k + 1) = f (b + 3 * k + 1) ∧ upd f (b + 3 * c + 2) z (b + 3 * k + 2) = (if k = c then z else f (b + 3 * k + 2)) := by
  unfold upd
  refine ⟨?_, ?_, ?_⟩
  · rw [if_neg (by omega)]
  · rw [if_neg (by omega)]
  · by_cases h : k = c
    · rw [if_pos (by omega), if_pos h]
    · rw [if_neg (by omega), if_neg h]
theorem kR_par1_congr {n : Nat} {σ σ' τ τ' : kt_S} {q : Nat} (h0 : σ' (16 + 4 * q) = σ (16 + 4 * q)) (h1 : σ' (17 + 4 * q) = σ (17 + 4 * q)) (h2 : σ' (18 + 4 * q) = σ (18 + 4 * q)) (h3 : σ' (19 + 4 * q) = σ (19 + 4 * q)) (h15 : τ' 15 q = τ 15 q) (h17 : τ' 17 q = τ 17 q) (h18 : τ' 18 q = τ 18 q) (h16 : ∀ j, 18 * q ≤ j → j < 18 * q + 18 → τ' 16 j = τ 16 j) (H : kR_par1 n σ τ q) : kR_par1 n σ' τ' q := by
  obtain ⟨i1, i2, i3, i4, i5⟩ := H
  unfold kR_par1
  rw [h0, h1, h2, h3, h15, h17, h18]
  refine ⟨i1, i2, i3, i4, fun k hk => ?_⟩
  rw [h16 (18 * q + 3 * k) (by omega) (by omega), h16 (18 * q + 3 * k + 1) (by omega) (by omega), h16 (18 * q + 3 * k + 2) (by omega) (by omega)]
  exact i5 k hk
theorem kR_reg_0 {n c : Nat} {σ τ : kt_S} {K u v : Int32} (H : kR n σ τ) (hc6 : c < 6) (hno : ∀ j, j < c → ¬ σ 17 j = K) (hd : ∀ x y, x < c → y < c → σ 17 x = σ 17 y → x = y) : kR n (kt_up (kt_up (kt_up (kt_up (kt_up σ 17 c K) 18 c u) 19 c v) 16 4 (nI (c + 1))) 16 5 0) (kt_up (kt_up (kt_up (kt_up (kt_up τ 16 (18 * 0 + 3 * c) K) 16 (18 * 0 + 3 * c + 1) u) 15 0 (nI (c + 1))) 16 (18 * 0 + 3 * c + 2) v) 17 0 0) := by
  obtain ⟨a, b, d, e, f, g, h, i⟩ := H
  refine ⟨a, b, d, e, f, g, h, kR_par_of ?_ ?_ ?_ ?_⟩
  · obtain ⟨i1, i2, i3, ⟨w, i4, i5, i6⟩, i7⟩ := i 0 (by omega)
    refine ⟨i1, ⟨c + 1, by omega, rfl, rfl, fun x y hx hy => ?_⟩, ⟨0, by omega, rfl, rfl⟩, ⟨w, i4, i5, i6⟩, fun k hk => ?_⟩
    · show upd (σ 17) c K x = upd (σ 17) c K y → x = y
      unfold upd
      by_cases h1 : x = c
      · by_cases h2 : y = c
        · intro; omega
        · rw [if_pos h1, if_neg h2]
          exact fun z => absurd z.symm (hno y (by omega))
      · by_cases h2 : y = c
        · rw [if_neg h1, if_pos h2]
          exact fun z => absurd z (hno x (by omega))
        · rw [if_neg h1, if_neg h2]
          exact hd x y (by omega) (by omega)
    · obtain ⟨p1, p2, p3⟩ := kP_put3 (f := τ 16) (b := 18 * 0) (c := c) (k := k) (x := K) (y := u) (z := v)
      obtain ⟨q1, q2, q3⟩ := i7 k hk
      refine ⟨p1.trans ?_, p2.trans ?_, p3.trans ?_⟩
      · show _ = upd (σ 17) c K k
        unfold upd
        rw [q1]
      · show _ = upd (σ 18) c u k
        unfold upd
        rw [q2]
      · show _ = upd (σ 19) c v k
        unfold upd
        rw [q3]
  · refine kR_par1_congr (σ := σ) (τ := τ) (q := 1) rfl rfl rfl rfl rfl rfl rfl (fun j h1 h2 => ?_) (i 1 (by omega))
    show upd (upd (upd (τ 16) (18 * 0 + 3 * c) K) (18 * 0 + 3 * c + 1) u) (18 * 0 + 3 * c + 2) v j = _
    unfold upd
    rw [if_neg (by omega), if_neg (by omega), if_neg (by omega)]
  · refine kR_par1_congr (σ := σ) (τ := τ) (q := 2) rfl rfl rfl rfl rfl rfl rfl (fun j h1 h2 => ?_) (i 2 (by omega))
    show upd (upd (upd (τ 16) (18 * 0 + 3 * c) K) (18 * 0 + 3 * c + 1) u) (18 * 0 + 3 * c + 2) v j = _
    unfold upd
    rw [if_neg (by omega), if_neg (by omega), if_neg (by omega)]
  · refine kR_par1_congr (σ := σ) (τ := τ) (q := 3) rfl rfl rfl rfl rfl rfl rfl (fun j h1 h2 => ?_) (i 3 (by omega))
    show upd (upd (upd (τ 16) (18 * 0 + 3 * c) K) (18 * 0 + 3 * c + 1) u) (18 * 0 + 3 * c + 2) v j = _
    unfold upd
    rw [if_neg (by omega), if_neg (by omega), if_neg (by omega)]
theorem kR_acc_0 {n c : Nat} {σ τ : kt_S} {v : Int32} (H : kR n σ τ) (hc6 : c < 6) : kR n (kt_up (kt_up σ 19 c v) 16 5 0) (kt_up (kt_up τ 16 (18 * 0 + 3 * c + 2) v) 17 0 0) := by
  obtain ⟨a, b, d, e, f, g, h, i⟩ := H
  refine ⟨a, b, d, e, f, g, h, kR_par_of ?_ ?_ ?_ ?_⟩
  · obtain ⟨i1, ⟨c', i2, i3, i4, i5⟩, i6, i7, i8⟩ := i 0 (by omega)
    refine ⟨i1, ⟨c', i2, i3, i4, i5⟩, ⟨0, by omega, rfl, rfl⟩, i7, fun k hk => ?_⟩
    obtain ⟨p1, p2, p3⟩ := kP_put1 (f := τ 16) (b := 18 * 0) (c := c) (k := k) (z := v)
    obtain ⟨q1, q2, q3⟩ := i8 k hk
    refine ⟨p1.trans q1, p2.trans q2, p3.trans ?_⟩
    show _ = upd (σ 19) c v k
    unfold upd
    rw [q3]
  · refine kR_par1_congr (σ := σ) (τ := τ) (q := 1) rfl rfl rfl rfl rfl rfl rfl (fun j h1 h2 => ?_) (i 1 (by omega))
    show upd (τ 16) (18 * 0 + 3 * c + 2) v j = _
    unfold upd
    rw [if_neg (by omega)]
  · refine kR_par1_congr (σ := σ) (τ := τ) (q := 2) rfl rfl rfl rfl rfl rfl rfl (fun j h1 h2 => ?_) (i 2 (by omega))
    show upd (τ 16) (18 * 0 + 3 * c + 2) v j = _
    unfold upd
    rw [if_neg (by omega)]
  · refine kR_par1_congr (σ := σ) (τ := τ) (q := 3) rfl rfl rfl rfl rfl rfl rfl (fun j h1 h2 => ?_) (i 3 (by omega))
    show upd (τ 16) (18 * 0 + 3 * c + 2) v j = _
    unfold upd
    rw [if_neg (by omega)]
theorem kR_judge_0 {n k i : Nat} {σ τ : kt_S} (H : kR n σ τ) (h0 : τ 0 0 = 0) (hn : n < 10000) (hk : k ≤ n) (hs : σ 4 1 = nI k) (hi1 : 1 ≤ i) (hik : i ≤ k) (hki : k < i + 40) (hh : kp_G_has (nI i) σ = some (1, σ)) (l3 l4 : Int32) : kR_ret n (kp_K_judge_16 (nI i) l3 l4 σ) (kp_M_judge (nI 0) (nI i - 1) l3 l4 τ) := by
  have hi : i < 1000000 := by omega
  obtain ⟨i1, ⟨c, c6, i2, i3, hd⟩, ⟨o, i4, i5, i6⟩, ⟨us, i8, i9, i10⟩, i7⟩ := H.2.2.2.2.2.2.2 0 (by omega)
  have i1' : σ 16 0 = nI 0 := i1
  have i2' : σ 16 4 = nI c := i2
  have i5' : σ 16 5 = nI o := i5
  have i9' : σ 16 6 = nI us := i9
  have hd' : ∀ x y, x < c → y < c → σ 17 x = σ 17 y → x = y := hd
  have i7' : ∀ k, k < 6 → τ 16 (18 * 0 + 3 * k) = σ 17 k ∧ τ 16 (18 * 0 + 3 * k + 1) = σ 18 k ∧ τ 16 (18 * 0 + 3 * k + 2) = σ 19 k := i7
  have hty : kG_F σ i 0 = 1 ∨ kG_F σ i 0 = 2 := H.2.2.2.2.2.2.1.2 k i (by omega) hs hi1 hik hki
  have hb : ¬ (nI 0 < 0 ∨ 4 ≤ (nI 0).toNatClampNeg) := kn_in (by omega) (by omega)
  have hcl : (nI 0).toNatClampNeg = 0 := kn_cl (by omega)
  have hA1 : kp_K_alteredField (nI i) 1 l3 l4 σ = some (kG_A σ i 1 l3 l4, σ) := kG_altered (w := 1) hi (by omega) (by omega) hh l3 l4
  have hA2 : kp_K_alteredField (nI i) 2 l3 l4 σ = some (kG_A σ i 2 l3 l4, σ) := kG_altered (w := 2) hi (by omega) (by omega) hh l3 l4
  have hA3 : kp_K_alteredField (nI i) 3 l3 l4 σ = some (kG_A σ i 3 l3 l4, σ) := kG_altered (w := 3) hi (by omega) (by omega) hh l3 l4
  have hA4 : kp_K_alteredField (nI i) 4 l3 l4 σ = some (kG_A σ i 4 l3 l4, σ) := kG_altered (w := 4) hi (by omega) (by omega) hh l3 l4
  have hA5 : kp_K_alteredField (nI i) 5 l3 l4 σ = some (kG_A σ i 5 l3 l4, σ) := kG_altered (w := 5) hi (by omega) (by omega) hh l3 l4
  have hK14 : ∀ t0, kp_K_judge_16_14_r16 (nI i) l3 l4 t0 σ = Option.bind (kp_P_judge_16 (kG_A σ i 1 l3 l4) (kG_A σ i 2 l3 l4) (kG_A σ i 3 l3 l4) (kG_A σ i 4 l3 l4) (kG_A σ i 5 l3 l4) t0 σ) fun x6 => some (x6.1, x6.2) := fun t0 => by
    unfold kp_K_judge_16_14_r16
    rw [hA1, kt_bs]; dsimp only
    rw [hA2, kt_bs]; dsimp only
    rw [hA3, kt_bs]; dsimp only
    rw [hA4, kt_bs]; dsimp only
    rw [hA5, kt_bs]
  rw [km_judge H hi1 hi]
  unfold kp_M_judge_83 kp_M_judge_127
  rw [if_neg hb, hcl, kG_A4, show τ 17 0 = nI o from i6]
  have hcase : (¬ kG_A σ i 4 l3 l4 = 4 * nI o + nI 0 ∧ ∀ t0, kp_P_judge_16 (kG_A σ i 1 l3 l4) (kG_A σ i 2 l3 l4) (kG_A σ i 3 l3 l4) (kG_A σ i 4 l3 l4) (kG_A σ i 5 l3 l4) t0 σ = some (2, σ)) ∨ (kG_A σ i 4 l3 l4 = 4 * nI o + nI 0 ∧ ¬ kG_A σ i 3 l3 l4 = 752 + nI 0 ∧ ∀ t0, kp_P_judge_16 (kG_A σ i 1 l3 l4) (kG_A σ i 2 l3 l4) (kG_A σ i 3 l3 l4) (kG_A σ i 4 l3 l4) (kG_A σ i 5 l3 l4) t0 σ = some (3, σ)) ∨ (kG_A σ i 4 l3 l4 = 4 * nI o + nI 0 ∧ kG_A σ i 3 l3 l4 = 752 + nI 0 ∧ ∀ t0, kp_P_judge_16 (kG_A σ i 1 l3 l4) (kG_A σ i 2 l3 l4) (kG_A σ i 3 l3 l4) (kG_A σ i 4 l3 l4) (kG_A σ i 5 l3 l4) t0 σ = if t0 = 0 then (if kG_A σ i 1 l3 l4 = 1 then Option.bind (kp_P_register_16 (kG_A σ i 2 l3 l4) (kG_A σ i 5 l3 l4) σ) (fun x2 => kp_P_judge_16_62 x2.1 x2.2) else Option.bind (kp_P_accept_16 (kG_A σ i 2 l3 l4) (kG_A σ i 5 l3 l4) σ) (fun x1 => kp_P_judge_16_62 x1.1 x1.2)) else some (6, σ)) := by
    unfold kp_P_judge_16 kp_P_judge_16_0
    rw [i5', i1']
    by_cases e4 : kG_A σ i 4 l3 l4 = 4 * nI o + nI 0
    · by_cases e3 : kG_A σ i 3 l3 l4 = 752 + nI 0
      · exact Or.inr (Or.inr ⟨e4, e3, fun t0 => by rw [if_pos e4, if_pos e3]⟩)
      · exact Or.inr (Or.inl ⟨e4, e3, fun t0 => by rw [if_pos e4, if_neg e3]⟩)
    · exact Or.inl ⟨e4, fun t0 => by rw [if_neg e4]⟩
  have hKt : ∀ r, (∀ t0, kp_P_judge_16 (kG_A σ i 1 l3 l4) (kG_A σ i 2 l3 l4) (kG_A σ i 3 l3 l4) (kG_A σ i 4 l3 l4) (kG_A σ i 5 l3 l4) t0 σ = some (r, σ)) → kp_K_judge_16 (nI i) l3 l4 σ = some (r, σ) := fun r hr => by
    unfold kp_K_judge_16 kp_K_judge_16_0 kp_K_judge_16_13_r16
    rw [hK14, hK14, hr, hr, kt_bs]
    by_cases e0 : l3 = 0
    · rw [if_pos e0]
    · rw [if_neg e0]
      by_cases e1 : l4 = 0
      · rw [if_pos e1]
      · rw [if_neg e1]
  rcases hcase with ⟨e4, hc⟩ | ⟨e4, e3, hc⟩ | ⟨e4, e3, hc⟩
  · rw [if_neg e4]
    exact ⟨2, σ, τ, hKt 2 hc, rfl, h0, H⟩
  · rw [if_pos e4, if_neg e3]
    exact ⟨3, σ, τ, hKt 3 hc, rfl, h0, H⟩
  rw [if_pos e4, if_pos e3]
  by_cases hz : l3 = 0 ∨ l4 = 0
  · have a1 : kG_A σ i 1 l3 l4 = kG_F σ i 0 := kG_A0 (w := 1) (by omega) hz
    have a2 : kG_A σ i 2 l3 l4 = kG_F σ i 1 := kG_A0 (w := 2) (by omega) hz
    have a5 : kG_A σ i 5 l3 l4 = kG_F σ i 4 := kG_A0 (w := 5) (by omega) hz
    have hKz : kp_K_judge_16 (nI i) l3 l4 σ = Option.bind (if kG_F σ i 0 = 1 then Option.bind (kp_P_register_16 (kG_F σ i 1) (kG_F σ i 4) σ) (fun x2 => kp_P_judge_16_62 x2.1 x2.2) else Option.bind (kp_P_accept_16 (kG_F σ i 1) (kG_F σ i 4) σ) (fun x1 => kp_P_judge_16_62 x1.1 x1.2)) fun x6 => some (x6.1, x6.2) := by
      have e : kp_K_judge_16 (nI i) l3 l4 σ = kp_K_judge_16_14_r16 (nI i) l3 l4 0 σ := by
        unfold kp_K_judge_16 kp_K_judge_16_0 kp_K_judge_16_13_r16
        by_cases e0 : l3 = 0
        · rw [if_pos e0]
        · rw [if_neg e0, if_pos (hz.resolve_left e0)]
      rw [e, hK14, hc, if_pos rfl, a1, a2, a5]
    have hMz : (if l3 = 0 then kp_M_judge_133 100 (nI 0) (kG_F σ i 0) (kG_F σ i 1) (kG_F σ i 4) (-1) 0 τ else if l4 = 0 then kp_M_judge_133 100 (nI 0) (kG_F σ i 0) (kG_F σ i 1) (kG_F σ i 4) (-1) 0 τ else some (6, τ)) = kp_M_judge_133 100 (nI 0) (kG_F σ i 0) (kG_F σ i 1) (kG_F σ i 4) (-1) 0 τ := by
      by_cases e0 : l3 = 0
      · rw [if_pos e0]
      · rw [if_neg e0, if_pos (hz.resolve_left e0)]
    rw [hMz, hKz]
    obtain ⟨y, hy, hyc⟩ := km_judge_loop (τ := τ) (p := 0) (c := c) (by omega) i3 c6 (kG_F σ i 0) (kG_F σ i 1) (kG_F σ i 4) c 0 100 (-1) (by omega) (by omega)
    have hy' : kp_M_judge_133 100 (nI 0) (kG_F σ i 0) (kG_F σ i 1) (kG_F σ i 4) (-1) 0 τ = kp_M_judge_189 (nI 0) (kG_F σ i 0) (kG_F σ i 1) (kG_F σ i 4) y (if kG_F σ i 0 = 1 then 1 else 0) τ := hy
    rw [hy']
    unfold kp_M_judge_189 kp_M_judge_199
    have hfind : (∃ j, j < c ∧ σ 17 j = kG_F σ i 1 ∧ y = nI j ∧ kp_P_find_16 (kG_F σ i 1) σ = some (nI j, σ)) ∨ ((∀ j, j < c → ¬ σ 17 j = kG_F σ i 1) ∧ y = -1 ∧ kp_P_find_16 (kG_F σ i 1) σ = some (-1, σ)) := by
      rcases kP_find_16 (kG_F σ i 1) i2' c6 with ⟨j, g1, g2, g3⟩ | ⟨g1, g2⟩
      · refine Or.inl ⟨j, g1, g2, ?_, g3⟩
        rcases hyc with ⟨_, y2⟩ | ⟨j', y1, y2, y3, y4⟩
        · exact absurd ((i7' j (by omega)).1.trans g2) (y2 j (by omega) g1)
        · rw [y4]
          rw [hd' j' j y2 g1 ((i7' j' (by omega)).1.symm.trans (y3.trans g2.symm))]
      · refine Or.inr ⟨g1, ?_, g2⟩
        rcases hyc with ⟨y1, _⟩ | ⟨j', y1, y2, y3, y4⟩
        · exact y1
        · exact absurd ((i7' j' (by omega)).1.symm.trans y3) (g1 j' y2)
    have hm1 : (-1 : Int32) < 0 := by decide
    have h12 : ¬ (1 : Int32) = 2 := by decide
    have h21 : ¬ (2 : Int32) = 1 := by decide
    have h01 : ¬ (0 : Int32) = 1 := by decide
    unfold kp_P_register_16 kp_P_register_16_0 kp_P_accept_16 kp_P_accept_16_0
    rcases hfind with ⟨j, g1, g2, rfl, g3⟩ | ⟨g1, rfl, g3⟩
    · have hjn : ¬ nI j < 0 := kn_nn (by omega)
      rw [g3, kt_bs, kt_bs, if_neg hjn]
      dsimp only
      rcases hty with ht | ht
      · rw [ht, if_pos rfl, if_pos rfl, if_neg hjn, kt_bs]
        exact ⟨8, σ, τ, rfl, if_pos rfl, h0, H⟩
      · have hj0 : (0 : Int32) ≤ nI j := kn_leR (a := 0) (b := j) (by omega) (by omega)
        have hbj : ¬ (nI j < 0 ∨ 6 ≤ (nI j).toNatClampNeg) := kn_in (by omega) (by omega)
        have hx : (18 : Int32) * nI 0 + 3 * nI j + 2 = nI (18 * 0 + 3 * j + 2) := by
          rw [km_i3]
          exact kn_add _ 2
        have hb2 : ¬ (nI (18 * 0 + 3 * j + 2) < 0 ∨ 72 ≤ (nI (18 * 0 + 3 * j + 2)).toNatClampNeg) := kn_in (by omega) (by omega)
        have hcj : (nI j).toNatClampNeg = j := kn_cl (by omega)
        have hcx : (nI (18 * 0 + 3 * j + 2)).toNatClampNeg = 18 * 0 + 3 * j + 2 := kn_cl (by omega)
        have hlast : τ 16 (18 * 0 + 3 * j + 2) = σ 19 j := (i7' j (by omega)).2.2
        unfold kp_M_judge_225 kp_M_judge_255 kp_M_judge_272 kp_M_judge_328
        rw [ht, if_neg h21, if_neg h21, if_neg h01, if_pos hj0, hx]
        simp only [if_neg hjn, if_neg h21, if_neg h01, if_neg hbj, if_neg hb2, if_neg hb, ↓reduceIte]
        simp only [hcj, hcx, hcl, hlast]
        by_cases hlt : σ 19 j < kG_F σ i 4
        · rw [if_pos hlt, if_pos hlt, kt_bs]
          exact ⟨0, _, _, rfl, rfl, h0, kR_acc_0 (c := j) (v := kG_F σ i 4) H (by omega)⟩
        · rw [if_neg hlt, if_neg hlt, kt_bs]
          exact ⟨7, σ, τ, rfl, rfl, h0, H⟩
    · rw [g3, kt_bs, kt_bs, if_pos hm1]
      dsimp only
      rcases hty with ht | ht
      · rw [ht, if_pos rfl, if_pos rfl, if_pos hm1, if_neg ki_10]
        have hbc : ∀ h : c < 6, ¬ (nI c < 0 ∨ 6 ≤ (nI c).toNatClampNeg) := fun h => kn_in (by omega) (by omega)
        have hcc : (nI c).toNatClampNeg = c := kn_cl (by omega)
        have i3' : τ 15 0 = nI c := i3
        simp only [i2', if_neg hb, ↓reduceIte]
        simp only [hcl, i3']
        by_cases h6 : c < 6
        · have hne : ¬ nI c = 6 := fun z => by
            have := (kn_eq (a := c) (b := 6) (by omega) (by omega)).mp z
            omega
          have hlt6 : nI c < 6 := (kn_lt (a := c) (b := 6) (by omega) (by omega)).mpr h6
          have hx0 : (18 : Int32) * nI 0 + 3 * nI c = nI (18 * 0 + 3 * c) := km_i3 _ _
          have hx1 : nI (18 * 0 + 3 * c) + 1 = nI (18 * 0 + 3 * c + 1) := kn_add _ 1
          have hx2 : nI (18 * 0 + 3 * c) + 2 = nI (18 * 0 + 3 * c + 2) := kn_add _ 2
          have hbx0 : ¬ (nI (18 * 0 + 3 * c) < 0 ∨ 72 ≤ (nI (18 * 0 + 3 * c)).toNatClampNeg) := kn_in (by omega) (by omega)
          have hbx1 : ¬ (nI (18 * 0 + 3 * c + 1) < 0 ∨ 72 ≤ (nI (18 * 0 + 3 * c + 1)).toNatClampNeg) := kn_in (by omega) (by omega)
          have hbx2 : ¬ (nI (18 * 0 + 3 * c + 2) < 0 ∨ 72 ≤ (nI (18 * 0 + 3 * c + 2)).toNatClampNeg) := kn_in (by omega) (by omega)
          have hcx0 : (nI (18 * 0 + 3 * c)).toNatClampNeg = 18 * 0 + 3 * c := kn_cl (by omega)
          have hcx1 : (nI (18 * 0 + 3 * c + 1)).toNatClampNeg = 18 * 0 + 3 * c + 1 := kn_cl (by omega)
          have hcx2 : (nI (18 * 0 + 3 * c + 2)).toNatClampNeg = 18 * 0 + 3 * c + 2 := kn_cl (by omega)
          unfold kp_M_judge_225 kp_M_judge_255 kp_M_judge_272 kp_M_judge_328
          rw [if_neg hne, if_neg h12, if_pos rfl]
          simp only [if_neg hb, if_pos hlt6, if_neg (hbc h6), ↓reduceIte]
          simp only [hcl, hcc]
          simp only [i3', hx0, hx1, hx2]
          simp only [if_neg hbx0, if_neg hbx1, if_neg hbx2]
          simp only [hcx0, hcx1, hcx2]
          rw [show τ 18 0 = nI us from i10, i9', kn_succ, kt_bs]
          exact ⟨0, _, _, rfl, rfl, h0, kR_reg_0 H h6 g1 hd'⟩
        · have hc6 : c = 6 := by omega
          rw [if_pos (show nI c = 6 by rw [hc6]; rfl), if_neg (show ¬ nI c < 6 by rw [hc6]; decide), kt_bs]
          exact ⟨9, σ, τ, rfl, rfl, h0, H⟩
      · rw [ht, if_neg h21, if_neg h21, if_pos rfl, if_neg (show ¬ (0 : Int32) ≤ -1 by decide), kt_bs]
        exact ⟨8, σ, τ, rfl, rfl, h0, H⟩
  · have hKo : kp_K_judge_16 (nI i) l3 l4 σ = some (6, σ) := by
      unfold kp_K_judge_16 kp_K_judge_16_0
      rw [if_neg (fun z => hz (Or.inl z)), if_neg (fun z => hz (Or.inr z)), hK14, hc, if_neg ki_10, kt_bs]
    rw [if_neg (fun z => hz (Or.inl z)), if_neg (fun z => hz (Or.inr z))]
    exact ⟨6, σ, τ, hKo, rfl, h0, H⟩
theorem kR_reg_1 {n c : Nat} {σ τ : kt_S} {K u v : Int32} (H : kR n σ τ) (hc6 : c < 6) (hno : ∀ j, j < c → ¬ σ 21 j = K) (hd : ∀ x y, x < c → y < c → σ 21 x = σ 21 y → x = y) : kR n (kt_up (kt_up (kt_up (kt_up (kt_up σ 21 c K) 22 c u) 23 c v) 20 4 (nI (c + 1))) 20 5 0) (kt_up (kt_up (kt_up (kt_up (kt_up τ 16 (18 * 1 + 3 * c) K) 16 (18 * 1 + 3 * c + 1) u) 15 1 (nI (c + 1))) 16 (18 * 1 + 3 * c + 2) v) 17 1 0) := by
  obtain ⟨a, b, d, e, f, g, h, i⟩ := H
  refine ⟨a, b, d, e, f, g, h, kR_par_of ?_ ?_ ?_ ?_⟩
  · refine kR_par1_congr (σ := σ) (τ := τ) (q := 0) rfl rfl rfl rfl rfl rfl rfl (fun j h1 h2 => ?_) (i 0 (by omega))
    show upd (upd (upd (τ 16) (18 * 1 + 3 * c) K) (18 * 1 + 3 * c + 1) u) (18 * 1 + 3 * c + 2) v j = _
    unfold upd
    rw [if_neg (by omega), if_neg (by omega), if_neg (by omega)]
  · obtain ⟨i1, i2, i3, ⟨w, i4, i5, i6⟩, i7⟩ := i 1 (by omega)
    refine ⟨i1, ⟨c + 1, by omega, rfl, rfl, fun x y hx hy => ?_⟩, ⟨0, by omega, rfl, rfl⟩, ⟨w, i4, i5, i6⟩, fun k hk => ?_⟩
    · show upd (σ 21) c K x = upd (σ 21) c K y → x = y
      unfold upd
      by_cases h1 : x = c
      · by_cases h2 : y = c
        · intro; omega
        · rw [if_pos h1, if_neg h2]
          exact fun z => absurd z.symm (hno y (by omega))
      · by_cases h2 : y = c
        · rw [if_neg h1, if_pos h2]
          exact fun z => absurd z (hno x (by omega))
        · rw [if_neg h1, if_neg h2]
          exact hd x y (by omega) (by omega)
    · obtain ⟨p1, p2, p3⟩ := kP_put3 (f := τ 16) (b := 18 * 1) (c := c) (k := k) (x := K) (y := u) (z := v)
      obtain ⟨q1, q2, q3⟩ := i7 k hk
      refine ⟨p1.trans ?_, p2.trans ?_, p3.trans ?_⟩
      · show _ = upd (σ 21) c K k
        unfold upd
        rw [q1]
      · show _ = upd (σ 22) c u k
        unfold upd
        rw [q2]
      · show _ = upd (σ 23) c v k
        unfold upd
        rw [q3]
  · refine kR_par1_congr (σ := σ) (τ := τ) (q := 2) rfl rfl rfl rfl rfl rfl rfl (fun j h1 h2 => ?_) (i 2 (by omega))
    show upd (upd (upd (τ 16) (18 * 1 + 3 * c) K) (18 * 1 + 3 * c + 1) u) (18 * 1 + 3 * c + 2) v j = _
    unfold upd
    rw [if_neg (by omega), if_neg (by omega), if_neg (by omega)]
  · refine kR_par1_congr (σ := σ) (τ := τ) (q := 3) rfl rfl rfl rfl rfl rfl rfl (fun j h1 h2 => ?_) (i 3 (by omega))
    show upd (upd (upd (τ 16) (18 * 1 + 3 * c) K) (18 * 1 + 3 * c + 1) u) (18 * 1 + 3 * c + 2) v j = _
    unfold upd
    rw [if_neg (by omega), if_neg (by omega), if_neg (by omega)]
theorem kR_acc_1 {n c : Nat} {σ τ : kt_S} {v : Int32} (H : kR n σ τ) (hc6 : c < 6) : kR n (kt_up (kt_up σ 23 c v) 20 5 0) (kt_up (kt_up τ 16 (18 * 1 + 3 * c + 2) v) 17 1 0) := by
  obtain ⟨a, b, d, e, f, g, h, i⟩ := H
  refine ⟨a, b, d, e, f, g, h, kR_par_of ?_ ?_ ?_ ?_⟩
  · refine kR_par1_congr (σ := σ) (τ := τ) (q := 0) rfl rfl rfl rfl rfl rfl rfl (fun j h1 h2 => ?_) (i 0 (by omega))
    show upd (τ 16) (18 * 1 + 3 * c + 2) v j = _
    unfold upd
    rw [if_neg (by omega)]
  · obtain ⟨i1, ⟨c', i2, i3, i4, i5⟩, i6, i7, i8⟩ := i 1 (by omega)
    refine ⟨i1, ⟨c', i2, i3, i4, i5⟩, ⟨0, by omega, rfl, rfl⟩, i7, fun k hk => ?_⟩
    obtain ⟨p1, p2, p3⟩ := kP_put1 (f := τ 16) (b := 18 * 1) (c := c) (k := k) (z := v)
    obtain ⟨q1, q2, q3⟩ := i8 k hk
    refine ⟨p1.trans q1, p2.trans q2, p3.trans ?_⟩
    show _ = upd (σ 23) c v k
    unfold upd
    rw [q3]
  · refine kR_par1_congr (σ := σ) (τ := τ) (q := 2) rfl rfl rfl rfl rfl rfl rfl (fun j h1 h2 => ?_) (i 2 (by omega))
    show upd (τ 16) (18 * 1 + 3 * c + 2) v j = _
    unfold upd
    rw [if_neg (by omega)]
  · refine kR_par1_congr (σ := σ) (τ := τ) (q := 3) rfl rfl rfl rfl rfl rfl rfl (fun j h1 h2 => ?_) (i 3 (by omega))
    show upd (τ 16) (18 * 1 + 3 * c + 2) v j = _
    unfold upd
    rw [if_neg (by omega)]
theorem kR_judge_1 {n k i : Nat} {σ τ : kt_S} (H : kR n σ τ) (h0 : τ 0 0 = 0) (hn : n < 10000) (hk : k ≤ n) (hs : σ 4 1 = nI k) (hi1 : 1 ≤ i) (hik : i ≤ k) (hki : k < i + 40) (hh : kp_G_has (nI i) σ = some (1, σ)) (l3 l4 : Int32) : kR_ret n (kp_K_judge_20 (nI i) l3 l4 σ) (kp_M_judge (nI 1) (nI i - 1) l3 l4 τ) := by
  have hi : i < 1000000 := by omega
  obtain ⟨i1, ⟨c, c6, i2, i3, hd⟩, ⟨o, i4, i5, i6⟩, ⟨us, i8, i9, i10⟩, i7⟩ := H.2.2.2.2.2.2.2 1 (by omega)
  have i1' : σ 20 0 = nI 1 := i1
  have i2' : σ 20 4 = nI c := i2
  have i5' : σ 20 5 = nI o := i5
  have i9' : σ 20 6 = nI us := i9
  have hd' : ∀ x y, x < c → y < c → σ 21 x = σ 21 y → x = y := hd
  have i7' : ∀ k, k < 6 → τ 16 (18 * 1 + 3 * k) = σ 21 k ∧ τ 16 (18 * 1 + 3 * k + 1) = σ 22 k ∧ τ 16 (18 * 1 + 3 * k + 2) = σ 23 k := i7
  have hty : kG_F σ i 0 = 1 ∨ kG_F σ i 0 = 2 := H.2.2.2.2.2.2.1.2 k i (by omega) hs hi1 hik hki
  have hb : ¬ (nI 1 < 0 ∨ 4 ≤ (nI 1).toNatClampNeg) := kn_in (by omega) (by omega)
  have hcl : (nI 1).toNatClampNeg = 1 := kn_cl (by omega)
  have hA1 : kp_K_alteredField (nI i) 1 l3 l4 σ = some (kG_A σ i 1 l3 l4, σ) := kG_altered (w := 1) hi (by omega) (by omega) hh l3 l4
  have hA2 : kp_K_alteredField (nI i) 2 l3 l4 σ = some (kG_A σ i 2 l3 l4, σ) := kG_altered (w := 2) hi (by omega) (by omega) hh l3 l4
  have hA3 : kp_K_alteredField (nI i) 3 l3 l4 σ = some (kG_A σ i 3 l3 l4, σ) := kG_altered (w := 3) hi (by omega) (by omega) hh l3 l4
  have hA4 : kp_K_alteredField (nI i) 4 l3 l4 σ = some (kG_A σ i 4 l3 l4, σ) := kG_altered (w := 4) hi (by omega) (by omega) hh l3 l4
  have hA5 : kp_K_alteredField (nI i) 5 l3 l4 σ = some (kG_A σ i 5 l3 l4, σ) := kG_altered (w := 5) hi (by omega) (by omega) hh l3 l4
  have hK14 : ∀ t0, kp_K_judge_20_14_r20 (nI i) l3 l4 t0 σ = Option.bind (kp_P_judge_20 (kG_A σ i 1 l3 l4) (kG_A σ i 2 l3 l4) (kG_A σ i 3 l3 l4) (kG_A σ i 4 l3 l4) (kG_A σ i 5 l3 l4) t0 σ) fun x6 => some (x6.1, x6.2) := fun t0 => by
    unfold kp_K_judge_20_14_r20
    rw [hA1, kt_bs]; dsimp only
    rw [hA2, kt_bs]; dsimp only
    rw [hA3, kt_bs]; dsimp only
    rw [hA4, kt_bs]; dsimp only
    rw [hA5, kt_bs]
  rw [km_judge H hi1 hi]
  unfold kp_M_judge_83 kp_M_judge_127
  rw [if_neg hb, hcl, kG_A4, show τ 17 1 = nI o from i6]
  have hcase : (¬ kG_A σ i 4 l3 l4 = 4 * nI o + nI 1 ∧ ∀ t0, kp_P_judge_20 (kG_A σ i 1 l3 l4) (kG_A σ i 2 l3 l4) (kG_A σ i 3 l3 l4) (kG_A σ i 4 l3 l4) (kG_A σ i 5 l3 l4) t0 σ = some (2, σ)) ∨ (kG_A σ i 4 l3 l4 = 4 * nI o + nI 1 ∧ ¬ kG_A σ i 3 l3 l4 = 752 + nI 1 ∧ ∀ t0, kp_P_judge_20 (kG_A σ i 1 l3 l4) (kG_A σ i 2 l3 l4) (kG_A σ i 3 l3 l4) (kG_A σ i 4 l3 l4) (kG_A σ i 5 l3 l4) t0 σ = some (3, σ)) ∨ (kG_A σ i 4 l3 l4 = 4 * nI o + nI 1 ∧ kG_A σ i 3 l3 l4 = 752 + nI 1 ∧ ∀ t0, kp_P_judge_20 (kG_A σ i 1 l3 l4) (kG_A σ i 2 l3 l4) (kG_A σ i 3 l3 l4) (kG_A σ i 4 l3 l4) (kG_A σ i 5 l3 l4) t0 σ = if t0 = 0 then (if kG_A σ i 1 l3 l4 = 1 then Option.bind (kp_P_register_20 (kG_A σ i 2 l3 l4) (kG_A σ i 5 l3 l4) σ) (fun x2 => kp_P_judge_20_62 x2.1 x2.2) else Option.bind (kp_P_accept_20 (kG_A σ i 2 l3 l4) (kG_A σ i 5 l3 l4) σ) (fun x1 => kp_P_judge_20_62 x1.1 x1.2)) else some (6, σ)) := by
    unfold kp_P_judge_20 kp_P_judge_20_0
    rw [i5', i1']
    by_cases e4 : kG_A σ i 4 l3 l4 = 4 * nI o + nI 1
    · by_cases e3 : kG_A σ i 3 l3 l4 = 752 + nI 1
      · exact Or.inr (Or.inr ⟨e4, e3, fun t0 => by rw [if_pos e4, if_pos e3]⟩)
      · exact Or.inr (Or.inl ⟨e4, e3, fun t0 => by rw [if_pos e4, if_neg e3]⟩)
    · exact Or.inl ⟨e4, fun t0 => by rw [if_neg e4]⟩
  have hKt : ∀ r, (∀ t0, kp_P_judge_20 (kG_A σ i 1 l3 l4) (kG_A σ i 2 l3 l4) (kG_A σ i 3 l3 l4) (kG_A σ i 4 l3 l4) (kG_A σ i 5 l3 l4) t0 σ = some (r, σ)) → kp_K_judge_20 (nI i) l3 l4 σ = some (r, σ) := fun r hr => by
    unfold kp_K_judge_20 kp_K_judge_20_0 kp_K_judge_20_13_r20
    rw [hK14, hK14, hr, hr, kt_bs]
    by_cases e0 : l3 = 0
    · rw [if_pos e0]
    · rw [if_neg e0]
      by_cases e1 : l4 = 0
      · rw [if_pos e1]
      · rw [if_neg e1]
  rcases hcase with ⟨e4, hc⟩ | ⟨e4, e3, hc⟩ | ⟨e4, e3, hc⟩
  · rw [if_neg e4]
    exact ⟨2, σ, τ, hKt 2 hc, rfl, h0, H⟩
  · rw [if_pos e4, if_neg e3]
    exact ⟨3, σ, τ, hKt 3 hc, rfl, h0, H⟩
  rw [if_pos e4, if_pos e3]
  by_cases hz : l3 = 0 ∨ l4 = 0
  · have a1 : kG_A σ i 1 l3 l4 = kG_F σ i 0 := kG_A0 (w := 1) (by omega) hz
    have a2 : kG_A σ i 2 l3 l4 = kG_F σ i 1 := kG_A0 (w := 2) (by omega) hz
    have a5 : kG_A σ i 5 l3 l4 = kG_F σ i 4 := kG_A0 (w := 5) (by omega) hz
    have hKz : kp_K_judge_20 (nI i) l3 l4 σ = Option.bind (if kG_F σ i 0 = 1 then Option.bind (kp_P_register_20 (kG_F σ i 1) (kG_F σ i 4) σ) (fun x2 => kp_P_judge_20_62 x2.1 x2.2) else Option.bind (kp_P_accept_20 (kG_F σ i 1) (kG_F σ i 4) σ) (fun x1 => kp_P_judge_20_62 x1.1 x1.2)) fun x6 => some (x6.1, x6.2) := by
      have e : kp_K_judge_20 (nI i) l3 l4 σ = kp_K_judge_20_14_r20 (nI i) l3 l4 0 σ := by
        unfold kp_K_judge_20 kp_K_judge_20_0 kp_K_judge_20_13_r20
        by_cases e0 : l3 = 0
        · rw [if_pos e0]
        · rw [if_neg e0, if_pos (hz.resolve_left e0)]
      rw [e, hK14, hc, if_pos rfl, a1, a2, a5]
    have hMz : (if l3 = 0 then kp_M_judge_133 100 (nI 1) (kG_F σ i 0) (kG_F σ i 1) (kG_F σ i 4) (-1) 0 τ else if l4 = 0 then kp_M_judge_133 100 (nI 1) (kG_F σ i 0) (kG_F σ i 1) (kG_F σ i 4) (-1) 0 τ else some (6, τ)) = kp_M_judge_133 100 (nI 1) (kG_F σ i 0) (kG_F σ i 1) (kG_F σ i 4) (-1) 0 τ := by
      by_cases e0 : l3 = 0
      · rw [if_pos e0]
      · rw [if_neg e0, if_pos (hz.resolve_left e0)]
    rw [hMz, hKz]
    obtain ⟨y, hy, hyc⟩ := km_judge_loop (τ := τ) (p := 1) (c := c) (by omega) i3 c6 (kG_F σ i 0) (kG_F σ i 1) (kG_F σ i 4) c 0 100 (-1) (by omega) (by omega)
    have hy' : kp_M_judge_133 100 (nI 1) (kG_F σ i 0) (kG_F σ i 1) (kG_F σ i 4) (-1) 0 τ = kp_M_judge_189 (nI 1) (kG_F σ i 0) (kG_F σ i 1) (kG_F σ i 4) y (if kG_F σ i 0 = 1 then 1 else 0) τ := hy
    rw [hy']
    unfold kp_M_judge_189 kp_M_judge_199
    have hfind : (∃ j, j < c ∧ σ 21 j = kG_F σ i 1 ∧ y = nI j ∧ kp_P_find_20 (kG_F σ i 1) σ = some (nI j, σ)) ∨ ((∀ j, j < c → ¬ σ 21 j = kG_F σ i 1) ∧ y = -1 ∧ kp_P_find_20 (kG_F σ i 1) σ = some (-1, σ)) := by
      rcases kP_find_20 (kG_F σ i 1) i2' c6 with ⟨j, g1, g2, g3⟩ | ⟨g1, g2⟩
      · refine Or.inl ⟨j, g1, g2, ?_, g3⟩
        rcases hyc with ⟨_, y2⟩ | ⟨j', y1, y2, y3, y4⟩
        · exact absurd ((i7' j (by omega)).1.trans g2) (y2 j (by omega) g1)
        · rw [y4]
          rw [hd' j' j y2 g1 ((i7' j' (by omega)).1.symm.trans (y3.trans g2.symm))]
      · refine Or.inr ⟨g1, ?_, g2⟩
        rcases hyc with ⟨y1, _⟩ | ⟨j', y1, y2, y3, y4⟩
        · exact y1
        · exact absurd ((i7' j' (by omega)).1.symm.trans y3) (g1 j' y2)
    have hm1 : (-1 : Int32) < 0 := by decide
    have h12 : ¬ (1 : Int32) = 2 := by decide
    have h21 : ¬ (2 : Int32) = 1 := by decide
    have h01 : ¬ (0 : Int32) = 1 := by decide
    unfold kp_P_register_20 kp_P_register_20_0 kp_P_accept_20 kp_P_accept_20_0
    rcases hfind with ⟨j, g1, g2, rfl, g3⟩ | ⟨g1, rfl, g3⟩
    · have hjn : ¬ nI j < 0 := kn_nn (by omega)
      rw [g3, kt_bs, kt_bs, if_neg hjn]
      dsimp only
      rcases hty with ht | ht
      · rw [ht, if_pos rfl, if_pos rfl, if_neg hjn, kt_bs]
        exact ⟨8, σ, τ, rfl, if_pos rfl, h0, H⟩
      · have hj0 : (0 : Int32) ≤ nI j := kn_leR (a := 0) (b := j) (by omega) (by omega)
        have hbj : ¬ (nI j < 0 ∨ 6 ≤ (nI j).toNatClampNeg) := kn_in (by omega) (by omega)
        have hx : (18 : Int32) * nI 1 + 3 * nI j + 2 = nI (18 * 1 + 3 * j + 2) := by
          rw [km_i3]
          exact kn_add _ 2
        have hb2 : ¬ (nI (18 * 1 + 3 * j + 2) < 0 ∨ 72 ≤ (nI (18 * 1 + 3 * j + 2)).toNatClampNeg) := kn_in (by omega) (by omega)
        have hcj : (nI j).toNatClampNeg = j := kn_cl (by omega)
        have hcx : (nI (18 * 1 + 3 * j + 2)).toNatClampNeg = 18 * 1 + 3 * j + 2 := kn_cl (by omega)
        have hlast : τ 16 (18 * 1 + 3 * j + 2) = σ 23 j := (i7' j (by omega)).2.2
        unfold kp_M_judge_225 kp_M_judge_255 kp_M_judge_272 kp_M_judge_328
        rw [ht, if_neg h21, if_neg h21, if_neg h01, if_pos hj0, hx]
        simp only [if_neg hjn, if_neg h21, if_neg h01, if_neg hbj, if_neg hb2, if_neg hb, ↓reduceIte]
        simp only [hcj, hcx, hcl, hlast]
        by_cases hlt : σ 23 j < kG_F σ i 4
        · rw [if_pos hlt, if_pos hlt, kt_bs]
          exact ⟨0, _, _, rfl, rfl, h0, kR_acc_1 (c := j) (v := kG_F σ i 4) H (by omega)⟩
        · rw [if_neg hlt, if_neg hlt, kt_bs]
          exact ⟨7, σ, τ, rfl, rfl, h0, H⟩
    · rw [g3, kt_bs, kt_bs, if_pos hm1]
      dsimp only
      rcases hty with ht | ht
      · rw [ht, if_pos rfl, if_pos rfl, if_pos hm1, if_neg ki_10]
        have hbc : ∀ h : c < 6, ¬ (nI c < 0 ∨ 6 ≤ (nI c).toNatClampNeg) := fun h => kn_in (by omega) (by omega)
        have hcc : (nI c).toNatClampNeg = c := kn_cl (by omega)
        have i3' : τ 15 1 = nI c := i3
        simp only [i2', if_neg hb, ↓reduceIte]
        simp only [hcl, i3']
        by_cases h6 : c < 6
        · have hne : ¬ nI c = 6 := fun z => by
            have := (kn_eq (a := c) (b := 6) (by omega) (by omega)).mp z
            omega
          have hlt6 : nI c < 6 := (kn_lt (a := c) (b := 6) (by omega) (by omega)).mpr h6
          have hx0 : (18 : Int32) * nI 1 + 3 * nI c = nI (18 * 1 + 3 * c) := km_i3 _ _
          have hx1 : nI (18 * 1 + 3 * c) + 1 = nI (18 * 1 + 3 * c + 1) := kn_add _ 1
          have hx2 : nI (18 * 1 + 3 * c) + 2 = nI (18 * 1 + 3 * c + 2) := kn_add _ 2
          have hbx0 : ¬ (nI (18 * 1 + 3 * c) < 0 ∨ 72 ≤ (nI (18 * 1 + 3 * c)).toNatClampNeg) := kn_in (by omega) (by omega)
          have hbx1 : ¬ (nI (18 * 1 + 3 * c + 1) < 0 ∨ 72 ≤ (nI (18 * 1 + 3 * c + 1)).toNatClampNeg) := kn_in (by omega) (by omega)
          have hbx2 : ¬ (nI (18 * 1 + 3 * c + 2) < 0 ∨ 72 ≤ (nI (18 * 1 + 3 * c + 2)).toNatClampNeg) := kn_in (by omega) (by omega)
          have hcx0 : (nI (18 * 1 + 3 * c)).toNatClampNeg = 18 * 1 + 3 * c := kn_cl (by omega)
          have hcx1 : (nI (18 * 1 + 3 * c + 1)).toNatClampNeg = 18 * 1 + 3 * c + 1 := kn_cl (by omega)
          have hcx2 : (nI (18 * 1 + 3 * c + 2)).toNatClampNeg = 18 * 1 + 3 * c + 2 := kn_cl (by omega)
          unfold kp_M_judge_225 kp_M_judge_255 kp_M_judge_272 kp_M_judge_328
          rw [if_neg hne, if_neg h12, if_pos rfl]
          simp only [if_neg hb, if_pos hlt6, if_neg (hbc h6), ↓reduceIte]
          simp only [hcl, hcc]
          simp only [i3', hx0, hx1, hx2]
          simp only [if_neg hbx0, if_neg hbx1, if_neg hbx2]
          simp only [hcx0, hcx1, hcx2]
          rw [show τ 18 1 = nI us from i10, i9', kn_succ, kt_bs]
          exact ⟨0, _, _, rfl, rfl, h0, kR_reg_1 H h6 g1 hd'⟩
        · have hc6 : c = 6 := by omega
          rw [if_pos (show nI c = 6 by rw [hc6]; rfl), if_neg (show ¬ nI c < 6 by rw [hc6]; decide), kt_bs]
          exact ⟨9, σ, τ, rfl, rfl, h0, H⟩
      · rw [ht, if_neg h21, if_neg h21, if_pos rfl, if_neg (show ¬ (0 : Int32) ≤ -1 by decide), kt_bs]
        exact ⟨8, σ, τ, rfl, rfl, h0, H⟩
  · have hKo : kp_K_judge_20 (nI i) l3 l4 σ = some (6, σ) := by
      unfold kp_K_judge_20 kp_K_judge_20_0
      rw [if_neg (fun z => hz (Or.inl z)), if_neg (fun z => hz (Or.inr z)), hK14, hc, if_neg ki_10, kt_bs]
    rw [if_neg (fun z => hz (Or.inl z)), if_neg (fun z => hz (Or.inr z))]
    exact ⟨6, σ, τ, hKo, rfl, h0, H⟩
theorem kR_reg_2 {n c : Nat} {σ τ : kt_S} {K u v : Int32} (H : kR n σ τ) (hc6 : c < 6) (hno : ∀ j, j < c → ¬ σ 25 j = K) (hd : ∀ x y, x < c → y < c → σ 25 x = σ 25 y → x = y) : kR n (kt_up (kt_up (kt_up (kt_up (kt_up σ 25 c K) 26 c u) 27 c v) 24 4 (nI (c + 1))) 24 5 0) (kt_up (kt_up (kt_up (kt_up (kt_up τ 16 (18 * 2 + 3 * c) K) 16 (18 * 2 + 3 * c + 1) u) 15 2 (nI (c + 1))) 16 (18 * 2 + 3 * c + 2) v) 17 2 0) := by
  obtain ⟨a, b, d, e, f, g, h, i⟩ := H
  refine ⟨a, b, d, e, f, g, h, kR_par_of ?_ ?_ ?_ ?_⟩
  · refine kR_par1_congr (σ := σ) (τ := τ) (q := 0) rfl rfl rfl rfl rfl rfl rfl (fun j h1 h2 => ?_) (i 0 (by omega))
    show upd (upd (upd (τ 16) (18 * 2 + 3 * c) K) (18 * 2 + 3 * c + 1) u) (18 * 2 + 3 * c + 2) v j = _
    unfold upd
    rw [if_neg (by omega), if_neg (by omega), if_neg (by omega)]
  · refine kR_par1_congr (σ := σ) (τ := τ) (q := 1) rfl rfl rfl rfl rfl rfl rfl (fun j h1 h2 => ?_) (i 1 (by omega))
    show upd (upd (upd (τ 16) (18 * 2 + 3 * c) K) (18 * 2 + 3 * c + 1) u) (18 * 2 + 3 * c + 2) v j = _
    unfold upd
    rw [if_neg (by omega), if_neg (by omega), if_neg (by omega)]
  · obtain ⟨i1, i2, i3, ⟨w, i4, i5, i6⟩, i7⟩ := i 2 (by omega)
    refine ⟨i1, ⟨c + 1, by omega, rfl, rfl, fun x y hx hy => ?_⟩, ⟨0, by omega, rfl, rfl⟩, ⟨w, i4, i5, i6⟩, fun k hk => ?_⟩
    · show upd (σ 25) c K x = upd (σ 25) c K y → x = y
      unfold upd
      by_cases h1 : x = c
      · by_cases h2 : y = c
        · intro; omega
        · rw [if_pos h1, if_neg h2]
          exact fun z => absurd z.symm (hno y (by omega))
      · by_cases h2 : y = c
        · rw [if_neg h1, if_pos h2]
          exact fun z => absurd z (hno x (by omega))
        · rw [if_neg h1, if_neg h2]
          exact hd x y (by omega) (by omega)
    · obtain ⟨p1, p2, p3⟩ := kP_put3 (f := τ 16) (b := 18 * 2) (c := c) (k := k) (x := K) (y := u) (z := v)
      obtain ⟨q1, q2, q3⟩ := i7 k hk
      refine ⟨p1.trans ?_, p2.trans ?_, p3.trans ?_⟩
      · show _ = upd (σ 25) c K k
        unfold upd
        rw [q1]
      · show _ = upd (σ 26) c u k
        unfold upd
        rw [q2]
      · show _ = upd (σ 27) c v k
        unfold upd
        rw [q3]
  · refine kR_par1_congr (σ := σ) (τ := τ) (q := 3) rfl rfl rfl rfl rfl rfl rfl (fun j h1 h2 => ?_) (i 3 (by omega))
    show upd (upd (upd (τ 16) (18 * 2 + 3 * c) K) (18 * 2 + 3 * c + 1) u) (18 * 2 + 3 * c + 2) v j = _
    unfold upd
    rw [if_neg (by omega), if_neg (by omega), if_neg (by omega)]
theorem kR_acc_2 {n c : Nat} {σ τ : kt_S} {v : Int32} (H : kR n σ τ) (hc6 : c < 6) : kR n (kt_up (kt_up σ 27 c v) 24 5 0) (kt_up (kt_up τ 16 (18 * 2 + 3 * c + 2) v) 17 2 0) := by
  obtain ⟨a, b, d, e, f, g, h, i⟩ := H
  refine ⟨a, b, d, e, f, g, h, kR_par_of ?_ ?_ ?_ ?_⟩
  · refine kR_par1_congr (σ := σ) (τ := τ) (q := 0) rfl rfl rfl rfl rfl rfl rfl (fun j h1 h2 => ?_) (i 0 (by omega))
    show upd (τ 16) (18 * 2 + 3 * c + 2) v j = _
    unfold upd
    rw [if_neg (by omega)]
  · refine kR_par1_congr (σ := σ) (τ := τ) (q := 1) rfl rfl rfl rfl rfl rfl rfl (fun j h1 h2 => ?_) (i 1 (by omega))
    show upd (τ 16) (18 * 2 + 3 * c + 2) v j = _
    unfold upd
    rw [if_neg (by omega)]
  · obtain ⟨i1, ⟨c', i2, i3, i4, i5⟩, i6, i7, i8⟩ := i 2 (by omega)
    refine ⟨i1, ⟨c', i2, i3, i4, i5⟩, ⟨0, by omega, rfl, rfl⟩, i7, fun k hk => ?_⟩
    obtain ⟨p1, p2, p3⟩ := kP_put1 (f := τ 16) (b := 18 * 2) (c := c) (k := k) (z := v)
    obtain ⟨q1, q2, q3⟩ := i8 k hk
    refine ⟨p1.trans q1, p2.trans q2, p3.trans ?_⟩
    show _ = upd (σ 27) c v k
    unfold upd
    rw [q3]
  · refine kR_par1_congr (σ := σ) (τ := τ) (q := 3) rfl rfl rfl rfl rfl rfl rfl (fun j h1 h2 => ?_) (i 3 (by omega))
    show upd (τ 16) (18 * 2 + 3 * c + 2) v j = _
    unfold upd
    rw [if_neg (by omega)]
theorem kR_judge_2 {n k i : Nat} {σ τ : kt_S} (H : kR n σ τ) (h0 : τ 0 0 = 0) (hn : n < 10000) (hk : k ≤ n) (hs : σ 4 1 = nI k) (hi1 : 1 ≤ i) (hik : i ≤ k) (hki : k < i + 40) (hh : kp_G_has (nI i) σ = some (1, σ)) (l3 l4 : Int32) : kR_ret n (kp_K_judge_24 (nI i) l3 l4 σ) (kp_M_judge (nI 2) (nI i - 1) l3 l4 τ) := by
  have hi : i < 1000000 := by omega
  obtain ⟨i1, ⟨c, c6, i2, i3, hd⟩, ⟨o, i4, i5, i6⟩, ⟨us, i8, i9, i10⟩, i7⟩ := H.2.2.2.2.2.2.2 2 (by omega)
  have i1' : σ 24 0 = nI 2 := i1
  have i2' : σ 24 4 = nI c := i2
  have i5' : σ 24 5 = nI o := i5
  have i9' : σ 24 6 = nI us := i9
  have hd' : ∀ x y, x < c → y < c → σ 25 x = σ 25 y → x = y := hd
  have i7' : ∀ k, k < 6 → τ 16 (18 * 2 + 3 * k) = σ 25 k ∧ τ 16 (18 * 2 + 3 * k + 1) = σ 26 k ∧ τ 16 (18 * 2 + 3 * k + 2) = σ 27 k := i7
  have hty : kG_F σ i 0 = 1 ∨ kG_F σ i 0 = 2 := H.2.2.2.2.2.2.1.2 k i (by omega) hs hi1 hik hki
  have hb : ¬ (nI 2 < 0 ∨ 4 ≤ (nI 2).toNatClampNeg) := kn_in (by omega) (by omega)
  have hcl : (nI 2).toNatClampNeg = 2 := kn_cl (by omega)
  have hA1 : kp_K_alteredField (nI i) 1 l3 l4 σ = some (kG_A σ i 1 l3 l4, σ) := kG_altered (w := 1) hi (by omega) (by omega) hh l3 l4
  have hA2 : kp_K_alteredField (nI i) 2 l3 l4 σ = some (kG_A σ i 2 l3 l4, σ) := kG_altered (w := 2) hi (by omega) (by omega) hh l3 l4
  have hA3 : kp_K_alteredField (nI i) 3 l3 l4 σ = some (kG_A σ i 3 l3 l4, σ) := kG_altered (w := 3) hi (by omega) (by omega) hh l3 l4
  have hA4 : kp_K_alteredField (nI i) 4 l3 l4 σ = some (kG_A σ i 4 l3 l4, σ) := kG_altered (w := 4) hi (by omega) (by omega) hh l3 l4
  have hA5 : kp_K_alteredField (nI i) 5 l3 l4 σ = some (kG_A σ i 5 l3 l4, σ) := kG_altered (w := 5) hi (by omega) (by omega) hh l3 l4
  have hK14 : ∀ t0, kp_K_judge_24_14_r24 (nI i) l3 l4 t0 σ = Option.bind (kp_P_judge_24 (kG_A σ i 1 l3 l4) (kG_A σ i 2 l3 l4) (kG_A σ i 3 l3 l4) (kG_A σ i 4 l3 l4) (kG_A σ i 5 l3 l4) t0 σ) fun x6 => some (x6.1, x6.2) := fun t0 => by
    unfold kp_K_judge_24_14_r24
    rw [hA1, kt_bs]; dsimp only
    rw [hA2, kt_bs]; dsimp only
    rw [hA3, kt_bs]; dsimp only
    rw [hA4, kt_bs]; dsimp only
    rw [hA5, kt_bs]
  rw [km_judge H hi1 hi]
  unfold kp_M_judge_83 kp_M_judge_127
  rw [if_neg hb, hcl, kG_A4, show τ 17 2 = nI o from i6]
  have hcase : (¬ kG_A σ i 4 l3 l4 = 4 * nI o + nI 2 ∧ ∀ t0, kp_P_judge_24 (kG_A σ i 1 l3 l4) (kG_A σ i 2 l3 l4) (kG_A σ i 3 l3 l4) (kG_A σ i 4 l3 l4) (kG_A σ i 5 l3 l4) t0 σ = some (2, σ)) ∨ (kG_A σ i 4 l3 l4 = 4 * nI o + nI 2 ∧ ¬ kG_A σ i 3 l3 l4 = 752 + nI 2 ∧ ∀ t0, kp_P_judge_24 (kG_A σ i 1 l3 l4) (kG_A σ i 2 l3 l4) (kG_A σ i 3 l3 l4) (kG_A σ i 4 l3 l4) (kG_A σ i 5 l3 l4) t0 σ = some (3, σ)) ∨ (kG_A σ i 4 l3 l4 = 4 * nI o + nI 2 ∧ kG_A σ i 3 l3 l4 = 752 + nI 2 ∧ ∀ t0, kp_P_judge_24 (kG_A σ i 1 l3 l4) (kG_A σ i 2 l3 l4) (kG_A σ i 3 l3 l4) (kG_A σ i 4 l3 l4) (kG_A σ i 5 l3 l4) t0 σ = if t0 = 0 then (if kG_A σ i 1 l3 l4 = 1 then Option.bind (kp_P_register_24 (kG_A σ i 2 l3 l4) (kG_A σ i 5 l3 l4) σ) (fun x2 => kp_P_judge_24_62 x2.1 x2.2) else Option.bind (kp_P_accept_24 (kG_A σ i 2 l3 l4) (kG_A σ i 5 l3 l4) σ) (fun x1 => kp_P_judge_24_62 x1.1 x1.2)) else some (6, σ)) := by
    unfold kp_P_judge_24 kp_P_judge_24_0
    rw [i5', i1']
    by_cases e4 : kG_A σ i 4 l3 l4 = 4 * nI o + nI 2
    · by_cases e3 : kG_A σ i 3 l3 l4 = 752 + nI 2
      · exact Or.inr (Or.inr ⟨e4, e3, fun t0 => by rw [if_pos e4, if_pos e3]⟩)
      · exact Or.inr (Or.inl ⟨e4, e3, fun t0 => by rw [if_pos e4, if_neg e3]⟩)
    · exact Or.inl ⟨e4, fun t0 => by rw [if_neg e4]⟩
  have hKt : ∀ r, (∀ t0, kp_P_judge_24 (kG_A σ i 1 l3 l4) (kG_A σ i 2 l3 l4) (kG_A σ i 3 l3 l4) (kG_A σ i 4 l3 l4) (kG_A σ i 5 l3 l4) t0 σ = some (r, σ)) → kp_K_judge_24 (nI i) l3 l4 σ = some (r, σ) := fun r hr => by
    unfold kp_K_judge_24 kp_K_judge_24_0 kp_K_judge_24_13_r24
    rw [hK14, hK14, hr, hr, kt_bs]
    by_cases e0 : l3 = 0
    · rw [if_pos e0]
    · rw [if_neg e0]
      by_cases e1 : l4 = 0
      · rw [if_pos e1]
      · rw [if_neg e1]
  rcases hcase with ⟨e4, hc⟩ | ⟨e4, e3, hc⟩ | ⟨e4, e3, hc⟩
  · rw [if_neg e4]
    exact ⟨2, σ, τ, hKt 2 hc, rfl, h0, H⟩
  · rw [if_pos e4, if_neg e3]
    exact ⟨3, σ, τ, hKt 3 hc, rfl, h0, H⟩
  rw [if_pos e4, if_pos e3]
  by_cases hz : l3 = 0 ∨ l4 = 0
  · have a1 : kG_A σ i 1 l3 l4 = kG_F σ i 0 := kG_A0 (w := 1) (by omega) hz
    have a2 : kG_A σ i 2 l3 l4 = kG_F σ i 1 := kG_A0 (w := 2) (by omega) hz
    have a5 : kG_A σ i 5 l3 l4 = kG_F σ i 4 := kG_A0 (w := 5) (by omega) hz
    have hKz : kp_K_judge_24 (nI i) l3 l4 σ = Option.bind (if kG_F σ i 0 = 1 then Option.bind (kp_P_register_24 (kG_F σ i 1) (kG_F σ i 4) σ) (fun x2 => kp_P_judge_24_62 x2.1 x2.2) else Option.bind (kp_P_accept_24 (kG_F σ i 1) (kG_F σ i 4) σ) (fun x1 => kp_P_judge_24_62 x1.1 x1.2)) fun x6 => some (x6.1, x6.2) := by
      have e : kp_K_judge_24 (nI i) l3 l4 σ = kp_K_judge_24_14_r24 (nI i) l3 l4 0 σ := by
        unfold kp_K_judge_24 kp_K_judge_24_0 kp_K_judge_24_13_r24
        by_cases e0 : l3 = 0
        · rw [if_pos e0]
        · rw [if_neg e0, if_pos (hz.resolve_left e0)]
      rw [e, hK14, hc, if_pos rfl, a1, a2, a5]
    have hMz : (if l3 = 0 then kp_M_judge_133 100 (nI 2) (kG_F σ i 0) (kG_F σ i 1) (kG_F σ i 4) (-1) 0 τ else if l4 = 0 then kp_M_judge_133 100 (nI 2) (kG_F σ i 0) (kG_F σ i 1) (kG_F σ i 4) (-1) 0 τ else some (6, τ)) = kp_M_judge_133 100 (nI 2) (kG_F σ i 0) (kG_F σ i 1) (kG_F σ i 4) (-1) 0 τ := by
      by_cases e0 : l3 = 0
      · rw [if_pos e0]
      · rw [if_neg e0, if_pos (hz.resolve_left e0)]
    rw [hMz, hKz]
    obtain ⟨y, hy, hyc⟩ := km_judge_loop (τ := τ) (p := 2) (c := c) (by omega) i3 c6 (kG_F σ i 0) (kG_F σ i 1) (kG_F σ i 4) c 0 100 (-1) (by omega) (by omega)
    have hy' : kp_M_judge_133 100 (nI 2) (kG_F σ i 0) (kG_F σ i 1) (kG_F σ i 4) (-1) 0 τ = kp_M_judge_189 (nI 2) (kG_F σ i 0) (kG_F σ i 1) (kG_F σ i 4) y (if kG_F σ i 0 = 1 then 1 else 0) τ := hy
    rw [hy']
    unfold kp_M_judge_189 kp_M_judge_199
    have hfind : (∃ j, j < c ∧ σ 25 j = kG_F σ i 1 ∧ y = nI j ∧ kp_P_find_24 (kG_F σ i 1) σ = some (nI j, σ)) ∨ ((∀ j, j < c → ¬ σ 25 j = kG_F σ i 1) ∧ y = -1 ∧ kp_P_find_24 (kG_F σ i 1) σ = some (-1, σ)) := by
      rcases kP_find_24 (kG_F σ i 1) i2' c6 with ⟨j, g1, g2, g3⟩ | ⟨g1, g2⟩
      · refine Or.inl ⟨j, g1, g2, ?_, g3⟩
        rcases hyc with ⟨_, y2⟩ | ⟨j', y1, y2, y3, y4⟩
        · exact absurd ((i7' j (by omega)).1.trans g2) (y2 j (by omega) g1)
        · rw [y4]
          rw [hd' j' j y2 g1 ((i7' j' (by omega)).1.symm.trans (y3.trans g2.symm))]
      · refine Or.inr ⟨g1, ?_, g2⟩
        rcases hyc with ⟨y1, _⟩ | ⟨j', y1, y2, y3, y4⟩
        · exact y1
        · exact absurd ((i7' j' (by omega)).1.symm.trans y3) (g1 j' y2)
    have hm1 : (-1 : Int32) < 0 := by decide
    have h12 : ¬ (1 : Int32) = 2 := by decide
    have h21 : ¬ (2 : Int32) = 1 := by decide
    have h01 : ¬ (0 : Int32) = 1 := by decide
    unfold kp_P_register_24 kp_P_register_24_0 kp_P_accept_24 kp_P_accept_24_0
    rcases hfind with ⟨j, g1, g2, rfl, g3⟩ | ⟨g1, rfl, g3⟩
    · have hjn : ¬ nI j < 0 := kn_nn (by omega)
      rw [g3, kt_bs, kt_bs, if_neg hjn]
      dsimp only
      rcases hty with ht | ht
      · rw [ht, if_pos rfl, if_pos rfl, if_neg hjn, kt_bs]
        exact ⟨8, σ, τ, rfl, if_pos rfl, h0, H⟩
      · have hj0 : (0 : Int32) ≤ nI j := kn_leR (a := 0) (b := j) (by omega) (by omega)
        have hbj : ¬ (nI j < 0 ∨ 6 ≤ (nI j).toNatClampNeg) := kn_in (by omega) (by omega)
        have hx : (18 : Int32) * nI 2 + 3 * nI j + 2 = nI (18 * 2 + 3 * j + 2) := by
          rw [km_i3]
          exact kn_add _ 2
        have hb2 : ¬ (nI (18 * 2 + 3 * j + 2) < 0 ∨ 72 ≤ (nI (18 * 2 + 3 * j + 2)).toNatClampNeg) := kn_in (by omega) (by omega)
        have hcj : (nI j).toNatClampNeg = j := kn_cl (by omega)
        have hcx : (nI (18 * 2 + 3 * j + 2)).toNatClampNeg = 18 * 2 + 3 * j + 2 := kn_cl (by omega)
        have hlast : τ 16 (18 * 2 + 3 * j + 2) = σ 27 j := (i7' j (by omega)).2.2
        unfold kp_M_judge_225 kp_M_judge_255 kp_M_judge_272 kp_M_judge_328
        rw [ht, if_neg h21, if_neg h21, if_neg h01, if_pos hj0, hx]
        simp only [if_neg hjn, if_neg h21, if_neg h01, if_neg hbj, if_neg hb2, if_neg hb, ↓reduceIte]
        simp only [hcj, hcx, hcl, hlast]
        by_cases hlt : σ 27 j < kG_F σ i 4
        · rw [if_pos hlt, if_pos hlt, kt_bs]
          exact ⟨0, _, _, rfl, rfl, h0, kR_acc_2 (c := j) (v := kG_F σ i 4) H (by omega)⟩
        · rw [if_neg hlt, if_neg hlt, kt_bs]
          exact ⟨7, σ, τ, rfl, rfl, h0, H⟩
    · rw [g3, kt_bs, kt_bs, if_pos hm1]
      dsimp only
      rcases hty with ht | ht
      · rw [ht, if_pos rfl, if_pos rfl, if_pos hm1, if_neg ki_10]
        have hbc : ∀ h : c < 6, ¬ (nI c < 0 ∨ 6 ≤ (nI c).toNatClampNeg) := fun h => kn_in (by omega) (by omega)
        have hcc : (nI c).toNatClampNeg = c := kn_cl (by omega)
        have i3' : τ 15 2 = nI c := i3
        simp only [i2', if_neg hb, ↓reduceIte]
        simp only [hcl, i3']
        by_cases h6 : c < 6
        · have hne : ¬ nI c = 6 := fun z => by
            have := (kn_eq (a := c) (b := 6) (by omega) (by omega)).mp z
            omega
          have hlt6 : nI c < 6 := (kn_lt (a := c) (b := 6) (by omega) (by omega)).mpr h6
          have hx0 : (18 : Int32) * nI 2 + 3 * nI c = nI (18 * 2 + 3 * c) := km_i3 _ _
          have hx1 : nI (18 * 2 + 3 * c) + 1 = nI (18 * 2 + 3 * c + 1) := kn_add _ 1
          have hx2 : nI (18 * 2 + 3 * c) + 2 = nI (18 * 2 + 3 * c + 2) := kn_add _ 2
          have hbx0 : ¬ (nI (18 * 2 + 3 * c) < 0 ∨ 72 ≤ (nI (18 * 2 + 3 * c)).toNatClampNeg) := kn_in (by omega) (by omega)
          have hbx1 : ¬ (nI (18 * 2 + 3 * c + 1) < 0 ∨ 72 ≤ (nI (18 * 2 + 3 * c + 1)).toNatClampNeg) := kn_in (by omega) (by omega)
          have hbx2 : ¬ (nI (18 * 2 + 3 * c + 2) < 0 ∨ 72 ≤ (nI (18 * 2 + 3 * c + 2)).toNatClampNeg) := kn_in (by omega) (by omega)
          have hcx0 : (nI (18 * 2 + 3 * c)).toNatClampNeg = 18 * 2 + 3 * c := kn_cl (by omega)
          have hcx1 : (nI (18 * 2 + 3 * c + 1)).toNatClampNeg = 18 * 2 + 3 * c + 1 := kn_cl (by omega)
          have hcx2 : (nI (18 * 2 + 3 * c + 2)).toNatClampNeg = 18 * 2 + 3 * c + 2 := kn_cl (by omega)
          unfold kp_M_judge_225 kp_M_judge_255 kp_M_judge_272 kp_M_judge_328
          rw [if_neg hne, if_neg h12, if_pos rfl]
          simp only [if_neg hb, if_pos hlt6, if_neg (hbc h6), ↓reduceIte]
          simp only [hcl, hcc]
          simp only [i3', hx0, hx1, hx2]
          simp only [if_neg hbx0, if_neg hbx1, if_neg hbx2]
          simp only [hcx0, hcx1, hcx2]
          rw [show τ 18 2 = nI us from i10, i9', kn_succ, kt_bs]
          exact ⟨0, _, _, rfl, rfl, h0, kR_reg_2 H h6 g1 hd'⟩
        · have hc6 : c = 6 := by omega
          rw [if_pos (show nI c = 6 by rw [hc6]; rfl), if_neg (show ¬ nI c < 6 by rw [hc6]; decide), kt_bs]
          exact ⟨9, σ, τ, rfl, rfl, h0, H⟩
      · rw [ht, if_neg h21, if_neg h21, if_pos rfl, if_neg (show ¬ (0 : Int32) ≤ -1 by decide), kt_bs]
        exact ⟨8, σ, τ, rfl, rfl, h0, H⟩
  · have hKo : kp_K_judge_24 (nI i) l3 l4 σ = some (6, σ) := by
      unfold kp_K_judge_24 kp_K_judge_24_0
      rw [if_neg (fun z => hz (Or.inl z)), if_neg (fun z => hz (Or.inr z)), hK14, hc, if_neg ki_10, kt_bs]
    rw [if_neg (fun z => hz (Or.inl z)), if_neg (fun z => hz (Or.inr z))]
    exact ⟨6, σ, τ, hKo, rfl, h0, H⟩
theorem kR_reg_3 {n c : Nat} {σ τ : kt_S} {K u v : Int32} (H : kR n σ τ) (hc6 : c < 6) (hno : ∀ j, j < c → ¬ σ 29 j = K) (hd : ∀ x y, x < c → y < c → σ 29 x = σ 29 y → x = y) : kR n (kt_up (kt_up (kt_up (kt_up (kt_up σ 29 c K) 30 c u) 31 c v) 28 4 (nI (c + 1))) 28 5 0) (kt_up (kt_up (kt_up (kt_up (kt_up τ 16 (18 * 3 + 3 * c) K) 16 (18 * 3 + 3 * c + 1) u) 15 3 (nI (c + 1))) 16 (18 * 3 + 3 * c + 2) v) 17 3 0) := by
  obtain ⟨a, b, d, e, f, g, h, i⟩ := H
  refine ⟨a, b, d, e, f, g, h, kR_par_of ?_ ?_ ?_ ?_⟩
  · refine kR_par1_congr (σ := σ) (τ := τ) (q := 0) rfl rfl rfl rfl rfl rfl rfl (fun j h1 h2 => ?_) (i 0 (by omega))
    show upd (upd (upd (τ 16) (18 * 3 + 3 * c) K) (18 * 3 + 3 * c + 1) u) (18 * 3 + 3 * c + 2) v j = _
    unfold upd
    rw [if_neg (by omega), if_neg (by omega), if_neg (by omega)]
  · refine kR_par1_congr (σ := σ) (τ := τ) (q := 1) rfl rfl rfl rfl rfl rfl rfl (fun j h1 h2 => ?_) (i 1 (by omega))
    show upd (upd (upd (τ 16) (18 * 3 + 3 * c) K) (18 * 3 + 3 * c + 1) u) (18 * 3 + 3 * c + 2) v j = _
    unfold upd
    rw [if_neg (by omega), if_neg (by omega), if_neg (by omega)]
  · refine kR_par1_congr (σ := σ) (τ := τ) (q := 2) rfl rfl rfl rfl rfl rfl rfl (fun j h1 h2 => ?_) (i 2 (by omega))
    show upd (upd (upd (τ 16) (18 * 3 + 3 * c) K) (18 * 3 + 3 * c + 1) u) (18 * 3 + 3 * c + 2) v j = _
    unfold upd
    rw [if_neg (by omega), if_neg (by omega), if_neg (by omega)]
  · obtain ⟨i1, i2, i3, ⟨w, i4, i5, i6⟩, i7⟩ := i 3 (by omega)
    refine ⟨i1, ⟨c + 1, by omega, rfl, rfl, fun x y hx hy => ?_⟩, ⟨0, by omega, rfl, rfl⟩, ⟨w, i4, i5, i6⟩, fun k hk => ?_⟩
    · show upd (σ 29) c K x = upd (σ 29) c K y → x = y
      unfold upd
      by_cases h1 : x = c
      · by_cases h2 : y = c
        · intro; omega
        · rw [if_pos h1, if_neg h2]
          exact fun z => absurd z.symm (hno y (by omega))
      · by_cases h2 : y = c
        · rw [if_neg h1, if_pos h2]
          exact fun z => absurd z (hno x (by omega))
        · rw [if_neg h1, if_neg h2]
          exact hd x y (by omega) (by omega)
    · obtain ⟨p1, p2, p3⟩ := kP_put3 (f := τ 16) (b := 18 * 3) (c := c) (k := k) (x := K) (y := u) (z := v)
      obtain ⟨q1, q2, q3⟩ := i7 k hk
      refine ⟨p1.trans ?_, p2.trans ?_, p3.trans ?_⟩
      · show _ = upd (σ 29) c K k
        unfold upd
        rw [q1]
      · show _ = upd (σ 30) c u k
        unfold upd
        rw [q2]
      · show _ = upd (σ 31) c v k
        unfold upd
        rw [q3]
theorem kR_acc_3 {n c : Nat} {σ τ : kt_S} {v : Int32} (H : kR n σ τ) (hc6 : c < 6) : kR n (kt_up (kt_up σ 31 c v) 28 5 0) (kt_up (kt_up τ 16 (18 * 3 + 3 * c + 2) v) 17 3 0) := by
  obtain ⟨a, b, d, e, f, g, h, i⟩ := H
  refine ⟨a, b, d, e, f, g, h, kR_par_of ?_ ?_ ?_ ?_⟩
  · refine kR_par1_congr (σ := σ) (τ := τ) (q := 0) rfl rfl rfl rfl rfl rfl rfl (fun j h1 h2 => ?_) (i 0 (by omega))
    show upd (τ 16) (18 * 3 + 3 * c + 2) v j = _
    unfold upd
    rw [if_neg (by omega)]
  · refine kR_par1_congr (σ := σ) (τ := τ) (q := 1) rfl rfl rfl rfl rfl rfl rfl (fun j h1 h2 => ?_) (i 1 (by omega))
    show upd (τ 16) (18 * 3 + 3 * c + 2) v j = _
    unfold upd
    rw [if_neg (by omega)]
  · refine kR_par1_congr (σ := σ) (τ := τ) (q := 2) rfl rfl rfl rfl rfl rfl rfl (fun j h1 h2 => ?_) (i 2 (by omega))
    show upd (τ 16) (18 * 3 + 3 * c + 2) v j = _
    unfold upd
    rw [if_neg (by omega)]
  · obtain ⟨i1, ⟨c', i2, i3, i4, i5⟩, i6, i7, i8⟩ := i 3 (by omega)
    refine ⟨i1, ⟨c', i2, i3, i4, i5⟩, ⟨0, by omega, rfl, rfl⟩, i7, fun k hk => ?_⟩
    obtain ⟨p1, p2, p3⟩ := kP_put1 (f := τ 16) (b := 18 * 3) (c := c) (k := k) (z := v)
    obtain ⟨q1, q2, q3⟩ := i8 k hk
    refine ⟨p1.trans q1, p2.trans q2, p3.trans ?_⟩
    show _ = upd (σ 31) c v k
    unfold upd
    rw [q3]
theorem kR_judge_3 {n k i : Nat} {σ τ : kt_S} (H : kR n σ τ) (h0 : τ 0 0 = 0) (hn : n < 10000) (hk : k ≤ n) (hs : σ 4 1 = nI k) (hi1 : 1 ≤ i) (hik : i ≤ k) (hki : k < i + 40) (hh : kp_G_has (nI i) σ = some (1, σ)) (l3 l4 : Int32) : kR_ret n (kp_K_judge_28 (nI i) l3 l4 σ) (kp_M_judge (nI 3) (nI i - 1) l3 l4 τ) := by
  have hi : i < 1000000 := by omega
  obtain ⟨i1, ⟨c, c6, i2, i3, hd⟩, ⟨o, i4, i5, i6⟩, ⟨us, i8, i9, i10⟩, i7⟩ := H.2.2.2.2.2.2.2 3 (by omega)
  have i1' : σ 28 0 = nI 3 := i1
  have i2' : σ 28 4 = nI c := i2
  have i5' : σ 28 5 = nI o := i5
  have i9' : σ 28 6 = nI us := i9
  have hd' : ∀ x y, x < c → y < c → σ 29 x = σ 29 y → x = y := hd
  have i7' : ∀ k, k < 6 → τ 16 (18 * 3 + 3 * k) = σ 29 k ∧ τ 16 (18 * 3 + 3 * k + 1) = σ 30 k ∧ τ 16 (18 * 3 + 3 * k + 2) = σ 31 k := i7
  have hty : kG_F σ i 0 = 1 ∨ kG_F σ i 0 = 2 := H.2.2.2.2.2.2.1.2 k i (by omega) hs hi1 hik hki
  have hb : ¬ (nI 3 < 0 ∨ 4 ≤ (nI 3).toNatClampNeg) := kn_in (by omega) (by omega)
  have hcl : (nI 3).toNatClampNeg = 3 := kn_cl (by omega)
  have hA1 : kp_K_alteredField (nI i) 1 l3 l4 σ = some (kG_A σ i 1 l3 l4, σ) := kG_altered (w := 1) hi (by omega) (by omega) hh l3 l4
  have hA2 : kp_K_alteredField (nI i) 2 l3 l4 σ = some (kG_A σ i 2 l3 l4, σ) := kG_altered (w := 2) hi (by omega) (by omega) hh l3 l4
  have hA3 : kp_K_alteredField (nI i) 3 l3 l4 σ = some (kG_A σ i 3 l3 l4, σ) := kG_altered (w := 3) hi (by omega) (by omega) hh l3 l4
  have hA4 : kp_K_alteredField (nI i) 4 l3 l4 σ = some (kG_A σ i 4 l3 l4, σ) := kG_altered (w := 4) hi (by omega) (by omega) hh l3 l4
  have hA5 : kp_K_alteredField (nI i) 5 l3 l4 σ = some (kG_A σ i 5 l3 l4, σ) := kG_altered (w := 5) hi (by omega) (by omega) hh l3 l4
  have hK14 : ∀ t0, kp_K_judge_28_14_r28 (nI i) l3 l4 t0 σ = Option.bind (kp_P_judge_28 (kG_A σ i 1 l3 l4) (kG_A σ i 2 l3 l4) (kG_A σ i 3 l3 l4) (kG_A σ i 4 l3 l4) (kG_A σ i 5 l3 l4) t0 σ) fun x6 => some (x6.1, x6.2) := fun t0 => by
    unfold kp_K_judge_28_14_r28
    rw [hA1, kt_bs]; dsimp only
    rw [hA2, kt_bs]; dsimp only
    rw [hA3, kt_bs]; dsimp only
    rw [hA4, kt_bs]; dsimp only
    rw [hA5, kt_bs]
  rw [km_judge H hi1 hi]
  unfold kp_M_judge_83 kp_M_judge_127
  rw [if_neg hb, hcl, kG_A4, show τ 17 3 = nI o from i6]
  have hcase : (¬ kG_A σ i 4 l3 l4 = 4 * nI o + nI 3 ∧ ∀ t0, kp_P_judge_28 (kG_A σ i 1 l3 l4) (kG_A σ i 2 l3 l4) (kG_A σ i 3 l3 l4) (kG_A σ i 4 l3 l4) (kG_A σ i 5 l3 l4) t0 σ = some (2, σ)) ∨ (kG_A σ i 4 l3 l4 = 4 * nI o + nI 3 ∧ ¬ kG_A σ i 3 l3 l4 = 752 + nI 3 ∧ ∀ t0, kp_P_judge_28 (kG_A σ i 1 l3 l4) (kG_A σ i 2 l3 l4) (kG_A σ i 3 l3 l4) (kG_A σ i 4 l3 l4) (kG_A σ i 5 l3 l4) t0 σ = some (3, σ)) ∨ (kG_A σ i 4 l3 l4 = 4 * nI o + nI 3 ∧ kG_A σ i 3 l3 l4 = 752 + nI 3 ∧ ∀ t0, kp_P_judge_28 (kG_A σ i 1 l3 l4) (kG_A σ i 2 l3 l4) (kG_A σ i 3 l3 l4) (kG_A σ i 4 l3 l4) (kG_A σ i 5 l3 l4) t0 σ = if t0 = 0 then (if kG_A σ i 1 l3 l4 = 1 then Option.bind (kp_P_register_28 (kG_A σ i 2 l3 l4) (kG_A σ i 5 l3 l4) σ) (fun x2 => kp_P_judge_28_62 x2.1 x2.2) else Option.bind (kp_P_accept_28 (kG_A σ i 2 l3 l4) (kG_A σ i 5 l3 l4) σ) (fun x1 => kp_P_judge_28_62 x1.1 x1.2)) else some (6, σ)) := by
    unfold kp_P_judge_28 kp_P_judge_28_0
    rw [i5', i1']
    by_cases e4 : kG_A σ i 4 l3 l4 = 4 * nI o + nI 3
    · by_cases e3 : kG_A σ i 3 l3 l4 = 752 + nI 3
      · exact Or.inr (Or.inr ⟨e4, e3, fun t0 => by rw [if_pos e4, if_pos e3]⟩)
      · exact Or.inr (Or.inl ⟨e4, e3, fun t0 => by rw [if_pos e4, if_neg e3]⟩)
    · exact Or.inl ⟨e4, fun t0 => by rw [if_neg e4]⟩
  have hKt : ∀ r, (∀ t0, kp_P_judge_28 (kG_A σ i 1 l3 l4) (kG_A σ i 2 l3 l4) (kG_A σ i 3 l3 l4) (kG_A σ i 4 l3 l4) (kG_A σ i 5 l3 l4) t0 σ = some (r, σ)) → kp_K_judge_28 (nI i) l3 l4 σ = some (r, σ) := fun r hr => by
    unfold kp_K_judge_28 kp_K_judge_28_0 kp_K_judge_28_13_r28
    rw [hK14, hK14, hr, hr, kt_bs]
    by_cases e0 : l3 = 0
    · rw [if_pos e0]
    · rw [if_neg e0]
      by_cases e1 : l4 = 0
      · rw [if_pos e1]
      · rw [if_neg e1]
  rcases hcase with ⟨e4, hc⟩ | ⟨e4, e3, hc⟩ | ⟨e4, e3, hc⟩
  · rw [if_neg e4]
    exact ⟨2, σ, τ, hKt 2 hc, rfl, h0, H⟩
  · rw [if_pos e4, if_neg e3]
    exact ⟨3, σ, τ, hKt 3 hc, rfl, h0, H⟩
  rw [if_pos e4, if_pos e3]
  by_cases hz : l3 = 0 ∨ l4 = 0
  · have a1 : kG_A σ i 1 l3 l4 = kG_F σ i 0 := kG_A0 (w := 1) (by omega) hz
    have a2 : kG_A σ i 2 l3 l4 = kG_F σ i 1 := kG_A0 (w := 2) (by omega) hz
    have a5 : kG_A σ i 5 l3 l4 = kG_F σ i 4 := kG_A0 (w := 5) (by omega) hz
    have hKz : kp_K_judge_28 (nI i) l3 l4 σ = Option.bind (if kG_F σ i 0 = 1 then Option.bind (kp_P_register_28 (kG_F σ i 1) (kG_F σ i 4) σ) (fun x2 => kp_P_judge_28_62 x2.1 x2.2) else Option.bind (kp_P_accept_28 (kG_F σ i 1) (kG_F σ i 4) σ) (fun x1 => kp_P_judge_28_62 x1.1 x1.2)) fun x6 => some (x6.1, x6.2) := by
      have e : kp_K_judge_28 (nI i) l3 l4 σ = kp_K_judge_28_14_r28 (nI i) l3 l4 0 σ := by
        unfold kp_K_judge_28 kp_K_judge_28_0 kp_K_judge_28_13_r28
        by_cases e0 : l3 = 0
        · rw [if_pos e0]
        · rw [if_neg e0, if_pos (hz.resolve_left e0)]
      rw [e, hK14, hc, if_pos rfl, a1, a2, a5]
    have hMz : (if l3 = 0 then kp_M_judge_133 100 (nI 3) (kG_F σ i 0) (kG_F σ i 1) (kG_F σ i 4) (-1) 0 τ else if l4 = 0 then kp_M_judge_133 100 (nI 3) (kG_F σ i 0) (kG_F σ i 1) (kG_F σ i 4) (-1) 0 τ else some (6, τ)) = kp_M_judge_133 100 (nI 3) (kG_F σ i 0) (kG_F σ i 1) (kG_F σ i 4) (-1) 0 τ := by
      by_cases e0 : l3 = 0
      · rw [if_pos e0]
      · rw [if_neg e0, if_pos (hz.resolve_left e0)]
    rw [hMz, hKz]
    obtain ⟨y, hy, hyc⟩ := km_judge_loop (τ := τ) (p := 3) (c := c) (by omega) i3 c6 (kG_F σ i 0) (kG_F σ i 1) (kG_F σ i 4) c 0 100 (-1) (by omega) (by omega)
    have hy' : kp_M_judge_133 100 (nI 3) (kG_F σ i 0) (kG_F σ i 1) (kG_F σ i 4) (-1) 0 τ = kp_M_judge_189 (nI 3) (kG_F σ i 0) (kG_F σ i 1) (kG_F σ i 4) y (if kG_F σ i 0 = 1 then 1 else 0) τ := hy
    rw [hy']
    unfold kp_M_judge_189 kp_M_judge_199
    have hfind : (∃ j, j < c ∧ σ 29 j = kG_F σ i 1 ∧ y = nI j ∧ kp_P_find_28 (kG_F σ i 1) σ = some (nI j, σ)) ∨ ((∀ j, j < c → ¬ σ 29 j = kG_F σ i 1) ∧ y = -1 ∧ kp_P_find_28 (kG_F σ i 1) σ = some (-1, σ)) := by
      rcases kP_find_28 (kG_F σ i 1) i2' c6 with ⟨j, g1, g2, g3⟩ | ⟨g1, g2⟩
      · refine Or.inl ⟨j, g1, g2, ?_, g3⟩
        rcases hyc with ⟨_, y2⟩ | ⟨j', y1, y2, y3, y4⟩
        · exact absurd ((i7' j (by omega)).1.trans g2) (y2 j (by omega) g1)
        · rw [y4]
          rw [hd' j' j y2 g1 ((i7' j' (by omega)).1.symm.trans (y3.trans g2.symm))]
      · refine Or.inr ⟨g1, ?_, g2⟩
        rcases hyc with ⟨y1, _⟩ | ⟨j', y1, y2, y3, y4⟩
        · exact y1
        · exact absurd ((i7' j' (by omega)).1.symm.trans y3) (g1 j' y2)
    have hm1 : (-1 : Int32) < 0 := by decide
    have h12 : ¬ (1 : Int32) = 2 := by decide
    have h21 : ¬ (2 : Int32) = 1 := by decide
    have h01 : ¬ (0 : Int32) = 1 := by decide
    unfold kp_P_register_28 kp_P_register_28_0 kp_P_accept_28 kp_P_accept_28_0
    rcases hfind with ⟨j, g1, g2, rfl, g3⟩ | ⟨g1, rfl, g3⟩
    · have hjn : ¬ nI j < 0 := kn_nn (by omega)
      rw [g3, kt_bs, kt_bs, if_neg hjn]
      dsimp only
      rcases hty with ht | ht
      · rw [ht, if_pos rfl, if_pos rfl, if_neg hjn, kt_bs]
        exact ⟨8, σ, τ, rfl, if_pos rfl, h0, H⟩
      · have hj0 : (0 : Int32) ≤ nI j := kn_leR (a := 0) (b := j) (by omega) (by omega)
        have hbj : ¬ (nI j < 0 ∨ 6 ≤ (nI j).toNatClampNeg) := kn_in (by omega) (by omega)
        have hx : (18 : Int32) * nI 3 + 3 * nI j + 2 = nI (18 * 3 + 3 * j + 2) := by
          rw [km_i3]
          exact kn_add _ 2
        have hb2 : ¬ (nI (18 * 3 + 3 * j + 2) < 0 ∨ 72 ≤ (nI (18 * 3 + 3 * j + 2)).toNatClampNeg) := kn_in (by omega) (by omega)
        have hcj : (nI j).toNatClampNeg = j := kn_cl (by omega)
        have hcx : (nI (18 * 3 + 3 * j + 2)).toNatClampNeg = 18 * 3 + 3 * j + 2 := kn_cl (by omega)
        have hlast : τ 16 (18 * 3 + 3 * j + 2) = σ 31 j := (i7' j (by omega)).2.2
        unfold kp_M_judge_225 kp_M_judge_255 kp_M_judge_272 kp_M_judge_328
        rw [ht, if_neg h21, if_neg h21, if_neg h01, if_pos hj0, hx]
        simp only [if_neg hjn, if_neg h21, if_neg h01, if_neg hbj, if_neg hb2, if_neg hb, ↓reduceIte]
        simp only [hcj, hcx, hcl, hlast]
        by_cases hlt : σ 31 j < kG_F σ i 4
        · rw [if_pos hlt, if_pos hlt, kt_bs]
          exact ⟨0, _, _, rfl, rfl, h0, kR_acc_3 (c := j) (v := kG_F σ i 4) H (by omega)⟩
        · rw [if_neg hlt, if_neg hlt, kt_bs]
          exact ⟨7, σ, τ, rfl, rfl, h0, H⟩
    · rw [g3, kt_bs, kt_bs, if_pos hm1]
      dsimp only
      rcases hty with ht | ht
      · rw [ht, if_pos rfl, if_pos rfl, if_pos hm1, if_neg ki_10]
        have hbc : ∀ h : c < 6, ¬ (nI c < 0 ∨ 6 ≤ (nI c).toNatClampNeg) := fun h => kn_in (by omega) (by omega)
        have hcc : (nI c).toNatClampNeg = c := kn_cl (by omega)
        have i3' : τ 15 3 = nI c := i3
        simp only [i2', if_neg hb, ↓reduceIte]
        simp only [hcl, i3']
        by_cases h6 : c < 6
        · have hne : ¬ nI c = 6 := fun z => by
            have := (kn_eq (a := c) (b := 6) (by omega) (by omega)).mp z
            omega
          have hlt6 : nI c < 6 := (kn_lt (a := c) (b := 6) (by omega) (by omega)).mpr h6
          have hx0 : (18 : Int32) * nI 3 + 3 * nI c = nI (18 * 3 + 3 * c) := km_i3 _ _
          have hx1 : nI (18 * 3 + 3 * c) + 1 = nI (18 * 3 + 3 * c + 1) := kn_add _ 1
          have hx2 : nI (18 * 3 + 3 * c) + 2 = nI (18 * 3 + 3 * c + 2) := kn_add _ 2
          have hbx0 : ¬ (nI (18 * 3 + 3 * c) < 0 ∨ 72 ≤ (nI (18 * 3 + 3 * c)).toNatClampNeg) := kn_in (by omega) (by omega)
          have hbx1 : ¬ (nI (18 * 3 + 3 * c + 1) < 0 ∨ 72 ≤ (nI (18 * 3 + 3 * c + 1)).toNatClampNeg) := kn_in (by omega) (by omega)
          have hbx2 : ¬ (nI (18 * 3 + 3 * c + 2) < 0 ∨ 72 ≤ (nI (18 * 3 + 3 * c + 2)).toNatClampNeg) := kn_in (by omega) (by omega)
          have hcx0 : (nI (18 * 3 + 3 * c)).toNatClampNeg = 18 * 3 + 3 * c := kn_cl (by omega)
          have hcx1 : (nI (18 * 3 + 3 * c + 1)).toNatClampNeg = 18 * 3 + 3 * c + 1 := kn_cl (by omega)
          have hcx2 : (nI (18 * 3 + 3 * c + 2)).toNatClampNeg = 18 * 3 + 3 * c + 2 := kn_cl (by omega)
          unfold kp_M_judge_225 kp_M_judge_255 kp_M_judge_272 kp_M_judge_328
          rw [if_neg hne, if_neg h12, if_pos rfl]
          simp only [if_neg hb, if_pos hlt6, if_neg (hbc h6), ↓reduceIte]
          simp only [hcl, hcc]
          simp only [i3', hx0, hx1, hx2]
          simp only [if_neg hbx0, if_neg hbx1, if_neg hbx2]
          simp only [hcx0, hcx1, hcx2]
          rw [show τ 18 3 = nI us from i10, i9', kn_succ, kt_bs]
          exact ⟨0, _, _, rfl, rfl, h0, kR_reg_3 H h6 g1 hd'⟩
        · have hc6 : c = 6 := by omega
          rw [if_pos (show nI c = 6 by rw [hc6]; rfl), if_neg (show ¬ nI c < 6 by rw [hc6]; decide), kt_bs]
          exact ⟨9, σ, τ, rfl, rfl, h0, H⟩
      · rw [ht, if_neg h21, if_neg h21, if_pos rfl, if_neg (show ¬ (0 : Int32) ≤ -1 by decide), kt_bs]
        exact ⟨8, σ, τ, rfl, rfl, h0, H⟩
  · have hKo : kp_K_judge_28 (nI i) l3 l4 σ = some (6, σ) := by
      unfold kp_K_judge_28 kp_K_judge_28_0
      rw [if_neg (fun z => hz (Or.inl z)), if_neg (fun z => hz (Or.inr z)), hK14, hc, if_neg ki_10, kt_bs]
    rw [if_neg (fun z => hz (Or.inl z)), if_neg (fun z => hz (Or.inr z))]
    exact ⟨6, σ, τ, hKo, rfl, h0, H⟩
def kT_offer (e : Nat) : Int32 := if e = 3 then 1 else if e = 2 then 2 else 3
theorem kR_ret_may {n : Nat} {T : Nat → Int32} {K M : Option (Int32 × kt_S)} (h : kR_ret n K M) : kR_may n T (Option.bind K fun x => some (Sum.inr x.1, x.2)) M := by
  obtain ⟨r, σ', τ', h1, h2, h3, h4⟩ := h
  refine Or.inl ⟨r, σ', τ', ?_, h2, h3, h4⟩
  rw [h1, kt_bs]
theorem km_bind_eta {o : Option (Int32 × kt_S)} : (Option.bind o fun x => some (x.1, x.2)) = o := by cases o <;> rfl
theorem kR_offer {n : Nat} {σ τ : kt_S} (H : kR n σ τ) (hn : n < 10000) (l1 l2 l3 l4 : Int32) : kR_may n kT_offer (kp_K_offer l1 l2 l3 l4 σ) (kp_M_offer l1 l2 l3 l4 τ) := by
  have T : ∀ v, kR n σ (kt_up τ 0 0 v) := fun v => kR_thr H
  have o1 : ∀ l1, kp_M_offer_47 l1 l2 l3 l4 1 τ = some (0, kt_up τ 0 0 1) := fun l1 => if_neg ki_n10
  have o2 : ∀ l1, kp_M_offer_47 l1 l2 l3 l4 2 τ = some (0, kt_up τ 0 0 2) := fun l1 => if_neg (by decide)
  have o3 : ∀ l1, kp_M_offer_47 l1 l2 l3 l4 3 τ = some (0, kt_up τ 0 0 3) := fun l1 => if_neg (by decide)
  have o0 : ∀ l1, kp_M_offer_47 l1 l2 l3 l4 0 τ = kp_M_judge l1 (l2 - 1) l3 l4 (kt_up τ 0 0 0) := fun l1 => by
    unfold kp_M_offer_47 kp_M_offer_72
    rw [if_pos ki_00, km_bind_eta]
  unfold kp_K_offer kp_K_offer_0 kp_K_offer_21 kp_M_offer kp_M_offer_0 kp_M_offer_17
  rcases kP_of l1 with h | rfl | rfl | rfl | rfl
  · rw [km_notP h, kt_bs]
    dsimp only
    rw [if_pos rfl, o1]
    refine Or.inr ⟨3, 0, σ, _, ?_, rfl, rfl, T 1⟩
    by_cases h1 : l1 < 0
    · rw [if_pos h1]
    · rw [if_neg h1, if_pos (h.resolve_left h1)]
  · rw [km_isP (by omega), kt_bs]
    dsimp only
    rw [if_neg ki_10, if_neg (show ¬ nI 0 < (0 : Int32) by decide), if_neg (show ¬ (4 : Int32) ≤ nI 0 by decide), if_pos (show nI 0 = (0 : Int32) from rfl), o1]
    by_cases h1 : l3 < 0
    · rw [if_pos h1, if_pos h1]
      exact Or.inr ⟨3, 0, σ, _, rfl, rfl, rfl, T 1⟩
    rw [if_neg h1, if_neg h1]
    by_cases h2 : l3 ≤ 5
    · rw [if_pos h2, if_pos h2]
      rcases kG_has H hn l2 with ⟨k1, k2⟩ | ⟨k, i, e1, e2, rfl, e3, e4, e5, k1, k2⟩
      · rw [k1, k2, kt_bs, kt_bs]
        dsimp only
        rw [if_pos rfl, if_pos rfl, o2]
        exact Or.inr ⟨2, 0, σ, _, rfl, rfl, rfl, T 2⟩
      · rw [k1, k2, kt_bs, kt_bs]
        dsimp only
        have hb : ¬ (nI 0 < 0 ∨ 4 ≤ (nI 0).toNatClampNeg) := kn_in (by omega) (by omega)
        have hcl : (nI 0).toNatClampNeg = 0 := kn_cl (by omega)
        obtain ⟨i1, i2, ⟨o, i4, i5, i6⟩, i7⟩ := H.2.2.2.2.2.2.2 0 (by omega)
        have i5' : σ 16 5 = nI o := i5
        have i6' : τ 17 0 = nI o := i6
        rw [if_neg ki_10, if_neg ki_10, if_neg hb]
        simp only [hcl, i5', i6']
        by_cases h3 : nI o = 0
        · rw [if_pos h3, if_pos h3, o3]
          exact Or.inr ⟨0, 0, σ, _, rfl, rfl, rfl, T 3⟩
        · rw [if_neg h3, if_neg h3, o0]
          exact kR_ret_may (kR_judge_0 (T 0) rfl hn e1 e2 e3 e4 e5 k1 l3 l4)
    · rw [if_neg h2, if_neg h2]
      exact Or.inr ⟨3, 0, σ, _, rfl, rfl, rfl, T 1⟩
  · rw [km_isP (by omega), kt_bs]
    dsimp only
    rw [if_neg ki_10, if_neg (show ¬ nI 1 < (0 : Int32) by decide), if_neg (show ¬ (4 : Int32) ≤ nI 1 by decide), if_neg (show ¬ nI 1 = (0 : Int32) by decide), if_pos (show nI 1 = (1 : Int32) from rfl), o1]
    by_cases h1 : l3 < 0
    · rw [if_pos h1, if_pos h1]
      exact Or.inr ⟨3, 0, σ, _, rfl, rfl, rfl, T 1⟩
    rw [if_neg h1, if_neg h1]
    by_cases h2 : l3 ≤ 5
    · rw [if_pos h2, if_pos h2]
      rcases kG_has H hn l2 with ⟨k1, k2⟩ | ⟨k, i, e1, e2, rfl, e3, e4, e5, k1, k2⟩
      · rw [k1, k2, kt_bs, kt_bs]
        dsimp only
        rw [if_pos rfl, if_pos rfl, o2]
        exact Or.inr ⟨2, 0, σ, _, rfl, rfl, rfl, T 2⟩
      · rw [k1, k2, kt_bs, kt_bs]
        dsimp only
        have hb : ¬ (nI 1 < 0 ∨ 4 ≤ (nI 1).toNatClampNeg) := kn_in (by omega) (by omega)
        have hcl : (nI 1).toNatClampNeg = 1 := kn_cl (by omega)
        obtain ⟨i1, i2, ⟨o, i4, i5, i6⟩, i7⟩ := H.2.2.2.2.2.2.2 1 (by omega)
        have i5' : σ 20 5 = nI o := i5
        have i6' : τ 17 1 = nI o := i6
        rw [if_neg ki_10, if_neg ki_10, if_neg hb]
        simp only [hcl, i5', i6']
        by_cases h3 : nI o = 0
        · rw [if_pos h3, if_pos h3, o3]
          exact Or.inr ⟨0, 0, σ, _, rfl, rfl, rfl, T 3⟩
        · rw [if_neg h3, if_neg h3, o0]
          exact kR_ret_may (kR_judge_1 (T 0) rfl hn e1 e2 e3 e4 e5 k1 l3 l4)
    · rw [if_neg h2, if_neg h2]
      exact Or.inr ⟨3, 0, σ, _, rfl, rfl, rfl, T 1⟩
  · rw [km_isP (by omega), kt_bs]
    dsimp only
    rw [if_neg ki_10, if_neg (show ¬ nI 2 < (0 : Int32) by decide), if_neg (show ¬ (4 : Int32) ≤ nI 2 by decide), if_neg (show ¬ nI 2 = (0 : Int32) by decide), if_neg (show ¬ nI 2 = (1 : Int32) by decide), if_pos (show nI 2 = (2 : Int32) from rfl), o1]
    by_cases h1 : l3 < 0
    · rw [if_pos h1, if_pos h1]
      exact Or.inr ⟨3, 0, σ, _, rfl, rfl, rfl, T 1⟩
    rw [if_neg h1, if_neg h1]
    by_cases h2 : l3 ≤ 5
    · rw [if_pos h2, if_pos h2]
      rcases kG_has H hn l2 with ⟨k1, k2⟩ | ⟨k, i, e1, e2, rfl, e3, e4, e5, k1, k2⟩
      · rw [k1, k2, kt_bs, kt_bs]
        dsimp only
        rw [if_pos rfl, if_pos rfl, o2]
        exact Or.inr ⟨2, 0, σ, _, rfl, rfl, rfl, T 2⟩
      · rw [k1, k2, kt_bs, kt_bs]
        dsimp only
        have hb : ¬ (nI 2 < 0 ∨ 4 ≤ (nI 2).toNatClampNeg) := kn_in (by omega) (by omega)
        have hcl : (nI 2).toNatClampNeg = 2 := kn_cl (by omega)
        obtain ⟨i1, i2, ⟨o, i4, i5, i6⟩, i7⟩ := H.2.2.2.2.2.2.2 2 (by omega)
        have i5' : σ 24 5 = nI o := i5
        have i6' : τ 17 2 = nI o := i6
        rw [if_neg ki_10, if_neg ki_10, if_neg hb]
        simp only [hcl, i5', i6']
        by_cases h3 : nI o = 0
        · rw [if_pos h3, if_pos h3, o3]
          exact Or.inr ⟨0, 0, σ, _, rfl, rfl, rfl, T 3⟩
        · rw [if_neg h3, if_neg h3, o0]
          exact kR_ret_may (kR_judge_2 (T 0) rfl hn e1 e2 e3 e4 e5 k1 l3 l4)
    · rw [if_neg h2, if_neg h2]
      exact Or.inr ⟨3, 0, σ, _, rfl, rfl, rfl, T 1⟩
  · rw [km_isP (by omega), kt_bs]
    dsimp only
    rw [if_neg ki_10, if_neg (show ¬ nI 3 < (0 : Int32) by decide), if_neg (show ¬ (4 : Int32) ≤ nI 3 by decide), if_neg (show ¬ nI 3 = (0 : Int32) by decide), if_neg (show ¬ nI 3 = (1 : Int32) by decide), if_neg (show ¬ nI 3 = (2 : Int32) by decide), o1]
    by_cases h1 : l3 < 0
    · rw [if_pos h1, if_pos h1]
      exact Or.inr ⟨3, 0, σ, _, rfl, rfl, rfl, T 1⟩
    rw [if_neg h1, if_neg h1]
    by_cases h2 : l3 ≤ 5
    · rw [if_pos h2, if_pos h2]
      rcases kG_has H hn l2 with ⟨k1, k2⟩ | ⟨k, i, e1, e2, rfl, e3, e4, e5, k1, k2⟩
      · rw [k1, k2, kt_bs, kt_bs]
        dsimp only
        rw [if_pos rfl, if_pos rfl, o2]
        exact Or.inr ⟨2, 0, σ, _, rfl, rfl, rfl, T 2⟩
      · rw [k1, k2, kt_bs, kt_bs]
        dsimp only
        have hb : ¬ (nI 3 < 0 ∨ 4 ≤ (nI 3).toNatClampNeg) := kn_in (by omega) (by omega)
        have hcl : (nI 3).toNatClampNeg = 3 := kn_cl (by omega)
        obtain ⟨i1, i2, ⟨o, i4, i5, i6⟩, i7⟩ := H.2.2.2.2.2.2.2 3 (by omega)
        have i5' : σ 28 5 = nI o := i5
        have i6' : τ 17 3 = nI o := i6
        rw [if_neg ki_10, if_neg ki_10, if_neg hb]
        simp only [hcl, i5', i6']
        by_cases h3 : nI o = 0
        · rw [if_pos h3, if_pos h3, o3]
          exact Or.inr ⟨0, 0, σ, _, rfl, rfl, rfl, T 3⟩
        · rw [if_neg h3, if_neg h3, o0]
          exact kR_ret_may (kR_judge_3 (T 0) rfl hn e1 e2 e3 e4 e5 k1 l3 l4)
    · rw [if_neg h2, if_neg h2]
      exact Or.inr ⟨3, 0, σ, _, rfl, rfl, rfl, T 1⟩
