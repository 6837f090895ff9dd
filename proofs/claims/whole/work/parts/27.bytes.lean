/-! Bytes that are fed, and bytes that are taken. -/
theorem kt_up_up {σ : kt_S} {p k : Nat} {x y : Int32} : kt_up (kt_up σ p k x) p k y = kt_up σ p k y := by
  funext q
  unfold kt_up
  by_cases h : q = p
  · rw [if_pos h, if_pos h, if_pos rfl, upd_upd]
  · rw [if_neg h, if_neg h, if_neg h]
theorem kt_up_same {σ : kt_S} {p k : Nat} {x : Int32} (h : σ p k = x) : kt_up σ p k x = σ := by
  funext q
  unfold kt_up
  by_cases hq : q = p
  · rw [if_pos hq, upd_same h, hq]
  · rw [if_neg hq]
theorem kn_byte (x : Int32) : ∃ b : Nat, b < 256 ∧ x &&& 255 = nI b := by
  refine ⟨(x &&& 255).toBitVec.toNat, ?_, ?_⟩
  · rw [Int32.toBitVec_and, BitVec.toNat_and]
    have : (255 : Int32).toBitVec.toNat = 255 := by decide
    rw [this]
    have := Nat.and_le_right (n := x.toBitVec.toNat) (m := 255)
    omega
  · apply Int32.toBitVec_inj.mp
    unfold nI
    rw [Int32.toBitVec_ofNat', BitVec.ofNat_toNat, BitVec.setWidth_eq]
theorem kn_dec (m : Nat) : nI (m + 1) + (-1) = nI m := by
  have := nI_pred m
  rw [Int32.sub_eq_add_neg] at this
  exact this
/-- the output changes, and nothing else -/
theorem kR_swap {n : Nat} {σ σ' τ τ' : kt_S} (H : kR n σ τ) (h0 : ∀ k, ¬ k = 12 → τ' 0 k = τ 0 k) (hq : ∀ q, ¬ q = 0 → ¬ q = 3 → τ' q = τ q) (hσ : ∀ q, ¬ q = 12 → ¬ q = 13 → σ' q = σ q) (hout : kR_out σ' τ') (hpow : ¬ σ 1 5 = 0) : kR n σ' τ' := by
  obtain ⟨a, b, c, d, e, f, g, i⟩ := H
  refine ⟨?_, ?_, ?_, hout, ?_, ?_, ?_, kR_par_congr (fun q h => hσ q (by omega) (by omega)) (hq 15 (by omega) (by omega)) (hq 16 (by omega) (by omega)) (hq 17 (by omega) (by omega)) (hq 18 (by omega) (by omega)) i⟩
  · unfold kR_st
    rw [hq 1 (by omega) (by omega), hσ 3 (by omega) (by omega), hσ 2 (by omega) (by omega), hσ 1 (by omega) (by omega), h0 2 (by omega), h0 4 (by omega)]
    exact a
  · obtain ⟨b1, b2, b3, b4, b5, b6, b7⟩ := b
    unfold kR_tok
    rw [hσ 1 (by omega) (by omega), h0 5 (by omega), h0 6 (by omega), h0 7 (by omega), h0 8 (by omega)]
    exact ⟨b1, b2, b3, b4, b5, b6, fun z => absurd z hpow⟩
  · unfold kR_in
    rw [hq 2 (by omega) (by omega), hσ 8 (by omega) (by omega), hσ 7 (by omega) (by omega), h0 10 (by omega)]
    exact c
  · unfold kR_next
    rw [hq 4 (by omega) (by omega), hσ 14 (by omega) (by omega), hσ 1 (by omega) (by omega), hσ 3 (by omega) (by omega), h0 15 (by omega), h0 16 (by omega), h0 13 (by omega)]
    exact e
  · unfold kR_cnt
    rw [hσ 1 (by omega) (by omega), hσ 4 (by omega) (by omega), hσ 0 (by omega) (by omega), h0 17 (by omega), h0 18 (by omega), h0 19 (by omega), h0 20 (by omega)]
    exact f
  · unfold kR_sig
    rw [hσ 5 (by omega) (by omega), hσ 4 (by omega) (by omega), hq 5 (by omega) (by omega)]
    exact g
/-! feed -/
theorem kf_add {σ : kt_S} {k : Nat} (hk : k < 48) (h : σ 7 2 = nI k) (x : Int32) : kp_B_add_7 x σ = some (kt_up (kt_up σ 8 k (x &&& 255)) 7 2 (nI (k + 1))) := by
  unfold kp_B_add_7 kp_B_add_7_0 kp_B_add_7_43
  rw [h, if_neg (kn_nn (by omega)), if_neg (show ¬ Int32.ofNat 48 ≤ nI k from fun z => by have := (kn_le (a := 48) (by omega) (by omega)).mp z; omega), if_neg (kn_in (by omega) (by omega)), kn_cl (by omega), kn_succ]
theorem kR_fed {n k b : Nat} {σ τ : kt_S} (H : kR n σ τ) (hk : k < 48) (hb : b < 256) (hpow : ¬ σ 1 5 = 0) : kR n (kt_up (kt_up σ 8 k (nI b)) 7 2 (nI (k + 1))) (kt_up (kt_up τ 2 k (nI b)) 0 10 (nI (k + 1))) := by
  obtain ⟨a, ⟨b1, b2, b3, b4, b5, b6, b7⟩, ⟨c1, c2, c3, c4⟩, d, e, f, g, i⟩ := H
  refine ⟨a, ⟨b1, b2, b3, b4, b5, b6, fun z => absurd z hpow⟩, ⟨?_, c2, ⟨k + 1, by omega, rfl, rfl⟩, fun j hj => ?_⟩, d, e, f, g, kR_par_congr (fun q hq => ?_) rfl rfl rfl rfl i⟩
  · show upd (τ 2) k (nI b) = upd (σ 8) k (nI b)
    rw [c1]
  · show ∃ b' : Nat, b' < 256 ∧ upd (σ 8) k (nI b) j = nI b'
    unfold upd
    by_cases h : j = k
    · rw [if_pos h]
      exact ⟨b, hb, rfl⟩
    · rw [if_neg h]
      exact c4 j hj
  · rw [kt_up_big (by omega) q hq, kt_up_big (by omega) q hq]
theorem kR_feed_loop {n : Nat} (l1 : Int64) : ∀ (m f f' k : Nat) (l4 : Int32) (σ τ : kt_S), kR n σ τ → τ 0 0 = 0 → ¬ σ 1 5 = 0 → σ 7 2 = nI k → k + m ≤ 48 → m < f → m < f' → l4 + 1 = nI m → ∃ σ' τ', kp_K_feed_63 f l1 l4 σ = some (Sum.inr (), σ') ∧ kp_M_feed_47 f' l1 l4 τ = some τ' ∧ τ' 0 0 = 0 ∧ kR n σ' τ' := by
  intro m
  induction m with
  | zero =>
    intro f f' k l4 σ τ H h0 hp hk hm hf hf' hl
    obtain ⟨f, rfl⟩ := Nat.exists_eq_add_one_of_ne_zero (Nat.ne_of_gt hf)
    obtain ⟨f', rfl⟩ := Nat.exists_eq_add_one_of_ne_zero (Nat.ne_of_gt hf')
    have hl4 : l4 < 0 := by
      have : l4 = -1 := by
        have h := congrArg (fun x => x - 1) hl
        rw [Int32.add_sub_cancel] at h
        rw [h]; decide
      rw [this]; decide
    refine ⟨σ, τ, ?_, ?_, h0, H⟩
    · show kp_K_feed_63b (kp_K_feed_63 f) l1 l4 σ = _
      unfold kp_K_feed_63b
      rw [if_pos hl4]
    · show kp_M_feed_47b (kp_M_feed_47 f') l1 l4 τ = _
      unfold kp_M_feed_47b kp_M_feed_96
      rw [if_pos hl4]
  | succ m ih =>
    intro f f' k l4 σ τ H h0 hp hk hm hf hf' hl
    obtain ⟨f, rfl⟩ := Nat.exists_eq_add_one_of_ne_zero (show ¬ f = 0 by omega)
    obtain ⟨f', rfl⟩ := Nat.exists_eq_add_one_of_ne_zero (show ¬ f' = 0 by omega)
    have hl4 : l4 = nI m := by
      have h := congrArg (fun x => x - 1) hl
      rw [Int32.add_sub_cancel, nI_pred] at h
      exact h
    obtain ⟨c1, c2, ⟨k', c3, c4, c5⟩, c6⟩ := H.2.2.1
    have hkk : k' = k := by
      rw [hk] at c4
      exact ((kn_eq (by omega) (by omega)).mp c4).symm
    rw [hkk] at c5
    have hn4 : ¬ l4 < 0 := by rw [hl4]; exact kn_nn (by omega)
    obtain ⟨b, hb1, hb2⟩ := kn_byte (Int64.toInt32 (l1 >>> (((8 : Int32) * l4).toInt64 &&& 63)))
    have hb3 : Int64.toInt32 ((l1 >>> (((8 : Int32) * l4).toInt64 &&& 63)) &&& 255) = nI b := by
      rw [Int64.toInt32_and, ← hb2]
      rfl
    obtain ⟨σ', τ', g1, g2, g3, g4⟩ := ih f f' (k + 1) (l4 + (-1)) _ _ (kR_fed H (k := k) (by omega) hb1 hp) h0 hp rfl (by omega) (by omega) (by omega) (by rw [hl4, Int32.add_assoc, show (-1 : Int32) + 1 = 0 by decide, Int32.add_zero])
    refine ⟨σ', τ', ?_, ?_, g3, g4⟩
    · show kp_K_feed_63b (kp_K_feed_63 f) l1 l4 σ = _
      unfold kp_K_feed_63b
      rw [if_neg hn4, kf_add (by omega) hk, hb2, kt_bs]
      exact g1
    · show kp_M_feed_47b (kp_M_feed_47 f') l1 l4 τ = _
      unfold kp_M_feed_47b
      rw [if_neg hn4, if_pos h0, c5, if_neg (kn_in (by omega) (by omega)), hb3, kn_cl (by omega), kn_succ]
      exact g2
def kT_feed (e : Nat) : Int32 := if e = 0 then 1 else 2
theorem km_feed_out {l1 : Int64} {l4 t : Int32} {τ : kt_S} (ht : ¬ t = 0) : kp_M_feed_47 100 l1 l4 (kt_up τ 0 0 t) = some (kt_up τ 0 0 t) := by
  have : ∀ f, kp_M_feed_47 (f + 1) l1 l4 (kt_up τ 0 0 t) = some (kt_up τ 0 0 t) := fun f => by
    show kp_M_feed_47b (kp_M_feed_47 f) l1 l4 (kt_up τ 0 0 t) = _
    unfold kp_M_feed_47b kp_M_feed_96
    by_cases h : l4 < 0
    · rw [if_pos h]
    · rw [if_neg h, if_neg (show ¬ kt_up τ 0 0 t 0 0 = 0 from ht)]
  exact this 99
theorem kR_feed {n : Nat} {σ τ : kt_S} (H : kR n σ τ) (l1 : Int64) (l3 : Int32) : (∃ σ' τ', kp_K_feed l1 l3 σ = some (Sum.inr (), σ') ∧ kp_M_feed l1 l3 τ = some τ' ∧ τ' 0 0 = 0 ∧ kR n σ' τ') ∨ ∃ e σ' τ', kp_K_feed l1 l3 σ = some (Sum.inl e, σ') ∧ kp_M_feed l1 l3 τ = some τ' ∧ τ' 0 0 = kT_feed e ∧ kR n σ' τ' := by
  have T : ∀ v, kR n σ (kt_up τ 0 0 v) := fun v => kR_thr H
  obtain ⟨c1, c2, ⟨k, c3, c4, c5⟩, c6⟩ := H.2.2.1
  unfold kp_K_feed kp_K_feed_0 kp_K_feed_48 kp_M_feed kp_M_feed_0 kp_M_feed_34 kp_M_feed_39
  rw [km_feed_out (by decide), km_feed_out (by decide), H.2.1.1]
  by_cases h0 : σ 1 5 = 0
  · rw [if_pos h0, if_pos h0]
    exact Or.inr ⟨0, σ, _, rfl, rfl, rfl, T 1⟩
  rw [if_neg h0, if_neg h0]
  by_cases h1 : l3 < 1
  · rw [if_pos h1, if_pos h1]
    exact Or.inr ⟨1, σ, _, rfl, rfl, rfl, T 2⟩
  rw [if_neg h1, if_neg h1]
  by_cases h2 : (8 : Int32) < l3
  · rw [if_pos h2, if_pos h2]
    exact Or.inr ⟨1, σ, _, rfl, rfl, rfl, T 2⟩
  rw [if_neg h2, if_neg h2]
  have h3 : ¬ l3 < 0 := by
    rw [Int32.lt_iff_toInt_lt, show (1 : Int32).toInt = 1 by decide] at h1
    rw [Int32.lt_iff_toInt_lt, show (0 : Int32).toInt = 0 by decide]
    omega
  obtain ⟨w, hw, rfl⟩ := kn_of h3
  have hw8 : w ≤ 8 := by
    by_cases z : 8 < w
    · exact absurd ((kn_lt (a := 8) (by omega) hw).mpr z) h2
    · omega
  have e1 : kp_B_room_7 σ = some (nI (48 - k), σ) := by
    show some (nI 48 - σ 7 2, σ) = _
    rw [c4, kn_sub c3]
  have e2 : τ 0 10 + nI w = nI (k + w) := by rw [c5, kn_add]
  rw [e1, kt_bs, e2]
  dsimp only
  by_cases h4 : k + w ≤ 48
  · rw [if_pos (show nI w ≤ nI (48 - k) from kn_leR (by omega) (by omega)), if_pos (show nI (k + w) ≤ 48 from kn_leR (a := k + w) (b := 48) (by omega) h4)]
    obtain ⟨σ', τ', g1, g2, g3, g4⟩ := kR_feed_loop l1 w 100 100 k (nI w - 1) σ (kt_up τ 0 0 0) (T 0) rfl h0 c4 (by omega) (by omega) (by omega) (Int32.sub_add_cancel _ _)
    exact Or.inl ⟨σ', τ', g1, g2, g3, g4⟩
  · rw [if_neg (show ¬ nI w ≤ nI (48 - k) from fun z => by have := (kn_le (by omega) (by omega)).mp z; omega), if_neg (show ¬ nI (k + w) ≤ 48 from fun z => by have := (kn_le (a := k + w) (b := 48) (by omega) (by omega)).mp z; omega)]
    exact Or.inr ⟨1, σ, _, rfl, rfl, rfl, T 2⟩
/-! take -/
def kV (g : Nat → Int32) : Nat → Int64
  | 0 => 0
  | j + 1 => (kV g j <<< ((8 : Int32).toInt64 &&& 63)) ||| Int32.toInt64 (g j)
theorem kK_take_loop {σ : kt_S} {a e t : Nat} (hae : a ≤ e) (he : e ≤ 80) (h2 : σ 12 2 = nI e) (ht : t = if 8 ≤ e - a then 8 else e - a) : ∀ m j f, j + m = t → m < f → kp_K_take_27 f (kV (fun i => σ 13 (a + i)) j) (nI j) (kt_up σ 12 1 (nI (a + j))) = some (Sum.inr (kV (fun i => σ 13 (a + i)) t), kt_up σ 12 1 (nI (a + t))) := by
  have hl : ∀ j, a + j ≤ e → kp_B_left_12 (kt_up σ 12 1 (nI (a + j))) = some (nI (e - (a + j)), kt_up σ 12 1 (nI (a + j))) := fun j hj => by
    show some (σ 12 2 - nI (a + j), kt_up σ 12 1 (nI (a + j))) = _
    rw [h2, kn_sub hj]
  have ht8 : t ≤ 8 ∧ a + t ≤ e := by
    by_cases z : 8 ≤ e - a
    · rw [if_pos z] at ht; omega
    · rw [if_neg z] at ht; omega
  have hte : t = 8 ∨ a + t = e := by
    by_cases z : 8 ≤ e - a
    · rw [if_pos z] at ht; omega
    · rw [if_neg z] at ht; omega
  intro m
  induction m with
  | zero =>
    intro j f hj hf
    obtain ⟨f, rfl⟩ := Nat.exists_eq_add_one_of_ne_zero (Nat.ne_of_gt hf)
    have hjt : j = t := by omega
    rw [hjt]
    show kp_K_take_27b (kp_K_take_27 f) _ _ _ = _
    unfold kp_K_take_27b kp_K_take_69
    rcases hte with z | z
    · rw [z, if_pos (show (8 : Int32) ≤ nI 8 by decide)]
    · rw [hl t (by omega), kt_bs]
      dsimp only
      rw [show e - (a + t) = 0 by omega, if_pos (show nI 0 ≤ 0 by decide)]
      by_cases y : (8 : Int32) ≤ nI t
      · rw [if_pos y]
      · rw [if_neg y]
  | succ m ih =>
    intro j f hj hf
    obtain ⟨f, rfl⟩ := Nat.exists_eq_add_one_of_ne_zero (show ¬ f = 0 by omega)
    have := ih (j + 1) f (by omega) (by omega)
    rw [← this]
    show kp_K_take_27b (kp_K_take_27 f) _ _ _ = _
    unfold kp_K_take_27b
    rw [if_neg (show ¬ (8 : Int32) ≤ nI j from fun z => by have := (kn_le (a := 8) (by omega) (by omega)).mp z; omega), hl j (by omega), kt_bs]
    dsimp only
    rw [if_neg (show ¬ nI (e - (a + j)) ≤ 0 from fun z => by have := (kn_le (b := 0) (by omega) (by omega)).mp z; omega)]
    have hr : kp_B_removeFirst_12 (kt_up σ 12 1 (nI (a + j))) = some (σ 13 (a + j), kt_up σ 12 1 (nI (a + (j + 1)))) := by
      have e1 : kt_up σ 12 1 (nI (a + j)) 12 1 = nI (a + j) := rfl
      have e2 : kt_up σ 12 1 (nI (a + j)) 12 2 = nI e := h2
      have e3 : nI (a + j) + 1 - 1 = nI (a + j) := by rw [kn_succ, nI_pred]
      unfold kp_B_removeFirst_12 kp_B_removeFirst_12_0
      rw [e1, e2, if_neg (kn_nn (by omega)), if_pos ((kn_lt (by omega) (by omega)).mpr (by omega)), e3, if_neg (kn_in (by omega) (by omega)), kn_cl (by omega), kt_up_up, kn_succ]
      rfl
    rw [hr, kt_bs]
    dsimp only
    rw [kn_succ]
    rfl
theorem km_take_val {τ : kt_S} {t : Nat} (ht : t ≤ 8) : ∀ m j f, j + m = t → m < f → kp_M_take_40 f (nI t) (kV (τ 3) j) (nI j) τ = kp_M_take_69 100 (nI t) (kV (τ 3) t) (nI t) τ := by
  intro m
  induction m with
  | zero =>
    intro j f hj hf
    obtain ⟨f, rfl⟩ := Nat.exists_eq_add_one_of_ne_zero (Nat.ne_of_gt hf)
    have hjt : j = t := by omega
    rw [hjt]
    show kp_M_take_40b (kp_M_take_40 f) _ _ _ _ = _
    unfold kp_M_take_40b
    rw [if_pos (kn_leR (by omega) (by omega))]
  | succ m ih =>
    intro j f hj hf
    obtain ⟨f, rfl⟩ := Nat.exists_eq_add_one_of_ne_zero (show ¬ f = 0 by omega)
    rw [← ih (j + 1) f (by omega) (by omega)]
    show kp_M_take_40b (kp_M_take_40 f) _ _ _ _ = _
    unfold kp_M_take_40b
    rw [if_neg (show ¬ nI t ≤ nI j from fun z => by have := (kn_le (by omega) (by omega)).mp z; omega), if_neg (kn_in (by omega) (by omega)), kn_cl (by omega), kn_succ]
    rfl
theorem km_take_shift {t s : Nat} (v : Int64) (g : Nat → Int32) (ht : t ≤ 8) (hts : t ≤ s) (hs : s ≤ 80) : ∀ m j f (τ : kt_S), j + m = s → t ≤ j → m < f → τ 0 12 = nI s → (∀ i, i + t < j → τ 3 i = g (i + t)) → (∀ i, j ≤ i + t → τ 3 i = g i) → ∃ τ', kp_M_take_69 f (nI t) v (nI j) τ = some (v, τ') ∧ (∀ q, ¬ q = 0 → ¬ q = 3 → τ' q = τ q) ∧ (∀ k, ¬ k = 12 → τ' 0 k = τ 0 k) ∧ τ' 0 12 = nI (s - t) ∧ ∀ i, i + t < s → τ' 3 i = g (i + t) := by
  intro m
  induction m with
  | zero =>
    intro j f τ hj htj hf h12 hlo hhi
    obtain ⟨f, rfl⟩ := Nat.exists_eq_add_one_of_ne_zero (Nat.ne_of_gt hf)
    have hjs : j = s := by omega
    refine ⟨kt_up τ 0 12 (nI (s - t)), ?_, fun q h0 h3 => kt_up_ne _ _ _ h0, fun k hk => ?_, rfl, fun i hi => hlo i (by omega)⟩
    · show kp_M_take_69b (kp_M_take_69 f) _ _ _ _ = _
      unfold kp_M_take_69b
      rw [h12, hjs, if_pos (kn_leR (by omega) (by omega)), kn_sub hts]
    · show upd (τ 0) 12 (nI (s - t)) k = τ 0 k
      unfold upd
      rw [if_neg hk]
  | succ m ih =>
    intro j f τ hj htj hf h12 hlo hhi
    obtain ⟨f, rfl⟩ := Nat.exists_eq_add_one_of_ne_zero (show ¬ f = 0 by omega)
    have e : kp_M_take_69 (f + 1) (nI t) v (nI j) τ = kp_M_take_69 f (nI t) v (nI (j + 1)) (kt_up τ 3 (j - t) (τ 3 j)) := by
      show kp_M_take_69b (kp_M_take_69 f) _ _ _ _ = _
      unfold kp_M_take_69b
      rw [h12, if_neg (show ¬ nI s ≤ nI j from fun z => by have := (kn_le (by omega) (by omega)).mp z; omega), if_neg (kn_in (by omega) (by omega)), kn_sub htj, if_neg (kn_in (by omega) (by omega)), kn_cl (by omega), kn_cl (by omega), kn_succ]
    obtain ⟨τ', g1, g2, g3, g4, g5⟩ := ih (j + 1) f (kt_up τ 3 (j - t) (τ 3 j)) (by omega) (by omega) (by omega) h12 (fun i hi => by
      show upd (τ 3) (j - t) (τ 3 j) i = g (i + t)
      unfold upd
      by_cases z : i = j - t
      · rw [if_pos z, hhi j (by omega), show i + t = j by omega]
      · rw [if_neg z]
        exact hlo i (by omega)) (fun i hi => by
      show upd (τ 3) (j - t) (τ 3 j) i = g i
      unfold upd
      rw [if_neg (by omega)]
      exact hhi i (by omega))
    exact ⟨τ', e.trans g1, fun q h0 h3 => (g2 q h0 h3).trans (kt_up_ne _ _ _ h3), g3, g4, g5⟩
theorem kR_take {n : Nat} {σ τ : kt_S} (H : kR n σ τ) : (∃ r σ' τ', kp_K_take σ = some (Sum.inr r, σ') ∧ kp_M_take τ = some (r, τ') ∧ τ' 0 0 = 0 ∧ kR n σ' τ') ∨ ∃ e r σ' τ', kp_K_take σ = some (Sum.inl e, σ') ∧ kp_M_take τ = some (r, τ') ∧ e = 2 ∧ τ' 0 0 = 1 ∧ kR n σ' τ' := by
  have T : ∀ v, kR n σ (kt_up τ 0 0 v) := fun v => kR_thr H
  obtain ⟨a, e, d1, d2, d3, d4, d5, d6, d7⟩ := H.2.2.2.1
  have hl : kp_B_left_12 σ = some (nI (e - a), σ) := by
    show some (σ 12 2 - σ 12 1, σ) = _
    rw [d3, d4, kn_sub d1]
  unfold kp_K_take kp_K_take_0
  rw [hl, kt_bs]
  dsimp only
  unfold kp_M_take kp_M_take_0 kp_M_take_13 kp_M_take_34
  rw [d5]
  by_cases hz : e - a = 0
  · rw [hz, if_pos (show nI 0 = 0 from rfl), if_pos (show nI 0 = 0 from rfl), if_neg (show ¬ (8 : Int32) ≤ nI 0 by decide)]
    have h1 : kp_M_take_40 100 (nI 0) 0 0 (kt_up τ 0 0 1) = kp_M_take_69 100 (nI 0) 0 (nI 0) (kt_up τ 0 0 1) := km_take_val (τ := kt_up τ 0 0 1) (t := 0) (by omega) 0 0 100 rfl (by omega)
    obtain ⟨τ', g1, g2, g3, g4, g5⟩ := km_take_shift (t := 0) (s := 0) 0 (τ 3) (by omega) (by omega) (by omega) 0 0 100 (kt_up τ 0 0 1) rfl (by omega) (by omega) (show τ 0 12 = nI 0 by rw [d5, hz]) (fun i hi => absurd hi (by omega)) (fun i hi => rfl)
    rw [h1, g1]
    have he : τ' = kt_up τ 0 0 1 := by
      have : kp_M_take_69 100 (nI 0) 0 (nI 0) (kt_up τ 0 0 1) = some (0, kt_up (kt_up τ 0 0 1) 0 12 (nI 0)) := by
        have : ∀ f, kp_M_take_69 (f + 1) (nI 0) 0 (nI 0) (kt_up τ 0 0 1) = some (0, kt_up (kt_up τ 0 0 1) 0 12 (nI 0)) := fun f => by
          show kp_M_take_69b (kp_M_take_69 f) _ _ _ _ = _
          unfold kp_M_take_69b
          rw [show kt_up τ 0 0 1 0 12 = nI 0 by show τ 0 12 = nI 0; rw [d5, hz], if_pos (by decide), show nI 0 - nI 0 = nI 0 by decide]
        exact this 99
      rw [this, kt_up_same (show kt_up τ 0 0 1 0 12 = nI 0 by show τ 0 12 = nI 0; rw [d5, hz])] at g1
      exact (congrArg Prod.snd (Option.some.inj g1)).symm
    exact Or.inr ⟨2, 0, σ, _, rfl, rfl, rfl, by rw [he]; rfl, by rw [he]; exact T 1⟩
  · have hne : ¬ nI (e - a) = 0 := fun z => by
      have := (kn_eq (a := e - a) (b := 0) (by omega) (by omega)).mp z
      omega
    have hpow : ¬ σ 1 5 = 0 := fun z => by
      have := (H.2.1.2.2.2.2.2.2 z).2.2.2.2.2.1
      rw [d3, d4, kn_eq (by omega) (by omega)] at this
      omega
    rw [if_neg hne, if_neg hne]
    have ht : ∃ t : Nat, t = (if 8 ≤ e - a then 8 else e - a) ∧ (if (8 : Int32) ≤ nI (e - a) then kp_M_take_40 100 8 0 0 (kt_up τ 0 0 0) else kp_M_take_40 100 (nI (e - a)) 0 0 (kt_up τ 0 0 0)) = kp_M_take_40 100 (nI t) 0 0 (kt_up τ 0 0 0) := by
      by_cases z : 8 ≤ e - a
      · exact ⟨8, (if_pos z).symm, if_pos (kn_leR (a := 8) (by omega) z)⟩
      · exact ⟨e - a, (if_neg z).symm, if_neg (fun y => by have := (kn_le (a := 8) (by omega) (by omega)).mp y; omega)⟩
    obtain ⟨t, ht1, ht2⟩ := ht
    have ht8 : t ≤ 8 ∧ a + t ≤ e := by
      by_cases z : 8 ≤ e - a
      · rw [if_pos z] at ht1; omega
      · rw [if_neg z] at ht1; omega
    have k1 := kK_take_loop d1 d2 d4 ht1 t 0 100 (by omega) (by omega)
    rw [Nat.add_zero, kt_up_same d3] at k1
    have k1' : kp_K_take_27 100 0 0 σ = some (Sum.inr (kV (fun i => σ 13 (a + i)) t), kt_up σ 12 1 (nI (a + t))) := k1
    have m1 : kp_M_take_40 100 (nI t) 0 0 (kt_up τ 0 0 0) = kp_M_take_69 100 (nI t) (kV (τ 3) t) (nI t) (kt_up τ 0 0 0) := km_take_val (τ := kt_up τ 0 0 0) (t := t) (by omega) t 0 100 (by omega) (by omega)
    obtain ⟨τ', g1, g2, g3, g4, g5⟩ := km_take_shift (t := t) (s := e - a) (kV (τ 3) t) (τ 3) (by omega) (by omega) (by omega) (e - a - t) t 100 (kt_up τ 0 0 0) (by omega) (by omega) (by omega) d5 (fun i hi => absurd hi (by omega)) (fun i hi => rfl)
    have hV : ∀ j, j ≤ e - a → kV (τ 3) j = kV (fun i => σ 13 (a + i)) j := by
      intro j
      induction j with
      | zero => intro _; rfl
      | succ j ih =>
        intro hj
        show (kV (τ 3) j <<< ((8 : Int32).toInt64 &&& 63)) ||| Int32.toInt64 (τ 3 j) = (kV (fun i => σ 13 (a + i)) j <<< ((8 : Int32).toInt64 &&& 63)) ||| Int32.toInt64 (σ 13 (a + j))
        rw [ih (by omega), d6 j (by omega)]
    rw [ht2, m1, g1, k1', hV t (by omega)]
    refine Or.inl ⟨_, _, τ', rfl, rfl, g3 0 (by omega), kR_swap (T 0) g3 g2 (fun q h1 h2 => kt_up_ne _ _ _ h1) ?_ hpow⟩
    refine ⟨a + t, e, by omega, d2, rfl, d4, ?_, fun j hj => ?_, fun j h1 h2 => d7 j (by omega) h2⟩
    · rw [g4, show e - a - t = e - (a + t) by omega]
    · rw [g5 j (by omega), d6 (j + t) (by omega)]
      show σ 13 (a + (j + t)) = σ 13 (a + t + j)
      rw [show a + (j + t) = a + t + j by omega]
