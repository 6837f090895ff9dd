/-! A request is written alike: the class writes a number to its input, the reference to its output, and copies it. -/
def kH (k0 E : Nat) (σ0 τ0 σ τ : kt_S) : Prop := ∃ L, L ≤ E ∧ σ 7 2 = nI (k0 + L) ∧ τ 0 12 = nI L ∧ (∀ j, j < L → σ 8 (k0 + j) = τ 3 j ∧ ∃ b : Nat, b < 256 ∧ τ 3 j = nI b) ∧ (∀ j, j < k0 → σ 8 j = σ0 8 j) ∧ (∀ j, k0 + L ≤ j → σ 8 j = σ0 8 j) ∧ σ 7 1 = σ0 7 1 ∧ (∀ q, ¬ q = 7 → ¬ q = 8 → σ q = σ0 q) ∧ (∀ q, ¬ q = 0 → ¬ q = 3 → τ q = τ0 q) ∧ ∀ f, ¬ f = 12 → τ 0 f = τ0 0 f
theorem kH_mono {k0 E F : Nat} {σ0 τ0 σ τ : kt_S} (h : E ≤ F) (H : kH k0 E σ0 τ0 σ τ) : kH k0 F σ0 τ0 σ τ := by
  obtain ⟨L, a, b⟩ := H
  exact ⟨L, by omega, b⟩
theorem kH_add {k0 E b : Nat} {σ0 τ0 σ τ : kt_S} (H : kH k0 E σ0 τ0 σ τ) (hE : k0 + E < 48) (hb : b < 256) (x : Int32) (hx : x &&& 255 = nI b) : ∃ σ' τ', kp_B_add_7 x σ = some σ' ∧ kp_M_out (nI b) τ = some τ' ∧ kH k0 (E + 1) σ0 τ0 σ' τ' := by
  obtain ⟨L, l1, l2, l3, l4, l5, l6, l7, l8, l9, l10⟩ := H
  refine ⟨_, _, kf_add (k := k0 + L) (by omega) l2 x, km_out_eq (k := L) (by omega) l3 (nI b), ?_⟩
  rw [hx]
  refine ⟨L + 1, by omega, rfl, rfl, fun j hj => ?_, fun j hj => ?_, fun j hj => ?_, l7, fun q h7 h8 => ?_, fun q h0 h3 => ?_, fun f hf => ?_⟩
  · show upd (σ 8) (k0 + L) (nI b) (k0 + j) = upd (τ 3) L (nI b) j ∧ ∃ b', b' < 256 ∧ upd (τ 3) L (nI b) j = nI b'
    unfold upd
    by_cases z : j = L
    · rw [if_pos (by omega), if_pos z]
      exact ⟨rfl, b, hb, rfl⟩
    · rw [if_neg (by omega), if_neg z]
      exact l4 j (by omega)
  · show upd (σ 8) (k0 + L) (nI b) j = σ0 8 j
    unfold upd
    rw [if_neg (by omega)]
    exact l5 j hj
  · show upd (σ 8) (k0 + L) (nI b) j = σ0 8 j
    unfold upd
    rw [if_neg (by omega)]
    exact l6 j (by omega)
  · rw [kt_up_ne _ _ _ h7, kt_up_ne _ _ _ h8]
    exact l8 q h7 h8
  · rw [kt_up_ne _ _ _ h0, kt_up_ne _ _ _ h3]
    exact l9 q h0 h3
  · show upd (τ 0) 12 (nI (L + 1)) f = τ0 0 f
    unfold upd
    rw [if_neg hf]
    exact l10 f hf
theorem kH_byte {k0 E b : Nat} {σ0 τ0 σ τ : kt_S} (H : kH k0 E σ0 τ0 σ τ) (hE : k0 + E < 48) (hb : b < 256) : ∃ σ' τ', kp_B_add_7 (nI b) σ = some σ' ∧ kp_M_out (nI b) τ = some τ' ∧ kH k0 (E + 1) σ0 τ0 σ' τ' := kH_add H hE hb (nI b) (kn_small hb)
theorem kh_loop0 (v : Int32) (σ : kt_S) : kp_B_addHead_7_49 100 v (0 - 1) σ = some σ := by
  have : ∀ f, kp_B_addHead_7_49 (f + 1) v (0 - 1) σ = some σ := fun f => by
    show kp_B_addHead_7_49b (kp_B_addHead_7_49 f) _ _ _ = _
    unfold kp_B_addHead_7_49b
    rw [if_pos (by decide)]
  exact this 99
theorem kh_head0 {m v : Nat} (h : v < 24) (σ : kt_S) : kp_B_addHead_7 (nI m) (nI v) σ = kp_B_add_7 (nI (32 * m + v)) σ := by
  unfold kp_B_addHead_7 kp_B_addHead_7_0 kp_B_addHead_7_40
  rw [ks_width0 h, kt_bs]
  dsimp only
  rw [if_pos rfl, show (32 : Int32) * nI m = nI (32 * m) from kn_mul 32 m, kn_add]
  cases kp_B_add_7 (nI (32 * m + v)) σ with
  | none => rfl
  | some x => rw [kt_bs, kh_loop0]
theorem kH_head0 {k0 E m v : Nat} {σ0 τ0 σ τ : kt_S} (H : kH k0 E σ0 τ0 σ τ) (hE : k0 + E < 48) (hv : v < 24) (hm : m < 8) : ∃ σ' τ', kp_B_addHead_7 (nI m) (nI v) σ = some σ' ∧ kp_M_out (nI (32 * m + v)) τ = some τ' ∧ kH k0 (E + 1) σ0 τ0 σ' τ' := by
  rw [kh_head0 hv]
  exact kH_byte H hE (by omega)
/-- the bytes of a wide number -/
theorem kH_wide {k0 : Nat} {σ0 τ0 : kt_S} (v : Int32) : ∀ (w E f f' : Nat) (l4 l3 : Int32) (σ τ : kt_S), kH k0 E σ0 τ0 σ τ → k0 + E + w < 48 → w < f → w < f' → w ≤ 4 → l4 + 1 = nI w → l3 + 8 = nI (8 * w) → ∃ σ' τ', kp_B_addHead_7_49 f v l4 σ = some σ' ∧ kp_M_number_74 f' v l3 τ = some τ' ∧ kH k0 (E + w) σ0 τ0 σ' τ' := by
  intro w
  induction w with
  | zero =>
    intro E f f' l4 l3 σ τ H hE hf hf' hw hl4 hl3
    obtain ⟨f, rfl⟩ := Nat.exists_eq_add_one_of_ne_zero (Nat.ne_of_gt hf)
    obtain ⟨f', rfl⟩ := Nat.exists_eq_add_one_of_ne_zero (Nat.ne_of_gt hf')
    have e4 : l4 = -1 := by
      have h := congrArg (fun x => x - 1) hl4
      rw [Int32.add_sub_cancel] at h
      rw [h]; decide
    have e3 : l3 = -8 := by
      have h := congrArg (fun x => x - 8) hl3
      rw [Int32.add_sub_cancel] at h
      rw [h]; decide
    refine ⟨σ, τ, ?_, ?_, H⟩
    · show kp_B_addHead_7_49b (kp_B_addHead_7_49 f) _ _ _ = _
      unfold kp_B_addHead_7_49b
      rw [e4, if_pos (by decide)]
    · show kp_M_number_74b (kp_M_number_74 f') _ _ _ = _
      unfold kp_M_number_74b kp_M_number_95
      rw [e3, if_pos (by decide)]
  | succ w ih =>
    intro E f f' l4 l3 σ τ H hE hf hf' hw hl4 hl3
    obtain ⟨f, rfl⟩ := Nat.exists_eq_add_one_of_ne_zero (show ¬ f = 0 by omega)
    obtain ⟨f', rfl⟩ := Nat.exists_eq_add_one_of_ne_zero (show ¬ f' = 0 by omega)
    have e4 : l4 = nI w := by
      have h := congrArg (fun x => x - 1) hl4
      rw [Int32.add_sub_cancel, nI_pred] at h
      exact h
    have e3 : l3 = nI (8 * w) := by
      have h := congrArg (fun x => x - 8) hl3
      rw [Int32.add_sub_cancel] at h
      rw [h, show (8 : Int32) = nI 8 from rfl, kn_sub (by omega), show 8 * (w + 1) - 8 = 8 * w by omega]
    have es : (8 : Int32) * l4 = nI (8 * w) := by
      rw [e4]
      exact kn_mul 8 w
    obtain ⟨b, hb1, hb2⟩ := kn_byte (v >>> (nI (8 * w) &&& 31))
    obtain ⟨σ1, τ1, g1, g2, g3⟩ := kH_add H (by omega) hb1 _ hb2
    obtain ⟨σ', τ', k1, k2, k3⟩ := ih (E + 1) f f' (l4 + (-1)) (l3 + (-8)) σ1 τ1 g3 (by omega) (by omega) (by omega) (by omega) (by rw [e4, Int32.add_assoc, show (-1 : Int32) + 1 = 0 by decide, Int32.add_zero]) (by rw [e3, Int32.add_assoc, show (-8 : Int32) + 8 = 0 by decide, Int32.add_zero])
    refine ⟨σ', τ', ?_, ?_, kH_mono (by omega) k3⟩
    · show kp_B_addHead_7_49b (kp_B_addHead_7_49 f) _ _ _ = _
      unfold kp_B_addHead_7_49b
      rw [if_neg (show ¬ l4 < 0 by rw [e4]; exact kn_nn (by omega)), es, g1, kt_bs]
      exact k1
    · show kp_M_number_74b (kp_M_number_74 f') _ _ _ = _
      unfold kp_M_number_74b
      rw [if_neg (show ¬ l3 < 0 by rw [e3]; exact kn_nn (by omega))]
      have : (v >>> (l3 &&& 31)) &&& 255 = nI b := by rw [e3]; exact hb2
      rw [this, g2, kt_bs]
      exact k2
theorem kH_number {k0 E m : Nat} {σ0 τ0 σ τ : kt_S} (H : kH k0 E σ0 τ0 σ τ) (hE : k0 + E + 6 < 48) (hm : m < 2147483648) : ∃ σ' τ', kp_B_addHead_7 0 (nI m) σ = some σ' ∧ kp_M_number (nI m) τ = some τ' ∧ kH k0 (E + 5) σ0 τ0 σ' τ' := by
  by_cases h0 : m < 24
  · obtain ⟨σ', τ', g1, g2, g3⟩ := kH_head0 (m := 0) H (by omega) h0 (by omega)
    refine ⟨σ', τ', g1, ?_, kH_mono (by omega) g3⟩
    rw [show 32 * 0 + m = m by omega] at g2
    unfold kp_M_number kp_M_number_0 kp_M_number_95
    rw [if_neg (show ¬ (24 : Int32) ≤ nI m from fun z => by have := (kn_le (a := 24) (by omega) (by omega)).mp z; omega), g2, kt_bs]
  have c24 : (24 : Int32) ≤ nI m := kn_leR (a := 24) (by omega) (by omega)
  have e0 : ∀ k, (32 : Int32) * 0 + nI k = nI k := fun k => by
    rw [show (32 : Int32) * 0 = nI 0 by decide, kn_add, Nat.zero_add]
  unfold kp_B_addHead_7 kp_B_addHead_7_0 kp_B_addHead_7_40 kp_B_widthOf kp_B_widthOf_0 kp_B_widthOf_32 kp_M_number kp_M_number_0 kp_M_number_46 kp_M_number_59 kp_M_number_73
  rw [if_pos c24, if_pos c24]
  by_cases h1 : m < 256
  · have c256 : ¬ (256 : Int32) ≤ nI m := fun z => by have := (kn_le (a := 256) (by omega) (by omega)).mp z; omega
    rw [if_neg c256, if_neg c256, kt_bs]
    dsimp only
    rw [if_neg ki_10, if_pos rfl]
    obtain ⟨σ1, τ1, g1, g2, g3⟩ := kH_byte (b := 24) H (by omega) (by omega)
    obtain ⟨σ2, τ2, k1, k2, k3⟩ := kH_byte (b := m) g3 (by omega) h1
    refine ⟨σ2, τ2, ?_, ?_, kH_mono (by omega) k3⟩
    · have g1' : kp_B_add_7 (32 * 0 + 24) σ = some σ1 := by
        have := e0 24
        rw [show (24 : Int32) = nI 24 from rfl, this]
        exact g1
      rw [g1', kt_bs]
      have : ∀ f, kp_B_addHead_7_49 (f + 2) (nI m) (1 - 1) σ1 = some σ2 := fun f => by
        show kp_B_addHead_7_49b (kp_B_addHead_7_49 (f + 1)) _ _ _ = _
        unfold kp_B_addHead_7_49b
        have hs : nI m >>> (((8 : Int32) * (1 - 1)) &&& 31) = nI m := by
          have := pk_shrN (n := m) (by omega) (((8 : Int32) * (1 - 1)) &&& 31) 0 (by decide)
          rw [show m / 2 ^ 0 = m by omega] at this
          exact this
        rw [if_neg (by decide), hs, k1, kt_bs]
        show kp_B_addHead_7_49b (kp_B_addHead_7_49 f) _ _ _ = _
        unfold kp_B_addHead_7_49b
        rw [if_pos (by decide)]
      exact this 98
    · have g2' : kp_M_out 24 τ = some τ1 := g2
      unfold kp_M_number_95
      rw [g2', kt_bs, k2, kt_bs]
  have c256 : (256 : Int32) ≤ nI m := kn_leR (a := 256) (by omega) (by omega)
  rw [if_pos c256, if_pos c256]
  by_cases h2 : m < 65536
  · have c65 : ¬ (65536 : Int32) ≤ nI m := fun z => by have := (kn_le (a := 65536) (by omega) (by omega)).mp z; omega
    rw [if_neg c65, if_neg c65, kt_bs]
    dsimp only
    rw [if_neg (show ¬ (2 : Int32) = 0 by decide), if_neg (show ¬ (2 : Int32) = 1 by decide), if_pos rfl, if_neg ki_10]
    obtain ⟨σ1, τ1, g1, g2, g3⟩ := kH_byte (b := 25) H (by omega) (by omega)
    obtain ⟨σ2, τ2, k1, k2, k3⟩ := kH_wide (nI m) 2 (E + 1) 100 100 (2 - 1) 8 σ1 τ1 g3 (by omega) (by omega) (by omega) (by omega) (by decide) (by decide)
    refine ⟨σ2, τ2, ?_, ?_, kH_mono (by omega) k3⟩
    · have g1' : kp_B_add_7 (32 * 0 + 25) σ = some σ1 := by
        have := e0 25
        rw [show (25 : Int32) = nI 25 from rfl, this]
        exact g1
      rw [g1', kt_bs, k1]
    · have g2' : kp_M_out 25 τ = some τ1 := g2
      rw [g2', kt_bs, if_neg ki_10, k2]
  · have c65 : (65536 : Int32) ≤ nI m := kn_leR (a := 65536) (by omega) (by omega)
    rw [if_pos c65, if_pos c65, kt_bs]
    dsimp only
    rw [if_neg (show ¬ (4 : Int32) = 0 by decide), if_neg (show ¬ (4 : Int32) = 1 by decide), if_neg (show ¬ (4 : Int32) = 2 by decide), if_pos rfl]
    obtain ⟨σ1, τ1, g1, g2, g3⟩ := kH_byte (b := 26) H (by omega) (by omega)
    obtain ⟨σ2, τ2, k1, k2, k3⟩ := kH_wide (nI m) 4 (E + 1) 100 100 (4 - 1) 24 σ1 τ1 g3 (by omega) (by omega) (by omega) (by omega) (by decide) (by decide)
    refine ⟨σ2, τ2, ?_, ?_, kH_mono (by omega) k3⟩
    · have g1' : kp_B_add_7 (32 * 0 + 26) σ = some σ1 := by
        have := e0 26
        rw [show (26 : Int32) = nI 26 from rfl, this]
        exact g1
      rw [g1', kt_bs, k1]
    · have g2' : kp_M_out 26 τ = some τ1 := g2
      rw [g2', kt_bs, if_pos rfl, k2]
/-! the request as it is written -/
def kJ (n k : Nat) (σ τ : kt_S) : Prop := kR_st n σ τ ∧ (τ 0 5 = σ 1 5 ∧ σ 1 5 = 1 ∧ τ 0 6 = σ 1 6 ∧ kR_bool (σ 1 6) ∧ τ 0 7 = σ 1 7 ∧ τ 0 8 = σ 1 8) ∧ (τ 2 = σ 8 ∧ σ 7 1 = 0 ∧ k ≤ 48 ∧ σ 7 2 = nI k ∧ τ 0 10 = nI k ∧ ∀ i, i < 48 → ∃ b : Nat, b < 256 ∧ σ 8 i = nI b) ∧ (τ 0 0 = 0 ∧ τ 0 12 = 0) ∧ kR_next σ τ ∧ kR_cnt n σ τ ∧ kR_sig σ τ ∧ kR_par n σ τ
theorem kJ_R {n k : Nat} {σ τ : kt_S} (H : kJ n k σ τ) : kR n (kt_up (kt_up σ 12 1 0) 12 2 0) (kt_up (kt_up τ 0 3 0) 0 12 0) := by
  obtain ⟨a, ⟨b1, b2, b3, b4, b5, b6⟩, ⟨c1, c2, c3, c4, c5, c6⟩, d, e, f, g, p⟩ := H
  exact ⟨a, ⟨b1, Or.inr b2, b3, b4, b5, b6, fun z => absurd (b2.symm.trans z) (by decide)⟩, ⟨c1, c2, ⟨k, c3, c4, c5⟩, c6⟩, ⟨0, 0, by omega, by omega, rfl, rfl, rfl, fun j hj => absurd hj (by omega), fun j h1 h2 => absurd h2 (by omega)⟩, e, f, g, kR_par_congr (fun q hq => by rw [kt_up_big (by omega) q hq, kt_up_big (by omega) q hq]) rfl rfl rfl rfl p⟩
theorem km_in_eq {τ : kt_S} {k : Nat} (hk : k < 48) (h : τ 0 10 = nI k) (x : Int32) : kp_M_in x τ = some (kt_up (kt_up τ 2 k x) 0 10 (nI (k + 1))) := by
  unfold kp_M_in kp_M_in_0
  rw [h, if_neg (kn_in (by omega) (by omega)), kn_cl (by omega), kn_succ]
/-- from one state of writing to a later one -/
theorem kJ_of {n k k' : Nat} {σ σ' τ τ' : kt_S} (H : kJ n k σ τ) (s : ∀ q, ¬ q = 7 → ¬ q = 8 → σ' q = σ q) (t : ∀ q, ¬ q = 0 → ¬ q = 2 → ¬ q = 3 → τ' q = τ q) (u : ∀ f, ¬ f = 10 → ¬ f = 12 → τ' 0 f = τ 0 f) (h12 : τ' 0 12 = 0) (c1 : τ' 2 = σ' 8) (c2 : σ' 7 1 = 0) (c3 : k' ≤ 48) (c4 : σ' 7 2 = nI k') (c5 : τ' 0 10 = nI k') (c6 : ∀ i, i < 48 → ∃ b : Nat, b < 256 ∧ σ' 8 i = nI b) : kJ n k' σ' τ' := by
  obtain ⟨a, b, _, ⟨d1, d2⟩, e, f, g, p⟩ := H
  refine ⟨?_, ?_, ⟨c1, c2, c3, c4, c5, c6⟩, ⟨(u 0 (by omega) (by omega)).trans d1, h12⟩, ?_, ?_, ?_, kR_par_congr (fun q h => s q (by omega) (by omega)) (t 15 (by omega) (by omega) (by omega)) (t 16 (by omega) (by omega) (by omega)) (t 17 (by omega) (by omega) (by omega)) (t 18 (by omega) (by omega) (by omega)) p⟩
  · unfold kR_st
    rw [t 1 (by omega) (by omega) (by omega), s 3 (by omega) (by omega), s 2 (by omega) (by omega), s 1 (by omega) (by omega), u 2 (by omega) (by omega), u 4 (by omega) (by omega)]
    exact a
  · rw [s 1 (by omega) (by omega), u 5 (by omega) (by omega), u 6 (by omega) (by omega), u 7 (by omega) (by omega), u 8 (by omega) (by omega)]
    exact b
  · unfold kR_next
    rw [t 4 (by omega) (by omega) (by omega), s 14 (by omega) (by omega), s 1 (by omega) (by omega), s 3 (by omega) (by omega), u 15 (by omega) (by omega), u 16 (by omega) (by omega), u 13 (by omega) (by omega)]
    exact e
  · unfold kR_cnt
    rw [s 1 (by omega) (by omega), s 4 (by omega) (by omega), s 0 (by omega) (by omega), u 17 (by omega) (by omega), u 18 (by omega) (by omega), u 19 (by omega) (by omega), u 20 (by omega) (by omega)]
    exact f
  · unfold kR_sig
    rw [s 5 (by omega) (by omega), s 4 (by omega) (by omega), t 5 (by omega) (by omega) (by omega)]
    exact g
/-- what writing leaves as it was -/
def kJf (σ τ σ' τ' : kt_S) : Prop := (∀ q, ¬ q = 7 → ¬ q = 8 → σ' q = σ q) ∧ (∀ q, ¬ q = 0 → ¬ q = 2 → ¬ q = 3 → τ' q = τ q) ∧ σ' 8 0 = σ 8 0
theorem kJf_trans {σ τ σ' τ' σ'' τ'' : kt_S} (h : kJf σ τ σ' τ') (h' : kJf σ' τ' σ'' τ'') : kJf σ τ σ'' τ'' := ⟨fun q a b => (h'.1 q a b).trans (h.1 q a b), fun q a b c => (h'.2.1 q a b c).trans (h.2.1 q a b c), h'.2.2.trans h.2.2⟩
theorem kJ_byte {n k b : Nat} {σ τ : kt_S} (H : kJ n k σ τ) (hk : k < 48) (hk1 : 1 ≤ k) (hb : b < 256) : ∃ σ' τ', kp_B_add_7 (nI b) σ = some σ' ∧ kp_M_in (nI b) τ = some τ' ∧ kJ n (k + 1) σ' τ' ∧ kJf σ τ σ' τ' := by
  have H' := H
  obtain ⟨_, _, ⟨c1, c2, c3, c4, c5, c6⟩, ⟨d1, d2⟩, _⟩ := H'
  have e1 := kf_add (σ := σ) (k := k) hk c4 (nI b)
  rw [kn_small hb] at e1
  refine ⟨_, _, e1, km_in_eq hk c5 (nI b), kJ_of H (fun q h7 h8 => by rw [kt_up_ne _ _ _ h7, kt_up_ne _ _ _ h8]) (fun q h0 h2 _ => by rw [kt_up_ne _ _ _ h0, kt_up_ne _ _ _ h2]) (fun f h10 _ => ?_) d2 ?_ c2 (by omega) rfl rfl (fun i hi => ?_), fun q h7 h8 => by rw [kt_up_ne _ _ _ h7, kt_up_ne _ _ _ h8], fun q h0 h2 _ => by rw [kt_up_ne _ _ _ h0, kt_up_ne _ _ _ h2], ?_⟩
  · show upd (τ 0) 10 (nI (k + 1)) f = τ 0 f
    unfold upd
    rw [if_neg h10]
  · show upd (τ 2) k (nI b) = upd (σ 8) k (nI b)
    rw [c1]
  · show ∃ b' : Nat, b' < 256 ∧ upd (σ 8) k (nI b) i = nI b'
    unfold upd
    by_cases z : i = k
    · rw [if_pos z]
      exact ⟨b, hb, rfl⟩
    · rw [if_neg z]
      exact c6 i hi
  · show upd (σ 8) k (nI b) 0 = σ 8 0
    unfold upd
    rw [if_neg (by omega)]
/-- the copy from output to input -/
theorem kJ_copy {k0 L : Nat} (hL : k0 + L ≤ 48) (hL8 : L ≤ 60) : ∀ c j f (τ : kt_S), j + c = L → c < f → τ 0 12 = nI L → τ 0 10 = nI (k0 + j) → ∃ τ', kp_M_inPair_23 f 0 (nI j) τ = some τ' ∧ τ' 0 12 = 0 ∧ τ' 0 10 = nI (k0 + L) ∧ (∀ q, ¬ q = 0 → ¬ q = 2 → τ' q = τ q) ∧ (∀ f, ¬ f = 10 → ¬ f = 12 → τ' 0 f = τ 0 f) ∧ (∀ i, j ≤ i → i < L → τ' 2 (k0 + i) = τ 3 i) ∧ ∀ i, (i < k0 + j ∨ k0 + L ≤ i) → τ' 2 i = τ 2 i := by
  intro c
  induction c with
  | zero =>
    intro j f τ hj hf h12 h10
    obtain ⟨f, rfl⟩ := Nat.exists_eq_add_one_of_ne_zero (show ¬ f = 0 by omega)
    have hjL : j = L := by omega
    subst hjL
    refine ⟨kt_up τ 0 12 0, ?_, rfl, h10, fun q h0 _ => kt_up_ne _ _ _ h0, fun f _ hf => ?_, fun i h h' => absurd h' (by omega), fun i _ => rfl⟩
    · show kp_M_inPair_23b (kp_M_inPair_23 f) _ _ _ = _
      unfold kp_M_inPair_23b
      rw [h12, if_pos (kn_leR (by omega) (Nat.le_refl _))]
    · show upd (τ 0) 12 0 f = τ 0 f
      unfold upd
      rw [if_neg hf]
  | succ c ih =>
    intro j f τ hj hf h12 h10
    obtain ⟨f, rfl⟩ := Nat.exists_eq_add_one_of_ne_zero (show ¬ f = 0 by omega)
    have e1 := km_in_eq (τ := τ) (k := k0 + j) (by omega) h10 (τ 3 j)
    obtain ⟨τ', g1, g2, g3, g4, g5, g6, g7⟩ := ih (j + 1) f (kt_up (kt_up τ 2 (k0 + j) (τ 3 j)) 0 10 (nI (k0 + j + 1))) (by omega) (by omega) h12 rfl
    refine ⟨τ', ?_, g2, g3, fun q h0 h2 => by rw [g4 q h0 h2, kt_up_ne _ _ _ h0, kt_up_ne _ _ _ h2], fun f h10 hf => ?_, fun i h h' => ?_, fun i hi => ?_⟩
    · show kp_M_inPair_23b (kp_M_inPair_23 f) _ _ _ = _
      unfold kp_M_inPair_23b
      rw [h12, if_neg (show ¬ nI L ≤ nI j from fun z => by have := (kn_le (by omega) (by omega)).mp z; omega), if_neg (kn_in (by omega) (by omega)), kn_cl (by omega), e1, kt_bs, kn_succ]
      exact g1
    · rw [g5 f h10 hf]
      show upd (τ 0) 10 (nI (k0 + j + 1)) f = τ 0 f
      unfold upd
      rw [if_neg h10]
    · by_cases z : i = j
      · rw [g7 (k0 + i) (Or.inl (by omega))]
        show upd (τ 2) (k0 + j) (τ 3 j) (k0 + i) = τ 3 i
        unfold upd
        rw [if_pos (by omega), z]
      · rw [g6 i (by omega) h']
        rfl
    · rw [g7 i (by omega)]
      show upd (τ 2) (k0 + j) (τ 3 j) i = τ 2 i
      unfold upd
      rw [if_neg (by omega)]
theorem kJ_pair {n k key m : Nat} {σ τ : kt_S} (H : kJ n k σ τ) (hk : k + 8 < 48) (hk1 : 1 ≤ k) (hkey : key < 24) (hm : m < 2147483648) : ∃ k' σ' τ', kp_B_addPair_7 (nI key) (nI m) σ = some σ' ∧ kp_M_inPair (nI key) (nI m) τ = some τ' ∧ k' ≤ k + 6 ∧ 1 ≤ k' ∧ kJ n k' σ' τ' ∧ kJf σ τ σ' τ' := by
  obtain ⟨σ1, τ1, a1, a2, a3, a4⟩ := kJ_byte (b := key) H (by omega) hk1 (by omega)
  have a3' := a3
  obtain ⟨_, _, ⟨c1, c2, c3, c4, c5, c6⟩, ⟨d1, d2⟩, _⟩ := a3'
  have hH : kH (k + 1) 0 σ1 (kt_up τ1 0 12 0) σ1 (kt_up τ1 0 12 0) := ⟨0, Nat.le_refl _, c4, rfl, fun j hj => absurd hj (by omega), fun _ _ => rfl, fun _ _ => rfl, rfl, fun _ _ _ => rfl, fun _ _ _ => rfl, fun _ _ => rfl⟩
  obtain ⟨σ2, τ2, b1, b2, L, l1, l2, l3, l4, l5, l6, l7, l8, l9, l10⟩ := kH_number hH (by omega) hm
  have t10 : τ2 0 10 = nI (k + 1 + 0) := by
    rw [l10 10 (by omega)]
    exact c5
  obtain ⟨τ3, g1, g2, g3, g4, g5, g6, g7⟩ := kJ_copy (k0 := k + 1) (L := L) (by omega) (by omega) L 0 100 τ2 (by omega) (by omega) l3 t10
  have t2 : τ2 2 = τ1 2 := l9 2 (by omega) (by omega)
  have e8 : ∀ i, τ3 2 i = σ2 8 i := fun i => by
    by_cases z1 : i < k + 1
    · rw [g7 i (by omega), t2, c1, l5 i z1]
    · by_cases z2 : k + 1 + L ≤ i
      · rw [g7 i (by omega), t2, c1, l6 i z2]
      · obtain ⟨j, rfl⟩ : ∃ j, i = k + 1 + j := ⟨i - (k + 1), by omega⟩
        rw [g6 j (by omega) (by omega), (l4 j (by omega)).1]
  have hs : ∀ q, ¬ q = 7 → ¬ q = 8 → σ2 q = σ1 q := l8
  have ht : ∀ q, ¬ q = 0 → ¬ q = 2 → ¬ q = 3 → τ3 q = τ1 q := fun q h0 h2 h3 => by rw [g4 q h0 h2, l9 q h0 h3, kt_up_ne _ _ _ h0]
  have hf : ∀ f, ¬ f = 10 → ¬ f = 12 → τ3 0 f = τ1 0 f := fun f h10 h12 => by
    rw [g5 f h10 h12, l10 f h12]
    show upd (τ1 0) 12 0 f = τ1 0 f
    unfold upd
    rw [if_neg h12]
  have hJ : kJ n (k + 1 + L) σ2 τ3 := kJ_of a3 hs ht hf g2 (funext e8) (l7.trans c2) (by omega) l2 g3 (fun i hi => by
    by_cases z1 : i < k + 1
    · rw [l5 i z1]
      exact c6 i hi
    · by_cases z2 : k + 1 + L ≤ i
      · rw [l6 i z2]
        exact c6 i hi
      · obtain ⟨j, rfl⟩ : ∃ j, i = k + 1 + j := ⟨i - (k + 1), by omega⟩
        obtain ⟨q1, q2⟩ := l4 j (by omega)
        rw [q1]
        exact q2)
  refine ⟨k + 1 + L, σ2, τ3, ?_, ?_, by omega, by omega, hJ, kJf_trans a4 ⟨hs, ht, l5 0 (by omega)⟩⟩
  · unfold kp_B_addPair_7 kp_B_addPair_7_0
    have h0 : kp_B_addHead_7 0 (nI key) σ = some σ1 := by
      have := kh_head0 (m := 0) hkey σ
      rw [show 32 * 0 + key = key by omega] at this
      exact this.trans a1
    rw [h0, kt_bs, b1, kt_bs]
  · unfold kp_M_inPair kp_M_inPair_0
    have g1' : kp_M_inPair_23 100 (τ1 0 12) 0 τ2 = some τ3 := by
      rw [d2]
      exact g1
    rw [a2, kt_bs, b2, kt_bs, g1']
