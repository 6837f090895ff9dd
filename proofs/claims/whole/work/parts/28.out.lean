/-! The output is written alike. -/
theorem km_out_eq {τ : kt_S} {k : Nat} (hk : k < 80) (h : τ 0 12 = nI k) (x : Int32) : kp_M_out x τ = some (kt_up (kt_up τ 3 k x) 0 12 (nI (k + 1))) := by
  unfold kp_M_out kp_M_out_0
  rw [h, if_neg (kn_in (by omega) (by omega)), kn_cl (by omega), kn_succ]
theorem ks_add {σ : kt_S} {e : Nat} (he : e < 80) (h : σ 12 2 = nI e) (x : Int32) : kp_B_add_12 x σ = some (kt_up (kt_up σ 13 e (x &&& 255)) 12 2 (nI (e + 1))) := by
  unfold kp_B_add_12 kp_B_add_12_0 kp_B_add_12_43
  rw [h, if_neg (kn_nn (by omega)), if_neg (show ¬ Int32.ofNat 80 ≤ nI e from fun z => by have := (kn_le (a := 80) (by omega) (by omega)).mp z; omega), if_neg (kn_in (by omega) (by omega)), kn_cl (by omega), kn_succ]
/-- alike but for what is left until the cut -/
def kRn (n : Nat) (σ τ : kt_S) : Prop := kR n (kt_up σ 2 2 (-1)) (kt_up τ 0 4 (-1))
theorem kRn_swap {n : Nat} {σ σ' τ τ' : kt_S} (H : kRn n σ τ) (h0 : ∀ k, ¬ k = 12 → τ' 0 k = τ 0 k) (hq : ∀ q, ¬ q = 0 → ¬ q = 3 → τ' q = τ q) (hσ : ∀ q, ¬ q = 12 → ¬ q = 13 → σ' q = σ q) (hout : kR_out σ' τ') (hpow : ¬ σ 1 5 = 0) : kRn n σ' τ' := by
  refine kR_swap H (fun k hk => ?_) (fun q h h3 => ?_) (fun q h h3 => ?_) hout hpow
  · show upd (τ' 0) 4 (-1) k = upd (τ 0) 4 (-1) k
    unfold upd
    by_cases z : k = 4
    · rw [if_pos z, if_pos z]
    · rw [if_neg z, if_neg z, h0 k hk]
  · rw [kt_up_ne _ _ _ h, kt_up_ne _ _ _ h, hq q h h3]
  · by_cases z : q = 2
    · subst z
      show upd (σ' 2) 2 (-1) = upd (σ 2) 2 (-1)
      rw [hσ 2 h h3]
    · rw [kt_up_ne _ _ _ z, kt_up_ne _ _ _ z, hσ q h h3]
/-- alike, with at most E bytes, and but for the output as at the start -/
def kO (n E : Nat) (σ0 τ0 σ τ : kt_S) : Prop := kRn n σ τ ∧ ¬ σ 1 5 = 0 ∧ (∃ e : Nat, 1 ≤ e ∧ e ≤ E ∧ σ 12 2 = nI e) ∧ σ 12 1 = nI 0 ∧ (∀ q, ¬ q = 12 → ¬ q = 13 → σ q = σ0 q) ∧ (∀ q, ¬ q = 0 → ¬ q = 3 → τ q = τ0 q) ∧ ∀ k, ¬ k = 12 → τ 0 k = τ0 0 k
theorem kO_mono {n E F : Nat} {σ0 τ0 σ τ : kt_S} (h : E ≤ F) (H : kO n E σ0 τ0 σ τ) : kO n F σ0 τ0 σ τ := by
  obtain ⟨a, b, ⟨e, c0, c1, c2⟩, d⟩ := H
  exact ⟨a, b, ⟨e, c0, by omega, c2⟩, d⟩
theorem kO_out {σ τ : kt_S} {e b : Nat} (he : e < 80) (hb : b < 256) (h1 : σ 12 1 = nI 0) (h2 : σ 12 2 = nI e) (H : kR_out σ τ) : τ 0 12 = nI e ∧ kR_out (kt_up (kt_up σ 13 e (nI b)) 12 2 (nI (e + 1))) (kt_up (kt_up τ 3 e (nI b)) 0 12 (nI (e + 1))) := by
  obtain ⟨x, y, d1, d2, d3, d4, d5, d6, d7⟩ := H
  rw [h1, kn_eq (by omega) (by omega)] at d3
  rw [h2, kn_eq (by omega) (by omega)] at d4
  subst d3 d4
  refine ⟨d5, 0, e + 1, by omega, by omega, h1, rfl, rfl, fun j hj => ?_, fun j hj hj2 => ?_⟩
  · show upd (τ 3) e (nI b) j = upd (σ 13) e (nI b) (0 + j)
    rw [Nat.zero_add]
    unfold upd
    by_cases h : j = e
    · rw [if_pos h, if_pos h]
    · rw [if_neg h, if_neg h, d6 j (by omega), Nat.zero_add]
  · show ∃ b' : Nat, b' < 256 ∧ upd (σ 13) e (nI b) j = nI b'
    unfold upd
    by_cases h : j = e
    · rw [if_pos h]
      exact ⟨b, hb, rfl⟩
    · rw [if_neg h]
      exact d7 j (by omega) (by omega)
theorem kO_add {n E b : Nat} {σ0 τ0 σ τ : kt_S} (H : kO n E σ0 τ0 σ τ) (hE : E < 80) (hb : b < 256) (x : Int32) (hx : x &&& 255 = nI b) : ∃ σ' τ', kp_B_add_12 x σ = some σ' ∧ kp_M_out (nI b) τ = some τ' ∧ kO n (E + 1) σ0 τ0 σ' τ' := by
  obtain ⟨a, b0, ⟨e, c0, c1, c2⟩, d1, d2, d3, d4⟩ := H
  obtain ⟨o1, o2⟩ := kO_out (by omega) hb d1 c2 (show kR_out σ τ from a.2.2.2.1)
  refine ⟨_, _, ks_add (by omega) c2 x, km_out_eq (by omega) o1 (nI b), ?_⟩
  rw [hx]
  have f1 : ∀ q, ¬ q = 12 → ¬ q = 13 → kt_up (kt_up σ 13 e (nI b)) 12 2 (nI (e + 1)) q = σ q := fun q h1 h2 => by rw [kt_up_ne _ _ _ h1, kt_up_ne _ _ _ h2]
  have f2 : ∀ q, ¬ q = 0 → ¬ q = 3 → kt_up (kt_up τ 3 e (nI b)) 0 12 (nI (e + 1)) q = τ q := fun q h1 h2 => by rw [kt_up_ne _ _ _ h1, kt_up_ne _ _ _ h2]
  have f3 : ∀ k, ¬ k = 12 → kt_up (kt_up τ 3 e (nI b)) 0 12 (nI (e + 1)) 0 k = τ 0 k := fun k hk => by
    show upd (τ 0) 12 (nI (e + 1)) k = τ 0 k
    unfold upd
    rw [if_neg hk]
  exact ⟨kRn_swap a f3 f2 f1 o2 b0, b0, ⟨e + 1, by omega, by omega, rfl⟩, d1, fun q h1 h2 => (f1 q h1 h2).trans (d2 q h1 h2), fun q h1 h2 => (f2 q h1 h2).trans (d3 q h1 h2), fun k hk => (f3 k hk).trans (d4 k hk)⟩
theorem kn_small {m : Nat} (h : m < 256) : nI m &&& 255 = nI m := by
  have := pk_andN (n := m) (by omega) (m := 255) 8 (by decide)
  rw [show m % 2 ^ 8 = m by omega] at this
  exact this
theorem kO_byte {n E b : Nat} {σ0 τ0 σ τ : kt_S} (H : kO n E σ0 τ0 σ τ) (hE : E < 80) (hb : b < 256) : ∃ σ' τ', kp_B_add_12 (nI b) σ = some σ' ∧ kp_M_out (nI b) τ = some τ' ∧ kO n (E + 1) σ0 τ0 σ' τ' := kO_add H hE hb (nI b) (kn_small hb)
theorem ks_width0 {v : Nat} (h : v < 24) (σ : kt_S) : kp_B_widthOf (nI v) σ = some (0, σ) := by
  unfold kp_B_widthOf kp_B_widthOf_0 kp_B_widthOf_32
  rw [if_neg (show ¬ (24 : Int32) ≤ nI v from fun z => by have := (kn_le (a := 24) (by omega) (by omega)).mp z; omega)]
theorem ks_loop0 (v : Int32) (σ : kt_S) : kp_B_addHead_12_49 100 v (0 - 1) σ = some σ := by
  have : ∀ f, kp_B_addHead_12_49 (f + 1) v (0 - 1) σ = some σ := fun f => by
    show kp_B_addHead_12_49b (kp_B_addHead_12_49 f) _ _ _ = _
    unfold kp_B_addHead_12_49b
    rw [if_pos (by decide)]
  exact this 99
theorem ks_head0 {m v : Nat} (h : v < 24) (σ : kt_S) : kp_B_addHead_12 (nI m) (nI v) σ = kp_B_add_12 (nI (32 * m + v)) σ := by
  unfold kp_B_addHead_12 kp_B_addHead_12_0 kp_B_addHead_12_40
  rw [ks_width0 h, kt_bs]
  dsimp only
  rw [if_pos rfl, show (32 : Int32) * nI m = nI (32 * m) from kn_mul 32 m, kn_add]
  cases kp_B_add_12 (nI (32 * m + v)) σ with
  | none => rfl
  | some x => rw [kt_bs, ks_loop0]
theorem kO_head0 {n E m v : Nat} {σ0 τ0 σ τ : kt_S} (H : kO n E σ0 τ0 σ τ) (hE : E < 80) (hv : v < 24) (hm : m < 8) : ∃ σ' τ', kp_B_addHead_12 (nI m) (nI v) σ = some σ' ∧ kp_M_out (nI (32 * m + v)) τ = some τ' ∧ kO n (E + 1) σ0 τ0 σ' τ' := by
  rw [ks_head0 hv]
  exact kO_byte H hE (by omega)
/-- the bytes of a wide number -/
theorem kO_wide {n : Nat} {σ0 τ0 : kt_S} (v : Int32) : ∀ (w E f f' : Nat) (l4 l3 : Int32) (σ τ : kt_S), kO n E σ0 τ0 σ τ → E + w < 80 → w < f → w < f' → w ≤ 4 → l4 + 1 = nI w → l3 + 8 = nI (8 * w) → ∃ σ' τ', kp_B_addHead_12_49 f v l4 σ = some σ' ∧ kp_M_number_74 f' v l3 τ = some τ' ∧ kO n (E + w) σ0 τ0 σ' τ' := by
  intro w
  induction w with
  | zero =>
    intro E f f' l4 l3 σ τ H hE hf hf' hw hl4 hl3
    obtain ⟨f, rfl⟩ := Nat.exists_eq_add_one_of_ne_zero (Nat.ne_of_gt hf)
    obtain ⟨f', rfl⟩ := Nat.exists_eq_add_one_of_ne_zero (Nat.ne_of_gt hf')
    have e4 : l4 = -1 := by
      have h := congrArg (fun x => x - 1) hl4
      rw [Int32.add_sub_cancel] at h
      rw [h]; decide
    have e3 : l3 = -8 := by
      have h := congrArg (fun x => x - 8) hl3
      rw [Int32.add_sub_cancel] at h
      rw [h]; decide
    refine ⟨σ, τ, ?_, ?_, H⟩
    · show kp_B_addHead_12_49b (kp_B_addHead_12_49 f) _ _ _ = _
      unfold kp_B_addHead_12_49b
      rw [e4, if_pos (by decide)]
    · show kp_M_number_74b (kp_M_number_74 f') _ _ _ = _
      unfold kp_M_number_74b kp_M_number_95
      rw [e3, if_pos (by decide)]
  | succ w ih =>
    intro E f f' l4 l3 σ τ H hE hf hf' hw hl4 hl3
    obtain ⟨f, rfl⟩ := Nat.exists_eq_add_one_of_ne_zero (show ¬ f = 0 by omega)
    obtain ⟨f', rfl⟩ := Nat.exists_eq_add_one_of_ne_zero (show ¬ f' = 0 by omega)
    have e4 : l4 = nI w := by
      have h := congrArg (fun x => x - 1) hl4
      rw [Int32.add_sub_cancel, nI_pred] at h
      exact h
    have e3 : l3 = nI (8 * w) := by
      have h := congrArg (fun x => x - 8) hl3
      rw [Int32.add_sub_cancel] at h
      rw [h, show (8 : Int32) = nI 8 from rfl, kn_sub (by omega), show 8 * (w + 1) - 8 = 8 * w by omega]
    have es : (8 : Int32) * l4 = nI (8 * w) := by
      rw [e4]
      exact kn_mul 8 w
    obtain ⟨b, hb1, hb2⟩ := kn_byte (v >>> (nI (8 * w) &&& 31))
    obtain ⟨σ1, τ1, g1, g2, g3⟩ := kO_add H (by omega) hb1 _ hb2
    obtain ⟨σ', τ', k1, k2, k3⟩ := ih (E + 1) f f' (l4 + (-1)) (l3 + (-8)) σ1 τ1 g3 (by omega) (by omega) (by omega) (by omega) (by rw [e4, Int32.add_assoc, show (-1 : Int32) + 1 = 0 by decide, Int32.add_zero]) (by rw [e3, Int32.add_assoc, show (-8 : Int32) + 8 = 0 by decide, Int32.add_zero])
    refine ⟨σ', τ', ?_, ?_, kO_mono (by omega) k3⟩
    · show kp_B_addHead_12_49b (kp_B_addHead_12_49 f) _ _ _ = _
      unfold kp_B_addHead_12_49b
      rw [if_neg (show ¬ l4 < 0 by rw [e4]; exact kn_nn (by omega)), es, g1, kt_bs]
      exact k1
    · show kp_M_number_74b (kp_M_number_74 f') _ _ _ = _
      unfold kp_M_number_74b
      rw [if_neg (show ¬ l3 < 0 by rw [e3]; exact kn_nn (by omega))]
      have : (v >>> (l3 &&& 31)) &&& 255 = nI b := by rw [e3]; exact hb2
      rw [this, g2, kt_bs]
      exact k2
theorem kO_number {n E m : Nat} {σ0 τ0 σ τ : kt_S} (H : kO n E σ0 τ0 σ τ) (hE : E + 6 < 80) (hm : m < 2147483648) : ∃ σ' τ', kp_B_addHead_12 0 (nI m) σ = some σ' ∧ kp_M_number (nI m) τ = some τ' ∧ kO n (E + 5) σ0 τ0 σ' τ' := by
  by_cases h0 : m < 24
  · obtain ⟨σ', τ', g1, g2, g3⟩ := kO_head0 (m := 0) H (by omega) h0 (by omega)
    refine ⟨σ', τ', g1, ?_, kO_mono (by omega) g3⟩
    rw [show 32 * 0 + m = m by omega] at g2
    unfold kp_M_number kp_M_number_0 kp_M_number_95
    rw [if_neg (show ¬ (24 : Int32) ≤ nI m from fun z => by have := (kn_le (a := 24) (by omega) (by omega)).mp z; omega), g2, kt_bs]
  have c24 : (24 : Int32) ≤ nI m := kn_leR (a := 24) (by omega) (by omega)
  have e0 : ∀ k, (32 : Int32) * 0 + nI k = nI k := fun k => by
    rw [show (32 : Int32) * 0 = nI 0 by decide, kn_add, Nat.zero_add]
  unfold kp_B_addHead_12 kp_B_addHead_12_0 kp_B_addHead_12_40 kp_B_widthOf kp_B_widthOf_0 kp_B_widthOf_32 kp_M_number kp_M_number_0 kp_M_number_46 kp_M_number_59 kp_M_number_73
  rw [if_pos c24, if_pos c24]
  by_cases h1 : m < 256
  · have c256 : ¬ (256 : Int32) ≤ nI m := fun z => by have := (kn_le (a := 256) (by omega) (by omega)).mp z; omega
    rw [if_neg c256, if_neg c256, kt_bs]
    dsimp only
    rw [if_neg ki_10, if_pos rfl]
    obtain ⟨σ1, τ1, g1, g2, g3⟩ := kO_byte (b := 24) H (by omega) (by omega)
    obtain ⟨σ2, τ2, k1, k2, k3⟩ := kO_byte (b := m) g3 (by omega) h1
    refine ⟨σ2, τ2, ?_, ?_, kO_mono (by omega) k3⟩
    · have g1' : kp_B_add_12 (32 * 0 + 24) σ = some σ1 := by
        have := e0 24
        rw [show (24 : Int32) = nI 24 from rfl, this]
        exact g1
      rw [g1', kt_bs]
      have : ∀ f, kp_B_addHead_12_49 (f + 2) (nI m) (1 - 1) σ1 = some σ2 := fun f => by
        show kp_B_addHead_12_49b (kp_B_addHead_12_49 (f + 1)) _ _ _ = _
        unfold kp_B_addHead_12_49b
        have hs : nI m >>> (((8 : Int32) * (1 - 1)) &&& 31) = nI m := by
          have := pk_shrN (n := m) (by omega) (((8 : Int32) * (1 - 1)) &&& 31) 0 (by decide)
          rw [show m / 2 ^ 0 = m by omega] at this
          exact this
        rw [if_neg (by decide), hs, k1, kt_bs]
        show kp_B_addHead_12_49b (kp_B_addHead_12_49 f) _ _ _ = _
        unfold kp_B_addHead_12_49b
        rw [if_pos (by decide)]
      exact this 98
    · have g2' : kp_M_out 24 τ = some τ1 := g2
      unfold kp_M_number_95
      rw [g2', kt_bs, k2, kt_bs]
  have c256 : (256 : Int32) ≤ nI m := kn_leR (a := 256) (by omega) (by omega)
  rw [if_pos c256, if_pos c256]
  by_cases h2 : m < 65536
  · have c65 : ¬ (65536 : Int32) ≤ nI m := fun z => by have := (kn_le (a := 65536) (by omega) (by omega)).mp z; omega
    rw [if_neg c65, if_neg c65, kt_bs]
    dsimp only
    rw [if_neg (show ¬ (2 : Int32) = 0 by decide), if_neg (show ¬ (2 : Int32) = 1 by decide), if_pos rfl, if_neg ki_10]
    obtain ⟨σ1, τ1, g1, g2, g3⟩ := kO_byte (b := 25) H (by omega) (by omega)
    obtain ⟨σ2, τ2, k1, k2, k3⟩ := kO_wide (nI m) 2 (E + 1) 100 100 (2 - 1) 8 σ1 τ1 g3 (by omega) (by omega) (by omega) (by omega) (by decide) (by decide)
    refine ⟨σ2, τ2, ?_, ?_, kO_mono (by omega) k3⟩
    · have g1' : kp_B_add_12 (32 * 0 + 25) σ = some σ1 := by
        have := e0 25
        rw [show (25 : Int32) = nI 25 from rfl, this]
        exact g1
      rw [g1', kt_bs, k1]
    · have g2' : kp_M_out 25 τ = some τ1 := g2
      rw [g2', kt_bs, if_neg ki_10, k2]
  · have c65 : (65536 : Int32) ≤ nI m := kn_leR (a := 65536) (by omega) (by omega)
    rw [if_pos c65, if_pos c65, kt_bs]
    dsimp only
    rw [if_neg (show ¬ (4 : Int32) = 0 by decide), if_neg (show ¬ (4 : Int32) = 1 by decide), if_neg (show ¬ (4 : Int32) = 2 by decide), if_pos rfl]
    obtain ⟨σ1, τ1, g1, g2, g3⟩ := kO_byte (b := 26) H (by omega) (by omega)
    obtain ⟨σ2, τ2, k1, k2, k3⟩ := kO_wide (nI m) 4 (E + 1) 100 100 (4 - 1) 24 σ1 τ1 g3 (by omega) (by omega) (by omega) (by omega) (by decide) (by decide)
    refine ⟨σ2, τ2, ?_, ?_, kO_mono (by omega) k3⟩
    · have g1' : kp_B_add_12 (32 * 0 + 26) σ = some σ1 := by
        have := e0 26
        rw [show (26 : Int32) = nI 26 from rfl, this]
        exact g1
      rw [g1', kt_bs, k1]
    · have g2' : kp_M_out 26 τ = some τ1 := g2
      rw [g2', kt_bs, if_pos rfl, k2]
theorem kO_pair {n E k m : Nat} {σ0 τ0 σ τ : kt_S} (H : kO n E σ0 τ0 σ τ) (hE : E + 7 < 80) (hk : k < 24) (hm : m < 2147483648) : ∃ σ' τ', kp_B_addPair_12 (nI k) (nI m) σ = some σ' ∧ kp_M_pair (nI k) (nI m) τ = some τ' ∧ kO n (E + 6) σ0 τ0 σ' τ' := by
  obtain ⟨σ1, τ1, g1, g2, g3⟩ := kO_head0 (m := 0) H (by omega) hk (by omega)
  rw [show 32 * 0 + k = k by omega] at g2
  obtain ⟨σ2, τ2, k1, k2, k3⟩ := kO_number (m := m) g3 (by omega) hm
  refine ⟨σ2, τ2, ?_, ?_, kO_mono (by omega) k3⟩
  · unfold kp_B_addPair_12 kp_B_addPair_12_0
    have g1' : kp_B_addHead_12 0 (nI k) σ = some σ1 := g1
    rw [g1', kt_bs, k1, kt_bs]
  · unfold kp_M_pair kp_M_pair_0
    rw [g2, kt_bs, k2, kt_bs]
/-- an answer is begun: the reference forgets what it had put down before -/
theorem kO_begin {n m : Nat} {σ τ : kt_S} (H : kRn n σ (kt_up τ 0 12 0)) (hp : ¬ σ 1 5 = 0) (h1 : σ 12 1 = nI 0) (h2 : σ 12 2 = nI 0) (hm : m < 24) : ∃ σ' τ', kp_T_beginAnswer (nI m) σ = some σ' ∧ kp_M_begin (nI m) τ = some τ' ∧ kO n 2 σ τ σ' τ' := by
  obtain ⟨o1, o2⟩ := kO_out (b := 0) (e := 0) (by omega) (by omega) h1 h2 (show kR_out σ (kt_up τ 0 12 0) from H.2.2.2.1)
  have f1 : ∀ q, ¬ q = 12 → ¬ q = 13 → kt_up (kt_up σ 13 0 (nI 0)) 12 2 (nI 1) q = σ q := fun q h1 h2 => by rw [kt_up_ne _ _ _ h1, kt_up_ne _ _ _ h2]
  have f2 : ∀ q, ¬ q = 0 → ¬ q = 3 → kt_up (kt_up (kt_up τ 0 12 0) 3 0 (nI 0)) 0 12 (nI 1) q = τ q := fun q h1 h2 => by rw [kt_up_ne _ _ _ h1, kt_up_ne _ _ _ h2, kt_up_ne _ _ _ h1]
  have f3 : ∀ k, ¬ k = 12 → kt_up (kt_up (kt_up τ 0 12 0) 3 0 (nI 0)) 0 12 (nI 1) 0 k = τ 0 k := fun k hk => by
    show upd (upd (τ 0) 12 0) 12 (nI 1) k = τ 0 k
    unfold upd
    rw [if_neg hk, if_neg hk]
  have f3' : ∀ k, ¬ k = 12 → kt_up (kt_up (kt_up τ 0 12 0) 3 0 (nI 0)) 0 12 (nI 1) 0 k = kt_up τ 0 12 0 0 k := fun k hk => by
    show upd (upd (τ 0) 12 0) 12 (nI 1) k = upd (τ 0) 12 0 k
    unfold upd
    rw [if_neg hk]
  have f2' : ∀ q, ¬ q = 0 → ¬ q = 3 → kt_up (kt_up (kt_up τ 0 12 0) 3 0 (nI 0)) 0 12 (nI 1) q = kt_up τ 0 12 0 q := fun q h1 h2 => by rw [kt_up_ne _ _ _ h1, kt_up_ne _ _ _ h2]
  have K : kO n 1 σ τ (kt_up (kt_up σ 13 0 (nI 0)) 12 2 (nI 1)) (kt_up (kt_up (kt_up τ 0 12 0) 3 0 (nI 0)) 0 12 (nI 1)) := ⟨kRn_swap H f3' f2' f1 o2 hp, hp, ⟨1, by omega, by omega, rfl⟩, h1, f1, f2, f3⟩
  obtain ⟨σ2, τ2, k1, k2, k3⟩ := kO_head0 (m := 5) K (by omega) hm (by omega)
  refine ⟨σ2, τ2, ?_, ?_, k3⟩
  · unfold kp_T_beginAnswer kp_T_beginAnswer_0
    have e1 : kp_B_add_12 0 σ = some (kt_up (kt_up σ 13 0 (nI 0)) 12 2 (nI 1)) := ks_add (e := 0) (by omega) h2 0
    have k1' : kp_B_addHead_12 5 (nI m) (kt_up (kt_up σ 13 0 (nI 0)) 12 2 (nI 1)) = some σ2 := k1
    rw [e1, kt_bs, k1', kt_bs]
  · unfold kp_M_begin kp_M_begin_0
    have e1 : kp_M_out 0 (kt_up τ 0 12 0) = some (kt_up (kt_up (kt_up τ 0 12 0) 3 0 (nI 0)) 0 12 (nI 1)) := km_out_eq (k := 0) (by omega) rfl 0
    have e2 : (160 : Int32) + nI m = nI (32 * 5 + m) := kn_add 160 m
    rw [e1, kt_bs, e2, k2, kt_bs]
