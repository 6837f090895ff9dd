/-! Texts as numbers, and names that are listed. -/
def kTn (B : Nat → Nat) (p : Nat) : Nat → Int32
  | 0 => 5
  | j + 1 => kTn B p j * 131 + nI (B (p + j))
theorem kR_tn {B : Nat → Nat} {σ : kt_S} (hB : kBy B (σ 8)) {p w : Nat} (hpw : p + w ≤ 48) : ∀ m j f, j + m = w → m < f → kp_R_textNumber_34 f (nI (p + w)) (kTn B p j) (nI (p + j)) σ = some (kTn B p w, σ) := by
  intro m
  induction m with
  | zero =>
    intro j f hj hf
    obtain ⟨f, rfl⟩ := Nat.exists_eq_add_one_of_ne_zero (Nat.ne_of_gt hf)
    have : j = w := by omega
    subst this
    show kp_R_textNumber_34b (kp_R_textNumber_34 f) _ _ _ _ = _
    unfold kp_R_textNumber_34b kp_R_textNumber_70
    rw [if_pos (kn_leR (by omega) (by omega))]
  | succ m ih =>
    intro j f hj hf
    obtain ⟨f, rfl⟩ := Nat.exists_eq_add_one_of_ne_zero (show ¬ f = 0 by omega)
    rw [← ih (j + 1) f (by omega) (by omega)]
    show kp_R_textNumber_34b (kp_R_textNumber_34 f) _ _ _ _ = _
    unfold kp_R_textNumber_34b
    rw [if_neg (show ¬ nI (p + w) ≤ nI (p + j) from fun z => by have := (kn_le (by omega) (by omega)).mp z; omega), if_neg (show ¬ (48 : Int32) ≤ nI (p + j) from fun z => by have := (kn_le (a := 48) (by omega) (by omega)).mp z; omega), if_neg (kn_in (by omega) (by omega)), kn_cl (by omega), hB.2 (p + j) (by omega), kn_succ]
    rfl
theorem km_tn {B : Nat → Nat} {τ : kt_S} (hB : kBy B (τ 2)) {p w i : Nat} (hi : i < 24) (hpw : p + w ≤ 48) (h12 : τ 12 i = nI w) (h13 : τ 13 i = nI p) : ∀ m j f, j + m = w → m < f → kp_M_textNumber_11 f (nI i) (kTn B p j) (nI j) τ = some (kTn B p w, τ) := by
  intro m
  induction m with
  | zero =>
    intro j f hj hf
    obtain ⟨f, rfl⟩ := Nat.exists_eq_add_one_of_ne_zero (Nat.ne_of_gt hf)
    have : j = w := by omega
    subst this
    show kp_M_textNumber_11b (kp_M_textNumber_11 f) _ _ _ _ = _
    unfold kp_M_textNumber_11b
    rw [if_neg (kn_in (by omega) (by omega)), kn_cl (by omega), h12, if_pos (kn_leR (by omega) (by omega))]
  | succ m ih =>
    intro j f hj hf
    obtain ⟨f, rfl⟩ := Nat.exists_eq_add_one_of_ne_zero (show ¬ f = 0 by omega)
    rw [← ih (j + 1) f (by omega) (by omega)]
    show kp_M_textNumber_11b (kp_M_textNumber_11 f) _ _ _ _ = _
    unfold kp_M_textNumber_11b
    rw [if_neg (kn_in (by omega) (by omega)), if_neg (kn_in (by omega) (by omega)), kn_cl (show i < 2147483648 by omega), h12, h13, if_neg (show ¬ nI w ≤ nI j from fun z => by have := (kn_le (by omega) (by omega)).mp z; omega), kn_add, if_neg (kn_in (by omega) (by omega)), kn_cl (show p + j < 2147483648 by omega), hB.2 (p + j) (by omega), kn_succ]
    rfl
theorem kQ_text {B : Nat → Nat} {k : Nat} {σ τ : kt_S} (hB : kBy B (σ 8)) (hBt : kBy B (τ 2)) (hk48 : k ≤ 48) {x : Nat} (hx : x ≤ 8) (h : kQy B k σ τ x) (hk : σ 9 x = nI 3) : ∃ X : Int32, kp_R_textNumber (nI x) σ = some (X, σ) ∧ kp_M_textNumber (nI x) τ = some (X, τ) := by
  obtain ⟨w', q1, q2, q3⟩ := kQ_num hx (Or.inr rfl) h hk
  obtain ⟨j, hj, f1, f2, f3, Mj, w, p, b1, b2, b3, b4, b5, b6, b7⟩ := h
  have hn : σ 10 x = nI w ∧ σ 11 x = nI (p + w) ∧ p + w ≤ k := by
    have ne : ∀ c : Nat, c < 9 → σ 9 x = nI c → c = 3 := fun c hc h => by
      rw [hk] at h
      exact ((kn_eq (by omega) (by omega)).mp h).symm
    rcases b7 with ⟨y0, ⟨y1, _⟩ | ⟨y1, _⟩⟩ | ⟨y0, y1⟩ | ⟨y0, y1, y2, y3, y4⟩ | ⟨_, y0, _, _, y1, y2⟩
    · have := ne 4 (by omega) y1
      omega
    · have := ne 8 (by omega) y1
      omega
    · have := ne 5 (by omega) y1
      omega
    · exact ⟨y2, y3, y4⟩
    · have := ne Mj (by omega) y1
      omega
  have hnum : kp_R_numberOf (nI x) σ = some (nI w, σ) := by
    unfold kp_R_numberOf kp_R_numberOf_0 kp_R_numberOf_18
    rw [f2, kt_bs]
    dsimp only
    rw [if_neg ki_10, if_neg (kn_in (by omega) (by omega)), kn_cl (by omega), hn.1]
  refine ⟨kTn B p w, ?_, ?_⟩
  · unfold kp_R_textNumber kp_R_textNumber_0
    rw [f2, kt_bs]
    dsimp only
    rw [if_neg ki_10, if_neg (kn_in (by omega) (by omega)), kn_cl (by omega), hn.2.1]
    unfold kp_R_textNumber_18
    rw [hnum, kt_bs]
    have hs : (if (0 : Int32) < nI (p + w) - nI w then nI (p + w) - nI w else 0) = nI p := by
      rw [kn_sub (by omega), show p + w - w = p by omega]
      by_cases z : p = 0
      · rw [z, if_neg (by decide)]
        rfl
      · rw [if_pos (show (0 : Int32) < nI p from (kn_lt (a := 0) (by omega) (by omega)).mpr (by omega))]
    show kp_R_textNumber_34 100 (nI (p + w)) 5 (if (0 : Int32) < nI (p + w) - nI w then nI (p + w) - nI w else 0) σ = _
    rw [hs]
    exact kR_tn hB (p := p) (w := w) (by omega) w 0 100 (by omega) (by omega)
  · unfold kp_M_textNumber kp_M_textNumber_0
    rw [f1, kt_bs]
    exact km_tn hBt hj (by omega) b2 b3 w 0 100 (by omega) (by omega)
/-! names -/
theorem kAl_le {B : Nat → Nat} {k : Nat} (hB : ∀ i, B i < 256) : ∀ c a, a ≤ k → kAl B k c a → a + c ≤ k := by
  intro c
  induction c with
  | zero => intro a ha _; omega
  | succ c ih =>
    intro a ha h
    obtain ⟨a', v, h1, h2⟩ := h
    have hs := kHd_spec hB h1
    have := ih a' (by omega) h2
    omega
theorem km_listed {B : Nat → Nat} {k : Nat} {τ : kt_S} (hB : kBy B (τ 2)) (ht : τ 0 10 = nI k) (hk48 : k ≤ 48) {i w x : Nat} (hi : i < 24) (h12 : τ 12 i = nI w) (hx : x ≤ 6) (hw : w < 2147483648) : ∀ c a j f (b : Bool) (M v : Int32), a ≤ k → j + c = w → c < f → kAl B k c a → ∃ a' M' v' : Int32, kp_M_listed_22 f (nI x) (nI i) (kb_i b) (nI j) (kd τ (nI a) M v 0) = some (kb_i (b || kLs B k c a x), kd τ a' M' v' 0) := by
  intro c
  induction c with
  | zero =>
    intro a j f b M v ha hj hf _
    obtain ⟨f, rfl⟩ := Nat.exists_eq_add_one_of_ne_zero (Nat.ne_of_gt hf)
    refine ⟨nI a, M, v, ?_⟩
    show kp_M_listed_22b (kp_M_listed_22 f) _ _ _ _ _ = _
    unfold kp_M_listed_22b
    have e12 : kd τ (nI a) M v 0 12 i = nI w := h12
    rw [if_neg (kn_in (by omega) (by omega)), kn_cl (by omega), e12, if_pos (kn_leR (by omega) (by omega)), if_pos (show kb_i b = 0 ∨ kb_i b = 1 by cases b <;> decide)]
    show _ = some (kb_i (b || false), kd τ (nI a) M v 0)
    rw [Bool.or_false]
  | succ c ih =>
    intro a j f b M v ha hj hf hal
    obtain ⟨f, rfl⟩ := Nat.exists_eq_add_one_of_ne_zero (show ¬ f = 0 by omega)
    obtain ⟨a1, v1, h1, h2⟩ := hal
    have hsp := kHd_spec hB.1 h1
    have hls : kLs B k (c + 1) a x = (decide (v1 = x) || kLs B k c a1 x) := by
      show (match kHd B k a with | some (a', _, v) => decide (v = x) || kLs B k c a' x | none => false) = _
      rw [h1]
    rcases km_head (M := M) (v := v) hB ht hk48 (show a ≤ 48 by omega) with ⟨a1', M1, v1', m1, m2⟩ | ⟨m1, _⟩
    · rw [h1] at m1
      cases m1
      obtain ⟨a', M', v', g⟩ := ih a1 (j + 1) f (b || decide (v1 = x)) (nI 0) (nI v1) (by omega) (by omega) (by omega) h2
      refine ⟨a', M', v', ?_⟩
      rw [hls, ← Bool.or_assoc, ← g]
      show kp_M_listed_22b (kp_M_listed_22 f) _ _ _ _ _ = _
      unfold kp_M_listed_22b kp_M_listed_50 kp_M_listed_55
      have e12 : kd τ (nI a) M v 0 12 i = nI w := h12
      have e24 : kd τ (nI a1) (nI 0) (nI v1) 0 0 24 = nI v1 := rfl
      rw [if_neg (kn_in (by omega) (by omega)), kn_cl (by omega), e12, if_neg (show ¬ nI w ≤ nI j from fun z => by have := (kn_le (by omega) (by omega)).mp z; omega), m2, kt_bs, e24, kn_succ]
      cases b with
      | true =>
        rw [if_neg (show ¬ kb_i true = 0 by decide), Bool.true_or]
        rfl
      | false =>
        rw [if_pos (show kb_i false = 0 from rfl), Bool.false_or]
        by_cases z : v1 = x
        · rw [if_pos (by rw [z]), decide_eq_true z]
          rfl
        · rw [if_neg (fun y => z ((kn_eq (by omega) (by omega)).mp y)), decide_eq_false z]
          rfl
    · rw [h1] at m1
      cases m1
theorem kn_bit {m x : Nat} (hm : m < 128) (hx : x ≤ 6) : ((nI m >>> (nI x &&& 31)) &&& 1 = 1) ↔ m.testBit x = true := by
  have h1 : nI m >>> (nI x &&& 31) = nI (m / 2 ^ x) := by
    have h31 : ((nI x &&& 31).toBitVec.smod 32).toNat = x := by
      have : x = 0 ∨ x = 1 ∨ x = 2 ∨ x = 3 ∨ x = 4 ∨ x = 5 ∨ x = 6 := by omega
      rcases this with rfl | rfl | rfl | rfl | rfl | rfl | rfl <;> decide
    exact pk_shrN (n := m) (by omega) _ x h31
  have hle : m / 2 ^ x ≤ m := Nat.div_le_self _ _
  have h2 : nI (m / 2 ^ x) &&& 1 = nI (m / 2 ^ x % 2) := by
    have := pk_andN (n := m / 2 ^ x) (by omega) (m := 1) 1 (by decide)
    exact this
  rw [h1, h2, Nat.testBit_eq_decide_div_mod_eq, decide_eq_true_iff]
  have h3 : m / 2 ^ x % 2 < 2 := Nat.mod_lt _ (by omega)
  exact kn_eq (a := m / 2 ^ x % 2) (b := 1) (by omega) (by omega)
theorem kQ_lists {B : Nat → Nat} {k : Nat} {σ τ : kt_S} (hBt : kBy B (τ 2)) (ht : τ 0 10 = nI k) (hbad : τ 0 25 = 0) (hk48 : k ≤ 48) {x y : Nat} (hx : x ≤ 8) (hy : y ≤ 6) (h : kQy B k σ τ x) (hk : σ 9 x = nI 4) : ∃ (b : Bool) (a' M' v' : Int32), kp_R_lists (nI x) (nI y) σ = some (kb_i b, σ) ∧ kp_M_listed (nI x) (nI y) τ = some (kb_i b, kd τ a' M' v' 0) := by
  obtain ⟨j, hj, f1, f2, f3, Mj, w, p, b1, b2, b3, b4, b5, b6, b7⟩ := h
  have hn : kAl B k w p ∧ ∃ m : Nat, m < 128 ∧ σ 10 x = nI m ∧ ∀ y, y ≤ 6 → m.testBit y = kLs B k w p y := by
    have ne : ∀ c : Nat, c < 9 → σ 9 x = nI c → c = 4 := fun c hc h => by
      rw [hk] at h
      exact ((kn_eq (by omega) (by omega)).mp h).symm
    rcases b7 with ⟨y0, ⟨y1, _, y2, y3⟩ | ⟨y1, _⟩⟩ | ⟨y0, y1⟩ | ⟨y0, y1, _⟩ | ⟨_, _, y0, _, y1, y2⟩
    · exact ⟨y2, y3⟩
    · have := ne 8 (by omega) y1
      omega
    · have := ne 5 (by omega) y1
      omega
    · have := ne Mj (by omega) y1
      omega
    · have := ne Mj (by omega) y1
      omega
  obtain ⟨hal, m, m1, m2, m3⟩ := hn
  have hle := kAl_le hBt.1 w p b6 hal
  obtain ⟨a', M', v', g⟩ := km_listed hBt ht hk48 hj b2 hy b5 w p 0 100 false (τ 0 23) (τ 0 24) b6 (by omega) (by omega) hal
  refine ⟨kLs B k w p y, a', M', v', ?_, ?_⟩
  · unfold kp_R_lists kp_R_lists_0 kp_R_lists_18 kp_R_numberOf kp_R_numberOf_0 kp_R_numberOf_18
    rw [f2, kt_bs]
    dsimp only
    rw [if_neg ki_10, if_neg (kn_in (by omega) (by omega)), kn_cl (by omega), m2, kt_bs]
    dsimp only
    rw [if_pos ki_b0, if_pos ki_b1]
    by_cases z : (nI m >>> (nI y &&& 31)) &&& 1 = 1
    · rw [if_pos z, ← m3 y hy, (kn_bit m1 hy).mp z]
      rfl
    · have : m.testBit y = false := by
        cases hb : m.testBit y with
        | true => exact absurd ((kn_bit m1 hy).mpr hb) z
        | false => rfl
      rw [if_neg z, ← m3 y hy, this]
      rfl
  · unfold kp_M_listed kp_M_listed_0
    rw [f1, kt_bs]
    dsimp only
    rw [if_neg (kn_in (by omega) (by omega)), kn_cl (by omega), b3]
    have e : kt_up τ 0 22 (nI p) = kd τ (nI p) (τ 0 23) (τ 0 24) 0 := by
      unfold kd
      rw [kt_up_same (k := 23) (show kt_up τ 0 22 (nI p) 0 23 = τ 0 23 from rfl), kt_up_same (k := 24) (show kt_up τ 0 22 (nI p) 0 24 = τ 0 24 from rfl), kt_up_same (k := 25) (show kt_up τ 0 22 (nI p) 0 25 = 0 from hbad)]
    rw [e]
    rw [Bool.false_or] at g
    exact g
