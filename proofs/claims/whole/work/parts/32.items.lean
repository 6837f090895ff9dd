/-! Items inside the outermost map: the class's recursion and the reference's stack. -/
theorem kt_up_swap {τ : kt_S} {p q k i : Nat} {x y : Int32} (h : ¬ p = q) : kt_up (kt_up τ p k x) q i y = kt_up (kt_up τ q i y) p k x := by
  funext r
  unfold kt_up
  by_cases h1 : r = q
  · subst h1
    rw [if_pos rfl, if_neg (fun z => h z.symm), if_neg (fun z => h z.symm), if_pos rfl]
  · rw [if_neg h1]
    by_cases h2 : r = p
    · subst h2
      rw [if_pos rfl, if_pos rfl, if_neg h]
    · rw [if_neg h2, if_neg h2, if_neg h1]
theorem kd_row {τ : kt_S} {q i : Nat} {a M v b x : Int32} (h : ¬ q = 0) : kt_up (kd τ a M v b) q i x = kd (kt_up τ q i x) a M v b := by
  unfold kd
  have h' : ¬ 0 = q := fun z => h z.symm
  rw [kt_up_swap h', kt_up_swap h', kt_up_swap h', kt_up_swap h']
/-- what is left as it was, whatever is read -/
def kFb (τ τ' : kt_S) : Prop := (∀ q, q < 6 → ¬ q = 0 → τ' q = τ q) ∧ (∀ q, 15 ≤ q → τ' q = τ q) ∧ ∀ f, f < 22 ∨ 36 ≤ f → τ' 0 f = τ 0 f
theorem kFb_refl (τ : kt_S) : kFb τ τ := ⟨fun _ _ _ => rfl, fun _ _ => rfl, fun _ _ => rfl⟩
theorem kFb_trans {τ τ' τ'' : kt_S} (h : kFb τ τ') (h' : kFb τ' τ'') : kFb τ τ'' := ⟨fun q a b => (h'.1 q a b).trans (h.1 q a b), fun q a => (h'.2.1 q a).trans (h.2.1 q a), fun f a => (h'.2.2 f a).trans (h.2.2 f a)⟩
theorem kFb_row {τ τ' : kt_S} {q i : Nat} {x : Int32} (h : kFb τ τ') (h6 : 6 ≤ q) (h15 : q < 15) : kFb τ (kt_up τ' q i x) := ⟨fun r a b => (kt_up_ne _ _ _ (by omega)).trans (h.1 r a b), fun r a => (kt_up_ne _ _ _ (by omega)).trans (h.2.1 r a), fun f a => by
  rw [kt_up_ne _ _ _ (by omega)]
  exact h.2.2 f a⟩
theorem kFb_fld {τ τ' : kt_S} {k : Nat} {x : Int32} (h : kFb τ τ') (h6 : 22 ≤ k) (h15 : k < 36) : kFb τ (kt_up τ' 0 k x) := ⟨fun r a b => (kt_up_ne _ _ _ (by omega)).trans (h.1 r a b), fun r a => (kt_up_ne _ _ _ (by omega)).trans (h.2.1 r a), fun f a => by
  rw [← h.2.2 f a]
  show upd (τ' 0) k x f = τ' 0 f
  unfold upd
  rw [if_neg (by omega)]⟩
theorem kFb_kd {τ τ' : kt_S} {a M v b : Int32} (h : kFb τ τ') : kFb τ (kd τ' a M v b) := kFb_fld (kFb_fld (kFb_fld (kFb_fld h (by omega) (by omega)) (by omega) (by omega)) (by omega) (by omega)) (by omega) (by omega)
/-- what an item at a depth leaves as it was -/
def kFr (d : Nat) (τ τ' : kt_S) : Prop := (∀ q, q < 6 → ¬ q = 0 → τ' q = τ q) ∧ (∀ q, 15 ≤ q → τ' q = τ q) ∧ (∀ f, τ' 0 f = τ 0 f) ∧ (∀ q j, 6 ≤ q → q < 10 → j < d → τ' q j = τ q j) ∧ ∀ q, 10 ≤ q → q < 14 → τ' q = τ q
theorem kFr_refl (d : Nat) (τ : kt_S) : kFr d τ τ := ⟨fun _ _ _ => rfl, fun _ _ => rfl, fun _ => rfl, fun _ _ _ _ _ => rfl, fun _ _ _ => rfl⟩
theorem kFr_trans {d : Nat} {τ τ' τ'' : kt_S} (h : kFr d τ τ') (h' : kFr d τ' τ'') : kFr d τ τ'' := ⟨fun q a b => (h'.1 q a b).trans (h.1 q a b), fun q a => (h'.2.1 q a).trans (h.2.1 q a), fun f => (h'.2.2.1 f).trans (h.2.2.1 f), fun q j a b c => (h'.2.2.2.1 q j a b c).trans (h.2.2.2.1 q j a b c), fun q a b => (h'.2.2.2.2 q a b).trans (h.2.2.2.2 q a b)⟩
theorem kFr_b {d : Nat} {τ τ' : kt_S} (h : kFr d τ τ') : kFb τ τ' := ⟨h.1, h.2.1, fun f _ => h.2.2.1 f⟩
theorem kFr_le {d e : Nat} {τ τ' : kt_S} (hde : d ≤ e) (h : kFr e τ τ') : kFr d τ τ' := ⟨h.1, h.2.1, h.2.2.1, fun q j a b c => h.2.2.2.1 q j a b (by omega), h.2.2.2.2⟩
theorem kFr_row {d : Nat} {τ τ' : kt_S} {q i : Nat} {x : Int32} (h : kFr d τ τ') (h6 : 6 ≤ q) (h10 : q < 10) (hi : d ≤ i) : kFr d τ (kt_up τ' q i x) := ⟨fun r a b => (kt_up_ne _ _ _ (by omega)).trans (h.1 r a b), fun r a => (kt_up_ne _ _ _ (by omega)).trans (h.2.1 r a), fun f => by
  rw [kt_up_ne _ _ _ (by omega)]
  exact h.2.2.1 f, fun r j a b c => by
  by_cases z : r = q
  · subst z
    rw [kt_up_self]
    unfold upd
    rw [if_neg (by omega)]
    exact h.2.2.2.1 r j a b c
  · rw [kt_up_ne _ _ _ z]
    exact h.2.2.2.1 r j a b c, fun r a b => by
  rw [kt_up_ne _ _ _ (by omega)]
  exact h.2.2.2.2 r a b⟩
theorem kFr_14 {d : Nat} {τ τ' : kt_S} {i : Nat} {x : Int32} (h : kFr d τ τ') : kFr d τ (kt_up τ' 14 i x) := ⟨fun r a b => (kt_up_ne _ _ _ (by omega)).trans (h.1 r a b), fun r a => (kt_up_ne _ _ _ (by omega)).trans (h.2.1 r a), fun f => by
  rw [kt_up_ne _ _ _ (by omega)]
  exact h.2.2.1 f, fun r j a b c => by
  rw [kt_up_ne _ _ _ (by omega)]
  exact h.2.2.2.1 r j a b c, fun r a b => by
  rw [kt_up_ne _ _ _ (by omega)]
  exact h.2.2.2.2 r a b⟩
/-- the reference's loop -/
theorem kL_bad {f d : Nat} {s : kt_S} (hd : d < 4) (hb : s 0 25 = 1) : kp_M_formed_53 (f + 1) (nI d) s = some (0, s) := by
  show kp_M_formed_53b (kp_M_formed_53 f) _ _ = _
  unfold kp_M_formed_53b kp_M_formed_114 kp_M_formed_136 kp_M_formed_137
  rw [hb, if_neg ki_10, if_neg ki_10, if_pos ki_b0, ite_self]
theorem kL_item {f d : Nat} {s : kt_S} (h1 : 1 ≤ d) (hd : d < 4) (hb : s 0 25 = 0) (hm : ¬ s 7 d = 0) (hi : s 6 d = 0 ∨ s 9 d = 0) : kp_M_formed_53 (f + 1) (nI d) s = Option.bind (kp_M_item (nI d) s) fun x => kp_M_formed_53 f x.1 x.2 := by
  show kp_M_formed_53b (kp_M_formed_53 f) _ _ = _
  unfold kp_M_formed_53b kp_M_formed_105
  have hin : ¬ (nI d < 0 ∨ 4 ≤ (nI d).toNatClampNeg) := kn_in (by omega) (by omega)
  rw [if_neg (show ¬ nI d ≤ 0 from fun z => by have := (kn_le (b := 0) (by omega) (by omega)).mp z; omega), if_pos hb, if_neg hin, if_neg hin, if_neg hin, kn_cl (by omega), if_neg hm]
  by_cases h6 : s 6 d = 0
  · rw [if_pos h6]
  · rw [if_neg h6, if_pos (hi.resolve_left h6)]
theorem kL_key {f d : Nat} {s : kt_S} (h1 : 1 ≤ d) (hd : d < 4) (hb : s 0 25 = 0) (hm : ¬ s 7 d = 0) (h6 : ¬ s 6 d = 0) (h9 : ¬ s 9 d = 0) : kp_M_formed_53 (f + 1) (nI d) s = Option.bind (kp_M_readKey (nI d) s) fun x => kp_M_formed_53 f (nI d) x := by
  show kp_M_formed_53b (kp_M_formed_53 f) _ _ = _
  unfold kp_M_formed_53b
  have hin : ¬ (nI d < 0 ∨ 4 ≤ (nI d).toNatClampNeg) := kn_in (by omega) (by omega)
  rw [if_neg (show ¬ nI d ≤ 0 from fun z => by have := (kn_le (b := 0) (by omega) (by omega)).mp z; omega), if_pos hb, if_neg hin, if_neg hin, if_neg hin, kn_cl (by omega), if_neg hm, if_neg h6, if_neg h9]
theorem kL_pop {f d : Nat} {s : kt_S} (hd : d < 3) (hb : s 0 25 = 0) (hm : s 7 (d + 1) = 0) : kp_M_formed_53 (f + 1) (nI (d + 1)) s = kp_M_formed_53 f (nI d) s := by
  show kp_M_formed_53b (kp_M_formed_53 f) _ _ = _
  unfold kp_M_formed_53b
  have hin : ¬ (nI (d + 1) < 0 ∨ 4 ≤ (nI (d + 1)).toNatClampNeg) := kn_in (by omega) (by omega)
  rw [if_neg (show ¬ nI (d + 1) ≤ 0 from fun z => by have := (kn_le (b := 0) (by omega) (by omega)).mp z; omega), if_pos hb, if_neg hin, kn_cl (by omega), if_pos hm, kn_dec]
/-- one item, in the class and in the reference -/
def kMk (d P M : Nat) (f : Nat → Int32) : Nat → Int32 := if d = 2 ∧ ¬ M = 0 then upd f (P - 1) 0 else f
def kIS (B : Nat → Nat) (k d : Nat) (gI : Int32 → kt_S → Option (Int32 × kt_S)) : Prop :=
  ∀ (σ τ : kt_S) (a c P : Nat) (M v M0 v0 : Int32), σ 7 2 = nI k → kBy B (σ 8) → τ 0 10 = nI k → kBy B (τ 2) → a ≤ k → τ 7 d = nI (c + 1) → c + 1 < 2147483648 → (τ 6 d = 0 ∨ τ 9 d = 0) → τ 0 30 = nI P → 1 ≤ P → P ≤ 24 →
    (∃ (a' kd0 num : Nat) (M' : Int32), gI (nI d) (kc σ (nI a) M v) = some (nI kd0, kc σ (nI a') M' (nI num)) ∧ a < a' ∧ a' ≤ k ∧ kd0 < 9 ∧ (kd0 = 0 → kHd B k a = some (a', 0, num)) ∧ ∃ (τ' : kt_S) (M1 v1 : Int32) (cst : Nat), cst ≤ 2 * (a' - a) ∧ (∀ F, kp_M_formed_53 (F + cst) (nI d) (kd τ (nI a) M0 v0 0) = kp_M_formed_53 F (nI d) (kd τ' (nI a') M1 v1 0)) ∧ kFr d τ τ' ∧ τ' 6 d = τ 6 d ∧ τ' 7 d = nI c ∧ τ' 8 d = τ 8 d ∧ τ' 9 d = 1 ∧ τ' 14 = kMk d P kd0 (τ 14))
    ∨ ((∃ a' M' v' : Int32, gI (nI d) (kc σ (nI a) M v) = some (-2, kc σ a' M' v')) ∧ ∃ (τ' : kt_S) (cst : Nat), cst ≤ 2 * (k - a) + 2 ∧ (∀ F, kp_M_formed_53 (F + cst) (nI d) (kd τ (nI a) M0 v0 0) = some (0, τ')) ∧ kFb τ τ')
/-! a list's items -/
def kLs (B : Nat → Nat) (k : Nat) : Nat → Nat → Nat → Bool
  | 0, _, _ => false
  | c + 1, a, x => match kHd B k a with
    | some (a', _, v) => decide (v = x) || kLs B k c a' x
    | none => false
def kAl (B : Nat → Nat) (k : Nat) : Nat → Nat → Prop
  | 0, _ => True
  | c + 1, a => ∃ a' v, kHd B k a = some (a', 0, v) ∧ kAl B k c a'
theorem kMk_again {d P M M' : Nat} {f : Nat → Int32} (h : d = 2 ∧ ¬ M = 0) : kMk d P M' (kMk d P M f) = kMk d P M f := by
  unfold kMk
  rw [if_pos h]
  by_cases z : d = 2 ∧ ¬ M' = 0
  · rw [if_pos z, upd_upd]
  · rw [if_neg z]
theorem kn_or7 {m v : Nat} (hm : m < 128) (hv : v ≤ 6) : nI m ||| ((1 : Int32) <<< (nI v &&& 31)) = nI (m ||| 2 ^ v) ∧ m ||| 2 ^ v < 128 ∧ ∀ x, x ≤ 6 → (m ||| 2 ^ v).testBit x = (m.testBit x || decide (v = x)) := by
  have hlt : m ||| 2 ^ v < 2 ^ 7 := Nat.or_lt_two_pow hm (Nat.pow_lt_pow_right (by omega) (by omega))
  refine ⟨?_, hlt, fun x _ => ?_⟩
  · have hs : (1 : Int32) <<< (nI v &&& 31) = nI (2 ^ v) := by
      have : v = 0 ∨ v = 1 ∨ v = 2 ∨ v = 3 ∨ v = 4 ∨ v = 5 ∨ v = 6 := by omega
      rcases this with rfl | rfl | rfl | rfl | rfl | rfl | rfl <;> decide
    rw [hs]
    apply Int32.toBitVec_inj.mp
    rw [Int32.toBitVec_or]
    apply BitVec.eq_of_toNat_eq
    have hp : 2 ^ v < 2 ^ 32 := Nat.pow_lt_pow_right (by omega) (by omega)
    have h7 : (2 : Nat) ^ 7 < 2 ^ 32 := by decide
    rw [BitVec.toNat_or, pk_tn (Nat.lt_trans hm (by decide)), pk_tn hp, pk_tn (Nat.lt_trans hlt h7)]
  · rw [Nat.testBit_or, Nat.testBit_two_pow]
