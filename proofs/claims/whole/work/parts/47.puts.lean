/-! A put, in the class and in the reference, with or without a cut. -/
theorem km_seq_made (C : Int32) : ∀ (gs : List ((Nat → Int32) → (Nat → Int32))) (f : Nat → Int32) (m w : Int32) (i : Nat), m = nI i → ∃ j, j ≤ gs.length ∧ (km_seq C gs (f, m, w)).2.2.1 = nI (i + j) := by
  intro gs
  induction gs with
  | nil =>
    intro f m w i hm
    exact ⟨0, Nat.le_refl _, hm⟩
  | cons g gs ih =>
    intro f m w i hm
    by_cases z : m = C
    · rw [km_stop z]
      exact ⟨0, Nat.zero_le _, hm⟩
    · rw [km_go z]
      obtain ⟨j, h1, h2⟩ := ih (g f) (m + 1) (w + 1) (i + 1) (by rw [hm, kn_succ])
      refine ⟨j + 1, Nat.succ_le_succ h1, ?_⟩
      rw [h2, show i + 1 + j = i + (j + 1) by omega]
theorem kR_put {σ τ : kt_S} {B nm i : Nat} {g : Nat → Int32} {m c0 w a b c d : Int32} (hon : kv_on g B) (hB : B + 1 < 1000000) (hn : nm < 7) (hroom : ¬ ks_pg g (nI nm) < 0 ∨ ∃ x y, x < 7 ∧ y < 7 ∧ ¬ x = y ∧ g (6 * x) = -1 ∧ g (6 * y) = -1) (hm : m = nI i) (hi : i + 7 < 999) (hcut : kv_cut (τ 0 4) m c0) :
    ∃ (ok : Bool) (g' : Nat → Int32) (m' c' w' : Int32) (to s k : Nat) (old : Option Nat), kp_S_put (nI nm) a b c d (ks_set σ (g, c0, w)) = some (kb_i ok, ks_set σ (g', c', w')) ∧ kp_M_put (nI nm) a b c d (km_set τ (g, m, w)) = (if ok then some (1, km_set τ (g', m', w')) else some (0, km_off (km_set τ (g', m', w')))) ∧ kv_cut (τ 0 4) m' c' ∧ (ok = true → kv_on g' (B + 1)) ∧ kv_off g' (B + 1) ∧ to < 7 ∧ g (6 * to) = -1 ∧ s ≤ B ∧ old = ks_old (ks_pg g (nI nm)) ∧ g' = ka_take k (ks_ops (nI (nm + 16 * (s + 1))) a b c d to old) g ∧ (ok = true → k = (ks_ops (nI (nm + 16 * (s + 1))) a b c d to old).length) ∧ ∃ i', i' ≤ i + 7 ∧ m' = nI i' := by
  obtain ⟨pe, hpe, hpe1⟩ := hon.2.2.2
  have hfind : ∃ to, to < 7 ∧ g (6 * to) = -1 ∧ ks_find (ks_E g) = nI to := by
    rcases ks_find_spec (ks_E g) with ⟨p, h1, h2, h3, _⟩ | ⟨_, h2⟩
    · exact ⟨p, h1, of_decide_eq_true h2, h3⟩
    · have := h2 pe hpe
      unfold ks_E at this
      exact absurd hpe1 (of_decide_eq_false this)
  obtain ⟨to, hto, hte, hfe⟩ := hfind
  have hfeM : ks_find (km_E g) = nI to := by
    rw [ks_find_congr (Q := ks_E g) (fun p hp => kv_E hon.1.1 (hon.1.2 p hp)), hfe]
  obtain ⟨hlab, s, hs, hser⟩ := kv_lab hon.1 (nI nm)
  have hl : nI nm + 16 * (km_ser g 7 + 1) = nI (nm + 16 * (s + 1)) := by
    rw [hser, kn_succ, show (16 : Int32) * nI (s + 1) = nI (16 * (s + 1)) from kn_mul 16 (s + 1), kn_add]
  have hK := ks_put (nI nm) a b c d σ g c0 w hto hfe
  have hM := km_put (nI nm) a b c d τ g m w hto hfeM
  rw [hlab, hl] at hK
  rw [hl, kv_page hon.1] at hM
  have hlen : (ks_ops (nI (nm + 16 * (s + 1))) a b c d to (ks_old (ks_pg g (nI nm)))).length ≤ 7 := by
    cases ks_old (ks_pg g (nI nm)) with
    | none => exact (by decide : 6 ≤ 7)
    | some o => exact Nat.le_refl 7
  have hold : match ks_old (ks_pg g (nI nm)) with
      | none => (∀ p, p < 7 → g (6 * p) = -1 ∨ ¬ ks_nm (g (6 * p)) = nI nm) ∧ ∃ e, e < 7 ∧ ¬ e = to ∧ g (6 * e) = -1
      | some o => o < 7 ∧ ¬ g (6 * o) = -1 ∧ ks_nm (g (6 * o)) = nI nm := by
    rcases ks_old_cases g (nI nm) with ⟨q, h1, h2, h3, h4, h5⟩ | ⟨h1, h2, h3⟩
    · rw [h3]
      exact ⟨h1, h4, h5⟩
    · rw [h2]
      refine ⟨h3, ?_⟩
      rcases hroom with z | ⟨x, y, z1, z2, z3, z4, z5⟩
      · rw [h1] at z
        exact absurd ks_neg1 z
      · by_cases u : x = to
        · exact ⟨y, z2, by omega, z5⟩
        · exact ⟨x, z1, u, z4⟩
  generalize hg : ks_old (ks_pg g (nI nm)) = old at hK hM hlen hold
  obtain ⟨v1, v2, v3, v4⟩ := kv_seq (τ 0 4) (ks_ops (nI (nm + 16 * (s + 1))) a b c d to old) g m c0 w i hm (by omega) hcut
  obtain ⟨jm, j1, j2⟩ := km_seq_made (τ 0 4) (ks_ops (nI (nm + 16 * (s + 1))) a b c d to old) g m w i hm
  obtain ⟨k, t1, t2, t3, t4⟩ := ka_seq_take (ks_ops (nI (nm + 16 * (s + 1))) a b c d to old) g c0 w
  obtain ⟨p1, p2⟩ := kv_put_cut (a := a) (b := b) (c := c) (d := d) hon hB hn hto hte hs hser old hold k
  rw [hK, hM]
  generalize hA : ka_seq (ks_ops (nI (nm + 16 * (s + 1))) a b c d to old) (g, c0, w) = A at v1 v2 v3 v4 t2 t3 t4
  generalize hZ : km_seq (τ 0 4) (ks_ops (nI (nm + 16 * (s + 1))) a b c d to old) (g, m, w) = Z at v1 v2 v3 v4 j2
  obtain ⟨ok, g', c', w'⟩ := A
  obtain ⟨okM, gM, m', wM⟩ := Z
  dsimp only at v1 v2 v3 v4 t2 t3 t4 j2
  subst v1 v2 v3
  have hoff : kv_off g' (B + 1) := by
    rw [t2]
    by_cases z : k = (ks_ops (nI (nm + 16 * (s + 1))) a b c d to old).length
    · exact Or.inl (p2 z)
    · exact p1 (by omega)
  refine ⟨ok, g', m', c', w', to, s, k, old, ?_, ?_, v4, fun z => ?_, hoff, hto, hte, hs, rfl, t2, t3, i + jm, by omega, j2⟩
  · cases ok <;> rfl
  · cases ok <;> rfl
  · rw [t2]
    exact p2 (t3 z)
