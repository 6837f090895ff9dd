/-! What a put leaves in the records. -/
theorem kv_cont_upd {g : Nat → Int32} {n to j : Nat} {x : Int32} (hj : j < 5) (h : kv_cont g n) (h5 : g (6 * to + 5) = -1) : kv_cont (upd g (6 * to + j) x) n ∧ upd g (6 * to + j) x (6 * to + 5) = -1 := by
  have e5 : upd g (6 * to + j) x (6 * to + 5) = -1 := by
    rw [kv_upd (by omega) (by omega), if_neg (by omega)]
    exact h5
  refine ⟨fun p hp h1 h2 => ?_, e5⟩
  by_cases hpt : p = to
  · subst hpt
    rw [e5] at h2
    exact absurd h2.symm (kv_seal_m1 _ _)
  · have same : ∀ k, k < 6 → upd g (6 * to + j) x (6 * p + k) = g (6 * p + k) := fun k hk => by rw [kv_upd (by omega) hk, if_neg (fun z => hpt z.1)]
    have hs : ks_seal (upd g (6 * to + j) x) p = ks_seal g p := kv_seal_congr (fun k hk => same k (by omega))
    have s0 : upd g (6 * to + j) x (6 * p) = g (6 * p) := same 0 (by omega)
    rw [same 5 (by omega), hs] at h2
    rw [s0] at h1
    rw [s0, same 2 (by omega), same 3 (by omega), same 4 (by omega)]
    exact h p hp h1 h2
theorem kv_cont_take {g : Nat → Int32} {n nm s to k B : Nat} {a b c d : Int32} {old : Option Nat} (h : kv_cont g n) (hon : kv_on g B) (hB : B + 1 < 1000000) (hto : to < 7) (hte : g (6 * to) = -1) (hn : nm < 7) (hs : s ≤ B) (hb0 : nm = 0 → ∃ t : Nat, t ≤ 8 ∧ b = nI t) (hb1 : ¬ nm = 0 → (¬ b < 0) ∧ (∃ k : Nat, k ≤ n ∧ c = nI k) ∧ ∃ k : Nat, k ≤ n ∧ d = nI k) (hold : ∀ o, old = some o → o < 7) : kv_cont (ka_take k (ks_ops (nI (nm + 16 * (s + 1))) a b c d to old) g) n := by
  have h5 : g (6 * to + 5) = -1 := by
    rcases hon.1.2 to hto with z | ⟨x, y, z1, z2, z3, z4⟩
    · exact z 5 (by omega)
    · rw [z4] at hte
      exact absurd hte (kv_m1 (by have := hon.1.1; omega))
  obtain ⟨c1, e1⟩ := kv_cont_upd (j := 0) (x := nI (nm + 16 * (s + 1))) (by omega) h h5
  obtain ⟨c2, e2⟩ := kv_cont_upd (j := 1) (x := a) (by omega) c1 e1
  obtain ⟨c3, e3⟩ := kv_cont_upd (j := 2) (x := b) (by omega) c2 e2
  obtain ⟨c4, e4⟩ := kv_cont_upd (j := 3) (x := c) (by omega) c3 e3
  obtain ⟨c5, e5⟩ := kv_cont_upd (j := 4) (x := d) (by omega) c4 e4
  have c6 : kv_cont (upd (upd (upd (upd (upd (upd g (6 * to + 0) (nI (nm + 16 * (s + 1)))) (6 * to + 1) a) (6 * to + 2) b) (6 * to + 3) c) (6 * to + 4) d) (6 * to + 5) (ks_seal (upd (upd (upd (upd (upd g (6 * to + 0) (nI (nm + 16 * (s + 1)))) (6 * to + 1) a) (6 * to + 2) b) (6 * to + 3) c) (6 * to + 4) d) to)) n := by
    intro p hp h1 h2
    by_cases hpt : p = to
    · subst hpt
      have x0 : upd (upd (upd (upd (upd (upd g (6 * p + 0) (nI (nm + 16 * (s + 1)))) (6 * p + 1) a) (6 * p + 2) b) (6 * p + 3) c) (6 * p + 4) d) (6 * p + 5) (ks_seal (upd (upd (upd (upd (upd g (6 * p + 0) (nI (nm + 16 * (s + 1)))) (6 * p + 1) a) (6 * p + 2) b) (6 * p + 3) c) (6 * p + 4) d) p) (6 * p) = nI (nm + 16 * (s + 1)) := by
        show upd _ _ _ (6 * p + 0) = _
        rw [kv_upd (by omega) (by omega), if_neg (by omega), kv_upd (by omega) (by omega), if_neg (by omega), kv_upd (by omega) (by omega), if_neg (by omega), kv_upd (by omega) (by omega), if_neg (by omega), kv_upd (by omega) (by omega), if_neg (by omega), kv_upd (by omega) (by omega), if_pos ⟨rfl, rfl⟩]
      rw [x0, kv_nm hn (by omega)]
      have x2 : upd (upd (upd (upd (upd (upd g (6 * p + 0) (nI (nm + 16 * (s + 1)))) (6 * p + 1) a) (6 * p + 2) b) (6 * p + 3) c) (6 * p + 4) d) (6 * p + 5) (ks_seal (upd (upd (upd (upd (upd g (6 * p + 0) (nI (nm + 16 * (s + 1)))) (6 * p + 1) a) (6 * p + 2) b) (6 * p + 3) c) (6 * p + 4) d) p) (6 * p + 2) = b := by
        rw [kv_upd (by omega) (by omega), if_neg (by omega), kv_upd (by omega) (by omega), if_neg (by omega), kv_upd (by omega) (by omega), if_neg (by omega), kv_upd (by omega) (by omega), if_pos ⟨rfl, rfl⟩]
      have x3 : upd (upd (upd (upd (upd (upd g (6 * p + 0) (nI (nm + 16 * (s + 1)))) (6 * p + 1) a) (6 * p + 2) b) (6 * p + 3) c) (6 * p + 4) d) (6 * p + 5) (ks_seal (upd (upd (upd (upd (upd g (6 * p + 0) (nI (nm + 16 * (s + 1)))) (6 * p + 1) a) (6 * p + 2) b) (6 * p + 3) c) (6 * p + 4) d) p) (6 * p + 3) = c := by
        rw [kv_upd (by omega) (by omega), if_neg (by omega), kv_upd (by omega) (by omega), if_neg (by omega), kv_upd (by omega) (by omega), if_pos ⟨rfl, rfl⟩]
      have x4 : upd (upd (upd (upd (upd (upd g (6 * p + 0) (nI (nm + 16 * (s + 1)))) (6 * p + 1) a) (6 * p + 2) b) (6 * p + 3) c) (6 * p + 4) d) (6 * p + 5) (ks_seal (upd (upd (upd (upd (upd g (6 * p + 0) (nI (nm + 16 * (s + 1)))) (6 * p + 1) a) (6 * p + 2) b) (6 * p + 3) c) (6 * p + 4) d) p) (6 * p + 4) = d := by
        rw [kv_upd (by omega) (by omega), if_neg (by omega), kv_upd (by omega) (by omega), if_pos ⟨rfl, rfl⟩]
      rw [x2, x3, x4]
      refine ⟨fun z => hb0 ((kn_eqL 0 (by omega) (by omega)).mp z), fun z => hb1 (fun y => z (by rw [y]; rfl))⟩
    · have same : ∀ k, k < 6 → upd (upd (upd (upd (upd (upd g (6 * to + 0) (nI (nm + 16 * (s + 1)))) (6 * to + 1) a) (6 * to + 2) b) (6 * to + 3) c) (6 * to + 4) d) (6 * to + 5) (ks_seal (upd (upd (upd (upd (upd g (6 * to + 0) (nI (nm + 16 * (s + 1)))) (6 * to + 1) a) (6 * to + 2) b) (6 * to + 3) c) (6 * to + 4) d) to) (6 * p + k) = g (6 * p + k) := fun k hk => by
        rw [kv_upd (by omega) hk, if_neg (fun z => hpt z.1), kv_upd (by omega) hk, if_neg (fun z => hpt z.1), kv_upd (by omega) hk, if_neg (fun z => hpt z.1), kv_upd (by omega) hk, if_neg (fun z => hpt z.1), kv_upd (by omega) hk, if_neg (fun z => hpt z.1), kv_upd (by omega) hk, if_neg (fun z => hpt z.1)]
      have hse := kv_seal_congr (p := p) (fun k hk => same k (by omega))
      have s0 := same 0 (by omega)
      rw [Nat.add_zero (6 * p)] at s0
      rw [same 5 (by omega), hse] at h2
      rw [s0] at h1
      rw [s0, same 2 (by omega), same 3 (by omega), same 4 (by omega)]
      exact h p hp h1 h2
  have hk : k = 0 ∨ k = 1 ∨ k = 2 ∨ k = 3 ∨ k = 4 ∨ k = 5 ∨ ∃ r, k = r + 6 := by
    by_cases z : k < 6
    · omega
    · exact Or.inr (Or.inr (Or.inr (Or.inr (Or.inr (Or.inr ⟨k - 6, by omega⟩)))))
  rcases hk with rfl | rfl | rfl | rfl | rfl | rfl | ⟨r, rfl⟩
  · exact h
  · exact c1
  · exact c2
  · exact c3
  · exact c4
  · exact c5
  · cases old with
    | none =>
      cases r with
      | zero => exact c6
      | succ r => exact c6
    | some o =>
      cases r with
      | zero => exact c6
      | succ r =>
        cases r with
        | zero => exact kv_cont_er c6
        | succ r => exact kv_cont_er c6
