/-! What the parsers keep to themselves is no part of the relation. -/
theorem kR_frame {n : Nat} {σ σ' τ τ' : kt_S} (H : kR n σ τ) (hσ : kGp σ σ') (hτ : kFb τ τ') : kR n σ' τ' := by
  obtain ⟨a, b, c, d, e, f, g, i⟩ := H
  have s : ∀ q, (q < 6 ∨ (7 ≤ q ∧ q < 9) ∨ 12 ≤ q) → σ' q = σ q := fun q h => hσ q (by omega) (by omega) (by omega) (by omega)
  have t : ∀ q, (1 ≤ q ∧ q < 6) ∨ 15 ≤ q → τ' q = τ q := fun q h => by
    rcases h with h | h
    · exact hτ.1 q (by omega) (by omega)
    · exact hτ.2.1 q h
  have u : ∀ k, k < 22 → τ' 0 k = τ 0 k := fun k h => hτ.2.2 k (Or.inl h)
  refine ⟨?_, ?_, ?_, ?_, ?_, ?_, ?_, kR_par_congr (fun q h => s q (by omega)) (t 15 (by omega)) (t 16 (by omega)) (t 17 (by omega)) (t 18 (by omega)) i⟩
  · unfold kR_st
    rw [t 1 (by omega), s 3 (by omega), s 2 (by omega), s 1 (by omega), u 2 (by omega), u 4 (by omega)]
    exact a
  · unfold kR_tok
    rw [s 1 (by omega), s 2 (by omega), s 7 (by omega), s 12 (by omega), u 5 (by omega), u 6 (by omega), u 7 (by omega), u 8 (by omega)]
    exact b
  · unfold kR_in
    rw [t 2 (by omega), s 8 (by omega), s 7 (by omega), u 10 (by omega)]
    exact c
  · unfold kR_out
    rw [t 3 (by omega), s 12 (by omega), s 13 (by omega), u 12 (by omega)]
    exact d
  · unfold kR_next
    rw [t 4 (by omega), s 14 (by omega), s 1 (by omega), s 3 (by omega), u 15 (by omega), u 16 (by omega), u 13 (by omega)]
    exact e
  · unfold kR_cnt
    rw [s 1 (by omega), s 4 (by omega), s 0 (by omega), u 17 (by omega), u 18 (by omega), u 19 (by omega), u 20 (by omega)]
    exact f
  · unfold kR_sig
    rw [s 5 (by omega), s 4 (by omega), t 5 (by omega)]
    exact g
/-- the input, as both hold it -/
theorem kR_bytes {n : Nat} {σ τ : kt_S} (H : kR n σ τ) : ∃ (B : Nat → Nat) (k : Nat), k ≤ 48 ∧ σ 7 2 = nI k ∧ τ 0 10 = nI k ∧ kBy B (σ 8) ∧ kBy B (τ 2) := by
  obtain ⟨c1, c2, ⟨k, c3, c4, c5⟩, c6⟩ := H.2.2.1
  have hb : kBy (fun i => (σ 8 i).toNatClampNeg % 256) (σ 8) := by
    refine ⟨fun i => Nat.mod_lt _ (by omega), fun i hi => ?_⟩
    obtain ⟨b, h1, h2⟩ := c6 i hi
    show σ 8 i = nI ((σ 8 i).toNatClampNeg % 256)
    rw [h2, kn_cl (by omega), Nat.mod_eq_of_lt h1]
  exact ⟨_, k, c3, c4, c5, hb, by rw [c1]; exact hb⟩
