/-! What a put keeps: whole, or cut. -/
section KVP
variable {f : Nat → Int32} {B nm to s : Nat} {a b c d : Int32}
theorem kv_six_ok (h : kv_on f B) (hB : B + 1 < 1000000) (hn : nm < 7) (hs : s ≤ B) : kv_ok (kv_six f to (nI (nm + 16 * (s + 1))) a b c d) (B + 1) := by
  refine ⟨hB, fun p hp => ?_⟩
  by_cases hpt : p = to
  · subst hpt
    exact Or.inr ⟨nm, s + 1, hn, by omega, by omega, kv_six_0⟩
  · rcases h.1.2 p hp with h1 | ⟨n, s', h1, h2, h3, h4⟩
    · exact Or.inl (fun k hk => by rw [kv_six_ne hk hpt]; exact h1 k hk)
    · exact Or.inr ⟨n, s', h1, h2, by omega, by rw [kv_six_ne0 hpt]; exact h4⟩
theorem kv_six_sealed (h : kv_on f B) (l : Int32) : ∀ p, p < 7 → ¬ kv_six f to l a b c d (6 * p) = -1 → kv_six f to l a b c d (6 * p + 5) = ks_seal (kv_six f to l a b c d) p := by
  intro p hp hr
  by_cases hpt : p = to
  · subst hpt; exact kv_six_5
  · rw [kv_six_ne0 hpt] at hr
    rw [kv_six_ne (by omega) hpt, h.2.1 p hp hr]
    exact kv_seal_congr (fun k hk => (kv_six_ne (by omega) hpt).symm)
/-- the new record is apart from another of another name -/
theorem kv_six_apart (h : kv_on f B) (hB : B + 1 < 1000000) (hn : nm < 7) (hs : s ≤ B) (hser : km_ser f 7 = nI s) {p : Nat} (hp : p < 7) (hr : ¬ f (6 * p) = -1) (hnm : ¬ ks_nm (f (6 * p)) = nI nm) :
    ¬ ks_nm (f (6 * p)) = ks_nm (nI (nm + 16 * (s + 1))) ∧ ¬ f (6 * p) / 16 = nI (nm + 16 * (s + 1)) / 16 := by
  rw [kv_nm hn (by omega), kv_div hn (by omega)]
  refine ⟨hnm, ?_⟩
  obtain ⟨s2, hs2, e2, hm⟩ := kv_ser_max h.1 7 (by omega)
  rcases h.1.2 p hp with h1 | ⟨n, s', h1, h2, h3, h4⟩
  · have := h1 0 (by omega)
    exact absurd this hr
  · have hle := hm p hp n s' h1 h2 h3 h4
    have hss : s2 = s := (kn_eq (by omega) (by omega)).mp (e2.symm.trans hser)
    rw [h4, kv_div h1 (by omega), kn_eq (by omega) (by omega)]
    omega
theorem kv_put_new (h : kv_on f B) (hB : B + 1 < 1000000) (hn : nm < 7) (hto : to < 7) (hs : s ≤ B) (hser : km_ser f 7 = nI s) (hnone : ∀ p, p < 7 → f (6 * p) = -1 ∨ ¬ ks_nm (f (6 * p)) = nI nm) (hfree : ∃ e, e < 7 ∧ ¬ e = to ∧ f (6 * e) = -1) :
    kv_on (kv_six f to (nI (nm + 16 * (s + 1))) a b c d) (B + 1) := by
  refine ⟨kv_six_ok h hB hn hs, kv_six_sealed h _, fun p q hp hq hne hr hr' => ?_, ?_⟩
  · by_cases hpt : p = to
    · subst hpt
      have hqt : ¬ q = p := fun z => hne z.symm
      rw [kv_six_ne0 hqt] at hr' ⊢
      rw [kv_six_0]
      obtain ⟨x, y⟩ := kv_six_apart h hB hn hs hser hq hr' ((hnone q hq).resolve_left hr')
      exact ⟨fun z => x z.symm, fun z => y z.symm⟩
    · by_cases hqt : q = to
      · subst hqt
        rw [kv_six_ne0 hpt] at hr ⊢
        rw [kv_six_0]
        exact kv_six_apart h hB hn hs hser hp hr ((hnone p hp).resolve_left hr)
      · rw [kv_six_ne0 hpt] at hr ⊢
        rw [kv_six_ne0 hqt] at hr' ⊢
        exact h.2.2.1 p q hp hq hne hr hr'
  · obtain ⟨e, he, h1, h2⟩ := hfree
    exact ⟨e, he, by rw [kv_six_ne0 h1]; exact h2⟩
theorem kv_put_over (h : kv_on f B) (hB : B + 1 < 1000000) (hn : nm < 7) (hto : to < 7) (hte : f (6 * to) = -1) (hs : s ≤ B) (hser : km_ser f 7 = nI s) {o : Nat} (ho : o < 7) (hor : ¬ f (6 * o) = -1) (hon : ks_nm (f (6 * o)) = nI nm) :
    kv_on (ks_er o (kv_six f to (nI (nm + 16 * (s + 1))) a b c d)) (B + 1) := by
  have hot : ¬ o = to := fun z => hor (by rw [z]; exact hte)
  have hto' : ¬ to = o := fun z => hot z.symm
  have other : ∀ p, p < 7 → ¬ p = o → ¬ f (6 * p) = -1 → ¬ ks_nm (f (6 * p)) = nI nm := by
    intro p hp hpo hr z
    exact (h.2.2.1 p o hp ho hpo hr hor).1 (z.trans hon.symm)
  refine ⟨kv_ok_er (kv_six_ok h hB hn hs), fun p hp hr => ?_, fun p q hp hq hne hr hr' => ?_, o, ho, by rw [kv_er0, if_pos rfl]⟩
  · rw [kv_er0] at hr
    by_cases hpo : p = o
    · rw [if_pos hpo] at hr; exact absurd rfl hr
    · rw [if_neg hpo] at hr
      rw [kv_er (by omega), if_neg hpo, kv_six_sealed h _ p hp hr]
      exact kv_seal_congr (fun k hk => by rw [kv_er (by omega), if_neg hpo])
  · rw [kv_er0] at hr hr' ⊢
    rw [kv_er0]
    by_cases hpo : p = o
    · rw [if_pos hpo] at hr; exact absurd rfl hr
    · by_cases hqo : q = o
      · rw [if_pos hqo] at hr'; exact absurd rfl hr'
      · rw [if_neg hpo] at hr ⊢
        rw [if_neg hqo] at hr' ⊢
        by_cases hpt : p = to
        · subst hpt
          have hqt : ¬ q = p := fun z => hne z.symm
          rw [kv_six_ne0 hqt] at hr' ⊢
          rw [kv_six_0]
          obtain ⟨x, y⟩ := kv_six_apart h hB hn hs hser hq hr' (other q hq hqo hr')
          exact ⟨fun z => x z.symm, fun z => y z.symm⟩
        · by_cases hqt : q = to
          · subst hqt
            rw [kv_six_ne0 hpt] at hr ⊢
            rw [kv_six_0]
            exact kv_six_apart h hB hn hs hser hp hr (other p hp hpo hr)
          · rw [kv_six_ne0 hpt] at hr ⊢
            rw [kv_six_ne0 hqt] at hr' ⊢
            exact h.2.2.1 p q hp hq hne hr hr'
/-- an erased page is erased whole -/
theorem kv_er_all (h : kv_ok f B) (hto : to < 7) (hte : f (6 * to) = -1) : ∀ k, k < 6 → f (6 * to + k) = -1 := by
  rcases h.2 to hto with h1 | ⟨n, s', h1, h2, h3, h4⟩
  · exact h1
  · rw [hte] at h4
    exact absurd h4.symm (kv_m1 (by have := h.1; omega))
/-- a page whose writing was cut -/
theorem kv_torn (h : kv_on f B) (hB : B + 1 < 1000000) (hn : nm < 7) (hto : to < 7) (hte : f (6 * to) = -1) (hs : s ≤ B) {g : Nat → Int32} (hg : ∀ p j, p < 7 → j < 6 → ¬ p = to → g (6 * p + j) = f (6 * p + j)) (hg0 : g (6 * to) = nI (nm + 16 * (s + 1))) (hg5 : g (6 * to + 5) = -1) : kv_off g (B + 1) := by
  right
  refine ⟨⟨hB, fun p hp => ?_⟩, to, hto, ?_, by rw [hg0]; exact kv_m1 (by omega), Or.inl (fun z => kv_seal_m1 g to (z.symm.trans hg5))⟩
  · by_cases hpt : p = to
    · subst hpt
      exact Or.inr ⟨nm, s + 1, hn, by omega, by omega, hg0⟩
    · rcases h.1.2 p hp with h1 | ⟨n, s', h1, h2, h3, h4⟩
      · exact Or.inl (fun k hk => by rw [hg p k hp hk hpt]; exact h1 k hk)
      · exact Or.inr ⟨n, s', h1, h2, by omega, by have := hg p 0 hp (by omega) hpt; exact this.trans h4⟩
  · refine kv_on_mono (by omega) hB (kv_on_congr (fun p j hp hj => ?_) h)
    rw [kv_er hj]
    by_cases hpt : p = to
    · subst hpt
      rw [if_pos rfl, kv_er_all h.1 hto hte j hj]
    · rw [if_neg hpt, hg p j hp hj hpt]
/-- a put that was cut, or done -/
theorem kv_put_cut (h : kv_on f B) (hB : B + 1 < 1000000) (hn : nm < 7) (hto : to < 7) (hte : f (6 * to) = -1) (hs : s ≤ B) (hser : km_ser f 7 = nI s) (old : Option Nat) (hold : match old with
      | none => (∀ p, p < 7 → f (6 * p) = -1 ∨ ¬ ks_nm (f (6 * p)) = nI nm) ∧ ∃ e, e < 7 ∧ ¬ e = to ∧ f (6 * e) = -1
      | some o => o < 7 ∧ ¬ f (6 * o) = -1 ∧ ks_nm (f (6 * o)) = nI nm) (n : Nat) :
    (n < (ks_ops (nI (nm + 16 * (s + 1))) a b c d to old).length → kv_off (ka_take n (ks_ops (nI (nm + 16 * (s + 1))) a b c d to old) f) (B + 1)) ∧ (n = (ks_ops (nI (nm + 16 * (s + 1))) a b c d to old).length → kv_on (ka_take n (ks_ops (nI (nm + 16 * (s + 1))) a b c d to old) f) (B + 1)) := by
  have h5 := kv_er_all h.1 hto hte 5 (by omega)
  have t0 : kv_off f (B + 1) := Or.inl (kv_on_mono (by omega) hB h)
  have t1 : kv_off (upd f (6 * to + 0) (nI (nm + 16 * (s + 1)))) (B + 1) := by
    refine kv_torn h hB hn hto hte hs (fun p j hp hj hpt => ?_) ?_ ?_
    · rw [kv_upd (by omega) hj, if_neg (fun z => hpt z.1)]
    · exact (kv_upd (j := 0) (by omega) (by omega)).trans (if_pos ⟨rfl, rfl⟩)
    · rw [kv_upd (by omega) (by omega), if_neg (by omega)]; exact h5
  have t2 : kv_off (upd (upd f (6 * to + 0) (nI (nm + 16 * (s + 1)))) (6 * to + 1) a) (B + 1) := by
    refine kv_torn h hB hn hto hte hs (fun p j hp hj hpt => ?_) ?_ ?_
    · rw [kv_upd (by omega) hj, if_neg (fun z => hpt z.1), kv_upd (by omega) hj, if_neg (fun z => hpt z.1)]
    · refine (kv_upd (j := 0) (by omega) (by omega)).trans ((if_neg (by omega)).trans ?_)
      exact (kv_upd (j := 0) (by omega) (by omega)).trans (if_pos ⟨rfl, rfl⟩)
    · rw [kv_upd (by omega) (by omega), if_neg (by omega), kv_upd (by omega) (by omega), if_neg (by omega)]; exact h5
  have t3 : kv_off (upd (upd (upd f (6 * to + 0) (nI (nm + 16 * (s + 1)))) (6 * to + 1) a) (6 * to + 2) b) (B + 1) := by
    refine kv_torn h hB hn hto hte hs (fun p j hp hj hpt => ?_) ?_ ?_
    · rw [kv_upd (by omega) hj, if_neg (fun z => hpt z.1), kv_upd (by omega) hj, if_neg (fun z => hpt z.1), kv_upd (by omega) hj, if_neg (fun z => hpt z.1)]
    · refine (kv_upd (j := 0) (by omega) (by omega)).trans ((if_neg (by omega)).trans ?_)
      refine (kv_upd (j := 0) (by omega) (by omega)).trans ((if_neg (by omega)).trans ?_)
      exact (kv_upd (j := 0) (by omega) (by omega)).trans (if_pos ⟨rfl, rfl⟩)
    · rw [kv_upd (by omega) (by omega), if_neg (by omega), kv_upd (by omega) (by omega), if_neg (by omega), kv_upd (by omega) (by omega), if_neg (by omega)]; exact h5
  have t4 : kv_off (upd (upd (upd (upd f (6 * to + 0) (nI (nm + 16 * (s + 1)))) (6 * to + 1) a) (6 * to + 2) b) (6 * to + 3) c) (B + 1) := by
    refine kv_torn h hB hn hto hte hs (fun p j hp hj hpt => ?_) ?_ ?_
    · rw [kv_upd (by omega) hj, if_neg (fun z => hpt z.1), kv_upd (by omega) hj, if_neg (fun z => hpt z.1), kv_upd (by omega) hj, if_neg (fun z => hpt z.1), kv_upd (by omega) hj, if_neg (fun z => hpt z.1)]
    · refine (kv_upd (j := 0) (by omega) (by omega)).trans ((if_neg (by omega)).trans ?_)
      refine (kv_upd (j := 0) (by omega) (by omega)).trans ((if_neg (by omega)).trans ?_)
      refine (kv_upd (j := 0) (by omega) (by omega)).trans ((if_neg (by omega)).trans ?_)
      exact (kv_upd (j := 0) (by omega) (by omega)).trans (if_pos ⟨rfl, rfl⟩)
    · rw [kv_upd (by omega) (by omega), if_neg (by omega), kv_upd (by omega) (by omega), if_neg (by omega), kv_upd (by omega) (by omega), if_neg (by omega), kv_upd (by omega) (by omega), if_neg (by omega)]; exact h5
  have t5 : kv_off (kv_five f to (nI (nm + 16 * (s + 1))) a b c d) (B + 1) := by
    refine kv_torn h hB hn hto hte hs (fun p j hp hj hpt => ?_) ?_ ?_
    · unfold kv_five
      rw [kv_upd (by omega) hj, if_neg (fun z => hpt z.1), kv_upd (by omega) hj, if_neg (fun z => hpt z.1), kv_upd (by omega) hj, if_neg (fun z => hpt z.1), kv_upd (by omega) hj, if_neg (fun z => hpt z.1), kv_upd (by omega) hj, if_neg (fun z => hpt z.1)]
    · refine (kv_upd (j := 0) (by omega) (by omega)).trans ((if_neg (by omega)).trans ?_)
      refine (kv_upd (j := 0) (by omega) (by omega)).trans ((if_neg (by omega)).trans ?_)
      refine (kv_upd (j := 0) (by omega) (by omega)).trans ((if_neg (by omega)).trans ?_)
      refine (kv_upd (j := 0) (by omega) (by omega)).trans ((if_neg (by omega)).trans ?_)
      exact (kv_upd (j := 0) (by omega) (by omega)).trans (if_pos ⟨rfl, rfl⟩)
    · unfold kv_five
      rw [kv_upd (by omega) (by omega), if_neg (by omega), kv_upd (by omega) (by omega), if_neg (by omega), kv_upd (by omega) (by omega), if_neg (by omega), kv_upd (by omega) (by omega), if_neg (by omega), kv_upd (by omega) (by omega), if_neg (by omega)]; exact h5
  cases old with
  | none =>
    have e6 : (ks_ops (nI (nm + 16 * (s + 1))) a b c d to none).length = 6 := rfl
    rw [e6]
    constructor
    · intro hlt
      have : n = 0 ∨ n = 1 ∨ n = 2 ∨ n = 3 ∨ n = 4 ∨ n = 5 := by omega
      rcases this with rfl | rfl | rfl | rfl | rfl | rfl
      · exact t0
      · exact t1
      · exact t2
      · exact t3
      · exact t4
      · exact t5
    · rintro rfl
      exact kv_put_new h hB hn hto hs hser hold.1 hold.2
  | some o =>
    have e7 : (ks_ops (nI (nm + 16 * (s + 1))) a b c d to (some o)).length = 7 := rfl
    rw [e7]
    have full := kv_put_over (a := a) (b := b) (c := c) (d := d) h hB hn hto hte hs hser hold.1 hold.2.1 hold.2.2
    have hot : ¬ o = to := fun z => hold.2.1 (by rw [z]; exact hte)
    constructor
    · intro hlt
      have : n = 0 ∨ n = 1 ∨ n = 2 ∨ n = 3 ∨ n = 4 ∨ n = 5 ∨ n = 6 := by omega
      rcases this with rfl | rfl | rfl | rfl | rfl | rfl | rfl
      · exact t0
      · exact t1
      · exact t2
      · exact t3
      · exact t4
      · exact t5
      · show kv_off (kv_six f to (nI (nm + 16 * (s + 1))) a b c d) (B + 1)
        right
        refine ⟨kv_six_ok h hB hn hs, o, hold.1, full, by rw [kv_six_ne0 hot]; exact hold.2.1, Or.inr ⟨kv_six_sealed h _ o hold.1 (by rw [kv_six_ne0 hot]; exact hold.2.1), to, hto, fun z => hot z.symm, by rw [kv_six_0]; exact kv_m1 (by omega), ?_, ?_⟩⟩
        · rw [kv_six_0, kv_six_ne0 hot, kv_nm hn (by omega)]
          exact hold.2.2.symm
        · rw [kv_six_0, kv_six_ne0 hot]
          obtain ⟨s2, hs2, e2, hm⟩ := kv_ser_max h.1 7 (by omega)
          have hss : s2 = s := (kn_eq (by omega) (by omega)).mp (e2.symm.trans hser)
          rcases h.1.2 o hold.1 with h1 | ⟨n', s', h1, h2, h3, h4⟩
          · exact absurd (h1 0 (by omega)) hold.2.1
          · have hle := hm o hold.1 n' s' h1 h2 h3 h4
            rw [h4, kn_lt (by omega) (by omega)]
            omega
    · rintro rfl
      exact full
end KVP
