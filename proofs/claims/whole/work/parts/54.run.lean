/-! The relation while a request is served. -/
def kU (n B i : Nat) (σ τ : kt_S) : Prop := (τ 1 = σ 3 ∧ τ 0 2 = σ 2 1 ∧ kv_cont (σ 3) n ∧ kv_on (σ 3) B ∧ τ 0 3 = nI i ∧ kv_cut (τ 0 4) (τ 0 3) (σ 2 2) ∧ τ 0 0 = 0) ∧ (τ 0 5 = 1 ∧ σ 1 5 = 1 ∧ τ 0 6 = σ 1 6 ∧ kR_bool (σ 1 6) ∧ τ 0 7 = σ 1 7 ∧ τ 0 8 = σ 1 8) ∧ kR_in σ τ ∧ (σ 12 1 = nI 0 ∧ σ 12 2 = nI 0 ∧ τ 0 12 = nI 2 ∧ τ 3 0 = 0 ∧ τ 3 1 = nI 160) ∧ kR_next σ τ ∧ kR_cnt n σ τ ∧ kR_sig σ τ ∧ kR_par n σ τ
theorem kR_cnt_mono {n m : Nat} {σ τ : kt_S} (h : n ≤ m) (H : kR_cnt n σ τ) : kR_cnt m σ τ := by
  obtain ⟨⟨k1, f1, f2⟩, ⟨k2, f3, f4⟩, ⟨k3, f5, f6⟩, ⟨k4, f7, f8⟩⟩ := H
  exact ⟨⟨k1, by omega, f2⟩, ⟨k2, by omega, f4⟩, ⟨k3, by omega, f6⟩, ⟨k4, by omega, f8⟩⟩
theorem kR_par_mono {n m : Nat} {σ τ : kt_S} (h : n ≤ m) (H : kR_par n σ τ) : kR_par m σ τ := fun p hp => by
  obtain ⟨i1, i2, ⟨k, i3, i4⟩, i5⟩ := H p hp
  exact ⟨i1, i2, ⟨k, by omega, i4⟩, i5⟩
theorem kU_mono {n n' B B' i : Nat} {σ τ : kt_S} (hn : n ≤ n') (hB : B ≤ B') (hB' : B' < 1000000) (H : kU n B i σ τ) : kU n' B' i σ τ := by
  obtain ⟨⟨a1, a2, a3, a4, a5⟩, b, c, d, e, f, g, p⟩ := H
  exact ⟨⟨a1, a2, kv_cont_mono hn a3, kv_on_mono hB hB' a4, a5⟩, b, c, d, e, kR_cnt_mono hn f, g, kR_par_mono hn p⟩
theorem kU_rn {n B i : Nat} {σ τ : kt_S} (H : kU n B i σ τ) (hB : B ≤ 2 * n) (hn : 2 * n < 1000000) : kRn n σ (kt_up τ 0 12 0) := by
  obtain ⟨⟨a1, a2, a3, a4, a5, a6⟩, ⟨b1, b2, b3, b4, b5, b6⟩, c, ⟨d1, d2, d3⟩, e, f, g, p⟩ := H
  refine ⟨⟨a1, a2, rfl, Or.inl rfl, a3, fun _ => kv_on_mono hB hn a4, fun z => absurd (b2.symm.trans z) (by decide)⟩, ⟨b1.trans b2.symm, Or.inr b2, b3, b4, b5, b6, fun z => absurd (b2.symm.trans z) (by decide)⟩, c, ⟨0, 0, by omega, by omega, d1, d2, rfl, fun j hj => absurd hj (by omega), fun j h1 h2 => absurd h2 (by omega)⟩, e, f, g, kR_par_congr (kt_up_big (by omega)) rfl rfl rfl rfl p⟩
theorem kU_kd {n B i : Nat} {σ τ : kt_S} {a M v b : Int32} (H : kU n B i σ τ) : kU n B i σ (kd τ a M v b) := by
  obtain ⟨a1, b1, c1, d1, e1, f1, g1, p⟩ := H
  exact ⟨a1, b1, c1, d1, e1, f1, g1, kR_par_congr (fun q hq => rfl) rfl rfl rfl rfl p⟩
theorem kU_press {n B i : Nat} {σ τ : kt_S} (H : kU n B i σ τ) : kU n B i (kt_up σ 1 6 0) (kt_up τ 0 6 0) := by
  obtain ⟨a1, ⟨b1, b2, b3, b4, b5, b6⟩, c1, d1, e1, f1, g1, p⟩ := H
  exact ⟨a1, ⟨b1, b2, rfl, Or.inl rfl, b5, b6⟩, c1, d1, e1, f1, g1, kR_par_congr (kt_up_big (by omega)) rfl rfl rfl rfl p⟩
theorem kU_keys {n B i k : Nat} {σ τ : kt_S} (H : kU n B i σ τ) (hk : k ≤ n) : kU n B i (kt_up σ 1 13 (nI k)) (kt_up τ 0 17 (nI k)) := by
  obtain ⟨a1, b1, c1, d1, e1, ⟨f1, f2, f3, f4⟩, g1, p⟩ := H
  exact ⟨a1, b1, c1, d1, e1, ⟨⟨k, hk, rfl, rfl⟩, f2, f3, f4⟩, g1, kR_par_congr (kt_up_big (by omega)) rfl rfl rfl rfl p⟩
theorem kU_tick {n B i k : Nat} {σ τ : kt_S} (H : kU n B i σ τ) (hk : k ≤ n) : kU n B i (kt_up (kt_up σ 1 14 (nI k)) 1 8 (nI k)) (kt_up (kt_up τ 0 18 (nI k)) 0 8 (nI k)) := by
  obtain ⟨a1, ⟨b1, b2, b3, b4, b5, b6⟩, c1, d1, e1, ⟨f1, f2, f3, f4⟩, g1, p⟩ := H
  exact ⟨a1, ⟨b1, b2, b3, b4, b5, rfl⟩, c1, d1, e1, ⟨f1, ⟨k, hk, rfl, rfl⟩, f3, f4⟩, g1, kR_par_congr (fun q hq => by rw [kt_up_big (by omega) q hq, kt_up_big (by omega) q hq]) rfl rfl rfl rfl p⟩
theorem kU_ticket {n B i : Nat} {σ τ : kt_S} {x : Int32} (H : kU n B i σ τ) : kU n B i (kt_up σ 1 8 x) (kt_up τ 0 8 x) := by
  obtain ⟨a1, ⟨b1, b2, b3, b4, b5, b6⟩, c1, d1, e1, f1, g1, p⟩ := H
  exact ⟨a1, ⟨b1, b2, b3, b4, b5, rfl⟩, c1, d1, e1, f1, g1, kR_par_congr (kt_up_big (by omega)) rfl rfl rfl rfl p⟩
theorem kU_wrong {n B i : Nat} {σ τ : kt_S} {x : Int32} (H : kU n B i σ τ) : kU n B i (kt_up σ 1 7 x) (kt_up τ 0 7 x) := by
  obtain ⟨a1, ⟨b1, b2, b3, b4, b5, b6⟩, c1, d1, e1, f1, g1, p⟩ := H
  exact ⟨a1, ⟨b1, b2, b3, b4, rfl, b6⟩, c1, d1, e1, f1, g1, kR_par_congr (kt_up_big (by omega)) rfl rfl rfl rfl p⟩
/-! where the power goes -/
def ks_off (σ : kt_S) : kt_S := kt_up (kt_up (kt_up (kt_up (kt_up (kt_up (kt_up (kt_up (kt_up (kt_up (kt_up σ 1 5 0) 1 6 0) 1 7 0) 1 8 0) 7 1 0) 7 2 0) 12 1 0) 12 2 0) 1 9 0) 1 10 0) 2 2 (-1)
theorem ks_off_eq (σ : kt_S) : kp_T_goOff σ = some (ks_off σ) := rfl
def kZ (n : Nat) (σ τ : kt_S) : Prop := (τ 1 = σ 3 ∧ τ 0 2 = σ 2 1 ∧ kv_cont (σ 3) n ∧ kv_off (σ 3) (2 * n) ∧ τ 0 0 = 0) ∧ (τ 2 = σ 8 ∧ ∀ i, i < 48 → ∃ b : Nat, b < 256 ∧ σ 8 i = nI b) ∧ (τ 0 15 = σ 1 11 ∧ τ 0 16 = σ 1 12 ∧ kR_bool (σ 1 12)) ∧ kR_cnt n σ τ ∧ kR_sig σ τ ∧ kR_par n σ τ
theorem kZ_off {n : Nat} {σ τ : kt_S} (H : kZ n σ τ) : kR n (ks_off σ) (km_off τ) := by
  obtain ⟨⟨a1, a2, a3, a4, _⟩, ⟨b1, b2⟩, ⟨c1, c2, c3⟩, f, g, p⟩ := H
  refine ⟨⟨a1, a2, rfl, Or.inl rfl, a3, fun z => absurd (show (0 : Int32) = 1 from z) (by decide), fun _ => a4⟩, ⟨rfl, Or.inl rfl, rfl, Or.inl rfl, rfl, rfl, fun _ => ⟨rfl, rfl, rfl, rfl, rfl, rfl, rfl⟩⟩, ⟨b1, rfl, ⟨0, by omega, rfl, rfl⟩, b2⟩, ⟨0, 0, by omega, by omega, rfl, rfl, rfl, fun j hj => absurd hj (by omega), fun j h1 h2 => absurd h2 (by omega)⟩, ⟨c1, c2, c3, 0, 0, by omega, by omega, rfl, rfl, rfl, fun j hj => absurd hj (by omega)⟩, f, g, kR_par_congr (fun q hq => ?_) rfl rfl rfl rfl p⟩
  unfold ks_off
  rw [kt_up_big (by omega) q hq, kt_up_big (by omega) q hq, kt_up_big (by omega) q hq, kt_up_big (by omega) q hq, kt_up_big (by omega) q hq, kt_up_big (by omega) q hq, kt_up_big (by omega) q hq, kt_up_big (by omega) q hq, kt_up_big (by omega) q hq, kt_up_big (by omega) q hq, kt_up_big (by omega) q hq]
/-- how a request may come out -/
def kOc (n : Nat) (sg : Prop) (K M : Option (Int32 × kt_S)) : Prop :=
  (∃ E σ0 τ0 σ' τ', K = some (0, σ') ∧ M = some (0, τ') ∧ kO n E σ0 τ0 σ' τ' ∧ E ≤ 80 ∧ τ' 0 0 = 0 ∧ (sg → ∃ k : Nat, 1 ≤ k ∧ k < 20000 ∧ σ' 4 1 = nI k))
  ∨ (∃ i σ' τ', K = some (0, σ') ∧ M = some (0, τ') ∧ kU n (2 * n) i σ' τ' ∧ ¬ sg)
  ∨ (∃ s i σ' τ', 1 ≤ s ∧ s ≤ 15 ∧ K = some (nI s, σ') ∧ M = some (nI s, τ') ∧ kU n (2 * n) i σ' τ')
  ∨ ∃ σ' τ', K = some (-1, σ') ∧ M = some (-1, km_off τ') ∧ kZ n σ' τ'
theorem kOc_st {n m B i s : Nat} {sg : Prop} {σ τ : kt_S} {K M : Option (Int32 × kt_S)} (h1 : 1 ≤ s) (h2 : s ≤ 15) (hm : m ≤ n) (hn : n < 10000) (hB : B ≤ 2 * n) (hK : K = some (nI s, σ)) (hM : M = some (nI s, τ)) (H : kU m B i σ τ) : kOc n sg K M := Or.inr (Or.inr (Or.inl ⟨s, i, σ, τ, h1, h2, hK, hM, kU_mono hm hB (by omega) H⟩))
theorem kOc_dn {n m B i : Nat} {σ τ : kt_S} {K M : Option (Int32 × kt_S)} (hm : m ≤ n) (hn : n < 10000) (hB : B ≤ 2 * n) (hK : K = some (0, σ)) (hM : M = some (0, τ)) (H : kU m B i σ τ) : kOc n False K M := Or.inr (Or.inl ⟨i, σ, τ, hK, hM, kU_mono hm hB (by omega) H, fun z => z⟩)
theorem kOc_an {n m B i E : Nat} {sg : Prop} {σ0 τ0 σ τ : kt_S} {K M : Option (Int32 × kt_S)} (hK : K = some (0, σ)) (hM : M = some (0, τ)) (hO : kO n E σ0 τ0 σ τ) (H : kU m B i σ0 τ0) (hs : sg → ∃ k : Nat, 1 ≤ k ∧ k < 20000 ∧ σ0 4 1 = nI k) (hE : E ≤ 80 := by omega) : kOc n sg K M := Or.inl ⟨E, σ0, τ0, σ, τ, hK, hM, hO, hE, (hO.2.2.2.2.2.2 0 (by omega)).trans H.1.2.2.2.2.2.2, fun z => by
  rw [hO.2.2.2.2.1 4 (by omega) (by omega)]
  exact hs z⟩
/-! a page by its name -/
theorem ks_pg_iff {f : Nat → Int32} {name : Int32} : ¬ ks_pg f name = -1 ↔ ∃ p, p < 7 ∧ ¬ f (6 * p) = -1 ∧ ks_nm (f (6 * p)) = name := by
  rcases ks_old_cases f name with ⟨q, h1, h2, h3, h4, h5⟩ | ⟨h1, h2, h3⟩
  · refine ⟨fun _ => ⟨q, h1, h4, h5⟩, fun _ z => ?_⟩
    rw [h2] at z
    exact kv_m1 (by omega) z
  · refine ⟨fun z => absurd h1 z, fun ⟨p, z1, z2, z3⟩ => ?_⟩
    rcases h3 p z1 with y | y
    · exact absurd y z2
    · exact absurd z3 y
theorem kv_names {g : Nat → Int32} {nm s to B m : Nat} {a b c d : Int32} {old : Option Nat} (hB : B + 1 < 1000000) (hn : nm < 7) (hs : s ≤ B) (hte : g (6 * to) = -1) (hto : to < 7) (hold : old = ks_old (ks_pg g (nI nm))) (hm : m < 7) (h : ¬ ks_pg g (nI m) = -1) : ¬ ks_pg (ka_take (ks_ops (nI (nm + 16 * (s + 1))) a b c d to old).length (ks_ops (nI (nm + 16 * (s + 1))) a b c d to old) g) (nI m) = -1 := by
  rw [ks_pg_iff] at h ⊢
  obtain ⟨p, p1, p2, p3⟩ := h
  have hpt : ¬ p = to := fun z => p2 (by rw [z]; exact hte)
  have hl1 : ¬ nI (nm + 16 * (s + 1)) = -1 := kv_m1 (by omega)
  have hl2 : ks_nm (nI (nm + 16 * (s + 1))) = nI nm := kv_nm hn (by omega)
  rcases ks_old_cases g (nI nm) with ⟨o, h1, h2, h3, h4, h5⟩ | ⟨h1, h2, h3⟩
  · rw [h3] at hold
    subst hold
    show ∃ p, p < 7 ∧ ¬ ks_er o (kv_six g to (nI (nm + 16 * (s + 1))) a b c d) (6 * p) = -1 ∧ ks_nm (ks_er o (kv_six g to (nI (nm + 16 * (s + 1))) a b c d) (6 * p)) = nI m
    have hto' : ¬ to = o := fun z => h4 (by rw [← z]; exact hte)
    by_cases z : m = nm
    · refine ⟨to, hto, ?_⟩
      rw [kv_er0, if_neg hto', kv_six_0, z]
      exact ⟨hl1, hl2⟩
    · have hpo : ¬ p = o := fun y => by
        rw [y, h5] at p3
        exact z ((kn_eq (by omega) (by omega)).mp p3).symm
      refine ⟨p, p1, ?_⟩
      rw [kv_er0, if_neg hpo, kv_six_ne0 hpt]
      exact ⟨p2, p3⟩
  · rw [h2] at hold
    subst hold
    show ∃ p, p < 7 ∧ ¬ kv_six g to (nI (nm + 16 * (s + 1))) a b c d (6 * p) = -1 ∧ ks_nm (kv_six g to (nI (nm + 16 * (s + 1))) a b c d (6 * p)) = nI m
    refine ⟨p, p1, ?_⟩
    rw [kv_six_ne0 hpt]
    exact ⟨p2, p3⟩
/-- a page, as class and reference find and read it -/
theorem kU_page {n B i : Nat} {σ τ : kt_S} (H : kU n B i σ τ) (name : Int32) : (∃ p, p < 7 ∧ kp_S_pageOf name σ = some (nI p, σ) ∧ kp_M_page name τ = some (nI p, τ) ∧ ks_pg (σ 3) name = nI p ∧ ¬ σ 3 (6 * p) = -1 ∧ ks_nm (σ 3 (6 * p)) = name ∧ ∀ k, k < 6 → kp_S_read (nI p) (nI k) σ = some (σ 3 (6 * p + k), σ) ∧ kp_M_data name (nI k) τ = some (σ 3 (6 * p + k), τ)) ∨ (kp_S_pageOf name σ = some (-1, σ) ∧ kp_M_page name τ = some (-1, τ) ∧ ks_pg (σ 3) name = -1) := by
  obtain ⟨⟨a1, a2, a3, a4, a5⟩, _⟩ := H
  have e1 : kp_M_page name τ = some (ks_pg (σ 3) name, τ) := by rw [km_page, a1, kv_page a4.1]
  rcases ks_old_cases (σ 3) name with ⟨q, h1, h2, h3, h4, h5⟩ | ⟨h1, h2, h3⟩
  · refine Or.inl ⟨q, h1, by rw [ks_pageOf', h2], by rw [e1, h2], h2, h4, h5, fun k hk => ⟨ks_read q k h1 hk σ, ?_⟩⟩
    have := km_data name k hk τ h1 (by rw [a1, kv_page a4.1, h2])
    rw [a1] at this
    exact this
  · exact Or.inr ⟨by rw [ks_pageOf', h1], by rw [e1, h1], h1⟩
theorem kn_pn {p : Nat} (hp : p < 7) : ¬ nI p < 0 := kn_nn (by omega)
theorem kn_p0 {p : Nat} (hp : p < 7) : (0 : Int32) ≤ nI p := kn_leR (a := 0) (by omega) (by omega)
theorem ki_m0 : ¬ (0 : Int32) ≤ -1 := by decide
theorem ki_o01 {s t : kt_S} (h : some ((0 : Int32), s) = some ((1 : Int32), t)) : False := by
  have h2 := congrArg (fun o => Option.map Prod.fst o) h
  exact absurd (show some (0 : Int32) = some (1 : Int32) from h2) (by decide)
theorem ki_o10 {s t : kt_S} (h : some ((1 : Int32), s) = some ((0 : Int32), t)) : False := ki_o01 h.symm
