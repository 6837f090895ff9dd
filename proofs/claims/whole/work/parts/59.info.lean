/-! INFO and RESET. -/
def ks_sum (F : Nat → Nat) : Nat := F 0 + F 1 + F 2 + F 3 + F 4 + F 5 + F 6
theorem ks_sum_swap (A : Nat → Nat → Nat) : ks_sum (fun p => ks_sum (fun m => A p m)) = ks_sum (fun m => ks_sum (fun p => A p m)) := by
  simp only [ks_sum]
  omega
theorem ks_sum_congr {F G : Nat → Nat} (h : ∀ p, p < 7 → F p = G p) : ks_sum F = ks_sum G := by
  unfold ks_sum
  rw [h 0 (by omega), h 1 (by omega), h 2 (by omega), h 3 (by omega), h 4 (by omega), h 5 (by omega), h 6 (by omega)]
theorem ks_cnt_sum (P : Nat → Bool) : ks_cnt P = ks_sum (fun p => if P p then 1 else 0) := rfl
theorem ks_cnt_one : ∀ x, x < 7 → ks_cnt (fun m => decide (m = x)) = 1 := by decide
theorem ks_cnt_none : ks_cnt (fun _ => false) = 0 := by decide
def kI_c (pr : Nat → Bool) : Nat → Nat
  | 0 => 0
  | k + 1 => kI_c pr k + if pr (k + 1) then 1 else 0
def kI_pr (g : Nat → Int32) (m : Nat) : Bool := !decide (ks_pg g (nI m) = -1)
/-- as many names as pages that are not erased -/
theorem kI_count {g : Nat → Int32} {B : Nat} (hon : kv_on g B) : ks_cnt (fun p => decide (g (6 * p) = -1)) + ((if kI_pr g 0 then 1 else 0) + kI_c (kI_pr g) 6) = 7 := by
  have hB := hon.1.1
  have rowE : ∀ p, p < 7 → ks_cnt (fun m => decide (¬ g (6 * p) = -1 ∧ ks_nm (g (6 * p)) = nI m)) = if g (6 * p) = -1 then 0 else 1 := fun p hp => by
    by_cases z : g (6 * p) = -1
    · rw [if_pos z, ← ks_cnt_none]
      exact ks_cnt_congr (fun m hm => decide_eq_false (fun y => y.1 z))
    · rw [if_neg z]
      rcases hon.1.2 p hp with y | ⟨x, s, x1, x2, x3, x4⟩
      · exact absurd (y 0 (by omega)) z
      · have hx : ks_nm (g (6 * p)) = nI x := by rw [x4]; exact kv_nm x1 (by omega)
        rw [← ks_cnt_one x x1]
        refine ks_cnt_congr (fun m hm => ?_)
        by_cases u : m = x
        · rw [decide_eq_true u, u]
          exact decide_eq_true ⟨z, hx⟩
        · rw [decide_eq_false u]
          refine decide_eq_false (fun y => u ?_)
          exact ((kn_eq (by omega) (by omega)).mp (hx.symm.trans y.2)).symm
  have colE : ∀ m, m < 7 → ks_cnt (fun p => decide (¬ g (6 * p) = -1 ∧ ks_nm (g (6 * p)) = nI m)) = if kI_pr g m then 1 else 0 := fun m hm => by
    rcases ks_old_cases g (nI m) with ⟨q, h1, h2, h3, h4, h5⟩ | ⟨h1, h2, h3⟩
    · have e : kI_pr g m = true := by
        unfold kI_pr
        rw [h2, decide_eq_false (kv_m1 (by omega))]
        rfl
      rw [e, if_pos rfl, ← ks_cnt_one q h1]
      refine ks_cnt_congr (fun p hp => ?_)
      by_cases u : p = q
      · rw [decide_eq_true u, u]
        exact decide_eq_true ⟨h4, h5⟩
      · rw [decide_eq_false u]
        exact decide_eq_false (fun y => (hon.2.2.1 p q hp h1 u y.1 h4).1 (y.2.trans h5.symm))
    · have e : kI_pr g m = false := by
        unfold kI_pr
        rw [h1, decide_eq_true rfl]
        rfl
      rw [e, if_neg (by decide), ← ks_cnt_none]
      refine ks_cnt_congr (fun p hp => decide_eq_false (fun y => ?_))
      rcases h3 p hp with z | z
      · exact y.1 z
      · exact z y.2
  have sw := ks_sum_swap (fun p m => if decide (¬ g (6 * p) = -1 ∧ ks_nm (g (6 * p)) = nI m) then 1 else 0)
  have l1 := ks_sum_congr (F := fun p => ks_sum (fun m => if decide (¬ g (6 * p) = -1 ∧ ks_nm (g (6 * p)) = nI m) then 1 else 0)) (G := fun p => if g (6 * p) = -1 then 0 else 1) rowE
  have l2 := ks_sum_congr (F := fun m => ks_sum (fun p => if decide (¬ g (6 * p) = -1 ∧ ks_nm (g (6 * p)) = nI m) then 1 else 0)) (G := fun m => if kI_pr g m then 1 else 0) colE
  have l3 : ks_sum (fun p => if g (6 * p) = -1 then 0 else 1) = ks_sum (fun m => if kI_pr g m then 1 else 0) := by
    rw [← l1, ← l2]
    exact sw
  have l4 : ks_cnt (fun p => decide (g (6 * p) = -1)) + ks_sum (fun p => if g (6 * p) = -1 then 0 else 1) = 7 := by
    rw [ks_cnt_sum]
    have b : ∀ p, (if decide (g (6 * p) = -1) = true then 1 else 0) + (if g (6 * p) = -1 then 0 else 1) = 1 := fun p => by
      by_cases z : g (6 * p) = -1
      · rw [if_pos z, if_pos (decide_eq_true z)]
      · rw [if_neg z, if_neg (by rw [decide_eq_false z]; decide)]
    have b0 := b 0
    have b1 := b 1
    have b2 := b 2
    have b3 := b 3
    have b4 := b 4
    have b5 := b 5
    have b6 := b 6
    unfold ks_sum
    dsimp only
    generalize (if decide (g (6 * 0) = -1) = true then 1 else 0) = c0 at b0 ⊢
    generalize (if decide (g (6 * 1) = -1) = true then 1 else 0) = c1 at b1 ⊢
    generalize (if decide (g (6 * 2) = -1) = true then 1 else 0) = c2 at b2 ⊢
    generalize (if decide (g (6 * 3) = -1) = true then 1 else 0) = c3 at b3 ⊢
    generalize (if decide (g (6 * 4) = -1) = true then 1 else 0) = c4 at b4 ⊢
    generalize (if decide (g (6 * 5) = -1) = true then 1 else 0) = c5 at b5 ⊢
    generalize (if decide (g (6 * 6) = -1) = true then 1 else 0) = c6 at b6 ⊢
    generalize (if g (6 * 0) = -1 then 0 else 1) = d0 at b0 ⊢
    generalize (if g (6 * 1) = -1 then 0 else 1) = d1 at b1 ⊢
    generalize (if g (6 * 2) = -1 then 0 else 1) = d2 at b2 ⊢
    generalize (if g (6 * 3) = -1 then 0 else 1) = d3 at b3 ⊢
    generalize (if g (6 * 4) = -1 then 0 else 1) = d4 at b4 ⊢
    generalize (if g (6 * 5) = -1 then 0 else 1) = d5 at b5 ⊢
    generalize (if g (6 * 6) = -1 then 0 else 1) = d6 at b6 ⊢
    omega
  rw [l3] at l4
  have l5 : ks_sum (fun m => if kI_pr g m then 1 else 0) = (if kI_pr g 0 then 1 else 0) + kI_c (kI_pr g) 6 := by
    show (if kI_pr g 0 then 1 else 0) + (if kI_pr g 1 then 1 else 0) + (if kI_pr g 2 then 1 else 0) + (if kI_pr g 3 then 1 else 0) + (if kI_pr g 4 then 1 else 0) + (if kI_pr g 5 then 1 else 0) + (if kI_pr g 6 then 1 else 0) = (if kI_pr g 0 then 1 else 0) + ((((((0 + if kI_pr g 1 then 1 else 0) + if kI_pr g 2 then 1 else 0) + if kI_pr g 3 then 1 else 0) + if kI_pr g 4 then 1 else 0) + if kI_pr g 5 then 1 else 0) + if kI_pr g 6 then 1 else 0)
    generalize (if kI_pr g 0 then 1 else 0) = c0
    generalize (if kI_pr g 1 then 1 else 0) = c1
    generalize (if kI_pr g 2 then 1 else 0) = c2
    generalize (if kI_pr g 3 then 1 else 0) = c3
    generalize (if kI_pr g 4 then 1 else 0) = c4
    generalize (if kI_pr g 5 then 1 else 0) = c5
    generalize (if kI_pr g 6 then 1 else 0) = c6
    omega
  rw [l5] at l4
  exact l4
theorem kE_infoM {n B i : Nat} {σ τ : kt_S} (H : kU n B i σ τ) : ∀ c j f, j + c = 6 → c < f → kp_M_info_4 f (nI (kI_c (kI_pr (σ 3)) j)) (nI (j + 1)) τ = kp_M_info_4 (f - c) (nI (kI_c (kI_pr (σ 3)) 6)) (nI 7) τ := by
  intro c
  induction c with
  | zero =>
    intro j f hj _
    rw [show j = 6 by omega]
    rfl
  | succ c ih =>
    intro j f hj hf
    obtain ⟨f, rfl⟩ := Nat.exists_eq_add_one_of_ne_zero (show ¬ f = 0 by omega)
    have e : kI_c (kI_pr (σ 3)) (j + 1) = kI_c (kI_pr (σ 3)) j + if kI_pr (σ 3) (j + 1) then 1 else 0 := rfl
    have hih := ih (j + 1) f (by omega) (by omega)
    rw [show f + 1 - (c + 1) = f - c by omega, ← hih, e]
    show kp_M_info_4b (kp_M_info_4 f) _ _ _ = _
    unfold kp_M_info_4b kp_M_info_25
    rw [if_neg (ks_lt7 (by omega)), kn_succ (j + 1)]
    rcases kU_page H (nI (j + 1)) with ⟨p, p1, p2, p3, p4, _⟩ | ⟨p2, p3, p4⟩
    · have ep : kI_pr (σ 3) (j + 1) = true := by
        unfold kI_pr
        rw [p4, decide_eq_false (kv_m1 (by omega))]
        rfl
      rw [p3, kt_bs, ep]
      dsimp only
      rw [if_neg (kn_pn p1), if_pos rfl, kn_succ]
    · have ep : kI_pr (σ 3) (j + 1) = false := by
        unfold kI_pr
        rw [p4, decide_eq_true rfl]
        rfl
      rw [p3, kt_bs, ep]
      dsimp only
      rw [if_pos ks_neg1, if_neg (show ¬ false = true by decide)]
      rfl
theorem kE_pgE {n B i E m : Nat} {σ τ σ' τ' : kt_S} (H : kU n B i σ τ) (hO : kO m E σ τ σ' τ') (name : Int32) : kp_M_page name τ' = some (ks_pg (σ 3) name, τ') ∧ kp_M_erasedPages τ' = some (nI (ks_cnt (fun p => decide (σ 3 (6 * p) = -1))), τ') := by
  have e1 : τ' 1 = σ 3 := (hO.2.2.2.2.2.1 1 (by omega) (by omega)).trans H.1.1
  constructor
  · rw [km_page, e1, kv_page H.1.2.2.2.1.1]
  · rw [km_erasedPages, e1, ks_cnt_congr (Q := fun p => decide (σ 3 (6 * p) = -1)) (fun p hp => kv_E H.1.2.2.2.1.1.1 (H.1.2.2.2.1.1.2 p hp))]
theorem kE_info {n i : Nat} {σ τ : kt_S} (H : kU n (2 * n) i σ τ) (hn : n + 1 < 10000) : kOc (n + 1) False (kp_T_tellInfo σ) (kp_M_info τ) := by
  have hcnt := kI_count H.1.2.2.2.1
  have H1 : kU (n + 1) (2 * n) i σ τ := kU_mono (Nat.le_succ n) (Nat.le_refl _) (by omega) H
  have eM : kp_M_info τ = kp_M_info_4 (93 + 1) (nI (kI_c (kI_pr (σ 3)) 6)) (nI 7) τ := by
    unfold kp_M_info kp_M_info_0
    exact kE_infoM H 6 0 100 (by omega) (by omega)
  have eS : ∀ f x, kp_M_info_4 (f + 1) x (nI 7) τ = Option.bind (kp_M_begin 3 τ) fun x1 => Option.bind (kp_M_pair 1 x x1) fun x2 => Option.bind (kp_M_out 2 x2) fun x3 => Option.bind (kp_M_page 0 x3) fun x4 => if x4.1 < 0 then kp_M_info_66 244 x4.2 else kp_M_info_66 245 x4.2 := fun f x => by
    show kp_M_info_4b (kp_M_info_4 f) _ _ _ = _
    unfold kp_M_info_4b
    rw [if_pos (show (7 : Int32) ≤ nI 7 by decide)]
  rw [eM, eS]
  unfold kp_T_tellInfo kp_T_tellInfo_0 kp_T_tellInfo_40 kp_T_tellInfo_70 kp_M_info_66
  have ek := ks_erasedPages σ
  obtain ⟨σ4, τ4, b1, b2, b3⟩ := kE_answer (m := 3) H1 (by omega) hn (by omega)
  obtain ⟨σ5, τ5, c1, c2, c3⟩ := kO_pair (k := 1) (m := kI_c (kI_pr (σ 3)) 6) b3 (by omega) (by omega) (by omega)
  obtain ⟨σ6, τ6, d1, d2, d3⟩ := kO_head0 (m := 0) (v := 2) c3 (by omega) (by omega) (by omega)
  have b1' : kp_T_beginAnswer 3 σ = some σ4 := b1
  have b2' : kp_M_begin 3 τ = some τ4 := b2
  have c1' : kp_B_addPair_12 1 (nI (kI_c (kI_pr (σ 3)) 6)) σ4 = some σ5 := c1
  have c2' : kp_M_pair 1 (nI (kI_c (kI_pr (σ 3)) 6)) τ4 = some τ5 := c2
  have d1' : kp_B_addHead_12 0 2 σ5 = some σ6 := d1
  have d2' : kp_M_out 2 τ5 = some τ6 := d2
  have hg := (kE_pgE H d3 0).1
  generalize hC : ks_cnt (fun p => decide (σ 3 (6 * p) = -1)) = C at hcnt ek
  rcases kU_page H 0 with ⟨p, p1, p2, p3, p4, _⟩ | ⟨p2, p3, p4⟩
  · have hh : kp_S_has 0 σ = some (1, σ) := by rw [ks_has, p4, if_neg (kn_pn p1)]
    have ep : kI_pr (σ 3) 0 = true := by
      unfold kI_pr
      rw [show ks_pg (σ 3) (nI 0) = nI p from p4, decide_eq_false (kv_m1 (by omega))]
      rfl
    rw [ep, if_pos rfl] at hcnt
    obtain ⟨σ7, τ7, f1, f2, f3⟩ := kO_head0 (m := 7) (v := 21) d3 (by omega) (by omega) (by omega)
    obtain ⟨σ8, τ8, g1, g2, g3⟩ := kO_pair (k := 3) (m := C) f3 (by omega) (by omega) (by omega)
    have f1' : kp_B_addHead_12 7 21 σ6 = some σ7 := f1
    have f2' : kp_M_out 245 τ6 = some τ7 := f2
    have g1' : kp_B_addPair_12 3 (nI C) σ7 = some σ8 := g1
    have g2' : kp_M_pair 3 (nI C) τ7 = some τ8 := g2
    have he := (kE_pgE H f3 0).2
    rw [hC] at he
    have e1 : (7 : Int32) - nI C = nI (7 - C) := kn_sub (b := 7) (by omega)
    have e2 : nI (7 - C) - 1 = nI (kI_c (kI_pr (σ 3)) 6) := by
      rw [show nI (7 - C) - 1 = nI (7 - C - 1) from kn_sub (a := 1) (by omega), show 7 - C - 1 = kI_c (kI_pr (σ 3)) 6 by omega]
    rw [hh, kt_bs]
    dsimp only
    rw [ek, kt_bs]
    dsimp only
    rw [b1', kt_bs, if_neg ki_10, e1, e2, c1', kt_bs, d1', kt_bs, if_neg ki_10, f1', kt_bs, g1', kt_bs, b2', kt_bs, c2', kt_bs, d2', kt_bs, hg, kt_bs]
    dsimp only
    rw [p4, if_neg (kn_pn p1), f2', kt_bs, he, kt_bs]
    dsimp only
    rw [g2', kt_bs]
    exact kOc_an rfl rfl g3 H (fun z => absurd z id)
  · have hh : kp_S_has 0 σ = some (0, σ) := by rw [ks_has, p4, if_pos ks_neg1]
    have ep : kI_pr (σ 3) 0 = false := by
      unfold kI_pr
      rw [show ks_pg (σ 3) (nI 0) = -1 from p4, decide_eq_true rfl]
      rfl
    rw [ep, if_neg (by decide)] at hcnt
    obtain ⟨σ7, τ7, f1, f2, f3⟩ := kO_head0 (m := 7) (v := 20) d3 (by omega) (by omega) (by omega)
    obtain ⟨σ8, τ8, g1, g2, g3⟩ := kO_pair (k := 3) (m := C) f3 (by omega) (by omega) (by omega)
    have f1' : kp_B_addHead_12 7 20 σ6 = some σ7 := f1
    have f2' : kp_M_out 244 τ6 = some τ7 := f2
    have g1' : kp_B_addPair_12 3 (nI C) σ7 = some σ8 := g1
    have g2' : kp_M_pair 3 (nI C) τ7 = some τ8 := g2
    have he := (kE_pgE H f3 0).2
    rw [hC] at he
    have e1 : (7 : Int32) - nI C = nI (7 - C) := kn_sub (b := 7) (by omega)
    have e2 : nI (7 - C) - 0 = nI (kI_c (kI_pr (σ 3)) 6) := by
      rw [Int32.sub_zero, show 7 - C = kI_c (kI_pr (σ 3)) 6 by omega]
    rw [hh, kt_bs]
    dsimp only
    rw [ek, kt_bs]
    dsimp only
    rw [b1', kt_bs, if_pos rfl, e1, e2, c1', kt_bs, d1', kt_bs, if_pos rfl, f1', kt_bs, g1', kt_bs, b2', kt_bs, c2', kt_bs, d2', kt_bs, hg, kt_bs]
    dsimp only
    rw [p4, if_pos ks_neg1, f2', kt_bs, he, kt_bs]
    dsimp only
    rw [g2', kt_bs]
    exact kOc_an rfl rfl g3 H (fun z => absurd z id)
theorem kE_reset {n i : Nat} {σ τ : kt_S} (H : kU n (2 * n) i σ τ) (hn : n + 1 < 10000) (hi : i < 900) (hnx : σ 1 9 = σ 1 10) : kOc (n + 1) False (kp_T_reset σ) (kp_M_reset τ) := by
  have hp6 : τ 0 6 = σ 1 6 := H.2.1.2.2.1
  unfold kp_T_reset kp_T_reset_0 kp_M_reset kp_M_reset_0
  rw [kE_press H, kt_bs, hp6]
  dsimp only
  by_cases z : σ 1 6 = 0
  · rw [if_pos z, if_pos z, kt_up_same z]
    exact kOc_st (s := 7) (by omega) (by omega) (Nat.le_succ n) hn (by omega) rfl rfl H
  rw [if_neg z, if_neg z]
  have H1 : kU n (2 * n) i (kt_up σ 1 6 0) (kt_up τ 0 6 0) := kU_press H
  have hnx1 : kt_up σ 1 6 0 1 9 = kt_up σ 1 6 0 1 10 := hnx
  generalize kt_up σ 1 6 0 = σ1 at H1 hnx1
  generalize kt_up τ 0 6 0 = τ1 at H1
  obtain ⟨⟨a1, a2, a3, a4, a5, a6, a0⟩, b1, c1, d1, ⟨n1, n2, n3, x, y, n4, n5, n6, n7, n8, n9⟩, f1, g1, p1⟩ := H1
  have hxy : x = y := (kn_eq (by omega) (by omega)).mp (n6.symm.trans (hnx1.trans n7))
  subst hxy
  have eσ : ks_set σ1 (σ1 3, σ1 2 2, σ1 2 1) = σ1 := ks_set_T σ1
  have eτ : km_set τ1 (σ1 3, τ1 0 3, σ1 2 1) = τ1 := by
    rw [← a1, ← a2]
    exact km_set_T τ1
  have hd := kR_drop (σ := σ1) (τ := τ1) (n := n) (Bn := 2 * n) 7 0 100 100 i (σ1 3) (τ1 0 3) (σ1 2 2) (σ1 2 1) (by omega) (by omega) (by omega) a4 a3 a5 (by omega) a6
  rw [eσ, eτ] at hd
  unfold kp_S_dropAll kp_S_dropAll_0
  rcases hd with ⟨g', m', c', w', q1, q2, q3, q4, q5, i', q6⟩ | ⟨g', m', c', w', q1, q2, q3, q4⟩
  · have q1' : kp_S_dropAll_2 100 0 σ1 = some (1, ks_set σ1 (g', c', w')) := q1
    have q2' : kp_M_reset_17 100 0 τ1 = some (0, kt_up (kt_up (km_set τ1 (g', m', w')) 0 8 0) 0 7 0) := q2
    rw [q1', kt_bs, q2']
    dsimp only
    rw [if_neg ki_10]
    have HU : kU n (2 * n) i' (ks_set σ1 (g', c', w')) (km_set τ1 (g', m', w')) := ⟨⟨rfl, rfl, q4, q3, q6, q5, a0⟩, b1, c1, d1, ⟨n1, n2, n3, x, x, n4, n5, n6, n7, n8, fun j hj => absurd hj (by omega)⟩, f1, g1, kR_par_congr (fun q hq => ks_set_ne σ1 _ (by omega) (by omega)) rfl rfl rfl rfl p1⟩
    exact kOc_dn (Nat.le_succ n) hn (by omega) rfl rfl (kU_wrong (kU_ticket HU))
  · have q1' : kp_S_dropAll_2 100 0 σ1 = some (0, ks_set σ1 (g', c', w')) := q1
    have q2' : kp_M_reset_17 100 0 τ1 = some (-1, km_off (km_set τ1 (g', m', w'))) := q2
    rw [q1', kt_bs, q2']
    dsimp only
    rw [if_pos rfl]
    refine Or.inr (Or.inr (Or.inr ⟨_, _, rfl, rfl, ⟨rfl, rfl, kv_cont_mono (Nat.le_succ n) q4, Or.inl (kv_on_mono (by omega) (by omega) q3), a0⟩, ⟨c1.1, c1.2.2.2⟩, ⟨n1, n2, n3⟩, kR_cnt_mono (Nat.le_succ n) f1, g1, kR_par_mono (Nat.le_succ n) (kR_par_congr (fun q hq => ks_set_ne σ1 _ (by omega) (by omega)) rfl rfl rfl rfl p1)⟩))
