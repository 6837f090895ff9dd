/-! ceremony. -/
theorem kJ_first {n b : Nat} {σ τ : kt_S} (H : kJ n 0 σ τ) (hb : b < 256) : ∃ σ' τ', kp_B_add_7 (nI b) σ = some σ' ∧ kp_M_in (nI b) τ = some τ' ∧ kJ n 1 σ' τ' ∧ σ' 8 0 = nI b ∧ (∀ q, ¬ q = 0 → ¬ q = 2 → ¬ q = 3 → τ' q = τ q) := by
  have H' := H
  obtain ⟨_, _, ⟨c1, c2, c3, c4, c5, c6⟩, ⟨d1, d2⟩, _⟩ := H'
  have e1 := kf_add (σ := σ) (k := 0) (by omega) c4 (nI b)
  rw [kn_small hb] at e1
  refine ⟨_, _, e1, km_in_eq (by omega) c5 (nI b), kJ_of H (fun q h7 h8 => by rw [kt_up_ne _ _ _ h7, kt_up_ne _ _ _ h8]) (fun q h0 h2 _ => by rw [kt_up_ne _ _ _ h0, kt_up_ne _ _ _ h2]) (fun f h10 _ => ?_) d2 ?_ c2 (by omega) rfl rfl (fun i hi => ?_), rfl, fun q h0 h2 _ => by rw [kt_up_ne _ _ _ h0, kt_up_ne _ _ _ h2]⟩
  · show upd (τ 0) 10 (nI 1) f = τ 0 f
    unfold upd
    rw [if_neg h10]
  · show upd (τ 2) 0 (nI b) = upd (σ 8) 0 (nI b)
    rw [c1]
  · show ∃ b' : Nat, b' < 256 ∧ upd (σ 8) 0 (nI b) i = nI b'
    unfold upd
    by_cases z : i = 0
    · rw [if_pos z]
      exact ⟨b, hb, rfl⟩
    · rw [if_neg z]
      exact c6 i hi

theorem kW_make {n a o u p : Nat} {σ σ0 τ : kt_S} {l3 l4 : Int32} (H : kJ n 0 σ τ) (hc : kp_B_clear_7 σ0 = some σ) (hl3 : ¬ l3 = 0) (hp : p < 4) (ha : a < 2147483648) (ho : o < 4) (hu : u < 2147483648) (h18 : τ 18 p = nI u) : ∃ k σ' τ', kp_K_writeMake (nI a) (nI o) (nI u) l4 σ0 = some σ' ∧ kp_M_ceremony_84 (nI p) (nI o) l3 l4 (nI a) 1 τ = kp_M_ceremony_203 (nI p) τ' ∧ kJ n k σ' τ' ∧ 1 ≤ k ∧ σ' 8 0 = nI 1 := by
  by_cases ht : l4 ≤ 0
  · obtain ⟨σ1, τ1, a1, a2, a3, a4, a5⟩ := kJ_first (b := 1) H (by omega)
    obtain ⟨σ2, τ2, b1, b2, b3, b4⟩ := kJ_byte (b := 163) a3 (by omega) (by omega) (by omega)
    obtain ⟨k3, σ3, τ3, p31, p32, p33, p34, p35, p36⟩ := kJ_pair (key := 1) (m := a) b3 (by omega) (by omega) (by omega) (by omega)
    obtain ⟨σ4, τ4, p41, p42, p45, p46⟩ := kJ_byte (b := 2) p35 (by omega) (by omega) (by omega)
    obtain ⟨σ5, τ5, p51, p52, p55, p56⟩ := kJ_byte (b := 97) p45 (by omega) (by omega) (by omega)
    obtain ⟨σ6, τ6, p61, p62, p65, p66⟩ := kJ_byte (b := 97 + o) p55 (by omega) (by omega) (by omega)
    obtain ⟨k7, σ7, τ7, p71, p72, p73, p74, p75, p76⟩ := kJ_pair (key := 3) (m := u) p65 (by omega) (by omega) (by omega) (by omega)
    have a1' : kp_B_add_7 1 σ = some σ1 := a1
    have a2' : kp_M_in 1 τ = some τ1 := a2
    have b1' : kp_B_addHead_7 5 3 σ1 = some σ2 := (kh_head0 (m := 5) (v := 3) (by omega) σ1).trans b1
    have b2' : kp_M_in ((160 : Int32) + 3 + 0) τ1 = some τ2 := by
      rw [show (160 : Int32) + 3 + 0 = nI 163 by decide]
      exact b2
    have q31 : kp_B_addPair_7 1 (nI a) σ2 = some σ3 := p31
    have q32 : kp_M_inPair 1 (nI a) τ2 = some τ3 := p32
    have q41 : kp_B_addHead_7 0 2 σ3 = some σ4 := by
      have := kh_head0 (m := 0) (v := 2) (by omega) σ3
      rw [show 32 * 0 + 2 = 2 by omega] at this
      exact this.trans p41
    have q42 : kp_M_in 2 τ3 = some τ4 := p42
    have q51 : kp_B_addHead_7 3 1 σ4 = some σ5 := (kh_head0 (m := 3) (v := 1) (by omega) σ4).trans p51
    have q52 : kp_M_in 97 τ4 = some τ5 := p52
    have q61 : kp_B_add_7 ((97 : Int32) + nI o) σ5 = some σ6 := by
      rw [show (97 : Int32) + nI o = nI (97 + o) from kn_add 97 o]
      exact p61
    have q62 : kp_M_in ((97 : Int32) + nI o) τ5 = some τ6 := by
      rw [show (97 : Int32) + nI o = nI (97 + o) from kn_add 97 o]
      exact p62
    have q71 : kp_B_addPair_7 3 (nI u) σ6 = some σ7 := p71
    have e18 : τ6 18 p = nI u := by
      rw [p66.2.1 18 (by omega) (by omega) (by omega), p56.2.1 18 (by omega) (by omega) (by omega), p46.2.1 18 (by omega) (by omega) (by omega), p36.2.1 18 (by omega) (by omega) (by omega), b4.2.1 18 (by omega) (by omega) (by omega), a5 18 (by omega) (by omega) (by omega)]
      exact h18
    have q72 : kp_M_inPair 3 (τ6 18 p) τ6 = some τ7 := by
      rw [e18]
      exact p72
    refine ⟨k7, σ7, τ7, ?_, ?_, p75, p74, ?_⟩
    · unfold kp_K_writeMake kp_K_writeMake_0 kp_K_writeMake_21 kp_K_writeMake_55 kp_K_writeOrigin kp_K_writeOrigin_0
      rw [hc, kt_bs, a1', kt_bs, if_pos ht, b1', kt_bs, q31, kt_bs, q41, kt_bs, q51, kt_bs, q61, kt_bs, kt_bs, q71, kt_bs, if_pos ht]
    · unfold kp_M_ceremony_84 kp_M_ceremony_100 kp_M_ceremony_111 kp_M_ceremony_126 kp_M_ceremony_136 kp_M_ceremony_163 kp_M_ceremony_178
      rw [a2', kt_bs, if_neg hl3, if_pos ht, b2', kt_bs, if_neg hl3, q32, kt_bs, if_neg hl3, q42, kt_bs, q52, kt_bs, q62, kt_bs, if_neg hl3, if_neg hl3, if_neg (kn_in (by omega) (by omega)), kn_cl (by omega), q72, kt_bs, if_pos ht]
    · rw [p76.2.2, p66.2.2, p56.2.2, p46.2.2, p36.2.2, b4.2.2]
      exact a4
  · have h4 : ¬ l4 < 0 := fun z => by
      rw [Int32.le_iff_toInt_le] at ht
      rw [Int32.lt_iff_toInt_lt] at z
      omega
    obtain ⟨t, htt, rfl⟩ := kn_of h4
    obtain ⟨σ1, τ1, a1, a2, a3, a4, a5⟩ := kJ_first (b := 1) H (by omega)
    obtain ⟨σ2, τ2, b1, b2, b3, b4⟩ := kJ_byte (b := 164) a3 (by omega) (by omega) (by omega)
    obtain ⟨k3, σ3, τ3, p31, p32, p33, p34, p35, p36⟩ := kJ_pair (key := 1) (m := a) b3 (by omega) (by omega) (by omega) (by omega)
    obtain ⟨σ4, τ4, p41, p42, p45, p46⟩ := kJ_byte (b := 2) p35 (by omega) (by omega) (by omega)
    obtain ⟨σ5, τ5, p51, p52, p55, p56⟩ := kJ_byte (b := 97) p45 (by omega) (by omega) (by omega)
    obtain ⟨σ6, τ6, p61, p62, p65, p66⟩ := kJ_byte (b := 97 + o) p55 (by omega) (by omega) (by omega)
    obtain ⟨k7, σ7, τ7, p71, p72, p73, p74, p75, p76⟩ := kJ_pair (key := 3) (m := u) p65 (by omega) (by omega) (by omega) (by omega)
    obtain ⟨k8, σ8, τ8, p81, p82, p83, p84, p85, p86⟩ := kJ_pair (key := 8) (m := t) p75 (by omega) (by omega) (by omega) (by omega)
    have a1' : kp_B_add_7 1 σ = some σ1 := a1
    have a2' : kp_M_in 1 τ = some τ1 := a2
    have b1' : kp_B_addHead_7 5 4 σ1 = some σ2 := (kh_head0 (m := 5) (v := 4) (by omega) σ1).trans b1
    have b2' : kp_M_in ((160 : Int32) + 3 + 1) τ1 = some τ2 := by
      rw [show (160 : Int32) + 3 + 1 = nI 164 by decide]
      exact b2
    have q31 : kp_B_addPair_7 1 (nI a) σ2 = some σ3 := p31
    have q32 : kp_M_inPair 1 (nI a) τ2 = some τ3 := p32
    have q41 : kp_B_addHead_7 0 2 σ3 = some σ4 := by
      have := kh_head0 (m := 0) (v := 2) (by omega) σ3
      rw [show 32 * 0 + 2 = 2 by omega] at this
      exact this.trans p41
    have q42 : kp_M_in 2 τ3 = some τ4 := p42
    have q51 : kp_B_addHead_7 3 1 σ4 = some σ5 := (kh_head0 (m := 3) (v := 1) (by omega) σ4).trans p51
    have q52 : kp_M_in 97 τ4 = some τ5 := p52
    have q61 : kp_B_add_7 ((97 : Int32) + nI o) σ5 = some σ6 := by
      rw [show (97 : Int32) + nI o = nI (97 + o) from kn_add 97 o]
      exact p61
    have q62 : kp_M_in ((97 : Int32) + nI o) τ5 = some τ6 := by
      rw [show (97 : Int32) + nI o = nI (97 + o) from kn_add 97 o]
      exact p62
    have q71 : kp_B_addPair_7 3 (nI u) σ6 = some σ7 := p71
    have e18 : τ6 18 p = nI u := by
      rw [p66.2.1 18 (by omega) (by omega) (by omega), p56.2.1 18 (by omega) (by omega) (by omega), p46.2.1 18 (by omega) (by omega) (by omega), p36.2.1 18 (by omega) (by omega) (by omega), b4.2.1 18 (by omega) (by omega) (by omega), a5 18 (by omega) (by omega) (by omega)]
      exact h18
    have q72 : kp_M_inPair 3 (τ6 18 p) τ6 = some τ7 := by
      rw [e18]
      exact p72
    have q81 : kp_B_addPair_7 8 (nI t) σ7 = some σ8 := p81
    have q82 : kp_M_inPair 8 (nI t) τ7 = some τ8 := p82
    refine ⟨k8, σ8, τ8, ?_, ?_, p85, p84, ?_⟩
    · unfold kp_K_writeMake kp_K_writeMake_0 kp_K_writeMake_21 kp_K_writeMake_55 kp_K_writeOrigin kp_K_writeOrigin_0
      rw [hc, kt_bs, a1', kt_bs, if_neg ht, b1', kt_bs, q31, kt_bs, q41, kt_bs, q51, kt_bs, q61, kt_bs, kt_bs, q71, kt_bs, if_neg ht, q81, kt_bs]
    · unfold kp_M_ceremony_84 kp_M_ceremony_100 kp_M_ceremony_111 kp_M_ceremony_126 kp_M_ceremony_136 kp_M_ceremony_163 kp_M_ceremony_178 kp_M_ceremony_198
      rw [a2', kt_bs, if_neg hl3, if_neg ht, b2', kt_bs, if_neg hl3, q32, kt_bs, if_neg hl3, q42, kt_bs, q52, kt_bs, q62, kt_bs, if_neg hl3, if_neg hl3, if_neg (kn_in (by omega) (by omega)), kn_cl (by omega), q72, kt_bs, if_neg ht, if_neg hl3, q82, kt_bs]
    · rw [p86.2.2, p76.2.2, p66.2.2, p56.2.2, p46.2.2, p36.2.2, b4.2.2]
      exact a4
theorem kW_ask {n a o p : Nat} {σ σ0 τ : kt_S} {l3 l4 : Int32} (H : kJ n 0 σ τ) (hc : kp_B_clear_7 σ0 = some σ) (hl3 : l3 = 0) (ha : a < 2147483648) (ho : o < 4) : ∃ k σ' τ', kp_K_writeAssert (nI a) (nI o) l4 σ0 = some σ' ∧ kp_M_ceremony_84 (nI p) (nI o) l3 l4 (nI a) 2 τ = kp_M_ceremony_203 (nI p) τ' ∧ kJ n k σ' τ' ∧ 1 ≤ k ∧ σ' 8 0 = nI 2 := by
  by_cases ht : l4 ≤ 0
  · obtain ⟨σ1, τ1, a1, a2, a3, a4, a5⟩ := kJ_first (b := 2) H (by omega)
    obtain ⟨σ2, τ2, b1, b2, b3, b4⟩ := kJ_byte (b := 162) a3 (by omega) (by omega) (by omega)
    obtain ⟨σ3, τ3, p31, p32, p35, p36⟩ := kJ_byte (b := 1) b3 (by omega) (by omega) (by omega)
    obtain ⟨σ4, τ4, p41, p42, p45, p46⟩ := kJ_byte (b := 97) p35 (by omega) (by omega) (by omega)
    obtain ⟨σ5, τ5, p51, p52, p55, p56⟩ := kJ_byte (b := 97 + o) p45 (by omega) (by omega) (by omega)
    obtain ⟨k6, σ6, τ6, p61, p62, p63, p64, p65, p66⟩ := kJ_pair (key := 2) (m := a) p55 (by omega) (by omega) (by omega) (by omega)
    have a1' : kp_B_add_7 2 σ = some σ1 := a1
    have a2' : kp_M_in 2 τ = some τ1 := a2
    have b1' : kp_B_addHead_7 5 2 σ1 = some σ2 := (kh_head0 (m := 5) (v := 2) (by omega) σ1).trans b1
    have b2' : kp_M_in ((160 : Int32) + 2 + 0) τ1 = some τ2 := by
      rw [show (160 : Int32) + 2 + 0 = nI 162 by decide]
      exact b2
    have q31 : kp_B_addHead_7 0 1 σ2 = some σ3 := by
      have := kh_head0 (m := 0) (v := 1) (by omega) σ2
      rw [show 32 * 0 + 1 = 1 by omega] at this
      exact this.trans p31
    have q32 : kp_M_in 1 τ2 = some τ3 := p32
    have q41 : kp_B_addHead_7 3 1 σ3 = some σ4 := (kh_head0 (m := 3) (v := 1) (by omega) σ3).trans p41
    have q42 : kp_M_in 97 τ3 = some τ4 := p42
    have q51 : kp_B_add_7 ((97 : Int32) + nI o) σ4 = some σ5 := by
      rw [show (97 : Int32) + nI o = nI (97 + o) from kn_add 97 o]
      exact p51
    have q52 : kp_M_in ((97 : Int32) + nI o) τ4 = some τ5 := by
      rw [show (97 : Int32) + nI o = nI (97 + o) from kn_add 97 o]
      exact p52
    have q61 : kp_B_addPair_7 2 (nI a) σ5 = some σ6 := p61
    have q62 : kp_M_inPair 2 (nI a) τ5 = some τ6 := p62
    refine ⟨k6, σ6, τ6, ?_, ?_, p65, p64, ?_⟩
    · unfold kp_K_writeAssert kp_K_writeAssert_0 kp_K_writeAssert_20 kp_K_writeAssert_46 kp_K_writeOrigin kp_K_writeOrigin_0
      rw [hc, kt_bs, a1', kt_bs, if_pos ht, b1', kt_bs, q31, kt_bs, q41, kt_bs, q51, kt_bs, kt_bs, q61, kt_bs, if_pos ht]
    · unfold kp_M_ceremony_84 kp_M_ceremony_100 kp_M_ceremony_111 kp_M_ceremony_126 kp_M_ceremony_136 kp_M_ceremony_163 kp_M_ceremony_178
      rw [a2', kt_bs, if_pos hl3, if_pos ht, b2', kt_bs, if_pos hl3, if_pos hl3, q32, kt_bs, q42, kt_bs, q52, kt_bs, if_pos hl3, if_pos hl3, q62, kt_bs, if_pos ht]
    · rw [p66.2.2, p56.2.2, p46.2.2, p36.2.2, b4.2.2]
      exact a4
  · have h4 : ¬ l4 < 0 := fun z => by
      rw [Int32.le_iff_toInt_le] at ht
      rw [Int32.lt_iff_toInt_lt] at z
      omega
    obtain ⟨t, htt, rfl⟩ := kn_of h4
    obtain ⟨σ1, τ1, a1, a2, a3, a4, a5⟩ := kJ_first (b := 2) H (by omega)
    obtain ⟨σ2, τ2, b1, b2, b3, b4⟩ := kJ_byte (b := 163) a3 (by omega) (by omega) (by omega)
    obtain ⟨σ3, τ3, p31, p32, p35, p36⟩ := kJ_byte (b := 1) b3 (by omega) (by omega) (by omega)
    obtain ⟨σ4, τ4, p41, p42, p45, p46⟩ := kJ_byte (b := 97) p35 (by omega) (by omega) (by omega)
    obtain ⟨σ5, τ5, p51, p52, p55, p56⟩ := kJ_byte (b := 97 + o) p45 (by omega) (by omega) (by omega)
    obtain ⟨k6, σ6, τ6, p61, p62, p63, p64, p65, p66⟩ := kJ_pair (key := 2) (m := a) p55 (by omega) (by omega) (by omega) (by omega)
    obtain ⟨k7, σ7, τ7, p71, p72, p73, p74, p75, p76⟩ := kJ_pair (key := 6) (m := t) p65 (by omega) (by omega) (by omega) (by omega)
    have a1' : kp_B_add_7 2 σ = some σ1 := a1
    have a2' : kp_M_in 2 τ = some τ1 := a2
    have b1' : kp_B_addHead_7 5 3 σ1 = some σ2 := (kh_head0 (m := 5) (v := 3) (by omega) σ1).trans b1
    have b2' : kp_M_in ((160 : Int32) + 2 + 1) τ1 = some τ2 := by
      rw [show (160 : Int32) + 2 + 1 = nI 163 by decide]
      exact b2
    have q31 : kp_B_addHead_7 0 1 σ2 = some σ3 := by
      have := kh_head0 (m := 0) (v := 1) (by omega) σ2
      rw [show 32 * 0 + 1 = 1 by omega] at this
      exact this.trans p31
    have q32 : kp_M_in 1 τ2 = some τ3 := p32
    have q41 : kp_B_addHead_7 3 1 σ3 = some σ4 := (kh_head0 (m := 3) (v := 1) (by omega) σ3).trans p41
    have q42 : kp_M_in 97 τ3 = some τ4 := p42
    have q51 : kp_B_add_7 ((97 : Int32) + nI o) σ4 = some σ5 := by
      rw [show (97 : Int32) + nI o = nI (97 + o) from kn_add 97 o]
      exact p51
    have q52 : kp_M_in ((97 : Int32) + nI o) τ4 = some τ5 := by
      rw [show (97 : Int32) + nI o = nI (97 + o) from kn_add 97 o]
      exact p52
    have q61 : kp_B_addPair_7 2 (nI a) σ5 = some σ6 := p61
    have q62 : kp_M_inPair 2 (nI a) τ5 = some τ6 := p62
    have q71 : kp_B_addPair_7 6 (nI t) σ6 = some σ7 := p71
    have q72 : kp_M_inPair 6 (nI t) τ6 = some τ7 := p72
    refine ⟨k7, σ7, τ7, ?_, ?_, p75, p74, ?_⟩
    · unfold kp_K_writeAssert kp_K_writeAssert_0 kp_K_writeAssert_20 kp_K_writeAssert_46 kp_K_writeOrigin kp_K_writeOrigin_0
      rw [hc, kt_bs, a1', kt_bs, if_neg ht, b1', kt_bs, q31, kt_bs, q41, kt_bs, q51, kt_bs, kt_bs, q61, kt_bs, if_neg ht, q71, kt_bs]
    · unfold kp_M_ceremony_84 kp_M_ceremony_100 kp_M_ceremony_111 kp_M_ceremony_126 kp_M_ceremony_136 kp_M_ceremony_163 kp_M_ceremony_178 kp_M_ceremony_198
      rw [a2', kt_bs, if_pos hl3, if_neg ht, b2', kt_bs, if_pos hl3, if_pos hl3, q32, kt_bs, q42, kt_bs, q52, kt_bs, if_pos hl3, if_pos hl3, q62, kt_bs, if_neg ht, if_pos hl3, q72, kt_bs]
    · rw [p76.2.2, p66.2.2, p56.2.2, p46.2.2, p36.2.2, b4.2.2]
      exact a4
theorem kR_emptyO {n : Nat} {σ τ : kt_S} (H : kR n σ τ) : kR n (kt_up (kt_up σ 12 1 0) 12 2 0) (kt_up τ 0 12 0) := by
  obtain ⟨a, ⟨b1, b2, b3, b4, b5, b6, b7⟩, c, d, e, f, g, i⟩ := H
  exact ⟨a, ⟨b1, b2, b3, b4, b5, b6, fun z => ⟨(b7 z).1, (b7 z).2.1, (b7 z).2.2.1, (b7 z).2.2.2.1, (b7 z).2.2.2.2.1, rfl, (b7 z).2.2.2.2.2.2⟩⟩, c, ⟨0, 0, by omega, by omega, rfl, rfl, rfl, fun j hj => absurd hj (by omega), fun j h1 h2 => absurd h2 (by omega)⟩, e, f, g, kR_par_congr (fun q hq => by rw [kt_up_big (by omega) q hq, kt_up_big (by omega) q hq]) rfl rfl rfl rfl i⟩
theorem kG_has1 {k : Nat} {σ : kt_S} (hk : 1 ≤ k) (hk2 : k < 10000) (hs : σ 4 1 = nI k) : kp_G_has (nI k) σ = some (1, σ) := by
  unfold kp_G_has kp_G_has_0 kp_G_has_27 kp_G_has_28
  have h4 : (nI k - 40).toInt = (k : Int) - 40 := pk_sub_toInt (a := k) (b := 40) (by omega) (by omega)
  rw [hs, if_neg (show ¬ nI k ≤ 0 from fun z => by have := (kn_le (b := 0) (by omega) (by omega)).mp z; omega), if_neg (show ¬ nI k < nI k from kn_geL (by omega) (Nat.le_refl _) (by omega)), if_neg (show ¬ nI k ≤ nI k - 40 from fun z => by
    rw [Int32.le_iff_toInt_le, h4, kn_toInt (by omega)] at z
    omega), if_pos ki_b1]
theorem kJ_start {n : Nat} {σ τ : kt_S} (H : kR n σ τ) (h5 : σ 1 5 = 1) : kJ n 0 (kt_up (kt_up σ 7 1 0) 7 2 0) (kt_up (kt_up (kt_up τ 0 0 0) 0 10 0) 0 12 0) := by
  obtain ⟨a, ⟨b1, b2, b3, b4, b5, b6, b7⟩, ⟨c1, c2, c3, c4⟩, d, e, f, g, i⟩ := H
  exact ⟨a, ⟨b1, h5, b3, b4, b5, b6⟩, ⟨c1, rfl, by omega, rfl, rfl, c4⟩, ⟨rfl, rfl⟩, e, f, g, kR_par_congr (fun q hq => by rw [kt_up_big (by omega) q hq, kt_up_big (by omega) q hq]) rfl rfl rfl rfl i⟩
theorem kP_of' (l : Int32) : (l < 0 ∨ 4 ≤ l) ∨ ∃ o : Nat, o < 4 ∧ l = nI o := by
  rcases kP_of l with h | h | h | h | h
  · exact Or.inl h
  · exact Or.inr ⟨0, by omega, h⟩
  · exact Or.inr ⟨1, by omega, h⟩
  · exact Or.inr ⟨2, by omega, h⟩
  · exact Or.inr ⟨3, by omega, h⟩
def kT_cer (e : Nat) : Int32 := if e = 3 then 1 else 2

theorem kC_117_0 {n k : Nat} {σ τ : kt_S} (H : kJ n k σ τ) (hn : n + 1 < 10000) (hk : 1 ≤ k) (h8 : σ 8 0 = 1 ∨ σ 8 0 = 2) : kR_may (n + 1) kT_cer (kp_K_ceremony_117_r16 σ) (kp_M_ceremony_203 (nI 0) τ) := by
  have c4 := H.2.2.1.2.2.2.1
  have hk48 := H.2.2.1.2.2.1
  obtain ⟨r, σ', τ', g1, g2, g3, g4, g5⟩ := kR_serve (kJ_R H) hn H.2.1.2.1 H.2.2.2.1.1
  have h7 : ¬ σ 7 2 = 0 := fun z => by
    rw [c4] at z
    have := (kn_eqL 0 (by omega) (by omega)).mp z
    omega
  have hcl : kp_B_clear_12 σ' = some (kt_up (kt_up σ' 12 1 0) 12 2 0) := rfl
  have hR : kR (n + 1) (kt_up (kt_up σ' 12 1 0) 12 2 0) (kt_up τ' 0 12 0) := kR_emptyO g4
  have h0 : kt_up τ' 0 12 0 0 0 = 0 := g3
  unfold kp_K_ceremony_117_r16 kp_M_ceremony_203 kp_M_ceremony_251
  rw [g1, kt_bs, g2, kt_bs]
  dsimp only
  rw [hcl, kt_bs]
  by_cases z1 : r = -1
  · rw [if_pos z1, if_pos z1]
    exact Or.inl ⟨99, _, _, rfl, rfl, h0, hR⟩
  · rw [if_neg z1, if_neg z1]
    by_cases z2 : r = 0
    · rw [if_pos z2, if_pos z2, km_bind_eta]
      obtain ⟨k3, k31, k33, k32⟩ := g5 z2 ⟨h8, h7⟩
      obtain ⟨_, _, ⟨k', f1, f2, f3⟩, _⟩ := hR.2.2.2.2.2.1
      have k32' : kt_up (kt_up σ' 12 1 0) 12 2 0 4 1 = nI k' := f2
      have f3' : τ' 0 19 = nI k' := f3
      have hkk : 1 ≤ k' := by
        have e := k32.symm.trans f2
        have := (kn_eq (by omega) (by omega)).mp e
        omega
      rw [k32', f3']
      exact kR_ret_may (kR_judge_0 hR h0 hn f1 f2 hkk (Nat.le_refl _) (by omega) (kG_has1 hkk (by omega) f2) 0 0)
    · rw [if_neg z2, if_neg z2]
      exact Or.inl ⟨_, _, _, rfl, rfl, h0, hR⟩

theorem kC_117_1 {n k : Nat} {σ τ : kt_S} (H : kJ n k σ τ) (hn : n + 1 < 10000) (hk : 1 ≤ k) (h8 : σ 8 0 = 1 ∨ σ 8 0 = 2) : kR_may (n + 1) kT_cer (kp_K_ceremony_117_r20 σ) (kp_M_ceremony_203 (nI 1) τ) := by
  have c4 := H.2.2.1.2.2.2.1
  have hk48 := H.2.2.1.2.2.1
  obtain ⟨r, σ', τ', g1, g2, g3, g4, g5⟩ := kR_serve (kJ_R H) hn H.2.1.2.1 H.2.2.2.1.1
  have h7 : ¬ σ 7 2 = 0 := fun z => by
    rw [c4] at z
    have := (kn_eqL 0 (by omega) (by omega)).mp z
    omega
  have hcl : kp_B_clear_12 σ' = some (kt_up (kt_up σ' 12 1 0) 12 2 0) := rfl
  have hR : kR (n + 1) (kt_up (kt_up σ' 12 1 0) 12 2 0) (kt_up τ' 0 12 0) := kR_emptyO g4
  have h0 : kt_up τ' 0 12 0 0 0 = 0 := g3
  unfold kp_K_ceremony_117_r20 kp_M_ceremony_203 kp_M_ceremony_251
  rw [g1, kt_bs, g2, kt_bs]
  dsimp only
  rw [hcl, kt_bs]
  by_cases z1 : r = -1
  · rw [if_pos z1, if_pos z1]
    exact Or.inl ⟨99, _, _, rfl, rfl, h0, hR⟩
  · rw [if_neg z1, if_neg z1]
    by_cases z2 : r = 0
    · rw [if_pos z2, if_pos z2, km_bind_eta]
      obtain ⟨k3, k31, k33, k32⟩ := g5 z2 ⟨h8, h7⟩
      obtain ⟨_, _, ⟨k', f1, f2, f3⟩, _⟩ := hR.2.2.2.2.2.1
      have k32' : kt_up (kt_up σ' 12 1 0) 12 2 0 4 1 = nI k' := f2
      have f3' : τ' 0 19 = nI k' := f3
      have hkk : 1 ≤ k' := by
        have e := k32.symm.trans f2
        have := (kn_eq (by omega) (by omega)).mp e
        omega
      rw [k32', f3']
      exact kR_ret_may (kR_judge_1 hR h0 hn f1 f2 hkk (Nat.le_refl _) (by omega) (kG_has1 hkk (by omega) f2) 0 0)
    · rw [if_neg z2, if_neg z2]
      exact Or.inl ⟨_, _, _, rfl, rfl, h0, hR⟩

theorem kC_117_2 {n k : Nat} {σ τ : kt_S} (H : kJ n k σ τ) (hn : n + 1 < 10000) (hk : 1 ≤ k) (h8 : σ 8 0 = 1 ∨ σ 8 0 = 2) : kR_may (n + 1) kT_cer (kp_K_ceremony_117_r24 σ) (kp_M_ceremony_203 (nI 2) τ) := by
  have c4 := H.2.2.1.2.2.2.1
  have hk48 := H.2.2.1.2.2.1
  obtain ⟨r, σ', τ', g1, g2, g3, g4, g5⟩ := kR_serve (kJ_R H) hn H.2.1.2.1 H.2.2.2.1.1
  have h7 : ¬ σ 7 2 = 0 := fun z => by
    rw [c4] at z
    have := (kn_eqL 0 (by omega) (by omega)).mp z
    omega
  have hcl : kp_B_clear_12 σ' = some (kt_up (kt_up σ' 12 1 0) 12 2 0) := rfl
  have hR : kR (n + 1) (kt_up (kt_up σ' 12 1 0) 12 2 0) (kt_up τ' 0 12 0) := kR_emptyO g4
  have h0 : kt_up τ' 0 12 0 0 0 = 0 := g3
  unfold kp_K_ceremony_117_r24 kp_M_ceremony_203 kp_M_ceremony_251
  rw [g1, kt_bs, g2, kt_bs]
  dsimp only
  rw [hcl, kt_bs]
  by_cases z1 : r = -1
  · rw [if_pos z1, if_pos z1]
    exact Or.inl ⟨99, _, _, rfl, rfl, h0, hR⟩
  · rw [if_neg z1, if_neg z1]
    by_cases z2 : r = 0
    · rw [if_pos z2, if_pos z2, km_bind_eta]
      obtain ⟨k3, k31, k33, k32⟩ := g5 z2 ⟨h8, h7⟩
      obtain ⟨_, _, ⟨k', f1, f2, f3⟩, _⟩ := hR.2.2.2.2.2.1
      have k32' : kt_up (kt_up σ' 12 1 0) 12 2 0 4 1 = nI k' := f2
      have f3' : τ' 0 19 = nI k' := f3
      have hkk : 1 ≤ k' := by
        have e := k32.symm.trans f2
        have := (kn_eq (by omega) (by omega)).mp e
        omega
      rw [k32', f3']
      exact kR_ret_may (kR_judge_2 hR h0 hn f1 f2 hkk (Nat.le_refl _) (by omega) (kG_has1 hkk (by omega) f2) 0 0)
    · rw [if_neg z2, if_neg z2]
      exact Or.inl ⟨_, _, _, rfl, rfl, h0, hR⟩

theorem kC_117_3 {n k : Nat} {σ τ : kt_S} (H : kJ n k σ τ) (hn : n + 1 < 10000) (hk : 1 ≤ k) (h8 : σ 8 0 = 1 ∨ σ 8 0 = 2) : kR_may (n + 1) kT_cer (kp_K_ceremony_117_r28 σ) (kp_M_ceremony_203 (nI 3) τ) := by
  have c4 := H.2.2.1.2.2.2.1
  have hk48 := H.2.2.1.2.2.1
  obtain ⟨r, σ', τ', g1, g2, g3, g4, g5⟩ := kR_serve (kJ_R H) hn H.2.1.2.1 H.2.2.2.1.1
  have h7 : ¬ σ 7 2 = 0 := fun z => by
    rw [c4] at z
    have := (kn_eqL 0 (by omega) (by omega)).mp z
    omega
  have hcl : kp_B_clear_12 σ' = some (kt_up (kt_up σ' 12 1 0) 12 2 0) := rfl
  have hR : kR (n + 1) (kt_up (kt_up σ' 12 1 0) 12 2 0) (kt_up τ' 0 12 0) := kR_emptyO g4
  have h0 : kt_up τ' 0 12 0 0 0 = 0 := g3
  unfold kp_K_ceremony_117_r28 kp_M_ceremony_203 kp_M_ceremony_251
  rw [g1, kt_bs, g2, kt_bs]
  dsimp only
  rw [hcl, kt_bs]
  by_cases z1 : r = -1
  · rw [if_pos z1, if_pos z1]
    exact Or.inl ⟨99, _, _, rfl, rfl, h0, hR⟩
  · rw [if_neg z1, if_neg z1]
    by_cases z2 : r = 0
    · rw [if_pos z2, if_pos z2, km_bind_eta]
      obtain ⟨k3, k31, k33, k32⟩ := g5 z2 ⟨h8, h7⟩
      obtain ⟨_, _, ⟨k', f1, f2, f3⟩, _⟩ := hR.2.2.2.2.2.1
      have k32' : kt_up (kt_up σ' 12 1 0) 12 2 0 4 1 = nI k' := f2
      have f3' : τ' 0 19 = nI k' := f3
      have hkk : 1 ≤ k' := by
        have e := k32.symm.trans f2
        have := (kn_eq (by omega) (by omega)).mp e
        omega
      rw [k32', f3']
      exact kR_ret_may (kR_judge_3 hR h0 hn f1 f2 hkk (Nat.le_refl _) (by omega) (kG_has1 hkk (by omega) f2) 0 0)
    · rw [if_neg z2, if_neg z2]
      exact Or.inl ⟨_, _, _, rfl, rfl, h0, hR⟩

theorem kR_ceremony {n : Nat} {σ τ : kt_S} (H : kR n σ τ) (hn : n + 1 < 10000) (l1 l2 l3 l4 : Int32) : kR_may (n + 1) kT_cer (kp_K_ceremony l1 l2 l3 l4 σ) (kp_M_ceremony l1 l2 l3 l4 τ) := by
  have T : ∀ v, kR (n + 1) σ (kt_up τ 0 0 v) := fun v => kR_mono (Nat.le_succ n) hn (kR_thr H)
  have m1 : ∀ l1, kp_M_ceremony_40 l1 l2 l3 l4 1 τ = some (0, kt_up τ 0 0 1) := fun l1 => if_neg (by decide)
  have m2 : ∀ l1, kp_M_ceremony_40 l1 l2 l3 l4 2 τ = some (0, kt_up τ 0 0 2) := fun l1 => if_neg (by decide)
  have b1 := H.2.1.1
  have hcl : kp_B_clear_7 σ = some (kt_up (kt_up σ 7 1 0) 7 2 0) := rfl
  unfold kp_K_ceremony kp_K_ceremony_0 kp_K_ceremony_20 kp_K_ceremony_48 kp_M_ceremony kp_M_ceremony_0 kp_M_ceremony_15 kp_M_ceremony_35
  simp only [ite_self]
  rcases kP_of l1 with h | rfl | rfl | rfl | rfl
  · rw [km_notP h, kt_bs]
    dsimp only
    rw [if_pos rfl, m1]
    refine Or.inr ⟨3, 0, σ, _, ?_, rfl, rfl, T 1⟩
    by_cases h1 : l1 < 0
    · rw [if_pos h1]
    · rw [if_neg h1, if_pos (h.resolve_left h1)]
  · rw [km_isP (by omega), kt_bs]
    dsimp only
    rw [if_neg ki_10, if_neg (show ¬ nI 0 < (0 : Int32) by decide), if_neg (show ¬ (4 : Int32) ≤ nI 0 by decide), if_pos (show nI 0 = (0 : Int32) from rfl)]
    rcases kP_of' l2 with h | ⟨o, ho, rfl⟩
    · rw [km_notP h, kt_bs]
      dsimp only
      rw [if_pos rfl, m1]
      refine Or.inr ⟨3, 0, σ, _, ?_, rfl, rfl, T 1⟩
      by_cases h1 : l2 < 0
      · rw [if_pos h1]
      · rw [if_neg h1, if_pos (h.resolve_left h1)]
    obtain ⟨i1, i2, ⟨c, i4, i5, i6⟩, ⟨u, i7, i8, i9⟩, _⟩ := H.2.2.2.2.2.2.2 0 (by omega)
    have i5' : σ 16 5 = nI c := i5
    have i6' : τ 17 0 = nI c := i6
    have i8' : σ 16 6 = nI u := i8
    have hb : ¬ (nI 0 < 0 ∨ 4 ≤ (nI 0).toNatClampNeg) := kn_in (by omega) (by omega)
    have hcn : (nI 0).toNatClampNeg = 0 := kn_cl (by omega)
    rw [km_isP ho, kt_bs]
    dsimp only
    rw [if_neg (show ¬ nI o < (0 : Int32) from kn_nn (by omega)), if_neg (show ¬ (4 : Int32) ≤ nI o from fun z => by have := (kn_le (a := 4) (by omega) (by omega)).mp z; omega), if_neg ki_10, m2]
    by_cases z5 : σ 1 5 = 0
    · rw [if_pos z5, if_pos (show τ 0 5 = 0 from b1.trans z5)]
      exact Or.inr ⟨0, 0, σ, _, rfl, rfl, rfl, T 2⟩
    have h5 : σ 1 5 = 1 := by
      rcases H.2.1.2.1 with y | y
      · exact absurd y z5
      · exact y
    rw [if_neg z5, if_neg (show ¬ τ 0 5 = 0 from fun y => z5 (b1.symm.trans y)), if_neg hb]
    simp only [hcn, i5', i6']
    by_cases zc : nI c = 0
    · rw [if_pos zc, if_pos zc]
      exact Or.inr ⟨0, 0, σ, _, rfl, rfl, rfl, T 2⟩
    rw [if_neg zc, if_neg zc]
    have HJ := kJ_start H h5
    have ea : (4 : Int32) * nI c + nI o = nI (4 * c + o) := by
      rw [show (4 : Int32) * nI c = nI (4 * c) from kn_mul 4 c, kn_add]
    unfold kp_M_ceremony_40
    rw [if_pos (show (0 : Int32) ≤ 0 by decide), if_neg hb]
    simp only [hcn, i6', ea]
    by_cases z3 : l3 = 0
    · rw [if_pos z3, if_pos z3]
      obtain ⟨k, σ', τ', w1, w2, w3, w4, w5⟩ := kW_ask (p := 0) (a := 4 * c + o) (o := o) (l4 := l4) HJ hcl z3 (by omega) ho
      rw [w1, kt_bs, w2]
      exact kC_117_0 w3 hn w4 (Or.inr w5)
    · rw [if_neg z3, if_neg z3, i8']
      obtain ⟨k, σ', τ', w1, w2, w3, w4, w5⟩ := kW_make (p := 0) (a := 4 * c + o) (o := o) (u := u) (l4 := l4) HJ hcl z3 (by omega) (by omega) ho (by omega) i9
      rw [w1, kt_bs, w2]
      exact kC_117_0 w3 hn w4 (Or.inl w5)
  · rw [km_isP (by omega), kt_bs]
    dsimp only
    rw [if_neg ki_10, if_neg (show ¬ nI 1 < (0 : Int32) by decide), if_neg (show ¬ (4 : Int32) ≤ nI 1 by decide), if_neg (show ¬ nI 1 = (0 : Int32) by decide), if_pos (show nI 1 = (1 : Int32) from rfl)]
    rcases kP_of' l2 with h | ⟨o, ho, rfl⟩
    · rw [km_notP h, kt_bs]
      dsimp only
      rw [if_pos rfl, m1]
      refine Or.inr ⟨3, 0, σ, _, ?_, rfl, rfl, T 1⟩
      by_cases h1 : l2 < 0
      · rw [if_pos h1]
      · rw [if_neg h1, if_pos (h.resolve_left h1)]
    obtain ⟨i1, i2, ⟨c, i4, i5, i6⟩, ⟨u, i7, i8, i9⟩, _⟩ := H.2.2.2.2.2.2.2 1 (by omega)
    have i5' : σ 20 5 = nI c := i5
    have i6' : τ 17 1 = nI c := i6
    have i8' : σ 20 6 = nI u := i8
    have hb : ¬ (nI 1 < 0 ∨ 4 ≤ (nI 1).toNatClampNeg) := kn_in (by omega) (by omega)
    have hcn : (nI 1).toNatClampNeg = 1 := kn_cl (by omega)
    rw [km_isP ho, kt_bs]
    dsimp only
    rw [if_neg (show ¬ nI o < (0 : Int32) from kn_nn (by omega)), if_neg (show ¬ (4 : Int32) ≤ nI o from fun z => by have := (kn_le (a := 4) (by omega) (by omega)).mp z; omega), if_neg ki_10, m2]
    by_cases z5 : σ 1 5 = 0
    · rw [if_pos z5, if_pos (show τ 0 5 = 0 from b1.trans z5)]
      exact Or.inr ⟨0, 0, σ, _, rfl, rfl, rfl, T 2⟩
    have h5 : σ 1 5 = 1 := by
      rcases H.2.1.2.1 with y | y
      · exact absurd y z5
      · exact y
    rw [if_neg z5, if_neg (show ¬ τ 0 5 = 0 from fun y => z5 (b1.symm.trans y)), if_neg hb]
    simp only [hcn, i5', i6']
    by_cases zc : nI c = 0
    · rw [if_pos zc, if_pos zc]
      exact Or.inr ⟨0, 0, σ, _, rfl, rfl, rfl, T 2⟩
    rw [if_neg zc, if_neg zc]
    have HJ := kJ_start H h5
    have ea : (4 : Int32) * nI c + nI o = nI (4 * c + o) := by
      rw [show (4 : Int32) * nI c = nI (4 * c) from kn_mul 4 c, kn_add]
    unfold kp_M_ceremony_40
    rw [if_pos (show (0 : Int32) ≤ 0 by decide), if_neg hb]
    simp only [hcn, i6', ea]
    by_cases z3 : l3 = 0
    · rw [if_pos z3, if_pos z3]
      obtain ⟨k, σ', τ', w1, w2, w3, w4, w5⟩ := kW_ask (p := 1) (a := 4 * c + o) (o := o) (l4 := l4) HJ hcl z3 (by omega) ho
      rw [w1, kt_bs, w2]
      exact kC_117_1 w3 hn w4 (Or.inr w5)
    · rw [if_neg z3, if_neg z3, i8']
      obtain ⟨k, σ', τ', w1, w2, w3, w4, w5⟩ := kW_make (p := 1) (a := 4 * c + o) (o := o) (u := u) (l4 := l4) HJ hcl z3 (by omega) (by omega) ho (by omega) i9
      rw [w1, kt_bs, w2]
      exact kC_117_1 w3 hn w4 (Or.inl w5)
  · rw [km_isP (by omega), kt_bs]
    dsimp only
    rw [if_neg ki_10, if_neg (show ¬ nI 2 < (0 : Int32) by decide), if_neg (show ¬ (4 : Int32) ≤ nI 2 by decide), if_neg (show ¬ nI 2 = (0 : Int32) by decide), if_neg (show ¬ nI 2 = (1 : Int32) by decide), if_pos (show nI 2 = (2 : Int32) from rfl)]
    rcases kP_of' l2 with h | ⟨o, ho, rfl⟩
    · rw [km_notP h, kt_bs]
      dsimp only
      rw [if_pos rfl, m1]
      refine Or.inr ⟨3, 0, σ, _, ?_, rfl, rfl, T 1⟩
      by_cases h1 : l2 < 0
      · rw [if_pos h1]
      · rw [if_neg h1, if_pos (h.resolve_left h1)]
    obtain ⟨i1, i2, ⟨c, i4, i5, i6⟩, ⟨u, i7, i8, i9⟩, _⟩ := H.2.2.2.2.2.2.2 2 (by omega)
    have i5' : σ 24 5 = nI c := i5
    have i6' : τ 17 2 = nI c := i6
    have i8' : σ 24 6 = nI u := i8
    have hb : ¬ (nI 2 < 0 ∨ 4 ≤ (nI 2).toNatClampNeg) := kn_in (by omega) (by omega)
    have hcn : (nI 2).toNatClampNeg = 2 := kn_cl (by omega)
    rw [km_isP ho, kt_bs]
    dsimp only
    rw [if_neg (show ¬ nI o < (0 : Int32) from kn_nn (by omega)), if_neg (show ¬ (4 : Int32) ≤ nI o from fun z => by have := (kn_le (a := 4) (by omega) (by omega)).mp z; omega), if_neg ki_10, m2]
    by_cases z5 : σ 1 5 = 0
    · rw [if_pos z5, if_pos (show τ 0 5 = 0 from b1.trans z5)]
      exact Or.inr ⟨0, 0, σ, _, rfl, rfl, rfl, T 2⟩
    have h5 : σ 1 5 = 1 := by
      rcases H.2.1.2.1 with y | y
      · exact absurd y z5
      · exact y
    rw [if_neg z5, if_neg (show ¬ τ 0 5 = 0 from fun y => z5 (b1.symm.trans y)), if_neg hb]
    simp only [hcn, i5', i6']
    by_cases zc : nI c = 0
    · rw [if_pos zc, if_pos zc]
      exact Or.inr ⟨0, 0, σ, _, rfl, rfl, rfl, T 2⟩
    rw [if_neg zc, if_neg zc]
    have HJ := kJ_start H h5
    have ea : (4 : Int32) * nI c + nI o = nI (4 * c + o) := by
      rw [show (4 : Int32) * nI c = nI (4 * c) from kn_mul 4 c, kn_add]
    unfold kp_M_ceremony_40
    rw [if_pos (show (0 : Int32) ≤ 0 by decide), if_neg hb]
    simp only [hcn, i6', ea]
    by_cases z3 : l3 = 0
    · rw [if_pos z3, if_pos z3]
      obtain ⟨k, σ', τ', w1, w2, w3, w4, w5⟩ := kW_ask (p := 2) (a := 4 * c + o) (o := o) (l4 := l4) HJ hcl z3 (by omega) ho
      rw [w1, kt_bs, w2]
      exact kC_117_2 w3 hn w4 (Or.inr w5)
    · rw [if_neg z3, if_neg z3, i8']
      obtain ⟨k, σ', τ', w1, w2, w3, w4, w5⟩ := kW_make (p := 2) (a := 4 * c + o) (o := o) (u := u) (l4 := l4) HJ hcl z3 (by omega) (by omega) ho (by omega) i9
      rw [w1, kt_bs, w2]
      exact kC_117_2 w3 hn w4 (Or.inl w5)
  · rw [km_isP (by omega), kt_bs]
    dsimp only
    rw [if_neg ki_10, if_neg (show ¬ nI 3 < (0 : Int32) by decide), if_neg (show ¬ (4 : Int32) ≤ nI 3 by decide), if_neg (show ¬ nI 3 = (0 : Int32) by decide), if_neg (show ¬ nI 3 = (1 : Int32) by decide), if_neg (show ¬ nI 3 = (2 : Int32) by decide)]
    rcases kP_of' l2 with h | ⟨o, ho, rfl⟩
    · rw [km_notP h, kt_bs]
      dsimp only
      rw [if_pos rfl, m1]
      refine Or.inr ⟨3, 0, σ, _, ?_, rfl, rfl, T 1⟩
      by_cases h1 : l2 < 0
      · rw [if_pos h1]
      · rw [if_neg h1, if_pos (h.resolve_left h1)]
    obtain ⟨i1, i2, ⟨c, i4, i5, i6⟩, ⟨u, i7, i8, i9⟩, _⟩ := H.2.2.2.2.2.2.2 3 (by omega)
    have i5' : σ 28 5 = nI c := i5
    have i6' : τ 17 3 = nI c := i6
    have i8' : σ 28 6 = nI u := i8
    have hb : ¬ (nI 3 < 0 ∨ 4 ≤ (nI 3).toNatClampNeg) := kn_in (by omega) (by omega)
    have hcn : (nI 3).toNatClampNeg = 3 := kn_cl (by omega)
    rw [km_isP ho, kt_bs]
    dsimp only
    rw [if_neg (show ¬ nI o < (0 : Int32) from kn_nn (by omega)), if_neg (show ¬ (4 : Int32) ≤ nI o from fun z => by have := (kn_le (a := 4) (by omega) (by omega)).mp z; omega), if_neg ki_10, m2]
    by_cases z5 : σ 1 5 = 0
    · rw [if_pos z5, if_pos (show τ 0 5 = 0 from b1.trans z5)]
      exact Or.inr ⟨0, 0, σ, _, rfl, rfl, rfl, T 2⟩
    have h5 : σ 1 5 = 1 := by
      rcases H.2.1.2.1 with y | y
      · exact absurd y z5
      · exact y
    rw [if_neg z5, if_neg (show ¬ τ 0 5 = 0 from fun y => z5 (b1.symm.trans y)), if_neg hb]
    simp only [hcn, i5', i6']
    by_cases zc : nI c = 0
    · rw [if_pos zc, if_pos zc]
      exact Or.inr ⟨0, 0, σ, _, rfl, rfl, rfl, T 2⟩
    rw [if_neg zc, if_neg zc]
    have HJ := kJ_start H h5
    have ea : (4 : Int32) * nI c + nI o = nI (4 * c + o) := by
      rw [show (4 : Int32) * nI c = nI (4 * c) from kn_mul 4 c, kn_add]
    unfold kp_M_ceremony_40
    rw [if_pos (show (0 : Int32) ≤ 0 by decide), if_neg hb]
    simp only [hcn, i6', ea]
    by_cases z3 : l3 = 0
    · rw [if_pos z3, if_pos z3]
      obtain ⟨k, σ', τ', w1, w2, w3, w4, w5⟩ := kW_ask (p := 3) (a := 4 * c + o) (o := o) (l4 := l4) HJ hcl z3 (by omega) ho
      rw [w1, kt_bs, w2]
      exact kC_117_3 w3 hn w4 (Or.inr w5)
    · rw [if_neg z3, if_neg z3, i8']
      obtain ⟨k, σ', τ', w1, w2, w3, w4, w5⟩ := kW_make (p := 3) (a := 4 * c + o) (o := o) (u := u) (l4 := l4) HJ hcl z3 (by omega) (by omega) ho (by omega) i9
      rw [w1, kt_bs, w2]
      exact kC_117_3 w3 hn w4 (Or.inl w5)
