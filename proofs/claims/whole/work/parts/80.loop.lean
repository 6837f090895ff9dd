/-! The law's walk: its loop. -/
theorem dk_law_39 : decode code 39 = .ok (.tableswitch 763 0 13 #[69, 82, 162, 206, 219, 262, 303, 328, 396, 504, 596, 664, 701, 738], 69) := by decide +kernel
theorem kl_head {L a : Nat} (hL : L ≤ 2560) (ha : a ≤ 10000) (h : ¬ Int32.ofNat L - 5 < nI a) : a + 5 ≤ L := by
  rcases Nat.lt_or_ge L (a + 5) with hlt | hge
  · exfalso
    apply h
    by_cases h5 : 5 ≤ L
    · show nI L - nI 5 < nI a
      rw [kn_sub h5, kn_lt (by omega) (by omega)]
      omega
    · rw [Int32.lt_iff_toInt_lt, kn_toInt (by omega)]
      have hz : (Int32.ofNat L - 5).toInt < 0 := by
        rcases (by omega : L = 0 ∨ L = 1 ∨ L = 2 ∨ L = 3 ∨ L = 4) with rfl | rfl | rfl | rfl | rfl <;> decide
      omega
  · exact hge
theorem kl_in_of {L a : Nat} (hL : L ≤ 2560) (h : a + 5 ≤ L) : kl_in (nI a) L := by
  refine ⟨kn_in (by omega) (by omega), ?_, ?_, ?_, ?_⟩
  · show vp_in (nI a + nI 1) L
    rw [kn_add]
    exact kn_in (by omega) (by omega)
  · show vp_in (nI a + nI 2) L
    rw [kn_add]
    exact kn_in (by omega) (by omega)
  · show vp_in (nI a + nI 3) L
    rw [kn_add]
    exact kn_in (by omega) (by omega)
  · show vp_in (nI a + nI 4) L
    rw [kn_add]
    exact kn_in (by omega) (by omega)
section KLP
variable {l : Launch} {p : Program} {e : Env} {s : State} {m : MethodId} {args : Array Value} {below : List Frame} {meth : Method} {c : Code} {Q : State → Prop} {D : va_G} {cA : Nat → ClassId} {cL : ClassId} {as as' : Nat → Nat} {o b L : Nat} {ys : Nat → Int32}
set_option maxHeartbeats 4000000 in
theorem kl_loop (hf : l.flags = pinnedFlags ++ [noTraceFlag]) (La : kl_La p s m args c D cA cL as as' o b L ys) (hL : L ≤ 2560) (hend : ∀ (H : Heap) (ls : Array Slot), W p l e room_1 s m args below meth c H [] 606257 7277333 Q (F0 m 808 ls [])) :
    ∀ (f k n : Nat) (σ τ : kt_S) (xs : Nat → Int64) (H : Heap) (locs : List Loc) (ls : Array Slot) (cells slots : Nat), L < 5 * (k + f) → 5 * k ≤ L + 5 → lv_has ls 8 [(4, .int (nI (5 * k))), (3, .ref o), (2, .ref (as' 0)), (1, .ref (as 0)), (0, .ref b)] → kl_Pt s D cA cL as as' o σ τ xs H locs → kR n σ τ → n ≤ k → cells ≤ 100 + k → slots ≤ 2000 + 6 * k → W p l e room_1 s m args below meth c H locs cells slots Q (F0 m 23 ls []) := by
  have hx := La.1
  have hb := La.2.1
  have hX := La.2.2.2.2.2.2.2.2.2.2.1
  have hbl := La.2.2.2.2.2.2.2.2.2.2.2
  intro f
  induction f with
  | zero =>
    intro k n σ τ xs H locs ls cells slots h1 h2 hl hPt hR hnk hc hs
    refine lv_iload hx hb dk_law_23 (lv_at hl 0 rfl) ?_
    refine lv_aload_n hx hb dk_law_25 rfl (lv_at hl 4 rfl) ?_
    refine va_slen hx hb hX hbl (A := kl_A0 s) (fun z => absurd hbl (Nat.not_lt.mpr z)) hPt.2.2.2 dk_law_26 ?_
    refine lv_iconst (v := 5) hx hb dk_law_27 (by decide) ?_
    refine lv_isub hx hb dk_law_28 ?_
    refine lv_icmp_gt hx hb dk_law_29 (tgt := 808) (by decide) (fun _ => ?_) (fun h => ?_)
    · refine W.widen (k := 606257) (n := 7277333) (by omega) (by omega) ?_
      exact va_forget hPt.2.2.2.2.2 (hend H ls)
    · have := kl_head hL (by omega) h
      omega
  | succ f ih =>
    intro k n σ τ xs H locs ls cells slots h1 h2 hl hPt hR hnk hc hs
    refine lv_iload hx hb dk_law_23 (lv_at hl 0 rfl) ?_
    refine lv_aload_n hx hb dk_law_25 rfl (lv_at hl 4 rfl) ?_
    refine va_slen hx hb hX hbl (A := kl_A0 s) (fun z => absurd hbl (Nat.not_lt.mpr z)) hPt.2.2.2 dk_law_26 ?_
    refine lv_iconst (v := 5) hx hb dk_law_27 (by decide) ?_
    refine lv_isub hx hb dk_law_28 ?_
    refine lv_icmp_gt hx hb dk_law_29 (tgt := 808) (by decide) (fun _ => ?_) (fun h => ?_)
    · refine W.widen (k := 606257) (n := 7277333) (by omega) (by omega) ?_
      exact va_forget hPt.2.2.2.2.2 (hend H ls)
    · have h5 := kl_head hL (by omega) h
      have hin := kl_in_of hL h5
      have hn : n + 1 < 10000 := by omega
      have hroom : cells + 1 ≤ 606257 ∧ slots + 6 ≤ 7277333 := ⟨by omega, by omega⟩
      have kk : kl_next l p e s m args below meth c D cA cL as as' o b n cells slots Q (nI (5 * k)) := by
        intro σ' τ' xs' H' locs' ls' hl' hPt' hR'
        refine lv_iinc (k := 0) (v := nI (5 * (k + 1))) hx hb dk_law_802 hl' rfl ?_ (by decide) rfl (fun ls2 hl2 => ?_)
        · show nI (5 * k) + nI 5 = _
          rw [kn_add]
          rfl
        · refine lv_goto hx hb dk_law_805 (tgt := 23) (by decide) ?_
          exact ih (k + 1) (n + 1) σ' τ' xs' H' locs' ls2 (cells + 1) (slots + 6) (by omega) (by omega) hl2 hPt' hR' (by omega) (by omega) (by omega)
      refine lv_aload_n hx hb dk_law_32 rfl (lv_at hl 4 rfl) ?_
      refine lv_iload hx hb dk_law_33 (lv_at hl 0 rfl) ?_
      refine kl_sc La hPt hin.1 dk_law_35 ?_
      refine lv_bipush (v := 15) hx hb dk_law_36 (by decide) ?_
      refine lv_iand hx hb dk_law_38 ?_
      generalize ys (nI (5 * k)).toNatClampNeg &&& 15 = w
      by_cases hw : w.toInt < 0 ∨ 13 < w.toInt
      · refine lv_tableOut hx hb dk_law_39 hw (tgt := 802) (by decide) ?_
        refine W.widen (k := cells + 1) (n := slots + 6) (by omega) (by omega) ?_
        exact kk σ τ xs H locs ls hl hPt (kR_mono (show n ≤ n + 1 by omega) hn hR)
      · rcases (by omega : w.toInt = 0 ∨ w.toInt = 1 ∨ w.toInt = 2 ∨ w.toInt = 3 ∨ w.toInt = 4 ∨ w.toInt = 5 ∨ w.toInt = 6 ∨ w.toInt = 7 ∨ w.toInt = 8 ∨ w.toInt = 9 ∨ w.toInt = 10 ∨ w.toInt = 11 ∨ w.toInt = 12 ∨ w.toInt = 13) with hj | hj | hj | hj | hj | hj | hj | hj | hj | hj | hj | hj | hj | hj
        · exact lv_tableIn hx hb dk_law_39 (fun z => hw (Or.inl z)) (fun z => hw (Or.inr z)) (off := 69) (tgt := 108) (by rw [hj]; rfl) (by decide) (kb_press hf La hl hPt hR hn hin hroom kk)
        · exact lv_tableIn hx hb dk_law_39 (fun z => hw (Or.inl z)) (fun z => hw (Or.inr z)) (off := 82) (tgt := 121) (by rw [hj]; rfl) (by decide) (kb_feed hf La hl hPt hR hn hin hroom kk)
        · exact lv_tableIn hx hb dk_law_39 (fun z => hw (Or.inl z)) (fun z => hw (Or.inr z)) (off := 162) (tgt := 201) (by rw [hj]; rfl) (by decide) (kb_send hf La hl hPt hR hn hin hroom kk)
        · exact lv_tableIn hx hb dk_law_39 (fun z => hw (Or.inl z)) (fun z => hw (Or.inr z)) (off := 206) (tgt := 245) (by rw [hj]; rfl) (by decide) (kb_waiting hf La hl hPt hR hn hin hroom kk)
        · exact lv_tableIn hx hb dk_law_39 (fun z => hw (Or.inl z)) (fun z => hw (Or.inr z)) (off := 219) (tgt := 258) (by rw [hj]; rfl) (by decide) (kb_take hf La hl hPt hR hn hin hroom kk)
        · exact lv_tableIn hx hb dk_law_39 (fun z => hw (Or.inl z)) (fun z => hw (Or.inr z)) (off := 262) (tgt := 301) (by rw [hj]; rfl) (by decide) (kb_power hf La hl hPt hR hn hin hroom kk)
        · exact lv_tableIn hx hb dk_law_39 (fun z => hw (Or.inl z)) (fun z => hw (Or.inr z)) (off := 303) (tgt := 342) (by rw [hj]; rfl) (by decide) (kb_cut hf La hl hPt hR hn hin hroom kk)
        · exact lv_tableIn hx hb dk_law_39 (fun z => hw (Or.inl z)) (fun z => hw (Or.inr z)) (off := 328) (tgt := 367) (by rw [hj]; rfl) (by decide) (kb_open hf La hl hPt hR hn hin hroom kk)
        · exact lv_tableIn hx hb dk_law_39 (fun z => hw (Or.inl z)) (fun z => hw (Or.inr z)) (off := 396) (tgt := 435) (by rw [hj]; rfl) (by decide) (kb_ceremony hf La hl hPt hR hn hin hroom kk)
        · exact lv_tableIn hx hb dk_law_39 (fun z => hw (Or.inl z)) (fun z => hw (Or.inr z)) (off := 504) (tgt := 543) (by rw [hj]; rfl) (by decide) (kb_offer hf La hl hPt hR hn hin hroom kk)
        · exact lv_tableIn hx hb dk_law_39 (fun z => hw (Or.inl z)) (fun z => hw (Or.inr z)) (off := 596) (tgt := 635) (by rw [hj]; rfl) (by decide) (kb_signature hf La hl hPt hR hn hin hroom kk)
        · exact lv_tableIn hx hb dk_law_39 (fun z => hw (Or.inl z)) (fun z => hw (Or.inr z)) (off := 664) (tgt := 703) (by rw [hj]; rfl) (by decide) (kb_party hf La hl hPt hR hn hin hroom kk)
        · exact lv_tableIn hx hb dk_law_39 (fun z => hw (Or.inl z)) (fun z => hw (Or.inr z)) (off := 701) (tgt := 740) (by rw [hj]; rfl) (by decide) (kb_cell hf La hl hPt hR hn hin hroom kk)
        · exact lv_tableIn hx hb dk_law_39 (fun z => hw (Or.inl z)) (fun z => hw (Or.inr z)) (off := 738) (tgt := 777) (by rw [hj]; rfl) (by decide) (kb_look hf La hl hPt hR hn hin hroom kk)
end KLP
